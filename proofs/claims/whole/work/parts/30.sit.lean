/-! A sitting -/
theorem fo_congr {α : Type} {f g : Nat → α → α} : ∀ (n i : Nat) (a : α), (∀ c x, i ≤ c → c < i + n → f c x = g c x) → fo f n i a = fo g n i a := by
  intro n
  induction n with
  | zero => intro i a h; rfl
  | succ n ih =>
    intro i a h
    show fo f n (i + 1) (f i a) = fo g n (i + 1) (g i a)
    rw [h i a (Nat.le_refl _) (by omega)]
    exact ih (i + 1) _ (fun c x h1 h2 => h c x (by omega) (by omega))
/-- FOR less AGAINST, by weights w -/
def hMv (I : mm_I) (hb nc : Nat) (w : Nat → Int32) (b t : Int32) : Int32 := fo (fun c s => if iB t (nI c) then s + hOp I hb (hK I hb c) c b t * w c else s) nc 0 0
theorem hOp_congr {I J : mm_I} {hb : Nat} (h0 : J hb 1 = I hb 1) (h2 : J (hb + 2) = I (hb + 2)) (h3 : J (hb + 3) = I (hb + 3)) (h4 : J (hb + 4) = I (hb + 4)) (k c : Nat) (b t : Int32) : hOp J hb k c b t = hOp I hb k c b t := by
  unfold hOp hGl hRp hCh hNx hFor
  rw [h0, h2, h3, h4]
theorem hMg_eq {I J : mm_I} {hb nc : Nat} {w : Nat → Int32} (h0 : J hb 1 = I hb 1) (h1 : J (hb + 1) = I (hb + 1)) (h2 : J (hb + 2) = I (hb + 2)) (h3 : J (hb + 3) = I (hb + 3)) (h4 : J (hb + 4) = I (hb + 4)) (h5 : ∀ c, c < nc → J (hb + 5) c = w c) (b t : Int32) : hMg J hb nc b t = hMv I hb nc w b t := by
  unfold hMg hMv
  refine fo_congr nc 0 0 (fun c x _ hc => ?_)
  unfold hMs hK
  rw [h5 c (by omega), hOp_congr h0 h2 h3 h4, h1]
def hTt (I : mm_I) (hb nc np : Nat) : Int32 := fo (hTs (hRn I hb nc np)) np 0 0
def hLs (I : mm_I) (hb nc : Nat) (t : Int32) (b : Nat) (x : Int32) : Int32 := if 0 < hMv I hb nc (hWt I hb) (nI b) t then x ||| (1 <<< (nI b &&& 31)) else x
def hLw (I : mm_I) (hb nc np : Nat) : Int32 := fo (hLs I hb nc (hTt I hb nc np)) 8 0 0
def hCu (I : mm_I) (hb nc : Nat) (t : Int32) : Nat → Int32 := fun c => if c < nc ∧ iB t (nI c) = true then I (hb + 4) c &&& (I (hb + 4) c - 1) else I (hb + 4) c
/-- what a sitting does to a house -/
def hSg (I J : mm_I) (hb nc np : Nat) : Prop := (∀ k, (k < hb ∨ hb + 20 < k) → J k = I k) ∧ (∀ j, J hb j = if j = 15 then hLw I hb nc np else if j = 16 then I hb 16 + 1 else I hb j) ∧ J (hb + 8) = hRn I hb nc np ∧ J (hb + 4) = hCu I hb nc (hTt I hb nc np) ∧ (∀ k, k ≤ 20 → k ≠ 0 → k ≠ 4 → k ≠ 5 → k ≠ 8 → k ≠ 12 → k ≠ 16 → J (hb + k) = I (hb + k))
theorem lp_bills {X : Nat × (Nat → Int32)} {d : Nat} {I : mm_I} {I0 : mm_I} {hb nc : Nat} {t : Int32} {P : mm_I → Prop} (hh : hH hb) (ok : hOK I hb nc) (hM : ∀ (x b : Int32), hMg (mm_up I hb 15 x) hb nc b t = hMv I0 hb nc (hWt I0 hb) b t) (hN : ∀ x, mm_Ev mm_T0 X (d + 6) 37 53 [.ref hb, .int t, .int (nI 8)] [] (mm_up I hb 15 x) (mm_pv P) ∨ ¬ x = fo (hLs I0 hb nc t) 8 0 0)  : ∀ (n i : Nat) (x : Int32), i + n = 8 → fo (hLs I0 hb nc t) n i x = fo (hLs I0 hb nc t) 8 0 0 → mm_Ev mm_T0 X (d + 6) 37 20 [.ref hb, .int t, .int (nI i)] [] (mm_up I hb 15 x) (mm_pv P) := by
  have t0 := tH0 hh
  have hbl := hH_lt hh
  intro n
  induction n with
  | zero =>
    intro i x hi hQ
    have e : i = 8 := by omega
    subst e
    refine ev_ild2 k37_20 ?_
    refine ev_bipush k37_21 ?_
    rw [show (8 : Int32) = nI 8 from rfl]
    refine ev_jcmp_ge k37_23 (fun h23 => ?_) (fun h23 => absurd h23 (nI_nlt (Nat.le_refl _) (by omega)))
    exact (hN x).resolve_right (fun z => z hQ)
  | succ n ih =>
    intro i x hi hQ
    have hlt : i < 8 := by omega
    refine ev_ild2 k37_20 ?_
    refine ev_bipush k37_21 ?_
    rw [show (8 : Int32) = nI 8 from rfl]
    refine ev_jcmp_ge k37_23 (fun h23 => absurd (nI_lt hlt (by omega)) h23) (fun h23 => ?_)
    refine ev_ald0 k37_26 ?_
    refine ev_ild2 k37_27 ?_
    refine ev_ild1 k37_28 ?_
    refine ev_cV3i k37_29 cs_122 (by first | assumption | rfl) (by omega) (Nat.le_of_ble_eq_true rfl) rfl rfl rfl ?_
    refine sp_margin hh (nc := nc) (by simp [mm_up_at, ok.1]) ok.2.1 (fun c hc => by have z := ok.2.2.1 c hc; unfold hK at *; rw [mm_up_ne _ _ _ _ _ (by omega)]; exact z) ?_
    rw [hM]
    refine ev_jf_le k37_32 (fun h32 => ?_) (fun h32 => ?_)
    ·
      refine ev_inc2 k37_47 rfl ?_
      refine ev_goto k37_50 ?_
      rw [nI_1]
      first | (have e2 : ∀ y, mm_up (mm_up I hb 15 x) hb 15 y = mm_up I hb 15 y := (fun y => by { funext k j; by_cases k1 : k = hb <;> by_cases k2 : j = 15 <;> simp [mm_up_at, k1, k2] }); rw [e2]; refine ih (i + 1) _ (by omega) ?_; simp only [fo, hLs, h32, if_true] at hQ; exact hQ) | (refine ih (i + 1) _ (by omega) ?_; simp only [fo, hLs, h32, if_false] at hQ; exact hQ)
    ·
      refine ev_ald0 k37_35 ?_
      refine ev_dup k37_36 rfl ?_
      refine ev_gf (j := 15) k37_37 (by first | assumption | rfl) rfl rfl rfl rfl ?_
      have e1 : mm_up I hb 15 x hb 15 = x := by simp [mm_up_at]
      rw [e1]
      refine ev_iconst k37_40 ?_
      refine ev_ild2 k37_41 ?_
      refine ev_ishl k37_42 ?_
      refine ev_ior k37_43 ?_
      refine ev_pf (j := 15) k37_44 (by first | assumption | rfl) rfl rfl rfl ?_
      refine ev_inc2 k37_47 rfl ?_
      refine ev_goto k37_50 ?_
      rw [nI_1]
      first | (have e2 : ∀ y, mm_up (mm_up I hb 15 x) hb 15 y = mm_up I hb 15 y := (fun y => by { funext k j; by_cases k1 : k = hb <;> by_cases k2 : j = 15 <;> simp [mm_up_at, k1, k2] }); rw [e2]; refine ih (i + 1) _ (by omega) ?_; simp only [fo, hLs, h32, if_true] at hQ; exact hQ) | (refine ih (i + 1) _ (by omega) ?_; simp only [fo, hLs, h32, if_false] at hQ; exact hQ)
def cuI (I : mm_I) (hb i : Nat) (t : Int32) : mm_I := mm_rp I (hb + 4) (hCu I hb i t)
theorem cuI_s {I : mm_I} {hb i : Nat} {t : Int32} (h : iB t (nI i) = true) : mm_up (cuI I hb i t) (hb + 4) i (I (hb + 4) i &&& (I (hb + 4) i - 1)) = cuI I hb (i + 1) t := by
  funext k j
  by_cases h1 : k = hb + 4
  · subst h1
    by_cases h2 : j = i
    · subst h2
      simp [mm_up_at, cuI, mm_rp, hCu, h]
    · have h3 : (j < i + 1) = (j < i) := by apply propext; omega
      simp [mm_up_at, cuI, mm_rp, hCu, h2, h3]
  · simp [mm_up_at, cuI, mm_rp, h1]
theorem cuI_f {I : mm_I} {hb i : Nat} {t : Int32} (h : iB t (nI i) = false) : cuI I hb i t = cuI I hb (i + 1) t := by
  funext k j
  by_cases h1 : k = hb + 4
  · subst h1
    by_cases h2 : j = i
    · subst h2
      simp [cuI, mm_rp, hCu, h]
    · have h3 : (j < i + 1) = (j < i) := by apply propext; omega
      simp [cuI, mm_rp, hCu, h3]
  · simp [cuI, mm_rp, h1]
theorem lp_cush {X : Nat × (Nat → Int32)} {d : Nat} {I : mm_I} {hb nc : Nat} {t : Int32} {P : mm_I → Prop} (hh : hH hb) (hc1 : I hb 1 = nI nc) (hc6 : nc ≤ 6) (hQ : P (mm_up (cuI I hb nc t) hb 16 (I hb 16 + 1)))  : ∀ (n i : Nat) , i + n = nc → True → mm_Ev mm_T0 X (d + 6) 37 55 [.ref hb, .int t, .int (nI i)] [] (cuI I hb i t) (mm_pv P) := by
  have t0 := tH0 hh
  have t4 := tH4 hh
  have hbl := hH_lt hh
  intro n
  induction n with
  | zero =>
    intro i hi _
    have e : i = nc := by omega
    subst e
    refine ev_ild2 k37_55 ?_
    refine ev_ald0 k37_56 ?_
    refine ev_gf (j := 1) k37_57 (by first | assumption | rfl) rfl rfl rfl rfl ?_
    rw [show cuI I hb i t hb 1 = I hb 1 from by unfold cuI; rw [mm_rp_ne _ _ _ (by omega)], hc1]
    refine ev_jcmp_ge k37_60 (fun h60 => ?_) (fun h60 => absurd h60 (nI_nlt (Nat.le_refl _) (by omega)))
    refine ev_ald0 k37_94 ?_
    refine ev_dup k37_95 rfl ?_
    refine ev_gf (j := 16) k37_96 (by first | assumption | rfl) rfl rfl rfl rfl ?_
    rw [show cuI I hb i t hb 16 = I hb 16 from by unfold cuI; rw [mm_rp_ne _ _ _ (by omega)]]
    refine ev_iconst k37_99 ?_
    refine ev_iadd k37_100 ?_
    refine ev_pf (j := 16) k37_101 (by first | assumption | rfl) rfl rfl rfl ?_
    refine ev_rv k37_104 rfl ?_
    exact hQ
  | succ n ih =>
    intro i hi _
    have hlt : i < nc := by omega
    refine ev_ild2 k37_55 ?_
    refine ev_ald0 k37_56 ?_
    refine ev_gf (j := 1) k37_57 (by first | assumption | rfl) rfl rfl rfl rfl ?_
    rw [show cuI I hb i t hb 1 = I hb 1 from by unfold cuI; rw [mm_rp_ne _ _ _ (by omega)], hc1]
    refine ev_jcmp_ge k37_60 (fun h60 => absurd (nI_lt hlt (by omega)) h60) (fun h60 => ?_)
    refine ev_ild1 k37_63 ?_
    refine ev_ild2 k37_64 ?_
    refine ev_cS2i k37_65 cs_108 rfl rfl rfl ?_
    refine sp_isIn ?_
    refine ev_ifz_eq k37_68 (fun h68 => ?_) (fun h68 => ?_)
    ·
      refine ev_inc2 k37_88 rfl ?_
      refine ev_goto k37_91 ?_
      rw [nI_1]
      first | rw [cuI_s h68] | rw [cuI_f h68]
      exact ih (i + 1) (by omega) trivial
    ·
      refine ev_ald0 k37_71 ?_
      refine ev_getr k37_72 (by first | assumption | rfl) rfl rfl rfl ?_
      refine ev_ild2 k37_75 ?_
      refine ev_dup2 k37_76 rfl rfl ?_
      refine ev_ial (j := i) k37_77 (by first | assumption | rfl) (by omega) (nI_clamp (by omega)) (vp_in_nI (show i < 6 by omega) (by omega)) ?_
      refine ev_ald0 k37_78 ?_
      refine ev_getr k37_79 (by first | assumption | rfl) rfl rfl rfl ?_
      refine ev_ild2 k37_82 ?_
      refine ev_ial (j := i) k37_83 (by first | assumption | rfl) (by omega) (nI_clamp (by omega)) (vp_in_nI (show i < 6 by omega) (by omega)) ?_
      rw [show cuI I hb i t (hb + 4) i = I (hb + 4) i from by unfold cuI hCu; simp [mm_rp]]
      refine ev_iconst k37_84 ?_
      refine ev_isub k37_85 ?_
      refine ev_iand k37_86 ?_
      refine ev_ias (j := i) k37_87 (by first | assumption | rfl) (nI_clamp (by omega)) (vp_in_nI (show i < 6 by omega) (by omega)) ?_
      refine ev_inc2 k37_88 rfl ?_
      refine ev_goto k37_91 ?_
      rw [nI_1]
      first | rw [cuI_s h68] | rw [cuI_f h68]
      exact ih (i + 1) (by omega) trivial
/-- House.holdSitting -/
theorem sp_holdSitting {X : Nat × (Nat → Int32)} {d : Nat} {I : mm_I} {hb nc np : Nat} {P : mm_I → Prop} (hh : hH hb) (ok : hOK I hb nc) (hm : I hb 7 = nI np) (hp : np ≤ 6) (hQ : ∀ J, hSg I J hb nc np → P J) : mm_Ev mm_T0 X (d + 6) 37 0 (mm_ent 37 [.ref hb]) [] I (mm_pv P) := by
  show mm_Ev mm_T0 X (d + 6) 37 0 [.ref hb, .retAddr 0, .retAddr 0] [] I (mm_pv P)
  have t0 := tH0 hh
  have hbl := hH_lt hh
  refine ev_ald0 k37_0 ?_
  refine ev_cV1v k37_1 cs_120 (by first | assumption | rfl) (by omega) (Nat.le_of_ble_eq_true rfl) rfl rfl rfl ?_
  refine sp_runAll hh ok hm hp (fun g1 => ?_)
  have ok1 : hOK (hRI I hb (hRn I hb nc np) g1) hb nc := hOK_congr2 (fun k a b c d => hRI_ne b d) ok
  refine ev_ald0 k37_4 ?_
  refine ev_cV1v k37_5 cs_121 (by first | assumption | rfl) (by omega) (Nat.le_of_ble_eq_true rfl) rfl rfl rfl ?_
  refine sp_weighAll hh ok1 (fun g2 => ?_)
  generalize hI2 : hWI (hRI I hb (hRn I hb nc np) g1) hb nc g2 = I2
  have q1 : ∀ k, k ≠ hb + 5 → k ≠ hb + 8 → k ≠ hb + 12 → k ≠ hb + 16 → I2 k = I k := fun k a b c d => by rw [← hI2, hWI_ne a c, hRI_ne b d]
  have q2 : I2 (hb + 8) = hRn I hb nc np := by rw [← hI2, hWI_ne (by omega) (by omega)]; unfold hRI; rw [mm_rp_ne _ _ _ (by omega), mm_rp_at]
  have q3 : ∀ c, c < nc → I2 (hb + 5) c = hWt I hb c := fun c hc => by
    rw [← hI2]
    unfold hWI
    rw [mm_rp_ne _ _ _ (by omega), mm_rp_at]
    unfold hWa
    rw [if_pos hc]
    unfold hWt hK hGv hL0
    rw [hRI_ne (by omega) (by omega), hRI_ne (by omega) (by omega), hRI_ne (by omega) (by omega), hRI_ne (by omega) (by omega), hRI_ne (by omega) (by omega), hRI_ne (by omega) (by omega), hRI_ne (by omega) (by omega)]
  have ok2 : hOK I2 hb nc := hOK_congr2 q1 ok
  clear hI2
  refine ev_ald0 k37_8 ?_
  refine ev_cV1i k37_9 cs_115 (by first | assumption | rfl) (by omega) (Nat.le_of_ble_eq_true rfl) rfl rfl rfl ?_
  refine sp_taken hh (np := np) (by rw [q1 hb (by omega) (by omega) (by omega) (by omega)]; exact hm) hp ?_
  have q4 : hTk I2 hb np = hTt I hb nc np := by unfold hTk hTt; rw [q2]
  rw [q4]
  refine ev_ist1 k37_12 rfl ?_
  refine ev_ald0 k37_13 ?_
  refine ev_iconst k37_14 ?_
  refine ev_pf (j := 15) k37_15 (by first | assumption | rfl) rfl rfl rfl ?_
  refine ev_iconst k37_18 ?_
  refine ev_ist2 k37_19 rfl ?_
  refine lp_bills (I0 := I) (t := hTt I hb nc np) hh ok2 (fun x b => ?_) (fun x => ?_) 8 0 0 rfl rfl
  · refine hMg_eq (w := hWt I hb) ?_ ?_ ?_ ?_ ?_ (fun c hc => ?_) b _
    · rw [mm_up_at, if_neg (by omega), q1 hb (by omega) (by omega) (by omega) (by omega)]
    · rw [mm_up_ne _ _ _ _ _ (by omega), q1 _ (by omega) (by omega) (by omega) (by omega)]
    · rw [mm_up_ne _ _ _ _ _ (by omega), q1 _ (by omega) (by omega) (by omega) (by omega)]
    · rw [mm_up_ne _ _ _ _ _ (by omega), q1 _ (by omega) (by omega) (by omega) (by omega)]
    · rw [mm_up_ne _ _ _ _ _ (by omega), q1 _ (by omega) (by omega) (by omega) (by omega)]
    · rw [mm_up_ne _ _ _ _ _ (by omega)]; exact q3 c hc
  · by_cases hx : x = fo (hLs I hb nc (hTt I hb nc np)) 8 0 0
    · refine Or.inl ?_
      have e9 : cuI (mm_up I2 hb 15 x) hb 0 (hTt I hb nc np) = mm_up I2 hb 15 x := by
        funext k j
        by_cases h1 : k = hb + 4 <;> simp [cuI, mm_rp, hCu, h1]
      refine ev_iconst k37_53 ?_
      refine ev_ist2 k37_54 rfl ?_
      rw [← e9]
      refine lp_cush hh (nc := nc) (by simp [mm_up_at, q1 hb (by omega) (by omega) (by omega) (by omega), ok.1]) ok.2.1 ?_ nc 0 (by omega) trivial
      refine hQ _ ⟨fun k hk => ?_, fun j => ?_, ?_, ?_, fun k h0 h1 h4 h5 h8 h12 h16 => ?_⟩
      · simp only [mm_up, cuI, mm_rp]
        rw [if_neg (by omega), if_neg (by omega), if_neg (by omega), q1 k (by omega) (by omega) (by omega) (by omega)]
      · have z := q1 hb (by omega) (by omega) (by omega) (by omega)
        by_cases j1 : j = 15
        · subst j1; simp [mm_up_at, cuI, mm_rp, hLw, hx]
        · by_cases j2 : j = 16
          · subst j2; simp [mm_up_at, cuI, mm_rp, z]
          · simp [mm_up_at, cuI, mm_rp, j1, j2, z]
      · simp only [mm_up, cuI, mm_rp]
        rw [if_neg (by omega), if_neg (by omega), if_neg (by omega), q2]
      · have z : (mm_up I2 hb 15 x) (hb + 4) = I (hb + 4) := by rw [mm_up_ne _ _ _ _ _ (by omega), q1 _ (by omega) (by omega) (by omega) (by omega)]
        rw [mm_up_ne _ _ _ _ _ (by omega)]
        unfold cuI hCu
        rw [mm_rp_at, z]
      · simp only [mm_up, cuI, mm_rp]
        rw [if_neg (by omega), if_neg (by omega), if_neg (by omega), q1 _ (by omega) (by omega) (by omega) (by omega)]
    · exact Or.inr hx
