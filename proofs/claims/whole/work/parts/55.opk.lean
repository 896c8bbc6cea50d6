/-! turning -/
def cuF (f : Nat → Int32) (k : Nat) (t b : Int32) : Nat → Int32 := fun c => if c < k ∧ iB t (nI c) = true then f c ^^^ (1 <<< (b &&& 31)) else f c
theorem cuF_0 (f : Nat → Int32) (t b : Int32) : cuF f 0 t b = f := funext fun c => if_neg (by omega)
theorem cuF_t {f : Nat → Int32} {i : Nat} {t b : Int32} (h : iB t (nI i) = true) : upd (cuF f i t b) i (f i ^^^ (1 <<< (b &&& 31))) = cuF f (i + 1) t b := by
  funext c
  unfold upd cuF
  by_cases e : c = i
  · rw [if_pos e, if_pos ⟨by omega, by rw [e]; exact h⟩, e]
  · rw [if_neg e]
    try dsimp only
    by_cases q : c < i ∧ iB t (nI c) = true
    · rw [if_pos q, if_pos ⟨by omega, q.2⟩]
    · rw [if_neg q, if_neg (fun z => q ⟨by omega, z.2⟩)]
theorem cuF_f {f : Nat → Int32} {i : Nat} {t b : Int32} (h : iB t (nI i) = false) : cuF f (i + 1) t b = cuF f i t b := by
  funext c
  unfold cuF
  by_cases q : c < i ∧ iB t (nI c) = true
  · rw [if_pos q, if_pos ⟨by omega, q.2⟩]
  · rw [if_neg q, if_neg (fun z => q ⟨by
      have : ¬ c = i := fun e => by rw [e, h] at z; exact absurd z.2 (by decide)
      omega, z.2⟩)]
theorem xor2 (x y : Int32) : x ^^^ y ^^^ y = x := by rw [Int32.xor_assoc, Int32.xor_self, Int32.xor_zero]
theorem cuF_2 (f : Nat → Int32) (k : Nat) (t b : Int32) : cuF (cuF f k t b) k t b = f := by
  funext c
  unfold cuF
  by_cases q : c < k ∧ iB t (nI c) = true
  · rw [if_pos q, if_pos q, xor2]
  · rw [if_neg q, if_neg q]
def tcS (N : mm_I) (k : Nat) (t b : Int32) : mm_I := mm_rp N 4 (cuF (N 4) k t b)
def tnP (N : mm_I) (nc np : Nat) (t b : Int32) : Bool := decide (0 < hMv (tcS N nc t b) 0 nc (hWt (tcS N nc t b) 0) b (hTk N 0 np))
theorem tc_nz (I : mm_I) (hb k : Nat) (t b : Int32) : nz (cells (mm_rp I (hb + 4) (cuF (I (hb + 4)) k t b)) hb) = tcS (nz (cells I hb)) k t b := by
  funext q
  by_cases h : q = 4
  · subst h
    rw [nz_at (by decide) (by decide) (by decide) (by decide)]
    unfold tcS
    rw [mm_rp_at]
    show mm_rp I (hb + 4) _ (hb + 4) = _
    rw [mm_rp_at]
    rfl
  · unfold tcS
    rw [mm_rp_ne _ _ _ h]
    unfold nz
    by_cases z : q ≤ 20 ∧ q ≠ 5 ∧ q ≠ 12 ∧ q ≠ 16
    · rw [if_pos z, if_pos z]
      exact mm_rp_ne _ _ _ (by omega)
    · rw [if_neg z, if_neg z]
theorem tcS_z {N : mm_I} {nc : Nat} {b : Int32} (h : nc ≤ 6) : tcS N nc 0 b = N := by
  have z0 : ∀ p : Fin 6, iB 0 (nI p.val) = false := by decide +kernel
  have e : cuF (N 4) nc 0 b = N 4 := by
    funext c
    unfold cuF
    rw [if_neg (fun w => by rw [z0 ⟨c, by omega⟩] at w; exact absurd w.2 (by decide))]
  unfold tcS
  rw [e, mm_rp_self]
theorem lp_turn {X : Nat × (Nat → Int32)} {d : Nat} {J : mm_I} {nc : Nat} {t b : Int32} {P : mm_I → Prop} (c1 : J 32 1 = nI nc) (n6 : nc ≤ 6) (hQ : P (mm_rp J 36 (cuF (J 36) nc t b))) : ∀ (n i : Nat), i + n = nc → True → mm_Ev mm_T0 X (d + 20) 132 2 [.ref 0, .int t, .int b, .int (nI i)] [] (mm_rp J 36 (cuF (J 36) i t b)) (mm_pv P) := by
  have t0 := tCV
  intro n
  induction n with
  | zero =>
    intro i hi _ht
    have e : i = nc := by omega
    subst e
    refine ev_ild3 k132_2 ?_
    refine ev_ald0 k132_3 ?_
    refine ev_getr k132_4 (by first | assumption | rfl) rfl rfl rfl ?_
    refine ev_gfv (j := 1) k132_7 (by first | assumption | rfl) rfl rfl rfl rfl ((congrFun (mm_rp_ne _ _ _ (by decide)) 1).trans c1) ?_
    refine ev_jcmp_ge k132_10 (fun h10 => ?_) (fun h10 => absurd h10 (nI_nlt (Nat.le_refl _) (by omega)))
    refine ev_rv k132_42 rfl ?_
    exact hQ
  | succ n ih =>
    intro i hi _ht
    have hlt : i < nc := by omega
    refine ev_ild3 k132_2 ?_
    refine ev_ald0 k132_3 ?_
    refine ev_getr k132_4 (by first | assumption | rfl) rfl rfl rfl ?_
    refine ev_gfv (j := 1) k132_7 (by first | assumption | rfl) rfl rfl rfl rfl ((congrFun (mm_rp_ne _ _ _ (by decide)) 1).trans c1) ?_
    refine ev_jcmp_ge k132_10 (fun h10 => absurd (nI_lt hlt (by omega)) h10) (fun h10 => ?_)
    refine ev_ild1 k132_13 ?_
    refine ev_ild3 k132_14 ?_
    refine ev_cS2i k132_15 cs_202 rfl rfl rfl ?_
    refine sp_isIn ?_
    refine ev_ifz_eq k132_18 (fun h18 => ?_) (fun h18 => ?_)
    ·
      refine ev_inc3 k132_36 rfl ?_
      refine ev_goto k132_39 ?_
      rw [nI_1, ← cuF_f h18]
      exact ih (i + 1) (by omega) trivial
    ·
      refine ev_ald0 k132_21 ?_
      refine ev_getr k132_22 (by first | assumption | rfl) rfl rfl rfl ?_
      refine ev_getr k132_25 (by first | assumption | rfl) rfl rfl rfl ?_
      refine ev_ild3 k132_28 ?_
      refine ev_dup2 k132_29 rfl rfl ?_
      refine ev_ialv (j := i) k132_30 (by first | assumption | rfl) (by omega) (nI_clamp (by omega)) (vp_in_nI (show i < 6 by omega) (by omega)) (show _ = J 36 i from by rw [mm_rp_at]; exact if_neg (by omega)) ?_
      refine ev_iconst k132_31 ?_
      refine ev_ild2 k132_32 ?_
      refine ev_ishl k132_33 ?_
      refine ev_ixor k132_34 ?_
      refine ev_ias (j := i) k132_35 (by first | assumption | rfl) (nI_clamp (by omega)) (vp_in_nI (show i < 6 by omega) (by omega)) ?_
      refine ev_inc3 k132_36 rfl ?_
      refine ev_goto k132_39 ?_
      rw [nI_1, mm_rp_up, cuF_t h18]
      exact ih (i + 1) (by omega) trivial
/-- CV.turnCushions -/
theorem sp_turn {X : Nat × (Nat → Int32)} {d : Nat} {I : mm_I} {nc : Nat} {t b : Int32} {P : mm_I → Prop} (c1 : I 32 1 = nI nc) (n6 : nc ≤ 6) (hQ : P (mm_rp I 36 (cuF (I 36) nc t b))) : mm_Ev mm_T0 X (d + 20) 132 0 (mm_ent 132 [.ref 0, .int t, .int b]) [] I (mm_pv P) := by
  show mm_Ev mm_T0 X (d + 20) 132 0 [.ref 0, .int t, .int b, .retAddr 0] [] I (mm_pv P)
  refine ev_iconst k132_0 ?_
  refine ev_ist3 k132_1 rfl ?_
  have z := lp_turn (X := X) (d := d) c1 n6 hQ nc 0 (by omega) trivial
  rw [cuF_0, mm_rp_self] at z
  exact z
/-- CV.passesTurned -/
theorem sp_passes {X : Nat × (Nat → Int32)} {d : Nat} {I : mm_I} {nc np : Nat} {t b : Int32} {P : Int32 → mm_I → Prop} (wf : wfS (nz (cells I 32)) nc np) (hQ : ∀ K, nz (cells K 32) = nz (cells I 32) → (∀ k, (k < 32 ∨ 52 < k) → K k = I k) → P (bI (tnP (nz (cells I 32)) nc np t b)) K) : mm_Ev mm_T0 X (d + 30) 131 0 (mm_ent 131 [.ref 0, .int t, .int b]) [] I (mm_pi P) := by
  show mm_Ev mm_T0 X (d + 30) 131 0 [.ref 0, .int t, .int b, .retAddr 0] [] I (mm_pi P)
  have t0 := tCV
  have c1 : I 32 1 = nI nc := wf.2.2.1.1
  have n6 : nc ≤ 6 := wf.2.2.1.2.1
  have p1 : I 32 7 = nI np := wf.1
  have p6 : np ≤ 6 := wf.2.1
  have ok : hOK (mm_rp I 36 (cuF (I 36) nc t b)) 32 nc := wf.2.2.1
  refine ev_ald0 k131_0 ?_
  refine ev_ild1 k131_1 ?_
  refine ev_ild2 k131_2 ?_
  refine ev_cV3v k131_3 cs_222 (by first | assumption | rfl) (by omega) (Nat.le_of_ble_eq_true rfl) rfl rfl rfl ?_
  refine sp_turn c1 n6 ?_
  refine ev_ald0 k131_6 ?_
  refine ev_getr k131_7 (by first | assumption | rfl) rfl rfl rfl ?_
  refine ev_cV1v k131_10 cs_192 (by first | assumption | rfl) (by omega) (Nat.le_of_ble_eq_true rfl) rfl rfl rfl ?_
  refine sp_weighAll hh32 ok (fun g => ?_)
  have ok2 : ∀ c, c < nc → hWI (mm_rp I 36 (cuF (I 36) nc t b)) 32 nc g (32 + 1) c = nI (hK (hWI (mm_rp I 36 (cuF (I 36) nc t b)) 32 nc g) 32 c) ∧ hK (hWI (mm_rp I 36 (cuF (I 36) nc t b)) 32 nc g) 32 c < 7 := ok.2.2.1
  refine ev_ald0 k131_13 ?_
  refine ev_getr k131_14 (by first | assumption | rfl) rfl rfl rfl ?_
  refine ev_ild2 k131_17 ?_
  refine ev_ald0 k131_18 ?_
  refine ev_getr k131_19 (by first | assumption | rfl) rfl rfl rfl ?_
  refine ev_cV1i k131_22 cs_194 (by first | assumption | rfl) (by omega) (Nat.le_of_ble_eq_true rfl) rfl rfl rfl ?_
  refine sp_taken (I := hWI (mm_rp I 36 (cuF (I 36) nc t b)) 32 nc g) hh32 (np := np) p1 p6 ?_
  refine ev_cV3i k131_25 cs_195 (by first | assumption | rfl) (by omega) (Nat.le_of_ble_eq_true rfl) rfl rfl rfl ?_
  refine sp_margin (I := hWI (mm_rp I 36 (cuF (I 36) nc t b)) 32 nc g) hh32 (nc := nc) c1 n6 ok2 ?_
  rw [mgW, show hTk (hWI (mm_rp I 36 (cuF (I 36) nc t b)) 32 nc g) 32 np = hTk (nz (cells I 32)) 0 np from rfl]
  rw [show hMv (cells (mm_rp I 36 (cuF (I 36) nc t b)) 32) 0 nc (hWt (cells (mm_rp I 36 (cuF (I 36) nc t b)) 32) 0) b (hTk (nz (cells I 32)) 0 np) = hMv (nz (cells (mm_rp I 36 (cuF (I 36) nc t b)) 32)) 0 nc (hWt (nz (cells (mm_rp I 36 (cuF (I 36) nc t b)) 32)) 0) b (hTk (nz (cells I 32)) 0 np) from rfl, tc_nz I 32 nc t b]
  refine ev_jf_le k131_28 (fun h28 => ?_) (fun h28 => ?_)
  ·
    refine ev_iconst k131_35 ?_
    refine ev_ist3 k131_36 rfl ?_
    refine ev_ald0 k131_37 ?_
    refine ev_ild1 k131_38 ?_
    refine ev_ild2 k131_39 ?_
    refine ev_cV3v k131_40 cs_222 (by first | assumption | rfl) (by omega) (Nat.le_of_ble_eq_true rfl) rfl rfl rfl ?_
    refine sp_turn (nc := nc) c1 n6 ?_
    rw [show hWI (mm_rp I 36 (cuF (I 36) nc t b)) 32 nc g 36 = cuF (I 36) nc t b from by rw [hWI_ne (by decide) (by decide), mm_rp_at], cuF_2]
    refine ev_ild3 k131_43 ?_
    refine ev_rz k131_44 rfl (by first | exact bI01 _ | exact Or.inl rfl | exact Or.inr rfl | assumption) ?_
    have e : tnP (nz (cells I 32)) nc np t b = false := decide_eq_false h28
    rw [e] at hQ
    refine hQ _ (nz_eq (fun k hk h5 h12 h16 => ?_)) (fun k hk => ?_)
    · unfold cells
      by_cases z : k = 4
      · rw [z, mm_rp_at]
      · rw [mm_rp_ne _ _ _ (by omega), hWI_ne (by omega) (by omega), mm_rp_ne _ _ _ (by omega)]
    · rw [mm_rp_ne _ _ _ (by omega), hWI_ne (by omega) (by omega), mm_rp_ne _ _ _ (by omega)]
  ·
    refine ev_iconst k131_31 ?_
    refine ev_goto k131_32 ?_
    refine ev_ist3 k131_36 rfl ?_
    refine ev_ald0 k131_37 ?_
    refine ev_ild1 k131_38 ?_
    refine ev_ild2 k131_39 ?_
    refine ev_cV3v k131_40 cs_222 (by first | assumption | rfl) (by omega) (Nat.le_of_ble_eq_true rfl) rfl rfl rfl ?_
    refine sp_turn (nc := nc) c1 n6 ?_
    rw [show hWI (mm_rp I 36 (cuF (I 36) nc t b)) 32 nc g 36 = cuF (I 36) nc t b from by rw [hWI_ne (by decide) (by decide), mm_rp_at], cuF_2]
    refine ev_ild3 k131_43 ?_
    refine ev_rz k131_44 rfl (by first | exact bI01 _ | exact Or.inl rfl | exact Or.inr rfl | assumption) ?_
    have e : tnP (nz (cells I 32)) nc np t b = true := decide_eq_true h28
    rw [e] at hQ
    refine hQ _ (nz_eq (fun k hk h5 h12 h16 => ?_)) (fun k hk => ?_)
    · unfold cells
      by_cases z : k = 4
      · rw [z, mm_rp_at]
      · rw [mm_rp_ne _ _ _ (by omega), hWI_ne (by omega) (by omega), mm_rp_ne _ _ _ (by omega)]
    · rw [mm_rp_ne _ _ _ (by omega), hWI_ne (by omega) (by omega), mm_rp_ne _ _ _ (by omega)]
theorem bI_inj {x y : Bool} (h : bI x = bI y) : x = y := by cases x <;> cases y <;> first | rfl | exact absurd h (by decide)
def tnS (N : mm_I) (nc np : Nat) (b : Int32) (q : Bool) (s best : Nat) : Nat := if (best = 0 ∨ bc (nI s) < bc (nI best)) ∧ ¬ tnP N nc np (nI s) b = q then s else best
def tnR (best : Nat) : Option Nat := if best = 0 then none else some best
def tnM (best : Nat) : Int32 := if best = 0 then -1 else nI best
theorem tn_lt {N : mm_I} {nc np : Nat} {b : Int32} {q : Bool} : ∀ (n i best : Nat), i + n ≤ 64 → best < 64 → fo (tnS N nc np b q) n i best < 64
  | 0, _, _, _, h => h
  | n + 1, i, best, hi, h => tn_lt n (i + 1) _ (by omega) (by unfold tnS; split <;> omega)
theorem lp_turning {X : Nat × (Nat → Int32)} {d : Nat} {J0 N : mm_I} {nc np B : Nat} {b : Int32} {q : Bool} {P : Int32 → mm_I → Prop} (c1 : J0 11 1 = nI nc) (wf : wfS N nc np) (hB : (1 : Int32) <<< (nI nc &&& 31) = nI B) (hB64 : B ≤ 64) (hB1 : 1 ≤ B) (hQ : ∀ K, nz (cells K 32) = N → (∀ k, (k < 32 ∨ 52 < k) → K k = J0 k) → P (wnR (tnR (fo (tnS N nc np b q) (B - 1) 1 0))) (wnS (tnR (fo (tnS N nc np b q) (B - 1) 1 0)) K)) : ∀ (n i : Nat) (J : mm_I) (best : Nat) (v5 : Value), i + n = B → best < 64 → fo (tnS N nc np b q) n i best = fo (tnS N nc np b q) (B - 1) 1 0 → nz (cells J 32) = N → (∀ k, (k < 32 ∨ 52 < k) → J k = J0 k) → mm_Ev mm_T0 X (d + 40) 95 37 [.ref 0, .int b, .int (bI q), .int (nI best), .int (nI i), v5] [] J (mm_pi P) := by
  have t0 := tCV
  intro n
  induction n with
  | zero =>
    intro i J best v5 hi hbest he eJ fJ
    have e : i = B := by omega
    subst e
    refine ev_ild4 k95_37 ?_
    refine ev_iconst k95_39 ?_
    refine ev_ald0 k95_40 ?_
    refine ev_getr k95_41 (by first | assumption | rfl) rfl rfl rfl ?_
    refine ev_gfv (j := 1) k95_44 (by first | assumption | rfl) rfl rfl rfl rfl ((congrFun (fJ 11 (by omega)) 1).trans c1) ?_
    refine ev_ishl k95_47 ?_
    rw [hB]
    refine ev_jcmp_ge k95_48 (fun h48 => ?_) (fun h48 => absurd h48 (nI_nlt (Nat.le_refl _) (by omega)))
    refine ev_ild3 k95_99 ?_
    refine ev_if_ne k95_100 (fun h100 => ?_) (fun h100 => ?_)
    ·
      refine ev_ild3 k95_112 ?_
      refine ev_ri k95_113 rfl ?_
      have hb0 : nI best = 0 ↔ best = 0 := nI_eq (b := 0) (by omega) (by decide)
      have z := hQ J eJ fJ
      rw [← he] at z
      rw [show tnR (fo (tnS N nc np b q) 0 i best) = some best from if_neg (fun w => h100 (hb0.mpr w))] at z
      exact z
    ·
      refine ev_ald0 k95_103 ?_
      refine ev_ldc k95_104 ?_
      refine ev_cV2i k95_106 cs_174 (by first | assumption | rfl) (by omega) (Nat.le_of_ble_eq_true rfl) rfl rfl rfl ?_
      refine sp_error (k := 2) (by decide) (by decide) (by decide) ?_
      refine ev_goto k95_109 ?_
      refine ev_ri k95_113 rfl ?_
      have hb0 : nI best = 0 ↔ best = 0 := nI_eq (b := 0) (by omega) (by decide)
      have z := hQ J eJ fJ
      rw [← he] at z
      rw [show tnR (fo (tnS N nc np b q) 0 i best) = none from if_pos (hb0.mp h100)] at z
      exact z
  | succ n ih =>
    intro i J best v5 hi hbest he eJ fJ
    have hlt : i < B := by omega
    refine ev_ild4 k95_37 ?_
    refine ev_iconst k95_39 ?_
    refine ev_ald0 k95_40 ?_
    refine ev_getr k95_41 (by first | assumption | rfl) rfl rfl rfl ?_
    refine ev_gfv (j := 1) k95_44 (by first | assumption | rfl) rfl rfl rfl rfl ((congrFun (fJ 11 (by omega)) 1).trans c1) ?_
    refine ev_ishl k95_47 ?_
    rw [hB]
    refine ev_jcmp_ge k95_48 (fun h48 => absurd (nI_lt hlt (by omega)) h48) (fun h48 => ?_)
    refine ev_ild3 k95_51 ?_
    refine ev_if_eq k95_52 (fun h52 => ?_) (fun h52 => ?_)
    ·
      refine ev_iconst k95_67 ?_
      refine ev_goto k95_68 ?_
      refine ev_ist5 k95_72 rfl ?_
      refine ev_ild5 k95_74 ?_
      refine ev_if_eq k95_76 (fun h76 => absurd h76 (by decide)) (fun h76 => ?_)
      refine ev_ald0 k95_79 ?_
      refine ev_ild4 k95_80 ?_
      refine ev_ild1 k95_82 ?_
      refine ev_cV3i k95_83 cs_203 (by first | assumption | rfl) (by omega) (Nat.le_of_ble_eq_true rfl) rfl rfl rfl ?_
      refine sp_passes (nc := nc) (np := np) (by rw [eJ]; exact wf) (fun K eK fK => ?_)
      rw [eJ]
      refine ev_ild2 k95_86 ?_
      refine ev_icmp_eq k95_87 (fun h87 => ?_) (fun h87 => ?_)
      ·
        refine ev_inc4 k95_93 rfl ?_
        refine ev_goto k95_96 ?_
        rw [nI_1]
        have hb0 : nI best = 0 ↔ best = 0 := nI_eq (b := 0) (by omega) (by decide)
        have e : tnS N nc np b q i best = best := if_neg (fun z => z.2 (bI_inj h87))
        refine ih (i + 1) K best _ (by omega) (by omega) ?_ (eK.trans eJ) (fun k hk => (fK k hk).trans (fJ k hk))
        rw [← he]
        show _ = fo (tnS N nc np b q) n (i + 1) (tnS N nc np b q i best)
        rw [e]
      ·
        refine ev_ild4 k95_90 ?_
        refine ev_ist3 k95_92 rfl ?_
        refine ev_inc4 k95_93 rfl ?_
        refine ev_goto k95_96 ?_
        rw [nI_1]
        have hb0 : nI best = 0 ↔ best = 0 := nI_eq (b := 0) (by omega) (by decide)
        have e : tnS N nc np b q i best = i := if_pos ⟨Or.inl (hb0.mp h52), fun z => h87 (by rw [z])⟩
        refine ih (i + 1) K i _ (by omega) (by omega) ?_ (eK.trans eJ) (fun k hk => (fK k hk).trans (fJ k hk))
        rw [← he]
        show _ = fo (tnS N nc np b q) n (i + 1) (tnS N nc np b q i best)
        rw [e]
    ·
      refine ev_ild4 k95_55 ?_
      refine ev_cS1i k95_57 cs_198 rfl rfl rfl ?_
      refine sp_bitCount ?_
      refine ev_ild3 k95_60 ?_
      refine ev_cS1i k95_61 cs_198 rfl rfl rfl ?_
      refine sp_bitCount ?_
      refine ev_jcmp_ge k95_64 (fun h64 => ?_) (fun h64 => ?_)
      ·
        refine ev_iconst k95_71 ?_
        refine ev_ist5 k95_72 rfl ?_
        refine ev_ild5 k95_74 ?_
        refine ev_if_eq k95_76 (fun h76 => ?_) (fun h76 => absurd rfl h76)
        refine ev_inc4 k95_93 rfl ?_
        refine ev_goto k95_96 ?_
        rw [nI_1]
        have hb0 : nI best = 0 ↔ best = 0 := nI_eq (b := 0) (by omega) (by decide)
        have e : tnS N nc np b q i best = best := if_neg (fun z => z.1.elim (fun w => h52 (hb0.mpr w)) (fun w => h64 w))
        refine ih (i + 1) J best _ (by omega) (by omega) ?_ eJ fJ
        rw [← he]
        show _ = fo (tnS N nc np b q) n (i + 1) (tnS N nc np b q i best)
        rw [e]
      ·
        refine ev_iconst k95_67 ?_
        refine ev_goto k95_68 ?_
        refine ev_ist5 k95_72 rfl ?_
        refine ev_ild5 k95_74 ?_
        refine ev_if_eq k95_76 (fun h76 => absurd h76 (by decide)) (fun h76 => ?_)
        refine ev_ald0 k95_79 ?_
        refine ev_ild4 k95_80 ?_
        refine ev_ild1 k95_82 ?_
        refine ev_cV3i k95_83 cs_203 (by first | assumption | rfl) (by omega) (Nat.le_of_ble_eq_true rfl) rfl rfl rfl ?_
        refine sp_passes (nc := nc) (np := np) (by rw [eJ]; exact wf) (fun K eK fK => ?_)
        rw [eJ]
        refine ev_ild2 k95_86 ?_
        refine ev_icmp_eq k95_87 (fun h87 => ?_) (fun h87 => ?_)
        ·
          refine ev_inc4 k95_93 rfl ?_
          refine ev_goto k95_96 ?_
          rw [nI_1]
          have hb0 : nI best = 0 ↔ best = 0 := nI_eq (b := 0) (by omega) (by decide)
          have e : tnS N nc np b q i best = best := if_neg (fun z => z.2 (bI_inj h87))
          refine ih (i + 1) K best _ (by omega) (by omega) ?_ (eK.trans eJ) (fun k hk => (fK k hk).trans (fJ k hk))
          rw [← he]
          show _ = fo (tnS N nc np b q) n (i + 1) (tnS N nc np b q i best)
          rw [e]
        ·
          refine ev_ild4 k95_90 ?_
          refine ev_ist3 k95_92 rfl ?_
          refine ev_inc4 k95_93 rfl ?_
          refine ev_goto k95_96 ?_
          rw [nI_1]
          have hb0 : nI best = 0 ↔ best = 0 := nI_eq (b := 0) (by omega) (by decide)
          have e : tnS N nc np b q i best = i := if_pos ⟨Or.inr h64, fun z => h87 (by rw [z])⟩
          refine ih (i + 1) K i _ (by omega) (by omega) ?_ (eK.trans eJ) (fun k hk => (fK k hk).trans (fJ k hk))
          rw [← he]
          show _ = fo (tnS N nc np b q) n (i + 1) (tnS N nc np b q i best)
          rw [e]
theorem xb : ∀ (u : Fin 256) (b : Fin 8), nI u.val ^^^ (1 <<< (nI b.val &&& 31)) = nI (u.val ^^^ 2 ^ b.val) ∧ u.val ^^^ 2 ^ b.val < 256 := by decide +kernel
theorem x0 : ∀ (b : Fin 8), (0 : Int32) <<< (nI b.val &&& 31) = 0 := by decide +kernel
theorem HS_tc1 {N : mm_I} {R R' : Nat → Int32} {nc np i b0 : Nat} {t : Int32} (hi : i < nc) (hb : b0 < 8) (hbx : iB t (nI i) = true) (H : HS (tcS N i t (nI b0)) R nc np) (h4 : R' (7 + 4 * i + 3) = N 4 i ^^^ (1 <<< (nI b0 &&& 31))) (hr : ∀ j, j ≠ 7 + 4 * i + 3 → R' j = R j) : HS (tcS N (i + 1) t (nI b0)) R' nc np := by
  have e4 : tcS N i t (nI b0) 4 i = N 4 i := by
    unfold tcS
    rw [mm_rp_at]
    exact if_neg (by omega)
  obtain ⟨_, _, _, u, _, _, _, hu, _, _, _, eu⟩ := H.2.2.1.1 i hi
  rw [e4] at eu
  obtain ⟨x1, x2⟩ := xb ⟨u, hu⟩ ⟨b0, hb⟩
  dsimp only at x1 x2
  have z := HS_chair (w := 3) (x := u ^^^ 2 ^ b0) (by decide) hi x2 H
  refine HS_congr (fun k _ _ _ _ => ?_) (fun j _ => ?_) z
  · by_cases k4 : k = 4
    · subst k4
      rw [show mm_up (tcS N i t (nI b0)) (1 + 3) i (nI (u ^^^ 2 ^ b0)) 4 = upd (tcS N i t (nI b0) 4) i (nI (u ^^^ 2 ^ b0)) from mm_up_same _ _ _ _]
      unfold tcS
      rw [mm_rp_at, mm_rp_at, ← cuF_t hbx, eu, x1]
    · rw [mm_up_ne _ _ _ _ _ k4]
      unfold tcS
      rw [mm_rp_ne _ _ _ k4, mm_rp_ne _ _ _ k4]
  · simp only [upd]
    by_cases q : j = 7 + 4 * i + 3
    · rw [if_pos q, q, h4, eu, x1]
    · rw [if_neg q]; exact hr j q
theorem HS_tc0 {N : mm_I} {R R' : Nat → Int32} {nc np i : Nat} {t b : Int32} (hbx : iB t (nI i) = false) (H : HS (tcS N i t b) R nc np) (hr : ∀ j, R' j = R j) : HS (tcS N (i + 1) t b) R' nc np := by
  refine HS_congr (fun k _ _ _ _ => ?_) (fun j _ => hr j) H
  unfold tcS
  rw [cuF_f hbx]
theorem lm_tc {X : Nat × (Nat → Int32)} {d : Nat} {I N : mm_I} {nc np x b0 : Nat} {q m : Int32} {P : Int32 → mm_I → Prop} (hb8 : b0 < 8) (hQ : ∀ K, HS (tcS N nc (nI x) (nI b0)) (K 92) nc np → (∀ k, k ≠ 92 → k ≠ 98 → k ≠ 99 → K k = I k) → mm_Ev mm_T0 X (d + 20) 203 88 [.ref 91, .int (nI b0), .int q, .int m, .int (nI x), .int (nI nc)] [] K (mm_pi P)) : ∀ (n i : Nat) (J : mm_I), i + n = nc → HS (tcS N i (nI x) (nI b0)) (J 92) nc np → (∀ k, k ≠ 92 → k ≠ 98 → k ≠ 99 → J k = I k) → mm_Ev mm_T0 X (d + 20) 203 45 [.ref 91, .int (nI b0), .int q, .int m, .int (nI x), .int (nI i)] [] J (mm_pi P) := by
  have tm := tM
  have tr := tR
  intro n
  induction n with
  | zero =>
    intro i J hi H hf
    have e : i = nc := by omega
    subst e
    refine ev_ild5 k203_45 ?_
    refine ev_ald0 k203_47 ?_
    refine ev_getr k203_48 (by first | assumption | rfl) rfl rfl rfl ?_
    refine ev_iconst k203_51 ?_
    refine ev_ialv (j := 2) k203_52 (by first | assumption | rfl) (by omega) rfl (vp_dec rfl) H.1.1.1 ?_
    have n6 := H.1.1.2.1
    refine ev_jcmp_ge k203_53 (fun h53 => ?_) (fun h53 => absurd h53 (nI_nlt (Nat.le_refl _) (by omega)))
    exact hQ J H hf
  | succ n ih =>
    intro i J hi H hf
    have hlt : i < nc := by omega
    refine ev_ild5 k203_45 ?_
    refine ev_ald0 k203_47 ?_
    refine ev_getr k203_48 (by first | assumption | rfl) rfl rfl rfl ?_
    refine ev_iconst k203_51 ?_
    refine ev_ialv (j := 2) k203_52 (by first | assumption | rfl) (by omega) rfl (vp_dec rfl) H.1.1.1 ?_
    have n6 := H.1.1.2.1
    refine ev_jcmp_ge k203_53 (fun h53 => absurd (nI_lt hlt (by omega)) h53) (fun h53 => ?_)
    refine ev_ald0 k203_56 ?_
    refine ev_getr k203_57 (by first | assumption | rfl) rfl rfl rfl ?_
    refine ev_bipush k203_60 ?_
    refine ev_iconst k203_62 ?_
    refine ev_ild5 k203_63 ?_
    refine ev_imul k203_65 ?_
    refine ev_iadd k203_66 ?_
    refine ev_iconst k203_67 ?_
    refine ev_iadd k203_68 ?_
    rw [show (7 : Int32) + 4 * nI i + 3 = nI (7 + 4 * i + 3) from idx4 i 3]
    refine ev_dup2 k203_69 rfl rfl ?_
    refine ev_ialv (j := (7 + 4 * i + 3)) k203_70 (by first | assumption | rfl) (by omega) (nI_clamp (by omega)) (vp_in_nI (show 7 + 4 * i + 3 < 321 by omega) (by omega)) (show _ = N 4 i from ((H.1.2.1 i hlt).2.2.2.trans (show tcS N i (nI x) (nI b0) 4 i = N 4 i from by unfold tcS; rw [mm_rp_at]; exact if_neg (by omega)))) ?_
    refine ev_ild4 k203_71 ?_
    refine ev_ild5 k203_73 ?_
    refine ev_ishr k203_75 ?_
    refine ev_iconst k203_76 ?_
    refine ev_iand k203_77 ?_
    refine ev_ild1 k203_78 ?_
    refine ev_ishl k203_79 ?_
    refine ev_ixor k203_80 ?_
    by_cases hbx : iB (nI x) (nI i) = true
    ·
      rw [show (nI x >>> (nI i &&& 31)) &&& 1 = 1 from of_decide_eq_true hbx]
      refine ev_ias (j := (7 + 4 * i + 3)) k203_81 (by first | assumption | rfl) (nI_clamp (by omega)) (vp_in_nI (show 7 + 4 * i + 3 < 321 by omega) (by omega)) ?_
      refine ev_inc5 k203_82 rfl ?_
      refine ev_goto k203_85 ?_
      rw [nI_1]
      exact ih (i + 1) _ (by omega) (HS_tc1 hlt hb8 hbx H (by rw [mm_up_at, if_pos ⟨rfl, rfl⟩]) (fun j hj => by rw [mm_up_at, if_neg (fun w => hj w.2)])) (fun k a b c => (mm_up_ne _ _ _ _ _ a).trans (hf k a b c))
    ·
      rw [show (nI x >>> (nI i &&& 31)) &&& 1 = 0 from (and1 _).resolve_right (fun w => hbx (decide_eq_true w)), x0 ⟨b0, hb8⟩, Int32.xor_zero]
      refine ev_ias (j := (7 + 4 * i + 3)) k203_81 (by first | assumption | rfl) (nI_clamp (by omega)) (vp_in_nI (show 7 + 4 * i + 3 < 321 by omega) (by omega)) ?_
      refine ev_inc5 k203_82 rfl ?_
      refine ev_goto k203_85 ?_
      rw [nI_1]
      refine ih (i + 1) _ (by omega) (HS_tc0 (by simpa using hbx) H (fun j => ?_)) (fun k a b c => (mm_up_ne _ _ _ _ _ a).trans (hf k a b c))
      rw [mm_up_at]
      split
      · rename_i w; rw [w.2]; exact (show _ = N 4 i from ((H.1.2.1 i hlt).2.2.2.trans (show tcS N i (nI x) (nI b0) 4 i = N 4 i from by unfold tcS; rw [mm_rp_at]; exact if_neg (by omega)))).symm
      · rfl
theorem tnM_lt {best : Nat} (h : best < 64) (z : tnM best < 0) : best = 0 := by
  unfold tnM at z
  by_cases e : best = 0
  · exact e
  · rw [if_neg e] at z; exact absurd z (nI_pos (by omega))
theorem tnM_ge {best : Nat} (z : ¬ tnM best < 0) : ¬ best = 0 ∧ tnM best = nI best := by
  unfold tnM at *
  by_cases e : best = 0
  · rw [if_pos e] at z; exact absurd (by decide) z
  · exact ⟨e, if_neg e⟩
theorem lm_turning {X : Nat × (Nat → Int32)} {d : Nat} {I N : mm_I} {nc np B b0 : Nat} {q : Bool} {P : Int32 → mm_I → Prop} (H : HS N (I 92) nc np) (hq94 : ∀ j, j < 321 → I 94 j = I 92 j) (hb8 : b0 < 8) (hB : (1 : Int32) <<< (nI nc &&& 31) = nI B) (hB64 : B ≤ 64) (hB1 : 1 ≤ B) (hQ : ∀ K, (∀ k, k ≠ 92 → k ≠ 98 → k ≠ 99 → K k = I k) → (∀ j, j < 321 → K 92 j = I 92 j) → ∀ v4 v5, mm_Ev mm_T0 X (d + 30) 203 142 [.ref 91, .int (nI b0), .int (bI q), .int (tnM (fo (tnS N nc np (nI b0) q) (B - 1) 1 0)), v4, v5] [] K (mm_pi P)) : ∀ (n i : Nat) (J : mm_I) (best : Nat) (v5 : Value), i + n = B → best < 64 → 1 ≤ i → fo (tnS N nc np (nI b0) q) n i best = fo (tnS N nc np (nI b0) q) (B - 1) 1 0 → (∀ k, k ≠ 92 → k ≠ 98 → k ≠ 99 → J k = I k) → (∀ j, j < 321 → J 92 j = I 92 j) → mm_Ev mm_T0 X (d + 30) 203 29 [.ref 91, .int (nI b0), .int (bI q), .int (tnM best), .int (nI i), v5] [] J (mm_pi P) := by
  have tm := tM
  have tr := tR
  intro n
  induction n with
  | zero =>
    intro i J best v5 hi hbest hi1 he hf bJ
    have e : i = B := by omega
    subst e
    refine ev_ild4 k203_29 ?_
    refine ev_iconst k203_31 ?_
    refine ev_ald0 k203_32 ?_
    refine ev_getr k203_33 (by first | assumption | rfl) rfl rfl rfl ?_
    refine ev_iconst k203_36 ?_
    refine ev_ialv (j := 2) k203_37 (by first | assumption | rfl) (by omega) rfl (vp_dec rfl) ((bJ 2 (by decide)).trans H.1.1.1) ?_
    refine ev_ishl k203_38 ?_
    rw [hB]
    refine ev_jcmp_ge k203_39 (fun h39 => ?_) (fun h39 => absurd h39 (nI_nlt (Nat.le_refl _) (by omega)))
    have z := hQ J hf bJ (.int (nI i)) v5
    rw [← he] at z
    exact z
  | succ n ih =>
    intro i J best v5 hi hbest hi1 he hf bJ
    have hlt : i < B := by omega
    refine ev_ild4 k203_29 ?_
    refine ev_iconst k203_31 ?_
    refine ev_ald0 k203_32 ?_
    refine ev_getr k203_33 (by first | assumption | rfl) rfl rfl rfl ?_
    refine ev_iconst k203_36 ?_
    refine ev_ialv (j := 2) k203_37 (by first | assumption | rfl) (by omega) rfl (vp_dec rfl) ((bJ 2 (by decide)).trans H.1.1.1) ?_
    refine ev_ishl k203_38 ?_
    rw [hB]
    refine ev_jcmp_ge k203_39 (fun h39 => absurd (nI_lt hlt (by omega)) h39) (fun h39 => ?_)
    refine ev_iconst k203_42 ?_
    refine ev_ist5 k203_43 rfl ?_
    refine lm_tc (N := N) (nc := nc) (np := np) (x := i) hb8 (fun L HL fL => ?_) nc 0 J (by omega) (show HS (tcS N 0 _ _) _ nc np from by unfold tcS; rw [cuF_0, mm_rp_self]; exact HS_congr (fun _ _ _ _ _ => rfl) (fun j hj => bJ j hj) H) (fun _ _ _ _ => rfl)
    refine ev_ald0 k203_88 ?_
    refine ev_ild1 k203_89 ?_
    refine ev_cV2i k203_90 cs_260 (by first | assumption | rfl) (by omega) (Nat.le_of_ble_eq_true rfl) rfl rfl rfl ?_
    refine sm_doesPass (S := tcS N nc (nI i) (nI b0)) HL.1 HL.2.1 HL.2.2.1 HL.2.2.2.1 (fun M hM => ?_)
    rw [show decide (0 < hMv (tcS N nc (nI i) (nI b0)) 0 nc (hWt (tcS N nc (nI i) (nI b0)) 0) (nI b0) (hTk (tcS N nc (nI i) (nI b0)) 0 np)) = tnP N nc np (nI i) (nI b0) from rfl]
    refine ev_ild2 k203_93 ?_
    refine ev_icmp_eq k203_94 (fun h94 => ?_) (fun h94 => ?_)
    ·
      refine ev_iconst k203_101 ?_
      refine ev_ist5 k203_102 rfl ?_
      refine ev_ald0 k203_104 ?_
      refine ev_cV1v k203_105 cs_270 (by first | assumption | rfl) (by omega) (Nat.le_of_ble_eq_true rfl) rfl rfl rfl ?_
      refine sm_putsBack ?_
      refine ev_ild5 k203_108 ?_
      refine ev_if_eq k203_110 (fun h110 => ?_) (fun h110 => absurd rfl h110)
      refine ev_ild3 k203_134 ?_
      refine ev_ist3 k203_135 rfl ?_
      refine ev_inc4 k203_136 rfl ?_
      refine ev_goto k203_139 ?_
      rw [nI_1]
      have f2 : ∀ k, k ≠ 92 → k ≠ 98 → k ≠ 99 → cpA M 94 92 321 k = I k := fun k a b c => by rw [cpA_ne a, hM k b c, fL k a b c, hf k a b c]
      have b2 : ∀ j, j < 321 → cpA M 94 92 321 92 j = I 92 j := fun j hj => by rw [cpA_at hj, hM 94 (by decide) (by decide), fL 94 (by decide) (by decide) (by decide), hf 94 (by decide) (by decide) (by decide)]; exact hq94 j hj
      have e : tnS N nc np (nI b0) q i best = best := if_neg (fun z => z.2 (bI_inj h94))
      have e0 : fo (tnS N nc np (nI b0) q) n (i + 1) best = fo (tnS N nc np (nI b0) q) (B - 1) 1 0 := by
        rw [← he]
        show _ = fo (tnS N nc np (nI b0) q) n (i + 1) (tnS N nc np (nI b0) q i best)
        rw [e]
      have z := ih (i + 1) (cpA M 94 92 321) best (.int 0) (by omega) (by omega) (by omega) e0 f2 b2
      exact z
    ·
      refine ev_iconst k203_97 ?_
      refine ev_goto k203_98 ?_
      refine ev_ist5 k203_102 rfl ?_
      refine ev_ald0 k203_104 ?_
      refine ev_cV1v k203_105 cs_270 (by first | assumption | rfl) (by omega) (Nat.le_of_ble_eq_true rfl) rfl rfl rfl ?_
      refine sm_putsBack ?_
      refine ev_ild5 k203_108 ?_
      refine ev_if_eq k203_110 (fun h110 => absurd h110 (by decide)) (fun h110 => ?_)
      refine ev_ild3 k203_113 ?_
      refine ev_if_lt k203_114 (fun h114 => ?_) (fun h114 => ?_)
      ·
        refine ev_ild4 k203_129 ?_
        refine ev_goto k203_131 ?_
        refine ev_ist3 k203_135 rfl ?_
        refine ev_inc4 k203_136 rfl ?_
        refine ev_goto k203_139 ?_
        rw [nI_1]
        have f2 : ∀ k, k ≠ 92 → k ≠ 98 → k ≠ 99 → cpA M 94 92 321 k = I k := fun k a b c => by rw [cpA_ne a, hM k b c, fL k a b c, hf k a b c]
        have b2 : ∀ j, j < 321 → cpA M 94 92 321 92 j = I 92 j := fun j hj => by rw [cpA_at hj, hM 94 (by decide) (by decide), fL 94 (by decide) (by decide) (by decide), hf 94 (by decide) (by decide) (by decide)]; exact hq94 j hj
        have e : tnS N nc np (nI b0) q i best = i := if_pos ⟨Or.inl (tnM_lt hbest h114), fun z => h94 (by rw [z])⟩
        have e0 : fo (tnS N nc np (nI b0) q) n (i + 1) i = fo (tnS N nc np (nI b0) q) (B - 1) 1 0 := by
          rw [← he]
          show _ = fo (tnS N nc np (nI b0) q) n (i + 1) (tnS N nc np (nI b0) q i best)
          rw [e]
        have z := ih (i + 1) (cpA M 94 92 321) i (.int 1) (by omega) (by omega) (by omega) e0 f2 b2
        rw [show tnM i = nI i from if_neg (by omega)] at z
        exact z
      ·
        refine ev_ild4 k203_117 ?_
        refine ev_cS1i k203_119 cs_228 rfl rfl rfl ?_
        refine sm_bits (k := i) rfl (by omega) ?_
        obtain ⟨nb0, enb⟩ := tnM_ge h114
        rw [enb]
        refine ev_ild3 k203_122 ?_
        refine ev_cS1i k203_123 cs_228 rfl rfl rfl ?_
        refine sm_bits (k := best) rfl (by omega) ?_
        refine ev_jcmp_ge k203_126 (fun h126 => ?_) (fun h126 => ?_)
        ·
          refine ev_ild3 k203_134 ?_
          refine ev_ist3 k203_135 rfl ?_
          refine ev_inc4 k203_136 rfl ?_
          refine ev_goto k203_139 ?_
          rw [nI_1]
          have f2 : ∀ k, k ≠ 92 → k ≠ 98 → k ≠ 99 → cpA M 94 92 321 k = I k := fun k a b c => by rw [cpA_ne a, hM k b c, fL k a b c, hf k a b c]
          have b2 : ∀ j, j < 321 → cpA M 94 92 321 92 j = I 92 j := fun j hj => by rw [cpA_at hj, hM 94 (by decide) (by decide), fL 94 (by decide) (by decide) (by decide), hf 94 (by decide) (by decide) (by decide)]; exact hq94 j hj
          have e : tnS N nc np (nI b0) q i best = best := if_neg (fun z => z.1.elim (fun w => h114 (by rw [w]; decide)) (fun w => h126 w))
          have e0 : fo (tnS N nc np (nI b0) q) n (i + 1) best = fo (tnS N nc np (nI b0) q) (B - 1) 1 0 := by
            rw [← he]
            show _ = fo (tnS N nc np (nI b0) q) n (i + 1) (tnS N nc np (nI b0) q i best)
            rw [e]
          have z := ih (i + 1) (cpA M 94 92 321) best (.int 1) (by omega) (by omega) (by omega) e0 f2 b2
          rw [enb] at z
          exact z
        ·
          refine ev_ild4 k203_129 ?_
          refine ev_goto k203_131 ?_
          refine ev_ist3 k203_135 rfl ?_
          refine ev_inc4 k203_136 rfl ?_
          refine ev_goto k203_139 ?_
          rw [nI_1]
          have f2 : ∀ k, k ≠ 92 → k ≠ 98 → k ≠ 99 → cpA M 94 92 321 k = I k := fun k a b c => by rw [cpA_ne a, hM k b c, fL k a b c, hf k a b c]
          have b2 : ∀ j, j < 321 → cpA M 94 92 321 92 j = I 92 j := fun j hj => by rw [cpA_at hj, hM 94 (by decide) (by decide), fL 94 (by decide) (by decide) (by decide), hf 94 (by decide) (by decide) (by decide)]; exact hq94 j hj
          have e : tnS N nc np (nI b0) q i best = i := if_pos ⟨Or.inr h126, fun z => h94 (by rw [z])⟩
          have e0 : fo (tnS N nc np (nI b0) q) n (i + 1) i = fo (tnS N nc np (nI b0) q) (B - 1) 1 0 := by
            rw [← he]
            show _ = fo (tnS N nc np (nI b0) q) n (i + 1) (tnS N nc np (nI b0) q i best)
            rw [e]
          have z := ih (i + 1) (cpA M 94 92 321) i (.int 1) (by omega) (by omega) (by omega) e0 f2 b2
          rw [show tnM i = nI i from if_neg (by omega)] at z
          exact z
/-- CV.turning -/
theorem op_turning {X : Nat × (Nat → Int32)} {d : Nat} {I : mm_I} {P : Int32 → mm_I → Prop} {a : Int32} (inv : Inv I) (hQ : ∀ v J, mm_Ev mm_T0 X (d + 60) 203 0 (mm_ent 203 [.ref 91, .int a]) [] J (mm_pi fun w K => w = v ∧ Inv K) → P v J) : mm_Ev mm_T0 X (d + 60) 95 0 (mm_ent 95 [.ref 0, .int a]) [] I (mm_pi P) := by
  show mm_Ev mm_T0 X (d + 60) 95 0 [.ref 0, .int a, .retAddr 0, .retAddr 0, .retAddr 0, .retAddr 0] [] I (mm_pi P)
  obtain ⟨nc, np, hs⟩ := inv.1
  obtain ⟨c1, n6, p1, p6, rc, rp, rm, ok, sr, tt⟩ := hsF hs
  have t0 := tCV
  have tm := tM
  have tr := tR
  refine ev_ild1 k95_0 ?_
  refine ev_cS1i k95_1 cs_181 rfl rfl rfl ?_
  refine sp_isBill ?_
  refine ev_ifz_ne k95_4 (fun h4 => ?_) (fun h4 => ?_)
  ·
    obtain ⟨b0, hb0, rfl⟩ := wB_le (hi := 7) (by omega) h4
    refine ev_ald0 k95_14 ?_
    refine ev_getr k95_15 (by first | assumption | rfl) rfl rfl rfl ?_
    refine ev_ald0 k95_18 ?_
    refine ev_getr k95_19 (by first | assumption | rfl) rfl rfl rfl ?_
    refine ev_cV2v k95_22 cs_201 (by first | assumption | rfl) (by omega) (Nat.le_of_ble_eq_true rfl) rfl rfl rfl ?_
    refine sp_copyH hh32 hh11 (by decide) hs inv.2.2.2.2.2.2.2.1 (fun J HJ fJ f9 f13 => ?_)
    have tJ : tF I J := ⟨fJ, f9, f13⟩
    have wfJ := wf_nz (HS_wf HJ)
    refine ev_ald0 k95_25 ?_
    refine ev_iconst k95_26 ?_
    refine ev_ild1 k95_27 ?_
    refine ev_cV3i k95_28 cs_203 (by first | assumption | rfl) (by omega) (Nat.le_of_ble_eq_true rfl) rfl rfl rfl ?_
    refine sp_passes (nc := nc) (np := np) wfJ (fun K0 eK0 fK0 => ?_)
    obtain ⟨B, hB0, hB64, hB⟩ := shl6 n6
    have hB1 : 1 ≤ B := by rw [hB0]; exact Nat.pow_pos (by decide)
    refine ev_ist2 k95_31 rfl ?_
    refine ev_iconst k95_32 ?_
    refine ev_ist3 k95_33 rfl ?_
    refine ev_iconst k95_34 ?_
    refine ev_ist4 k95_35 rfl ?_
    refine lp_turning (J0 := J) (N := nz (cells J 32)) (nc := nc) (np := np) (q := tnP (nz (cells J 32)) nc np 0 (nI b0)) ((congrFun (fJ 11 (by omega)) 1).trans c1) wfJ hB hB64 hB1 (fun K eK fK => ?_) (B - 1) 1 K0 0 (.retAddr 0) (by omega) (by decide) rfl eK0 fK0
    have tK : tF I K := ⟨fun k hk => (fK k hk).trans (tJ.1 k hk), (show K 41 = J 41 from congrFun eK 9).trans tJ.2.1, (show K 45 = J 45 from congrFun eK 13).trans tJ.2.2⟩
    generalize hfd : fo (tnS (nz (cells J 32)) nc np (nI b0) (tnP (nz (cells J 32)) nc np 0 (nI b0))) (B - 1) 1 0 = bst
    refine hQ _ _ ?_
    show mm_Ev mm_T0 X (d + 60) 203 0 [.ref 91, .int _, .retAddr 0, .retAddr 0, .retAddr 0, .retAddr 0] [] _ (mm_pi _)
    refine ev_ild1 k203_0 ?_
    refine ev_cS1i k203_1 cs_243 rfl rfl rfl ?_
    refine sm_isBill ?_
    refine ev_ifz_ne k203_4 (fun g4 => ?_) (fun g4 => Bool.noConfusion (Eq.trans (Eq.symm h4) g4))
    refine ev_ald0 k203_14 ?_
    refine ev_cV1v k203_15 cs_269 (by first | assumption | rfl) (by omega) (Nat.le_of_ble_eq_true rfl) rfl rfl rfl ?_
    refine sm_thinks ?_
    have HN : HS (nz (cells J 32)) (cpA (wnS (tnR bst) K) 92 94 321 92) nc np := by rw [cpA_ne (by decide), wnS_ne (by decide), tK.1 92 (by omega)]; exact HS_nz HJ
    refine ev_ald0 k203_18 ?_
    refine ev_ild1 k203_19 ?_
    refine ev_cV2i k203_20 cs_260 (by first | assumption | rfl) (by omega) (Nat.le_of_ble_eq_true rfl) rfl rfl rfl ?_
    refine sm_doesPass (S := nz (cells J 32)) HN.1 HN.2.1 HN.2.2.1 HN.2.2.2.1 (fun M0 hM0 => ?_)
    rw [show decide (0 < hMv (nz (cells J 32)) 0 nc (hWt (nz (cells J 32)) 0) (nI b0) (hTk (nz (cells J 32)) 0 np)) = tnP (nz (cells J 32)) nc np 0 (nI b0) from by unfold tnP; rw [tcS_z n6]]
    refine ev_ist2 k203_23 rfl ?_
    refine ev_iconst k203_24 ?_
    refine ev_ist3 k203_25 rfl ?_
    refine ev_iconst k203_26 ?_
    refine ev_ist4 k203_27 rfl ?_
    refine lm_turning (I := M0) (N := nz (cells J 32)) (nc := nc) (np := np) (b0 := b0) (q := tnP (nz (cells J 32)) nc np 0 (nI b0)) (by rw [hM0 92 (by decide) (by decide)]; exact HN) (fun j hj => by rw [hM0 94 (by decide) (by decide), hM0 92 (by decide) (by decide), cpA_at hj, cpA_ne (by decide)]) (by omega) hB hB64 hB1 (fun L fL bL v4 v5 => ?_) (B - 1) 1 M0 0 (.retAddr 0) (by omega) (by decide) (by decide) rfl (fun _ _ _ _ => rfl) (fun _ _ => rfl)
    rw [hfd]
    have k1 : ∀ k, k ≠ 92 → k ≠ 94 → k ≠ 98 → k ≠ 99 → L k = wnS (tnR bst) K k := fun k a b c e => by rw [fL k a c e, hM0 k c e, cpA_ne b]
    have k2 : ∀ j, j < 321 → L 92 j = K 92 j := fun j hj => by rw [bL j hj, hM0 92 (by decide) (by decide), cpA_ne (by decide), wnS_ne (by decide)]
    have hlt64 : bst < 64 := by rw [← hfd]; exact tn_lt _ _ _ (by omega) (by decide)
    by_cases hz : bst = 0
    ·
      refine ev_ild3 k203_142 ?_
      refine ev_jf_ge k203_143 (fun g143 => absurd (show tnM bst < 0 from by rw [hz]; decide) g143) (fun g143 => ?_)
      refine ev_ald0 k203_146 ?_
      refine ev_ldc k203_147 ?_
      refine ev_cV2i k203_149 cs_238 (by first | assumption | rfl) (by omega) (Nat.le_of_ble_eq_true rfl) rfl rfl rfl ?_
      refine sm_error (k := 2) (by decide) (by decide) ?_
      refine ev_goto k203_152 ?_
      refine ev_ri k203_156 rfl ?_
      rw [show tnR bst = none from if_pos hz] at k1 ⊢
      exact ⟨rfl, Inv_te inv tK k1 k2⟩
    ·
      refine ev_ild3 k203_142 ?_
      refine ev_jf_ge k203_143 (fun g143 => ?_) (fun g143 => absurd g143 (by rw [show tnM bst = nI bst from if_neg hz]; exact nI_pos (by omega)))
      refine ev_ild3 k203_155 ?_
      refine ev_ri k203_156 rfl ?_
      rw [show tnR bst = some bst from if_neg hz] at k1 ⊢
      exact ⟨if_neg hz, Inv_th inv tK k1 k2⟩
  ·
    refine ev_ald0 k95_7 ?_
    refine ev_ldc k95_8 ?_
    refine ev_cV2i k95_10 cs_174 (by first | assumption | rfl) (by omega) (Nat.le_of_ble_eq_true rfl) rfl rfl rfl ?_
    refine sp_error (k := 1) (by decide) (by decide) (by decide) ?_
    refine ev_ri k95_13 rfl ?_
    refine hQ _ _ ?_
    show mm_Ev mm_T0 X (d + 60) 203 0 [.ref 91, .int _, .retAddr 0, .retAddr 0, .retAddr 0, .retAddr 0] [] _ (mm_pi _)
    refine ev_ild1 k203_0 ?_
    refine ev_cS1i k203_1 cs_243 rfl rfl rfl ?_
    refine sm_isBill ?_
    refine ev_ifz_ne k203_4 (fun g4 => Bool.noConfusion (Eq.trans (Eq.symm h4) g4)) (fun g4 => ?_)
    refine ev_ald0 k203_7 ?_
    refine ev_ldc k203_8 ?_
    refine ev_cV2i k203_10 cs_238 (by first | assumption | rfl) (by omega) (Nat.le_of_ble_eq_true rfl) rfl rfl rfl ?_
    refine sm_error (k := 1) (by decide) (by decide) ?_
    refine ev_ri k203_13 rfl ?_
    first | exact ⟨rfl, Inv_e rfl rfl inv⟩ | exact ⟨rfl, inv⟩
