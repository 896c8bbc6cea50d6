/-! text -/
def gT (f : Nat → Int32) (L : Nat) : Nat → Int32 := fun p => if p < L then f p else -1
theorem gT_ok {f : Nat → Int32} {L : Nat} (hL : L ≤ 50) (hf : ∀ j, j < L → ∃ b : Nat, b < 256 ∧ f j = nI b) : gOK (gT f L) L := ⟨hL, fun p hp => by unfold gT; rw [if_pos hp]; exact hf p hp, fun p hp => if_neg (by omega)⟩
def rT (f : Nat → Int32) (L u : Nat) : pR := pLv (pOp (gT f L) u 5) (gT f L) 5 0
theorem rT_ok {f : Nat → Int32} {L u : Nat} (hL : L ≤ 50) (hf : ∀ j, j < L → ∃ b : Nat, b < 256 ∧ f j = nI b) : rOK L 0 (rT f L u) ∧ ((rT f L u).2.2 = true → okL (rT f L u).2.1 0 1) :=
  ⟨pLv_ok (gT_ok hL hf) (pOp_ok (gT_ok hL hf) 5) 5 (by omega) 0 (by omega), fun h => pLv_k (gT_ok hL hf) (pOp_ok (gT_ok hL hf) 5) (pOp_k (gT_ok hL hf) 5) 5 (by omega) 0 (by omega) 0 (by omega) h⟩
/-- behind faultOf -/
def ftP (I K : mm_I) (f : Nat → Int32) (L u : Nat) (v : Int32) : Prop := (∀ k, ¬ (74 ≤ k ∧ k ≤ 78) → K k = I k) ∧ K 75 1 = 32 ∧ (((rT f L u).2.2 = true ∧ (rT f L u).1 = L ∧ v = -1 ∧ K 75 2 = nI (rT f L u).2.1.length ∧ tcL (K 76) (rT f L u).2.1) ∨ (¬ ((rT f L u).2.2 = true ∧ (rT f L u).1 = L) ∧ v = nI (rT f L u).1))
/-- Reader.faultOf -/
theorem sp_faultOf0 {X : Nat × (Nat → Int32)} {d : Nat} {I : mm_I} {f : Nat → Int32} {L : Nat} {P : Int32 → mm_I → Prop} (hL : L ≤ 50) (eI : I 28 2 = nI L) (h32 : I 75 1 = 32) (hf0 : I 29 = f) (hf : ∀ j, j < L → ∃ b : Nat, b < 256 ∧ f j = nI b) (hQ : ∀ v K, ftP I K f L 0 v → P v K) : mm_Ev mm_T0 X (d + 54) 41 0 (mm_ent 41 [.ref 74, .ref 28, .ref 1011]) [] I (mm_pi P) := by
  show mm_Ev mm_T0 X (d + 54) 41 0 [.ref 74, .ref 28, .ref 1011] [] I (mm_pi P)
  refine ev_ald0 k41_0 ?_
  refine ev_getr k41_1 (by first | assumption | rfl) rfl rfl rfl ?_
  refine ev_ald1 k41_4 ?_
  refine ev_cV2v k41_5 cs_125 (by first | assumption | rfl) (by omega) (Nat.le_of_ble_eq_true rfl) rfl rfl rfl ?_
  refine sp_copyFromR (ra := 77) (rb := 28) (N := 50) (N2 := 50) (n := L) rfl rfl (by decide) rfl rfl (by decide) (by decide) (by decide) (by decide) eI hL hL (by decide) (fun J g1 g2 g3 g4 => ?_)
  refine ev_ald0 k41_8 ?_
  refine ev_getr k41_9 (by first | assumption | rfl) rfl rfl rfl ?_
  refine ev_cV1v k41_12 cs_126 (by first | assumption | rfl) (by omega) (Nat.le_of_ble_eq_true rfl) rfl rfl rfl ?_
  refine sp_clear (ra := 75) rfl ?_
  refine ev_ald0 k41_15 ?_
  refine ev_ald2 k41_16 ?_
  refine ev_puts k41_17 (by first | assumption | rfl) rfl (by decide) rfl ?_
  refine ev_ald0 k41_20 ?_
  refine ev_iconst k41_21 ?_
  refine ev_pf (j := 3) k41_22 (by first | assumption | rfl) rfl rfl rfl ?_
  refine ev_ald0 k41_25 ?_
  refine ev_iconst k41_26 ?_
  refine ev_pf (j := 4) k41_27 (by first | assumption | rfl) rfl rfl rfl ?_
  refine ev_ald0 k41_30 ?_
  refine ev_iconst k41_31 ?_
  refine ev_iconst k41_32 ?_
  generalize hK0 : mm_up (mm_up (mm_up (mm_up J 75 2 0) 74 2 (Int32.ofNat (1011 - 1009))) 74 3 0) 74 4 (-1) = K0
  have fK : ∀ k, ¬ (74 ≤ k ∧ k ≤ 78) → K0 k = I k := fun k hk => by rw [← hK0, mm_up_ne _ _ _ _ _ (by omega), mm_up_ne _ _ _ _ _ (by omega), mm_up_ne _ _ _ _ _ (by omega), mm_up_ne _ _ _ _ _ (by omega)]; exact g1 k (by omega) (by omega)
  have eL : K0 77 2 = nI L := by rw [← hK0, mm_up_ne _ _ _ _ _ (by omega), mm_up_ne _ _ _ _ _ (by omega), mm_up_ne _ _ _ _ _ (by omega), mm_up_ne _ _ _ _ _ (by omega)]; exact g3
  have hb : rdB K0 (gT f L) 0 L := ⟨gT_ok hL hf, by decide, by rw [← hK0, mm_up_at, if_neg (by omega), mm_up_at, if_neg (by omega), mm_up_at, if_pos ⟨rfl, rfl⟩]; rfl, eL, fun p hp => by rw [← hK0, mm_up_ne _ _ _ _ _ (by omega), mm_up_ne _ _ _ _ _ (by omega), mm_up_ne _ _ _ _ _ (by omega), mm_up_ne _ _ _ _ _ (by omega), show J 78 p = I (28 + 1) p from g4 p hp, show I (28 + 1) = f from hf0]; exact (if_pos hp).symm⟩
  have h0 : rdE K0 K0 0 [] := ⟨fun _ _ _ _ => rfl, rfl, by rw [← hK0, mm_up_at, if_neg (by omega), mm_up_at, if_pos ⟨rfl, rfl⟩]; rfl, by rw [← hK0, mm_up_at, if_pos ⟨rfl, rfl⟩], by rw [← hK0, mm_up_ne _ _ _ _ _ (by decide), mm_up_ne _ _ _ _ _ (by decide), mm_up_ne _ _ _ _ _ (by decide), mm_up_at, if_neg (by omega), g1 75 (by decide) (by decide)]; exact h32, by rw [← hK0, mm_up_ne _ _ _ _ _ (by decide), mm_up_ne _ _ _ _ _ (by decide), mm_up_ne _ _ _ _ _ (by decide), mm_up_at, if_pos ⟨rfl, rfl⟩]; rfl, trivial⟩
  have hok := (rT_ok (u := 0) hL hf).1
  refine ev_cV3v k41_33 cs_127 rfl (by omega) (Nat.le_of_ble_eq_true rfl) rfl rfl rfl ?_
  refine lv_all hb (op_all hb 5 (by omega)) 5 (by omega) _ 0 [] K0 _ (by omega) (by omega) (by decide) h0 (fun hk K1 h1 => ?_) (fun hk K1 h1 => ?_)
  ·
    replace hk : (rT f L 0).2.2 = true := hk
    replace h1 : rdE K0 K1 (rT f L 0).1 ((rT f L 0).2.1 ++ []) := h1
    refine ev_ald0 k41_36 ?_
    refine ev_gfv (j := 4) k41_37 (by first | assumption | rfl) rfl rfl rfl rfl h1.2.2.2.1 ?_
    refine ev_iconst k41_40 ?_
    refine ev_icmp_ne k41_41 (fun h41 => absurd rfl h41) (fun h41 => ?_)
    refine ev_ald0 k41_44 ?_
    refine ev_gfv (j := 3) k41_45 (by first | assumption | rfl) rfl rfl rfl rfl h1.2.2.1 ?_
    refine ev_ald0 k41_48 ?_
    refine ev_getr k41_49 (by first | assumption | rfl) rfl rfl rfl ?_
    refine ev_gfv (j := 2) k41_52 (by first | assumption | rfl) rfl rfl rfl rfl ((congrFun (h1.1 77 (by decide) (by decide) (by decide)) 2).trans eL) ?_
    refine ev_jcmp_ge k41_55 (fun h55 => ?_) (fun h55 => ?_)
    ·
      refine ev_ald0 k41_66 ?_
      refine ev_gfv (j := 4) k41_67 (by first | assumption | rfl) rfl rfl rfl rfl h1.2.2.2.1 ?_
      refine ev_ri k41_70 rfl ?_
      have hr : (rT f L 0).1 = L := by
        have z : ¬ (rT f L 0).1 < L := fun z => h55 (nI_lt z (by omega))
        have := hok.2.1; omega
      exact hQ _ _ ⟨fun k hk => by rw [h1.1 k (by omega) (by omega) (by omega)]; exact fK k hk, h1.2.2.2.2.1, Or.inl ⟨hk, hr, rfl, by have z := h1.2.2.2.2.2.1; rw [List.append_nil] at z; exact z, by have z := h1.2.2.2.2.2.2; rw [List.append_nil] at z; exact z⟩⟩
    ·
      refine ev_ald0 k41_58 ?_
      refine ev_ald0 k41_59 ?_
      refine ev_gfv (j := 3) k41_60 (by first | assumption | rfl) rfl rfl rfl rfl h1.2.2.1 ?_
      refine ev_pf (j := 4) k41_63 (by first | assumption | rfl) rfl rfl rfl ?_
      refine ev_ald0 k41_66 ?_
      refine ev_gfv (j := 4) k41_67 (by first | assumption | rfl) rfl rfl rfl rfl (show _ = nI (rT f L 0).1 from by rw [mm_up_at, if_pos ⟨rfl, rfl⟩]) ?_
      refine ev_ri k41_70 rfl ?_
      have hr : ¬ (rT f L 0).1 = L := by have := (nI_ltI (show (rT f L 0).1 < 2 ^ 31 by have := hok.2.1; omega) (show L < 2 ^ 31 by omega)).mp h55; omega
      exact hQ _ _ ⟨fun k hk => by rw [mm_up_ne _ _ _ _ _ (by omega), h1.1 k (by omega) (by omega) (by omega)]; exact fK k hk, by rw [mm_up_ne _ _ _ _ _ (by decide)]; exact h1.2.2.2.2.1, Or.inr ⟨fun z => hr z.2, rfl⟩⟩
  ·
    replace hk : (rT f L 0).2.2 = false := hk
    replace h1 : rdF K0 K1 (rT f L 0).1 := h1
    refine ev_ald0 k41_36 ?_
    refine ev_gfv (j := 4) k41_37 (by first | assumption | rfl) rfl rfl rfl rfl h1.2.2.1 ?_
    refine ev_iconst k41_40 ?_
    refine ev_icmp_ne k41_41 (fun h41 => ?_) (fun h41 => absurd h41 (m1_ne (by have := hok.2.1; omega)))
    refine ev_ald0 k41_66 ?_
    refine ev_gfv (j := 4) k41_67 (by first | assumption | rfl) rfl rfl rfl rfl h1.2.2.1 ?_
    refine ev_ri k41_70 rfl ?_
    exact hQ _ _ ⟨fun k hk => by rw [h1.1 k (by omega) (by omega) (by omega)]; exact fK k hk, h1.2.2.2.1, Or.inr ⟨fun z => Bool.noConfusion (Eq.trans (Eq.symm hk) z.1), rfl⟩⟩
/-- Reader.faultOf -/
theorem sp_faultOf1 {X : Nat × (Nat → Int32)} {d : Nat} {I : mm_I} {f : Nat → Int32} {L : Nat} {P : Int32 → mm_I → Prop} (hL : L ≤ 50) (eI : I 28 2 = nI L) (h32 : I 75 1 = 32) (hf0 : I 29 = f) (hf : ∀ j, j < L → ∃ b : Nat, b < 256 ∧ f j = nI b) (hQ : ∀ v K, ftP I K f L 1 v → P v K) : mm_Ev mm_T0 X (d + 54) 41 0 (mm_ent 41 [.ref 74, .ref 28, .ref 1012]) [] I (mm_pi P) := by
  show mm_Ev mm_T0 X (d + 54) 41 0 [.ref 74, .ref 28, .ref 1012] [] I (mm_pi P)
  refine ev_ald0 k41_0 ?_
  refine ev_getr k41_1 (by first | assumption | rfl) rfl rfl rfl ?_
  refine ev_ald1 k41_4 ?_
  refine ev_cV2v k41_5 cs_125 (by first | assumption | rfl) (by omega) (Nat.le_of_ble_eq_true rfl) rfl rfl rfl ?_
  refine sp_copyFromR (ra := 77) (rb := 28) (N := 50) (N2 := 50) (n := L) rfl rfl (by decide) rfl rfl (by decide) (by decide) (by decide) (by decide) eI hL hL (by decide) (fun J g1 g2 g3 g4 => ?_)
  refine ev_ald0 k41_8 ?_
  refine ev_getr k41_9 (by first | assumption | rfl) rfl rfl rfl ?_
  refine ev_cV1v k41_12 cs_126 (by first | assumption | rfl) (by omega) (Nat.le_of_ble_eq_true rfl) rfl rfl rfl ?_
  refine sp_clear (ra := 75) rfl ?_
  refine ev_ald0 k41_15 ?_
  refine ev_ald2 k41_16 ?_
  refine ev_puts k41_17 (by first | assumption | rfl) rfl (by decide) rfl ?_
  refine ev_ald0 k41_20 ?_
  refine ev_iconst k41_21 ?_
  refine ev_pf (j := 3) k41_22 (by first | assumption | rfl) rfl rfl rfl ?_
  refine ev_ald0 k41_25 ?_
  refine ev_iconst k41_26 ?_
  refine ev_pf (j := 4) k41_27 (by first | assumption | rfl) rfl rfl rfl ?_
  refine ev_ald0 k41_30 ?_
  refine ev_iconst k41_31 ?_
  refine ev_iconst k41_32 ?_
  generalize hK0 : mm_up (mm_up (mm_up (mm_up J 75 2 0) 74 2 (Int32.ofNat (1012 - 1009))) 74 3 0) 74 4 (-1) = K0
  have fK : ∀ k, ¬ (74 ≤ k ∧ k ≤ 78) → K0 k = I k := fun k hk => by rw [← hK0, mm_up_ne _ _ _ _ _ (by omega), mm_up_ne _ _ _ _ _ (by omega), mm_up_ne _ _ _ _ _ (by omega), mm_up_ne _ _ _ _ _ (by omega)]; exact g1 k (by omega) (by omega)
  have eL : K0 77 2 = nI L := by rw [← hK0, mm_up_ne _ _ _ _ _ (by omega), mm_up_ne _ _ _ _ _ (by omega), mm_up_ne _ _ _ _ _ (by omega), mm_up_ne _ _ _ _ _ (by omega)]; exact g3
  have hb : rdB K0 (gT f L) 1 L := ⟨gT_ok hL hf, by decide, by rw [← hK0, mm_up_at, if_neg (by omega), mm_up_at, if_neg (by omega), mm_up_at, if_pos ⟨rfl, rfl⟩]; rfl, eL, fun p hp => by rw [← hK0, mm_up_ne _ _ _ _ _ (by omega), mm_up_ne _ _ _ _ _ (by omega), mm_up_ne _ _ _ _ _ (by omega), mm_up_ne _ _ _ _ _ (by omega), show J 78 p = I (28 + 1) p from g4 p hp, show I (28 + 1) = f from hf0]; exact (if_pos hp).symm⟩
  have h0 : rdE K0 K0 0 [] := ⟨fun _ _ _ _ => rfl, rfl, by rw [← hK0, mm_up_at, if_neg (by omega), mm_up_at, if_pos ⟨rfl, rfl⟩]; rfl, by rw [← hK0, mm_up_at, if_pos ⟨rfl, rfl⟩], by rw [← hK0, mm_up_ne _ _ _ _ _ (by decide), mm_up_ne _ _ _ _ _ (by decide), mm_up_ne _ _ _ _ _ (by decide), mm_up_at, if_neg (by omega), g1 75 (by decide) (by decide)]; exact h32, by rw [← hK0, mm_up_ne _ _ _ _ _ (by decide), mm_up_ne _ _ _ _ _ (by decide), mm_up_ne _ _ _ _ _ (by decide), mm_up_at, if_pos ⟨rfl, rfl⟩]; rfl, trivial⟩
  have hok := (rT_ok (u := 1) hL hf).1
  refine ev_cV3v k41_33 cs_127 rfl (by omega) (Nat.le_of_ble_eq_true rfl) rfl rfl rfl ?_
  refine lv_all hb (op_all hb 5 (by omega)) 5 (by omega) _ 0 [] K0 _ (by omega) (by omega) (by decide) h0 (fun hk K1 h1 => ?_) (fun hk K1 h1 => ?_)
  ·
    replace hk : (rT f L 1).2.2 = true := hk
    replace h1 : rdE K0 K1 (rT f L 1).1 ((rT f L 1).2.1 ++ []) := h1
    refine ev_ald0 k41_36 ?_
    refine ev_gfv (j := 4) k41_37 (by first | assumption | rfl) rfl rfl rfl rfl h1.2.2.2.1 ?_
    refine ev_iconst k41_40 ?_
    refine ev_icmp_ne k41_41 (fun h41 => absurd rfl h41) (fun h41 => ?_)
    refine ev_ald0 k41_44 ?_
    refine ev_gfv (j := 3) k41_45 (by first | assumption | rfl) rfl rfl rfl rfl h1.2.2.1 ?_
    refine ev_ald0 k41_48 ?_
    refine ev_getr k41_49 (by first | assumption | rfl) rfl rfl rfl ?_
    refine ev_gfv (j := 2) k41_52 (by first | assumption | rfl) rfl rfl rfl rfl ((congrFun (h1.1 77 (by decide) (by decide) (by decide)) 2).trans eL) ?_
    refine ev_jcmp_ge k41_55 (fun h55 => ?_) (fun h55 => ?_)
    ·
      refine ev_ald0 k41_66 ?_
      refine ev_gfv (j := 4) k41_67 (by first | assumption | rfl) rfl rfl rfl rfl h1.2.2.2.1 ?_
      refine ev_ri k41_70 rfl ?_
      have hr : (rT f L 1).1 = L := by
        have z : ¬ (rT f L 1).1 < L := fun z => h55 (nI_lt z (by omega))
        have := hok.2.1; omega
      exact hQ _ _ ⟨fun k hk => by rw [h1.1 k (by omega) (by omega) (by omega)]; exact fK k hk, h1.2.2.2.2.1, Or.inl ⟨hk, hr, rfl, by have z := h1.2.2.2.2.2.1; rw [List.append_nil] at z; exact z, by have z := h1.2.2.2.2.2.2; rw [List.append_nil] at z; exact z⟩⟩
    ·
      refine ev_ald0 k41_58 ?_
      refine ev_ald0 k41_59 ?_
      refine ev_gfv (j := 3) k41_60 (by first | assumption | rfl) rfl rfl rfl rfl h1.2.2.1 ?_
      refine ev_pf (j := 4) k41_63 (by first | assumption | rfl) rfl rfl rfl ?_
      refine ev_ald0 k41_66 ?_
      refine ev_gfv (j := 4) k41_67 (by first | assumption | rfl) rfl rfl rfl rfl (show _ = nI (rT f L 1).1 from by rw [mm_up_at, if_pos ⟨rfl, rfl⟩]) ?_
      refine ev_ri k41_70 rfl ?_
      have hr : ¬ (rT f L 1).1 = L := by have := (nI_ltI (show (rT f L 1).1 < 2 ^ 31 by have := hok.2.1; omega) (show L < 2 ^ 31 by omega)).mp h55; omega
      exact hQ _ _ ⟨fun k hk => by rw [mm_up_ne _ _ _ _ _ (by omega), h1.1 k (by omega) (by omega) (by omega)]; exact fK k hk, by rw [mm_up_ne _ _ _ _ _ (by decide)]; exact h1.2.2.2.2.1, Or.inr ⟨fun z => hr z.2, rfl⟩⟩
  ·
    replace hk : (rT f L 1).2.2 = false := hk
    replace h1 : rdF K0 K1 (rT f L 1).1 := h1
    refine ev_ald0 k41_36 ?_
    refine ev_gfv (j := 4) k41_37 (by first | assumption | rfl) rfl rfl rfl rfl h1.2.2.1 ?_
    refine ev_iconst k41_40 ?_
    refine ev_icmp_ne k41_41 (fun h41 => ?_) (fun h41 => absurd h41 (m1_ne (by have := hok.2.1; omega)))
    refine ev_ald0 k41_66 ?_
    refine ev_gfv (j := 4) k41_67 (by first | assumption | rfl) rfl rfl rfl rfl h1.2.2.1 ?_
    refine ev_ri k41_70 rfl ?_
    exact hQ _ _ ⟨fun k hk => by rw [h1.1 k (by omega) (by omega) (by omega)]; exact fK k hk, h1.2.2.2.1, Or.inr ⟨fun z => Bool.noConfusion (Eq.trans (Eq.symm hk) z.1), rfl⟩⟩
theorem Inv_tx {I L : mm_I} {nc np : Nat} (inv : Inv I) (hs : HS (cells L 11) (L 92) nc np) (h : ∀ k, (k < 11 ∨ k = 41 ∨ k = 45 ∨ (52 < k ∧ k < 74) ∨ (79 < k ∧ k < 89) ∨ k = 90 ∨ k = 93 ∨ k = 95 ∨ 99 < k) → L k = I k) (h3 : L 91 3 = I 91 3) (h15 : L 91 15 = I 91 15) (h75 : L 75 1 = 32) : Inv L := by
  obtain ⟨-, im, er, tr, sh, cs⟩ := inv
  refine ⟨⟨nc, np, hs⟩, ⟨?_, ?_⟩, ?_, ?_, fun s hs4 => ?_, ?_⟩
  · rw [h 0 (by omega), h3]; exact im.1
  · rw [h 0 (by omega)]
    exact im.2.imp id (fun ⟨a, b, q⟩ => ⟨a, b, HS_congr (fun k hk _ _ _ => h _ (by omega)) (fun j _ => by rw [h 93 (by omega)]) q⟩)
  · unfold erR
    rw [h 90 (by omega), h 95 (by omega)]; exact er
  · unfold trR
    rw [h 1 (by omega), h 2 (by omega), h15, h 100 (by omega)]; exact tr
  · rw [h (80 + 2 * s) (by omega), h (81 + 2 * s) (by omega), h 101 (by omega), h 102 (by omega), h 103 (by omega)]; exact sh s hs4
  · unfold csR
    rw [h 88 (by omega), h (32 + 9) (by omega), h (32 + 13) (by omega), h (53 + 9) (by omega), h (53 + 13) (by omega)]
    exact ⟨h75, cs.2⟩
theorem HS_t0 {S : mm_I} {R : Nat → Int32} {nc np : Nat} (H : HS S R nc np) : HS (mm_up S 17 2 0) (upd R 5 0) nc np := by
  refine HS_tp H (fun k hk => mm_up_ne _ _ _ _ _ (by omega)) (fun j a _ _ => by simp [upd, a]) ?_
  obtain ⟨⟨l, tl1, tl2, tl3, tl4, tl5⟩, ⟨v, wl1, wl2, wl3, wl4, wl5⟩⟩ := H.2.2.2.2.1
  refine ⟨⟨0, by omega, by rw [mm_up_at, if_neg (by omega)]; exact tl2, by rw [mm_up_at, if_pos ⟨rfl, rfl⟩]; rfl, rfl, fun j hj => absurd hj (by omega)⟩, ⟨v, wl1, wl2, wl3, by rw [show upd R 5 0 6 = R 6 from rfl]; exact wl4, fun j hj => ?_⟩⟩
  have e : upd R 5 0 (99 + j) = R (99 + j) := by simp [upd]; omega
  rw [e]
  exact wl5 j hj
theorem okS_0 {f : Nat → Int32} {n : Nat} (hn : 1 ≤ n) (h : okS f n 0 0) : ¬ f 0 < -3 := by
  obtain ⟨m, rfl⟩ : ∃ m, n = m + 1 := ⟨n - 1, by omega⟩
  intro z
  obtain ⟨⟨-, a, b⟩, -⟩ := h
  by_cases w : f 0 = -33
  · exact absurd (a z w) (by decide)
  · exact absurd (b z w) (by decide)
/-- a new text: w 0 for the weights, 1 for the zeal -/
theorem HS_text {S S' : mm_I} {R R' : Nat → Int32} {nc np n w : Nat} (H : HS S R nc np) (hw : w ≤ 1) (hn : 1 ≤ n) (hn50 : n ≤ 50) (hS : ∀ k, k ≤ 20 → k ≠ 10 + 4 * w → k ≠ 11 + 4 * w → S' k = S k) (h2 : S' (10 + 4 * w) 2 = nI n) (hR : ∀ j, j < 321 → ¬ (119 + 101 * w ≤ j ∧ j < 220 + 101 * w) → R' j = R j) (r0 : R' (119 + 101 * w) = nI n) (hst : ∀ i, i < n → stR (S' (11 + 4 * w) i) (R' (119 + 101 * w + 1 + i)) (R' (119 + 101 * w + 51 + i))) (hok : okS (S' (11 + 4 * w)) n 0 0) : HS S' R' nc np := by
  have hf0 := okS_0 hn hok
  obtain ⟨⟨⟨r1, r2, r3, r4, r5, r6⟩, rc, rp, r7, r8, r9⟩, ok, sr, tt, ⟨⟨l, tl1, tl2, tl3, tl4, tl5⟩, ⟨v, wl1, wl2, wl3, wl4, wl5⟩⟩, z, hz, ez⟩ := H
  dsimp only at r1 r3 rc rp r7 r8 r9
  obtain ⟨o1, o2, o3, o4, o5⟩ := ok
  have g : ∀ k, k ≤ 20 → (k < 10 ∨ k = 12 ∨ k = 13 ∨ 15 < k) → S' k = S k := fun k a b => hS k a (by omega) (by omega)
  have rl : ∀ j, j < 119 → R' j = R j := fun j hj => hR j (by omega) (by omega)
  have hWn : w = 0 ∨ w = 1 := by omega
  have hk : hOK S' 0 nc := by
    refine ⟨by rw [g 0 (by omega) (by omega)]; exact o1, o2, fun c hc => ?_, ?_, ?_⟩
    · unfold hK; rw [g (0 + 1) (by omega) (by omega)]; exact o3 c hc
    · rcases hWn with rfl | rfl
      · have e : hL0 S' 0 = n := by unfold hL0; rw [show S' (0 + 10) 2 = nI n from h2, nI_clamp (by omega)]
        rw [e]
        exact ⟨h2, ⟨hn, hn50, hf0⟩, by rw [g (0 + 9) (by omega) (by omega)]; exact o4.2.2.1, by rw [g (0 + 9) (by omega) (by omega)]; exact o4.2.2.2⟩
      · unfold hL0 at *
        rw [hS (0 + 10) (by omega) (by omega) (by omega), hS (0 + 11) (by omega) (by omega) (by omega), g (0 + 9) (by omega) (by omega)]; exact o4
    · rcases hWn with rfl | rfl
      · unfold hL1 at *
        rw [hS (0 + 14) (by omega) (by omega) (by omega), hS (0 + 15) (by omega) (by omega) (by omega), g (0 + 13) (by omega) (by omega)]; exact o5
      · have e : hL1 S' 0 = n := by unfold hL1; rw [show S' (0 + 14) 2 = nI n from h2, nI_clamp (by omega)]
        rw [e]
        exact ⟨h2, ⟨hn, hn50, hf0⟩, by rw [g (0 + 13) (by omega) (by omega)]; exact o5.2.2.1, by rw [g (0 + 13) (by omega) (by omega)]; exact o5.2.2.2⟩
  refine ⟨⟨⟨(rl 2 (by omega)).trans r1, r2, (rl 3 (by omega)).trans r3, r4, by rw [g 0 (by omega) (by omega)]; exact r5, by rw [g 0 (by omega) (by omega)]; exact r6⟩, fun c hc => ?_, fun p hp => ?_, ?_, ?_, ?_⟩, hk, ⟨fun c hc => ?_, fun p hp => ?_, fun p q hp hq => ?_⟩, ⟨?_, ?_⟩, ⟨⟨l, tl1, ?_, ?_, (rl 5 (by omega)).trans tl4, fun j hj2 => ?_⟩, ⟨v, wl1, ?_, ?_, (rl 6 (by omega)).trans wl4, fun j hj2 => ?_⟩⟩, z, hz, by rw [g 0 (by omega) (by omega)]; exact ez⟩
  · dsimp only
    rw [rl _ (by omega), rl _ (by omega), rl _ (by omega), rl _ (by omega), g 1 (by omega) (by omega), g 2 (by omega) (by omega), g 3 (by omega) (by omega), g 4 (by omega) (by omega)]; exact rc c hc
  · dsimp only
    rw [rl _ (by omega), rl _ (by omega), rl _ (by omega), g 6 (by omega) (by omega), g 7 (by omega) (by omega), g 8 (by omega) (by omega)]; exact rp p hp
  · dsimp only; rw [rl _ (by omega), g 0 (by omega) (by omega)]; exact r7
  · dsimp only; rw [rl _ (by omega), g 0 (by omega) (by omega)]; exact r8
  · dsimp only; rw [rl _ (by omega), g 0 (by omega) (by omega)]; exact r9
  · rw [g 1 (by omega) (by omega), g 2 (by omega) (by omega), g 3 (by omega) (by omega), g 4 (by omega) (by omega)]; exact sr.1 c hc
  · rw [g 6 (by omega) (by omega), g 7 (by omega) (by omega), g 8 (by omega) (by omega)]; exact sr.2.1 p hp
  · rw [g 8 (by omega) (by omega)]; exact sr.2.2 p q hp hq
  · dsimp only
    rcases hWn with rfl | rfl
    · right
      have e : hL0 S' 0 = n := by unfold hL0; rw [show S' (0 + 10) 2 = nI n from h2, nI_clamp (by omega)]
      rw [e]
      exact ⟨r0, hst, hok⟩
    · have e : hL0 S' 0 = hL0 S 0 := by unfold hL0; rw [hS (0 + 10) (by omega) (by omega) (by omega)]
      rw [e, hS 11 (by omega) (by omega) (by omega), hR 119 (by omega) (by omega)]
      have hl := o4.2.1.2.1
      refine tt.1.elim Or.inl (fun y => Or.inr ⟨y.1, fun i hi => ?_, y.2.2⟩)
      rw [hR _ (by omega) (by omega), hR _ (by omega) (by omega)]
      exact y.2.1 i hi
  · dsimp only
    rcases hWn with rfl | rfl
    · have e : hL1 S' 0 = hL1 S 0 := by unfold hL1; rw [hS (0 + 14) (by omega) (by omega) (by omega)]
      rw [e, hS 15 (by omega) (by omega) (by omega), hR 220 (by omega) (by omega)]
      have hl := o5.2.1.2.1
      refine tt.2.elim Or.inl (fun y => Or.inr ⟨y.1, fun i hi => ?_, y.2.2⟩)
      rw [hR _ (by omega) (by omega), hR _ (by omega) (by omega)]
      exact y.2.1 i hi
    · right
      have e : hL1 S' 0 = n := by unfold hL1; rw [show S' (0 + 14) 2 = nI n from h2, nI_clamp (by omega)]
      rw [e]
      exact ⟨r0, hst, hok⟩
  · rw [g 17 (by omega) (by omega)]; exact tl2
  · rw [g 17 (by omega) (by omega)]; exact tl3
  · rw [g 18 (by omega) (by omega), rl _ (by omega)]; exact tl5 j hj2
  · rw [g 19 (by omega) (by omega)]; exact wl2
  · rw [g 19 (by omega) (by omega)]; exact wl3
  · rw [g 20 (by omega) (by omega), rl _ (by omega)]; exact wl5 j hj2
/-- the steps copied into the row -/
def txR (G K : mm_I) (a i : Nat) : Prop := (∀ k, k ≠ 92 → K k = G k) ∧ (∀ j, (∀ q, q < i → j ≠ a + 1 + q ∧ j ≠ a + 51 + q) → K 92 j = G 92 j) ∧ ∀ q, q < i → K 92 (a + 1 + q) = G 96 q ∧ K 92 (a + 51 + q) = G 97 q
theorem txR_s {G K : mm_I} {a i : Nat} (hi : i < 50) (h : txR G K a i) : txR G (mm_up (mm_up K 92 (a + 1 + i) (G 96 i)) 92 (a + 51 + i) (G 97 i)) a (i + 1) := by
  refine ⟨fun k hk => by rw [mm_up_ne _ _ _ _ _ hk, mm_up_ne _ _ _ _ _ hk]; exact h.1 k hk, fun j hj => ?_, fun q hq => ⟨?_, ?_⟩⟩
  · have := hj i (by omega)
    rw [mm_up_at, if_neg (by omega), mm_up_at, if_neg (by omega)]
    exact h.2.1 j (fun q hq => hj q (by omega))
  · rw [mm_up_at, if_neg (by omega), mm_up_at]
    by_cases e : q = i
    · rw [if_pos ⟨rfl, by rw [e]⟩, e]
    · rw [if_neg (by omega)]; exact (h.2.2 q (by omega)).1
  · rw [mm_up_at]
    by_cases e : q = i
    · rw [if_pos ⟨rfl, by rw [e]⟩, e]
    · rw [if_neg (by omega), mm_up_at, if_neg (by omega)]; exact (h.2.2 q (by omega)).2
theorem lm_txt {X : Nat × (Nat → Int32)} {d : Nat} {G : mm_I} {a n0 : Nat} {w : Int32} {P : Int32 → mm_I → Prop} (e9 : G 91 9 = nI n0) (hn : n0 ≤ 50) (ha : a ≤ 220) (hQ : ∀ K, txR G K a n0 → P 1 K) : ∀ (n i : Nat) (K : mm_I), i + n = n0 → txR G K a i → mm_Ev mm_T0 X d 182 116 [.ref 91, .int w, .int (nI a), .int (nI i)] [] K (mm_pi P) := by
  have tm := tM
  have tr := tR
  have t6 : mm_T0[96]? = some (aC 50) := rfl
  have t7 : mm_T0[97]? = some (aC 50) := rfl
  intro n
  induction n with
  | zero =>
    intro i K hi h
    have e : i = n0 := by omega
    subst e
    refine ev_ild3 k182_116 ?_
    refine ev_ald0 k182_117 ?_
    refine ev_gfv (j := 9) k182_118 (by first | assumption | rfl) rfl rfl rfl rfl ((congrFun (h.1 91 (by decide)) 9).trans e9) ?_
    refine ev_jcmp_ge k182_121 (fun h121 => ?_) (fun h121 => absurd h121 (nI_nlt (Nat.le_refl _) (by omega)))
    refine ev_iconst k182_163 ?_
    refine ev_ri k182_164 rfl ?_
    exact hQ K h
  | succ n ih =>
    intro i K hi h
    have hlt : i < n0 := by omega
    refine ev_ild3 k182_116 ?_
    refine ev_ald0 k182_117 ?_
    refine ev_gfv (j := 9) k182_118 (by first | assumption | rfl) rfl rfl rfl rfl ((congrFun (h.1 91 (by decide)) 9).trans e9) ?_
    refine ev_jcmp_ge k182_121 (fun h121 => absurd (nI_lt hlt (by omega)) h121) (fun h121 => ?_)
    refine ev_ald0 k182_124 ?_
    refine ev_getr k182_125 (by first | assumption | rfl) rfl rfl rfl ?_
    refine ev_ild2 k182_128 ?_
    refine ev_iconst k182_129 ?_
    refine ev_iadd k182_130 ?_
    refine ev_ild3 k182_131 ?_
    refine ev_iadd k182_132 ?_
    rw [show nI a + 1 + nI i = nI (a + 1 + i) from by rw [show (1 : Int32) = nI 1 from rfl, nI_add, nI_add]]
    refine ev_ald0 k182_133 ?_
    refine ev_getr k182_134 (by first | assumption | rfl) rfl rfl rfl ?_
    refine ev_ild3 k182_137 ?_
    refine ev_ialv (j := i) k182_138 (by first | assumption | rfl) (by omega) (nI_clamp (by omega)) (vp_in_nI (show i < 50 by omega) (by omega)) (congrFun (h.1 96 (by decide)) i) ?_
    refine ev_ias (j := (a + 1 + i)) k182_139 (by first | assumption | rfl) (nI_clamp (by omega)) (vp_in_nI (show a + 1 + i < 321 by omega) (by omega)) ?_
    refine ev_ald0 k182_140 ?_
    refine ev_getr k182_141 (by first | assumption | rfl) rfl rfl rfl ?_
    refine ev_ild2 k182_144 ?_
    refine ev_bipush k182_145 ?_
    refine ev_iadd k182_147 ?_
    refine ev_ild3 k182_148 ?_
    refine ev_iadd k182_149 ?_
    rw [show nI a + 51 + nI i = nI (a + 51 + i) from by rw [show (51 : Int32) = nI 51 from rfl, nI_add, nI_add]]
    refine ev_ald0 k182_150 ?_
    refine ev_getr k182_151 (by first | assumption | rfl) rfl rfl rfl ?_
    refine ev_ild3 k182_154 ?_
    refine ev_ialv (j := i) k182_155 (by first | assumption | rfl) (by omega) (nI_clamp (by omega)) (vp_in_nI (show i < 50 by omega) (by omega)) (show _ = G 97 i from by rw [mm_up_ne _ _ _ _ _ (by decide)]; exact congrFun (h.1 97 (by decide)) i) ?_
    refine ev_ias (j := (a + 51 + i)) k182_156 (by first | assumption | rfl) (nI_clamp (by omega)) (vp_in_nI (show a + 51 + i < 321 by omega) (by omega)) ?_
    refine ev_inc3 k182_157 rfl ?_
    refine ev_goto k182_160 ?_
    rw [nI_1]
    exact ih (i + 1) _ (by omega) (txR_s (by omega) h)
theorem sm_anyR {X : Nat × (Nat → Int32)} {d : Nat} {J : mm_I} {g : Nat → Int32} {u L : Nat} {P : mm_I → Prop} (hb : mdB J g u L) (h : mdE J J 0 0 []) (hQ : ∀ K, (((pLv (pOp g u 5) g 5 0).2.2 = true ∧ mdE J K 0 (pLv (pOp g u 5) g 5 0).1 (pLv (pOp g u 5) g 5 0).2.1) ∨ ((pLv (pOp g u 5) g 5 0).2.2 = false ∧ mdF J K (pLv (pOp g u 5) g 5 0).1)) → P K) : mm_Ev mm_T0 X (d + 46) 181 0 (mm_ent 181 [.ref 91]) [] J (mm_pv P) := by
  refine lvM_all hb (opM_all hb 5 (by omega)) _ 0 [] J P (by omega) (by omega) (by decide) h (fun hk K h1 => hQ K (Or.inl ⟨hk, ?_⟩)) (fun hk K h1 => hQ K (Or.inr ⟨hk, h1⟩))
  rw [List.append_nil] at h1
  exact h1
