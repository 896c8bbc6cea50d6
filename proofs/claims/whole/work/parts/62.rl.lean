/-! The reference's levels -/
def opM (X : Nat × (Nat → Int32)) (J : mm_I) (g : Nat → Int32) (u L k : Nat) : Prop := ∀ (D p : Nat) (l : List Int32) (K : mm_I) (P : mm_I → Prop), 6 + 7 * k ≤ D → p ≤ L → l.length ≤ p → mdE J K (5 - k) p l → ((pOp g u k p).2.2 = true → ∀ K', mdE J K' (5 - k) (pOp g u k p).1 ((pOp g u k p).2.1 ++ l) → P K') → ((pOp g u k p).2.2 = false → ∀ K', mdF J K' (pOp g u k p).1 → P K') → mm_Ev mm_T0 X D 176 0 (mm_ent 176 [.ref 91]) [] K (mm_pv P)
def lvM (X : Nat × (Nat → Int32)) (J : mm_I) (g : Nat → Int32) (u L k j M : Nat) : Prop := ∀ (D p : Nat) (l : List Int32) (K : mm_I) (P : mm_I → Prop), 6 + 7 * k + j ≤ D → p ≤ L → l.length ≤ p → mdE J K (5 - k) p l → ((pLv (pOp g u k) g j p).2.2 = true → ∀ K', mdE J K' (5 - k) (pLv (pOp g u k) g j p).1 ((pLv (pOp g u k) g j p).2.1 ++ l) → P K') → ((pLv (pOp g u k) g j p).2.2 = false → ∀ K', mdF J K' (pLv (pOp g u k) g j p).1 → P K') → mm_Ev mm_T0 X D M 0 (mm_ent M [.ref 91]) [] K (mm_pv P)
theorem lvO_4 (b : Int32) : lvO b = 4 ↔ b = 42 ∨ b = 47 ∨ b = 37 := by
  unfold lvO
  repeat' split
  all_goals simp_all
  all_goals decide
theorem lvO_3 (b : Int32) : lvO b = 3 ↔ b = 43 ∨ b = 45 := by
  unfold lvO
  repeat' split
  all_goals simp_all
  all_goals decide
theorem lvO_2 (b : Int32) : lvO b = 2 ↔ b = 60 ∨ b = 61 ∨ b = 62 := by
  unfold lvO
  repeat' split
  all_goals simp_all
  all_goals decide
theorem lvO_1 (b : Int32) : lvO b = 1 ↔ b = 38 := by
  unfold lvO
  repeat' split
  all_goals simp_all
  all_goals decide
theorem lvO_0 (b : Int32) : lvO b = 0 ↔ b = 124 := by
  unfold lvO
  repeat' split
  all_goals simp_all
  all_goals decide
theorem st_sg {c x w : Int32} (h : c ∈ ([37, 38, 42, 43, 45, 47, 60, 61, 62, 124] : List Int32)) (hx : x = c) : stR (-c) x w := Or.inr (Or.inr (Or.inr ⟨c, h, rfl, hx⟩))
theorem lm_times {X : Nat × (Nat → Int32)} {J : mm_I} {g : Nat → Int32} {u L k : Nat} {D : Nat} (hb : mdB J g u L) (hin : lvM X J g u L k 0 176) (hD : 6 + 7 * k + 0 ≤ D + 6) {P : mm_I → Prop} : ∀ (n p : Nat) (l : List Int32) (K : mm_I) (v1 : Value), 51 ≤ p + n → p ≤ L → l.length ≤ p → mdE J K (5 - k) p l → ((pLp (pLv (pOp g u k) g 0) g (nI (4 - 0)) n p l).2.2 = true → ∀ K', mdE J K' (5 - k) (pLp (pLv (pOp g u k) g 0) g (nI (4 - 0)) n p l).1 (pLp (pLv (pOp g u k) g 0) g (nI (4 - 0)) n p l).2.1 → P K') → ((pLp (pLv (pOp g u k) g 0) g (nI (4 - 0)) n p l).2.2 = false → ∀ K', mdF J K' (pLp (pLv (pOp g u k) g 0) g (nI (4 - 0)) n p l).1 → P K') → mm_Ev mm_T0 X (D + 7) 177 4 [.ref 91, v1] [] K (mm_pv P) := by
  have tm := tM
  have tr := tR
  have hL := hb.1.1
  intro n
  induction n with
  | zero => intro p l K v1 h51 hp; omega
  | succ n ih =>
    intro p l K v1 h51 hp hl h hQ1 hQ2
    refine ev_ald0 k177_4 ?_
    refine ev_gfv (j := 12) k177_5 (by first | assumption | rfl) rfl rfl rfl rfl h.2.2.2.2.2.1 ?_
    refine ev_if_ne k177_8 (fun h8 => absurd rfl h8) (fun h8 => ?_)
    refine ev_ald0 k177_11 ?_
    refine ev_cV1i k177_12 cs_246 (by first | assumption | rfl) (by omega) (Nat.le_of_ble_eq_true rfl) rfl rfl rfl ?_
    refine sm_look hb (h.1 92 (by decide) (by decide) (by decide)) h.2.2.2.1 hp ?_
    refine ev_bipush k177_15 ?_
    refine ev_icmp_eq k177_17 (fun h17 => ?_) (fun h17 => ?_)
    ·
      refine ev_ald0 k177_38 ?_
      refine ev_cV1i k177_39 cs_246 (by first | assumption | rfl) (by omega) (Nat.le_of_ble_eq_true rfl) rfl rfl rfl ?_
      refine sm_look hb (h.1 92 (by decide) (by decide) (by decide)) h.2.2.2.1 hp ?_
      refine ev_ist1 k177_42 rfl ?_
      refine ev_ald0 k177_43 ?_
      refine ev_dup k177_44 rfl ?_
      refine ev_gfv (j := 10) k177_45 (by first | assumption | rfl) rfl rfl rfl rfl h.2.2.2.1 ?_
      refine ev_iconst k177_48 ?_
      refine ev_iadd k177_49 ?_
      rw [nI_1]
      refine ev_pf (j := 10) k177_50 (by first | assumption | rfl) rfl rfl rfl ?_
      refine ev_ald0 k177_53 ?_
      have hz : lvO (g p) = nI (4 - 0) := (lvO_4 _).mpr (Or.inl h17)
      have hpl : p < L := g_lt hb.1 (fun w => lvO_m1 (j := 0) (by decide) (by rw [← w]; exact hz))
      have hok := pLv_ok hb.1 (pOp_ok (u := u) hb.1 k) 0 (by omega) (p + 1) (by omega)
      have e : pLp (pLv (pOp g u k) g 0) g (nI (4 - 0)) (n + 1) p l = if (pLv (pOp g u k) g 0 (p + 1)).2.2 = true then pLp (pLv (pOp g u k) g 0) g (nI (4 - 0)) n (pLv (pOp g u k) g 0 (p + 1)).1 (-(g p) :: ((pLv (pOp g u k) g 0 (p + 1)).2.1 ++ l)) else ((pLv (pOp g u k) g 0 (p + 1)).1, [], false) := if_pos hz
      rw [e] at hQ1 hQ2
      refine ev_cV1v k177_54 cs_248 rfl (by omega) (Nat.le_of_ble_eq_true rfl) rfl rfl rfl ?_
      refine hin _ (p + 1) l _ _ (by omega) (by omega) (by omega) (mdE_up h (Or.inl ⟨rfl, rfl, rfl⟩)) (fun hk K1 h1 => ?_) (fun hk K1 h1 => ?_)
      ·
        refine ev_ald0 k177_57 ?_
        refine ev_ild1 k177_58 ?_
        refine ev_iconst k177_59 ?_
        refine ev_cV3v k177_60 cs_247 (by first | assumption | rfl) (by omega) (Nat.le_of_ble_eq_true rfl) rfl rfl rfl ?_
        refine sm_step (s := -(g p)) h1 (by have := hok.2.2 hk; have := hok.2.1; simp only [List.length_append]; omega) (st_sg (by rw [h17]; decide) rfl) (fun K2 h2 => ?_)
        refine ev_goto k177_63 ?_
        rw [if_pos hk] at hQ1 hQ2
        have hk2 := hok.2.2 hk
        exact ih _ _ K2 _ (by omega) hok.2.1 (by simp only [List.length_cons, List.length_append]; omega) h2 hQ1 hQ2
      ·
        refine ev_ald0 k177_57 ?_
        refine ev_ild1 k177_58 ?_
        refine ev_iconst k177_59 ?_
        refine ev_cV3v k177_60 cs_247 (by first | assumption | rfl) (by omega) (Nat.le_of_ble_eq_true rfl) rfl rfl rfl ?_
        refine sm_stepF h1 (fun K2 h2 => ?_)
        refine ev_goto k177_63 ?_
        refine ev_ald0 k177_4 ?_
        refine ev_gfv (j := 12) k177_5 (by first | assumption | rfl) rfl rfl rfl rfl h2.2.2.2.1 ?_
        refine ev_if_ne k177_8 (fun h8 => ?_) (fun h8 => absurd h8 (by decide))
        refine ev_rv k177_66 rfl ?_
        rw [if_neg (by rw [hk]; decide)] at hQ2
        exact hQ2 rfl K2 h2
    ·
      refine ev_ald0 k177_20 ?_
      refine ev_cV1i k177_21 cs_246 (by first | assumption | rfl) (by omega) (Nat.le_of_ble_eq_true rfl) rfl rfl rfl ?_
      refine sm_look hb (h.1 92 (by decide) (by decide) (by decide)) h.2.2.2.1 hp ?_
      refine ev_bipush k177_24 ?_
      refine ev_icmp_eq k177_26 (fun h26 => ?_) (fun h26 => ?_)
      ·
        refine ev_ald0 k177_38 ?_
        refine ev_cV1i k177_39 cs_246 (by first | assumption | rfl) (by omega) (Nat.le_of_ble_eq_true rfl) rfl rfl rfl ?_
        refine sm_look hb (h.1 92 (by decide) (by decide) (by decide)) h.2.2.2.1 hp ?_
        refine ev_ist1 k177_42 rfl ?_
        refine ev_ald0 k177_43 ?_
        refine ev_dup k177_44 rfl ?_
        refine ev_gfv (j := 10) k177_45 (by first | assumption | rfl) rfl rfl rfl rfl h.2.2.2.1 ?_
        refine ev_iconst k177_48 ?_
        refine ev_iadd k177_49 ?_
        rw [nI_1]
        refine ev_pf (j := 10) k177_50 (by first | assumption | rfl) rfl rfl rfl ?_
        refine ev_ald0 k177_53 ?_
        have hz : lvO (g p) = nI (4 - 0) := (lvO_4 _).mpr (Or.inr (Or.inl h26))
        have hpl : p < L := g_lt hb.1 (fun w => lvO_m1 (j := 0) (by decide) (by rw [← w]; exact hz))
        have hok := pLv_ok hb.1 (pOp_ok (u := u) hb.1 k) 0 (by omega) (p + 1) (by omega)
        have e : pLp (pLv (pOp g u k) g 0) g (nI (4 - 0)) (n + 1) p l = if (pLv (pOp g u k) g 0 (p + 1)).2.2 = true then pLp (pLv (pOp g u k) g 0) g (nI (4 - 0)) n (pLv (pOp g u k) g 0 (p + 1)).1 (-(g p) :: ((pLv (pOp g u k) g 0 (p + 1)).2.1 ++ l)) else ((pLv (pOp g u k) g 0 (p + 1)).1, [], false) := if_pos hz
        rw [e] at hQ1 hQ2
        refine ev_cV1v k177_54 cs_248 rfl (by omega) (Nat.le_of_ble_eq_true rfl) rfl rfl rfl ?_
        refine hin _ (p + 1) l _ _ (by omega) (by omega) (by omega) (mdE_up h (Or.inl ⟨rfl, rfl, rfl⟩)) (fun hk K1 h1 => ?_) (fun hk K1 h1 => ?_)
        ·
          refine ev_ald0 k177_57 ?_
          refine ev_ild1 k177_58 ?_
          refine ev_iconst k177_59 ?_
          refine ev_cV3v k177_60 cs_247 (by first | assumption | rfl) (by omega) (Nat.le_of_ble_eq_true rfl) rfl rfl rfl ?_
          refine sm_step (s := -(g p)) h1 (by have := hok.2.2 hk; have := hok.2.1; simp only [List.length_append]; omega) (st_sg (by rw [h26]; decide) rfl) (fun K2 h2 => ?_)
          refine ev_goto k177_63 ?_
          rw [if_pos hk] at hQ1 hQ2
          have hk2 := hok.2.2 hk
          exact ih _ _ K2 _ (by omega) hok.2.1 (by simp only [List.length_cons, List.length_append]; omega) h2 hQ1 hQ2
        ·
          refine ev_ald0 k177_57 ?_
          refine ev_ild1 k177_58 ?_
          refine ev_iconst k177_59 ?_
          refine ev_cV3v k177_60 cs_247 (by first | assumption | rfl) (by omega) (Nat.le_of_ble_eq_true rfl) rfl rfl rfl ?_
          refine sm_stepF h1 (fun K2 h2 => ?_)
          refine ev_goto k177_63 ?_
          refine ev_ald0 k177_4 ?_
          refine ev_gfv (j := 12) k177_5 (by first | assumption | rfl) rfl rfl rfl rfl h2.2.2.2.1 ?_
          refine ev_if_ne k177_8 (fun h8 => ?_) (fun h8 => absurd h8 (by decide))
          refine ev_rv k177_66 rfl ?_
          rw [if_neg (by rw [hk]; decide)] at hQ2
          exact hQ2 rfl K2 h2
      ·
        refine ev_ald0 k177_29 ?_
        refine ev_cV1i k177_30 cs_246 (by first | assumption | rfl) (by omega) (Nat.le_of_ble_eq_true rfl) rfl rfl rfl ?_
        refine sm_look hb (h.1 92 (by decide) (by decide) (by decide)) h.2.2.2.1 hp ?_
        refine ev_bipush k177_33 ?_
        refine ev_icmp_ne k177_35 (fun h35 => ?_) (fun h35 => ?_)
        ·
          refine ev_rv k177_66 rfl ?_
          have e : pLp (pLv (pOp g u k) g 0) g (nI (4 - 0)) (n + 1) p l = (p, l, true) := if_neg (fun z => ((lvO_4 _).mp z).elim h17 (fun w => w.elim h26 h35))
          rw [e] at hQ1
          exact hQ1 rfl K h
        ·
          refine ev_ald0 k177_38 ?_
          refine ev_cV1i k177_39 cs_246 (by first | assumption | rfl) (by omega) (Nat.le_of_ble_eq_true rfl) rfl rfl rfl ?_
          refine sm_look hb (h.1 92 (by decide) (by decide) (by decide)) h.2.2.2.1 hp ?_
          refine ev_ist1 k177_42 rfl ?_
          refine ev_ald0 k177_43 ?_
          refine ev_dup k177_44 rfl ?_
          refine ev_gfv (j := 10) k177_45 (by first | assumption | rfl) rfl rfl rfl rfl h.2.2.2.1 ?_
          refine ev_iconst k177_48 ?_
          refine ev_iadd k177_49 ?_
          rw [nI_1]
          refine ev_pf (j := 10) k177_50 (by first | assumption | rfl) rfl rfl rfl ?_
          refine ev_ald0 k177_53 ?_
          have hz : lvO (g p) = nI (4 - 0) := (lvO_4 _).mpr (Or.inr (Or.inr h35))
          have hpl : p < L := g_lt hb.1 (fun w => lvO_m1 (j := 0) (by decide) (by rw [← w]; exact hz))
          have hok := pLv_ok hb.1 (pOp_ok (u := u) hb.1 k) 0 (by omega) (p + 1) (by omega)
          have e : pLp (pLv (pOp g u k) g 0) g (nI (4 - 0)) (n + 1) p l = if (pLv (pOp g u k) g 0 (p + 1)).2.2 = true then pLp (pLv (pOp g u k) g 0) g (nI (4 - 0)) n (pLv (pOp g u k) g 0 (p + 1)).1 (-(g p) :: ((pLv (pOp g u k) g 0 (p + 1)).2.1 ++ l)) else ((pLv (pOp g u k) g 0 (p + 1)).1, [], false) := if_pos hz
          rw [e] at hQ1 hQ2
          refine ev_cV1v k177_54 cs_248 rfl (by omega) (Nat.le_of_ble_eq_true rfl) rfl rfl rfl ?_
          refine hin _ (p + 1) l _ _ (by omega) (by omega) (by omega) (mdE_up h (Or.inl ⟨rfl, rfl, rfl⟩)) (fun hk K1 h1 => ?_) (fun hk K1 h1 => ?_)
          ·
            refine ev_ald0 k177_57 ?_
            refine ev_ild1 k177_58 ?_
            refine ev_iconst k177_59 ?_
            refine ev_cV3v k177_60 cs_247 (by first | assumption | rfl) (by omega) (Nat.le_of_ble_eq_true rfl) rfl rfl rfl ?_
            refine sm_step (s := -(g p)) h1 (by have := hok.2.2 hk; have := hok.2.1; simp only [List.length_append]; omega) (st_sg (by rw [h35]; decide) rfl) (fun K2 h2 => ?_)
            refine ev_goto k177_63 ?_
            rw [if_pos hk] at hQ1 hQ2
            have hk2 := hok.2.2 hk
            exact ih _ _ K2 _ (by omega) hok.2.1 (by simp only [List.length_cons, List.length_append]; omega) h2 hQ1 hQ2
          ·
            refine ev_ald0 k177_57 ?_
            refine ev_ild1 k177_58 ?_
            refine ev_iconst k177_59 ?_
            refine ev_cV3v k177_60 cs_247 (by first | assumption | rfl) (by omega) (Nat.le_of_ble_eq_true rfl) rfl rfl rfl ?_
            refine sm_stepF h1 (fun K2 h2 => ?_)
            refine ev_goto k177_63 ?_
            refine ev_ald0 k177_4 ?_
            refine ev_gfv (j := 12) k177_5 (by first | assumption | rfl) rfl rfl rfl rfl h2.2.2.2.1 ?_
            refine ev_if_ne k177_8 (fun h8 => ?_) (fun h8 => absurd h8 (by decide))
            refine ev_rv k177_66 rfl ?_
            rw [if_neg (by rw [hk]; decide)] at hQ2
            exact hQ2 rfl K2 h2
theorem lv_times {X : Nat × (Nat → Int32)} {J : mm_I} {g : Nat → Int32} {u L k : Nat} (hb : mdB J g u L) (hin : lvM X J g u L k 0 176) : lvM X J g u L k 1 177 := by
  intro D p l K P hD hp hl h hQ1 hQ2
  have hL := hb.1.1
  obtain ⟨D', rfl⟩ : ∃ D', D = D' + 7 := ⟨D - 7, by omega⟩
  show mm_Ev mm_T0 X (D' + 7) 177 0 [.ref 91, .retAddr 0] [] K (mm_pv P)
  refine ev_ald0 k177_0 ?_
  refine ev_cV1v k177_1 cs_248 rfl (by omega) (Nat.le_of_ble_eq_true rfl) rfl rfl rfl ?_
  have hok := pLv_ok hb.1 (pOp_ok (u := u) hb.1 k) 0 (by omega) p hp
  refine hin _ p l K _ (by omega) hp hl h (fun hk K1 h1 => ?_) (fun hk K1 h1 => ?_)
  · have ej : pLv (pOp g u k) g 1 p = pLp (pLv (pOp g u k) g 0) g (nI (4 - 0)) 50 (pLv (pOp g u k) g 0 p).1 (pLv (pOp g u k) g 0 p).2.1 := if_pos hk
    obtain ⟨a1, a2, a3⟩ := pLp_app (inner := pLv (pOp g u k) g 0) (g := g) (lv := nI (4 - 0)) 50 (pLv (pOp g u k) g 0 p).1 (pLv (pOp g u k) g 0 p).2.1 l
    refine lm_times (D := D') hb hin (by omega) 50 _ _ K1 _ (by have := hok.2.2 hk; omega) hok.2.1 (by have := hok.2.2 hk; simp only [List.length_append]; omega) h1 (fun hk2 K2 h2 => ?_) (fun hk2 K2 h2 => ?_)
    · rw [a2] at hk2
      rw [a1, a3 hk2] at h2
      exact hQ1 (by rw [ej]; exact hk2) K2 (by rw [ej]; exact h2)
    · rw [a2] at hk2
      rw [a1] at h2
      exact hQ2 (by rw [ej]; exact hk2) K2 (by rw [ej]; exact h2)
  · refine ev_ald0 k177_4 ?_
    refine ev_gfv (j := 12) k177_5 (by first | assumption | rfl) rfl rfl rfl rfl h1.2.2.2.1 ?_
    refine ev_if_ne k177_8 (fun h8 => ?_) (fun h8 => absurd h8 (by decide))
    refine ev_rv k177_66 rfl ?_
    have ej : pLv (pOp g u k) g 1 p = ((pLv (pOp g u k) g 0 p).1, [], false) := if_neg (by rw [hk]; decide)
    exact hQ2 (by rw [ej]) K1 (by rw [ej]; exact h1)
theorem lm_sum {X : Nat × (Nat → Int32)} {J : mm_I} {g : Nat → Int32} {u L k : Nat} {D : Nat} (hb : mdB J g u L) (hin : lvM X J g u L k 1 177) (hD : 6 + 7 * k + 1 ≤ D + 6) {P : mm_I → Prop} : ∀ (n p : Nat) (l : List Int32) (K : mm_I) (v1 : Value), 51 ≤ p + n → p ≤ L → l.length ≤ p → mdE J K (5 - k) p l → ((pLp (pLv (pOp g u k) g 1) g (nI (4 - 1)) n p l).2.2 = true → ∀ K', mdE J K' (5 - k) (pLp (pLv (pOp g u k) g 1) g (nI (4 - 1)) n p l).1 (pLp (pLv (pOp g u k) g 1) g (nI (4 - 1)) n p l).2.1 → P K') → ((pLp (pLv (pOp g u k) g 1) g (nI (4 - 1)) n p l).2.2 = false → ∀ K', mdF J K' (pLp (pLv (pOp g u k) g 1) g (nI (4 - 1)) n p l).1 → P K') → mm_Ev mm_T0 X (D + 7) 178 4 [.ref 91, v1] [] K (mm_pv P) := by
  have tm := tM
  have tr := tR
  have hL := hb.1.1
  intro n
  induction n with
  | zero => intro p l K v1 h51 hp; omega
  | succ n ih =>
    intro p l K v1 h51 hp hl h hQ1 hQ2
    refine ev_ald0 k178_4 ?_
    refine ev_gfv (j := 12) k178_5 (by first | assumption | rfl) rfl rfl rfl rfl h.2.2.2.2.2.1 ?_
    refine ev_if_ne k178_8 (fun h8 => absurd rfl h8) (fun h8 => ?_)
    refine ev_ald0 k178_11 ?_
    refine ev_cV1i k178_12 cs_246 (by first | assumption | rfl) (by omega) (Nat.le_of_ble_eq_true rfl) rfl rfl rfl ?_
    refine sm_look hb (h.1 92 (by decide) (by decide) (by decide)) h.2.2.2.1 hp ?_
    refine ev_bipush k178_15 ?_
    refine ev_icmp_eq k178_17 (fun h17 => ?_) (fun h17 => ?_)
    ·
      refine ev_ald0 k178_29 ?_
      refine ev_cV1i k178_30 cs_246 (by first | assumption | rfl) (by omega) (Nat.le_of_ble_eq_true rfl) rfl rfl rfl ?_
      refine sm_look hb (h.1 92 (by decide) (by decide) (by decide)) h.2.2.2.1 hp ?_
      refine ev_ist1 k178_33 rfl ?_
      refine ev_ald0 k178_34 ?_
      refine ev_dup k178_35 rfl ?_
      refine ev_gfv (j := 10) k178_36 (by first | assumption | rfl) rfl rfl rfl rfl h.2.2.2.1 ?_
      refine ev_iconst k178_39 ?_
      refine ev_iadd k178_40 ?_
      rw [nI_1]
      refine ev_pf (j := 10) k178_41 (by first | assumption | rfl) rfl rfl rfl ?_
      refine ev_ald0 k178_44 ?_
      have hz : lvO (g p) = nI (4 - 1) := (lvO_3 _).mpr (Or.inl h17)
      have hpl : p < L := g_lt hb.1 (fun w => lvO_m1 (j := 1) (by decide) (by rw [← w]; exact hz))
      have hok := pLv_ok hb.1 (pOp_ok (u := u) hb.1 k) 1 (by omega) (p + 1) (by omega)
      have e : pLp (pLv (pOp g u k) g 1) g (nI (4 - 1)) (n + 1) p l = if (pLv (pOp g u k) g 1 (p + 1)).2.2 = true then pLp (pLv (pOp g u k) g 1) g (nI (4 - 1)) n (pLv (pOp g u k) g 1 (p + 1)).1 (-(g p) :: ((pLv (pOp g u k) g 1 (p + 1)).2.1 ++ l)) else ((pLv (pOp g u k) g 1 (p + 1)).1, [], false) := if_pos hz
      rw [e] at hQ1 hQ2
      refine ev_cV1v k178_45 cs_253 rfl (by omega) (Nat.le_of_ble_eq_true rfl) rfl rfl rfl ?_
      refine hin _ (p + 1) l _ _ (by omega) (by omega) (by omega) (mdE_up h (Or.inl ⟨rfl, rfl, rfl⟩)) (fun hk K1 h1 => ?_) (fun hk K1 h1 => ?_)
      ·
        refine ev_ald0 k178_48 ?_
        refine ev_ild1 k178_49 ?_
        refine ev_iconst k178_50 ?_
        refine ev_cV3v k178_51 cs_247 (by first | assumption | rfl) (by omega) (Nat.le_of_ble_eq_true rfl) rfl rfl rfl ?_
        refine sm_step (s := -(g p)) h1 (by have := hok.2.2 hk; have := hok.2.1; simp only [List.length_append]; omega) (st_sg (by rw [h17]; decide) rfl) (fun K2 h2 => ?_)
        refine ev_goto k178_54 ?_
        rw [if_pos hk] at hQ1 hQ2
        have hk2 := hok.2.2 hk
        exact ih _ _ K2 _ (by omega) hok.2.1 (by simp only [List.length_cons, List.length_append]; omega) h2 hQ1 hQ2
      ·
        refine ev_ald0 k178_48 ?_
        refine ev_ild1 k178_49 ?_
        refine ev_iconst k178_50 ?_
        refine ev_cV3v k178_51 cs_247 (by first | assumption | rfl) (by omega) (Nat.le_of_ble_eq_true rfl) rfl rfl rfl ?_
        refine sm_stepF h1 (fun K2 h2 => ?_)
        refine ev_goto k178_54 ?_
        refine ev_ald0 k178_4 ?_
        refine ev_gfv (j := 12) k178_5 (by first | assumption | rfl) rfl rfl rfl rfl h2.2.2.2.1 ?_
        refine ev_if_ne k178_8 (fun h8 => ?_) (fun h8 => absurd h8 (by decide))
        refine ev_rv k178_57 rfl ?_
        rw [if_neg (by rw [hk]; decide)] at hQ2
        exact hQ2 rfl K2 h2
    ·
      refine ev_ald0 k178_20 ?_
      refine ev_cV1i k178_21 cs_246 (by first | assumption | rfl) (by omega) (Nat.le_of_ble_eq_true rfl) rfl rfl rfl ?_
      refine sm_look hb (h.1 92 (by decide) (by decide) (by decide)) h.2.2.2.1 hp ?_
      refine ev_bipush k178_24 ?_
      refine ev_icmp_ne k178_26 (fun h26 => ?_) (fun h26 => ?_)
      ·
        refine ev_rv k178_57 rfl ?_
        have e : pLp (pLv (pOp g u k) g 1) g (nI (4 - 1)) (n + 1) p l = (p, l, true) := if_neg (fun z => ((lvO_3 _).mp z).elim h17 h26)
        rw [e] at hQ1
        exact hQ1 rfl K h
      ·
        refine ev_ald0 k178_29 ?_
        refine ev_cV1i k178_30 cs_246 (by first | assumption | rfl) (by omega) (Nat.le_of_ble_eq_true rfl) rfl rfl rfl ?_
        refine sm_look hb (h.1 92 (by decide) (by decide) (by decide)) h.2.2.2.1 hp ?_
        refine ev_ist1 k178_33 rfl ?_
        refine ev_ald0 k178_34 ?_
        refine ev_dup k178_35 rfl ?_
        refine ev_gfv (j := 10) k178_36 (by first | assumption | rfl) rfl rfl rfl rfl h.2.2.2.1 ?_
        refine ev_iconst k178_39 ?_
        refine ev_iadd k178_40 ?_
        rw [nI_1]
        refine ev_pf (j := 10) k178_41 (by first | assumption | rfl) rfl rfl rfl ?_
        refine ev_ald0 k178_44 ?_
        have hz : lvO (g p) = nI (4 - 1) := (lvO_3 _).mpr (Or.inr h26)
        have hpl : p < L := g_lt hb.1 (fun w => lvO_m1 (j := 1) (by decide) (by rw [← w]; exact hz))
        have hok := pLv_ok hb.1 (pOp_ok (u := u) hb.1 k) 1 (by omega) (p + 1) (by omega)
        have e : pLp (pLv (pOp g u k) g 1) g (nI (4 - 1)) (n + 1) p l = if (pLv (pOp g u k) g 1 (p + 1)).2.2 = true then pLp (pLv (pOp g u k) g 1) g (nI (4 - 1)) n (pLv (pOp g u k) g 1 (p + 1)).1 (-(g p) :: ((pLv (pOp g u k) g 1 (p + 1)).2.1 ++ l)) else ((pLv (pOp g u k) g 1 (p + 1)).1, [], false) := if_pos hz
        rw [e] at hQ1 hQ2
        refine ev_cV1v k178_45 cs_253 rfl (by omega) (Nat.le_of_ble_eq_true rfl) rfl rfl rfl ?_
        refine hin _ (p + 1) l _ _ (by omega) (by omega) (by omega) (mdE_up h (Or.inl ⟨rfl, rfl, rfl⟩)) (fun hk K1 h1 => ?_) (fun hk K1 h1 => ?_)
        ·
          refine ev_ald0 k178_48 ?_
          refine ev_ild1 k178_49 ?_
          refine ev_iconst k178_50 ?_
          refine ev_cV3v k178_51 cs_247 (by first | assumption | rfl) (by omega) (Nat.le_of_ble_eq_true rfl) rfl rfl rfl ?_
          refine sm_step (s := -(g p)) h1 (by have := hok.2.2 hk; have := hok.2.1; simp only [List.length_append]; omega) (st_sg (by rw [h26]; decide) rfl) (fun K2 h2 => ?_)
          refine ev_goto k178_54 ?_
          rw [if_pos hk] at hQ1 hQ2
          have hk2 := hok.2.2 hk
          exact ih _ _ K2 _ (by omega) hok.2.1 (by simp only [List.length_cons, List.length_append]; omega) h2 hQ1 hQ2
        ·
          refine ev_ald0 k178_48 ?_
          refine ev_ild1 k178_49 ?_
          refine ev_iconst k178_50 ?_
          refine ev_cV3v k178_51 cs_247 (by first | assumption | rfl) (by omega) (Nat.le_of_ble_eq_true rfl) rfl rfl rfl ?_
          refine sm_stepF h1 (fun K2 h2 => ?_)
          refine ev_goto k178_54 ?_
          refine ev_ald0 k178_4 ?_
          refine ev_gfv (j := 12) k178_5 (by first | assumption | rfl) rfl rfl rfl rfl h2.2.2.2.1 ?_
          refine ev_if_ne k178_8 (fun h8 => ?_) (fun h8 => absurd h8 (by decide))
          refine ev_rv k178_57 rfl ?_
          rw [if_neg (by rw [hk]; decide)] at hQ2
          exact hQ2 rfl K2 h2
theorem lv_sum {X : Nat × (Nat → Int32)} {J : mm_I} {g : Nat → Int32} {u L k : Nat} (hb : mdB J g u L) (hin : lvM X J g u L k 1 177) : lvM X J g u L k 2 178 := by
  intro D p l K P hD hp hl h hQ1 hQ2
  have hL := hb.1.1
  obtain ⟨D', rfl⟩ : ∃ D', D = D' + 7 := ⟨D - 7, by omega⟩
  show mm_Ev mm_T0 X (D' + 7) 178 0 [.ref 91, .retAddr 0] [] K (mm_pv P)
  refine ev_ald0 k178_0 ?_
  refine ev_cV1v k178_1 cs_253 rfl (by omega) (Nat.le_of_ble_eq_true rfl) rfl rfl rfl ?_
  have hok := pLv_ok hb.1 (pOp_ok (u := u) hb.1 k) 1 (by omega) p hp
  refine hin _ p l K _ (by omega) hp hl h (fun hk K1 h1 => ?_) (fun hk K1 h1 => ?_)
  · have ej : pLv (pOp g u k) g 2 p = pLp (pLv (pOp g u k) g 1) g (nI (4 - 1)) 50 (pLv (pOp g u k) g 1 p).1 (pLv (pOp g u k) g 1 p).2.1 := if_pos hk
    obtain ⟨a1, a2, a3⟩ := pLp_app (inner := pLv (pOp g u k) g 1) (g := g) (lv := nI (4 - 1)) 50 (pLv (pOp g u k) g 1 p).1 (pLv (pOp g u k) g 1 p).2.1 l
    refine lm_sum (D := D') hb hin (by omega) 50 _ _ K1 _ (by have := hok.2.2 hk; omega) hok.2.1 (by have := hok.2.2 hk; simp only [List.length_append]; omega) h1 (fun hk2 K2 h2 => ?_) (fun hk2 K2 h2 => ?_)
    · rw [a2] at hk2
      rw [a1, a3 hk2] at h2
      exact hQ1 (by rw [ej]; exact hk2) K2 (by rw [ej]; exact h2)
    · rw [a2] at hk2
      rw [a1] at h2
      exact hQ2 (by rw [ej]; exact hk2) K2 (by rw [ej]; exact h2)
  · refine ev_ald0 k178_4 ?_
    refine ev_gfv (j := 12) k178_5 (by first | assumption | rfl) rfl rfl rfl rfl h1.2.2.2.1 ?_
    refine ev_if_ne k178_8 (fun h8 => ?_) (fun h8 => absurd h8 (by decide))
    refine ev_rv k178_57 rfl ?_
    have ej : pLv (pOp g u k) g 2 p = ((pLv (pOp g u k) g 1 p).1, [], false) := if_neg (by rw [hk]; decide)
    exact hQ2 (by rw [ej]) K1 (by rw [ej]; exact h1)
theorem lv_compares {X : Nat × (Nat → Int32)} {J : mm_I} {g : Nat → Int32} {u L k : Nat} (hb : mdB J g u L) (hin : lvM X J g u L k 2 178) : lvM X J g u L k 3 179 := by
  intro D p l K P hD hp hl h hQ1 hQ2
  have tm := tM
  have tr := tR
  have hL := hb.1.1
  obtain ⟨D', rfl⟩ : ∃ D', D = D' + 7 := ⟨D - 7, by omega⟩
  show mm_Ev mm_T0 X (D' + 7) 179 0 [.ref 91, .retAddr 0] [] K (mm_pv P)
  refine ev_ald0 k179_0 ?_
  refine ev_cV1v k179_1 cs_254 rfl (by omega) (Nat.le_of_ble_eq_true rfl) rfl rfl rfl ?_
  have hok := pLv_ok hb.1 (pOp_ok (u := u) hb.1 k) 2 (by omega) p hp
  refine hin _ p l K _ (by omega) hp hl h (fun hk K1 h1 => ?_) (fun hk K1 h1 => ?_)
  · have ej : pLv (pOp g u k) g 3 p = pLp (pLv (pOp g u k) g 2) g (nI (4 - 2)) 1 (pLv (pOp g u k) g 2 p).1 (pLv (pOp g u k) g 2 p).2.1 := if_pos hk
    refine ev_ald0 k179_4 ?_
    refine ev_cV1i k179_5 cs_246 (by first | assumption | rfl) (by omega) (Nat.le_of_ble_eq_true rfl) rfl rfl rfl ?_
    refine sm_look hb (h1.1 92 (by decide) (by decide) (by decide)) h1.2.2.2.1 hok.2.1 ?_
    refine ev_ist1 k179_8 rfl ?_
    refine ev_ald0 k179_9 ?_
    refine ev_gfv (j := 12) k179_10 (by first | assumption | rfl) rfl rfl rfl rfl h1.2.2.2.2.2.1 ?_
    refine ev_if_ne k179_13 (fun h13 => absurd rfl h13) (fun h13 => ?_)
    refine ev_ild1 k179_16 ?_
    refine ev_bipush k179_17 ?_
    refine ev_icmp_eq k179_19 (fun h19 => ?_) (fun h19 => ?_)
    ·
      refine ev_ald0 k179_34 ?_
      refine ev_dup k179_35 rfl ?_
      refine ev_gfv (j := 10) k179_36 (by first | assumption | rfl) rfl rfl rfl rfl h1.2.2.2.1 ?_
      refine ev_iconst k179_39 ?_
      refine ev_iadd k179_40 ?_
      rw [nI_1]
      refine ev_pf (j := 10) k179_41 (by first | assumption | rfl) rfl rfl rfl ?_
      refine ev_ald0 k179_44 ?_
      have hz : lvO (g (pLv (pOp g u k) g 2 p).1) = nI (4 - 2) := (lvO_2 _).mpr (Or.inl h19)
      have hpl : (pLv (pOp g u k) g 2 p).1 < L := g_lt hb.1 (fun w => lvO_m1 (j := 2) (by decide) (by rw [← w]; exact hz))
      have hok2 := pLv_ok hb.1 (pOp_ok (u := u) hb.1 k) 2 (by omega) ((pLv (pOp g u k) g 2 p).1 + 1) (by omega)
      refine ev_cV1v k179_45 cs_254 rfl (by omega) (Nat.le_of_ble_eq_true rfl) rfl rfl rfl ?_
      refine hin _ ((pLv (pOp g u k) g 2 p).1 + 1) ((pLv (pOp g u k) g 2 p).2.1 ++ l) _ _ (by omega) (by omega) (by have := hok.2.2 hk; simp only [List.length_append]; omega) (mdE_up h1 (Or.inl ⟨rfl, rfl, rfl⟩)) (fun hk2 K2 h3 => ?_) (fun hk2 K2 h3 => ?_)
      ·
        refine ev_ald0 k179_48 ?_
        refine ev_ild1 k179_49 ?_
        refine ev_iconst k179_50 ?_
        refine ev_cV3v k179_51 cs_247 (by first | assumption | rfl) (by omega) (Nat.le_of_ble_eq_true rfl) rfl rfl rfl ?_
        refine sm_step (s := -(g (pLv (pOp g u k) g 2 p).1)) h3 (by have := hok2.2.2 hk2; have := hok2.2.1; have := hok.2.2 hk; simp only [List.length_append]; omega) (st_sg (by rw [h19]; decide) rfl) (fun K3 h4 => ?_)
        refine ev_rv k179_54 rfl ?_
        rw [ej] at hQ1
        rw [show (pLp (pLv (pOp g u k) g 2) g (nI (4 - 2)) 1 (pLv (pOp g u k) g 2 p).1 (pLv (pOp g u k) g 2 p).2.1) = ((pLv (pOp g u k) g 2 ((pLv (pOp g u k) g 2 p).1 + 1)).1, -(g (pLv (pOp g u k) g 2 p).1) :: ((pLv (pOp g u k) g 2 ((pLv (pOp g u k) g 2 p).1 + 1)).2.1 ++ (pLv (pOp g u k) g 2 p).2.1), true) from (if_pos hz).trans (if_pos hk2)] at hQ1
        refine hQ1 rfl K3 ?_
        rw [List.cons_append, List.append_assoc]
        exact h4
      ·
        refine ev_ald0 k179_48 ?_
        refine ev_ild1 k179_49 ?_
        refine ev_iconst k179_50 ?_
        refine ev_cV3v k179_51 cs_247 (by first | assumption | rfl) (by omega) (Nat.le_of_ble_eq_true rfl) rfl rfl rfl ?_
        refine sm_stepF h3 (fun K3 h4 => ?_)
        refine ev_rv k179_54 rfl ?_
        rw [ej] at hQ2
        rw [show (pLp (pLv (pOp g u k) g 2) g (nI (4 - 2)) 1 (pLv (pOp g u k) g 2 p).1 (pLv (pOp g u k) g 2 p).2.1) = ((pLv (pOp g u k) g 2 ((pLv (pOp g u k) g 2 p).1 + 1)).1, [], false) from (if_pos hz).trans (if_neg (by rw [hk2]; decide))] at hQ2
        exact hQ2 rfl K3 h4
    ·
      refine ev_ild1 k179_22 ?_
      refine ev_bipush k179_23 ?_
      refine ev_icmp_eq k179_25 (fun h25 => ?_) (fun h25 => ?_)
      ·
        refine ev_ald0 k179_34 ?_
        refine ev_dup k179_35 rfl ?_
        refine ev_gfv (j := 10) k179_36 (by first | assumption | rfl) rfl rfl rfl rfl h1.2.2.2.1 ?_
        refine ev_iconst k179_39 ?_
        refine ev_iadd k179_40 ?_
        rw [nI_1]
        refine ev_pf (j := 10) k179_41 (by first | assumption | rfl) rfl rfl rfl ?_
        refine ev_ald0 k179_44 ?_
        have hz : lvO (g (pLv (pOp g u k) g 2 p).1) = nI (4 - 2) := (lvO_2 _).mpr (Or.inr (Or.inl h25))
        have hpl : (pLv (pOp g u k) g 2 p).1 < L := g_lt hb.1 (fun w => lvO_m1 (j := 2) (by decide) (by rw [← w]; exact hz))
        have hok2 := pLv_ok hb.1 (pOp_ok (u := u) hb.1 k) 2 (by omega) ((pLv (pOp g u k) g 2 p).1 + 1) (by omega)
        refine ev_cV1v k179_45 cs_254 rfl (by omega) (Nat.le_of_ble_eq_true rfl) rfl rfl rfl ?_
        refine hin _ ((pLv (pOp g u k) g 2 p).1 + 1) ((pLv (pOp g u k) g 2 p).2.1 ++ l) _ _ (by omega) (by omega) (by have := hok.2.2 hk; simp only [List.length_append]; omega) (mdE_up h1 (Or.inl ⟨rfl, rfl, rfl⟩)) (fun hk2 K2 h3 => ?_) (fun hk2 K2 h3 => ?_)
        ·
          refine ev_ald0 k179_48 ?_
          refine ev_ild1 k179_49 ?_
          refine ev_iconst k179_50 ?_
          refine ev_cV3v k179_51 cs_247 (by first | assumption | rfl) (by omega) (Nat.le_of_ble_eq_true rfl) rfl rfl rfl ?_
          refine sm_step (s := -(g (pLv (pOp g u k) g 2 p).1)) h3 (by have := hok2.2.2 hk2; have := hok2.2.1; have := hok.2.2 hk; simp only [List.length_append]; omega) (st_sg (by rw [h25]; decide) rfl) (fun K3 h4 => ?_)
          refine ev_rv k179_54 rfl ?_
          rw [ej] at hQ1
          rw [show (pLp (pLv (pOp g u k) g 2) g (nI (4 - 2)) 1 (pLv (pOp g u k) g 2 p).1 (pLv (pOp g u k) g 2 p).2.1) = ((pLv (pOp g u k) g 2 ((pLv (pOp g u k) g 2 p).1 + 1)).1, -(g (pLv (pOp g u k) g 2 p).1) :: ((pLv (pOp g u k) g 2 ((pLv (pOp g u k) g 2 p).1 + 1)).2.1 ++ (pLv (pOp g u k) g 2 p).2.1), true) from (if_pos hz).trans (if_pos hk2)] at hQ1
          refine hQ1 rfl K3 ?_
          rw [List.cons_append, List.append_assoc]
          exact h4
        ·
          refine ev_ald0 k179_48 ?_
          refine ev_ild1 k179_49 ?_
          refine ev_iconst k179_50 ?_
          refine ev_cV3v k179_51 cs_247 (by first | assumption | rfl) (by omega) (Nat.le_of_ble_eq_true rfl) rfl rfl rfl ?_
          refine sm_stepF h3 (fun K3 h4 => ?_)
          refine ev_rv k179_54 rfl ?_
          rw [ej] at hQ2
          rw [show (pLp (pLv (pOp g u k) g 2) g (nI (4 - 2)) 1 (pLv (pOp g u k) g 2 p).1 (pLv (pOp g u k) g 2 p).2.1) = ((pLv (pOp g u k) g 2 ((pLv (pOp g u k) g 2 p).1 + 1)).1, [], false) from (if_pos hz).trans (if_neg (by rw [hk2]; decide))] at hQ2
          exact hQ2 rfl K3 h4
      ·
        refine ev_ild1 k179_28 ?_
        refine ev_bipush k179_29 ?_
        refine ev_icmp_ne k179_31 (fun h31 => ?_) (fun h31 => ?_)
        ·
          refine ev_rv k179_54 rfl ?_
          rw [ej] at hQ1
          rw [show (pLp (pLv (pOp g u k) g 2) g (nI (4 - 2)) 1 (pLv (pOp g u k) g 2 p).1 (pLv (pOp g u k) g 2 p).2.1) = ((pLv (pOp g u k) g 2 p).1, (pLv (pOp g u k) g 2 p).2.1, true) from if_neg (fun z => ((lvO_2 _).mp z).elim h19 (fun w => w.elim h25 h31))] at hQ1
          exact hQ1 rfl K1 h1
        ·
          refine ev_ald0 k179_34 ?_
          refine ev_dup k179_35 rfl ?_
          refine ev_gfv (j := 10) k179_36 (by first | assumption | rfl) rfl rfl rfl rfl h1.2.2.2.1 ?_
          refine ev_iconst k179_39 ?_
          refine ev_iadd k179_40 ?_
          rw [nI_1]
          refine ev_pf (j := 10) k179_41 (by first | assumption | rfl) rfl rfl rfl ?_
          refine ev_ald0 k179_44 ?_
          have hz : lvO (g (pLv (pOp g u k) g 2 p).1) = nI (4 - 2) := (lvO_2 _).mpr (Or.inr (Or.inr h31))
          have hpl : (pLv (pOp g u k) g 2 p).1 < L := g_lt hb.1 (fun w => lvO_m1 (j := 2) (by decide) (by rw [← w]; exact hz))
          have hok2 := pLv_ok hb.1 (pOp_ok (u := u) hb.1 k) 2 (by omega) ((pLv (pOp g u k) g 2 p).1 + 1) (by omega)
          refine ev_cV1v k179_45 cs_254 rfl (by omega) (Nat.le_of_ble_eq_true rfl) rfl rfl rfl ?_
          refine hin _ ((pLv (pOp g u k) g 2 p).1 + 1) ((pLv (pOp g u k) g 2 p).2.1 ++ l) _ _ (by omega) (by omega) (by have := hok.2.2 hk; simp only [List.length_append]; omega) (mdE_up h1 (Or.inl ⟨rfl, rfl, rfl⟩)) (fun hk2 K2 h3 => ?_) (fun hk2 K2 h3 => ?_)
          ·
            refine ev_ald0 k179_48 ?_
            refine ev_ild1 k179_49 ?_
            refine ev_iconst k179_50 ?_
            refine ev_cV3v k179_51 cs_247 (by first | assumption | rfl) (by omega) (Nat.le_of_ble_eq_true rfl) rfl rfl rfl ?_
            refine sm_step (s := -(g (pLv (pOp g u k) g 2 p).1)) h3 (by have := hok2.2.2 hk2; have := hok2.2.1; have := hok.2.2 hk; simp only [List.length_append]; omega) (st_sg (by rw [h31]; decide) rfl) (fun K3 h4 => ?_)
            refine ev_rv k179_54 rfl ?_
            rw [ej] at hQ1
            rw [show (pLp (pLv (pOp g u k) g 2) g (nI (4 - 2)) 1 (pLv (pOp g u k) g 2 p).1 (pLv (pOp g u k) g 2 p).2.1) = ((pLv (pOp g u k) g 2 ((pLv (pOp g u k) g 2 p).1 + 1)).1, -(g (pLv (pOp g u k) g 2 p).1) :: ((pLv (pOp g u k) g 2 ((pLv (pOp g u k) g 2 p).1 + 1)).2.1 ++ (pLv (pOp g u k) g 2 p).2.1), true) from (if_pos hz).trans (if_pos hk2)] at hQ1
            refine hQ1 rfl K3 ?_
            rw [List.cons_append, List.append_assoc]
            exact h4
          ·
            refine ev_ald0 k179_48 ?_
            refine ev_ild1 k179_49 ?_
            refine ev_iconst k179_50 ?_
            refine ev_cV3v k179_51 cs_247 (by first | assumption | rfl) (by omega) (Nat.le_of_ble_eq_true rfl) rfl rfl rfl ?_
            refine sm_stepF h3 (fun K3 h4 => ?_)
            refine ev_rv k179_54 rfl ?_
            rw [ej] at hQ2
            rw [show (pLp (pLv (pOp g u k) g 2) g (nI (4 - 2)) 1 (pLv (pOp g u k) g 2 p).1 (pLv (pOp g u k) g 2 p).2.1) = ((pLv (pOp g u k) g 2 ((pLv (pOp g u k) g 2 p).1 + 1)).1, [], false) from (if_pos hz).trans (if_neg (by rw [hk2]; decide))] at hQ2
            exact hQ2 rfl K3 h4
  · refine ev_ald0 k179_4 ?_
    refine ev_cV1i k179_5 cs_246 (by first | assumption | rfl) (by omega) (Nat.le_of_ble_eq_true rfl) rfl rfl rfl ?_
    refine sm_look hb (h1.1 92 (by decide) (by decide) (by decide)) h1.2.2.1 hok.2.1 ?_
    refine ev_ist1 k179_8 rfl ?_
    refine ev_ald0 k179_9 ?_
    refine ev_gfv (j := 12) k179_10 (by first | assumption | rfl) rfl rfl rfl rfl h1.2.2.2.1 ?_
    refine ev_if_ne k179_13 (fun h13 => ?_) (fun h13 => absurd h13 (by decide))
    refine ev_rv k179_54 rfl ?_
    have ej : pLv (pOp g u k) g 3 p = ((pLv (pOp g u k) g 2 p).1, [], false) := if_neg (by rw [hk]; decide)
    exact hQ2 (by rw [ej]) K1 (by rw [ej]; exact h1)
theorem lm_all {X : Nat × (Nat → Int32)} {J : mm_I} {g : Nat → Int32} {u L k : Nat} {D : Nat} (hb : mdB J g u L) (hin : lvM X J g u L k 3 179) (hD : 6 + 7 * k + 3 ≤ D + 6) {P : mm_I → Prop} : ∀ (n p : Nat) (l : List Int32) (K : mm_I), 51 ≤ p + n → p ≤ L → l.length ≤ p → mdE J K (5 - k) p l → ((pLp (pLv (pOp g u k) g 3) g (nI (4 - 3)) n p l).2.2 = true → ∀ K', mdE J K' (5 - k) (pLp (pLv (pOp g u k) g 3) g (nI (4 - 3)) n p l).1 (pLp (pLv (pOp g u k) g 3) g (nI (4 - 3)) n p l).2.1 → P K') → ((pLp (pLv (pOp g u k) g 3) g (nI (4 - 3)) n p l).2.2 = false → ∀ K', mdF J K' (pLp (pLv (pOp g u k) g 3) g (nI (4 - 3)) n p l).1 → P K') → mm_Ev mm_T0 X (D + 7) 180 4 [.ref 91] [] K (mm_pv P) := by
  have tm := tM
  have tr := tR
  have hL := hb.1.1
  intro n
  induction n with
  | zero => intro p l K h51 hp; omega
  | succ n ih =>
    intro p l K h51 hp hl h hQ1 hQ2
    refine ev_ald0 k180_4 ?_
    refine ev_gfv (j := 12) k180_5 (by first | assumption | rfl) rfl rfl rfl rfl h.2.2.2.2.2.1 ?_
    refine ev_if_ne k180_8 (fun h8 => absurd rfl h8) (fun h8 => ?_)
    refine ev_ald0 k180_11 ?_
    refine ev_cV1i k180_12 cs_246 (by first | assumption | rfl) (by omega) (Nat.le_of_ble_eq_true rfl) rfl rfl rfl ?_
    refine sm_look hb (h.1 92 (by decide) (by decide) (by decide)) h.2.2.2.1 hp ?_
    refine ev_bipush k180_15 ?_
    refine ev_icmp_ne k180_17 (fun h17 => ?_) (fun h17 => ?_)
    ·
      refine ev_rv k180_44 rfl ?_
      have e : pLp (pLv (pOp g u k) g 3) g (nI (4 - 3)) (n + 1) p l = (p, l, true) := if_neg (fun z => h17 ((lvO_1 _).mp z))
      rw [e] at hQ1
      exact hQ1 rfl K h
    ·
      refine ev_ald0 k180_20 ?_
      refine ev_dup k180_21 rfl ?_
      refine ev_gfv (j := 10) k180_22 (by first | assumption | rfl) rfl rfl rfl rfl h.2.2.2.1 ?_
      refine ev_iconst k180_25 ?_
      refine ev_iadd k180_26 ?_
      rw [nI_1]
      refine ev_pf (j := 10) k180_27 (by first | assumption | rfl) rfl rfl rfl ?_
      refine ev_ald0 k180_30 ?_
      have hz : lvO (g p) = nI (4 - 3) := (lvO_1 _).mpr (h17)
      have hpl : p < L := g_lt hb.1 (fun w => lvO_m1 (j := 3) (by decide) (by rw [← w]; exact hz))
      have hok := pLv_ok hb.1 (pOp_ok (u := u) hb.1 k) 3 (by omega) (p + 1) (by omega)
      have e : pLp (pLv (pOp g u k) g 3) g (nI (4 - 3)) (n + 1) p l = if (pLv (pOp g u k) g 3 (p + 1)).2.2 = true then pLp (pLv (pOp g u k) g 3) g (nI (4 - 3)) n (pLv (pOp g u k) g 3 (p + 1)).1 (-(g p) :: ((pLv (pOp g u k) g 3 (p + 1)).2.1 ++ l)) else ((pLv (pOp g u k) g 3 (p + 1)).1, [], false) := if_pos hz
      rw [e] at hQ1 hQ2
      refine ev_cV1v k180_31 cs_255 rfl (by omega) (Nat.le_of_ble_eq_true rfl) rfl rfl rfl ?_
      refine hin _ (p + 1) l _ _ (by omega) (by omega) (by omega) (mdE_up h (Or.inl ⟨rfl, rfl, rfl⟩)) (fun hk K1 h1 => ?_) (fun hk K1 h1 => ?_)
      ·
        refine ev_ald0 k180_34 ?_
        refine ev_bipush k180_35 ?_
        refine ev_iconst k180_37 ?_
        refine ev_cV3v k180_38 cs_247 (by first | assumption | rfl) (by omega) (Nat.le_of_ble_eq_true rfl) rfl rfl rfl ?_
        refine sm_step (s := -(g p)) h1 (by have := hok.2.2 hk; have := hok.2.1; simp only [List.length_append]; omega) (st_sg (by rw [h17]; decide) h17.symm) (fun K2 h2 => ?_)
        refine ev_goto k180_41 ?_
        rw [if_pos hk] at hQ1 hQ2
        have hk2 := hok.2.2 hk
        exact ih _ _ K2 (by omega) hok.2.1 (by simp only [List.length_cons, List.length_append]; omega) h2 hQ1 hQ2
      ·
        refine ev_ald0 k180_34 ?_
        refine ev_bipush k180_35 ?_
        refine ev_iconst k180_37 ?_
        refine ev_cV3v k180_38 cs_247 (by first | assumption | rfl) (by omega) (Nat.le_of_ble_eq_true rfl) rfl rfl rfl ?_
        refine sm_stepF h1 (fun K2 h2 => ?_)
        refine ev_goto k180_41 ?_
        refine ev_ald0 k180_4 ?_
        refine ev_gfv (j := 12) k180_5 (by first | assumption | rfl) rfl rfl rfl rfl h2.2.2.2.1 ?_
        refine ev_if_ne k180_8 (fun h8 => ?_) (fun h8 => absurd h8 (by decide))
        refine ev_rv k180_44 rfl ?_
        rw [if_neg (by rw [hk]; decide)] at hQ2
        exact hQ2 rfl K2 h2
theorem lv_all_ {X : Nat × (Nat → Int32)} {J : mm_I} {g : Nat → Int32} {u L k : Nat} (hb : mdB J g u L) (hin : lvM X J g u L k 3 179) : lvM X J g u L k 4 180 := by
  intro D p l K P hD hp hl h hQ1 hQ2
  have hL := hb.1.1
  obtain ⟨D', rfl⟩ : ∃ D', D = D' + 7 := ⟨D - 7, by omega⟩
  show mm_Ev mm_T0 X (D' + 7) 180 0 [.ref 91] [] K (mm_pv P)
  refine ev_ald0 k180_0 ?_
  refine ev_cV1v k180_1 cs_255 rfl (by omega) (Nat.le_of_ble_eq_true rfl) rfl rfl rfl ?_
  have hok := pLv_ok hb.1 (pOp_ok (u := u) hb.1 k) 3 (by omega) p hp
  refine hin _ p l K _ (by omega) hp hl h (fun hk K1 h1 => ?_) (fun hk K1 h1 => ?_)
  · have ej : pLv (pOp g u k) g 4 p = pLp (pLv (pOp g u k) g 3) g (nI (4 - 3)) 50 (pLv (pOp g u k) g 3 p).1 (pLv (pOp g u k) g 3 p).2.1 := if_pos hk
    obtain ⟨a1, a2, a3⟩ := pLp_app (inner := pLv (pOp g u k) g 3) (g := g) (lv := nI (4 - 3)) 50 (pLv (pOp g u k) g 3 p).1 (pLv (pOp g u k) g 3 p).2.1 l
    refine lm_all (D := D') hb hin (by omega) 50 _ _ K1 (by have := hok.2.2 hk; omega) hok.2.1 (by have := hok.2.2 hk; simp only [List.length_append]; omega) h1 (fun hk2 K2 h2 => ?_) (fun hk2 K2 h2 => ?_)
    · rw [a2] at hk2
      rw [a1, a3 hk2] at h2
      exact hQ1 (by rw [ej]; exact hk2) K2 (by rw [ej]; exact h2)
    · rw [a2] at hk2
      rw [a1] at h2
      exact hQ2 (by rw [ej]; exact hk2) K2 (by rw [ej]; exact h2)
  · refine ev_ald0 k180_4 ?_
    refine ev_gfv (j := 12) k180_5 (by first | assumption | rfl) rfl rfl rfl rfl h1.2.2.2.1 ?_
    refine ev_if_ne k180_8 (fun h8 => ?_) (fun h8 => absurd h8 (by decide))
    refine ev_rv k180_44 rfl ?_
    have ej : pLv (pOp g u k) g 4 p = ((pLv (pOp g u k) g 3 p).1, [], false) := if_neg (by rw [hk]; decide)
    exact hQ2 (by rw [ej]) K1 (by rw [ej]; exact h1)
theorem lm_any {X : Nat × (Nat → Int32)} {J : mm_I} {g : Nat → Int32} {u L k : Nat} {D : Nat} (hb : mdB J g u L) (hin : lvM X J g u L k 4 180) (hD : 6 + 7 * k + 4 ≤ D + 6) {P : mm_I → Prop} : ∀ (n p : Nat) (l : List Int32) (K : mm_I), 51 ≤ p + n → p ≤ L → l.length ≤ p → mdE J K (5 - k) p l → ((pLp (pLv (pOp g u k) g 4) g (nI (4 - 4)) n p l).2.2 = true → ∀ K', mdE J K' (5 - k) (pLp (pLv (pOp g u k) g 4) g (nI (4 - 4)) n p l).1 (pLp (pLv (pOp g u k) g 4) g (nI (4 - 4)) n p l).2.1 → P K') → ((pLp (pLv (pOp g u k) g 4) g (nI (4 - 4)) n p l).2.2 = false → ∀ K', mdF J K' (pLp (pLv (pOp g u k) g 4) g (nI (4 - 4)) n p l).1 → P K') → mm_Ev mm_T0 X (D + 7) 181 4 [.ref 91] [] K (mm_pv P) := by
  have tm := tM
  have tr := tR
  have hL := hb.1.1
  intro n
  induction n with
  | zero => intro p l K h51 hp; omega
  | succ n ih =>
    intro p l K h51 hp hl h hQ1 hQ2
    refine ev_ald0 k181_4 ?_
    refine ev_gfv (j := 12) k181_5 (by first | assumption | rfl) rfl rfl rfl rfl h.2.2.2.2.2.1 ?_
    refine ev_if_ne k181_8 (fun h8 => absurd rfl h8) (fun h8 => ?_)
    refine ev_ald0 k181_11 ?_
    refine ev_cV1i k181_12 cs_246 (by first | assumption | rfl) (by omega) (Nat.le_of_ble_eq_true rfl) rfl rfl rfl ?_
    refine sm_look hb (h.1 92 (by decide) (by decide) (by decide)) h.2.2.2.1 hp ?_
    refine ev_bipush k181_15 ?_
    refine ev_icmp_ne k181_17 (fun h17 => ?_) (fun h17 => ?_)
    ·
      refine ev_rv k181_44 rfl ?_
      have e : pLp (pLv (pOp g u k) g 4) g (nI (4 - 4)) (n + 1) p l = (p, l, true) := if_neg (fun z => h17 ((lvO_0 _).mp z))
      rw [e] at hQ1
      exact hQ1 rfl K h
    ·
      refine ev_ald0 k181_20 ?_
      refine ev_dup k181_21 rfl ?_
      refine ev_gfv (j := 10) k181_22 (by first | assumption | rfl) rfl rfl rfl rfl h.2.2.2.1 ?_
      refine ev_iconst k181_25 ?_
      refine ev_iadd k181_26 ?_
      rw [nI_1]
      refine ev_pf (j := 10) k181_27 (by first | assumption | rfl) rfl rfl rfl ?_
      refine ev_ald0 k181_30 ?_
      have hz : lvO (g p) = nI (4 - 4) := (lvO_0 _).mpr (h17)
      have hpl : p < L := g_lt hb.1 (fun w => lvO_m1 (j := 4) (by decide) (by rw [← w]; exact hz))
      have hok := pLv_ok hb.1 (pOp_ok (u := u) hb.1 k) 4 (by omega) (p + 1) (by omega)
      have e : pLp (pLv (pOp g u k) g 4) g (nI (4 - 4)) (n + 1) p l = if (pLv (pOp g u k) g 4 (p + 1)).2.2 = true then pLp (pLv (pOp g u k) g 4) g (nI (4 - 4)) n (pLv (pOp g u k) g 4 (p + 1)).1 (-(g p) :: ((pLv (pOp g u k) g 4 (p + 1)).2.1 ++ l)) else ((pLv (pOp g u k) g 4 (p + 1)).1, [], false) := if_pos hz
      rw [e] at hQ1 hQ2
      refine ev_cV1v k181_31 cs_256 rfl (by omega) (Nat.le_of_ble_eq_true rfl) rfl rfl rfl ?_
      refine hin _ (p + 1) l _ _ (by omega) (by omega) (by omega) (mdE_up h (Or.inl ⟨rfl, rfl, rfl⟩)) (fun hk K1 h1 => ?_) (fun hk K1 h1 => ?_)
      ·
        refine ev_ald0 k181_34 ?_
        refine ev_bipush k181_35 ?_
        refine ev_iconst k181_37 ?_
        refine ev_cV3v k181_38 cs_247 (by first | assumption | rfl) (by omega) (Nat.le_of_ble_eq_true rfl) rfl rfl rfl ?_
        refine sm_step (s := -(g p)) h1 (by have := hok.2.2 hk; have := hok.2.1; simp only [List.length_append]; omega) (st_sg (by rw [h17]; decide) h17.symm) (fun K2 h2 => ?_)
        refine ev_goto k181_41 ?_
        rw [if_pos hk] at hQ1 hQ2
        have hk2 := hok.2.2 hk
        exact ih _ _ K2 (by omega) hok.2.1 (by simp only [List.length_cons, List.length_append]; omega) h2 hQ1 hQ2
      ·
        refine ev_ald0 k181_34 ?_
        refine ev_bipush k181_35 ?_
        refine ev_iconst k181_37 ?_
        refine ev_cV3v k181_38 cs_247 (by first | assumption | rfl) (by omega) (Nat.le_of_ble_eq_true rfl) rfl rfl rfl ?_
        refine sm_stepF h1 (fun K2 h2 => ?_)
        refine ev_goto k181_41 ?_
        refine ev_ald0 k181_4 ?_
        refine ev_gfv (j := 12) k181_5 (by first | assumption | rfl) rfl rfl rfl rfl h2.2.2.2.1 ?_
        refine ev_if_ne k181_8 (fun h8 => ?_) (fun h8 => absurd h8 (by decide))
        refine ev_rv k181_44 rfl ?_
        rw [if_neg (by rw [hk]; decide)] at hQ2
        exact hQ2 rfl K2 h2
theorem lv_any {X : Nat × (Nat → Int32)} {J : mm_I} {g : Nat → Int32} {u L k : Nat} (hb : mdB J g u L) (hin : lvM X J g u L k 4 180) : lvM X J g u L k 5 181 := by
  intro D p l K P hD hp hl h hQ1 hQ2
  have hL := hb.1.1
  obtain ⟨D', rfl⟩ : ∃ D', D = D' + 7 := ⟨D - 7, by omega⟩
  show mm_Ev mm_T0 X (D' + 7) 181 0 [.ref 91] [] K (mm_pv P)
  refine ev_ald0 k181_0 ?_
  refine ev_cV1v k181_1 cs_256 rfl (by omega) (Nat.le_of_ble_eq_true rfl) rfl rfl rfl ?_
  have hok := pLv_ok hb.1 (pOp_ok (u := u) hb.1 k) 4 (by omega) p hp
  refine hin _ p l K _ (by omega) hp hl h (fun hk K1 h1 => ?_) (fun hk K1 h1 => ?_)
  · have ej : pLv (pOp g u k) g 5 p = pLp (pLv (pOp g u k) g 4) g (nI (4 - 4)) 50 (pLv (pOp g u k) g 4 p).1 (pLv (pOp g u k) g 4 p).2.1 := if_pos hk
    obtain ⟨a1, a2, a3⟩ := pLp_app (inner := pLv (pOp g u k) g 4) (g := g) (lv := nI (4 - 4)) 50 (pLv (pOp g u k) g 4 p).1 (pLv (pOp g u k) g 4 p).2.1 l
    refine lm_any (D := D') hb hin (by omega) 50 _ _ K1 (by have := hok.2.2 hk; omega) hok.2.1 (by have := hok.2.2 hk; simp only [List.length_append]; omega) h1 (fun hk2 K2 h2 => ?_) (fun hk2 K2 h2 => ?_)
    · rw [a2] at hk2
      rw [a1, a3 hk2] at h2
      exact hQ1 (by rw [ej]; exact hk2) K2 (by rw [ej]; exact h2)
    · rw [a2] at hk2
      rw [a1] at h2
      exact hQ2 (by rw [ej]; exact hk2) K2 (by rw [ej]; exact h2)
  · refine ev_ald0 k181_4 ?_
    refine ev_gfv (j := 12) k181_5 (by first | assumption | rfl) rfl rfl rfl rfl h1.2.2.2.1 ?_
    refine ev_if_ne k181_8 (fun h8 => ?_) (fun h8 => absurd h8 (by decide))
    refine ev_rv k181_44 rfl ?_
    have ej : pLv (pOp g u k) g 5 p = ((pLv (pOp g u k) g 4 p).1, [], false) := if_neg (by rw [hk]; decide)
    exact hQ2 (by rw [ej]) K1 (by rw [ej]; exact h1)
theorem lvM_all {X : Nat × (Nat → Int32)} {J : mm_I} {g : Nat → Int32} {u L k : Nat} (hb : mdB J g u L) (hop : opM X J g u L k) : lvM X J g u L k 5 181 := lv_any hb (lv_all_ hb (lv_compares hb (lv_sum hb (lv_times hb (fun D p l K P hD hp hl h h1 h2 => hop D p l K P hD hp hl h h1 h2)))))
theorem dgn {x : Int32} (h : x = 33 ∨ x = 40) (u : Nat) : dg x = false ∧ nm u x < 0 := by
  rcases h with rfl | rfl
  · exact ⟨by decide, by unfold nm; split <;> decide⟩
  · exact ⟨by decide, by unfold nm; split <;> decide⟩
/-- Model.opens -/
theorem sm_opens0 {X : Nat × (Nat → Int32)} {d : Nat} {I : mm_I} {J : mm_I} {p : Nat} {l : List Int32} {s : Int32} {P : mm_I → Prop} (hl : l.length ≤ 50) (h : mdE J I 5 p l) (hQ : ∀ K, mdF J K p → P K) : mm_Ev mm_T0 X (d) 175 0 (mm_ent 175 [.ref 91, .int s]) [] I (mm_pv P) := by
  show mm_Ev mm_T0 X (d) 175 0 [.ref 91, .int s] [] I (mm_pv P)
  have tm := tM
  have tr := tR
  refine ev_ald0 k175_0 ?_
  refine ev_gfv (j := 11) k175_1 (by first | assumption | rfl) rfl rfl rfl rfl h.2.2.2.2.1 ?_
  refine ev_iconst k175_4 ?_
  refine ev_icmp_ne k175_5 (fun h5 => absurd (show nI 5 = 5 from rfl) h5) (fun h5 => ?_)
  refine ev_ald0 k175_8 ?_
  refine ev_iconst k175_9 ?_
  refine ev_pz (j := 12) k175_10 (by first | assumption | rfl) rfl rfl (by first | exact Or.inl rfl | exact Or.inr rfl | assumption) rfl ?_
  refine ev_rv k175_13 rfl ?_
  exact hQ _ (mdE_bad hl h)
theorem sm_opX {X : Nat × (Nat → Int32)} {J : mm_I} {g : Nat → Int32} {u L k : Nat} {D p : Nat} {l : List Int32} {K : mm_I} {P : mm_I → Prop} (hb : mdB J g u L) (hk5 : k + 1 ≤ 5) (ih : opM X J g u L k) (hD : 6 + 7 * k + 6 ≤ D + 6) (hpL : p < L) (hl : l.length ≤ p) (h : mdE J K (5 - (k + 1)) p l) (hQ1 : (nt (pOp g u k (p + 1))).2.2 = true → ∀ K', mdE J K' (5 - (k + 1)) (nt (pOp g u k (p + 1))).1 ((nt (pOp g u k (p + 1))).2.1 ++ l) → P K') (hQ2 : (nt (pOp g u k (p + 1))).2.2 = false → ∀ K', mdF J K' (nt (pOp g u k (p + 1))).1 → P K') : mm_Ev mm_T0 X (D + 6) 175 0 (mm_ent 175 [.ref 91, .int 33]) [] K (mm_pv P) := by
  show mm_Ev mm_T0 X (D + 6) 175 0 [.ref 91, .int 33] [] K (mm_pv P)
  have tm := tM
  have tr := tR
  have hL := hb.1.1
  refine ev_ald0 k175_0 ?_
  refine ev_gfv (j := 11) k175_1 (by first | assumption | rfl) rfl rfl rfl rfl h.2.2.2.2.1 ?_
  refine ev_iconst k175_4 ?_
  refine ev_icmp_ne k175_5 (fun h5 => ?_) (fun h5 => absurd ((nI_eq (show 5 - (k + 1) < 2 ^ 31 by omega) (show 5 < 2 ^ 31 by decide)).mp h5) (by omega))
  refine ev_ald0 k175_14 ?_
  refine ev_dup k175_15 rfl ?_
  refine ev_gfv (j := 11) k175_16 (by first | assumption | rfl) rfl rfl rfl rfl h.2.2.2.2.1 ?_
  refine ev_iconst k175_19 ?_
  refine ev_iadd k175_20 ?_
  rw [show nI (5 - (k + 1)) + 1 = nI (5 - k) from by rw [nI_1]; exact congrArg nI (by omega)]
  refine ev_pf (j := 11) k175_21 (by first | assumption | rfl) rfl rfl rfl ?_
  refine ev_ald0 k175_24 ?_
  refine ev_dup k175_25 rfl ?_
  refine ev_gfv (j := 10) k175_26 (by first | assumption | rfl) rfl rfl rfl rfl (show _ = nI p from by rw [mm_up_at, if_neg (by omega)]; exact h.2.2.2.1) ?_
  refine ev_iconst k175_29 ?_
  refine ev_iadd k175_30 ?_
  rw [nI_1]
  refine ev_pf (j := 10) k175_31 (by first | assumption | rfl) rfl rfl rfl ?_
  refine ev_ild1 k175_34 ?_
  refine ev_bipush k175_35 ?_
  refine ev_icmp_ne k175_37 (fun h37 => absurd rfl h37) (fun h37 => ?_)
  refine ev_ald0 k175_40 ?_
  refine ev_cV1v k175_41 cs_248 rfl (by omega) (Nat.le_of_ble_eq_true rfl) rfl rfl rfl ?_
  have hok := pOp_ok (u := u) hb.1 k (p + 1) (by omega)
  refine ih _ (p + 1) l _ _ (by omega) (by omega) (by omega) (mdE_up (op' := 5 - k) (mdE_up (op' := 5 - k) (p' := p) h (Or.inr ⟨rfl, rfl, rfl⟩)) (p' := p + 1) (Or.inl ⟨rfl, rfl, rfl⟩)) (fun hk K1 h1 => ?_) (fun hk K1 h1 => ?_)
  ·
    refine ev_ald0 k175_44 ?_
    refine ev_iconst k175_45 ?_
    refine ev_iconst k175_46 ?_
    refine ev_cV3v k175_47 cs_247 (by first | assumption | rfl) (by omega) (Nat.le_of_ble_eq_true rfl) rfl rfl rfl ?_
    refine sm_step (s := -33) h1 (by have := hok.2.2 hk; have := hok.2.1; simp only [List.length_append]; omega) (Or.inr (Or.inr (Or.inl ⟨rfl, rfl⟩))) (fun K2 h2 => ?_)
    refine ev_goto k175_50 ?_
    refine ev_ald0 k175_103 ?_
    refine ev_dup k175_104 rfl ?_
    refine ev_gfv (j := 11) k175_105 (by first | assumption | rfl) rfl rfl rfl rfl h2.2.2.2.2.1 ?_
    refine ev_iconst k175_108 ?_
    refine ev_isub k175_109 ?_
    rw [show nI (5 - k) - 1 = nI (5 - (k + 1)) from by rw [show (1 : Int32) = nI 1 from rfl, pk_sub (by omega)]; exact congrArg nI (by omega)]
    refine ev_pf (j := 11) k175_110 (by first | assumption | rfl) rfl rfl rfl ?_
    refine ev_rv k175_113 rfl ?_
    have en : nt (pOp g u k (p + 1)) = ((pOp g u k (p + 1)).1, -33 :: (pOp g u k (p + 1)).2.1, true) := if_pos hk
    rw [en] at hQ1
    exact hQ1 rfl _ (mdE_up (op' := 5 - (k + 1)) h2 (Or.inr ⟨rfl, rfl, rfl⟩))
  ·
    refine ev_ald0 k175_44 ?_
    refine ev_iconst k175_45 ?_
    refine ev_iconst k175_46 ?_
    refine ev_cV3v k175_47 cs_247 (by first | assumption | rfl) (by omega) (Nat.le_of_ble_eq_true rfl) rfl rfl rfl ?_
    refine sm_stepF h1 (fun K2 h2 => ?_)
    refine ev_goto k175_50 ?_
    refine ev_ald0 k175_103 ?_
    refine ev_dup k175_104 rfl ?_
    refine ev_gf (j := 11) k175_105 (by first | assumption | rfl) rfl rfl rfl rfl ?_
    refine ev_iconst k175_108 ?_
    refine ev_isub k175_109 ?_
    refine ev_pf (j := 11) k175_110 (by first | assumption | rfl) rfl rfl rfl ?_
    refine ev_rv k175_113 rfl ?_
    have en : nt (pOp g u k (p + 1)) = ((pOp g u k (p + 1)).1, [], false) := if_neg (by rw [hk]; decide)
    rw [en] at hQ2
    exact hQ2 rfl _ (mdF_up h2 (Or.inl rfl))
