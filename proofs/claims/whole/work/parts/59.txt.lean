/-! Texts: a pure reader -/
abbrev pR : Type := Nat × List Int32 × Bool
def dg (b : Int32) : Bool := wB 48 57 b
def nm (u : Nat) (b : Int32) : Int32 := if u = 0 then (if b = 107 then 0 else if b = 99 then 1 else if b = 115 then 2 else -1) else (if b = 104 then 0 else if b = 110 then 1 else if b = 118 then 2 else -1)
def lvO (b : Int32) : Int32 := if b = 124 then 0 else if b = 38 then 1 else if b = 60 then 2 else if b = 61 then 2 else if b = 62 then 2 else if b = 43 then 3 else if b = 45 then 3 else if b = 42 then 4 else if b = 47 then 4 else if b = 37 then 4 else -1
def pNum (g : Nat → Int32) : Nat → Nat → Nat → Nat × Nat
  | 0, p, v => (p, v)
  | n + 1, p, v => if dg (g p) = true then pNum g n (p + 1) (10 * v + (g p).toNatClampNeg - 48) else (p, v)
def pLp (inner : Nat → pR) (g : Nat → Int32) (lv : Int32) : Nat → Nat → List Int32 → pR
  | 0, p, l => (p, l, true)
  | n + 1, p, l => if lvO (g p) = lv then (if (inner (p + 1)).2.2 = true then pLp inner g lv n (inner (p + 1)).1 (-(g p) :: ((inner (p + 1)).2.1 ++ l)) else ((inner (p + 1)).1, [], false)) else (p, l, true)
def pLv (op : Nat → pR) (g : Nat → Int32) : Nat → Nat → pR
  | 0, p => op p
  | j + 1, p => if (pLv op g j p).2.2 = true then pLp (pLv op g j) g (nI (4 - j)) (if j = 2 then 1 else 50) (pLv op g j p).1 (pLv op g j p).2.1 else ((pLv op g j p).1, [], false)
def nt (r : pR) : pR := if r.2.2 = true then (r.1, -33 :: r.2.1, true) else (r.1, [], false)
def clo (g : Nat → Int32) (r : pR) : pR := if r.2.2 = true then (if g r.1 = 41 then (r.1 + 1, r.2.1, true) else (r.1, [], false)) else (r.1, [], false)
def pO1 (g : Nat → Int32) (u p : Nat) (r : pR) : pR := if dg (g p) = true then ((pNum g 4 p 0).1, [nI (pNum g 4 p 0).2], true) else if nm u (g p) < 0 then r else (p + 1, [-1 - nm u (g p)], true)
def pOp (g : Nat → Int32) (u : Nat) : Nat → Nat → pR
  | 0, p => pO1 g u p (p, [], false)
  | k + 1, p => pO1 g u p (if g p = 33 then nt (pOp g u k (p + 1)) else if g p = 40 then clo g (pLv (pOp g u k) g 5 (p + 1)) else (p, [], false))
/-- the bytes: at most 50, each below 256 -/
def gOK (g : Nat → Int32) (L : Nat) : Prop := L ≤ 50 ∧ (∀ p, p < L → ∃ b : Nat, b < 256 ∧ g p = nI b) ∧ ∀ p, L ≤ p → g p = -1
theorem g_lt {g : Nat → Int32} {L p : Nat} (h : gOK g L) (hn : ¬ g p = -1) : p < L := Nat.lt_of_not_le (fun z => hn (h.2.2 p z))
/-- what is read is something: a place further on, no more steps than bytes -/
def rOK (L p : Nat) (r : pR) : Prop := p ≤ r.1 ∧ r.1 ≤ L ∧ (r.2.2 = true → p < r.1 ∧ r.2.1.length + p ≤ r.1)
theorem pNum_ok {g : Nat → Int32} {L : Nat} (h : gOK g L) : ∀ n p v, p ≤ L → p ≤ (pNum g n p v).1 ∧ (pNum g n p v).1 ≤ L := by
  intro n
  induction n with
  | zero => intro p v hp; exact ⟨Nat.le_refl _, hp⟩
  | succ n ih =>
    intro p v hp
    unfold pNum
    by_cases z : dg (g p) = true
    · rw [if_pos z]
      have hl : p < L := g_lt h (fun w => by rw [w] at z; exact absurd z (by decide))
      have q := ih (p + 1) (10 * v + (g p).toNatClampNeg - 48) (by omega)
      exact ⟨by omega, q.2⟩
    · rw [if_neg z]; exact ⟨Nat.le_refl _, hp⟩
theorem pO1_ok {g : Nat → Int32} {L u p : Nat} {r : pR} (h : gOK g L) (hp : p ≤ L) (hr : rOK L p r) : rOK L p (pO1 g u p r) := by
  unfold pO1
  by_cases z : dg (g p) = true
  · rw [if_pos z]
    have hl : p < L := g_lt h (fun w => by rw [w] at z; exact absurd z (by decide))
    have e : pNum g 4 p 0 = pNum g 3 (p + 1) (10 * 0 + (g p).toNatClampNeg - 48) := by
      show (if dg (g p) = true then _ else _) = _
      rw [if_pos z]
    have q := pNum_ok h 3 (p + 1) (10 * 0 + (g p).toNatClampNeg - 48) (by omega)
    rw [← e] at q
    exact ⟨by dsimp only; omega, q.2, fun _ => ⟨by dsimp only; omega, by simp only [List.length_cons, List.length_nil]; omega⟩⟩
  · rw [if_neg z]
    by_cases w : nm u (g p) < 0
    · rw [if_pos w]; exact hr
    · rw [if_neg w]
      have hl : p < L := g_lt h (fun t => w (by rw [t]; unfold nm; split <;> decide))
      exact ⟨by dsimp only; omega, by dsimp only; omega, fun _ => ⟨by dsimp only; omega, by simp only [List.length_cons, List.length_nil]; omega⟩⟩
theorem lvO_m1 {j : Nat} (hj : j ≤ 4) : ¬ lvO (-1) = nI (4 - j) := by
  rcases (show j = 0 ∨ j = 1 ∨ j = 2 ∨ j = 3 ∨ j = 4 by omega) with rfl | rfl | rfl | rfl | rfl <;> decide
theorem pLp_ok {g : Nat → Int32} {L j : Nat} {inner : Nat → pR} (h : gOK g L) (hj : j ≤ 4) (hi : ∀ p, p ≤ L → rOK L p (inner p)) : ∀ (n p p0 : Nat) (l : List Int32), p ≤ L → p0 < p → l.length + p0 ≤ p → rOK L p0 (pLp inner g (nI (4 - j)) n p l) := by
  intro n
  induction n with
  | zero => intro p p0 l hp h0 hl; exact ⟨by unfold pLp; dsimp only; omega, hp, fun _ => ⟨h0, hl⟩⟩
  | succ n ih =>
    intro p p0 l hp h0 hl
    unfold pLp
    by_cases z : lvO (g p) = nI (4 - j)
    · rw [if_pos z]
      have hlt : p < L := g_lt h (fun w => lvO_m1 hj (by rw [← w]; exact z))
      obtain ⟨a, b, c⟩ := hi (p + 1) (by omega)
      by_cases w : (inner (p + 1)).2.2 = true
      · rw [if_pos w]
        have := c w
        exact ih _ p0 _ b (by omega) (by simp only [List.length_cons, List.length_append]; omega)
      · rw [if_neg w]; exact ⟨by dsimp only; omega, b, fun t => by cases t⟩
    · rw [if_neg z]; exact ⟨by dsimp only; omega, hp, fun _ => ⟨h0, hl⟩⟩
theorem pLv_ok {g : Nat → Int32} {L : Nat} {op : Nat → pR} (h : gOK g L) (hi : ∀ p, p ≤ L → rOK L p (op p)) : ∀ j, j ≤ 5 → ∀ p, p ≤ L → rOK L p (pLv op g j p) := by
  intro j
  induction j with
  | zero => intro _ p hp; exact hi p hp
  | succ j ih =>
    intro hj p hp
    have q := ih (by omega) p hp
    unfold pLv
    by_cases w : (pLv op g j p).2.2 = true
    · rw [if_pos w]
      have := q.2.2 w
      exact pLp_ok h (by omega) (ih (by omega)) _ _ p _ q.2.1 this.1 this.2
    · rw [if_neg w]; exact ⟨q.1, q.2.1, fun t => by cases t⟩
theorem pOp_ok {g : Nat → Int32} {L u : Nat} (h : gOK g L) : ∀ k p, p ≤ L → rOK L p (pOp g u k p) := by
  intro k
  induction k with
  | zero => intro p hp; exact pO1_ok h hp ⟨Nat.le_refl _, hp, fun t => by cases t⟩
  | succ k ih =>
    intro p hp
    refine pO1_ok h hp ?_
    by_cases z : g p = 33
    · rw [if_pos z]
      have hl : p < L := g_lt h (fun w => by rw [w] at z; exact absurd z (by decide))
      have q := ih (p + 1) (by omega)
      unfold nt
      by_cases w : (pOp g u k (p + 1)).2.2 = true
      · rw [if_pos w]
        have := q.2.2 w
        exact ⟨by dsimp only; omega, q.2.1, fun _ => ⟨by dsimp only; omega, by simp only [List.length_cons]; omega⟩⟩
      · rw [if_neg w]; exact ⟨by have := q.1; dsimp only; omega, q.2.1, fun t => by cases t⟩
    · rw [if_neg z]
      by_cases z2 : g p = 40
      · rw [if_pos z2]
        have hl : p < L := g_lt h (fun w => by rw [w] at z2; exact absurd z2 (by decide))
        have q := pLv_ok h ih 5 (by omega) (p + 1) (by omega)
        generalize pLv (pOp g u k) g 5 (p + 1) = r at q
        unfold clo
        by_cases w : r.2.2 = true
        · rw [if_pos w]
          have := q.2.2 w
          by_cases z3 : g r.1 = 41
          · rw [if_pos z3]
            have hl2 : r.1 < L := g_lt h (fun w => by rw [w] at z3; exact absurd z3 (by decide))
            exact ⟨by dsimp only; omega, by dsimp only; omega, fun _ => ⟨by dsimp only; omega, by dsimp only; omega⟩⟩
          · rw [if_neg z3]; exact ⟨by dsimp only; omega, q.2.1, fun t => by cases t⟩
        · rw [if_neg w]; exact ⟨by have := q.1; dsimp only; omega, q.2.1, fun t => by cases t⟩
      · rw [if_neg z2]; exact ⟨Nat.le_refl _, hp, fun t => by cases t⟩
/-! the class's reader: the state, while all is well, and behind a fault -/
def rdE (I K : mm_I) (p : Nat) (l : List Int32) : Prop := (∀ k, k ≠ 74 → k ≠ 75 → k ≠ 76 → K k = I k) ∧ K 74 2 = I 74 2 ∧ K 74 3 = nI p ∧ K 74 4 = -1 ∧ K 75 1 = 32 ∧ K 75 2 = nI l.length ∧ tcL (K 76) l
def rdF (I K : mm_I) (p : Nat) : Prop := (∀ k, k ≠ 74 → k ≠ 75 → k ≠ 76 → K k = I k) ∧ K 74 2 = I 74 2 ∧ K 74 4 = nI p ∧ K 75 1 = 32 ∧ ∃ n : Nat, n ≤ 50 ∧ K 75 2 = nI n
def rdB (I : mm_I) (g : Nat → Int32) (u L : Nat) : Prop := gOK g L ∧ u ≤ 1 ∧ I 74 2 = nI (2 + u) ∧ I 77 2 = nI L ∧ ∀ p, p < L → I 78 p = g p
theorem rdE_add {X : Nat × (Nat → Int32)} {d : Nat} {I K : mm_I} {p : Nat} {l : List Int32} {v : Int32} {P : mm_I → Prop} (h : rdE I K p l) (hl : l.length < 50) (hQ : ∀ K', rdE I K' p (v :: l) → P K') : mm_Ev mm_T0 X (d + 1) 57 0 (mm_ent 57 [.ref 75, .int v]) [] K (mm_pv P) := by
  obtain ⟨h1, h2, h3, h4, h5, h6, h7⟩ := h
  refine sp_add (ra := 75) (N := 50) (n := l.length) rfl rfl (by decide) h6 (by omega) (by decide) ?_
  rw [if_pos hl, h5, cut32]
  refine hQ _ ⟨fun k a b c => ?_, ?_, ?_, ?_, ?_, ?_, ?_, ?_⟩
  · rw [mm_up_ne _ _ _ _ _ b, mm_up_ne _ _ _ _ _ c]; exact h1 k a b c
  · rw [mm_up_ne _ _ _ _ _ (by decide), mm_up_ne _ _ _ _ _ (by decide)]; exact h2
  · rw [mm_up_ne _ _ _ _ _ (by decide), mm_up_ne _ _ _ _ _ (by decide)]; exact h3
  · rw [mm_up_ne _ _ _ _ _ (by decide), mm_up_ne _ _ _ _ _ (by decide)]; exact h4
  · rw [mm_up_at, if_neg (by omega), mm_up_ne _ _ _ _ _ (by decide)]; exact h5
  · rw [mm_up_at, if_pos ⟨rfl, rfl⟩]; rfl
  · rw [mm_up_ne _ _ _ _ _ (by decide), mm_up_at, if_pos ⟨rfl, rfl⟩]
  · refine tcL_congr l (fun j hj => ?_) h7
    rw [mm_up_ne _ _ _ _ _ (by decide), mm_up_at, if_neg (by omega)]
theorem rdF_add {X : Nat × (Nat → Int32)} {d : Nat} {I K : mm_I} {p : Nat} {v : Int32} {P : mm_I → Prop} (h : rdF I K p) (hQ : ∀ K', rdF I K' p → P K') : mm_Ev mm_T0 X (d + 1) 57 0 (mm_ent 57 [.ref 75, .int v]) [] K (mm_pv P) := by
  have h0 := h
  obtain ⟨h1, h2, h3, h4, n, hn, h5⟩ := h
  refine sp_add (ra := 75) (N := 50) (n := n) rfl rfl (by decide) h5 hn (by decide) ?_
  by_cases z : n < 50
  · rw [if_pos z]
    refine hQ _ ⟨fun k a b c => ?_, ?_, ?_, ?_, n + 1, by omega, ?_⟩
    · rw [mm_up_ne _ _ _ _ _ b, mm_up_ne _ _ _ _ _ c]; exact h1 k a b c
    · rw [mm_up_ne _ _ _ _ _ (by decide), mm_up_ne _ _ _ _ _ (by decide)]; exact h2
    · rw [mm_up_ne _ _ _ _ _ (by decide), mm_up_ne _ _ _ _ _ (by decide)]; exact h3
    · rw [mm_up_at, if_neg (by omega), mm_up_ne _ _ _ _ _ (by decide)]; exact h4
    · rw [mm_up_at, if_pos ⟨rfl, rfl⟩]
  · rw [if_neg z]; exact hQ K h0
theorem rdE_pl {I K : mm_I} {p q : Nat} {l : List Int32} (h : rdE I K p l) : rdE I (mm_up K 74 3 (nI q)) q l := by
  obtain ⟨h1, h2, h3, h4, h5, h6, h7⟩ := h
  refine ⟨fun k a b c => ?_, ?_, ?_, ?_, ?_, ?_, ?_⟩
  · rw [mm_up_ne _ _ _ _ _ a]; exact h1 k a b c
  · rw [mm_up_at, if_neg (by omega)]; exact h2
  · rw [mm_up_at, if_pos ⟨rfl, rfl⟩]
  · rw [mm_up_at, if_neg (by omega)]; exact h4
  · rw [mm_up_ne _ _ _ _ _ (by decide)]; exact h5
  · rw [mm_up_ne _ _ _ _ _ (by decide)]; exact h6
  · rw [mm_up_ne _ _ _ _ _ (by decide)]; exact h7
theorem rdE_ft {I K : mm_I} {p : Nat} {l : List Int32} (hl : l.length ≤ 50) (h : rdE I K p l) : rdF I (mm_up K 74 4 (nI p)) p := by
  obtain ⟨h1, h2, h3, h4, h5, h6, h7⟩ := h
  refine ⟨fun k a b c => ?_, ?_, ?_, ?_, l.length, hl, ?_⟩
  · rw [mm_up_ne _ _ _ _ _ a]; exact h1 k a b c
  · rw [mm_up_at, if_neg (by omega)]; exact h2
  · rw [mm_up_at, if_pos ⟨rfl, rfl⟩]
  · rw [mm_up_ne _ _ _ _ _ (by decide)]; exact h5
  · rw [mm_up_ne _ _ _ _ _ (by decide)]; exact h6
/-- Reader.nextByte -/
theorem sp_nextByte {X : Nat × (Nat → Int32)} {d : Nat} {I : mm_I} {J : mm_I} {g : Nat → Int32} {u L p : Nat} {l : List Int32} {P : Int32 → mm_I → Prop} (hb : rdB J g u L) (h : rdE J I p l) (hp : p ≤ L) (hQ : P (g p) I) : mm_Ev mm_T0 X (d + 2) 42 0 (mm_ent 42 [.ref 74]) [] I (mm_pi P) := by
  show mm_Ev mm_T0 X (d + 2) 42 0 [.ref 74] [] I (mm_pi P)
  have t7 : mm_T0[77]? = some (rC 77) := rfl
  have t8 : mm_T0[77 + 1]? = some (aC 50) := rfl
  have e2 : I 77 2 = nI L := by rw [h.1 77 (by decide) (by decide) (by decide)]; exact hb.2.2.2.1
  have hL : L ≤ 50 := hb.1.1
  refine ev_ald0 k42_0 ?_
  refine ev_getr k42_1 (by first | assumption | rfl) rfl rfl rfl ?_
  refine ev_ald0 k42_4 ?_
  refine ev_gfv (j := 3) k42_5 (by first | assumption | rfl) rfl rfl rfl rfl h.2.2.1 ?_
  refine ev_cV2i k42_8 cs_128 (by first | assumption | rfl) (by omega) (Nat.le_of_ble_eq_true rfl) rfl rfl rfl ?_
  refine sp_has t7 ?_
  rw [e2]
  refine ev_ifz_eq k42_11 (fun h11 => ?_) (fun h11 => ?_)
  ·
    refine ev_iconst k42_28 ?_
    refine ev_ri k42_29 rfl ?_
    have e : g p = -1 := hb.1.2.2 p (Nat.le_of_not_lt (fun z => by rw [inB_of z (by omega)] at h11; cases h11))
    rw [e] at hQ
    exact hQ
  ·
    refine ev_ald0 k42_14 ?_
    refine ev_getr k42_15 (by first | assumption | rfl) rfl rfl rfl ?_
    refine ev_ald0 k42_18 ?_
    refine ev_gfv (j := 3) k42_19 (by first | assumption | rfl) rfl rfl rfl rfl h.2.2.1 ?_
    refine ev_cV2i k42_22 cs_129 (by first | assumption | rfl) (by omega) (Nat.le_of_ble_eq_true rfl) rfl rfl rfl ?_
    refine sp_get (n := L) t7 t8 (by decide) e2 (by omega) (by decide) ?_
    rw [if_pos h11]
    refine ev_goto k42_25 ?_
    refine ev_ri k42_29 rfl ?_
    obtain ⟨q, hq, eq⟩ := inB_nI (by omega) h11
    have : p = q := (nI_eq (by omega) (by omega)).mp eq
    subst this
    rw [nI_clamp (by omega), show I (77 + 1) p = g p from by rw [h.1 (77 + 1) (by decide) (by decide) (by decide)]; exact hb.2.2.2.2 p hq]
    exact hQ
/-- Reader.isDigit -/
theorem sp_isDigit {X : Nat × (Nat → Int32)} {d : Nat} {I : mm_I} {v : Int32} {P : Int32 → mm_I → Prop} (hQ : P (bI (dg v)) I) : mm_Ev mm_T0 X (d) 48 0 (mm_ent 48 [.int v]) [] I (mm_pi P) := by
  show mm_Ev mm_T0 X (d) 48 0 [.int v] [] I (mm_pi P)
  refine ev_ild0 k48_0 ?_
  refine ev_bipush k48_1 ?_
  refine ev_icmp_lt k48_3 (fun h3 => ?_) (fun h3 => ?_)
  ·
    refine ev_iconst k48_16 ?_
    refine ev_rz k48_17 rfl (by first | exact bI01 _ | exact Or.inl rfl | exact Or.inr rfl | assumption) ?_
    rw [show dg v = false from wB_lo h3] at hQ
    exact hQ
  ·
    refine ev_ild0 k48_6 ?_
    refine ev_bipush k48_7 ?_
    refine ev_icmp_gt k48_9 (fun h9 => ?_) (fun h9 => ?_)
    ·
      refine ev_iconst k48_16 ?_
      refine ev_rz k48_17 rfl (by first | exact bI01 _ | exact Or.inl rfl | exact Or.inr rfl | assumption) ?_
      rw [show dg v = false from wB_hi h9] at hQ
      exact hQ
    ·
      refine ev_iconst k48_12 ?_
      refine ev_goto k48_13 ?_
      refine ev_rz k48_17 rfl (by first | exact bI01 _ | exact Or.inl rfl | exact Or.inr rfl | assumption) ?_
      rw [show dg v = true from wB_ok h3 h9] at hQ
      exact hQ
/-- Reader.levelOf -/
theorem sp_levelOf {X : Nat × (Nat → Int32)} {d : Nat} {I : mm_I} {v : Int32} {P : Int32 → mm_I → Prop} (hQ : P (lvO v) I) : mm_Ev mm_T0 X (d) 44 0 (mm_ent 44 [.int v]) [] I (mm_pi P) := by
  show mm_Ev mm_T0 X (d) 44 0 [.int v] [] I (mm_pi P)
  refine ev_ild0 k44_0 ?_
  refine ev_lk (l := [(37, 99), (38, 93), (42, 99), (43, 97), (45, 97), (47, 99), (60, 95), (61, 95), (62, 95), (124, 91)]) k44_1 rfl ?_
  refine sw_cons (key := 37) (t := 100) rfl rfl (fun h1 => ?_) (fun h1_0 => ?_)
  ·
    refine ev_iconst k44_100 ?_
    refine ev_ri k44_101 rfl ?_
    subst h1
    exact hQ
  refine sw_cons (key := 38) (t := 94) rfl rfl (fun h1 => ?_) (fun h1_1 => ?_)
  ·
    refine ev_iconst k44_94 ?_
    refine ev_ri k44_95 rfl ?_
    subst h1
    exact hQ
  refine sw_cons (key := 42) (t := 100) rfl rfl (fun h1 => ?_) (fun h1_2 => ?_)
  ·
    refine ev_iconst k44_100 ?_
    refine ev_ri k44_101 rfl ?_
    subst h1
    exact hQ
  refine sw_cons (key := 43) (t := 98) rfl rfl (fun h1 => ?_) (fun h1_3 => ?_)
  ·
    refine ev_iconst k44_98 ?_
    refine ev_ri k44_99 rfl ?_
    subst h1
    exact hQ
  refine sw_cons (key := 45) (t := 98) rfl rfl (fun h1 => ?_) (fun h1_4 => ?_)
  ·
    refine ev_iconst k44_98 ?_
    refine ev_ri k44_99 rfl ?_
    subst h1
    exact hQ
  refine sw_cons (key := 47) (t := 100) rfl rfl (fun h1 => ?_) (fun h1_5 => ?_)
  ·
    refine ev_iconst k44_100 ?_
    refine ev_ri k44_101 rfl ?_
    subst h1
    exact hQ
  refine sw_cons (key := 60) (t := 96) rfl rfl (fun h1 => ?_) (fun h1_6 => ?_)
  ·
    refine ev_iconst k44_96 ?_
    refine ev_ri k44_97 rfl ?_
    subst h1
    exact hQ
  refine sw_cons (key := 61) (t := 96) rfl rfl (fun h1 => ?_) (fun h1_7 => ?_)
  ·
    refine ev_iconst k44_96 ?_
    refine ev_ri k44_97 rfl ?_
    subst h1
    exact hQ
  refine sw_cons (key := 62) (t := 96) rfl rfl (fun h1 => ?_) (fun h1_8 => ?_)
  ·
    refine ev_iconst k44_96 ?_
    refine ev_ri k44_97 rfl ?_
    subst h1
    exact hQ
  refine sw_cons (key := 124) (t := 92) rfl rfl (fun h1 => ?_) (fun h1_9 => ?_)
  ·
    refine ev_iconst k44_92 ?_
    refine ev_ri k44_93 rfl ?_
    subst h1
    exact hQ
  refine sw_nil (t := 102) rfl ?_
  refine ev_iconst k44_102 ?_
  refine ev_ri k44_103 rfl ?_
  have e : lvO v = -1 := by unfold lvO; rw [if_neg h1_9, if_neg h1_1, if_neg h1_6, if_neg h1_7, if_neg h1_8, if_neg h1_3, if_neg h1_4, if_neg h1_2, if_neg h1_5, if_neg h1_0]
  rw [e] at hQ
  exact hQ
theorem lp_ioc {X : Nat × (Nat → Int32)} {d : Nat} {I : mm_I} {a : Nat} {l : List Int32} {c s0 : Int32} {P : Int32 → mm_I → Prop} (hl : mm_oldB a = some l) (hl3 : l.length ≤ 10) (hQ : P (match fnd (fun i => decide (l.getD i 0 = c.toInt8.toInt32)) l.length 0 with | some i => nI i | none => -1) I) : ∀ (n i : Nat), i + n = l.length → fnd (fun i => decide (l.getD i 0 = c.toInt8.toInt32)) n i = fnd (fun i => decide (l.getD i 0 = c.toInt8.toInt32)) l.length 0 → mm_Ev mm_T0 X d 250 7 [.ref a, .int c, .int s0, .int (nI l.length), .int c.toInt8.toInt32, .int (nI i)] [] I (mm_pi P) := by
  intro n
  induction n with
  | zero =>
    intro i hi he
    have e : i = l.length := by omega
    subst e
    refine ev_ild5 k250_7 ?_
    refine ev_ild3 k250_9 ?_
    refine ev_jcmp_ge k250_10 (fun h10 => ?_) (fun h10 => absurd h10 (nI_nlt (Nat.le_refl _) (by omega)))
    refine ev_iconst k250_31 ?_
    refine ev_ri k250_32 rfl ?_
    rw [← he] at hQ
    exact hQ
  | succ n ih =>
    intro i hi he
    have hlt : i < l.length := by omega
    refine ev_ild5 k250_7 ?_
    refine ev_ild3 k250_9 ?_
    refine ev_jcmp_ge k250_10 (fun h10 => absurd (nI_lt hlt (by omega)) h10) (fun h10 => ?_)
    refine ev_ald0 k250_13 ?_
    refine ev_ild5 k250_14 ?_
    refine ev_baload k250_16 hl (vp_in_nI hlt (by omega)) ?_
    rw [nI_clamp (by omega)]
    refine ev_ild4 k250_17 ?_
    refine ev_icmp_ne k250_19 (fun h19 => ?_) (fun h19 => ?_)
    ·
      refine ev_inc5 k250_25 rfl ?_
      refine ev_goto k250_28 ?_
      have e : fnd (fun i => decide (l.getD i 0 = c.toInt8.toInt32)) (n + 1) i = fnd (fun i => decide (l.getD i 0 = c.toInt8.toInt32)) n (i + 1) := if_neg (fun z => h19 (of_decide_eq_true z))
      rw [nI_1]
      exact ih (i + 1) (by omega) (e.symm.trans he)
    ·
      refine ev_ild5 k250_22 ?_
      refine ev_ri k250_24 rfl ?_
      have e : fnd (fun i => decide (l.getD i 0 = c.toInt8.toInt32)) (n + 1) i = some i := if_pos (decide_eq_true h19)
      rw [e] at he
      rw [← he] at hQ
      exact hQ
def nmb : Nat → List Int32
  | 0 => [107, 99, 115]
  | _ => [104, 110, 118]
theorem nm_b : ∀ (b : Fin 256), (match fnd (fun i => decide ((nmb 0).getD i 0 = (nI b.val).toInt8.toInt32)) 3 0 with | some i => nI i | none => -1) = nm 0 (nI b.val) ∧ (match fnd (fun i => decide ((nmb 1).getD i 0 = (nI b.val).toInt8.toInt32)) 3 0 with | some i => nI i | none => -1) = nm 1 (nI b.val) := by decide +kernel
theorem chr_b : ∀ (b : Fin 256), ((nI b.val).toUInt32 % 65536).toInt32 = nI b.val := by decide +kernel
/-- StringLatin1.canEncode -/
theorem sp_canEnc {X : Nat × (Nat → Int32)} {d : Nat} {I : mm_I} {b : Nat} {P : Int32 → mm_I → Prop} (hb : b < 256) (hQ : P 1 I) : mm_Ev mm_T0 X (d) 248 0 (mm_ent 248 [.int (nI b)]) [] I (mm_pi P) := by
  show mm_Ev mm_T0 X (d) 248 0 [.int (nI b)] [] I (mm_pi P)
  refine ev_ild0 k248_0 ?_
  refine ev_if_lt k248_1 (fun h1 => absurd h1 (nI_pos (by omega))) (fun h1 => ?_)
  refine ev_ild0 k248_4 ?_
  refine ev_sipush k248_5 ?_
  refine ev_icmp_gt k248_8 (fun h8 => absurd ((nI_ltI (show 255 < 2 ^ 31 by decide) (show b < 2 ^ 31 by omega)).mp (show nI 255 < nI b from h8)) (by omega)) (fun h8 => ?_)
  refine ev_iconst k248_11 ?_
  refine ev_goto k248_12 ?_
  refine ev_rz k248_16 rfl (by first | exact bI01 _ | exact Or.inl rfl | exact Or.inr rfl | assumption) ?_
  exact hQ
/-- StringLatin1.indexOfChar -/
theorem sp_iocU0 {X : Nat × (Nat → Int32)} {d : Nat} {I : mm_I} {b : Nat} {P : Int32 → mm_I → Prop} (hb : b < 256) (hQ : P (nm 0 (nI b)) I) : mm_Ev mm_T0 X (d) 250 0 (mm_ent 250 [.ref 1021, .int (nI b), .int 0, .int 3]) [] I (mm_pi P) := by
  show mm_Ev mm_T0 X (d) 250 0 [.ref 1021, .int (nI b), .int 0, .int 3, .retAddr 0, .retAddr 0] [] I (mm_pi P)
  refine ev_ild1 k250_0 ?_
  refine ev_i2b k250_1 ?_
  refine ev_ist4 k250_2 rfl ?_
  refine ev_ild2 k250_4 ?_
  refine ev_ist5 k250_5 rfl ?_
  refine lp_ioc (a := 1021) (l := nmb 0) rfl (by decide) ?_ 3 0 rfl rfl
  rw [show (nmb 0).length = 3 from rfl, (nm_b ⟨b, hb⟩).1]
  exact hQ
/-- StringLatin1.indexOf -/
theorem sp_iofU0 {X : Nat × (Nat → Int32)} {d : Nat} {I : mm_I} {b : Nat} {P : Int32 → mm_I → Prop} (hb : b < 256) (hQ : P (nm 0 (nI b)) I) : mm_Ev mm_T0 X (d + 2) 249 0 (mm_ent 249 [.ref 1021, .int (nI b), .int 0, .int 3]) [] I (mm_pi P) := by
  show mm_Ev mm_T0 X (d + 2) 249 0 [.ref 1021, .int (nI b), .int 0, .int 3] [] I (mm_pi P)
  refine ev_ild1 k249_0 ?_
  refine ev_cS1i k249_1 cs_295 rfl rfl rfl ?_
  refine sp_canEnc hb ?_
  refine ev_if_ne k249_4 (fun h4 => ?_) (fun h4 => absurd h4 (by decide))
  refine ev_ild2 k249_9 ?_
  refine ev_iconst k249_10 ?_
  refine ev_max k249_11 rfl ?_
  refine ev_ist2 k249_14 rfl ?_
  refine ev_ild3 k249_15 ?_
  refine ev_ald0 k249_16 ?_
  refine ev_alenB (l := nmb 0) k249_17 (by decide) rfl rfl ?_
  refine ev_min k249_18 rfl ?_
  refine ev_ist3 k249_21 rfl ?_
  refine ev_ild2 k249_22 ?_
  refine ev_ild3 k249_23 ?_
  refine ev_icmp_lt k249_24 (fun h24 => ?_) (fun h24 => absurd (by decide) h24)
  refine ev_ald0 k249_29 ?_
  refine ev_ild1 k249_30 ?_
  refine ev_ild2 k249_31 ?_
  refine ev_ild3 k249_32 ?_
  refine ev_cS4i k249_33 cs_296 rfl rfl rfl ?_
  refine sp_iocU0 hb ?_
  refine ev_ri k249_36 rfl ?_
  exact hQ
/-- String.isLatin1 -/
theorem sp_sLatU0 {X : Nat × (Nat → Int32)} {d : Nat} {I : mm_I} {P : Int32 → mm_I → Prop} (hQ : P 1 I) : mm_Ev mm_T0 X (d) 247 0 (mm_ent 247 [.ref 1011]) [] I (mm_pi P) := by
  show mm_Ev mm_T0 X (d) 247 0 [.ref 1011] [] I (mm_pi P)
  refine ev_getstatic k247_0 ?_
  refine ev_if_eq k247_3 (fun h3 => absurd h3 (by decide)) (fun h3 => ?_)
  refine ev_ald0 k247_6 ?_
  refine ev_strc k247_7 (by decide) ?_
  refine ev_if_ne k247_10 (fun h10 => absurd rfl h10) (fun h10 => ?_)
  refine ev_iconst k247_13 ?_
  refine ev_goto k247_14 ?_
  refine ev_rz k247_18 rfl (by first | exact bI01 _ | exact Or.inl rfl | exact Or.inr rfl | assumption) ?_
  exact hQ
/-- String.coder -/
theorem sp_sCodU0 {X : Nat × (Nat → Int32)} {d : Nat} {I : mm_I} {P : Int32 → mm_I → Prop} (hQ : P 0 I) : mm_Ev mm_T0 X (d) 246 0 (mm_ent 246 [.ref 1011]) [] I (mm_pi P) := by
  show mm_Ev mm_T0 X (d) 246 0 [.ref 1011] [] I (mm_pi P)
  refine ev_getstatic k246_0 ?_
  refine ev_if_eq k246_3 (fun h3 => absurd h3 (by decide)) (fun h3 => ?_)
  refine ev_ald0 k246_6 ?_
  refine ev_strc k246_7 (by decide) ?_
  refine ev_goto k246_10 ?_
  refine ev_rz k246_14 rfl (by first | exact bI01 _ | exact Or.inl rfl | exact Or.inr rfl | assumption) ?_
  exact hQ
/-- String.length -/
theorem sp_sLenU0 {X : Nat × (Nat → Int32)} {d : Nat} {I : mm_I} {P : Int32 → mm_I → Prop} (hQ : P 3 I) : mm_Ev mm_T0 X (d + 1) 243 0 (mm_ent 243 [.ref 1011]) [] I (mm_pi P) := by
  show mm_Ev mm_T0 X (d + 1) 243 0 [.ref 1011] [] I (mm_pi P)
  refine ev_ald0 k243_0 ?_
  refine ev_strv k243_1 (by decide) ?_
  refine ev_alenB (l := nmb 0) k243_4 (by decide) rfl rfl ?_
  refine ev_ald0 k243_5 ?_
  refine ev_cT1i k243_6 cs_290 (by decide) rfl rfl rfl ?_
  refine sp_sCodU0 ?_
  refine ev_ishr k243_9 ?_
  rw [show Int32.ofNat (nmb 0).length >>> ((0 : Int32) &&& 31) = 3 from by decide]
  refine ev_ri k243_10 rfl ?_
  exact hQ
/-- String.indexOf_II -/
theorem sp_sIoU0 {X : Nat × (Nat → Int32)} {d : Nat} {I : mm_I} {b : Nat} {P : Int32 → mm_I → Prop} (hb : b < 256) (hQ : P (nm 0 (nI b)) I) : mm_Ev mm_T0 X (d + 3) 245 0 (mm_ent 245 [.ref 1011, .int (nI b), .int 0]) [] I (mm_pi P) := by
  show mm_Ev mm_T0 X (d + 3) 245 0 [.ref 1011, .int (nI b), .int 0] [] I (mm_pi P)
  refine ev_ald0 k245_0 ?_
  refine ev_cT1i k245_1 cs_292 (by decide) rfl rfl rfl ?_
  refine sp_sLatU0 ?_
  refine ev_if_eq k245_4 (fun h4 => absurd h4 (by decide)) (fun h4 => ?_)
  refine ev_ald0 k245_7 ?_
  refine ev_strv k245_8 (by decide) ?_
  refine ev_ild1 k245_11 ?_
  refine ev_ild2 k245_12 ?_
  refine ev_ald0 k245_13 ?_
  refine ev_cT1i k245_14 cs_293 (by decide) rfl rfl rfl ?_
  refine sp_sLenU0 ?_
  refine ev_cS4i k245_17 cs_294 rfl rfl rfl ?_
  refine sp_iofU0 hb ?_
  refine ev_goto k245_20 ?_
  refine ev_ri k245_36 rfl ?_
  exact hQ
/-- String.indexOf -/
theorem sp_sIU0 {X : Nat × (Nat → Int32)} {d : Nat} {I : mm_I} {b : Nat} {P : Int32 → mm_I → Prop} (hb : b < 256) (hQ : P (nm 0 (nI b)) I) : mm_Ev mm_T0 X (d + 4) 244 0 (mm_ent 244 [.ref 1011, .int (nI b)]) [] I (mm_pi P) := by
  show mm_Ev mm_T0 X (d + 4) 244 0 [.ref 1011, .int (nI b)] [] I (mm_pi P)
  refine ev_ald0 k244_0 ?_
  refine ev_ild1 k244_1 ?_
  refine ev_iconst k244_2 ?_
  refine ev_cT3i k244_3 cs_291 (by decide) rfl rfl rfl ?_
  refine sp_sIoU0 hb ?_
  refine ev_ri k244_6 rfl ?_
  exact hQ
/-- StringLatin1.indexOfChar -/
theorem sp_iocU1 {X : Nat × (Nat → Int32)} {d : Nat} {I : mm_I} {b : Nat} {P : Int32 → mm_I → Prop} (hb : b < 256) (hQ : P (nm 1 (nI b)) I) : mm_Ev mm_T0 X (d) 250 0 (mm_ent 250 [.ref 1022, .int (nI b), .int 0, .int 3]) [] I (mm_pi P) := by
  show mm_Ev mm_T0 X (d) 250 0 [.ref 1022, .int (nI b), .int 0, .int 3, .retAddr 0, .retAddr 0] [] I (mm_pi P)
  refine ev_ild1 k250_0 ?_
  refine ev_i2b k250_1 ?_
  refine ev_ist4 k250_2 rfl ?_
  refine ev_ild2 k250_4 ?_
  refine ev_ist5 k250_5 rfl ?_
  refine lp_ioc (a := 1022) (l := nmb 1) rfl (by decide) ?_ 3 0 rfl rfl
  rw [show (nmb 1).length = 3 from rfl, (nm_b ⟨b, hb⟩).2]
  exact hQ
/-- StringLatin1.indexOf -/
theorem sp_iofU1 {X : Nat × (Nat → Int32)} {d : Nat} {I : mm_I} {b : Nat} {P : Int32 → mm_I → Prop} (hb : b < 256) (hQ : P (nm 1 (nI b)) I) : mm_Ev mm_T0 X (d + 2) 249 0 (mm_ent 249 [.ref 1022, .int (nI b), .int 0, .int 3]) [] I (mm_pi P) := by
  show mm_Ev mm_T0 X (d + 2) 249 0 [.ref 1022, .int (nI b), .int 0, .int 3] [] I (mm_pi P)
  refine ev_ild1 k249_0 ?_
  refine ev_cS1i k249_1 cs_295 rfl rfl rfl ?_
  refine sp_canEnc hb ?_
  refine ev_if_ne k249_4 (fun h4 => ?_) (fun h4 => absurd h4 (by decide))
  refine ev_ild2 k249_9 ?_
  refine ev_iconst k249_10 ?_
  refine ev_max k249_11 rfl ?_
  refine ev_ist2 k249_14 rfl ?_
  refine ev_ild3 k249_15 ?_
  refine ev_ald0 k249_16 ?_
  refine ev_alenB (l := nmb 1) k249_17 (by decide) rfl rfl ?_
  refine ev_min k249_18 rfl ?_
  refine ev_ist3 k249_21 rfl ?_
  refine ev_ild2 k249_22 ?_
  refine ev_ild3 k249_23 ?_
  refine ev_icmp_lt k249_24 (fun h24 => ?_) (fun h24 => absurd (by decide) h24)
  refine ev_ald0 k249_29 ?_
  refine ev_ild1 k249_30 ?_
  refine ev_ild2 k249_31 ?_
  refine ev_ild3 k249_32 ?_
  refine ev_cS4i k249_33 cs_296 rfl rfl rfl ?_
  refine sp_iocU1 hb ?_
  refine ev_ri k249_36 rfl ?_
  exact hQ
/-- String.isLatin1 -/
theorem sp_sLatU1 {X : Nat × (Nat → Int32)} {d : Nat} {I : mm_I} {P : Int32 → mm_I → Prop} (hQ : P 1 I) : mm_Ev mm_T0 X (d) 247 0 (mm_ent 247 [.ref 1012]) [] I (mm_pi P) := by
  show mm_Ev mm_T0 X (d) 247 0 [.ref 1012] [] I (mm_pi P)
  refine ev_getstatic k247_0 ?_
  refine ev_if_eq k247_3 (fun h3 => absurd h3 (by decide)) (fun h3 => ?_)
  refine ev_ald0 k247_6 ?_
  refine ev_strc k247_7 (by decide) ?_
  refine ev_if_ne k247_10 (fun h10 => absurd rfl h10) (fun h10 => ?_)
  refine ev_iconst k247_13 ?_
  refine ev_goto k247_14 ?_
  refine ev_rz k247_18 rfl (by first | exact bI01 _ | exact Or.inl rfl | exact Or.inr rfl | assumption) ?_
  exact hQ
/-- String.coder -/
theorem sp_sCodU1 {X : Nat × (Nat → Int32)} {d : Nat} {I : mm_I} {P : Int32 → mm_I → Prop} (hQ : P 0 I) : mm_Ev mm_T0 X (d) 246 0 (mm_ent 246 [.ref 1012]) [] I (mm_pi P) := by
  show mm_Ev mm_T0 X (d) 246 0 [.ref 1012] [] I (mm_pi P)
  refine ev_getstatic k246_0 ?_
  refine ev_if_eq k246_3 (fun h3 => absurd h3 (by decide)) (fun h3 => ?_)
  refine ev_ald0 k246_6 ?_
  refine ev_strc k246_7 (by decide) ?_
  refine ev_goto k246_10 ?_
  refine ev_rz k246_14 rfl (by first | exact bI01 _ | exact Or.inl rfl | exact Or.inr rfl | assumption) ?_
  exact hQ
/-- String.length -/
theorem sp_sLenU1 {X : Nat × (Nat → Int32)} {d : Nat} {I : mm_I} {P : Int32 → mm_I → Prop} (hQ : P 3 I) : mm_Ev mm_T0 X (d + 1) 243 0 (mm_ent 243 [.ref 1012]) [] I (mm_pi P) := by
  show mm_Ev mm_T0 X (d + 1) 243 0 [.ref 1012] [] I (mm_pi P)
  refine ev_ald0 k243_0 ?_
  refine ev_strv k243_1 (by decide) ?_
  refine ev_alenB (l := nmb 1) k243_4 (by decide) rfl rfl ?_
  refine ev_ald0 k243_5 ?_
  refine ev_cT1i k243_6 cs_290 (by decide) rfl rfl rfl ?_
  refine sp_sCodU1 ?_
  refine ev_ishr k243_9 ?_
  rw [show Int32.ofNat (nmb 1).length >>> ((0 : Int32) &&& 31) = 3 from by decide]
  refine ev_ri k243_10 rfl ?_
  exact hQ
/-- String.indexOf_II -/
theorem sp_sIoU1 {X : Nat × (Nat → Int32)} {d : Nat} {I : mm_I} {b : Nat} {P : Int32 → mm_I → Prop} (hb : b < 256) (hQ : P (nm 1 (nI b)) I) : mm_Ev mm_T0 X (d + 3) 245 0 (mm_ent 245 [.ref 1012, .int (nI b), .int 0]) [] I (mm_pi P) := by
  show mm_Ev mm_T0 X (d + 3) 245 0 [.ref 1012, .int (nI b), .int 0] [] I (mm_pi P)
  refine ev_ald0 k245_0 ?_
  refine ev_cT1i k245_1 cs_292 (by decide) rfl rfl rfl ?_
  refine sp_sLatU1 ?_
  refine ev_if_eq k245_4 (fun h4 => absurd h4 (by decide)) (fun h4 => ?_)
  refine ev_ald0 k245_7 ?_
  refine ev_strv k245_8 (by decide) ?_
  refine ev_ild1 k245_11 ?_
  refine ev_ild2 k245_12 ?_
  refine ev_ald0 k245_13 ?_
  refine ev_cT1i k245_14 cs_293 (by decide) rfl rfl rfl ?_
  refine sp_sLenU1 ?_
  refine ev_cS4i k245_17 cs_294 rfl rfl rfl ?_
  refine sp_iofU1 hb ?_
  refine ev_goto k245_20 ?_
  refine ev_ri k245_36 rfl ?_
  exact hQ
/-- String.indexOf -/
theorem sp_sIU1 {X : Nat × (Nat → Int32)} {d : Nat} {I : mm_I} {b : Nat} {P : Int32 → mm_I → Prop} (hb : b < 256) (hQ : P (nm 1 (nI b)) I) : mm_Ev mm_T0 X (d + 4) 244 0 (mm_ent 244 [.ref 1012, .int (nI b)]) [] I (mm_pi P) := by
  show mm_Ev mm_T0 X (d + 4) 244 0 [.ref 1012, .int (nI b)] [] I (mm_pi P)
  refine ev_ald0 k244_0 ?_
  refine ev_ild1 k244_1 ?_
  refine ev_iconst k244_2 ?_
  refine ev_cT3i k244_3 cs_291 (by decide) rfl rfl rfl ?_
  refine sp_sIoU1 hb ?_
  refine ev_ri k244_6 rfl ?_
  exact hQ
theorem lm_names {X : Nat × (Nat → Int32)} {D : Nat} {K : mm_I} {u b : Nat} {op s : Int32} {v3 : Value} {Q : Option Value → mm_I → Prop} (hu : u ≤ 1) (hK : K 74 2 = nI (2 + u)) (hb : b < 256) (hs : s = nI b) (hQ : mm_Ev mm_T0 X (D + 8) 45 23 [.ref 74, .int op, .int s, v3] [.int (nm u s)] K Q) : mm_Ev mm_T0 X (D + 8) 45 14 [.ref 74, .int op, .int s, v3] [] K Q := by
  subst hs
  rcases (show u = 0 ∨ u = 1 by omega) with rfl | rfl
  ·
    refine ev_ald0 k45_14 ?_
    refine ev_gets k45_15 (by first | assumption | rfl) rfl rfl rfl (show _ = (2 : Int32) from hK) (by decide) ?_
    refine ev_ild2 k45_18 ?_
    refine ev_i2c k45_19 ?_
    rw [show ((nI b).toUInt32 % 65536).toInt32 = nI b from chr_b ⟨b, hb⟩]
    refine ev_cT2i k45_20 cs_134 (by decide) rfl rfl rfl ?_
    refine sp_sIU0 hb ?_
    exact hQ
  ·
    refine ev_ald0 k45_14 ?_
    refine ev_gets k45_15 (by first | assumption | rfl) rfl rfl rfl (show _ = (3 : Int32) from hK) (by decide) ?_
    refine ev_ild2 k45_18 ?_
    refine ev_i2c k45_19 ?_
    rw [show ((nI b).toUInt32 % 65536).toInt32 = nI b from chr_b ⟨b, hb⟩]
    refine ev_cT2i k45_20 cs_134 (by decide) rfl rfl rfl ?_
    refine sp_sIU1 hb ?_
    exact hQ
