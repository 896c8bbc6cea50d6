/-! The cells behind the constructors -/
def mm_T0 : List mm_C := [(11, 10, [.ref 1, .ref 3, .ref 11, .ref 32, .ref 53, .ref 74, .ref 79, .ref 88, .ref 90, .int 0]), (7, 3, [.ref 2, .int 0, .int 0]), (100, 40, []), (101, 7, [.ref 4, .ref 5, .ref 6, .ref 7, .ref 8, .ref 9, .ref 10]), (1, 1, [.ref 1]), (10, 1, [.ref 1]), (3, 1, [.ref 1]), (6, 1, [.ref 1]), (8, 1, [.ref 1]), (0, 1, [.ref 1]), (2, 1, [.ref 1]), (4, 18, [.ref 3, .int 0, .ref 12, .ref 13, .ref 14, .ref 15, .ref 16, .int 0, .ref 17, .ref 18, .ref 19, .ref 20, .ref 24, .ref 28, .ref 30, .int 0, .int 0, .int 0]), (100, 6, []), (100, 6, []), (100, 6, []), (100, 6, []), (100, 6, []), (100, 6, []), (100, 6, []), (100, 6, []), (9, 4, [.ref 21, .ref 23, .int 0, .int 0]), (7, 3, [.ref 22, .int 0, .int 0]), (100, 50, []), (100, 50, []), (9, 4, [.ref 25, .ref 27, .int 0, .int 0]), (7, 3, [.ref 26, .int 0, .int 0]), (100, 50, []), (100, 50, []), (7, 3, [.ref 29, .int 0, .int 0]), (100, 50, []), (7, 3, [.ref 31, .int 0, .int 0]), (100, 20, []), (4, 18, [.ref 3, .int 0, .ref 33, .ref 34, .ref 35, .ref 36, .ref 37, .int 0, .ref 38, .ref 39, .ref 40, .ref 41, .ref 45, .ref 49, .ref 51, .int 0, .int 0, .int 0]), (100, 6, []), (100, 6, []), (100, 6, []), (100, 6, []), (100, 6, []), (100, 6, []), (100, 6, []), (100, 6, []), (9, 4, [.ref 42, .ref 44, .int 0, .int 0]), (7, 3, [.ref 43, .int 0, .int 0]), (100, 50, []), (100, 50, []), (9, 4, [.ref 46, .ref 48, .int 0, .int 0]), (7, 3, [.ref 47, .int 0, .int 0]), (100, 50, []), (100, 50, []), (7, 3, [.ref 50, .int 0, .int 0]), (100, 50, []), (7, 3, [.ref 52, .int 0, .int 0]), (100, 20, []), (4, 18, [.ref 3, .int 0, .ref 54, .ref 55, .ref 56, .ref 57, .ref 58, .int 0, .ref 59, .ref 60, .ref 61, .ref 62, .ref 66, .ref 70, .ref 72, .int 0, .int 0, .int 0]), (100, 6, []), (100, 6, []), (100, 6, []), (100, 6, []), (100, 6, []), (100, 6, []), (100, 6, []), (100, 6, []), (9, 4, [.ref 63, .ref 65, .int 0, .int 0]), (7, 3, [.ref 64, .int 0, .int 0]), (100, 50, []), (100, 50, []), (9, 4, [.ref 67, .ref 69, .int 0, .int 0]), (7, 3, [.ref 68, .int 0, .int 0]), (100, 50, []), (100, 50, []), (7, 3, [.ref 71, .int 0, .int 0]), (100, 50, []), (7, 3, [.ref 73, .int 0, .int 0]), (100, 20, []), (5, 5, [.ref 75, .ref 77, .long 0, .int 0, .int 0]), (7, 3, [.ref 76, .int 0, .int 0]), (100, 50, []), (7, 3, [.ref 78, .int 0, .int 0]), (100, 50, []), (102, 4, [.ref 80, .ref 82, .ref 84, .ref 86]), (7, 3, [.ref 81, .int 0, .int 0]), (100, 40, []), (7, 3, [.ref 83, .int 0, .int 0]), (100, 40, []), (7, 3, [.ref 85, .int 0, .int 0]), (100, 40, []), (7, 3, [.ref 87, .int 0, .int 0]), (100, 40, []), (7, 3, [.ref 89, .int 0, .int 0]), (100, 20, []), (100, 6, []), (12, 19, [.ref 92, .ref 93, .ref 94, .int 0, .ref 95, .ref 96, .ref 97, .ref 98, .ref 99, .int 0, .int 0, .int 0, .int 0, .int 0, .ref 100, .int 0, .ref 101, .ref 102, .ref 103]), (100, 321, []), (100, 321, []), (100, 321, []), (100, 6, []), (100, 50, []), (100, 50, []), (100, 3, []), (100, 50, []), (100, 40, []), (100, 4, []), (100, 4, []), (100, 160, [])]
def hH (hb : Nat) : Prop := hb = 11 ∨ hb = 32 ∨ hb = 53
abbrev hC (hb : Nat) : mm_C := (4, 18, [.ref 3, .int 0, .ref (hb + 1), .ref (hb + 2), .ref (hb + 3), .ref (hb + 4), .ref (hb + 5), .int 0, .ref (hb + 6), .ref (hb + 7), .ref (hb + 8), .ref (hb + 9), .ref (hb + 13), .ref (hb + 17), .ref (hb + 19), .int 0, .int 0, .int 0])
theorem tH0 {hb : Nat} (h : hH hb) : mm_T0[hb]? = some (hC hb) := by rcases h with rfl | rfl | rfl <;> rfl
theorem tH1 {hb : Nat} (h : hH hb) : mm_T0[hb + 1]? = some (aC 6) := by rcases h with rfl | rfl | rfl <;> rfl
theorem tH2 {hb : Nat} (h : hH hb) : mm_T0[hb + 2]? = some (aC 6) := by rcases h with rfl | rfl | rfl <;> rfl
theorem tH3 {hb : Nat} (h : hH hb) : mm_T0[hb + 3]? = some (aC 6) := by rcases h with rfl | rfl | rfl <;> rfl
theorem tH4 {hb : Nat} (h : hH hb) : mm_T0[hb + 4]? = some (aC 6) := by rcases h with rfl | rfl | rfl <;> rfl
theorem tH5 {hb : Nat} (h : hH hb) : mm_T0[hb + 5]? = some (aC 6) := by rcases h with rfl | rfl | rfl <;> rfl
theorem tH6 {hb : Nat} (h : hH hb) : mm_T0[hb + 6]? = some (aC 6) := by rcases h with rfl | rfl | rfl <;> rfl
theorem tH7 {hb : Nat} (h : hH hb) : mm_T0[hb + 7]? = some (aC 6) := by rcases h with rfl | rfl | rfl <;> rfl
theorem tH8 {hb : Nat} (h : hH hb) : mm_T0[hb + 8]? = some (aC 6) := by rcases h with rfl | rfl | rfl <;> rfl
theorem tH9 {hb : Nat} (h : hH hb) : mm_T0[hb + 9]? = some (tC (hb + 9)) := by rcases h with rfl | rfl | rfl <;> rfl
theorem tH10 {hb : Nat} (h : hH hb) : mm_T0[hb + 10]? = some (rC (hb + 10)) := by rcases h with rfl | rfl | rfl <;> rfl
theorem tH11 {hb : Nat} (h : hH hb) : mm_T0[hb + 11]? = some (aC 50) := by rcases h with rfl | rfl | rfl <;> rfl
theorem tH12 {hb : Nat} (h : hH hb) : mm_T0[hb + 12]? = some (aC 50) := by rcases h with rfl | rfl | rfl <;> rfl
theorem tH13 {hb : Nat} (h : hH hb) : mm_T0[hb + 13]? = some (tC (hb + 13)) := by rcases h with rfl | rfl | rfl <;> rfl
theorem tH14 {hb : Nat} (h : hH hb) : mm_T0[hb + 14]? = some (rC (hb + 14)) := by rcases h with rfl | rfl | rfl <;> rfl
theorem tH15 {hb : Nat} (h : hH hb) : mm_T0[hb + 15]? = some (aC 50) := by rcases h with rfl | rfl | rfl <;> rfl
theorem tH16 {hb : Nat} (h : hH hb) : mm_T0[hb + 16]? = some (aC 50) := by rcases h with rfl | rfl | rfl <;> rfl
theorem tH17 {hb : Nat} (h : hH hb) : mm_T0[hb + 17]? = some (rC (hb + 17)) := by rcases h with rfl | rfl | rfl <;> rfl
theorem tH18 {hb : Nat} (h : hH hb) : mm_T0[hb + 18]? = some (aC 50) := by rcases h with rfl | rfl | rfl <;> rfl
theorem tH19 {hb : Nat} (h : hH hb) : mm_T0[hb + 19]? = some (rC (hb + 19)) := by rcases h with rfl | rfl | rfl <;> rfl
theorem tH20 {hb : Nat} (h : hH hb) : mm_T0[hb + 20]? = some (aC 20) := by rcases h with rfl | rfl | rfl <;> rfl
theorem hH_lt {hb : Nat} (h : hH hb) : hb < 100 := by rcases h with rfl | rfl | rfl <;> decide
/-! Text: what a text gives doesn't depend on what lay on the pile -/
theorem ts_agree (a b c s : Int32) (m : Nat) (g h : Nat → Int32) (e : ∀ j, j < m → g j = h j) : (ts a b c s (m, g)).1 = (ts a b c s (m, h)).1 ∧ ∀ j, j < (ts a b c s (m, g)).1 → (ts a b c s (m, g)).2 j = (ts a b c s (m, h)).2 j := by
  unfold ts
  dsimp only
  by_cases h1 : s < -3
  · rw [if_pos h1, if_pos h1]
    by_cases h2 : s = -33
    · rw [if_pos h2, if_pos h2]
      by_cases h3 : 0 < m
      · rw [if_pos h3, if_pos h3]
        refine ⟨rfl, fun j hj => ?_⟩
        dsimp only at hj ⊢
        unfold upd
        simp only [e (m - 1) (by omega)]
        split
        · rfl
        · exact e j hj
      · rw [if_neg h3, if_neg h3]
        exact ⟨rfl, e⟩
    · rw [if_neg h2, if_neg h2]
      by_cases h3 : 1 < m
      · rw [if_pos h3, if_pos h3]
        refine ⟨rfl, fun j hj => ?_⟩
        dsimp only at hj ⊢
        unfold upd
        rw [e (m - 1) (by omega), e (m - 2) (by omega)]
        split
        · rfl
        · exact e j (by omega)
      · rw [if_neg h3, if_neg h3]
        exact ⟨rfl, e⟩
  · rw [if_neg h1, if_neg h1]
    by_cases h3 : m < 50
    · rw [if_pos h3, if_pos h3]
      refine ⟨rfl, fun j hj => ?_⟩
      dsimp only at hj ⊢
      unfold upd
      split
      · rfl
      · exact e j (by omega)
    · rw [if_neg h3, if_neg h3]
      exact ⟨rfl, e⟩
theorem ts_pos (a b c s : Int32) (m : Nat) (g : Nat → Int32) (h : 1 ≤ m) : 1 ≤ (ts a b c s (m, g)).1 := by
  unfold ts
  dsimp only
  repeat' split
  all_goals (dsimp only; omega)
theorem tv_agree (f : Nat → Int32) (a b c : Int32) : ∀ (n i m : Nat) (g h : Nat → Int32), (∀ j, j < m → g j = h j) → (tv f a b c n i (m, g)).1 = (tv f a b c n i (m, h)).1 ∧ (∀ j, j < (tv f a b c n i (m, g)).1 → (tv f a b c n i (m, g)).2 j = (tv f a b c n i (m, h)).2 j) ∧ (1 ≤ m → 1 ≤ (tv f a b c n i (m, g)).1) := by
  intro n
  induction n with
  | zero => intro i m g h e; exact ⟨rfl, e, fun z => z⟩
  | succ n ih =>
    intro i m g h e
    obtain ⟨e1, e2⟩ := ts_agree a b c (f i) m g h e
    have hp := ts_pos a b c (f i) m g
    show (tv f a b c n (i + 1) (ts a b c (f i) (m, g))).1 = (tv f a b c n (i + 1) (ts a b c (f i) (m, h))).1 ∧ (∀ j, j < (tv f a b c n (i + 1) (ts a b c (f i) (m, g))).1 → (tv f a b c n (i + 1) (ts a b c (f i) (m, g))).2 j = (tv f a b c n (i + 1) (ts a b c (f i) (m, h))).2 j) ∧ (1 ≤ m → 1 ≤ (tv f a b c n (i + 1) (ts a b c (f i) (m, g))).1)
    generalize ts a b c (f i) (m, g) = q at *
    generalize ts a b c (f i) (m, h) = q' at *
    obtain ⟨m1, g1⟩ := q
    obtain ⟨m2, g2⟩ := q'
    dsimp only at e1 e2 hp
    subst e1
    obtain ⟨r1, r2, r3⟩ := ih (i + 1) m1 g1 g2 e2
    exact ⟨r1, r2, fun z => r3 (hp z)⟩
/-- what a text gives -/
def tx (f : Nat → Int32) (l : Nat) (a b c : Int32) : Int32 := (tv f a b c l 0 (0, fun _ => 0)).2 0
/-- a text that begins with a number or a name -/
def tWF (f : Nat → Int32) (l : Nat) : Prop := 1 ≤ l ∧ l ≤ 50 ∧ ¬ f 0 < -3
theorem tx_eq {f : Nat → Int32} {l : Nat} (h : tWF f l) (a b c : Int32) (g : Nat → Int32) : (tv f a b c l 0 (0, g)).2 0 = tx f l a b c := by
  obtain ⟨h1, -, h2⟩ := h
  obtain ⟨n, rfl⟩ : ∃ n, l = n + 1 := ⟨l - 1, by omega⟩
  unfold tx
  have e : ∀ g : Nat → Int32, tv f a b c (n + 1) 0 (0, g) = tv f a b c n 1 (1, upd g 0 (vl (f 0) a b c)) := by
    intro g
    show tv f a b c n 1 (ts a b c (f 0) (0, g)) = _
    simp only [ts, if_neg h2]
    rfl
  rw [e, e]
  have hh := tv_agree f a b c n 1 1 (upd g 0 (vl (f 0) a b c)) (upd (fun _ => 0) 0 (vl (f 0) a b c)) (fun j hj => by
    have : j = 0 := by omega
    subst this
    simp [upd])
  exact hh.2.1 0 (Nat.lt_of_lt_of_le (by omega) (hh.2.2 (by omega)))
