/-! Behind a run all sit at chairs of their own; which chairs are taken -/
theorem tk_set : ∀ (s : Fin 64) (j c : Fin 6), (nI s.val ||| (1 <<< (nI j.val &&& 31))) = nI (s.val ||| 2 ^ j.val) ∧ s.val ||| 2 ^ j.val < 64 ∧ iB (nI (s.val ||| 2 ^ j.val)) (nI c.val) = (iB (nI s.val) (nI c.val) || decide (j.val = c.val)) := by decide +kernel
theorem m1_ne {j : Nat} (h : j < 2 ^ 31) : ¬ nI j = -1 := fun z => nI_pos h (by rw [z]; decide)
theorem nI_inj6 {a b : Nat} (ha : a < 6) (hb : b < 6) (h : nI a = nI b) : a = b := (nI_eq (by omega) (by omega)).mp h
/-- the chairs that are taken, as a set below 64 -/
theorem tk_fo (a : Nat → Int32) (np : Nat) (ha : ∀ p, p < np → a p = -1 ∨ ∃ c : Nat, c < 6 ∧ a p = nI c) : ∀ (n i s : Nat), i + n = np → s < 64 → ∃ s', s' < 64 ∧ fo (hTs a) n i (nI s) = nI s' ∧ ∀ c, c < 6 → iB (nI s') (nI c) = (iB (nI s) (nI c) || (fnd (fun p => decide (a p = nI c)) n i).isSome) := by
  intro n
  induction n with
  | zero => intro i s hi hs; exact ⟨s, hs, rfl, fun c hc => by simp [fnd]⟩
  | succ n ih =>
    intro i s hi hs
    show ∃ s', s' < 64 ∧ fo (hTs a) n (i + 1) (hTs a i (nI s)) = nI s' ∧ _
    rcases ha i (by omega) with h | ⟨j, hj, h⟩
    · rw [show hTs a i (nI s) = nI s from if_pos h]
      obtain ⟨s', h1, h2, h3⟩ := ih (i + 1) s (by omega) hs
      refine ⟨s', h1, h2, fun c hc => ?_⟩
      rw [h3 c hc]
      have e : ¬ a i = nI c := by rw [h]; exact fun z => m1_ne (by omega) z.symm
      simp [fnd, e]
    · obtain ⟨e1, e2, -⟩ := tk_set ⟨s, hs⟩ ⟨j, hj⟩ ⟨0, by decide⟩
      rw [show hTs a i (nI s) = nI s ||| (1 <<< (nI j &&& 31)) from by unfold hTs; rw [h, if_neg (m1_ne (by omega))], e1]
      obtain ⟨s', h1, h2, h3⟩ := ih (i + 1) (s ||| 2 ^ j) (by omega) e2
      refine ⟨s', h1, h2, fun c hc => ?_⟩
      obtain ⟨-, -, e3⟩ := tk_set ⟨s, hs⟩ ⟨j, hj⟩ ⟨c, hc⟩
      dsimp only at e3
      rw [h3 c hc, e3]
      by_cases hjc : j = c
      · subst hjc
        simp [fnd, h]
      · have e : ¬ a i = nI c := by rw [h]; exact fun z => hjc (nI_inj6 hj hc z)
        simp [fnd, e, hjc]
theorem hTk_set {S : mm_I} {nc np : Nat} (h6 : nc ≤ 6) (sr : ∀ p, p < np → S 8 p = -1 ∨ ∃ c, c < nc ∧ S 8 p = nI c) : ∃ s, s < 64 ∧ hTk S 0 np = nI s ∧ ∀ c, c < 6 → iB (nI s) (nI c) = (fnd (fun p => decide (S 8 p = nI c)) np 0).isSome := by
  obtain ⟨s, h1, h2, h3⟩ := tk_fo (S 8) np (fun p hp => (sr p hp).imp id (fun ⟨c, hc, e⟩ => ⟨c, by omega, e⟩)) np 0 0 (by omega) (by decide)
  refine ⟨s, h1, h2, fun c hc => ?_⟩
  rw [h3 c hc]
  have : iB (nI 0) (nI c) = false := by
    have z : ∀ c : Fin 6, iB (nI 0) (nI c.val) = false := by decide +kernel
    exact z ⟨c, hc⟩
  simp [this]
theorem hSt_tk {S : mm_I} {nc np c : Nat} (h6 : nc ≤ 6) (hn : np ≤ 6) (sr : ∀ p, p < np → S 8 p = -1 ∨ ∃ c, c < nc ∧ S 8 p = nI c) (hc : c < 6) : (hSt S 0 np (nI c) < 0 ∧ iB (hTk S 0 np) (nI c) = false) ∨ (¬ hSt S 0 np (nI c) < 0 ∧ iB (hTk S 0 np) (nI c) = true) := by
  obtain ⟨s, h1, h2, h3⟩ := hTk_set h6 sr
  rw [h2, h3 c hc]
  unfold hSt
  have key : ∀ (n i : Nat), i + n = np → ∀ p, fnd (fun p => decide (S (0 + 8) p = nI c)) n i = some p → p < np := by
    intro n
    induction n with
    | zero => intro i _ p hp; cases hp
    | succ n ih =>
      intro i hi p hp
      unfold fnd at hp
      split at hp
      · cases hp; omega
      · exact ih (i + 1) (by omega) p hp
  cases hf : fnd (fun p => decide (S 8 p = nI c)) np 0 with
  | none =>
    left
    exact ⟨by decide, rfl⟩
  | some p =>
    right
    have hp := key np 0 (by omega) p hf
    exact ⟨nI_pos (by omega), rfl⟩
/-- the house behind a sitting -/
def sit (S : mm_I) (nc np : Nat) : mm_I := fun k => if k = 0 then (fun j => if j = 15 then hLw S 0 nc np else if j = 16 then S 0 16 + 1 else S 0 j) else if k = 8 then hRn S 0 nc np else if k = 4 then hCu S 0 nc (hTt S 0 nc np) else S k
theorem sit_ne {S : mm_I} {nc np k : Nat} (h0 : k ≠ 0) (h8 : k ≠ 8) (h4 : k ≠ 4) : sit S nc np k = S k := by simp [sit, h0, h8, h4]
-- the laws, bit by bit
theorem lw_bits : ∀ (b : Fin 8) (z : Fin 256), (nI z.val ||| (1 <<< (nI b.val &&& 31))) = nI (z.val % 2 ^ b.val + 2 ^ b.val + 2 ^ (b.val + 1) * (z.val / 2 ^ (b.val + 1))) ∧ (nI z.val &&& ((1 <<< (nI b.val &&& 31)) ^^^ -1)) = nI (z.val % 2 ^ b.val + 2 ^ (b.val + 1) * (z.val / 2 ^ (b.val + 1))) ∧ (nI (z.val % 2 ^ b.val) ||| (1 <<< (nI b.val &&& 31))) = nI (z.val % 2 ^ b.val + 2 ^ b.val) ∧ z.val % 2 ^ b.val + 2 ^ b.val + 2 ^ (b.val + 1) * (z.val / 2 ^ (b.val + 1)) < 256 ∧ z.val % 2 ^ b.val + 2 ^ (b.val + 1) * (z.val / 2 ^ (b.val + 1)) < 256 ∧ (z.val % 2 ^ b.val + 2 ^ b.val + 2 ^ (b.val + 1) * (z.val / 2 ^ (b.val + 1))) % 2 ^ (b.val + 1) = z.val % 2 ^ b.val + 2 ^ b.val ∧ (z.val % 2 ^ b.val + 2 ^ (b.val + 1) * (z.val / 2 ^ (b.val + 1))) % 2 ^ (b.val + 1) = z.val % 2 ^ b.val := by decide +kernel
/-- where hRn may put them -/
theorem hRn_in {S : mm_I} {nc np : Nat} (hS : ∀ p, p < np → S 8 p = -1 ∨ ∃ c, c < nc ∧ S 8 p = nI c) : ∀ p, p < np → hRn S 0 nc np p = -1 ∨ ∃ c, c < nc ∧ hRn S 0 nc np p = nI c := by
  have key : ∀ (n i : Nat) (q : Int32 × Int32 × (Nat → Int32)), (∀ p, p < np → q.2.2 p = -1 ∨ ∃ c, c < nc ∧ q.2.2 p = nI c) → ∀ p, p < np → (fo (fun _ q => hRs S 0 nc np q) n i q).2.2 p = -1 ∨ ∃ c, c < nc ∧ (fo (fun _ q => hRs S 0 nc np q) n i q).2.2 p = nI c := by
    intro n
    induction n with
    | zero => intro i q hq; exact hq
    | succ n ih =>
      intro i q hq
      refine ih (i + 1) _ (fun p hp => ?_)
      unfold hRs
      dsimp only
      unfold upd
      split
      · exact hDt_in
      · exact hq p hp
  exact key np 0 _ hS
def Sl (S : mm_I) (x : Int32) : mm_I := mm_up S 0 15 x
theorem Sl_ne {S : mm_I} {x : Int32} {k : Nat} (h : k ≠ 0) : Sl S x k = S k := mm_up_ne _ _ _ _ _ h
theorem Sl_0 {S : mm_I} {x : Int32} {j : Nat} (h : j ≠ 15) : Sl S x 0 j = S 0 j := by simp [Sl, mm_up_at, h]
theorem hMv_congr {S S' : mm_I} {nc : Nat} {b t : Int32} (h0 : S' 0 1 = S 0 1) (h16 : S' 0 16 = S 0 16) (hk : ∀ k, k ≠ 0 → k ≠ 8 → S' k = S k) : hMv S' 0 nc (hWt S' 0) b t = hMv S 0 nc (hWt S 0) b t := by
  unfold hMv
  refine fo_congr nc 0 0 (fun c x _ hc => ?_)
  have e1 : hK S' 0 c = hK S 0 c := by unfold hK; rw [show S' (0 + 1) = S (0 + 1) from hk 1 (by decide) (by decide)]
  have e2 : hWt S' 0 c = hWt S 0 c := by
    unfold hWt hGv hL0
    rw [e1, show S' (0 + 11) = S (0 + 11) from hk 11 (by decide) (by decide), show S' (0 + 10) = S (0 + 10) from hk 10 (by decide) (by decide), show S' (0 + 3) = S (0 + 3) from hk 3 (by decide) (by decide), show S' (0 + 4) = S (0 + 4) from hk 4 (by decide) (by decide), show S' (0 + 2) = S (0 + 2) from hk 2 (by decide) (by decide), h16]
  rw [e1, e2, hOp_congr h0 (hk 2 (by decide) (by decide)) (hk 3 (by decide) (by decide)) (hk 4 (by decide) (by decide))]
