/-! Booleans as ints, loops as functions -/
def bI (b : Bool) : Int32 := if b then 1 else 0
theorem bI01 (b : Bool) : bI b = 0 ∨ bI b = 1 := by cases b <;> simp [bI]
theorem bI_t : bI true = 1 := rfl
theorem bI_f : bI false = 0 := rfl
theorem bI_eq0 {b : Bool} : bI b = 0 ↔ b = false := by cases b <;> simp [bI]
theorem bI_ne0 {b : Bool} : (¬ bI b = 0) ↔ b = true := by cases b <;> simp [bI]
section EVZ
variable {T : List mm_C} {X : Nat × (Nat → Int32)} {d mid pc nx aux : Nat} {vv : Value} {ls st : List Value} {I : mm_I} {Q : Option Value → mm_I → Prop}
theorem ev_ifz_eq {n : Int} {b : Bool} (h : mm_at mid pc = some (.ifCond .eq n, nx, aux, vv)) (k1 : b = false → mm_Ev T X d mid aux ls st I Q) (k2 : b = true → mm_Ev T X d mid nx ls st I Q) : mm_Ev T X d mid pc ls (.int (bI b) :: st) I Q := ev_if_eq h (fun z => k1 (bI_eq0.mp z)) (fun z => k2 (bI_ne0.mp z))
theorem ev_ifz_ne {n : Int} {b : Bool} (h : mm_at mid pc = some (.ifCond .ne n, nx, aux, vv)) (k1 : b = true → mm_Ev T X d mid aux ls st I Q) (k2 : b = false → mm_Ev T X d mid nx ls st I Q) : mm_Ev T X d mid pc ls (.int (bI b) :: st) I Q := ev_if_ne h (fun z => k1 (bI_ne0.mp z)) (fun z => k2 (bI_eq0.mp z))
theorem ev_jcmp_ge {n : Int} {x y : Int32} (h : mm_at mid pc = some (.if_icmp .ge n, nx, aux, vv)) (k1 : ¬ x < y → mm_Ev T X d mid aux ls st I Q) (k2 : x < y → mm_Ev T X d mid nx ls st I Q) : mm_Ev T X d mid pc ls (.int y :: .int x :: st) I Q := ev_icmp_ge h (fun z => k1 (Int32.not_lt.mpr z)) (fun z => k2 (Int32.not_le.mp z))
theorem ev_jcmp_le {n : Int} {x y : Int32} (h : mm_at mid pc = some (.if_icmp .le n, nx, aux, vv)) (k1 : ¬ y < x → mm_Ev T X d mid aux ls st I Q) (k2 : y < x → mm_Ev T X d mid nx ls st I Q) : mm_Ev T X d mid pc ls (.int y :: .int x :: st) I Q := ev_icmp_le h (fun z => k1 (Int32.not_lt.mpr z)) (fun z => k2 (Int32.not_le.mp z))
theorem ev_jf_ge {n : Int} {x : Int32} (h : mm_at mid pc = some (.ifCond .ge n, nx, aux, vv)) (k1 : ¬ x < 0 → mm_Ev T X d mid aux ls st I Q) (k2 : x < 0 → mm_Ev T X d mid nx ls st I Q) : mm_Ev T X d mid pc ls (.int x :: st) I Q := ev_if_ge h (fun z => k1 (Int32.not_lt.mpr z)) (fun z => k2 (Int32.not_le.mp z))
theorem ev_jf_le {n : Int} {x : Int32} (h : mm_at mid pc = some (.ifCond .le n, nx, aux, vv)) (k1 : ¬ 0 < x → mm_Ev T X d mid aux ls st I Q) (k2 : 0 < x → mm_Ev T X d mid nx ls st I Q) : mm_Ev T X d mid pc ls (.int x :: st) I Q := ev_if_le h (fun z => k1 (Int32.not_lt.mpr z)) (fun z => k2 (Int32.not_le.mp z))
end EVZ
/-- the first of n places from i on at which f holds -/
def fnd (f : Nat → Bool) : Nat → Nat → Option Nat
  | 0, _ => none
  | n + 1, i => if f i then some i else fnd f n (i + 1)
/-- f over n places from i on -/
def fo {α : Type} (f : Nat → α → α) : Nat → Nat → α → α
  | 0, _, a => a
  | n + 1, i, a => fo f n (i + 1) (f i a)
def wB (lo hi v : Int32) : Bool := decide (lo ≤ v) && decide (v ≤ hi)
def iB (s i : Int32) : Bool := decide ((s >>> (i &&& 31)) &&& 1 = 1)
theorem mm_up_at (I : mm_I) (k j : Nat) (x : Int32) (k' j' : Nat) : mm_up I k j x k' j' = if k' = k ∧ j' = j then x else I k' j' := by
  unfold mm_up upd
  by_cases h : k' = k
  · subst h; simp
  · simp [h]
/-- an index that is tested against a count -/
theorem wB_in {v : Int32} {n : Nat} (hn : n ≤ 1000) (h : wB 0 (nI n - 1) v = true) : ∃ j : Nat, j < n ∧ v = nI j := by
  simp only [wB, Bool.and_eq_true, decide_eq_true_eq] at h
  have h1 : ¬ v < 0 := Int32.not_lt.mpr h.1
  obtain ⟨j, hj, rfl⟩ := nI_of h1
  refine ⟨j, ?_, rfl⟩
  have h2 := Int32.le_iff_toInt_le.mp h.2
  rw [show (1 : Int32) = nI 1 from rfl, pk_sub_toInt (by omega) (by omega), nI_toInt hj] at h2
  omega
theorem wB_nI {j n : Nat} (hn : n ≤ 1000) (h : j < n) : wB 0 (nI n - 1) (nI j) = true := by
  simp only [wB, Bool.and_eq_true, decide_eq_true_eq]
  refine ⟨nI_pos' (by omega), Int32.le_iff_toInt_le.mpr ?_⟩
  rw [show (1 : Int32) = nI 1 from rfl, pk_sub_toInt (by omega) (by omega), nI_toInt (by omega)]
  omega
theorem wB_lo {lo hi v : Int32} (h : v < lo) : wB lo hi v = false := by
  simp only [wB, decide_eq_false (Int32.not_le.mpr h), Bool.false_and]
theorem wB_hi {lo hi v : Int32} (h : hi < v) : wB lo hi v = false := by
  simp only [wB, decide_eq_false (Int32.not_le.mpr h), Bool.and_false]
theorem wB_ok {lo hi v : Int32} (h1 : ¬ v < lo) (h2 : ¬ hi < v) : wB lo hi v = true := by
  simp only [wB, decide_eq_true (Int32.not_lt.mp h1), decide_eq_true (Int32.not_lt.mp h2), Bool.and_true]
