/-! THE LARGE MACHINE HOLDS WHAT THE SMALL ONE HOLDS: ad says where a cell lies, cy the classes of the three kinds of arrays. -/
def mm_tr (ad : Nat → Nat) : Value → Value
  | .ref q => .ref (ad q)
  | v => v
def mm_fv (ad : Nat → Nat) (I : mm_I) (k j : Nat) : Value → Value
  | .int _ => .int (I k j)
  | .long _ => if I k j = 0 then .null else .ref (ad (1009 + (I k j).toNatClampNeg))
  | .ref q => .ref (ad q)
  | _ => .null
def mm_rf (ad : Nat → Nat) : Value → Option Nat
  | .ref q => some (ad q)
  | _ => none
def mm_cel (cy : Nat → ClassId) (ad : Nat → Nat) (I : mm_I) (k : Nat) (c : mm_C) : va_E :=
  if c.1 < 13 then .inr (c.1, c.2.2.mapIdx (fun j v => mm_fv ad I k j v))
  else if c.1 = 100 then .inl (cy 0, c.2.1, .inl (I k))
  else .inl (cy (c.1 - 100), c.2.1, .inr (.inr (.inr (.inr (fun j => mm_rf ad (c.2.2.getD j .null))))))
def mm_w (cy : Nat → ClassId) (ad : Nat → Nat) (T : List mm_C) (I : mm_I) : va_W := T.mapIdx (fun k c => (ad k, mm_cel cy ad I k c))
abbrev mm_ty (cy : Nat → ClassId) : List (ClassId × FieldType) := [(cy 0, .int), (cy 1, .object "ChairViews$Chair"), (cy 2, .object "ChairViews$Row")]
theorem mm_tr_cat (ad : Nat → Nat) (v : Value) : (mm_tr ad v).category = v.category := by cases v <;> rfl
theorem mm_w_at {cy : Nat → ClassId} {ad : Nat → Nat} {T : List mm_C} {I : mm_I} {k : Nat} {c : mm_C} (h : T[k]? = some c) : (mm_w cy ad T I)[k]? = some (ad k, mm_cel cy ad I k c) := by
  simp [mm_w, List.getElem?_mapIdx, h]
theorem mm_cel_congr {cy : Nat → ClassId} {ad : Nat → Nat} {I J : mm_I} {k : Nat} {c : mm_C} (h : J k = I k) : mm_cel cy ad J k c = mm_cel cy ad I k c := by
  have e : (fun j v => mm_fv ad J k j v) = (fun j v => mm_fv ad I k j v) := by
    funext j v
    cases v <;> simp [mm_fv, h]
  unfold mm_cel
  rw [e, h]
theorem mm_w_set {cy : Nat → ClassId} {ad : Nat → Nat} {T : List mm_C} {I J : mm_I} {k : Nat} {c : mm_C} (hc : T[k]? = some c) (hJ : ∀ q, q ≠ k → J q = I q) : (mm_w cy ad T I).set k (ad k, mm_cel cy ad J k c) = mm_w cy ad T J := by
  apply List.ext_getElem?
  intro i
  have hk : k < T.length := (List.getElem?_eq_some_iff.mp hc).1
  by_cases h : k = i
  · subst h
    rw [List.getElem?_set_self (by simpa [mm_w] using hk), mm_w_at hc]
  · rw [List.getElem?_set_ne h]
    simp only [mm_w, List.getElem?_mapIdx]
    cases T[i]? with
    | none => rfl
    | some d => simp only [Option.map_some, mm_cel_congr (hJ i (Ne.symm h))]
theorem mm_cel_int {cy : Nat → ClassId} {ad : Nat → Nat} {I : mm_I} {k : Nat} {c : mm_C} (h : c.1 = 100) : mm_cel cy ad I k c = .inl (cy 0, c.2.1, .inl (I k)) := by
  unfold mm_cel
  rw [if_neg (by omega), if_pos h]
theorem mm_cel_obj {cy : Nat → ClassId} {ad : Nat → Nat} {I : mm_I} {k : Nat} {c : mm_C} (h : c.1 < 13) : mm_cel cy ad I k c = .inr (c.1, c.2.2.mapIdx (fun j v => mm_fv ad I k j v)) := by
  unfold mm_cel
  rw [if_pos h]
theorem mm_cel_ref {cy : Nat → ClassId} {ad : Nat → Nat} {I : mm_I} {k : Nat} {c : mm_C} (h : c.1 = 101 ∨ c.1 = 102) : mm_cel cy ad I k c = .inl (cy (c.1 - 100), c.2.1, .inr (.inr (.inr (.inr (fun j => mm_rf ad (c.2.2.getD j .null)))))) := by
  unfold mm_cel
  rw [if_neg (by omega), if_neg (by omega)]
theorem mm_up_same (I : mm_I) (k j : Nat) (x : Int32) : mm_up I k j x k = upd (I k) j x := by simp [mm_up]
theorem mm_up_ne (I : mm_I) (k j : Nat) (x : Int32) (q : Nat) (h : q ≠ k) : mm_up I k j x q = I q := by simp [mm_up, h]
theorem mm_cp_same (I : mm_I) (a sp b dp n : Nat) : mm_cp I a sp b dp n b = va_cpy (I a) (I b) sp dp n := by simp [mm_cp]
theorem mm_cp_ne (I : mm_I) (a sp b dp n : Nat) (q : Nat) (h : q ≠ b) : mm_cp I a sp b dp n q = I q := by simp [mm_cp, h]
/-- an int field (or one that holds a String constant) is written -/
theorem mm_fs_set {ad : Nat → Nat} {I : mm_I} {k j : Nat} {x : Int32} {rs : List Value} {v0 w : Value} (h : rs[j]? = some v0) (hw : mm_fv ad (mm_up I k j x) k j v0 = w) : (rs.mapIdx (fun i v => mm_fv ad I k i v)).set j w = rs.mapIdx (fun i v => mm_fv ad (mm_up I k j x) k i v) := by
  apply List.ext_getElem?
  intro i
  have hk : j < rs.length := (List.getElem?_eq_some_iff.mp h).1
  by_cases hi : j = i
  · subst hi
    rw [List.getElem?_set_self (by simpa using hk), List.getElem?_mapIdx, h]
    simp [hw]
  · rw [List.getElem?_set_ne hi]
    simp only [List.getElem?_mapIdx]
    cases rs[i]? with
    | none => rfl
    | some v =>
      have e : mm_up I k j x k i = I k i := by rw [mm_up_same]; simp [upd, Ne.symm hi]
      cases v <;> simp [mm_fv, e]
-- locals
def mm_LR (ad : Nat → Nat) (lsR : Array Slot) (n : Nat) (ls : List Value) : Prop := lsR.size = n ∧ lv_wf lsR ∧ ls.length = n ∧ ∀ (i : Nat) (v : Value), ls[i]? = some v → v ≠ Value.retAddr 0 → lsR[i]? = some (Slot.val (mm_tr ad v))
def mm_prs (ad : Nat → Nat) (ls : List Value) : List (Nat × Value) := (List.range ls.length).filterMap (fun i => match ls[i]? with
  | some v => if v = .retAddr 0 then none else some (i, mm_tr ad v)
  | none => none)
theorem mm_prs_mem {ad : Nat → Nat} {ls : List Value} {q : Nat × Value} : q ∈ mm_prs ad ls ↔ ∃ v, ls[q.1]? = some v ∧ v ≠ .retAddr 0 ∧ q.2 = mm_tr ad v := by
  obtain ⟨i, w⟩ := q
  unfold mm_prs
  rw [List.mem_filterMap]
  constructor
  · rintro ⟨a, ha, h⟩
    cases h1 : ls[a]? with
    | none => rw [h1] at h; cases h
    | some v =>
      rw [h1] at h
      dsimp only at h
      split at h
      · cases h
      · next hv =>
        simp only [Option.some.injEq, Prod.mk.injEq] at h
        obtain ⟨rfl, rfl⟩ := h
        exact ⟨v, h1, hv, rfl⟩
  · rintro ⟨v, h1, h2, h3⟩
    dsimp only at h1 h3
    refine ⟨i, List.mem_range.mpr (List.getElem?_eq_some_iff.mp h1).1, ?_⟩
    rw [h1]
    dsimp only
    rw [if_neg h2, h3]
theorem mm_LR.has {ad : Nat → Nat} {lsR : Array Slot} {n : Nat} {ls : List Value} (h : mm_LR ad lsR n ls) : lv_has lsR n (mm_prs ad ls) := by
  refine ⟨h.1, h.2.1, fun q hq => ?_⟩
  obtain ⟨v, h1, h2, h3⟩ := mm_prs_mem.mp hq
  rw [h3]
  exact h.2.2.2 q.1 v h1 h2
theorem mm_LR.at {ad : Nat → Nat} {lsR : Array Slot} {n i : Nat} {ls : List Value} {v : Value} (h : mm_LR ad lsR n ls) (hi : ls[i]? = some v) (hv : v ≠ .retAddr 0) : lsR[i]? = some (Slot.val (mm_tr ad v)) := h.2.2.2 i v hi hv
theorem mm_LR.lt {ad : Nat → Nat} {lsR : Array Slot} {n i : Nat} {ls : List Value} (h : mm_LR ad lsR n ls) (hs : mm_sto ls i = true) : i < n := by
  simp only [mm_sto, Bool.and_eq_true, decide_eq_true_eq] at hs
  rw [← h.2.2.1]
  exact hs.1
theorem mm_LR.store {ad : Nat → Nat} {lsR lsR' : Array Slot} {n i : Nat} {ls : List Value} {v : Value} (h : mm_LR ad lsR n ls) (hs : mm_sto ls i = true) (h' : lv_has lsR' n ((i, mm_tr ad v) :: (mm_prs ad ls).filter (fun q => !(q.1 == i) && !(q.1 + 1 == i && q.2.category == 2)))) : mm_LR ad lsR' n (ls.set i v) := by
  refine ⟨h'.1, h'.2.1, by rw [List.length_set]; exact h.2.2.1, fun j w hj hw => ?_⟩
  by_cases hji : i = j
  · subst hji
    have hlt : i < ls.length := by rw [h.2.2.1]; exact h.lt hs
    rw [List.getElem?_set_self hlt] at hj
    cases hj
    exact h'.2.2 (i, mm_tr ad v) List.mem_cons_self
  · rw [List.getElem?_set_ne hji] at hj
    refine h'.2.2 (j, mm_tr ad w) (List.mem_cons_of_mem _ (List.mem_filter.mpr ⟨mm_prs_mem.mpr ⟨w, hj, hw, rfl⟩, ?_⟩))
    have e1 : (j == i) = false := by simpa using Ne.symm hji
    simp only [e1, Bool.not_false, Bool.true_and, Bool.not_eq_true', Bool.and_eq_false_iff, beq_eq_false_iff_ne, ne_eq]
    by_cases h2 : j + 1 = i
    · right
      rw [mm_tr_cat]
      simp only [mm_sto, Bool.and_eq_true, Bool.or_eq_true, beq_iff_eq, decide_eq_true_eq] at hs
      rcases hs.2 with h3 | h3
      · omega
      · have e2 : i - 1 = j := by omega
        rw [e2] at h3
        have e3 : ls.getD j .null = w := by simp [List.getD, hj]
        rw [e3] at h3
        omega
    · left
      exact h2
-- what lies in the heap from the start, and is only read
def mm_Old (ad : Nat → Nat) (A : Nat → Prop) (U : State) (H : Heap) : Prop :=
  (∀ a l, mm_oldI a = some l → va_T .int (ad a) l.length (fun j => .int (l.getD j 0)) A U H) ∧
  (va_Z "ChairViews" "KIND_ABOVE" "[I" (.ref (ad 1003)) A U H ∧ va_Z "ChairViews$Text" "FIRST_WEIGHT" "[I" (.ref (ad 1001)) A U H ∧ va_Z "ChairViews$Text" "FIRST_ZEAL" "[I" (.ref (ad 1002)) A U H ∧ va_Z "java/lang/String" "COMPACT_STRINGS" "Z" (.int 1) A U H) ∧
  (vk_R "ChairViews$Reader" 23 "" (ad 1010) U ∧ vk_R "ChairViews" 167 "kcs" (ad 1011) U ∧ vk_R "ChairViews" 169 "hnv" (ad 1012) U) ∧
  vk_S 3 [0, 3, 3] [[], [107, 99, 115], [104, 110, 118]] (fun i => ad (1010 + i)) (fun i => ad (1020 + i)) A U H ∧
  (va_Nw (.methodLinkNest "ChairViews$House" 99 ⟨"ChairViews", "isIn", "(II)Z"⟩ "ChairViews") U ∧ va_Nw (.methodLinkNest "ChairViews$Glued" 13 ⟨"ChairViews", "isIn", "(II)Z"⟩ "ChairViews") U)
theorem mm_Old.kept {ad : Nat → Nat} {A : Nat → Prop} {U : State} {H H1 : Heap} (h : mm_Old ad A U H) (hq : ∀ a : Nat, a < H.size → ¬ A a → H1[a]? = H[a]?) : mm_Old ad A U H1 :=
  ⟨fun a l e => (h.1 a l e).kept hq, ⟨h.2.1.1.kept hq, h.2.1.2.1.kept hq, h.2.1.2.2.1.kept hq, h.2.1.2.2.2.kept hq⟩, h.2.2.1, h.2.2.2.1.kept hq, h.2.2.2.2⟩
theorem mm_Old.narrow {ad : Nat → Nat} {A B : Nat → Prop} {U : State} {H : Heap} (h : mm_Old ad A U H) (hAB : ∀ q, B q → A q) : mm_Old ad B U H :=
  ⟨fun a l e => (h.1 a l e).narrow hAB, ⟨h.2.1.1.narrow hAB, h.2.1.2.1.narrow hAB, h.2.1.2.2.1.narrow hAB, h.2.1.2.2.2.narrow hAB⟩, h.2.2.1, h.2.2.2.1.narrow hAB, h.2.2.2.2⟩
theorem mm_Old.warm {ad : Nat → Nat} {A : Nat → Prop} {u U : State} {H : Heap} (hW : u.WarmedH U.vm) (h : mm_Old ad A u H) : mm_Old ad A U H :=
  ⟨fun a l e => (h.1 a l e).moved hW.alike, ⟨h.2.1.1.moved hW.alike, h.2.1.2.1.moved hW.alike, h.2.1.2.2.1.moved hW.alike, h.2.1.2.2.2.moved hW.alike⟩, ⟨h.2.2.1.1.warm hW, h.2.2.1.2.1.warm hW, h.2.2.1.2.2.warm hW⟩, h.2.2.2.1.moved hW.alike, ⟨h.2.2.2.2.1.warmM hW, h.2.2.2.2.2.warmM hW⟩⟩
theorem mm_Old.same {ad : Nat → Nat} {A : Nat → Prop} {u U : State} {H : Heap} (hv : u.vm = U.vm) (h : mm_Old ad A u H) : mm_Old ad A U H := by
  have ha : u.vm.Alike U.vm := by rw [← hv]; exact Vm.Alike.refl _
  exact ⟨fun a l e => (h.1 a l e).moved ha, ⟨h.2.1.1.moved ha, h.2.1.2.1.moved ha, h.2.1.2.2.1.moved ha, h.2.1.2.2.2.moved ha⟩, ⟨h.2.2.1.1.same hv.symm, h.2.2.1.2.1.same hv.symm, h.2.2.1.2.2.same hv.symm⟩, h.2.2.2.1.moved ha, ⟨h.2.2.2.2.1.same rfl hv, h.2.2.2.2.2.same rfl hv⟩⟩
/-- what a row of the code tables stands for -/
theorem mm_ent_ok {mid pc : Nat} {e : mm_E} (h : mm_at mid pc = some e) : mm_chk mid pc e = true ∧ decode (mm_b mid) pc = .ok (e.1, e.2.1 - pc) := by
  unfold mm_at at h
  cases h1 : mm_all[mid]? with
  | none => rw [h1] at h; cases h
  | some l =>
    rw [h1] at h
    dsimp only at h
    have h2 := mm_ckL_at mm_all 0 mid l mm_ckall h1
    rw [Nat.zero_add] at h2
    have hmem : (pc, e) ∈ l := by
      clear h1 h2
      induction l with
      | nil => cases h
      | cons a l ih =>
        rw [List.lookup_cons] at h
        split at h
        · next hb =>
          cases h
          have : pc = a.1 := by simpa using hb
          rw [this]
          exact List.mem_cons_self
        · exact List.mem_cons_of_mem _ (ih h)
    have h3 := List.all_eq_true.mp h2 _ hmem
    simpa only [Bool.and_eq_true, decide_eq_true_eq] using h3
