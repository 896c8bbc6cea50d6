/-! ONE STEP of the small machine is steps of the large one. -/
section STA
variable {p : Program} {l : Launch} {e : Env} {R : Room} {s : State} {m : MethodId} {args : Array Value} {below : List Frame} {meth : Method} {c : Code} {H : Heap} {locs : List Loc} {cells slots : Nat} {Q : State → Prop} {A : Nat → Prop} {ad : Nat → Nat} {pc : Nat} {ls : Array Slot} {rest : List Value} {cc : ByteArray} {o n : Nat}
theorem mm_ldcs {q : Nat} (hexec : p.tables.exec = Jvm.exec) (hb : c.code = cc) (hown : s.vm.findClass (mm_cn o) = some m.cls) (hO : mm_Old ad A s s.heap) (hv : mm_KS.contains (o, n, q) = true) (hd : decode cc pc = .ok (.ldc n, 2)) (k : W p l e R s m args below meth c H locs cells slots Q (F0 m (pc + 2) ls (mm_tr ad (.ref q) :: rest))) : W p l e R s m args below meth c H locs cells slots Q (F0 m pc ls rest) := by
  have hm := List.contains_iff_mem.mp hv
  simp only [mm_KS, List.mem_cons, Prod.mk.injEq, List.not_mem_nil, or_false] at hm
  rcases hm with ⟨rfl, rfl, rfl⟩ | ⟨rfl, rfl, rfl⟩ | ⟨rfl, rfl, rfl⟩
  · exact va_ldcS hexec hb hown hO.2.2.1.1 hd k
  · exact va_ldcS hexec hb hown hO.2.2.1.2.1 hd k
  · exact va_ldcS hexec hb hown hO.2.2.1.2.2 hd k
theorem mm_gst {vv : Value} (hexec : p.tables.exec = Jvm.exec) (hb : c.code = cc) (hown : s.vm.findClass (mm_cn o) = some m.cls) (hts : ∀ w ∈ lw_g, w.before args s = true) (hO : mm_Old ad A s s.heap) (hS : va_S A s.heap H locs) (hv : (mm_SS.any (fun q => q.1 == o && q.2.1 == n && decide (q.2.2.2 = vv))) = true) (hd : decode cc pc = .ok (.getstatic n, 3)) (k : W p l e R s m args below meth c H locs cells slots Q (F0 m (pc + 3) ls (mm_tr ad vv :: rest))) : W p l e R s m args below meth c H locs cells slots Q (F0 m pc ls rest) := by
  rw [List.any_eq_true] at hv
  obtain ⟨q, hq, h⟩ := hv
  simp only [Bool.and_eq_true, beq_iff_eq, decide_eq_true_eq] at h
  obtain ⟨⟨rfl, rfl⟩, rfl⟩ := h
  have hl := hts _ (mm_ssall q hq)
  simp only [mm_SS, List.mem_cons, List.not_mem_nil, or_false] at hq
  rcases hq with rfl | rfl | rfl | rfl
  · exact va_gets hexec hb hO.2.1.2.1 hS hown hl (fun _ h => h) hd k
  · exact va_gets hexec hb hO.2.1.2.2.1 hS hown hl (fun _ h => h) hd k
  · exact va_gets hexec hb hO.2.1.1 hS hown hl (fun _ h => h) hd k
  · exact va_gets hexec hb hO.2.1.2.2.2 hS hown hl (fun _ h => h) hd k
theorem mm_oldBT {a : Nat} {lst : List Int32} (hO : mm_Old ad A s s.heap) (h : mm_oldB a = some lst) : va_T .byte (ad a) lst.length (fun j => .int (lst.getD j 0)) A s s.heap := by
  unfold mm_oldB at h
  split at h
  · cases h; exact (hO.2.2.2.1.1 0 (by decide)).2.2.2
  · cases h; exact (hO.2.2.2.1.1 1 (by decide)).2.2.2
  · cases h; exact (hO.2.2.2.1.1 2 (by decide)).2.2.2
  · cases h
theorem mm_gsv {a : Nat} (hexec : p.tables.exec = Jvm.exec) (hb : c.code = cc) (hown : s.vm.findClass (mm_cn o) = some m.cls) (hts : ∀ w ∈ lw_g, w.before args s = true) (hO : mm_Old ad A s s.heap) (hS : va_S A s.heap H locs) (hv : (o, n, 5000) ∈ mm_SF) (hq : 1010 ≤ a ∧ a < 1013) (hd : decode cc pc = .ok (.getfield n, 3)) (k : W p l e R s m args below meth c H locs cells slots Q (F0 m (pc + 3) ls (.ref (ad (a + 10)) :: rest))) : W p l e R s m args below meth c H locs cells slots Q (F0 m pc ls (.ref (ad a) :: rest)) := by
  simp only [mm_SF, List.mem_cons, Prod.mk.injEq, List.not_mem_nil, or_false] at hv
  obtain ⟨rfl, rfl⟩ : o = 14 ∧ n = 9 := by omega
  obtain ⟨i, rfl⟩ : ∃ i, a = 1010 + i := ⟨a - 1010, by omega⟩
  have e1 : 1010 + i + 10 = 1020 + i := by omega
  rw [e1] at k
  exact vk_getf hexec hb (hO.2.2.2.1.1 i (by omega)).2.2.1 hS hown (hts _ mm_sf5000) (fun _ h => h) hd k
theorem mm_gsc {a : Nat} (hexec : p.tables.exec = Jvm.exec) (hb : c.code = cc) (hown : s.vm.findClass (mm_cn o) = some m.cls) (hts : ∀ w ∈ lw_g, w.before args s = true) (hO : mm_Old ad A s s.heap) (hS : va_S A s.heap H locs) (hv : (o, n, 5001) ∈ mm_SF) (hq : 1010 ≤ a ∧ a < 1013) (hd : decode cc pc = .ok (.getfield n, 3)) (k : W p l e R s m args below meth c H locs cells slots Q (F0 m (pc + 3) ls (.int 0 :: rest))) : W p l e R s m args below meth c H locs cells slots Q (F0 m pc ls (.ref (ad a) :: rest)) := by
  simp only [mm_SF, List.mem_cons, Prod.mk.injEq, List.not_mem_nil, or_false] at hv
  obtain ⟨rfl, rfl⟩ : o = 14 ∧ n = 15 := by omega
  · obtain ⟨i, rfl⟩ : ∃ i, a = 1010 + i := ⟨a - 1010, by omega⟩
    exact vk_getf hexec hb (hO.2.2.2.1.1 i (by omega)).2.1 hS hown (hts _ mm_sf5001) (fun _ h => h) hd k
theorem mm_lsw0 {pcI d : Int} {x : Int} : ∀ {ps : List (Int × Int)}, (∀ q ∈ ps, decide (0 ≤ pcI + q.2) = true) → 0 ≤ pcI + d → 0 ≤ pcI + Op.lookupswitch.offset ps d x := by
  intro ps h hd
  induction ps with
  | nil => exact hd
  | cons q r ih =>
    obtain ⟨a, off⟩ := q
    rw [Op.lookupswitch.offset_cons]
    split
    · exact of_decide_eq_true (h (a, off) List.mem_cons_self)
    · exact ih (fun q hq => h q (List.mem_cons_of_mem _ hq))
theorem mm_ffok {aux ci : Nat} (h : mm_ff o n aux = true) (hc : ci < 13) (hd : mm_dc ci (aux % 100) = aux / 100) : mm_fok (o, n, aux, ci) := by
  unfold mm_ff at h
  have h1 := List.all_eq_true.mp h ci (List.mem_range.mpr hc)
  simp only [Bool.or_eq_true, bne_iff_ne, ne_eq] at h1
  rcases h1 with h1 | h1
  · exact absurd hd h1
  · exact mm_fall _ (List.contains_iff_mem.mp h1)
theorem mm_sfa {aux : Nat} (h : (o, n, aux) ∈ mm_SF) : aux = 5000 ∨ aux = 5001 := by
  simp only [mm_SF, List.mem_cons, Prod.mk.injEq, List.not_mem_nil, or_false] at h
  omega
theorem mm_sfv {I : mm_I} {a j q : Nat} {z : Int64} (h1 : 1010 ≤ q) (h2 : q < 1013) : mm_fv ad (mm_up I a j (Int32.ofNat (q - 1009))) a j (.long z) = .ref (ad q) := by
  rcases (show q = 1010 ∨ q = 1011 ∨ q = 1012 by omega) with rfl | rfl | rfl <;> simp [mm_fv, mm_up_same, upd] <;> rfl
end STA
theorem mm_co0 : (∀ w ∈ u_ws RX0 TX0 1, w ∈ lw_g) := by decide +kernel
theorem mm_co1 : (∀ w ∈ u_ws RX1 TX1 1, w ∈ lw_g) := by decide +kernel
theorem mm_co2 : (∀ w ∈ u_ws RX2 TX2 1, w ∈ lw_g) := by decide +kernel
theorem mm_co3 : (∀ w ∈ u_ws RX3 TX3 1, w ∈ lw_g) := by decide +kernel
theorem mm_co4 : (∀ w ∈ u_ws RX4 TX4 18, w ∈ lw_g) := by decide +kernel
theorem mm_co5 : (∀ w ∈ u_ws RX5 TX5 5, w ∈ lw_g) := by decide +kernel
theorem mm_co6 : (∀ w ∈ u_ws RX6 TX6 1, w ∈ lw_g) := by decide +kernel
theorem mm_co7 : (∀ w ∈ u_ws RX7 TX7 3, w ∈ lw_g) := by decide +kernel
theorem mm_co8 : (∀ w ∈ u_ws RX8 TX8 1, w ∈ lw_g) := by decide +kernel
theorem mm_co9 : (∀ w ∈ u_ws RX9 TX9 4, w ∈ lw_g) := by decide +kernel
theorem mm_co10 : (∀ w ∈ u_ws RX10 TX10 1, w ∈ lw_g) := by decide +kernel
theorem mm_co11 : (∀ w ∈ u_ws RX11 TX11 10, w ∈ lw_g) := by decide +kernel
theorem mm_co12 : (∀ w ∈ u_ws RX12 TX12 19, w ∈ lw_g) := by decide +kernel
def mm_clo (r : vw_C) : Prop := (∀ w ∈ u_ws r.1 r.2.1 r.2.2, w ∈ lw_g) ∧ (∃ ty : Nat → FieldType, ∀ k, k < r.2.2 → parseFieldDescriptor (r.2.1 k).2.2.1 = some (ty k)) ∧ (∀ a, a < r.2.2 → ∀ b, b < r.2.2 → a ≠ b → (r.2.1 a).2.1 ≠ (r.2.1 b).2.1)
theorem mm_cloall : ∀ r ∈ vwCl, mm_clo r := List.forall_mem_cons.mpr ⟨⟨mm_co0, ⟨tyX0, tyX0_ok⟩, nmX0⟩, List.forall_mem_cons.mpr ⟨⟨mm_co1, ⟨tyX1, tyX1_ok⟩, nmX1⟩, List.forall_mem_cons.mpr ⟨⟨mm_co2, ⟨tyX2, tyX2_ok⟩, nmX2⟩, List.forall_mem_cons.mpr ⟨⟨mm_co3, ⟨tyX3, tyX3_ok⟩, nmX3⟩, List.forall_mem_cons.mpr ⟨⟨mm_co4, ⟨tyX4, tyX4_ok⟩, nmX4⟩, List.forall_mem_cons.mpr ⟨⟨mm_co5, ⟨tyX5, tyX5_ok⟩, nmX5⟩, List.forall_mem_cons.mpr ⟨⟨mm_co6, ⟨tyX6, tyX6_ok⟩, nmX6⟩, List.forall_mem_cons.mpr ⟨⟨mm_co7, ⟨tyX7, tyX7_ok⟩, nmX7⟩, List.forall_mem_cons.mpr ⟨⟨mm_co8, ⟨tyX8, tyX8_ok⟩, nmX8⟩, List.forall_mem_cons.mpr ⟨⟨mm_co9, ⟨tyX9, tyX9_ok⟩, nmX9⟩, List.forall_mem_cons.mpr ⟨⟨mm_co10, ⟨tyX10, tyX10_ok⟩, nmX10⟩, List.forall_mem_cons.mpr ⟨⟨mm_co11, ⟨tyX11, tyX11_ok⟩, nmX11⟩, List.forall_mem_cons.mpr ⟨⟨mm_co12, ⟨tyX12, tyX12_ok⟩, nmX12⟩, fun _ h => absurd h List.not_mem_nil⟩⟩⟩⟩⟩⟩⟩⟩⟩⟩⟩⟩⟩
def mm_fko (ci : Nat) (r : vw_C) : Prop := ∀ j, j < r.2.2 → (mm_fk ci j = 0 → parseFieldDescriptor (r.2.1 j).2.2.1 = some .int) ∧ (mm_fk ci j = 1 → parseFieldDescriptor (r.2.1 j).2.2.1 = some .boolean) ∧ (mm_fk ci j = 2 → parseFieldDescriptor (r.2.1 j).2.2.1 = some (.object "java/lang/String")) ∧ (mm_nf ci j = true → (r.2.1 j).2.2.2 = false)
theorem mm_fo0 : mm_fko 0 (RX0, TX0, 1) := by unfold mm_fko; decide +kernel
theorem mm_fo1 : mm_fko 1 (RX1, TX1, 1) := by unfold mm_fko; decide +kernel
theorem mm_fo2 : mm_fko 2 (RX2, TX2, 1) := by unfold mm_fko; decide +kernel
theorem mm_fo3 : mm_fko 3 (RX3, TX3, 1) := by unfold mm_fko; decide +kernel
theorem mm_fo4 : mm_fko 4 (RX4, TX4, 18) := by unfold mm_fko; decide +kernel
theorem mm_fo5 : mm_fko 5 (RX5, TX5, 5) := by unfold mm_fko; decide +kernel
theorem mm_fo6 : mm_fko 6 (RX6, TX6, 1) := by unfold mm_fko; decide +kernel
theorem mm_fo7 : mm_fko 7 (RX7, TX7, 3) := by unfold mm_fko; decide +kernel
theorem mm_fo8 : mm_fko 8 (RX8, TX8, 1) := by unfold mm_fko; decide +kernel
theorem mm_fo9 : mm_fko 9 (RX9, TX9, 4) := by unfold mm_fko; decide +kernel
theorem mm_fo10 : mm_fko 10 (RX10, TX10, 1) := by unfold mm_fko; decide +kernel
theorem mm_fo11 : mm_fko 11 (RX11, TX11, 10) := by unfold mm_fko; decide +kernel
theorem mm_fo12 : mm_fko 12 (RX12, TX12, 19) := by unfold mm_fko; decide +kernel
theorem mm_fkoall : ∀ (ci : Nat) (r : vw_C), vwCl[ci]? = some r → mm_fko ci r
  | 0, _, h => by cases h; exact mm_fo0
  | 1, _, h => by cases h; exact mm_fo1
  | 2, _, h => by cases h; exact mm_fo2
  | 3, _, h => by cases h; exact mm_fo3
  | 4, _, h => by cases h; exact mm_fo4
  | 5, _, h => by cases h; exact mm_fo5
  | 6, _, h => by cases h; exact mm_fo6
  | 7, _, h => by cases h; exact mm_fo7
  | 8, _, h => by cases h; exact mm_fo8
  | 9, _, h => by cases h; exact mm_fo9
  | 10, _, h => by cases h; exact mm_fo10
  | 11, _, h => by cases h; exact mm_fo11
  | 12, _, h => by cases h; exact mm_fo12
  | k + 13, _, h => by simp [vwCl] at h
def mm_Cx (p : Program) (R : Room) (s : State) (m : MethodId) (args : Array Value) (c : Code) (A : Nat → Prop) (D : va_G) (cy : Nat → ClassId) (ad : Nat → Nat) (X : Nat × (Nat → Int32)) (mid d : Nat) : Prop :=
  p.tables.exec = Jvm.exec ∧ c.code = mm_b mid ∧ c.maxLocals = mm_ml mid ∧ s.vm.findClass (mm_cn (mm_own mid)) = some m.cls ∧ (∀ w ∈ lw_g, w.before args s = true) ∧ va_K D vwCl (mm_ty cy) s ∧ (∀ q, s.heap.size ≤ q → A q) ∧ mm_Old ad A s s.heap ∧ (d + 1 ≤ R.frames ∧ 40 * (d + 1) ≤ R.locals) ∧ (mid = 0 → va_X (ad 1000) X.1 X.2 s s.heap ∧ ad 1000 < s.heap.size ∧ ¬ A (ad 1000))
section STW
variable {p : Program} {l : Launch} {e : Env} {R : Room} {s : State} {m : MethodId} {args : Array Value} {below : List Frame} {meth : Method} {c : Code} {H : Heap} {locs : List Loc} {cells slots : Nat} {Q : State → Prop} {A : Nat → Prop} {D : va_G} {cy : Nat → ClassId} {ad : Nat → Nat} {T : List mm_C} {X : Nat × (Nat → Int32)}
theorem mm_catsum (ad : Nat → Nat) (r : List Value) : ((r.map (mm_tr ad)).map fun v => v.category).sum = (r.map Value.category).sum := by
  induction r with
  | nil => rfl
  | cons v r ih => simp only [List.map_cons, List.sum_cons, mm_tr_cat, ih]
set_option maxHeartbeats 4000000 in
theorem mm_stpW {mid d pc : Nat} {en : mm_E} {ls st : List Value} {I : mm_I} {pc' : Nat} {ls' st' : List Value} {I' : mm_I} {lsR : Array Slot} (C : mm_Cx p R s m args c A D cy ad X mid d) (hcl : cells ≤ R.cells) (hsl : slots ≤ R.slots) (he : mm_at mid pc = some en) (hs : mm_stp T X mid en pc ls st I = some (pc', ls', st', I')) (hL : mm_LR ad lsR (mm_ml mid) ls) (hP : va_P D vwCl (mm_w cy ad T I) H) (hD : va_D A (mm_w cy ad T I)) (hS : va_S A s.heap H locs)
    (k : ∀ (lsR' : Array Slot) (H' : Heap) (locs' : List Loc), mm_LR ad lsR' (mm_ml mid) ls' → va_P D vwCl (mm_w cy ad T I') H' → va_D A (mm_w cy ad T I') → va_S A s.heap H' locs' → W p l e R s m args below meth c H' locs' cells slots Q (F0 m pc' lsR' (st'.map (mm_tr ad)))) : W p l e R s m args below meth c H locs cells slots Q (F0 m pc lsR (st.map (mm_tr ad))) := by
  obtain ⟨hx, hb, hml, hown, hts, hK, hA, hO, ⟨hfr, hlo⟩, hX⟩ := C
  obtain ⟨op, nx, aux, vv⟩ := en
  obtain ⟨ck, hd⟩ := mm_ent_ok he
  dsimp only at hd
  have hty0 : (mm_ty cy)[0]? = some (cy 0, .int) := rfl
  cases op
  case iadd =>
    simp only [mm_stp] at hs
    split at hs
    · simp only [Option.some.injEq, Prod.mk.injEq] at hs
      obtain ⟨rfl, rfl, rfl, rfl⟩ := hs
      have hn : nx = pc + 1 := by simpa [mm_chk] using ck
      subst hn
      rw [Nat.add_sub_cancel_left] at hd
      exact lv_iadd hx hb hd (k lsR H locs hL hP hD hS)
    · cases hs
  case isub =>
    simp only [mm_stp] at hs
    split at hs
    · simp only [Option.some.injEq, Prod.mk.injEq] at hs
      obtain ⟨rfl, rfl, rfl, rfl⟩ := hs
      have hn : nx = pc + 1 := by simpa [mm_chk] using ck
      subst hn
      rw [Nat.add_sub_cancel_left] at hd
      exact lv_isub hx hb hd (k lsR H locs hL hP hD hS)
    · cases hs
  case imul =>
    simp only [mm_stp] at hs
    split at hs
    · simp only [Option.some.injEq, Prod.mk.injEq] at hs
      obtain ⟨rfl, rfl, rfl, rfl⟩ := hs
      have hn : nx = pc + 1 := by simpa [mm_chk] using ck
      subst hn
      rw [Nat.add_sub_cancel_left] at hd
      exact lv_imul hx hb hd (k lsR H locs hL hP hD hS)
    · cases hs
  case iand =>
    simp only [mm_stp] at hs
    split at hs
    · simp only [Option.some.injEq, Prod.mk.injEq] at hs
      obtain ⟨rfl, rfl, rfl, rfl⟩ := hs
      have hn : nx = pc + 1 := by simpa [mm_chk] using ck
      subst hn
      rw [Nat.add_sub_cancel_left] at hd
      exact lv_iand hx hb hd (k lsR H locs hL hP hD hS)
    · cases hs
  case ior =>
    simp only [mm_stp] at hs
    split at hs
    · simp only [Option.some.injEq, Prod.mk.injEq] at hs
      obtain ⟨rfl, rfl, rfl, rfl⟩ := hs
      have hn : nx = pc + 1 := by simpa [mm_chk] using ck
      subst hn
      rw [Nat.add_sub_cancel_left] at hd
      exact lv_ior hx hb hd (k lsR H locs hL hP hD hS)
    · cases hs
  case ixor =>
    simp only [mm_stp] at hs
    split at hs
    · simp only [Option.some.injEq, Prod.mk.injEq] at hs
      obtain ⟨rfl, rfl, rfl, rfl⟩ := hs
      have hn : nx = pc + 1 := by simpa [mm_chk] using ck
      subst hn
      rw [Nat.add_sub_cancel_left] at hd
      exact lv_ixor hx hb hd (k lsR H locs hL hP hD hS)
    · cases hs
  case ishl =>
    simp only [mm_stp] at hs
    split at hs
    · simp only [Option.some.injEq, Prod.mk.injEq] at hs
      obtain ⟨rfl, rfl, rfl, rfl⟩ := hs
      have hn : nx = pc + 1 := by simpa [mm_chk] using ck
      subst hn
      rw [Nat.add_sub_cancel_left] at hd
      exact lv_ishl hx hb hd (k lsR H locs hL hP hD hS)
    · cases hs
  case ishr =>
    simp only [mm_stp] at hs
    split at hs
    · simp only [Option.some.injEq, Prod.mk.injEq] at hs
      obtain ⟨rfl, rfl, rfl, rfl⟩ := hs
      have hn : nx = pc + 1 := by simpa [mm_chk] using ck
      subst hn
      rw [Nat.add_sub_cancel_left] at hd
      exact lv_ishr hx hb hd (k lsR H locs hL hP hD hS)
    · cases hs
  case land =>
    simp only [mm_stp] at hs
    split at hs
    · simp only [Option.some.injEq, Prod.mk.injEq] at hs
      obtain ⟨rfl, rfl, rfl, rfl⟩ := hs
      have hn : nx = pc + 1 := by simpa [mm_chk] using ck
      subst hn
      rw [Nat.add_sub_cancel_left] at hd
      exact lv_land hx hb hd (k lsR H locs hL hP hD hS)
    · cases hs
  case lor =>
    simp only [mm_stp] at hs
    split at hs
    · simp only [Option.some.injEq, Prod.mk.injEq] at hs
      obtain ⟨rfl, rfl, rfl, rfl⟩ := hs
      have hn : nx = pc + 1 := by simpa [mm_chk] using ck
      subst hn
      rw [Nat.add_sub_cancel_left] at hd
      exact lv_lor hx hb hd (k lsR H locs hL hP hD hS)
    · cases hs
  case ineg =>
    simp only [mm_stp] at hs
    split at hs
    · simp only [Option.some.injEq, Prod.mk.injEq] at hs
      obtain ⟨rfl, rfl, rfl, rfl⟩ := hs
      have hn : nx = pc + 1 := by simpa [mm_chk] using ck
      subst hn
      rw [Nat.add_sub_cancel_left] at hd
      exact lv_ineg hx hb hd (k lsR H locs hL hP hD hS)
    · cases hs
  case iushr =>
    simp only [mm_stp] at hs
    split at hs
    · simp only [Option.some.injEq, Prod.mk.injEq] at hs
      obtain ⟨rfl, rfl, rfl, rfl⟩ := hs
      have hn : nx = pc + 1 := by simpa [mm_chk] using ck
      subst hn
      rw [Nat.add_sub_cancel_left] at hd
      exact lv_iushr hx hb hd rfl (k lsR H locs hL hP hD hS)
    · cases hs
  case i2b =>
    simp only [mm_stp] at hs
    split at hs
    · simp only [Option.some.injEq, Prod.mk.injEq] at hs
      obtain ⟨rfl, rfl, rfl, rfl⟩ := hs
      have hn : nx = pc + 1 := by simpa [mm_chk] using ck
      subst hn
      rw [Nat.add_sub_cancel_left] at hd
      exact lv_i2b hx hb hd rfl (k lsR H locs hL hP hD hS)
    · cases hs
  case i2s =>
    simp only [mm_stp] at hs
    split at hs
    · simp only [Option.some.injEq, Prod.mk.injEq] at hs
      obtain ⟨rfl, rfl, rfl, rfl⟩ := hs
      have hn : nx = pc + 1 := by simpa [mm_chk] using ck
      subst hn
      rw [Nat.add_sub_cancel_left] at hd
      exact lv_i2s hx hb hd rfl (k lsR H locs hL hP hD hS)
    · cases hs
  case i2c =>
    simp only [mm_stp] at hs
    split at hs
    · simp only [Option.some.injEq, Prod.mk.injEq] at hs
      obtain ⟨rfl, rfl, rfl, rfl⟩ := hs
      have hn : nx = pc + 1 := by simpa [mm_chk] using ck
      subst hn
      rw [Nat.add_sub_cancel_left] at hd
      exact lv_i2c hx hb hd rfl (k lsR H locs hL hP hD hS)
    · cases hs
  case i2l =>
    simp only [mm_stp] at hs
    split at hs
    · simp only [Option.some.injEq, Prod.mk.injEq] at hs
      obtain ⟨rfl, rfl, rfl, rfl⟩ := hs
      have hn : nx = pc + 1 := by simpa [mm_chk] using ck
      subst hn
      rw [Nat.add_sub_cancel_left] at hd
      exact lv_i2l hx hb hd rfl (k lsR H locs hL hP hD hS)
    · cases hs
  case l2i =>
    simp only [mm_stp] at hs
    split at hs
    · simp only [Option.some.injEq, Prod.mk.injEq] at hs
      obtain ⟨rfl, rfl, rfl, rfl⟩ := hs
      have hn : nx = pc + 1 := by simpa [mm_chk] using ck
      subst hn
      rw [Nat.add_sub_cancel_left] at hd
      exact lv_l2i hx hb hd rfl (k lsR H locs hL hP hD hS)
    · cases hs
  case lshl =>
    simp only [mm_stp] at hs
    split at hs
    · simp only [Option.some.injEq, Prod.mk.injEq] at hs
      obtain ⟨rfl, rfl, rfl, rfl⟩ := hs
      have hn : nx = pc + 1 := by simpa [mm_chk] using ck
      subst hn
      rw [Nat.add_sub_cancel_left] at hd
      exact lv_lshl hx hb hd rfl (k lsR H locs hL hP hD hS)
    · cases hs
  case lshr =>
    simp only [mm_stp] at hs
    split at hs
    · simp only [Option.some.injEq, Prod.mk.injEq] at hs
      obtain ⟨rfl, rfl, rfl, rfl⟩ := hs
      have hn : nx = pc + 1 := by simpa [mm_chk] using ck
      subst hn
      rw [Nat.add_sub_cancel_left] at hd
      exact lv_lshr hx hb hd rfl (k lsR H locs hL hP hD hS)
    · cases hs
  case lushr =>
    simp only [mm_stp] at hs
    split at hs
    · simp only [Option.some.injEq, Prod.mk.injEq] at hs
      obtain ⟨rfl, rfl, rfl, rfl⟩ := hs
      have hn : nx = pc + 1 := by simpa [mm_chk] using ck
      subst hn
      rw [Nat.add_sub_cancel_left] at hd
      exact lv_lushr hx hb hd rfl (k lsR H locs hL hP hD hS)
    · cases hs
  case idiv =>
    simp only [mm_stp] at hs
    split at hs
    · split at hs
      · cases hs
      · next h0 =>
        simp only [Option.some.injEq, Prod.mk.injEq] at hs
        obtain ⟨rfl, rfl, rfl, rfl⟩ := hs
        have hn : nx = pc + 1 := by simpa [mm_chk] using ck
        subst hn
        rw [Nat.add_sub_cancel_left] at hd
        exact lv_idiv hx hb hd h0 (k lsR H locs hL hP hD hS)
    · cases hs
  case irem =>
    simp only [mm_stp] at hs
    split at hs
    · split at hs
      · cases hs
      · next h0 =>
        simp only [Option.some.injEq, Prod.mk.injEq] at hs
        obtain ⟨rfl, rfl, rfl, rfl⟩ := hs
        have hn : nx = pc + 1 := by simpa [mm_chk] using ck
        subst hn
        rw [Nat.add_sub_cancel_left] at hd
        exact lv_irem hx hb hd h0 (k lsR H locs hL hP hD hS)
    · cases hs
  case dup =>
    simp only [mm_stp] at hs
    split at hs
    · split at hs
      · next h0 =>
        simp only [Option.some.injEq, Prod.mk.injEq] at hs
        obtain ⟨rfl, rfl, rfl, rfl⟩ := hs
        have hn : nx = pc + 1 := by simpa [mm_chk] using ck
        subst hn
        rw [Nat.add_sub_cancel_left] at hd
        exact lv_dup hx hb hd (by rw [mm_tr_cat]; exact h0) (k lsR H locs hL hP hD hS)
      · cases hs
    · cases hs
  case dup2 =>
    simp only [mm_stp] at hs
    split at hs
    · split at hs
      · next h0 =>
        simp only [Option.some.injEq, Prod.mk.injEq] at hs
        obtain ⟨rfl, rfl, rfl, rfl⟩ := hs
        have hn : nx = pc + 1 := by simpa [mm_chk] using ck
        subst hn
        rw [Nat.add_sub_cancel_left] at hd
        exact lv_dup2_11 hx hb hd (by rw [mm_tr_cat]; exact h0.1) (by rw [mm_tr_cat]; exact h0.2) (k lsR H locs hL hP hD hS)
      · cases hs
    · cases hs
  case iconst n =>
    simp only [mm_stp] at hs
    simp only [Option.some.injEq, Prod.mk.injEq] at hs
    obtain ⟨rfl, rfl, rfl, rfl⟩ := hs
    simp only [mm_chk, Bool.and_eq_true, beq_iff_eq, decide_eq_true_eq] at ck
    obtain ⟨hn, hv⟩ := ck
    subst hn
    subst hv
    rw [Nat.add_sub_cancel_left] at hd
    exact lv_iconst hx hb hd rfl (k lsR H locs hL hP hD hS)
  case bipush n =>
    simp only [mm_stp] at hs
    simp only [Option.some.injEq, Prod.mk.injEq] at hs
    obtain ⟨rfl, rfl, rfl, rfl⟩ := hs
    simp only [mm_chk, Bool.and_eq_true, beq_iff_eq, decide_eq_true_eq] at ck
    obtain ⟨hn, hv⟩ := ck
    subst hn
    subst hv
    rw [Nat.add_sub_cancel_left] at hd
    exact lv_bipush hx hb hd rfl (k lsR H locs hL hP hD hS)
  case sipush n =>
    simp only [mm_stp] at hs
    simp only [Option.some.injEq, Prod.mk.injEq] at hs
    obtain ⟨rfl, rfl, rfl, rfl⟩ := hs
    simp only [mm_chk, Bool.and_eq_true, beq_iff_eq, decide_eq_true_eq] at ck
    obtain ⟨hn, hv⟩ := ck
    subst hn
    subst hv
    rw [Nat.add_sub_cancel_left] at hd
    exact lv_sipush hx hb hd rfl (k lsR H locs hL hP hD hS)
  case ldc n =>
    simp only [mm_stp] at hs
    simp only [Option.some.injEq, Prod.mk.injEq] at hs
    obtain ⟨rfl, rfl, rfl, rfl⟩ := hs
    simp only [mm_chk, Bool.and_eq_true, beq_iff_eq] at ck
    obtain ⟨hn, hv⟩ := ck
    subst hn
    rw [Nat.add_sub_cancel_left] at hd
    split at hv
    · next v => exact lv_ldc hx hb hown (hts _ (mm_kiall _ (List.contains_iff_mem.mp hv))) hd (k lsR H locs hL hP hD hS)
    · next q =>
      exact mm_ldcs hx hb hown hO hv hd (k lsR H locs hL hP hD hS)
    · cases hv
  case ldc_w n =>
    simp only [mm_stp] at hs
    simp only [Option.some.injEq, Prod.mk.injEq] at hs
    obtain ⟨rfl, rfl, rfl, rfl⟩ := hs
    simp only [mm_chk, Bool.and_eq_true, beq_iff_eq] at ck
    obtain ⟨hn, hv⟩ := ck
    subst hn
    rw [Nat.add_sub_cancel_left] at hd
    split at hv
    · next v => exact lv_ldcw hx hb hown (hts _ (mm_kiall _ (List.contains_iff_mem.mp hv))) hd (k lsR H locs hL hP hD hS)
    · cases hv
  case ldc2_w n =>
    simp only [mm_stp] at hs
    simp only [Option.some.injEq, Prod.mk.injEq] at hs
    obtain ⟨rfl, rfl, rfl, rfl⟩ := hs
    simp only [mm_chk, Bool.and_eq_true, beq_iff_eq] at ck
    obtain ⟨hn, hv⟩ := ck
    subst hn
    rw [Nat.add_sub_cancel_left] at hd
    split at hv
    · next v => exact lv_ldc2 hx hb hown (hts _ (mm_klall _ (List.contains_iff_mem.mp hv))) hd (k lsR H locs hL hP hD hS)
    · cases hv
  case getstatic n =>
    simp only [mm_stp] at hs
    simp only [Option.some.injEq, Prod.mk.injEq] at hs
    obtain ⟨rfl, rfl, rfl, rfl⟩ := hs
    simp only [mm_chk, Bool.and_eq_true, beq_iff_eq] at ck
    obtain ⟨hn, hv⟩ := ck
    subst hn
    rw [Nat.add_sub_cancel_left] at hd
    exact mm_gst hx hb hown hts hO hS hv hd (k lsR H locs hL hP hD hS)
  case iload i =>
    simp only [mm_stp] at hs
    split at hs
    · next x hg =>
      simp only [Option.some.injEq, Prod.mk.injEq] at hs
      obtain ⟨rfl, rfl, rfl, rfl⟩ := hs
      simp only [mm_chk, Bool.and_eq_true, beq_iff_eq] at ck
      obtain ⟨hn, hv⟩ := ck
      subst hn
      rw [Nat.add_sub_cancel_left] at hd
      subst hv
      exact lv_iload hx hb hd (hL.at hg (by intro z; cases z)) (k lsR H locs hL hP hD hS)
    · cases hs
  case aload i =>
    simp only [mm_stp] at hs
    split at hs
    · next x hg =>
      simp only [Option.some.injEq, Prod.mk.injEq] at hs
      obtain ⟨rfl, rfl, rfl, rfl⟩ := hs
      simp only [mm_chk, Bool.and_eq_true, beq_iff_eq] at ck
      obtain ⟨hn, hv⟩ := ck
      subst hn
      rw [Nat.add_sub_cancel_left] at hd
      subst hv
      exact lv_aload hx hb hd (hL.at hg (by intro z; cases z)) (k lsR H locs hL hP hD hS)
    · cases hs
  case iload_n i =>
    simp only [mm_stp] at hs
    split at hs
    · next x hg =>
      simp only [Option.some.injEq, Prod.mk.injEq] at hs
      obtain ⟨rfl, rfl, rfl, rfl⟩ := hs
      simp only [mm_chk, Bool.and_eq_true, beq_iff_eq] at ck
      obtain ⟨hn, hv⟩ := ck
      subst hn
      rw [Nat.add_sub_cancel_left] at hd
      exact lv_iload_n hx hb hd hv.symm (hL.at hg (by intro z; cases z)) (k lsR H locs hL hP hD hS)
    · cases hs
  case aload_n i =>
    simp only [mm_stp] at hs
    split at hs
    · next x hg =>
      simp only [Option.some.injEq, Prod.mk.injEq] at hs
      obtain ⟨rfl, rfl, rfl, rfl⟩ := hs
      simp only [mm_chk, Bool.and_eq_true, beq_iff_eq] at ck
      obtain ⟨hn, hv⟩ := ck
      subst hn
      rw [Nat.add_sub_cancel_left] at hd
      exact lv_aload_n hx hb hd hv.symm (hL.at hg (by intro z; cases z)) (k lsR H locs hL hP hD hS)
    · cases hs
  case lload_n i =>
    simp only [mm_stp] at hs
    split at hs
    · next x hg =>
      simp only [Option.some.injEq, Prod.mk.injEq] at hs
      obtain ⟨rfl, rfl, rfl, rfl⟩ := hs
      simp only [mm_chk, Bool.and_eq_true, beq_iff_eq] at ck
      obtain ⟨hn, hv⟩ := ck
      subst hn
      rw [Nat.add_sub_cancel_left] at hd
      exact lv_lload_n hx hb hd hv.symm (hL.at hg (by intro z; cases z)) (k lsR H locs hL hP hD hS)
    · cases hs
  case istore i =>
    simp only [mm_stp] at hs
    split at hs
    · next x r => 
      split at hs
      · next h0 =>
        simp only [Option.some.injEq, Prod.mk.injEq] at hs
        obtain ⟨rfl, rfl, rfl, rfl⟩ := hs
        simp only [mm_chk, Bool.and_eq_true, beq_iff_eq] at ck
        obtain ⟨hn, hv⟩ := ck
        subst hn
        rw [Nat.add_sub_cancel_left] at hd
        subst hv
        exact lv_istore hx hb hd hL.has (hL.lt h0) rfl (fun lsR' hl' => k lsR' H locs (hL.store (v := .int x) h0 hl') hP hD hS)
      · cases hs
    · cases hs
  case astore i =>
    simp only [mm_stp] at hs
    split at hs
    · next x r => 
      split at hs
      · next h0 =>
        simp only [Option.some.injEq, Prod.mk.injEq] at hs
        obtain ⟨rfl, rfl, rfl, rfl⟩ := hs
        simp only [mm_chk, Bool.and_eq_true, beq_iff_eq] at ck
        obtain ⟨hn, hv⟩ := ck
        subst hn
        rw [Nat.add_sub_cancel_left] at hd
        subst hv
        exact lv_astore hx hb hd hL.has (hL.lt h0) rfl (fun lsR' hl' => k lsR' H locs (hL.store (v := .ref x) h0 hl') hP hD hS)
      · cases hs
    · cases hs
  case istore_n i =>
    simp only [mm_stp] at hs
    split at hs
    · next x r => 
      split at hs
      · next h0 =>
        simp only [Option.some.injEq, Prod.mk.injEq] at hs
        obtain ⟨rfl, rfl, rfl, rfl⟩ := hs
        simp only [mm_chk, Bool.and_eq_true, beq_iff_eq] at ck
        obtain ⟨hn, hv⟩ := ck
        subst hn
        rw [Nat.add_sub_cancel_left] at hd
        exact lv_istore_n hx hb hd hv.symm hL.has (hL.lt h0) rfl (fun lsR' hl' => k lsR' H locs (hL.store (v := .int x) h0 hl') hP hD hS)
      · cases hs
    · cases hs
  case astore_n i =>
    simp only [mm_stp] at hs
    split at hs
    · next x r => 
      split at hs
      · next h0 =>
        simp only [Option.some.injEq, Prod.mk.injEq] at hs
        obtain ⟨rfl, rfl, rfl, rfl⟩ := hs
        simp only [mm_chk, Bool.and_eq_true, beq_iff_eq] at ck
        obtain ⟨hn, hv⟩ := ck
        subst hn
        rw [Nat.add_sub_cancel_left] at hd
        exact lv_astore_n hx hb hd hv.symm hL.has (hL.lt h0) rfl (fun lsR' hl' => k lsR' H locs (hL.store (v := .ref x) h0 hl') hP hD hS)
      · cases hs
    · cases hs
  case iinc i n =>
    simp only [mm_stp] at hs
    split at hs
    · next w0 x z hg =>
      split at hs
      · next h0 =>
        simp only [Option.some.injEq, Prod.mk.injEq] at hs
        obtain ⟨rfl, rfl, rfl, rfl⟩ := hs
        simp only [mm_chk, Bool.and_eq_true, beq_iff_eq, decide_eq_true_eq] at ck
        obtain ⟨⟨hn, hv⟩, hw⟩ := ck
        subst hn
        subst hv
        rw [Nat.add_sub_cancel_left] at hd
        have hz2 : z = Int32.ofInt n := by cases hw; rfl
        subst hz2
        obtain ⟨kk, hk⟩ := List.getElem?_of_mem (mm_prs_mem.mpr ⟨.int x, hg, (by intro z; cases z), rfl⟩ : (aux, mm_tr ad (.int x)) ∈ mm_prs ad ls)
        exact lv_iinc (k := kk) hx hb hd hL.has hk rfl (hL.lt h0) rfl (fun lsR' hl' => k lsR' H locs (hL.store (v := .int (x + Int32.ofInt n)) h0 hl') hP hD hS)
      · cases hs
    · cases hs
  case goto off =>
    simp only [mm_stp] at hs
    simp only [Option.some.injEq, Prod.mk.injEq] at hs
    obtain ⟨rfl, rfl, rfl, rfl⟩ := hs
    simp only [mm_chk, Bool.and_eq_true, beq_iff_eq, decide_eq_true_eq] at ck
    obtain ⟨hn, hv⟩ := ck
    subst hn
    rw [Nat.add_sub_cancel_left] at hd
    exact lv_goto hx hb hd hv (k lsR H locs hL hP hD hS)
  case if_icmp cn off =>
    simp only [mm_stp] at hs
    split at hs
    · simp only [Option.some.injEq, Prod.mk.injEq] at hs
      obtain ⟨rfl, rfl, rfl, rfl⟩ := hs
      simp only [mm_chk, Bool.and_eq_true, beq_iff_eq, decide_eq_true_eq] at ck
      obtain ⟨hn, hv⟩ := ck
      subst hn
      rw [Nat.add_sub_cancel_left] at hd
      have k0 := k lsR H locs hL hP hD hS
      cases cn
      case eq => exact lv_icmp_eq hx hb hd hv (fun hc => by simp only [mm_cmp, hc, decide_true, not_false_eq_true, if_true, if_pos] at k0; exact k0) (fun hc => by simp only [mm_cmp, hc, decide_false, not_true_eq_false, decide_true, if_false, Bool.false_eq_true] at k0; exact k0)
      case ne => exact lv_icmp_ne hx hb hd hv (fun hc => by simp only [mm_cmp, hc, decide_true, not_false_eq_true, if_true, if_pos] at k0; exact k0) (fun hc => by simp only [mm_cmp, hc, decide_false, not_true_eq_false, decide_true, if_false, Bool.false_eq_true] at k0; exact k0)
      case lt => exact lv_icmp_lt hx hb hd hv (fun hc => by simp only [mm_cmp, hc, decide_true, not_false_eq_true, if_true, if_pos] at k0; exact k0) (fun hc => by simp only [mm_cmp, hc, decide_false, not_true_eq_false, decide_true, if_false, Bool.false_eq_true] at k0; exact k0)
      case ge => exact lv_icmp_ge hx hb hd hv (fun hc => by simp only [mm_cmp, hc, decide_true, not_false_eq_true, if_true, if_pos] at k0; exact k0) (fun hc => by simp only [mm_cmp, hc, decide_false, not_true_eq_false, decide_true, if_false, Bool.false_eq_true] at k0; exact k0)
      case gt => exact lv_icmp_gt hx hb hd hv (fun hc => by simp only [mm_cmp, hc, decide_true, not_false_eq_true, if_true, if_pos] at k0; exact k0) (fun hc => by simp only [mm_cmp, hc, decide_false, not_true_eq_false, decide_true, if_false, Bool.false_eq_true] at k0; exact k0)
      case le => exact lv_icmp_le hx hb hd hv (fun hc => by simp only [mm_cmp, hc, decide_true, not_false_eq_true, if_true, if_pos] at k0; exact k0) (fun hc => by simp only [mm_cmp, hc, decide_false, not_true_eq_false, decide_true, if_false, Bool.false_eq_true] at k0; exact k0)
    · cases hs
  case ifCond cn off =>
    simp only [mm_stp] at hs
    split at hs
    · simp only [Option.some.injEq, Prod.mk.injEq] at hs
      obtain ⟨rfl, rfl, rfl, rfl⟩ := hs
      simp only [mm_chk, Bool.and_eq_true, beq_iff_eq, decide_eq_true_eq] at ck
      obtain ⟨hn, hv⟩ := ck
      subst hn
      rw [Nat.add_sub_cancel_left] at hd
      have k0 := k lsR H locs hL hP hD hS
      cases cn
      case eq => exact lv_if_eq hx hb hd hv (fun hc => by simp only [mm_cmp, hc, decide_true, not_false_eq_true, if_true, if_pos] at k0; exact k0) (fun hc => by simp only [mm_cmp, hc, decide_false, not_true_eq_false, decide_true, if_false, Bool.false_eq_true] at k0; exact k0)
      case ne => exact lv_if_ne hx hb hd hv (fun hc => by simp only [mm_cmp, hc, decide_true, not_false_eq_true, if_true, if_pos] at k0; exact k0) (fun hc => by simp only [mm_cmp, hc, decide_false, not_true_eq_false, decide_true, if_false, Bool.false_eq_true] at k0; exact k0)
      case lt => exact lv_if_lt hx hb hd hv (fun hc => by simp only [mm_cmp, hc, decide_true, not_false_eq_true, if_true, if_pos] at k0; exact k0) (fun hc => by simp only [mm_cmp, hc, decide_false, not_true_eq_false, decide_true, if_false, Bool.false_eq_true] at k0; exact k0)
      case ge => exact lv_if_ge hx hb hd hv (fun hc => by simp only [mm_cmp, hc, decide_true, not_false_eq_true, if_true, if_pos] at k0; exact k0) (fun hc => by simp only [mm_cmp, hc, decide_false, not_true_eq_false, decide_true, if_false, Bool.false_eq_true] at k0; exact k0)
      case gt => exact lv_if_gt hx hb hd hv (fun hc => by simp only [mm_cmp, hc, decide_true, not_false_eq_true, if_true, if_pos] at k0; exact k0) (fun hc => by simp only [mm_cmp, hc, decide_false, not_true_eq_false, decide_true, if_false, Bool.false_eq_true] at k0; exact k0)
      case le => exact lv_if_le hx hb hd hv (fun hc => by simp only [mm_cmp, hc, decide_true, not_false_eq_true, if_true, if_pos] at k0; exact k0) (fun hc => by simp only [mm_cmp, hc, decide_false, not_true_eq_false, decide_true, if_false, Bool.false_eq_true] at k0; exact k0)
    · cases hs
  case tableswitch dflt lo hi offs =>
    simp only [mm_stp] at hs
    split at hs
    · next x r =>
      simp only [Option.some.injEq, Prod.mk.injEq] at hs
      obtain ⟨rfl, rfl, rfl, rfl⟩ := hs
      simp only [mm_chk, Bool.and_eq_true, decide_eq_true_eq, List.all_eq_true] at ck
      obtain ⟨⟨c1, c2⟩, c3⟩ := ck
      have k0 := k lsR H locs hL hP hD hS
      by_cases ho : x.toInt < lo ∨ hi < x.toInt
      · refine lv_tableOut (tgt := ((pc : Int) + dflt).toNat) hx hb hd ho (by omega) ?_
        simp only [mm_tsw, ho, if_true] at k0
        exact k0
      · have h1 : ¬ x.toInt < lo := fun z => ho (Or.inl z)
        have h2 : ¬ hi < x.toInt := fun z => ho (Or.inr z)
        have hlt : (x.toInt - lo).toNat < offs.size := by omega
        have hg : offs[(x.toInt - lo).toNat]? = some offs[(x.toInt - lo).toNat] := Array.getElem?_eq_getElem hlt
        have hp := c2 _ (Array.mem_toList_iff.mpr (Array.getElem_mem hlt))
        refine lv_tableIn (tgt := ((pc : Int) + offs[(x.toInt - lo).toNat]).toNat) hx hb hd h1 h2 hg (by omega) ?_
        simp only [mm_tsw, ho, if_false, hg] at k0
        exact k0
    · cases hs
  case lookupswitch dflt ps =>
    simp only [mm_stp] at hs
    split at hs
    · next x r =>
      simp only [Option.some.injEq, Prod.mk.injEq] at hs
      obtain ⟨rfl, rfl, rfl, rfl⟩ := hs
      simp only [mm_chk, Bool.and_eq_true, decide_eq_true_eq] at ck
      obtain ⟨⟨c1, c2⟩, c3⟩ := ck
      have k0 := k lsR H locs hL hP hD hS
      refine lv_lookup (tgt := ((pc : Int) + Op.lookupswitch.offset ps.toList dflt x.toInt).toNat) hx hb hd c3 rfl ?_ k0
      have := mm_lsw0 (List.all_eq_true.mp c2) c1 (x := x.toInt)
      omega
    · cases hs
  case arraylength =>
    simp only [mm_stp] at hs
    split at hs
    · next a r =>
      have hn : nx = pc + 1 := by simpa [mm_chk] using ck
      subst hn
      rw [Nat.add_sub_cancel_left] at hd
      split at hs
      · next ha =>
        split at hs
        · next hm =>
          simp only [Option.some.injEq, Prod.mk.injEq] at hs
          obtain ⟨rfl, rfl, rfl, rfl⟩ := hs
          subst ha
          subst hm
          obtain ⟨x1, x2, x3⟩ := hX rfl
          exact va_slen hx hb x1 x2 x3 hS hd (k lsR H locs hL hP hD hS)
        · cases hs
      · split at hs
        · split at hs
          · next lst hl0 =>
            simp only [Option.some.injEq, Prod.mk.injEq] at hs
            obtain ⟨rfl, rfl, rfl, rfl⟩ := hs
            exact va_tlen hx hb (hO.1 a lst hl0) hS rfl hd (k lsR H locs hL hP hD hS)
          · split at hs
            · next lst hl0 =>
              simp only [Option.some.injEq, Prod.mk.injEq] at hs
              obtain ⟨rfl, rfl, rfl, rfl⟩ := hs
              exact va_tlen hx hb (mm_oldBT hO hl0) hS rfl hd (k lsR H locs hL hP hD hS)
            · cases hs
        · split at hs
          · next cc hT =>
            split at hs
            · next h0 =>
              simp only [Option.some.injEq, Prod.mk.injEq] at hs
              obtain ⟨rfl, rfl, rfl, rfl⟩ := hs
              have hw := mm_w_at (cy := cy) (ad := ad) (I := I) hT
              rw [mm_cel_int h0] at hw
              exact va_alen hx hb hK hP a 0 hw hty0 rfl hd (k lsR H locs hL hP hD hS)
            · cases hs
          · cases hs
    · cases hs
  case iaload =>
    simp only [mm_stp] at hs
    split at hs
    · next i a r =>
      have hn : nx = pc + 1 := by simpa [mm_chk] using ck
      subst hn
      rw [Nat.add_sub_cancel_left] at hd
      split at hs
      · next ha =>
        split at hs
        · next hm =>
          split at hs
          · cases hs
          · next hi =>
            simp only [Option.some.injEq, Prod.mk.injEq] at hs
            obtain ⟨rfl, rfl, rfl, rfl⟩ := hs
            subst ha
            subst hm
            obtain ⟨x1, x2, x3⟩ := hX rfl
            exact va_sld hx hb x1 x2 x3 hS hi hd (k lsR H locs hL hP hD hS)
        · cases hs
      · split at hs
        · split at hs
          · next lst hl0 =>
            split at hs
            · cases hs
            · next hi =>
              simp only [Option.some.injEq, Prod.mk.injEq] at hs
              obtain ⟨rfl, rfl, rfl, rfl⟩ := hs
              exact va_ti hx hb (hO.1 a lst hl0) hS hi rfl hd (k lsR H locs hL hP hD hS)
          · cases hs
        · split at hs
          · next cc hT =>
            split at hs
            · next h0 =>
              split at hs
              · cases hs
              · next hi =>
                simp only [Option.some.injEq, Prod.mk.injEq] at hs
                obtain ⟨rfl, rfl, rfl, rfl⟩ := hs
                have hw := mm_w_at (cy := cy) (ad := ad) (I := I) hT
                rw [mm_cel_int h0] at hw
                exact va_iald hx hb hK hP a 0 hw hty0 hi hd (k lsR H locs hL hP hD hS)
            · cases hs
          · cases hs
    · cases hs
  case baload =>
    simp only [mm_stp] at hs
    split at hs
    · next i a r =>
      have hn : nx = pc + 1 := by simpa [mm_chk] using ck
      subst hn
      rw [Nat.add_sub_cancel_left] at hd
      split at hs
      · next lst hl0 =>
        split at hs
        · cases hs
        · next hi =>
          simp only [Option.some.injEq, Prod.mk.injEq] at hs
          obtain ⟨rfl, rfl, rfl, rfl⟩ := hs
          exact va_tb hx hb (mm_oldBT hO hl0) hS hi rfl hd (k lsR H locs hL hP hD hS)
      · cases hs
    · cases hs
  case iastore =>
    simp only [mm_stp] at hs
    split at hs
    · next x i a r =>
      have hn : nx = pc + 1 := by simpa [mm_chk] using ck
      subst hn
      rw [Nat.add_sub_cancel_left] at hd
      split at hs
      · next cc hT =>
        split at hs
        · next h0 =>
          split at hs
          · cases hs
          · next hi =>
            simp only [Option.some.injEq, Prod.mk.injEq] at hs
            obtain ⟨rfl, rfl, rfl, rfl⟩ := hs
            have hw := mm_w_at (cy := cy) (ad := ad) (I := I) hT
            rw [mm_cel_int h0] at hw
            refine va_iast hx hb hK hP hD hS a 0 hw hty0 hi hd (fun H1 locs1 hP1 hD1 hS1 => ?_)
            have ew := mm_w_set (cy := cy) (ad := ad) (J := mm_up I a i.toNatClampNeg x) hT (mm_up_ne I a i.toNatClampNeg x)
            rw [mm_cel_int h0, mm_up_same] at ew
            rw [ew] at hP1 hD1
            exact k lsR H1 locs1 hL hP1 hD1 hS1
        · cases hs
      · cases hs
    · cases hs
  case aaload =>
    simp only [mm_stp] at hs
    split at hs
    · next i a r =>
      have hn : nx = pc + 1 := by simpa [mm_chk] using ck
      subst hn
      rw [Nat.add_sub_cancel_left] at hd
      split at hs
      · next cc hT =>
        split at hs
        · next h0 =>
          split at hs
          · cases hs
          · next hi =>
            split at hs
            · next q hq =>
              simp only [Option.some.injEq, Prod.mk.injEq] at hs
              obtain ⟨rfl, rfl, rfl, rfl⟩ := hs
              have hw := mm_w_at (cy := cy) (ad := ad) (I := I) hT
              rw [mm_cel_ref h0] at hw
              have k0 := k lsR H locs hL hP hD hS
              have eq1 : va_rf (mm_rf ad (cc.2.2.getD i.toNatClampNeg .null)) = .ref (ad q) := by simp [List.getD, hq, mm_rf, va_rf]
              rcases h0 with h0 | h0
              · rw [h0] at hw
                refine va_aldq hx hb hK hP a 1 hw rfl hi hd ?_
                rw [eq1]
                exact k0
              · rw [h0] at hw
                refine va_aldq hx hb hK hP a 2 hw rfl hi hd ?_
                rw [eq1]
                exact k0
            · cases hs
        · cases hs
      · cases hs
    · cases hs
  case getfield n =>
    simp only [mm_stp] at hs
    simp only [mm_chk, Bool.and_eq_true, beq_iff_eq] at ck
    obtain ⟨hn, hv⟩ := ck
    subst hn
    rw [Nat.add_sub_cancel_left] at hd
    split at hs
    · next a r =>
      split at hs
      · next ha =>
        subst ha
        split at hs
        · next hq =>
          simp only [Option.some.injEq, Prod.mk.injEq] at hs
          obtain ⟨rfl, rfl, rfl, rfl⟩ := hs
          exact mm_gsv hx hb hown hts hO hS (by simpa using hv) hq hd (k lsR H locs hL hP hD hS)
        · cases hs
      · split at hs
        · next ha =>
          subst ha
          split at hs
          · next hq =>
            simp only [Option.some.injEq, Prod.mk.injEq] at hs
            obtain ⟨rfl, rfl, rfl, rfl⟩ := hs
            exact mm_gsc hx hb hown hts hO hS (by simpa using hv) hq hd (k lsR H locs hL hP hD hS)
          · cases hs
        · next ha1 ha2 =>
          split at hs
          · next cc hT =>
            split at hs
            · next h0 =>
              have hw := mm_w_at (cy := cy) (ad := ad) (I := I) hT
              rw [mm_cel_obj h0.1] at hw
              have hf := mm_ffok (by
                split at hv
                · rcases mm_sfa (List.contains_iff_mem.mp hv) with z | z
                  · exact absurd z ha1
                  · exact absurd z ha2
                · exact hv) h0.1 h0.2
              obtain ⟨ref, rr, f1, f2, f3, f4⟩ := hf
              have hc := mm_cloall rr (List.mem_of_getElem? f1)
              have hsame : ∀ z, s.fieldFound? (rr.2.1 (aux % 100)).1 (rr.2.1 (aux % 100)).2.1 (rr.2.1 (aux % 100)).2.2.1 = some z → s.fieldFound? ref (rr.2.1 (aux % 100)).2.1 (rr.2.1 (aux % 100)).2.2.1 = some z := by
                rcases f4 with f4 | f4
                · rw [f4]; exact fun z h => h
                · exact fun z h => u_same (hts _ f4) z h
              split at hs
              · next z hj =>
                simp only [Option.some.injEq, Prod.mk.injEq] at hs
                obtain ⟨rfl, rfl, rfl, rfl⟩ := hs
                exact va_get (v := .int (I a (aux % 100))) hx hb hts hc.1 hown hK hP a hw f1 (aux % 100) f2 (hts _ f3) hsame (by rw [List.getElem?_mapIdx, hj]; rfl) hd (k lsR H locs hL hP hD hS)
              · next z hj =>
                split at hs
                · cases hs
                · next hz =>
                  simp only [Option.some.injEq, Prod.mk.injEq] at hs
                  obtain ⟨rfl, rfl, rfl, rfl⟩ := hs
                  exact va_get (v := .ref (ad (1009 + (I a (aux % 100)).toNatClampNeg))) hx hb hts hc.1 hown hK hP a hw f1 (aux % 100) f2 (hts _ f3) hsame (by rw [List.getElem?_mapIdx, hj]; simp only [Option.map_some, mm_fv, if_neg hz]) hd (k lsR H locs hL hP hD hS)
              · next q hj =>
                simp only [Option.some.injEq, Prod.mk.injEq] at hs
                obtain ⟨rfl, rfl, rfl, rfl⟩ := hs
                exact va_get (v := .ref (ad q)) hx hb hts hc.1 hown hK hP a hw f1 (aux % 100) f2 (hts _ f3) hsame (by rw [List.getElem?_mapIdx, hj]; rfl) hd (k lsR H locs hL hP hD hS)
              · cases hs
            · cases hs
          · cases hs
    · cases hs
  case putfield n =>
    simp only [mm_stp] at hs
    simp only [mm_chk, Bool.and_eq_true, beq_iff_eq] at ck
    obtain ⟨hn, hv⟩ := ck
    subst hn
    rw [Nat.add_sub_cancel_left] at hd
    split at hs
    · next x a r =>
      split at hs
      · next cc hT =>
        split at hs
        · next h0 =>
              have hw := mm_w_at (cy := cy) (ad := ad) (I := I) hT
              rw [mm_cel_obj h0.1] at hw
              have hf := mm_ffok hv h0.1 h0.2.1
              obtain ⟨ref, rr, f1, f2, f3, f4⟩ := hf
              obtain ⟨hc1, ⟨ty, hc2⟩, hc3⟩ := mm_cloall rr (List.mem_of_getElem? f1)
              have hfk := mm_fkoall _ _ f1 _ f2
              have hsame : ∀ z, s.fieldFound? (rr.2.1 (aux % 100)).1 (rr.2.1 (aux % 100)).2.1 (rr.2.1 (aux % 100)).2.2.1 = some z → s.fieldFound? ref (rr.2.1 (aux % 100)).2.1 (rr.2.1 (aux % 100)).2.2.1 = some z := by
                rcases f4 with f4 | f4
                · rw [f4]; exact fun z h => h
                · exact fun z h => u_same (hts _ f4) z h
              split at hs
              · next z hj =>
                simp only [Option.some.injEq, Prod.mk.injEq] at hs
                obtain ⟨rfl, rfl, rfl, rfl⟩ := hs
                have hlen : aux % 100 < (cc.2.2.mapIdx (fun j v => mm_fv ad I a j v)).length := by rw [List.length_mapIdx]; exact (List.getElem?_eq_some_iff.mp hj).1
                have fin : ∀ (H1 : Heap) (locs1 : List Loc), va_P D vwCl ((mm_w cy ad T I).set a (ad a, .inr (cc.1, (cc.2.2.mapIdx (fun j v => mm_fv ad I a j v)).set (aux % 100) (.int x)))) H1 → va_D A ((mm_w cy ad T I).set a (ad a, .inr (cc.1, (cc.2.2.mapIdx (fun j v => mm_fv ad I a j v)).set (aux % 100) (.int x)))) → va_S A s.heap H1 locs1 → W p l e R s m args below meth c H1 locs1 cells slots Q (F0 m (pc + 3) lsR (List.map (mm_tr ad) r)) := fun H1 locs1 hP1 hD1 hS1 => by
                  have ew := mm_w_set (cy := cy) (ad := ad) (J := mm_up I a (aux % 100) x) hT (mm_up_ne I a (aux % 100) x)
                  rw [mm_cel_obj h0.1, ← mm_fs_set (ad := ad) (x := x) (w := .int x) hj (by simp [mm_fv, mm_up_same, upd])] at ew
                  rw [ew] at hP1 hD1
                  exact k lsR H1 locs1 hL hP1 hD1 hS1
                rcases h0.2.2.2 with hk | ⟨hk, hx2⟩
                · exact va_put (ty := .int) (v := .int x) hx hb hts hc1 ty hc2 hc3 hown hK hP hD hS a hw f1 (aux % 100) f2 (hts _ f3) hsame (hfk.2.2.2 h0.2.2.1) (hfk.1 hk) rfl rfl hlen hd fin
                · exact va_put (ty := .boolean) (v := .int x) hx hb hts hc1 ty hc2 hc3 hown hK hP hD hS a hw f1 (aux % 100) f2 (hts _ f3) hsame (hfk.2.2.2 h0.2.2.1) (hfk.2.1 hk) (by rcases hx2 with rfl | rfl <;> rfl) (by rcases hx2 with rfl | rfl <;> rfl) hlen hd fin
              · cases hs
        · cases hs
      · cases hs
    · next q a r =>
      split at hs
      · next cc hT =>
        split at hs
        · next h0 =>
              have hw := mm_w_at (cy := cy) (ad := ad) (I := I) hT
              rw [mm_cel_obj h0.1] at hw
              have hf := mm_ffok hv h0.1 h0.2.1
              obtain ⟨ref, rr, f1, f2, f3, f4⟩ := hf
              obtain ⟨hc1, ⟨ty, hc2⟩, hc3⟩ := mm_cloall rr (List.mem_of_getElem? f1)
              have hfk := mm_fkoall _ _ f1 _ f2
              have hsame : ∀ z, s.fieldFound? (rr.2.1 (aux % 100)).1 (rr.2.1 (aux % 100)).2.1 (rr.2.1 (aux % 100)).2.2.1 = some z → s.fieldFound? ref (rr.2.1 (aux % 100)).2.1 (rr.2.1 (aux % 100)).2.2.1 = some z := by
                rcases f4 with f4 | f4
                · rw [f4]; exact fun z h => h
                · exact fun z h => u_same (hts _ f4) z h
              split at hs
              · next z hj =>
                simp only [Option.some.injEq, Prod.mk.injEq] at hs
                obtain ⟨rfl, rfl, rfl, rfl⟩ := hs
                have hlen : aux % 100 < (cc.2.2.mapIdx (fun j v => mm_fv ad I a j v)).length := by rw [List.length_mapIdx]; exact (List.getElem?_eq_some_iff.mp hj).1
                refine va_put (ty := .object "java/lang/String") (v := .ref (ad q)) hx hb hts hc1 ty hc2 hc3 hown hK hP hD hS a hw f1 (aux % 100) f2 (hts _ f3) hsame (hfk.2.2.2 h0.2.2.1) (hfk.2.2.1 h0.2.2.2.1) rfl rfl hlen hd (fun H1 locs1 hP1 hD1 hS1 => ?_)
                have ew := mm_w_set (cy := cy) (ad := ad) (J := mm_up I a (aux % 100) (Int32.ofNat (q - 1009))) hT (mm_up_ne I a (aux % 100) (Int32.ofNat (q - 1009)))
                rw [mm_cel_obj h0.1, ← mm_fs_set (ad := ad) (x := Int32.ofNat (q - 1009)) (w := .ref (ad q)) hj (mm_sfv h0.2.2.2.2.1 h0.2.2.2.2.2)] at ew
                rw [ew] at hP1 hD1
                exact k lsR H1 locs1 hL hP1 hD1 hS1
              · cases hs
        · cases hs
      · cases hs
    · cases hs
  case invokestatic n =>
    simp only [mm_stp] at hs
    simp only [mm_chk, Bool.and_eq_true, beq_iff_eq] at ck
    obtain ⟨hn, hv⟩ := ck
    subst hn
    rw [Nat.add_sub_cancel_left] at hd
    have hml2 : c.maxLocals = lsR.size := by rw [hml, hL.1]
    split at hs
    · next ha =>
      rw [if_pos ha] at hv
      split at hs
      · next nn dp bb sp aa r =>
        split at hs
        · next c1 c2 hT1 hT2 =>
          split at hs
          · next h0 =>
            simp only [Option.some.injEq, Prod.mk.injEq] at hs
            obtain ⟨rfl, rfl, rfl, rfl⟩ := hs
            have hw1 := mm_w_at (cy := cy) (ad := ad) (I := I) hT1
            rw [mm_cel_int h0.1] at hw1
            have hw2 := mm_w_at (cy := cy) (ad := ad) (I := I) hT2
            rw [mm_cel_int h0.2.1] at hw2
            have hloc : ((List.map (mm_tr ad) r).map fun v => v.category).sum + (nativeFrameWords "java/lang/System" "arraycopy" 5 + 11) ≤ R.locals := by
              rw [mm_catsum, show nativeFrameWords "java/lang/System" "arraycopy" 5 = 7 from by decide +kernel]
              have := h0.2.2.2.2.2.2.2
              omega
            refine va_copyi (ty := .int) hx hb hml2 hown (hts _ (mm_acall _ (List.contains_iff_mem.mp hv))) (hts _ mm_acn.1) (hts _ mm_acn.2.1) (hts _ mm_acn.2.2) hK hP hD hS aa bb 0 0 hw1 hw2 hty0 hty0 rfl h0.2.2.1 h0.2.2.2.1 h0.2.2.2.2.1 h0.2.2.2.2.2.1 h0.2.2.2.2.2.2.1 (fun _ _ => rfl) (by omega) hloc hd (fun H1 locs1 hP1 hD1 hS1 => ?_)
            have ew := mm_w_set (cy := cy) (ad := ad) (J := mm_cp I aa sp.toNatClampNeg bb dp.toNatClampNeg nn.toNatClampNeg) hT2 (mm_cp_ne I aa sp.toNatClampNeg bb dp.toNatClampNeg nn.toNatClampNeg)
            rw [mm_cel_int h0.2.1, mm_cp_same] at ew
            rw [ew] at hP1 hD1
            exact k lsR H1 locs1 hL hP1 hD1 hS1
          · cases hs
        · cases hs
      · cases hs
    · next ha =>
      rw [if_neg ha] at hv
      split at hs
      · next ha2 =>
        rw [if_pos ha2] at hv
        split at hs
        · next y x r =>
          split at hs
          · next h0 =>
            simp only [Option.some.injEq, Prod.mk.injEq] at hs
            obtain ⟨rfl, rfl, rfl, rfl⟩ := hs
            exact va_mmax hx hb hml2 hown (hts _ (mm_xmall _ (List.contains_iff_mem.mp hv))) (hts _ mm_xmw.1) (hts _ mm_xmw.2.1) (hts _ mm_xmw.2.2) (by omega) (by rw [mm_catsum]; omega) hcl hsl hd (k lsR H locs hL hP hD hS)
          · cases hs
        · cases hs
      · next ha2 =>
        rw [if_neg ha2] at hv
        split at hs
        · next ha3 =>
          rw [if_pos ha3] at hv
          split at hs
          · next y x r =>
            split at hs
            · next h0 =>
              simp only [Option.some.injEq, Prod.mk.injEq] at hs
              obtain ⟨rfl, rfl, rfl, rfl⟩ := hs
              exact va_mmin hx hb hml2 hown (hts _ (mm_xnall _ (List.contains_iff_mem.mp hv))) (hts _ mm_xnw.1) (hts _ mm_xnw.2.1) (hts _ mm_xnw.2.2) (by omega) (by rw [mm_catsum]; omega) hcl hsl hd (k lsR H locs hL hP hD hS)
            · cases hs
          · cases hs
        · cases hs
  all_goals (exfalso; simp [mm_stp] at hs)
end STW
