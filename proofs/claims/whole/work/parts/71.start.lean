/-! THE CLAIM OUT OF ONE WALK OF THE LAW'S BODY. Your part is whole_start (and what it stands on); all else here is the same for every law, but numbers. -/
def R_law : String := "ChairViewsLaw"
def lw_P (b : Addr) (xs : List Int32) (args : Array Value) (s : State) : Prop := args = #[.ref b] ∧ s.IntsAt b xs ∧ xs.length ≤ 3072 ∧ (Jvm.Cond.and given_1 narrow_1).before args s = true
def lw_Q (_ : Array Value) (s : State) (o : Outcome) (t : State) : Prop := o = .returned (some (.int 1)) ∧ Framed s o t [] 600000 7302249
def lw_Z (below : List Frame) (a : Array Value) (s : State) : State → Prop := fun t => ∃ o, t.status = .running ∧ Ended t below o ∧ lw_Q a s o t
/-- the law's own end, with 1 on the stack, nothing written that was there before, its room as the claim has it -/
theorem lw_ret {p : Program} {l : Launch} {e : Env} {s : State} {m : MethodId} {below : List Frame} {meth : Method} {c : Code} {b : Nat} (hx : p.tables.exec = Jvm.exec) (hb : c.code = code) (hr : meth.sig.returnType = ret) (hlocks : meth.locks = false) {pc : Nat} {H : Heap} {ls : Array Slot} (hdg : decode code pc = .ok (.ireturn, 1)) : W p l e room_1 s m #[Value.ref b] below meth c H [] 600000 7302249 (lw_Z below #[Value.ref b] s) (F0 m pc ls [.int 1]) := by
  intro T hT X
  obtain ⟨fs, hret, hrun, hended, hW, hframe⟩ := X.leave (v := some (.int 1)) (hlocks := hlocks) (fun h => by rw [hr] at h; cases h)
  have hmeth' : T.vm.method? m = some meth := X.method'
  refine ⟨T.setFrames fs, ?_, .returned (some (.int 1)), hrun, hended, rfl, ⟨_, rfl⟩, hW, hframe⟩
  jvm_step X.here [X.here.top, hx, hb, hdg, hmeth', hr, ret, narrow_b1]
  (try refine ⟨rfl, ?_⟩); (try refine ⟨rfl, ?_⟩)
  first | (intro acts; rw [hret _ acts rfl rfl rfl]) | rw [hret _ _ rfl rfl rfl]
  exact Steps.refl _
/-- what holds at the law's entry: the machine, the code, the tables' words (any of lw_tbl by 'hts w (by decide +kernel)'), the script of L ints xs at the cell b, what the Statement gives of the start (any of its parts by flat_of_before) -/
def lw_At (p : Program) (s : State) (m : MethodId) (meth : Method) (c : Code) (b L : Nat) (xs : Nat → Int32) : Prop :=
  p.tables.exec = Jvm.exec ∧ c.code = code ∧ meth.sig.returnType = ret ∧ c.maxLocals = 4 ∧ s.vm.findClass R_law = some m.cls ∧ (∀ w ∈ lw_tbl, w.before #[Value.ref b] s = true) ∧ va_X b L xs s s.heap ∧ b < s.heap.size ∧ meth.locks = false ∧ (Jvm.Cond.and given_1 narrow_1).before #[Value.ref b] s = true
/-! FROM THE LAW'S ENTRY -/
section STRT
variable {p : Program} {e : Env} {s : State} {m : MethodId} {below : List Frame} {meth : Method} {c : Code}
theorem st_g {args : Array Value} (hts : ∀ w ∈ lw_tbl, w.before args s = true) : ∀ w ∈ lw_g, w.before args s = true := fun w hw => hts w (List.mem_filter.mp hw).1
theorem st_tb {args : Array Value} (hts : ∀ w ∈ lw_tbl, w.before args s = true) (i : Nat) {w : Cond} (h : lw_tbl[i]? = some w) : w.before args s = true := hts w (List.mem_of_getElem? h)
def st_in (ci : Nat) : Prop := ∃ r : vw_C, vwCl[ci]? = some r ∧ Cond.instantiable r.1 r.2.2 ∈ lw_g
theorem st_ins : ∀ (ci : Nat) (r : vw_C), vwCl[ci]? = some r → Cond.instantiable r.1 r.2.2 ∈ lw_g := by
  intro ci r h
  have hl : ci < 13 := (List.getElem?_eq_some_iff.mp h).1
  have key : ∀ ci, ci < 13 → ∃ q ∈ mk_NW, q.2.2 = ci := by decide +kernel
  obtain ⟨q, hq, rfl⟩ := key ci hl
  obtain ⟨r', r1, -, r3, -⟩ := mk_nall q hq
  cases h.symm.trans r1
  exact r3
theorem st_D {args : Array Value} (hts : ∀ w ∈ lw_g, w.before args s = true) : ∃ D : va_G, ∀ (ci : Nat) (r : vw_C), vwCl[ci]? = some r → u_Kn s r.1 r.2.1 r.2.2 (D.1 ci) (D.2 ci) := by
  have h0 : ∀ ci : Nat, ∃ q : ClassId × (Nat → Nat), ∀ r : vw_C, vwCl[ci]? = some r → u_Kn s r.1 r.2.1 r.2.2 q.1 q.2 := by
    intro ci
    cases h : vwCl[ci]? with
    | none => exact ⟨(0, fun _ => 0), fun r hr => by cases hr⟩
    | some r =>
      obtain ⟨cC, iS, hk⟩ := u_known (ws := lw_g) hts (mm_cloall r (List.mem_of_getElem? h)).1 (hts _ (st_ins ci r h))
      exact ⟨(cC, iS), fun r' hr => by cases hr; exact hk⟩
  obtain ⟨f, hf⟩ := Classical.axiomOfChoice h0
  exact ⟨(fun ci => (f ci).1, fun ci => (f ci).2), fun ci r hr => hf ci r hr⟩
theorem st_K {args : Array Value} (hts : ∀ w ∈ lw_tbl, w.before args s = true) : ∃ (D : va_G) (cy : Nat → ClassId), va_K D vwCl (mm_ty cy) s ∧ mk_AO s := by
  obtain ⟨D, hD⟩ := st_D (st_g hts)
  obtain ⟨c0, k0, m0, a1, a2, a3⟩ := Cond.arrayClass_spec (st_tb hts 129 (w := .arrayClass .int) (by decide +kernel))
  have o1 := st_tb hts 131 (w := .arrayOver (.object "ChairViews$Chair")) (by decide +kernel)
  have o2 := st_tb hts 345 (w := .arrayOver (.object "ChairViews$Row")) (by decide +kernel)
  obtain ⟨m1, c1, k1, b1, b2, b3, b4, b5⟩ := Cond.arrayOver_spec o1
  obtain ⟨m2, c2, k2, d1, d2, d3, d4, d5⟩ := Cond.arrayOver_spec o2
  refine ⟨D, fun i => if i = 0 then c0 else if i = 1 then c1 else c2, ⟨hD, fun k q hk => ?_⟩, va_AO.of o1, va_AO.of o2⟩
  match k, hk with
  | 0, hk => cases hk; exact ⟨fun n z => ⟨fun k h => (by cases h), k0, a2, m0, a3⟩, a1⟩
  | 1, hk => cases hk; exact ⟨fun n z => ⟨fun k h => (by cases h), k1, b3, m1, b4⟩, k1, m1, b3, b4, b1, b5⟩
  | 2, hk => cases hk; exact ⟨fun n z => ⟨fun k h => (by cases h), k2, d3, m2, d4⟩, k2, m2, d3, d4, d1, d5⟩
  | k + 3, hk => simp [mm_ty] at hk
abbrev st_tm (i : Nat) : Term := if i = 0 then .string "ChairViews$Reader" 23 else if i = 1 then .string "ChairViews" 167 else .string "ChairViews" 169
theorem st_old {b : Nat} {args : Array Value} (hts : ∀ w ∈ lw_tbl, w.before args s = true) (hgv : (Jvm.Cond.and given_1 narrow_1).before args s = true) : ∃ ad : Nat → Nat, ad 1000 = b ∧ mm_Old ad (fun q => s.heap.size ≤ q) s s.heap := by
  have hs := flat_of_before _ hgv
  have hA : ∀ a : Nat, a < s.heap.size → ¬ (fun q => s.heap.size ≤ q) a := fun a h => Nat.not_le.mpr h
  obtain ⟨t1, e1, T1⟩ := va_Tof (args := args) (s := s) (tm := .static "ChairViews$Text" "FIRST_WEIGHT" "[I") (ty := .int) (N := 1) (f := fun j => .int (([1] : List Int32).getD j 0)) (A := fun q => s.heap.size ≤ q) (by decide) (hs _ (by decide +kernel)) (va_eqt (hs _ (by decide +kernel))) (fun j hj => by
    obtain rfl : j = 0 := by omega
    exact va_eqt (hs _ (by decide +kernel))) hA
  obtain ⟨t2, e2, T2⟩ := va_Tof (args := args) (s := s) (tm := .static "ChairViews$Text" "FIRST_ZEAL" "[I") (ty := .int) (N := 5) (f := fun j => .int (([-1, 10, -42, -2, -45] : List Int32).getD j 0)) (A := fun q => s.heap.size ≤ q) (by decide) (hs _ (by decide +kernel)) (va_eqt (hs _ (by decide +kernel))) (fun j hj => by
    rcases (show j = 0 ∨ j = 1 ∨ j = 2 ∨ j = 3 ∨ j = 4 by omega) with rfl | rfl | rfl | rfl | rfl <;> exact va_eqt (hs _ (by decide +kernel))) hA
  obtain ⟨t3, e3, T3⟩ := va_Tof (args := args) (s := s) (tm := .static "ChairViews" "KIND_ABOVE" "[I") (ty := .int) (N := 7) (f := fun j => .int (([-1, 0, 0, 0, 1, 2, 3] : List Int32).getD j 0)) (A := fun q => s.heap.size ≤ q) (by decide) (hs _ (by decide +kernel)) (va_eqt (hs _ (by decide +kernel))) (fun j hj => by
    rcases (show j = 0 ∨ j = 1 ∨ j = 2 ∨ j = 3 ∨ j = 4 ∨ j = 5 ∨ j = 6 by omega) with rfl | rfl | rfl | rfl | rfl | rfl | rfl <;> exact va_eqt (hs _ (by decide +kernel))) hA
  have z1 := va_Zref (st_tb hts 210 (w := .laysStatic "ChairViews$Text" "FIRST_WEIGHT" "[I") (by decide +kernel)) (st_tb hts 87 (w := .initialized "ChairViews$Text") (by decide +kernel)) e1 hA
  have z2 := va_Zref (st_tb hts 241 (w := .laysStatic "ChairViews$Text" "FIRST_ZEAL" "[I") (by decide +kernel)) (st_tb hts 87 (w := .initialized "ChairViews$Text") (by decide +kernel)) e2 hA
  have z3 := va_Zref (st_tb hts 488 (w := .laysStatic "ChairViews" "KIND_ABOVE" "[I") (by decide +kernel)) (st_tb hts 76 (w := .initialized "ChairViews") (by decide +kernel)) e3 hA
  have z4 := va_Zof (v := .int 1) (st_tb hts 578 (w := .laysStatic "java/lang/String" "COMPACT_STRINGS" "Z") (by decide +kernel)) (st_tb hts 92 (w := .initialized "java/lang/String") (by decide +kernel)) (va_eqt (hs _ (by decide +kernel))) hA
  obtain ⟨adK, adV, hSS, hev⟩ := vk_Sof (args := args) (s := s) (N := 3) (tm := st_tm) (len := [0, 3, 3]) (byt := [[], [107, 99, 115], [104, 110, 118]]) (A := fun q => s.heap.size ≤ q)
    (fun i hi => by rcases (show i = 0 ∨ i = 1 ∨ i = 2 by omega) with rfl | rfl | rfl <;> decide)
    (fun i hi => by rcases (show i = 0 ∨ i = 1 ∨ i = 2 by omega) with rfl | rfl | rfl <;> exact hs _ (by decide +kernel))
    (fun i hi => by rcases (show i = 0 ∨ i = 1 ∨ i = 2 by omega) with rfl | rfl | rfl <;> exact hs _ (by decide +kernel))
    (fun i hi => by rcases (show i = 0 ∨ i = 1 ∨ i = 2 by omega) with rfl | rfl | rfl <;> exact hs _ (by decide +kernel))
    (fun i hi => by rcases (show i = 0 ∨ i = 1 ∨ i = 2 by omega) with rfl | rfl | rfl <;> exact hs _ (by decide +kernel))
    (fun i hi j hj => by
      rcases (show i = 0 ∨ i = 1 ∨ i = 2 by omega) with rfl | rfl | rfl
      · exact absurd hj (Nat.not_lt_zero j)
      · have hj' : j < 3 := hj
        rcases (show j = 0 ∨ j = 1 ∨ j = 2 by omega) with rfl | rfl | rfl <;> exact hs _ (by decide +kernel)
      · have hj' : j < 3 := hj
        rcases (show j = 0 ∨ j = 1 ∨ j = 2 by omega) with rfl | rfl | rfl <;> exact hs _ (by decide +kernel))
    (fun i j hi hj hne => by
      rcases (show i = 0 ∨ i = 1 ∨ i = 2 by omega) with rfl | rfl | rfl <;> rcases (show j = 0 ∨ j = 1 ∨ j = 2 by omega) with rfl | rfl | rfl <;> first | exact absurd rfl hne | exact Or.inl (hs _ (by decide +kernel)) | exact Or.inr (hs _ (by decide +kernel)))
    hA
  have g1 : ∀ i, i < 3 → (fun k => if k = 1000 then b else if k = 1001 then t1 else if k = 1002 then t2 else if k = 1003 then t3 else if k < 1020 then adK (k - 1010) else adV (k - 1020)) (1010 + i) = adK i := fun i hi => by
    dsimp only
    rw [if_neg (by omega), if_neg (by omega), if_neg (by omega), if_neg (by omega), if_pos (by omega), Nat.add_sub_cancel_left]
  have g2 : ∀ i, i < 3 → (fun k => if k = 1000 then b else if k = 1001 then t1 else if k = 1002 then t2 else if k = 1003 then t3 else if k < 1020 then adK (k - 1010) else adV (k - 1020)) (1020 + i) = adV i := fun i hi => by
    dsimp only
    rw [if_neg (by omega), if_neg (by omega), if_neg (by omega), if_neg (by omega), if_neg (by omega), Nat.add_sub_cancel_left]
  refine ⟨fun k => if k = 1000 then b else if k = 1001 then t1 else if k = 1002 then t2 else if k = 1003 then t3 else if k < 1020 then adK (k - 1010) else adV (k - 1020), rfl, ?_, ⟨z3, z1, z2, z4⟩, ⟨?_, ?_, ?_⟩, ⟨?_, ?_⟩, va_Nw.of rfl (st_tb hts 694 (by decide +kernel)), va_Nw.of rfl (st_tb hts 708 (by decide +kernel))⟩
  · intro a l ha
    unfold mm_oldI at ha
    split at ha
    · cases ha; exact T1
    · cases ha; exact T2
    · cases ha; exact T3
    · cases ha
  · exact vk_R.of (st_tb hts 326 (by decide +kernel)) (hev 0 (by omega))
  · exact vk_R.of (st_tb hts 533 (by decide +kernel)) (hev 1 (by omega))
  · exact vk_R.of (st_tb hts 534 (by decide +kernel)) (hev 2 (by omega))
  · intro i hi
    have w := hSS.1 i hi
    rw [← g1 i hi, ← g2 i hi] at w
    exact w
  · intro i j hi hj ee
    exact hSS.2 i j hi hj ((g1 i hi).symm.trans (ee.trans (g1 j hj)))
theorem st_core (l : Launch) {L : Nat} {xs : Nat → Int32} {D : va_G} {cy : Nat → ClassId} {ad : Nat → Nat} (hL : L ≤ 3072) (C0 : lw_At p s m meth c (ad 1000) L xs) (hK : va_K D vwCl (mm_ty cy) s) (hAO : mk_AO s) (hO : mm_Old ad (fun q => s.heap.size ≤ q) s s.heap) : W p l e room_1 s m #[Value.ref (ad 1000)] below meth c s.heap [] 0 0 (lw_Z below #[Value.ref (ad 1000)] s) (entryFrame m ([Value.ref (ad 1000)] : List Value).toArray 4) := by
  obtain ⟨hx, hb, hr, hml, hown, hts, hX, hbl, hlocks, hgv⟩ := C0
  have C : ∀ d, d ≤ 61 → mm_Cx p room_1 s m #[Value.ref (ad 1000)] c (fun q => s.heap.size ≤ q) D cy ad (L, xs) 0 d := fun d hd =>
    ⟨hx, hb, hml, hown, st_g hts, hK, fun q h => h, hO, ⟨by show d + 1 ≤ 2048; omega, by show 40 * (d + 1) ≤ 84000; omega⟩, fun _ => ⟨hX, hbl, Nat.not_le.mpr hbl⟩⟩
  have hsl : mk_sl mm_T0 = 2800 := by decide +kernel
  have hln : mm_T0.length = 104 := by decide +kernel
  have hLR : mm_LR ad ((lg_sl (([.ref 1000] : List Value).map (mm_tr ad)) ++ List.replicate (mm_ml 0 - (lg_sl (([.ref 1000] : List Value).map (mm_tr ad))).length) Slot.unset).toArray) (mm_ml 0) (mm_ent 0 [.ref 1000]) := mm_LR_entry (by decide)
  show W p l e room_1 s m #[Value.ref (ad 1000)] below meth c s.heap [] 0 0 (lw_Z below #[Value.ref (ad 1000)] s) (entryFrame m (([.ref 1000] : List Value).map (mm_tr ad)).toArray 4)
  rw [lg_entry_eq]
  refine mk_sound l D cy 400 6 0 0 _ [] [] (fun _ _ => 0) _ _ _ _ _ mk_Rrun ad (L, xs) p e room_1 s m _ below meth c s.heap [] 0 0 _ (fun q => s.heap.size ≤ q) _ (C 6 (by omega)) hAO (fun h => absurd rfl h) (by rw [hln]; show 0 + 104 ≤ 600000 + 0; omega) (by rw [hsl]; show 0 + 2800 ≤ 7302249 + 0; omega) hLR (fun k q h => by simp [mm_w] at h) ⟨fun i j q q' h => by simp [mm_w] at h, fun k q h => by simp [mm_w] at h⟩ va_S.rf (fun ad' cells' slots' lsR' H' locs' _ hag hc hs hL' hP' hD' hS' => ?_)
  obtain ⟨n, r, J, hrun, v, rfl, rfl⟩ := lw_loop (L := L) (xs := xs) (d := 0) hL L 0 mk_I0 (by omega) (by omega) mk_inv
  rw [hln] at hc
  rw [hsl] at hs
  have hc' : cells' ≤ 600000 := by simp at hc; omega
  have hs' : slots' ≤ 7302249 := by have : mk_sl [] = 0 := rfl; omega
  refine mm_sound l D cy ad' mm_T0 (L, xs) n (0 + 61) 0 18 _ [] mk_I0 _ J hrun p e room_1 s m _ below meth c H' locs' cells' slots' _ (fun q => s.heap.size ≤ q) lsR' (mk_Cxt hag (C 61 (by omega))) hc' hs' hL' hP' hD' hS' (fun pc2 en st2 lsR2 H2 locs2 hat hret hP2 hS2 => ?_)
  obtain ⟨op, nx, aux, vv⟩ := en
  obtain ⟨ck, hd⟩ := mm_ent_ok hat
  dsimp only at hd
  have key : op = .ireturn ∧ st2 = [.int 1] := by
    cases op
    case ireturn =>
      simp only [mm_ret] at hret
      split at hret
      · next v =>
        split at hret
        · cases hret; exact ⟨rfl, rfl⟩
        · cases hret
      · cases hret
    case return_ =>
      simp only [mm_ret] at hret
      split at hret
      · split at hret <;> cases hret
      · cases hret
    case areturn =>
      simp only [mm_ret] at hret
      split at hret
      · split at hret <;> cases hret
      · cases hret
    all_goals (exfalso; simp [mm_ret] at hret)
  obtain ⟨rfl, rfl⟩ := key
  have hn : nx = pc2 + 1 := by simpa [mm_chk] using ck
  subst hn
  rw [Nat.add_sub_cancel_left] at hd
  exact va_forget (fun q hq => hS2.2.2 q hq) (W.widen hc' hs' (lw_ret hx hb hr hlocks hd))
/-- from the entry, for every script of at most 3072 ints, the law comes to its end with true -/
theorem whole_start (l : Launch) {b L : Nat} {xs : Nat → Int32} (hL : L ≤ 3072) (C0 : lw_At p s m meth c b L xs) : W p l e room_1 s m #[Value.ref b] below meth c s.heap [] 0 0 (lw_Z below #[Value.ref b] s) (entryFrame m ([Value.ref b] : List Value).toArray 4) := by
  obtain ⟨D, cy, hK, hAO⟩ := st_K C0.2.2.2.2.2.1
  obtain ⟨ad, rfl, hO⟩ := st_old (b := b) C0.2.2.2.2.2.1 C0.2.2.2.2.2.2.2.2.2
  exact st_core l hL C0 hK hAO hO
end STRT
set_option maxHeartbeats 4000000 in
theorem lw_walk (l : Launch) (b : Addr) (xs : List Int32) : MetFree l x (headSpec (Jvm.Cond.code x code maxLocals ret :: tables_1) room_1) (lw_P b xs) (fun _ _ _ _ _ => True) lw_Q := by
  refine MetFree.of_bodyS (code := code) (maxLocals := maxLocals) (ret := ret) (by decide) ?_ ?_
  · intro args s m h hn
    obtain ⟨meth, c, h1, h2, h3, h4, h5, h6, -, -⟩ := Cond.code_spec hn (atoms_spec (ws := Jvm.Cond.code x code maxLocals ret :: tables_1) h _ List.mem_cons_self)
    exact ⟨meth, c, h1, h2, h3, h4, h5, h6⟩
  · intro p e s m args below meth c s₁ B hml0 hP _
    obtain ⟨rfl, hx, hbd, hgv⟩ := hP
    obtain ⟨scr, harrAt, hlist, hof, hsmall⟩ := hx
    obtain ⟨hcb, hkn, -, -⟩ := State.arrayAt?_spec harrAt
    have hown : s.vm.findClass R_law = some m.cls := findClass_of_methodNamed B.named
    have hts0 : ∀ c ∈ (Jvm.Cond.code x code maxLocals ret :: tables_1), c.before #[Value.ref b] s = true := atoms_spec (ws := Jvm.Cond.code x code maxLocals ret :: tables_1) B.pre
    have hts : ∀ w ∈ lw_tbl, w.before #[Value.ref b] s = true := k2_hts_sels lw_privs (fun w hw => hts0 w (List.mem_cons_of_mem _ hw)) lw_privs_ok
    have hml : c.maxLocals = 4 := B.maxLocals_eq (hts0 _ List.mem_cons_self)
    have X₀ : Stand p l e room_1 s m #[Value.ref b] below meth c s₁ [] 0 0 := Stand.of_body B
    have hh0 : s₁.heap = s.heap := by rw [B.state]; rfl
    have hsz : scr.slots.size = xs.length := by rw [← Array.length_toList, hlist, List.length_map]
    have hval : ∀ j : Nat, j < xs.length → scr.slots[j]? = some (.int (xs.getD j 0)) := fun j hj => by
      rw [← Array.getElem?_toList, hlist]
      simp [hj]
    have hbl : b < s.heap.size := (Array.getElem?_eq_some_iff.mp hcb).1
    have hX : va_X b xs.length (fun j => xs.getD j 0) s s.heap := ⟨scr, hcb, hof, hkn, hsz, hval⟩
    have K : W p l e room_1 s m #[Value.ref b] below meth c s₁.heap [] 0 0 (lw_Z below #[Value.ref b] s) (entryFrame m ([Value.ref b] : List Value).toArray 4) := by
      rw [hh0]
      exact whole_start l hbd ⟨B.exec, B.bytes, B.returns, hml, hown, hts, hX, hbl, B.notSynchronized, hgv⟩
    obtain ⟨t, a1, o, b1, b2, b3⟩ := K s₁ rfl X₀
    exact ⟨t, o, a1, b1, b2, b3⟩
theorem lw_pre_spec {args : Array Value} {s : State} (h : (Jvm.Cond.and given_1 narrow_1).before args s = true) (hr : rest_1_c.before args s = true) : ∃ (b : Addr) (xs : List Int32), lw_P b xs args s := by
  have hs := flat_of_before _ h
  have hq := flat_of_before _ hr
  have hc : (Cond.count 1).before args s = true := hs _ (by decide +kernel)
  have harr : (Cond.arrayOf (.arg 0) .int).before args s = true := hs _ (by decide +kernel)
  have hle : (Cond.le (.length (.arg 0)) (.int 3072)).before args s = true := hs _ (by decide +kernel)
  have hlen : (Cond.isInt (.length (.arg 0))).before args s = true := hq _ (by decide +kernel)
  have hall : (Cond.all (.arg 0) (.isInt (.elem (.arg 0) (.index 0)))).before args s = true := hq _ (by decide +kernel)
  obtain ⟨b, xs, hb, hx⟩ := State.ints_of_pre rfl harr hlen hall
  have hsm : xs.length < 2 ^ 31 := hx.choose_spec.2.2.2
  have hev : (Term.length (.arg 0)).eval args s none [] s = some (.int xs.length.toInt32) := hx.length_eval hb
  have hv := Cond.le_ints hev (show (Term.int 3072).eval args s none [] s = some (.int 3072) from rfl)
  have hd : xs.length.toInt32 ≤ 3072 := by
    simpa [Cond.before, Cond.holds, hv] using hle
  have hN : xs.length ≤ 3072 := (Int32.ofNat_le_ofNat hsm (by decide)).mp (show Int32.ofNat xs.length ≤ Int32.ofNat 3072 from hd)
  exact ⟨b, xs, Cond.one_arg hc (show args[0]? = some (.ref b) from hb), hx, hN, h⟩
theorem lw_comes (l : Launch) : Comes l x (Jvm.Cond.code x code maxLocals ret :: tables_1) room_1 (fun tb e args s => Calls_1 tb e args s ∧ rest_1 tb e args s ∧ Pre_1 tb e args s)
    (fun _ _ args s o t => lw_Q args s o t) := by
  intro p e ha hc hk s m args below hf hfit hheap happ hpre
  obtain ⟨b, xs, hP⟩ := lw_pre_spec hpre.2.2 hpre.2.1
  obtain ⟨k, o, h1, h2, h3, hQ⟩ := lw_walk l b xs p e ha hc hk s m args below hf ((Spec.applies_iff_loose hf).mp happ).1 hP trivial
  exact ⟨k, o, h1, h2, h3, hQ⟩
theorem lw_frame {s t : State} {o : Outcome} {args : Array Value} (h : Framed s o t [] 600000 7302249) :
    Framed s o t (fieldLocs frame_1_writes args s ++ arrayLocs frame_1_arrays args s ++ staticLocs frame_1_statics s) 600000 7302249 := h
theorem lw_limb (L : Cond) (hL : ∀ (args : Array Value) (s t : State), L.after args s (.returned (some (.int 1))) t = true) :
    ArmFor flags0 classFile x code maxLocals ret World_1 tables_1 room_1 Calls_1 rest_1 Pre_1
      (fun tb e a s o t => postC L tb e a s o t ∧ Framed s o t (fieldLocs frame_1_writes a s ++ arrayLocs frame_1_arrays a s ++ staticLocs frame_1_statics s) 600000 7302249) := by
  intro l _ _ _ p e ha hc hk s m args below hf hfit hheap happ hpre
  obtain ⟨k, o, h1, h2, h3, rfl, hF⟩ := lw_comes l p e ha hc hk s m args below hf hfit hheap happ hpre
  exact ⟨k, _, h1, h2, h3, hL args s _, lw_frame hF⟩
theorem i_vc : Claimed_1_1 ∧ Claimed_1_2 := ⟨lw_limb limb_1_1 (fun args s t => by simp [limb_1_1, Cond.after, Cond.holds, Cond.value]), lw_limb limb_1_2 (fun args s t => Cond.after_iff.mpr (by
  first | (rw [show limb_1_2 = Cond.eq .result (.int 1) from rfl, Cond.eq_ints (x := 1) (y := 1) rfl rfl]; simp; done) | (simp [limb_1_2, Cond.value, Term.eval]; done)))⟩
