/-! ONE STEP of the making machine is steps of the large one. -/
def mk_ag (ad ad' : Nat → Nat) (N : Nat) : Prop := ∀ k, k < N ∨ 1000 ≤ k → ad' k = ad k
theorem mk_ag.rf {ad : Nat → Nat} {N : Nat} : mk_ag ad ad N := fun _ _ => rfl
theorem mk_ag.trans {ad ad1 ad2 : Nat → Nat} {N M : Nat} (h : mk_ag ad ad1 N) (h2 : mk_ag ad1 ad2 M) (hNM : N ≤ M) : mk_ag ad ad2 N := fun k hk => (h2 k (hk.elim (fun z => Or.inl (Nat.lt_of_lt_of_le z hNM)) Or.inr)).trans (h k hk)
theorem mk_ag.new {ad : Nat → Nat} {N q : Nat} (hN : N < 1000) : mk_ag ad (fun k => if k = N then q else ad k) N := fun k hk => if_neg (by omega)
theorem mk_cvt {ad ad' : Nat → Nat} {N : Nat} (h : mk_ag ad ad' N) {v : Value} (hv : mk_cv N v = true) : mm_tr ad' v = mm_tr ad v := by
  cases v with
  | ref q =>
    simp only [mk_cv, Bool.or_eq_true, decide_eq_true_eq] at hv
    simp only [mm_tr, h q hv]
  | _ => rfl
theorem mk_fvt {ad ad' : Nat → Nat} {I : mm_I} {k j N : Nat} (h : mk_ag ad ad' N) {v : Value} (hv : mk_cv N v = true) : mm_fv ad' I k j v = mm_fv ad I k j v := by
  cases v with
  | ref q =>
    simp only [mk_cv, Bool.or_eq_true, decide_eq_true_eq] at hv
    simp only [mm_fv, h q hv]
  | long z =>
    simp only [mm_fv]
    rw [h (1009 + (I k j).toNatClampNeg) (Or.inr (by omega))]
  | _ => rfl
theorem mk_celt {cy : Nat → ClassId} {ad ad' : Nat → Nat} {I : mm_I} {k N : Nat} (h : mk_ag ad ad' N) {c : mm_C} (hc : c.2.2.all (mk_cv N) = true) : mm_cel cy ad' I k c = mm_cel cy ad I k c := by
  have e1 : c.2.2.mapIdx (fun j v => mm_fv ad' I k j v) = c.2.2.mapIdx (fun j v => mm_fv ad I k j v) := by
    apply List.ext_getElem?
    intro i
    simp only [List.getElem?_mapIdx]
    cases hi : c.2.2[i]? with
    | none => rfl
    | some v => simp only [Option.map_some]; rw [mk_fvt h (List.all_eq_true.mp hc v (List.mem_of_getElem? hi))]
  have e2 : (fun j => mm_rf ad' (c.2.2.getD j .null)) = (fun j => mm_rf ad (c.2.2.getD j .null)) := by
    funext j
    rw [List.getD_eq_getElem?_getD]
    cases hi : c.2.2[j]? with
    | none => rfl
    | some v =>
      have hv := List.all_eq_true.mp hc v (List.mem_of_getElem? hi)
      cases v with
      | ref q =>
        simp only [mk_cv, Bool.or_eq_true, decide_eq_true_eq] at hv
        simp only [Option.getD_some, mm_rf, h q hv]
      | _ => rfl
  unfold mm_cel
  rw [e1, e2]
theorem mk_wt {cy : Nat → ClassId} {ad ad' : Nat → Nat} {I J : mm_I} {T : List mm_C} (h : mk_ag ad ad' T.length) (hc : T.all (fun c => c.2.2.all (mk_cv T.length)) = true) (hI : ∀ k, k < T.length → J k = I k) : mm_w cy ad' T J = mm_w cy ad T I := by
  apply List.ext_getElem?
  intro i
  simp only [mm_w, List.getElem?_mapIdx]
  cases hi : T[i]? with
  | none => rfl
  | some c =>
    have hl := (List.getElem?_eq_some_iff.mp hi).1
    simp only [Option.map_some]
    rw [h i (Or.inl hl), mk_celt h (List.all_eq_true.mp hc c (List.mem_of_getElem? hi)), mm_cel_congr (hI i hl)]
theorem mk_wapp {cy : Nat → ClassId} {ad ad' : Nat → Nat} {I J : mm_I} {T : List mm_C} (c : mm_C) (h : mk_ag ad ad' T.length) (hc : T.all (fun c => c.2.2.all (mk_cv T.length)) = true) (hI : ∀ k, k < T.length → J k = I k) : mm_w cy ad' (T ++ [c]) J = mm_w cy ad T I ++ [(ad' T.length, mm_cel cy ad' J T.length c)] := by
  rw [← mk_wt (cy := cy) h hc hI]
  unfold mm_w
  rw [List.mapIdx_concat]
theorem mk_LRt {ad ad' : Nat → Nat} {lsR : Array Slot} {n N : Nat} {ls : List Value} (hL : mm_LR ad lsR n ls) (h : mk_ag ad ad' N) (hc : ls.all (mk_cv N) = true) : mm_LR ad' lsR n ls :=
  ⟨hL.1, hL.2.1, hL.2.2.1, fun i v hi hv => by rw [mk_cvt h (List.all_eq_true.mp hc v (List.mem_of_getElem? hi))]; exact hL.2.2.2 i v hi hv⟩
theorem mk_stt {ad ad' : Nat → Nat} {N : Nat} {st : List Value} (h : mk_ag ad ad' N) (hc : st.all (mk_cv N) = true) : st.map (mm_tr ad') = st.map (mm_tr ad) :=
  List.map_congr_left (fun v hv => mk_cvt h (List.all_eq_true.mp hc v hv))
theorem mk_okk {T : List mm_C} {ls st : List Value} (h : mk_ok T ls st = true) : T.length < 1000 ∧ T.all (fun c => c.2.2.all (mk_cv T.length)) = true ∧ ls.all (mk_cv T.length) = true ∧ st.all (mk_cv T.length) = true := by
  simp only [mk_ok, Bool.and_eq_true, decide_eq_true_eq] at h
  exact ⟨h.1.1.1, h.1.1.2, h.1.2, h.2⟩
theorem mk_Oldt {ad ad' : Nat → Nat} {N : Nat} {A : Nat → Prop} {U : State} {H : Heap} (h : mk_ag ad ad' N) (hO : mm_Old ad A U H) : mm_Old ad' A U H := by
  have g : ∀ k, 1000 ≤ k → ad' k = ad k := fun k hk => h k (Or.inr hk)
  refine ⟨fun a l e => ?_, ⟨?_, ?_, ?_, hO.2.1.2.2.2⟩, ⟨?_, ?_, ?_⟩, ?_, hO.2.2.2.2⟩
  · rw [g a (by unfold mm_oldI at e; split at e <;> first | omega | cases e)]
    exact hO.1 a l e
  · rw [g 1003 (by omega)]; exact hO.2.1.1
  · rw [g 1001 (by omega)]; exact hO.2.1.2.1
  · rw [g 1002 (by omega)]; exact hO.2.1.2.2.1
  · rw [g 1010 (by omega)]; exact hO.2.2.1.1
  · rw [g 1011 (by omega)]; exact hO.2.2.1.2.1
  · rw [g 1012 (by omega)]; exact hO.2.2.1.2.2
  · have e1 : (fun i => ad' (1010 + i)) = (fun i => ad (1010 + i)) := funext fun i => g _ (by omega)
    have e2 : (fun i => ad' (1020 + i)) = (fun i => ad (1020 + i)) := funext fun i => g _ (by omega)
    rw [e1, e2]
    exact hO.2.2.2.1
theorem mk_Cxt {p : Program} {R : Room} {s : State} {m : MethodId} {args : Array Value} {c : Code} {A : Nat → Prop} {D : va_G} {cy : Nat → ClassId} {ad ad' : Nat → Nat} {X : Nat × (Nat → Int32)} {mid d N : Nat} (h : mk_ag ad ad' N) (C : mm_Cx p R s m args c A D cy ad X mid d) : mm_Cx p R s m args c A D cy ad' X mid d := by
  obtain ⟨hx, hb, hml, hown, hts, hK, hA, hO, hr, hX⟩ := C
  exact ⟨hx, hb, hml, hown, hts, hK, hA, mk_Oldt h hO, hr, fun h0 => by rw [h 1000 (Or.inr (by omega))]; exact hX h0⟩
def mk_dv : Value → Value
  | .int _ => .int 0
  | _ => .null
theorem mk_dvat {ci j : Nat} (h : j < (mk_def ci).length) : vp_V ((mk_def ci).map mk_dv) j = if mm_fk ci j ≤ 1 then .int 0 else .null := by
  have h2 : j < (mm_fkl.getD ci []).length := by simpa [mk_def] using h
  have e : mm_fk ci j = (mm_fkl.getD ci [])[j] := by unfold mm_fk; rw [List.getD_eq_getElem?_getD, List.getElem?_eq_getElem h2]; rfl
  rw [e]
  unfold vp_V mk_def
  rw [List.getD_eq_getElem?_getD, List.map_map, List.getElem?_map, List.getElem?_eq_getElem h2]
  simp only [Option.map_some, Option.getD_some, Function.comp]
  by_cases h3 : (mm_fkl.getD ci [])[j] ≤ 1
  · rw [if_pos h3, if_pos h3]; rfl
  · rw [if_neg h3, if_neg h3]
    split <;> rfl
theorem mk_defcel {cy : Nat → ClassId} {ad : Nat → Nat} {I : mm_I} {k ci N : Nat} (hc : ci < 13) (hI : ∀ j, I k j = 0) : mm_cel cy ad I k (ci, N, mk_def ci) = .inr (ci, (mk_def ci).map mk_dv) := by
  rw [mm_cel_obj hc]
  congr 2
  apply List.ext_getElem?
  intro i
  show (List.mapIdx _ (mk_def ci))[i]? = _
  rw [List.getElem?_mapIdx, List.getElem?_map]
  cases hi : (mk_def ci)[i]? with
  | none => rfl
  | some v =>
    have hm := List.mem_of_getElem? hi
    unfold mk_def at hm
    obtain ⟨w, -, rfl⟩ := List.mem_map.mp hm
    simp only [Option.map_some]
    congr 1
    by_cases h1 : w ≤ 1
    · rw [if_pos h1]; simp [mm_fv, hI, mk_dv]
    · rw [if_neg h1]
      by_cases h2 : w = 2
      · rw [if_pos h2]; simp [mm_fv, hI, mk_dv]
      · rw [if_neg h2]; rfl
def mk_AO (s : State) : Prop := va_AO "ChairViews$Chair" s ∧ va_AO "ChairViews$Row" s
def mk_cho (ci : Nat) : Prop := ∃ r : vw_C, vwCl[ci]? = some r ∧ Cond.laysFinal r.1 "ChairViews$Chair" "trace" "LChairViews$Row;" ∈ lw_g
theorem mk_chall : ∀ ci ∈ mk_CH, mk_cho ci := List.forall_mem_cons.mpr ⟨⟨_, rfl, mm_co0 _ (u_in_lay (k := 0) (by decide))⟩, List.forall_mem_cons.mpr ⟨⟨_, rfl, mm_co1 _ (u_in_lay (k := 0) (by decide))⟩, List.forall_mem_cons.mpr ⟨⟨_, rfl, mm_co2 _ (u_in_lay (k := 0) (by decide))⟩, List.forall_mem_cons.mpr ⟨⟨_, rfl, mm_co3 _ (u_in_lay (k := 0) (by decide))⟩, List.forall_mem_cons.mpr ⟨⟨_, rfl, mm_co6 _ (u_in_lay (k := 0) (by decide))⟩, List.forall_mem_cons.mpr ⟨⟨_, rfl, mm_co8 _ (u_in_lay (k := 0) (by decide))⟩, List.forall_mem_cons.mpr ⟨⟨_, rfl, mm_co10 _ (u_in_lay (k := 0) (by decide))⟩, fun _ h => absurd h List.not_mem_nil⟩⟩⟩⟩⟩⟩⟩
theorem mk_slapp (T : List mm_C) (c : mm_C) : mk_sl (T ++ [c]) = mk_sl T + c.2.1 := by
  unfold mk_sl
  rw [List.map_append, List.sum_append]
  simp
theorem mk_slset {T : List mm_C} {a : Nat} {c : mm_C} (h : T[a]? = some c) (l : List Value) : mk_sl (T.set a (c.1, c.2.1, l)) = mk_sl T := by
  unfold mk_sl
  congr 1
  apply List.ext_getElem?
  intro i
  rw [List.getElem?_map, List.getElem?_map]
  by_cases hi : a = i
  · subst hi
    rw [List.getElem?_set_self (List.getElem?_eq_some_iff.mp h).1, h]
    rfl
  · rw [List.getElem?_set_ne hi]
theorem mk_wset {cy : Nat → ClassId} {ad : Nat → Nat} {T : List mm_C} {I : mm_I} {a : Nat} {c : mm_C} : mm_w cy ad (T.set a c) I = (mm_w cy ad T I).set a (ad a, mm_cel cy ad I a c) := by
  unfold mm_w
  rw [List.mapIdx_set]
section MKW
variable {p : Program} {l : Launch} {e : Env} {R : Room} {s : State} {m : MethodId} {args : Array Value} {below : List Frame} {meth : Method} {c : Code} {H : Heap} {locs : List Loc} {cells slots : Nat} {Q : State → Prop} {A : Nat → Prop} {D : va_G} {cy : Nat → ClassId} {ad : Nat → Nat} {T : List mm_C} {X : Nat × (Nat → Int32)}
theorem mk_asg {ci : Nat} {r : vw_C} (hts : ∀ w ∈ lw_g, w.before args s = true) (hm : ci ∈ mk_CH) (hr : vwCl[ci]? = some r) (comp c0 : ClassId) (h1 : s.vm.findClass "ChairViews$Chair" = some comp) (h2 : s.vm.findClass r.1 = some c0) : s.vm.assignable c0 comp = true := by
  obtain ⟨r', e1, e2⟩ := mk_chall ci hm
  cases hr.symm.trans e1
  obtain ⟨x, _, x', _, _, _, f1, -, -, -, -, f2, f3, -⟩ := Cond.laysFinal_spec (hts _ e2)
  cases h2.symm.trans f1
  cases h1.symm.trans f3
  exact f2
set_option maxHeartbeats 4000000 in
theorem mk_stpW {mid d pc : Nat} {en : mm_E} {ls st : List Value} {I : mm_I} {pc' : Nat} {ls' st' : List Value} {T' : List mm_C} {I' : mm_I} {lsR : Array Slot} (C : mm_Cx p R s m args c A D cy ad X mid d) (hAO : mk_AO s) (hinit : mid ≠ 0 → meth.name = "<init>") (he : mm_at mid pc = some en) (hs : mk_stp mid en ls st T I = some (pc', ls', st', T', I')) (hcl : cells + T'.length ≤ R.cells + T.length) (hsl : slots + mk_sl T' ≤ R.slots + mk_sl T) (hL : mm_LR ad lsR (mm_ml mid) ls) (hP : va_P D vwCl (mm_w cy ad T I) H) (hD : va_D A (mm_w cy ad T I)) (hS : va_S A s.heap H locs)
    (k : ∀ (ad' : Nat → Nat) (cells' slots' : Nat) (lsR' : Array Slot) (H' : Heap) (locs' : List Loc), mk_ag ad ad' T.length → cells' + T.length = cells + T'.length → slots' + mk_sl T = slots + mk_sl T' → mm_LR ad' lsR' (mm_ml mid) ls' → va_P D vwCl (mm_w cy ad' T' I') H' → va_D A (mm_w cy ad' T' I') → va_S A s.heap H' locs' → W p l e R s m args below meth c H' locs' cells' slots' Q (F0 m pc' lsR' (st'.map (mm_tr ad')))) : W p l e R s m args below meth c H locs cells slots Q (F0 m pc lsR (st.map (mm_tr ad))) := by
  have C0 := C
  obtain ⟨hx, hb, hml, hown, hts, hK, hA, hO, ⟨hfr, hlo⟩, hX⟩ := C
  obtain ⟨op, nx, aux, vv⟩ := en
  obtain ⟨ck, hd⟩ := mm_ent_ok he
  dsimp only at hd
  have hnew : ∀ (q : Nat) (v : va_E) (cc : mm_C) (J : mm_I) (rr : List Value) (nx n : Nat) (H1 : Heap), mk_ok T ls rr = true → J = mk_rp I T.length → cc.2.1 = n → (∀ ad' : Nat → Nat, mm_cel cy ad' J T.length cc = v) → pc' = nx → ls' = ls → st' = .ref T.length :: rr → T' = T ++ [cc] → I' = J → va_P D vwCl (mm_w cy ad T I ++ [(q, v)]) H1 → va_D A (mm_w cy ad T I ++ [(q, v)]) → va_S A s.heap H1 locs → W p l e R s m args below meth c H1 locs (cells + 1) (slots + n) Q (F0 m nx lsR (.ref q :: rr.map (mm_tr ad))) := by
    intro q v cc J rr nx n H1 hok hJ hn hv e1 e2 e3 e4 e5 hP1 hD1 hS1
    subst e1; subst e2; subst e3; subst e4; subst e5
    obtain ⟨o1, o2, o3, o4⟩ := mk_okk hok
    have hag : mk_ag ad (fun k => if k = T.length then q else ad k) T.length := mk_ag.new o1
    have hw := mk_wapp (cy := cy) (I := I) (J := I') cc hag o2 (fun k hk => by rw [hJ]; exact if_neg (Nat.ne_of_lt hk))
    rw [hv] at hw
    simp only [if_true] at hw
    rw [← hw] at hP1 hD1
    have h5 := k (fun k => if k = T.length then q else ad k) (cells + 1) (slots + n) lsR H1 locs hag (by simp; omega) (by rw [mk_slapp, hn]; omega) (mk_LRt hL hag o3) hP1 hD1 hS1
    rw [List.map_cons, mk_stt hag o4] at h5
    have e6 : mm_tr (fun k => if k = T.length then q else ad k) (.ref T.length) = .ref q := by simp [mm_tr]
    rw [e6] at h5
    exact h5
  cases op
  case new n =>
    simp only [mk_stp] at hs
    split at hs
    · next h0 =>
      simp only [Option.some.injEq, Prod.mk.injEq] at hs
      obtain ⟨e1, e2, e3, e4, e5⟩ := hs
      have hn : nx = pc + 3 := by simpa [mm_chk] using ck
      subst hn
      rw [Nat.add_sub_cancel_left] at hd
      obtain ⟨r, r1, r2, r3, r4, r5, r6⟩ := mk_nall _ (List.contains_iff_mem.mp h0.1)
      dsimp only at r1 r2 r3 r4 r5 r6
      obtain ⟨hc1, ⟨ty, hc2⟩, hc3⟩ := mm_cloall r (List.mem_of_getElem? r1)
      rw [← e4, List.length_append, List.length_singleton] at hcl
      rw [← e4, mk_slapp] at hsl
      dsimp only at hsl
      refine va_new (C := r.1) (T := r.2.1) (N := r.2.2) (fs := (mk_def aux).map mk_dv) hx hb hts hc1 ty hc2 hown (hts _ r2) (hts _ r3) (hts _ r4) hK hP hD hS hA r1 ?_ (by omega) (by omega) hd (fun q H1 hP1 hD1 hS1 => ?_)
      · intro j hj
        rw [mk_dvat (by rw [r6]; exact hj)]
        obtain ⟨f1, f2, f3, f4⟩ := mk_fkoall _ _ r1 j hj
        obtain ⟨g1, g2, g3, g4⟩ := mm_fkoall _ _ r1 j hj
        have hty := hc2 j hj
        rcases (show mm_fk aux j = 0 ∨ mm_fk aux j = 1 ∨ mm_fk aux j = 2 ∨ mm_fk aux j = 3 by omega) with h | h | h | h
        · rw [g1 h] at hty; rw [← Option.some.inj hty, h]; rfl
        · rw [g2 h] at hty; rw [← Option.some.inj hty, h]; rfl
        · rw [g3 h] at hty; rw [← Option.some.inj hty, h]; rfl
        · have hh := f3 h
          rw [hty] at hh
          simp only [Option.map_some, Option.some.injEq] at hh
          rw [h, if_neg (by omega)]
          cases hq : ty j <;> rw [hq] at hh <;> first | rfl | cases hh
      · exact hnew q _ _ _ st (pc + 3) r.2.2 H1 h0.2 rfl r6 (fun ad' => mk_defcel r5 (fun j => by simp [mk_rp])) e1.symm e2.symm e3.symm e4.symm e5.symm hP1 hD1 hS1
    · cases hs
  case newarray at_ =>
    cases at_
    case int =>
      simp only [mk_stp] at hs
      split at hs
      · next n r =>
        split at hs
        · next h0 =>
          simp only [Option.some.injEq, Prod.mk.injEq] at hs
          obtain ⟨e1, e2, e3, e4, e5⟩ := hs
          have hn : nx = pc + 2 := by simpa [mm_chk] using ck
          subst hn
          rw [Nat.add_sub_cancel_left] at hd
          rw [← e4, List.length_append, List.length_singleton] at hcl
          rw [← e4, mk_slapp] at hsl
          dsimp only at hsl
          refine va_newa (atype := .int) (ty := .int) (N' := n.toNatClampNeg) (a0 := (n.toNatClampNeg, .inl (fun _ => 0))) hx hb (hts _ mk_aci) rfl hK hP hD hS hA (fun cA => rfl) h0.1 rfl (by show n.toNatClampNeg * 4 ≤ _; omega) (by omega) (by omega) hd (fun q cA H1 hK1 hP1 hD1 hS1 => ?_)
          have hcA : cA = cy 0 := Option.some.inj ((show s.vm.findClass _ = some cA from (hK1.2 3 _ rfl).2).symm.trans (hK.2 0 _ rfl).2)
          subst hcA
          exact hnew q _ _ _ r (pc + 2) n.toNatClampNeg H1 h0.2.2 rfl rfl (fun ad' => by rw [mm_cel_int rfl]; simp [mk_rp]) e1.symm e2.symm e3.symm e4.symm e5.symm hP1 hD1 hS1
        · cases hs
      · cases hs
    all_goals cases hs
  case anewarray n =>
    simp only [mk_stp] at hs
    split at hs
    · next kk r =>
      split at hs
      · next h0 =>
        simp only [Option.some.injEq, Prod.mk.injEq] at hs
        obtain ⟨e1, e2, e3, e4, e5⟩ := hs
        have hn : nx = pc + 3 := by simpa [mm_chk] using ck
        subst hn
        rw [Nat.add_sub_cancel_left] at hd
        rw [← e4, List.length_append, List.length_singleton] at hcl
        rw [← e4, mk_slapp] at hsl
        dsimp only at hsl
        have hnul : ∀ ad' : Nat → Nat, (fun j => mm_rf ad' ((List.replicate kk.toNatClampNeg Value.null).getD j .null)) = fun _ => none := fun ad' => by
          funext j
          rw [List.getD_eq_getElem?_getD, List.getElem?_replicate]
          split <;> rfl
        have hm := List.contains_iff_mem.mp h0.2.2.1
        simp only [mk_AW, List.mem_cons, Prod.mk.injEq, List.not_mem_nil, or_false] at hm
        rcases hm with ⟨m1, m2, m3⟩ | ⟨m1, m2, m3⟩
        · subst m2; subst m3
          rw [m1] at hown
          refine va_newq (own := "ChairViews") (C := "ChairViews$Chair") (N' := kk.toNatClampNeg) hx hb hown (hts _ mk_aw1) hAO.1 hK hP hD hS hA h0.1 rfl (by omega) (by omega) (by omega) hd (fun q cA H1 hK1 hP1 hD1 hS1 => ?_)
          have hcA : cA = cy 1 := by
            obtain ⟨_, _, -, -, -, z1⟩ := (hK1.2 3 _ rfl).2
            obtain ⟨_, _, -, -, -, z2⟩ := (hK.2 1 _ rfl).2
            exact Option.some.inj (z1.symm.trans z2)
          subst hcA
          exact hnew q _ _ _ r (pc + 3) kk.toNatClampNeg H1 h0.2.2.2 rfl rfl (fun ad' => by rw [mm_cel_ref (Or.inl rfl)]; dsimp only; rw [hnul]) e1.symm e2.symm e3.symm e4.symm e5.symm hP1 hD1 hS1
        · subst m2; subst m3
          rw [m1] at hown
          refine va_newq (own := "ChairViews") (C := "ChairViews$Row") (N' := kk.toNatClampNeg) hx hb hown (hts _ mk_aw2) hAO.2 hK hP hD hS hA h0.1 rfl (by omega) (by omega) (by omega) hd (fun q cA H1 hK1 hP1 hD1 hS1 => ?_)
          have hcA : cA = cy 2 := by
            obtain ⟨_, _, -, -, -, z1⟩ := (hK1.2 3 _ rfl).2
            obtain ⟨_, _, -, -, -, z2⟩ := (hK.2 2 _ rfl).2
            exact Option.some.inj (z1.symm.trans z2)
          subst hcA
          exact hnew q _ _ _ r (pc + 3) kk.toNatClampNeg H1 h0.2.2.2 rfl rfl (fun ad' => by rw [mm_cel_ref (Or.inr rfl)]; dsimp only; rw [hnul]) e1.symm e2.symm e3.symm e4.symm e5.symm hP1 hD1 hS1
      · cases hs
    · cases hs
  case putfield n =>
    simp only [mk_stp] at hs
    simp only [mm_chk, Bool.and_eq_true, beq_iff_eq] at ck
    obtain ⟨hn, hv⟩ := ck
    subst hn
    rw [Nat.add_sub_cancel_left] at hd
    split at hs
    · next q a r =>
      split at hs
      · next cc hT =>
        split at hs
        · next h0 =>
          obtain ⟨h1, h2, h3, h4, h5, h6, h7⟩ := h0
          simp only [Option.some.injEq, Prod.mk.injEq] at hs
          obtain ⟨rfl, rfl, rfl, rfl, rfl⟩ := hs
          have hw := mm_w_at (cy := cy) (ad := ad) (I := I) hT
          rw [mm_cel_obj h1] at hw
          obtain ⟨ref, rr, f1, f2, f3, f4⟩ := mm_ffok hv h1 h2
          obtain ⟨hc1, ⟨ty, hc2⟩, hc3⟩ := mm_cloall rr (List.mem_of_getElem? f1)
          obtain ⟨g1, g2, g3, g4⟩ := mk_fkoall _ _ f1 _ f2
          have hsame : ∀ z, s.fieldFound? (rr.2.1 (aux % 100)).1 (rr.2.1 (aux % 100)).2.1 (rr.2.1 (aux % 100)).2.2.1 = some z → s.fieldFound? ref (rr.2.1 (aux % 100)).2.1 (rr.2.1 (aux % 100)).2.2.1 = some z := by
            rcases f4 with f4 | f4
            · rw [f4]; exact fun z h => h
            · exact fun z h => u_same (hts _ f4) z h
          have hlen : aux % 100 < (cc.2.2.mapIdx (fun j v => mm_fv ad I a j v)).length := by rw [List.length_mapIdx]; exact h6
          obtain ⟨tt, ht1, ht2⟩ : ∃ tt, parseFieldDescriptor (rr.2.1 (aux % 100)).2.2.1 = some tt ∧ mk_isr tt = true := by
            have hh := g3 h5
            cases hp : parseFieldDescriptor (rr.2.1 (aux % 100)).2.2.1 with
            | none => rw [hp] at hh; cases hh
            | some tt => rw [hp] at hh; exact ⟨tt, rfl, by simpa using hh⟩
          refine va_putF (ty := tt) (v := .ref (ad q)) hx hb hts hc1 ty hc2 hc3 hown hK hP hD hS a hw f1 (aux % 100) f2 (hts _ f3) hsame (g2 h3) (hinit h7) (by rw [g1, h2, ← h4]) ht1 (by cases tt <;> first | rfl | cases ht2) (by cases tt <;> first | rfl | cases ht2) hlen hd (fun H1 locs1 hP1 hD1 hS1 => ?_)
          have ew : mm_w cy ad (T.set a (cc.1, cc.2.1, cc.2.2.set (aux % 100) (.ref q))) I = (mm_w cy ad T I).set a (ad a, .inr (cc.1, (cc.2.2.mapIdx (fun j v => mm_fv ad I a j v)).set (aux % 100) (.ref (ad q)))) := by
            rw [mk_wset, mm_cel_obj (c := (cc.1, cc.2.1, cc.2.2.set (aux % 100) (.ref q))) h1]
            dsimp only
            rw [List.mapIdx_set]
            rfl
          rw [← ew] at hP1 hD1
          exact k ad cells slots lsR H1 locs1 mk_ag.rf (by simp) (by rw [mk_slset hT]) hL hP1 hD1 hS1
        · cases hs
      · cases hs
    · next x a r =>
      split at hs
      · next cc hT =>
        split at hs
        · next h0 =>
          obtain ⟨h1, h2, h3, h4, h5, h7⟩ := h0
          split at hs
          · next z hj =>
            simp only [Option.some.injEq, Prod.mk.injEq] at hs
            obtain ⟨rfl, rfl, rfl, rfl, rfl⟩ := hs
            have hw := mm_w_at (cy := cy) (ad := ad) (I := I) hT
            rw [mm_cel_obj h1] at hw
            obtain ⟨ref, rr, f1, f2, f3, f4⟩ := mm_ffok hv h1 h2
            obtain ⟨hc1, ⟨ty, hc2⟩, hc3⟩ := mm_cloall rr (List.mem_of_getElem? f1)
            obtain ⟨g1, g2, g3, g4⟩ := mk_fkoall _ _ f1 _ f2
            have hfk := mm_fkoall _ _ f1 _ f2
            have hsame : ∀ z, s.fieldFound? (rr.2.1 (aux % 100)).1 (rr.2.1 (aux % 100)).2.1 (rr.2.1 (aux % 100)).2.2.1 = some z → s.fieldFound? ref (rr.2.1 (aux % 100)).2.1 (rr.2.1 (aux % 100)).2.2.1 = some z := by
              rcases f4 with f4 | f4
              · rw [f4]; exact fun z h => h
              · exact fun z h => u_same (hts _ f4) z h
            have hlen : aux % 100 < (cc.2.2.mapIdx (fun j v => mm_fv ad I a j v)).length := by rw [List.length_mapIdx]; exact (List.getElem?_eq_some_iff.mp hj).1
            refine va_putF (ty := .int) (v := .int x) hx hb hts hc1 ty hc2 hc3 hown hK hP hD hS a hw f1 (aux % 100) f2 (hts _ f3) hsame (g2 h3) (hinit h7) (by rw [g1, h2, ← h4]) (hfk.1 h5) rfl rfl hlen hd (fun H1 locs1 hP1 hD1 hS1 => ?_)
            have ew := mm_w_set (cy := cy) (ad := ad) (J := mm_up I a (aux % 100) x) hT (mm_up_ne I a (aux % 100) x)
            rw [mm_cel_obj h1, ← mm_fs_set (ad := ad) (x := x) (w := .int x) hj (by simp [mm_fv, mm_up_same, upd])] at ew
            rw [ew] at hP1 hD1
            exact k ad cells slots lsR H1 locs1 mk_ag.rf rfl rfl hL hP1 hD1 hS1
          · cases hs
        · cases hs
      · cases hs
    · cases hs
  case aastore =>
    simp only [mk_stp] at hs
    split at hs
    · next q i a r =>
      split at hs
      · next cc dd hT hq =>
        split at hs
        · next h0 =>
          obtain ⟨h1, h2, h3⟩ := h0
          simp only [Option.some.injEq, Prod.mk.injEq] at hs
          obtain ⟨rfl, rfl, rfl, rfl, rfl⟩ := hs
          have hn : nx = pc + 1 := by simpa [mm_chk] using ck
          subst hn
          rw [Nat.add_sub_cancel_left] at hd
          have hw := mm_w_at (cy := cy) (ad := ad) (I := I) hT
          have hwq := mm_w_at (cy := cy) (ad := ad) (I := I) hq
          have h12 : cc.1 = 101 ∨ cc.1 = 102 := h1.elim (fun z => Or.inl z.1) (fun z => Or.inr z.1)
          rw [mm_cel_ref h12] at hw
          have ew : mm_w cy ad (T.set a (cc.1, cc.2.1, cc.2.2.set i.toNatClampNeg (.ref q))) I = (mm_w cy ad T I).set a (ad a, .inl (cy (cc.1 - 100), cc.2.1, .inr (.inr (.inr (.inr (va_up (fun j => mm_rf ad (cc.2.2.getD j .null)) i.toNatClampNeg (some (ad q)))))))) := by
            rw [mk_wset, mm_cel_ref (c := (cc.1, cc.2.1, cc.2.2.set i.toNatClampNeg (.ref q))) h12]
            dsimp only
            have ef : (fun j => mm_rf ad ((cc.2.2.set i.toNatClampNeg (.ref q)).getD j .null)) = va_up (fun j => mm_rf ad (cc.2.2.getD j .null)) i.toNatClampNeg (some (ad q)) := by
              funext j
              unfold va_up
              by_cases hj : j = i.toNatClampNeg
              · subst hj
                rw [if_pos rfl, List.getD_eq_getElem?_getD, List.getElem?_set_self h3]
                rfl
              · rw [if_neg hj]
                dsimp only
                rw [List.getD_eq_getElem?_getD, List.getElem?_set_ne (Ne.symm hj), List.getD_eq_getElem?_getD]
            rw [ef]
          have fin : ∀ (H1 : Heap) (locs1 : List Loc), va_P D vwCl ((mm_w cy ad T I).set a (ad a, .inl (cy (cc.1 - 100), cc.2.1, .inr (.inr (.inr (.inr (va_up (fun j => mm_rf ad (cc.2.2.getD j .null)) i.toNatClampNeg (some (ad q))))))))) H1 → va_D A ((mm_w cy ad T I).set a (ad a, .inl (cy (cc.1 - 100), cc.2.1, .inr (.inr (.inr (.inr (va_up (fun j => mm_rf ad (cc.2.2.getD j .null)) i.toNatClampNeg (some (ad q))))))))) → va_S A s.heap H1 locs1 → W p l e R s m args below meth c H1 locs1 cells slots Q (F0 m (pc + 1) lsR (List.map (mm_tr ad) r)) := fun H1 locs1 hP1 hD1 hS1 => by
            rw [← ew] at hP1 hD1
            exact k ad cells slots lsR H1 locs1 mk_ag.rf (by simp) (by rw [mk_slset hT]) hL hP1 hD1 hS1
          rcases h1 with ⟨h1, h4⟩ | ⟨h1, h4⟩
          · have hch := List.contains_iff_mem.mp h4
            have hd13 : dd.1 < 13 := by
              simp only [mk_CH, List.mem_cons, List.not_mem_nil, or_false] at hch
              omega
            rw [mm_cel_obj hd13] at hwq
            obtain ⟨rr, hrr⟩ : ∃ rr, vwCl[dd.1]? = some rr := ⟨_, List.getElem?_eq_getElem (show dd.1 < vwCl.length from hd13)⟩
            exact va_astqM (E := "ChairViews$Chair") hx hb hK hP hD hS a 1 hw (by rw [h1]; rfl) (va_rAny hK hP hwq hrr (mk_asg hts hch hrr)) h2 hd fin
          · rw [mm_cel_obj (show dd.1 < 13 by omega), h4] at hwq
            exact va_astqM (E := "ChairViews$Row") hx hb hK hP hD hS a 2 hw (by rw [h1]; rfl) (va_rAny (r := (RX7, TX7, 3)) hK hP hwq rfl (fun comp c0 => vb_asgS comp c0)) h2 hd fin
        · cases hs
      · cases hs
    · cases hs
  case invokespecial n =>
    simp only [mk_stp] at hs
    split at hs
    · next h0 =>
      split at hs
      · next a r =>
        split at hs
        · next h1 =>
          simp only [Option.some.injEq, Prod.mk.injEq] at hs
          obtain ⟨rfl, rfl, rfl, rfl, rfl⟩ := hs
          have hn : nx = pc + 3 := by
            simp only [mm_chk, Bool.and_eq_true, beq_iff_eq] at ck
            exact ck.1
          subst hn
          rw [Nat.add_sub_cancel_left] at hd
          have h8 : ((r.map (mm_tr ad)).map fun v => v.category).sum ≤ 8 := by rw [mm_catsum]; exact h1
          exact W.objInit hx hb hown (hts _ (mk_oall _ (List.contains_iff_mem.mp h0.2))) (hts _ mk_oi1) (hts _ mk_oi2) rfl (by rw [hml]; exact hL.1) rfl hd (by omega) (Nat.le_trans (Nat.add_le_add_right (lv_room h8) 12) (by omega)) (k ad cells slots lsR H locs mk_ag.rf rfl rfl hL hP hD hS)
        · cases hs
      · cases hs
    · cases hs
  all_goals (exfalso; simp [mk_stp] at hs)
end MKW
