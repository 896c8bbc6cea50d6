/-! CALLS, AND THE WHOLE RUN -/
def mm_ws (q : mm_ME) : List Cond := Cond.code q.1 q.2.1 q.2.2.1 q.2.2.2 :: lw_g
def mm_rm (d : Nat) : Room := { frames := d + 1, cells := 0, slots := 0, locals := 40 * (d + 1) }
def mm_Pc (D : va_G) (cy : Nat → ClassId) (ad : Nat → Nat) (T : List mm_C) (I : mm_I) (sz : Nat) (as : List Value) : Array Value → State → Prop :=
  va_Pc (as.map (mm_tr ad)) (fun U => U.heap.size = sz ∧ va_P D vwCl (mm_w cy ad T I) U.heap ∧ va_K D vwCl (mm_ty cy) U ∧ va_D (fun _ => True) (mm_w cy ad T I) ∧ mm_Old ad (va_A (mm_w cy ad T I) sz) U U.heap)
def mm_Qc (D : va_G) (cy : Nat → ClassId) (ad : Nat → Nat) (T : List mm_C) (J : mm_I) (r : Option Value) (A : Nat → Prop) : Array Value → State → Outcome → State → Prop :=
  fun _ st o t => (o = .returned (r.map (mm_tr ad)) ∧ va_P D vwCl (mm_w cy ad T J) t.heap) ∧ va_F A st t
theorem mm_good : ∀ w ∈ lw_g, w ∈ lw_g ∧ ((w.onTables && w.keeps) = true ∨ ∃ ty, w = .arrayClass ty) := fun _ h => ⟨h, good_of_word (List.mem_filter.mp h).2⟩
theorem mm_goodws {q : mm_ME} (h : Cond.code q.1 q.2.1 q.2.2.1 q.2.2.2 ∈ lw_g) : GoodIn lw_g (mm_ws q) := fun w hw => by
  rcases List.mem_cons.mp hw with rfl | hw
  · exact mm_good _ h
  · exact mm_good _ hw
theorem mm_goodapp {q : mm_ME} (h : Cond.code q.1 q.2.1 q.2.2.1 q.2.2.2 ∈ lw_g) {l : List Cond} (hl : ∀ w ∈ l, w ∈ lw_g) : GoodIn lw_g (l ++ mm_ws q) := fun w hw => (List.mem_append.mp hw).elim (fun h => mm_good _ (hl w h)) (mm_goodws h w)
theorem mm_ml_le (y : Nat) : mm_ml y ≤ 9 := by
  have h : mm_L.all (fun n => decide (n ≤ 9)) = true := by decide +kernel
  unfold mm_ml
  rw [List.getD_eq_getElem?_getD]
  cases h1 : mm_L[y]? with
  | none => simp
  | some n => exact of_decide_eq_true (List.all_eq_true.mp h n (List.mem_of_getElem? h1))
theorem mm_D_any {A : Nat → Prop} {cy : Nat → ClassId} {ad : Nat → Nat} {T : List mm_C} {I J : mm_I} (h : va_D A (mm_w cy ad T I)) : va_D A (mm_w cy ad T J) := by
  have key : ∀ (i : Nat) (p : Nat × va_E), (mm_w cy ad T J)[i]? = some p → ∃ p' : Nat × va_E, (mm_w cy ad T I)[i]? = some p' ∧ p'.1 = p.1 := by
    intro i p h1
    cases hT : T[i]? with
    | none => simp [mm_w, List.getElem?_mapIdx, hT] at h1
    | some c =>
      rw [mm_w_at hT] at h1
      cases h1
      exact ⟨_, mm_w_at hT, rfl⟩
  refine ⟨fun i j p q h1 h2 h3 => ?_, fun k q hk => ?_⟩
  · obtain ⟨p', hp, e1⟩ := key i p h1
    obtain ⟨q', hq, e2⟩ := key j q h2
    exact h.1 i j p' q' hp hq (by rw [e1, e2, h3])
  · obtain ⟨q', hq, e⟩ := key k q hk
    rw [← e]
    exact h.2 k q' hq
theorem mm_sub {A : Nat → Prop} {H0 H : Heap} {locs : List Loc} {ws : va_W} (hD : va_D A ws) (hS : va_S A H0 H locs) (hA : ∀ q, H0.size ≤ q → A q) : ∀ q, va_A ws H.size q → A q := by
  intro q h
  rcases h with ⟨k, e, h⟩ | h
  · exact hD.2 k _ h
  · exact hA q (Nat.le_trans hS.1 h)
theorem mm_blind (D : va_G) (cy : Nat → ClassId) (ad : Nat → Nat) (T : List mm_C) (I : mm_I) (sz : Nat) (as : List Value) : FrameBlind (mm_Pc D cy ad T I sz as) := fun a U g mk q => by
  obtain ⟨q0, q1, qP, qK, qD, qO⟩ := q
  exact ⟨q0, q1, qP, va_K.moved (u := U) (U := U.calling g mk a) (Vm.Alike.refl U.vm) qK, qD, mm_Old.same (u := U) (U := U.calling g mk a) rfl qO⟩
-- the locals at an entry
theorem mm_sl_len (ad : Nat → Nat) (as : List Value) : (lg_sl (as.map (mm_tr ad))).length = (mm_sl as).length := by
  induction as with
  | nil => rfl
  | cons v as ih =>
    have e : lg_sl ((v :: as).map (mm_tr ad)) = (if (mm_tr ad v).category = 2 then [.val (mm_tr ad v), .second] else [.val (mm_tr ad v)]) ++ lg_sl (as.map (mm_tr ad)) := rfl
    rw [e, mm_tr_cat]
    unfold mm_sl
    by_cases h : v.category = 2
    · simp [h, ih]
    · simp [h, ih]
theorem mm_args_mem (ad : Nat → Nat) : ∀ (as : List Value) (i0 i : Nat) (v : Value), (mm_sl as)[i]? = some v → v ≠ .retAddr 0 → (i0 + i, mm_tr ad v) ∈ lv_args i0 (as.map (mm_tr ad)) := by
  intro as
  induction as with
  | nil => intro i0 i v h; simp [mm_sl] at h
  | cons a as ih =>
    intro i0 i v h hv
    have e : lv_args i0 ((a :: as).map (mm_tr ad)) = (i0, mm_tr ad a) :: lv_args (if (mm_tr ad a).category = 2 then i0 + 2 else i0 + 1) (as.map (mm_tr ad)) := rfl
    rw [e, mm_tr_cat]
    unfold mm_sl at h
    by_cases hc : a.category = 2
    · rw [if_pos hc] at h ⊢
      match i, h with
      | 0, h => simp at h; subst h; simp
      | 1, h => simp at h; exact absurd h.symm hv
      | i + 2, h =>
        have h2 : (mm_sl as)[i]? = some v := by simpa using h
        have h3 := ih (i0 + 2) i v h2 hv
        rw [show i0 + 2 + i = i0 + (i + 2) by omega] at h3
        exact List.mem_cons_of_mem _ h3
    · rw [if_neg hc] at h ⊢
      match i, h with
      | 0, h => simp at h; subst h; simp
      | i + 1, h =>
        have h2 : (mm_sl as)[i]? = some v := by simpa using h
        have h3 := ih (i0 + 1) i v h2 hv
        rw [show i0 + 1 + i = i0 + (i + 1) by omega] at h3
        exact List.mem_cons_of_mem _ h3
theorem mm_LR_entry {ad : Nat → Nat} {y : Nat} {as : List Value} (h : (mm_sl as).length ≤ mm_ml y) : mm_LR ad ((lg_sl (as.map (mm_tr ad)) ++ List.replicate (mm_ml y - (lg_sl (as.map (mm_tr ad))).length) Slot.unset).toArray) (mm_ml y) (mm_ent y as) := by
  have h1 : (lg_sl (as.map (mm_tr ad))).length ≤ mm_ml y := by rw [mm_sl_len]; exact h
  obtain ⟨e1, e2, e3⟩ := lv_entry (as.map (mm_tr ad)) h1
  refine ⟨e1, e2, ?_, fun i v hi hv => ?_⟩
  · unfold mm_ent
    simp
    omega
  · unfold mm_ent at hi
    by_cases hl : i < (mm_sl as).length
    · rw [List.getElem?_append_left hl] at hi
      have h3 := mm_args_mem ad as 0 i v hi hv
      rw [Nat.zero_add] at h3
      exact e3 (i, mm_tr ad v) h3
    · rw [List.getElem?_append_right (by omega)] at hi
      rw [List.getElem?_replicate] at hi
      split at hi
      · cases hi; exact absurd rfl hv
      · cases hi
theorem mm_call_inv {T : List mm_C} {en : mm_E} {st as rest : List Value} {y : Nat} (h : mm_call T en st = some (y, as, rest)) : ∃ na kd tg, mm_CS[en.2.2.1]? = some (na, kd, tg) ∧ na ≤ st.length ∧ ((st.drop na).map Value.category).sum ≤ 8 ∧ mm_pick T kd tg as = some y ∧ (mm_sl as).length ≤ mm_ml y ∧ as = (st.take na).reverse ∧ rest = st.drop na ∧ ∃ i, en.1 = .invokestatic i ∨ en.1 = .invokevirtual i ∨ en.1 = .invokespecial i := by
  have main : ∀ (hh : (match mm_CS[en.2.2.1]? with
    | some (na, kd, tg) => if na ≤ st.length && ((st.drop na).map Value.category).sum ≤ 8 then (match mm_pick T kd tg (st.take na).reverse with
      | some y => if (mm_sl (st.take na).reverse).length ≤ mm_ml y then some (y, (st.take na).reverse, st.drop na) else none
      | none => none) else none
    | none => none) = some (y, as, rest)), ∃ na kd tg, mm_CS[en.2.2.1]? = some (na, kd, tg) ∧ na ≤ st.length ∧ ((st.drop na).map Value.category).sum ≤ 8 ∧ mm_pick T kd tg as = some y ∧ (mm_sl as).length ≤ mm_ml y ∧ as = (st.take na).reverse ∧ rest = st.drop na := by
    intro hh
    cases hcs : mm_CS[en.2.2.1]? with
    | none => rw [hcs] at hh; cases hh
    | some w =>
      obtain ⟨na, kd, tg⟩ := w
      rw [hcs] at hh
      dsimp only at hh
      split at hh
      · next hif =>
        cases hp : mm_pick T kd tg (st.take na).reverse with
        | none => rw [hp] at hh; cases hh
        | some z =>
          rw [hp] at hh
          dsimp only at hh
          split at hh
          · next hf =>
            simp only [Option.some.injEq, Prod.mk.injEq] at hh
            obtain ⟨rfl, rfl, rfl⟩ := hh
            simp only [Bool.and_eq_true, decide_eq_true_eq] at hif
            exact ⟨na, kd, tg, rfl, hif.1, hif.2, hp, hf, rfl, rfl⟩
          · cases hh
      · cases hh
  obtain ⟨op, nx, aux, vv⟩ := en
  cases op
  case invokestatic i =>
    obtain ⟨na, kd, tg, h1, h2, h3, h4, h5, h6, h7⟩ := main h
    exact ⟨na, kd, tg, h1, h2, h3, h4, h5, h6, h7, i, Or.inl rfl⟩
  case invokevirtual i =>
    obtain ⟨na, kd, tg, h1, h2, h3, h4, h5, h6, h7⟩ := main h
    exact ⟨na, kd, tg, h1, h2, h3, h4, h5, h6, h7, i, Or.inr (Or.inl rfl)⟩
  case invokespecial i =>
    obtain ⟨na, kd, tg, h1, h2, h3, h4, h5, h6, h7⟩ := main h
    exact ⟨na, kd, tg, h1, h2, h3, h4, h5, h6, h7, i, Or.inr (Or.inr rfl)⟩
  all_goals (simp [mm_call] at h)
theorem mm_lookup_mem {tg : List (Nat × Nat)} {k y : Nat} (h : tg.lookup k = some y) : (k, y) ∈ tg := by
  induction tg with
  | nil => cases h
  | cons a l ih =>
    rw [List.lookup_cons] at h
    split at h
    · next hb =>
      cases h
      have : k = a.1 := by simpa using hb
      rw [this]
      exact List.mem_cons_self
    · exact List.mem_cons_of_mem _ (ih h)
theorem mm_ct_inv {o i aux na kd : Nat} {tg : List (Nat × Nat)} {ks : List Nat} (h : mm_ct o i aux ks = true) (hc : mm_CS[aux]? = some (na, kd, tg)) : mm_sok (o, i, na, kd, tg) ∧ kd ∈ ks := by
  unfold mm_ct at h
  cases hz : mm_CZ[aux]? with
  | none => rw [hz] at h; cases h
  | some q =>
    rw [hz] at h
    simp only [Bool.and_eq_true, beq_iff_eq] at h
    rw [mm_csz, List.getElem?_map, hz] at hc
    simp only [Option.map_some, Option.some.injEq] at hc
    obtain ⟨o', i', q2⟩ := q
    dsimp only at h hc
    obtain ⟨⟨rfl, rfl⟩, h3⟩ := h
    subst hc
    exact ⟨mm_sall _ (List.mem_of_getElem? hz), List.contains_iff_mem.mp h3⟩
theorem mm_cs_small {aux : Nat} {w : Nat × Nat × List (Nat × Nat)} (h : mm_CS[aux]? = some w) : aux < 9000 := by
  have h1 := (List.getElem?_eq_some_iff.mp h).1
  have h2 : mm_CS.length < 9000 := by decide +kernel
  omega
theorem mm_cn_vw : ∀ (ci : Nat) (r : vw_C), vwCl[ci]? = some r → r.1 = mm_cn ci
  | 0, _, h => by cases h; rfl
  | 1, _, h => by cases h; rfl
  | 2, _, h => by cases h; rfl
  | 3, _, h => by cases h; rfl
  | 4, _, h => by cases h; rfl
  | 5, _, h => by cases h; rfl
  | 6, _, h => by cases h; rfl
  | 7, _, h => by cases h; rfl
  | 8, _, h => by cases h; rfl
  | 9, _, h => by cases h; rfl
  | 10, _, h => by cases h; rfl
  | 11, _, h => by cases h; rfl
  | 12, _, h => by cases h; rfl
  | k + 13, _, h => by simp [vwCl] at h
section SUP
variable {p : Program} {l : Launch} {e : Env} {R : Room} {s : State} {m : MethodId} {args : Array Value} {below : List Frame} {meth : Method} {c : Code} {H : Heap} {locs : List Loc} {cells slots : Nat}
theorem mm_callSU {T : State} {locs : List Loc} {cells slots : Nat} (X : Stand p l e R s m args below meth c T locs cells slots) (hexec : p.tables.exec = Jvm.exec) {own : String} {index : Nat} {x y : MethodName} {bytes : ByteArray} {maxL : Nat} {ret : Option FieldType}
    (hown : s.vm.findClass own = some m.cls) (hlink : (Cond.methodLink own index x).before args s = true) (hsame : (Cond.sameMethod x.cls y.cls x.name x.desc).before args s = true) (hsup : (Cond.superclass own x.cls).before args s = true) (hup : x.cls = y.cls ∨ (Cond.superclass x.cls y.cls).before args s = true) (hyx : y = ⟨y.cls, x.name, x.desc⟩)
    (hinst : (Cond.instanceMethod y).before args s = true) (hcode : (Cond.code y bytes maxL ret).before args s = true) (hno : x.name ≠ "<init>")
    {W : Nat} {Pre : Pt → Array Value → Prop} {Post : Pt → Array Value → Option Value → Pt → Prop} (hK : Back l R p e below s args y 3 W Pre Post)
    {b : Addr} {cellB : Cell} {kB : Class} (hcell : T.heap[b]? = some cellB) (hobj : cellB.vm.isStatics = false) (hkB : s.vm.classes[cellB.cls]? = some kB)
    {g : JFrame} (hg : g.method = m) (hsize : g.locals.size = c.maxLocals) {argsL rest : List Value} (hlen : ∀ sig, parseMethodDescriptor y.desc = some sig → argsL.length = sig.parameters.length)
    (hstack : g.stack = argsL.reverse ++ .ref b :: rest) (hW : 2 * g.monitorRoom + (rest.map fun v => v.category).sum ≤ W) (hdg : decode c.code g.pc = .ok (.invokespecial index, 3))
    (hpre : ∀ vm₁, s.WarmedH vm₁ → Pre ⟨T.setVm vm₁, locs, cells, slots⟩ (Value.ref b :: argsL).toArray) :
    ∃ (v : Option Value) (vm₁ : Vm) (B : Pt), s.WarmedH vm₁ ∧ Stand p l e R s m args below meth c B.U B.locs B.cells B.slots ∧ Post ⟨T.setVm vm₁, locs, cells, slots⟩ (Value.ref b :: argsL).toArray v B ∧
      ∀ target, Steps p.tables e below (B.U.setTop { g with pc := g.pc + 3, stack := v.toList ++ rest }) target → Steps p.tables e below (T.setTop g) target := by
  obtain ⟨mk, methM, hnamed, hmethM, hstM, habM⟩ := Cond.instanceMethod_spec hinst
  obtain ⟨methM', cM, hmethM', -, -, -, -, -, -, hsigM⟩ := Cond.code_spec hnamed hcode
  cases hmethM.symm.trans hmethM'
  obtain ⟨ps, dk, kp, hps, hdk, hkp, hsuper, -, -, hnid⟩ := Cond.superclass_spec hown hsup
  have hn : s.methodNamed? ⟨y.cls, x.name, x.desc⟩ = some mk := by rw [← hyx]; exact hnamed
  have hym := findClass_of_methodNamed hnamed
  have hsub : s.vm.isSubclass ps mk.cls = true := by
    rcases hup with hup | hup
    · rw [hup] at hps
      have hpm : ps = mk.cls := Option.some.inj (hps.symm.trans hym)
      rw [hpm]
      simp [Vm.isSubclass, Vm.isSubclassAux]
    · obtain ⟨ps2, dk2, kp2, hps2, hdk2, hkp2, hsuper2, -, -, -⟩ := Cond.superclass_spec hps hup
      have hpm : ps2 = mk.cls := Option.some.inj (hps2.symm.trans hym)
      have hsz : ps < s.vm.classes.size := (Array.getElem?_eq_some_iff.mp hdk2).1
      obtain ⟨n, hn2⟩ : ∃ n, s.vm.classes.size = n + 1 := ⟨s.vm.classes.size - 1, (Nat.succ_pred_eq_of_pos (Nat.lt_of_le_of_lt (Nat.zero_le _) hsz)).symm⟩
      simp only [Vm.isSubclass, hn2, Vm.isSubclassAux, hdk2, hsuper2, hpm]
      simp
  obtain ⟨vm₁, X₁, hstep₁⟩ := X.invokespecialUp hexec hown hlink hsame hn hmethM hstM habM hno hdk hnid hps hsuper hsub (a := b) (cell := cellB) hcell
    (fun z h => by rw [h] at hobj; cases hobj) hkB (g := g) hg (argsL := argsL) (rest := rest) (hlen _ hsigM) hstack hdg
  obtain ⟨v, B, X', hpost, hsteps⟩ := hK m meth c ⟨T.setVm vm₁, locs, cells, slots⟩ { g with stack := rest } (.invokespecial index) mk (Value.ref b :: argsL).toArray X₁ hg hsize hdg hW (X₁.named hnamed) (hpre vm₁ X₁.warmed)
  exact ⟨v, vm₁, B, X₁.warmed, X', hpost, fun target h => hstep₁ _ (by rw [doInvoke_state]; exact hsteps.trans h)⟩
theorem mm_runSU {x y : MethodName} {bytes cc : ByteArray} {maxL nL mc ms index : Nat} {ret : Option FieldType} {ws ws' : List Cond} {rm : Room} {Pc : Array Value → State → Prop} {Qc : Array Value → State → Outcome → State → Prop} {free : Addr → Prop} {Ts : List Cond} {own C : String} {cC : ClassId} {b : Addr} {As rest : List Value} {g : JFrame}
    (hat : ClassAt s C cC) (S : CallFix p m c cc nL s args Ts own) (hM : Met l y ws rm Pc Qc mc ms free) (hG : GoodIn Ts ws) (hw : ws = Cond.code y bytes maxL ret :: ws') (hrc : rm.cells = mc) (hrs : rm.slots = ms)
    (hlink : (Cond.methodLink own index x).before args s = true) (hsame : (Cond.sameMethod x.cls y.cls x.name x.desc).before args s = true) (hsup : (Cond.superclass own x.cls).before args s = true) (hup : x.cls = y.cls ∨ (Cond.superclass x.cls y.cls).before args s = true) (hyx : y = ⟨y.cls, x.name, x.desc⟩) (hinst : (Cond.instanceMethod y).before args s = true) (hini : (Cond.initialized y.cls).before args s = true) (hno : x.name ≠ "<init>")
    (hd : (parseMethodDescriptor y.desc).map (fun d => d.parameters.length) = some As.length) (hR : rm.frames + 1 ≤ R.frames ∧ 8 + (maxL + 11) + rm.locals ≤ R.locals) (hp : PreV s H C b Pc As)
    (hg : g.method = m) (hsize : g.locals.size = nL) (hstack : g.stack = As.reverse ++ .ref b :: rest) (hW : 2 * g.monitorRoom + (rest.map fun v => v.category).sum ≤ 8) (hdg : decode cc g.pc = .ok (.invokespecial index, 3)) (hf : cells + mc ≤ R.cells ∧ slots + ms ≤ R.slots) :
    va_Run p l e R s m args below meth c H locs cells slots mc ms g rest (Qc (Value.ref b :: As).toArray) (free) := by
  have ht := S.2.2.2.2
  have hc : Cond.code y bytes maxL ret ∈ ws := by rw [hw]; exact List.mem_cons_self
  have hcode := ht _ (hG _ hc).1
  have hK : Back l R p e below s args y 3 8 (PreOf R mc ms Pc) (PostOf Qc mc ms free) := back_of (bytes := bytes) (maxL := maxL) (ret := ret) hM hp.1 hrc hrs hR.1 hR.2 (pay_in ht hG) hc (fun a' U hW => word_at hW (Or.inl (by first | rfl | simp [Cond.onTables, Cond.keeps, Cond.steady])) hini)
  obtain ⟨hx, hb, hml, ho, -⟩ := S
  obtain ⟨-, ⟨cellB, hcB, hoB, hclB⟩, hPc⟩ := hp
  obtain ⟨hfc, kB, hkB, -⟩ := hat
  cases hfc.symm.trans hclB
  intro T hT X
  obtain ⟨v, vm₁, ⟨U', l2, c2, s2⟩, hW₁, X', ⟨g', mk, t, L, e1, e2, hq, h1, hL, h2, h3⟩, st⟩ := mm_callSU X hx (bytes := bytes) (maxL := maxL) (ret := ret) ho hlink hsame hsup hup hyx hinst hcode hno hK (by rw [hT]; exact hcB) hoB hkB hg (hsize.trans hml.symm) (argsL := As) (rest := rest) (fun sig h => by rw [h] at hd; exact (Option.some.inj hd).symm) hstack hW (by rw [hb]; exact hdg)
    (fun vm₁ hW₁ => ⟨hf.1, hf.2, hPc (T.setVm vm₁) hT hW₁⟩)
  dsimp only [Pt.U, Pt.locs, Pt.cells, Pt.slots] at X' e1 e2 h1 h2 h3 st
  subst h1; subst h2; subst h3
  exact ⟨v, (T.setVm vm₁).calling g' mk (Value.ref b :: As).toArray, t, U', L, hT, X', hL, e1, e2, hq, st⟩
end SUP
