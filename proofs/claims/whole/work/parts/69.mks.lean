/-! THE MAKING MACHINE'S RUN IS THE LARGE ONE'S -/
theorem mk_stp_mono {mid : Nat} {en : mm_E} {ls st : List Value} {T : List mm_C} {I : mm_I} {pc' : Nat} {ls' st' : List Value} {T' : List mm_C} {I' : mm_I} (hs : mk_stp mid en ls st T I = some (pc', ls', st', T', I')) : T.length ≤ T'.length ∧ mk_sl T ≤ mk_sl T' := by
  obtain ⟨op, nx, aux, vv⟩ := en
  cases op
  case new n =>
    simp only [mk_stp] at hs
    split at hs
    · simp only [Option.some.injEq, Prod.mk.injEq] at hs
      obtain ⟨rfl, rfl, rfl, rfl, rfl⟩ := hs
      rw [mk_slapp, List.length_append]
      omega
    · cases hs
  case newarray a =>
    cases a
    case int =>
      simp only [mk_stp] at hs
      split at hs
      · split at hs
        · simp only [Option.some.injEq, Prod.mk.injEq] at hs
          obtain ⟨rfl, rfl, rfl, rfl, rfl⟩ := hs
          rw [mk_slapp, List.length_append]
          omega
        · cases hs
      · cases hs
    all_goals cases hs
  case anewarray n =>
    simp only [mk_stp] at hs
    split at hs
    · split at hs
      · simp only [Option.some.injEq, Prod.mk.injEq] at hs
        obtain ⟨rfl, rfl, rfl, rfl, rfl⟩ := hs
        rw [mk_slapp, List.length_append]
        omega
      · cases hs
    · cases hs
  case putfield n =>
    simp only [mk_stp] at hs
    split at hs
    · split at hs
      · next cc hT =>
        split at hs
        · simp only [Option.some.injEq, Prod.mk.injEq] at hs
          obtain ⟨rfl, rfl, rfl, rfl, rfl⟩ := hs
          rw [mk_slset hT, List.length_set]
          omega
        · cases hs
      · cases hs
    · split at hs
      · split at hs
        · split at hs
          · simp only [Option.some.injEq, Prod.mk.injEq] at hs
            obtain ⟨rfl, rfl, rfl, rfl, rfl⟩ := hs
            omega
          · cases hs
        · cases hs
      · cases hs
    · cases hs
  case aastore =>
    simp only [mk_stp] at hs
    split at hs
    · split at hs
      · next cc dd hT hq =>
        split at hs
        · simp only [Option.some.injEq, Prod.mk.injEq] at hs
          obtain ⟨rfl, rfl, rfl, rfl, rfl⟩ := hs
          rw [mk_slset hT, List.length_set]
          omega
        · cases hs
      · cases hs
    · cases hs
  case invokespecial n =>
    simp only [mk_stp] at hs
    split at hs
    · split at hs
      · split at hs
        · simp only [Option.some.injEq, Prod.mk.injEq] at hs
          obtain ⟨rfl, rfl, rfl, rfl, rfl⟩ := hs
          omega
        · cases hs
      · cases hs
    · cases hs
  all_goals (exfalso; simp [mk_stp] at hs)
theorem mk_mono : ∀ (n d mid pc : Nat) (ls st : List Value) (T : List mm_C) (I : mm_I) (pc' : Nat) (ls' st' : List Value) (T' : List mm_C) (I' : mm_I), mk_run n d mid pc ls st T I = some (pc', ls', st', T', I') → T.length ≤ T'.length ∧ mk_sl T ≤ mk_sl T' := by
  intro n
  induction n with
  | zero => intro d mid pc ls st T I pc' ls' st' T' I' h; cases h
  | succ n ih =>
    intro d mid pc ls st T I pc' ls' st' T' I' h
    rw [mk_run] at h
    by_cases hst : mk_stop mid pc st = true
    · rw [if_pos hst] at h; cases h; omega
    rw [if_neg hst] at h
    cases h1 : mm_at mid pc with
    | none => rw [h1] at h; cases h
    | some en =>
      rw [h1] at h
      dsimp only at h
      cases h2 : mk_call mid en st with
      | some w =>
        obtain ⟨y, b, as, rest⟩ := w
        rw [h2] at h
        dsimp only at h
        cases d with
        | zero => cases h
        | succ d =>
          dsimp only at h
          split at h
          · cases h4 : mk_run n d y 0 (mm_ent y (.ref b :: as)) [] T I with
            | none => rw [h4] at h; cases h
            | some w =>
              obtain ⟨p1, l1, s1, T1, I1⟩ := w
              rw [h4] at h
              dsimp only at h
              have a1 := ih _ _ _ _ _ _ _ _ _ _ _ _ h4
              have a2 := ih _ _ _ _ _ _ _ _ _ _ _ _ h
              omega
          · cases h
      | none =>
        rw [h2] at h
        dsimp only at h
        cases h3 : mk_stp mid en ls st T I with
        | some w =>
          obtain ⟨p1, l1, s1, T1, I1⟩ := w
          rw [h3] at h
          dsimp only at h
          have a1 := mk_stp_mono h3
          have a2 := ih _ _ _ _ _ _ _ _ _ _ _ _ h
          omega
        | none =>
          rw [h3] at h
          dsimp only at h
          cases h5 : mm_call T en st with
          | some w =>
            obtain ⟨y, as, rest⟩ := w
            rw [h5] at h
            dsimp only at h
            cases d with
            | zero => cases h
            | succ d =>
              dsimp only at h
              cases h4 : mm_run T mk_x0 n d y 0 (mm_ent y as) [] I with
              | none => rw [h4] at h; cases h
              | some w =>
                obtain ⟨r1, I1⟩ := w
                rw [h4] at h
                dsimp only at h
                exact ih _ _ _ _ _ _ _ _ _ _ _ _ h
          | none =>
            rw [h5] at h
            dsimp only at h
            split at h
            · cases h
            · cases h6 : mm_stp T mk_x0 mid en pc ls st I with
              | none => rw [h6] at h; cases h
              | some w =>
                obtain ⟨p1, l1, s1, I1⟩ := w
                rw [h6] at h
                dsimp only at h
                exact ih _ _ _ _ _ _ _ _ _ _ _ _ h
theorem mk_stpX {T : List mm_C} {X Y : Nat × (Nat → Int32)} {mid pc : Nat} {en : mm_E} {ls st : List Value} {I : mm_I} (h : ¬ mk_isX en.1 = true) : mm_stp T X mid en pc ls st I = mm_stp T Y mid en pc ls st I := by
  obtain ⟨op, nx, aux, vv⟩ := en
  cases op <;> first | rfl | (exact absurd rfl h)
theorem mk_call_inv {mid : Nat} {en : mm_E} {st as rest : List Value} {y b : Nat} (h : mk_call mid en st = some (y, b, as, rest)) : ∃ n na, en.1 = .invokespecial n ∧ mk_IS.contains (mm_own mid, n, y, na) = true ∧ as.length + 1 = na ∧ st = as.reverse ++ .ref b :: rest ∧ (rest.map Value.category).sum ≤ 8 ∧ (mm_sl (.ref b :: as)).length ≤ mm_ml y := by
  obtain ⟨op, nx, aux, vv⟩ := en
  cases op
  case invokespecial n =>
    simp only [mk_call] at h
    split at h
    · next na kd tg hcs =>
      split at h
      · next h0 =>
        split at h
        · next y' hy =>
          split at h
          · next h1 =>
            split at h
            · next b' as' hb =>
              simp only [Option.some.injEq, Prod.mk.injEq] at h
              obtain ⟨rfl, rfl, rfl, rfl⟩ := h
              have e1 : st.take na = as'.reverse ++ [.ref b'] := by
                have := congrArg List.reverse hb
                simpa using this
              have e2 : (st.take na).length = na := by rw [List.length_take]; omega
              refine ⟨n, na, rfl, h1.2, ?_, ?_, h0.2.2, by rw [← hb]; exact h1.1⟩
              · rw [e1] at e2; simpa using e2
              · exact (List.take_append_drop na st).symm.trans (by rw [e1]; simp)
            · cases h
          · cases h
        · cases h
      · cases h
    · cases h
  all_goals (exfalso; simp [mk_call] at h)
def mk_rm (d mc ms : Nat) : Room := { frames := d + 1, cells := mc, slots := ms, locals := 40 * (d + 1) }
def mk_Pc (D : va_G) (cy : Nat → ClassId) (ad : Nat → Nat) (T : List mm_C) (I : mm_I) (sz : Nat) (as : List Value) : Array Value → State → Prop :=
  va_Pc (as.map (mm_tr ad)) (fun U => U.heap.size = sz ∧ va_P D vwCl (mm_w cy ad T I) U.heap ∧ va_K D vwCl (mm_ty cy) U ∧ va_D (fun _ => True) (mm_w cy ad T I) ∧ mm_Old ad (va_A (mm_w cy ad T I) sz) U U.heap ∧ mk_AO U)
abbrev mk_Qc (D : va_G) (cy : Nat → ClassId) (ad : Nat → Nat) (T : List mm_C) (I : mm_I) (T' : List mm_C) (I' : mm_I) (sz : Nat) : Array Value → State → Outcome → State → Prop :=
  va_Qv (fun ad' => mk_ag ad ad' T.length) (fun ad' t => va_P D vwCl (mm_w cy ad' T' I') t.heap ∧ va_D (va_A (mm_w cy ad T I) sz) (mm_w cy ad' T' I')) (va_A (mm_w cy ad T I) sz)
theorem mk_AO.moved {u U : State} (h : u.vm.Alike U.vm) (k : mk_AO u) : mk_AO U := ⟨va_AO.moved h k.1, va_AO.moved h k.2⟩
theorem mk_blind (D : va_G) (cy : Nat → ClassId) (ad : Nat → Nat) (T : List mm_C) (I : mm_I) (sz : Nat) (as : List Value) : FrameBlind (mk_Pc D cy ad T I sz as) := fun a U g mk q => by
  obtain ⟨q0, q1, qP, qK, qD, qO, qA⟩ := q
  exact ⟨q0, q1, qP, va_K.moved (u := U) (U := U.calling g mk a) (Vm.Alike.refl U.vm) qK, qD, mm_Old.same (u := U) (U := U.calling g mk a) rfl qO, mk_AO.moved (u := U) (U := U.calling g mk a) (Vm.Alike.refl U.vm) qA⟩
def mk_Sound (l : Launch) (D : va_G) (cy : Nat → ClassId) (n : Nat) : Prop :=
  ∀ (d mid pc : Nat) (ls st : List Value) (T : List mm_C) (I : mm_I) (pc' : Nat) (ls' st' : List Value) (T' : List mm_C) (I' : mm_I), mk_run n d mid pc ls st T I = some (pc', ls', st', T', I') →
  ∀ (ad : Nat → Nat) (X : Nat × (Nat → Int32)) (p : Program) (e : Env) (R : Room) (s : State) (m : MethodId) (args : Array Value) (below : List Frame) (meth : Method) (c : Code) (H : Heap) (locs : List Loc) (cells slots : Nat) (Q : State → Prop) (A : Nat → Prop) (lsR : Array Slot),
  mm_Cx p R s m args c A D cy ad X mid d → mk_AO s → (mid ≠ 0 → meth.name = "<init>") → cells + T'.length ≤ R.cells + T.length → slots + mk_sl T' ≤ R.slots + mk_sl T → mm_LR ad lsR (mm_ml mid) ls → va_P D vwCl (mm_w cy ad T I) H → va_D A (mm_w cy ad T I) → va_S A s.heap H locs →
  (∀ (ad' : Nat → Nat) (cells' slots' : Nat) (lsR' : Array Slot) (H' : Heap) (locs' : List Loc), mk_stop mid pc' st' = true → mk_ag ad ad' T.length → cells' + T.length = cells + T'.length → slots' + mk_sl T = slots + mk_sl T' → mm_LR ad' lsR' (mm_ml mid) ls' → va_P D vwCl (mm_w cy ad' T' I') H' → va_D A (mm_w cy ad' T' I') → va_S A s.heap H' locs' → W p l e R s m args below meth c H' locs' cells' slots' Q (F0 m pc' lsR' (st'.map (mm_tr ad')))) →
  W p l e R s m args below meth c H locs cells slots Q (F0 m pc lsR (st.map (mm_tr ad)))
set_option maxHeartbeats 4000000 in
theorem mk_met {l : Launch} {D : va_G} {cy : Nat → ClassId} {ad : Nat → Nat} {n : Nat} (ih : mk_Sound l D cy n) {d y sz : Nat} {as : List Value} {T : List mm_C} {I : mm_I} {pc' : Nat} {ls' st' : List Value} {T' : List mm_C} {I' : mm_I} (hrun : mk_run n d y 0 (mm_ent y as) [] T I = some (pc', ls', st', T', I')) (y0 : 0 < y) (y1 : y < 253) (hfit : (mm_sl as).length ≤ mm_ml y) (hname : (mm_me y).1.name = "<init>") (hret : (mm_me y).2.2.2 = none) :
    Met l (mm_me y).1 (mm_ws (mm_me y)) (mk_rm d (T'.length - T.length) (mk_sl T' - mk_sl T)) (mk_Pc D cy ad T I sz as) (mk_Qc D cy ad T I T' I' sz) (T'.length - T.length) (mk_sl T' - mk_sl T) (va_A (mm_w cy ad T I) sz) := by
  obtain ⟨k1, ⟨k2, k3, k4⟩, k5, k6, k7, k8⟩ := mm_mall y y0 y1
  obtain ⟨hm1, hm2⟩ := mk_mono _ _ _ _ _ _ _ _ _ _ _ _ _ hrun
  refine Met.ofW (cc := (mm_me y).2.1) (maxL := (mm_me y).2.2.1) (ret := (mm_me y).2.2.2) k2 rfl ?_
  intro p e s m args below meth c s₁ B hml hv
  obtain ⟨rfl, hsz, hP, hK, hD0, hO, hAO⟩ := hv
  subst hsz
  have hts0 := atoms_spec (ws := mm_ws (mm_me y)) B.pre
  have hts : ∀ w ∈ lw_g, w.before (as.map (mm_tr ad)).toArray s = true := fun w hw => hts0 w (List.mem_cons_of_mem _ hw)
  have hown : s.vm.findClass (mm_cn (mm_own y)) = some m.cls := by rw [← k5]; exact findClass_of_methodNamed B.named
  have hA : ∀ q : Nat, s.heap.size ≤ q → va_A (mm_w cy ad T I) s.heap.size q := fun q h => Or.inr h
  have hlocks : meth.locks = false := B.notSynchronized
  rw [lg_entry_eq, k6]
  refine ih d y 0 (mm_ent y as) [] T I pc' ls' st' T' I' hrun ad mk_x0 p e _ s m _ below meth c s.heap [] 0 0 _ (va_A (mm_w cy ad T I) s.heap.size) _ ?_ hAO (fun _ => (name_of_methodNamed B.named B.method).1.trans hname) (by show 0 + T'.length ≤ (T'.length - T.length) + T.length; omega) (by show 0 + mk_sl T' ≤ (mk_sl T' - mk_sl T) + mk_sl T; omega) (mm_LR_entry hfit) hP hD0.self va_S.rf ?_
  · exact ⟨B.exec, B.bytes, hml.trans k6, hown, hts, hK, hA, hO, ⟨Nat.le_refl _, Nat.le_refl _⟩, fun h => absurd h (by omega)⟩
  · intro ad' cells' slots' lsR' H' locs' hst hag hc hsl hL' hP' hD' hS'
    obtain rfl : cells' = T'.length - T.length := by omega
    obtain rfl : slots' = mk_sl T' - mk_sl T := by omega
    unfold mk_stop at hst
    rw [if_neg (by omega)] at hst
    split at hst
    · next en he =>
      obtain ⟨op, nx, aux, vv⟩ := en
      dsimp only at hst
      split at hst
      · obtain ⟨ck, hd⟩ := mm_ent_ok he
        have hn : nx = pc' + 1 := by simpa [mm_chk] using ck
        subst hn
        dsimp only at hd
        rw [Nat.add_sub_cancel_left] at hd
        exact W.vret B.exec B.bytes (B.returns.trans hret) (fun t ht hW => ⟨⟨ad', rfl, hag, by rw [ht]; exact hP', hD'⟩, hS'.F ht⟩) hS'.2.2 hd
      · cases hst
    · cases hst
set_option maxHeartbeats 4000000 in
theorem mk_sound (l : Launch) (D : va_G) (cy : Nat → ClassId) : ∀ n, mk_Sound l D cy n := by
  intro n
  induction n with
  | zero => intro d mid pc ls st T I pc' ls' st' T' I' h; cases h
  | succ n ih =>
    intro d mid pc ls st T I pc' ls' st' T' I' h ad X p e R s m args below meth c H locs cells slots Q A lsR C hAO hinit hcl hsl hL hP hD hS hret
    rw [mk_run] at h
    by_cases hst : mk_stop mid pc st = true
    · rw [if_pos hst] at h
      cases h
      exact hret ad cells slots lsR H locs hst mk_ag.rf rfl rfl hL hP hD hS
    rw [if_neg hst] at h
    cases h1 : mm_at mid pc with
    | none => rw [h1] at h; cases h
    | some en =>
      rw [h1] at h
      dsimp only at h
      cases h2 : mk_call mid en st with
      | some w =>
        obtain ⟨y, b, as, rest⟩ := w
        rw [h2] at h
        dsimp only at h
        cases d with
        | zero => cases h
        | succ d =>
          dsimp only at h
          split at h
          · next hok =>
            obtain ⟨o1, o2, o3, o4⟩ := mk_okk hok
            cases h4 : mk_run n d y 0 (mm_ent y (.ref b :: as)) [] T I with
            | none => rw [h4] at h; cases h
            | some w =>
              obtain ⟨p1, l1, s1, T1, I1⟩ := w
              rw [h4] at h
              dsimp only at h
              obtain ⟨a1, a2⟩ := mk_mono _ _ _ _ _ _ _ _ _ _ _ _ _ h4
              obtain ⟨a3, a4⟩ := mk_mono _ _ _ _ _ _ _ _ _ _ _ _ _ h
              obtain ⟨i, na, hop, his, hna, hst2, hsum, hfit⟩ := mk_call_inv h2
              obtain ⟨y0, y1, w1, w2, w3, w4, w5⟩ := mk_iall _ (List.contains_iff_mem.mp his)
              dsimp only at y0 y1 w1 w2 w3 w4 w5
              obtain ⟨k1, ⟨k2, k3, k4⟩, k5, k6, k7, k8⟩ := mm_mall y y0 y1
              have C0 := C
              obtain ⟨hx, hb, hml, hown, hts, hK, hA, hO, ⟨hfr, hlo⟩, hX⟩ := C
              have hAB := mm_sub hD hS hA
              have hM := mk_met (ad := ad) (sz := H.size) ih h4 y0 y1 hfit w3 w5
              obtain ⟨op, nx, aux, vv⟩ := en
              obtain ⟨ck, hd⟩ := mm_ent_ok h1
              dsimp only at hop hd
              subst hop
              have hn : nx = pc + 3 := by
                simp only [mm_chk, Bool.and_eq_true, beq_iff_eq] at ck
                exact ck.1
              subst hn
              rw [Nat.add_sub_cancel_left] at hd
              have S : CallFix p m c (mm_b mid) (mm_ml mid) s args lw_g (mm_cn (mm_own mid)) := ⟨hx, hb, hml, hown, hts⟩
              have hsum' : ((rest.map (mm_tr ad)).map fun v => v.category).sum ≤ 8 := by rw [mm_catsum]; exact hsum
              have hstk : (F0 m pc lsR (st.map (mm_tr ad))).stack = (as.map (mm_tr ad)).reverse ++ .ref (ad b) :: rest.map (mm_tr ad) := by show st.map _ = _; rw [hst2]; simp [mm_tr]
              have hPre : ∀ U : State, U.heap = H → s.WarmedH U.vm → mk_Pc D cy ad T I H.size (.ref b :: as) (((.ref b :: as : List Value)).map (mm_tr ad)).toArray U := fun U hU hW =>
                ⟨rfl, by rw [hU], by rw [hU]; exact hP, va_K.moved hW.alike hK, hD.weaken (fun _ _ _ _ => trivial), by rw [hU]; exact mm_Old.warm hW ((hO.kept hS.2.1).narrow hAB), mk_AO.moved hW.alike hAO⟩
              have hroom : (mk_rm d (T1.length - T.length) (mk_sl T1 - mk_sl T)).frames + 1 ≤ R.frames ∧ 8 + ((mm_me y).2.2.1 + 11) + (mk_rm d (T1.length - T.length) (mk_sl T1 - mk_sl T)).locals ≤ R.locals := by
                have := mm_ml_le y
                rw [k6]
                simp only [mk_rm]
                omega
              have hcw := cwI (R := R) (rm := mk_rm d (T1.length - T.length) (mk_sl T1 - mk_sl T)) (mc := T1.length - T.length) (ms := mk_sl T1 - mk_sl T) (own := mm_cn (mm_own mid)) (index := i) (bytes := (mm_me y).2.1) (maxL := (mm_me y).2.2.1) (ws := mm_ws (mm_me y)) (ws' := lw_g) as.length hts (mm_goodws k1) (by unfold mm_ws; rw [w5]) rfl rfl (hts _ k8) (hts _ w1) (hts _ w2) w3 ⟨k3, k4, mm_np_of w4 hna⟩ hroom
              refine va_callv (va_runI (As := as.map (mm_tr ad)) (rest := rest.map (mm_tr ad)) (b := ad b) S hM hcw ⟨mk_blind D cy ad T I H.size _, hPre⟩ rfl (by rw [List.length_map]) hL.1 hstk (lv_room hsum') hd ⟨by omega, by omega⟩) hS (fun q _ z => hAB q z) hAB (fun ad' t H1 locs1 ht hvm hpost hB hz hkeep hS1 => ?_)
              rw [ht] at hB
              have h5 := ih (d + 1) mid (pc + 3) ls rest T1 I1 pc' ls' st' T' I' h ad' X p e R s m args below meth c H1 locs1 (cells + (T1.length - T.length)) (slots + (mk_sl T1 - mk_sl T)) Q A lsR (mk_Cxt hpost C0) hAO hinit (by omega) (by omega) (mk_LRt hL hpost o3) hB.1 (hB.2.weaken (fun _ q _ z => hAB q.1 z)) hS1 (fun ad2 cells' slots' lsR' H' locs' hst hag hc hs hL' hP' hD' hS' => hret ad2 cells' slots' lsR' H' locs' hst (hpost.trans hag a1) (by omega) (by omega) hL' hP' hD' hS')
              rw [mk_stt hpost o4] at h5
              exact h5
          · cases h
      | none =>
        rw [h2] at h
        dsimp only at h
        cases h3 : mk_stp mid en ls st T I with
        | some w =>
          obtain ⟨p1, l1, s1, T1, I1⟩ := w
          rw [h3] at h
          dsimp only at h
          obtain ⟨a1, a2⟩ := mk_stp_mono h3
          obtain ⟨a3, a4⟩ := mk_mono _ _ _ _ _ _ _ _ _ _ _ _ _ h
          exact mk_stpW C hAO hinit h1 h3 (by omega) (by omega) hL hP hD hS (fun ad1 cells1 slots1 lsR1 H1 locs1 hag1 hc1 hs1 hL1 hP1 hD1 hS1 => ih d mid p1 l1 s1 T1 I1 pc' ls' st' T' I' h ad1 X p e R s m args below meth c H1 locs1 cells1 slots1 Q A lsR1 (mk_Cxt hag1 C) hAO hinit (by omega) (by omega) hL1 hP1 hD1 hS1 (fun ad2 cells' slots' lsR' H' locs' hst hag hc hs hL' hP' hD' hS' => hret ad2 cells' slots' lsR' H' locs' hst (hag1.trans hag a1) (by omega) (by omega) hL' hP' hD' hS'))
        | none =>
          rw [h3] at h
          dsimp only at h
          cases h5 : mm_call T en st with
          | some w =>
            obtain ⟨y, as, rest⟩ := w
            rw [h5] at h
            dsimp only at h
            cases d with
            | zero => cases h
            | succ d =>
              dsimp only at h
              cases h4 : mm_run T mk_x0 n d y 0 (mm_ent y as) [] I with
              | none => rw [h4] at h; cases h
              | some w =>
                obtain ⟨r1, I1⟩ := w
                rw [h4] at h
                dsimp only at h
                obtain ⟨a3, a4⟩ := mk_mono _ _ _ _ _ _ _ _ _ _ _ _ _ h
                obtain ⟨hnx, hrun⟩ := mm_callRun (l := l) (e := e) (below := below) (meth := meth) (J := I1) (r := r1) (cells := cells) (slots := slots) C (by omega) (by omega) h1 h5 hL.1 hP hD hS (fun y0 y1 hf => mm_met (mm_sound l D cy ad T mk_x0 n) h4 y0 y1 hf)
                refine mm_cont hrun hS (mm_sub hD hS C.2.2.2.2.2.2.1) (fun H1 locs1 hP1 hS1 => ?_)
                have h6 := ih (d + 1) mid en.2.1 ls (r1.toList ++ rest) T I1 pc' ls' st' T' I' h ad X p e R s m args below meth c H1 locs1 cells slots Q A lsR C hAO hinit hcl hsl hL hP1 (mm_D_any hD) hS1 hret
                rw [hnx] at h6
                have e5 : (r1.toList ++ rest).map (mm_tr ad) = (r1.map (mm_tr ad)).toList ++ rest.map (mm_tr ad) := by cases r1 <;> simp
                rw [e5] at h6
                exact h6
          | none =>
            rw [h5] at h
            dsimp only at h
            split at h
            · cases h
            · next hz =>
              cases h6 : mm_stp T mk_x0 mid en pc ls st I with
              | none => rw [h6] at h; cases h
              | some w =>
                obtain ⟨p1, l1, s1, I1⟩ := w
                rw [h6] at h
                dsimp only at h
                obtain ⟨a3, a4⟩ := mk_mono _ _ _ _ _ _ _ _ _ _ _ _ _ h
                obtain ⟨Y, CY, hY⟩ : ∃ Y, mm_Cx p R s m args c A D cy ad Y mid d ∧ mm_stp T Y mid en pc ls st I = some (p1, l1, s1, I1) := by
                  by_cases hm0 : mid = 0
                  · exact ⟨X, C, by rw [← h6]; exact mk_stpX (fun z => hz ⟨hm0, z⟩)⟩
                  · obtain ⟨hx, hb, hml, hown, hts, hK, hA, hO, hr, hX⟩ := C
                    exact ⟨mk_x0, ⟨hx, hb, hml, hown, hts, hK, hA, hO, hr, fun z => absurd z hm0⟩, h6⟩
                exact mm_stpW CY (by omega) (by omega) h1 hY hL hP hD hS (fun lsR1 H1 locs1 hL1 hP1 hD1 hS1 => ih d mid p1 l1 s1 T I1 pc' ls' st' T' I' h ad X p e R s m args below meth c H1 locs1 cells slots Q A lsR1 C hAO hinit hcl hsl hL1 hP1 hD1 hS1 hret)
