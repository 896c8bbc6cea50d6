/-! THE SMALL MACHINE'S RUN IS THE LARGE ONE'S -/
section SND
variable {p : Program} {l : Launch} {e : Env} {R : Room} {s : State} {m : MethodId} {args : Array Value} {below : List Frame} {meth : Method} {c : Code} {H : Heap} {locs : List Loc} {cells slots : Nat} {Q : State → Prop} {A : Nat → Prop} {D : va_G} {cy : Nat → ClassId} {ad : Nat → Nat} {T : List mm_C} {X : Nat × (Nat → Int32)}
/-- behind a call -/
theorem mm_cont {A0 A1 : Nat → Prop} {H0 : Heap} {J : mm_I} {r : Option Value} {pc : Nat} {ls : Array Slot} {st0 rest : List Value} {a : Array Value} (hr : va_Run p l e R s m args below meth c H locs cells slots 0 0 (F0 m pc ls st0) rest (mm_Qc D cy ad T J r A1 a) A1) (hS : va_S A0 H0 H locs) (hA : ∀ q, A1 q → A0 q)
    (kk : ∀ (H1 : Heap) (locs1 : List Loc), va_P D vwCl (mm_w cy ad T J) H1 → va_S A0 H0 H1 locs1 → W p l e R s m args below meth c H1 locs1 cells slots Q (F0 m (pc + 3) ls ((r.map (mm_tr ad)).toList ++ rest))) : W p l e R s m args below meth c H locs cells slots Q (F0 m pc ls st0) := by
  intro T0 hT X0
  obtain ⟨v, st₀, t, T', L, h0, X', hL, e1, e2, ⟨⟨hv, hp⟩, hz, hk⟩, st⟩ := hr T0 hT X0
  cases hv
  rw [h0] at hz hk
  obtain ⟨t2, a1, b1⟩ := kk T'.heap (locs ++ L) (by rw [e1]; exact hp)
    ⟨Nat.le_trans hS.1 (by rw [e1]; exact hz), fun q h1 h2 => by rw [e1, hk q (Nat.lt_of_lt_of_le h1 hS.1) (fun z => h2 (hA q z))]; exact hS.2.1 q h1 h2, fun q hq => by
      rcases List.mem_append.mp hq with h | h
      · exact hS.2.2 q h
      · exact hA _ (hL q h)⟩ T' rfl X'
  exact ⟨t2, st t2 a1, b1⟩
theorem mm_np_of {y : MethodName} {k na : Nat} (h : (mm_np y).map (· + 1) = some na) (hk : k + 1 = na) : (parseMethodDescriptor y.desc).map (fun d => d.parameters.length) = some k := by
  unfold mm_np at h
  cases h1 : parseMethodDescriptor y.desc with
  | none => rw [h1] at h; cases h
  | some d =>
    rw [h1] at h
    simp only [Option.map_some, Option.some.injEq] at h ⊢
    omega
set_option maxHeartbeats 4000000 in
theorem mm_callRun {mid d pc y : Nat} {en : mm_E} {st as rest : List Value} {I J : mm_I} {r : Option Value} {lsR : Array Slot} (C : mm_Cx p R s m args c A D cy ad X mid (d + 1)) (hcl : cells ≤ R.cells) (hsl : slots ≤ R.slots) (he : mm_at mid pc = some en) (hc : mm_call T en st = some (y, as, rest)) (hL : lsR.size = mm_ml mid) (hP : va_P D vwCl (mm_w cy ad T I) H) (hD : va_D A (mm_w cy ad T I)) (hS : va_S A s.heap H locs)
    (hM : 0 < y → y < 253 → (mm_sl as).length ≤ mm_ml y → Met l (mm_me y).1 (mm_ws (mm_me y)) (mm_rm d) (mm_Pc D cy ad T I H.size as) (mm_Qc D cy ad T J r (va_A (mm_w cy ad T I) H.size)) 0 0 (va_A (mm_w cy ad T I) H.size)) :
    en.2.1 = pc + 3 ∧ va_Run p l e R s m args below meth c H locs cells slots 0 0 (F0 m pc lsR (st.map (mm_tr ad))) (rest.map (mm_tr ad)) (mm_Qc D cy ad T J r (va_A (mm_w cy ad T I) H.size) ((as.map (mm_tr ad)).toArray)) (va_A (mm_w cy ad T I) H.size) := by
  obtain ⟨hx, hb, hml, hown, hts, hK, hA, hO, ⟨hfr, hlo⟩, hX⟩ := C
  obtain ⟨na, kd, tg, hcs, hna, hsum, hpk, hfit, has, hrest, i, hop⟩ := mm_call_inv hc
  obtain ⟨op, nx, aux, vv⟩ := en
  obtain ⟨ck, hd⟩ := mm_ent_ok he
  dsimp only at hcs hop hd
  have hsm := mm_cs_small hcs
  have hAB := mm_sub hD hS hA
  have hlen : as.length = na := by rw [has]; simp; omega
  have hst : st = as.reverse ++ rest := by rw [has, hrest]; simp
  have hsum' : ((rest.map (mm_tr ad)).map fun v => v.category).sum ≤ 8 := by rw [mm_catsum, hrest]; exact hsum
  have hPre : ∀ U : State, U.heap = H → s.WarmedH U.vm → mm_Pc D cy ad T I H.size as (as.map (mm_tr ad)).toArray U := fun U hU hW =>
    ⟨rfl, by rw [hU], by rw [hU]; exact hP, va_K.moved hW.alike hK, hD.weaken (fun _ _ _ _ => trivial), by rw [hU]; exact mm_Old.warm hW ((hO.kept hS.2.1).narrow hAB)⟩
  have hbl := mm_blind D cy ad T I H.size as
  have hroom : ∀ z, (mm_rm d).frames + 1 ≤ R.frames ∧ 8 + (mm_ml z + 11) + (mm_rm d).locals ≤ R.locals := fun z => by
    have := mm_ml_le z
    simp only [mm_rm]
    omega
  have S : CallFix p m c (mm_b mid) (mm_ml mid) s args lw_g (mm_cn (mm_own mid)) := ⟨hx, hb, hml, hown, hts⟩
  rcases hop with rfl | rfl | rfl
  · -- static
    simp only [mm_chk, Bool.and_eq_true, beq_iff_eq] at ck
    obtain ⟨hn, hv⟩ := ck
    subst hn
    rw [Nat.add_sub_cancel_left] at hd
    refine ⟨rfl, ?_⟩
    rw [if_neg (by omega), if_neg (by omega), if_neg (by omega), if_neg (by omega)] at hv
    obtain ⟨hok, hkd⟩ := mm_ct_inv hv hcs
    simp only [List.mem_cons, List.not_mem_nil, or_false] at hkd
    unfold mm_sok at hok
    dsimp only at hok
    have hstk : (F0 m pc lsR (st.map (mm_tr ad))).stack = (as.map (mm_tr ad)).reverse ++ rest.map (mm_tr ad) := by show st.map _ = _; rw [hst]; simp
    rcases hkd with rfl | rfl
    · have hpk2 : tg.lookup 0 = some y := by simpa [mm_pick] using hpk
      rcases hok with ⟨-, hok⟩ | ⟨h, -⟩ | ⟨h, -⟩ | ⟨h, -⟩ | h
      · obtain ⟨y0, y1, w1, w2, w3⟩ := hok (0, y) (mm_lookup_mem hpk2) rfl
        obtain ⟨k1, ⟨k2, k3, k4⟩, k5, k6, k7, k8⟩ := mm_mall y y0 y1
        have hcw := va_cwS (R := R) (rm := mm_rm d) (mc := 0) (ms := 0) na hts (mm_goodapp k1 (l := [.methodLink (mm_cn (mm_own mid)) i (mm_me y).1, .static (mm_me y).1, .initialized (mm_me y).1.cls]) (fun w hw => by
          simp only [List.mem_cons, List.not_mem_nil, or_false] at hw
          rcases hw with rfl | rfl | rfl
          · exact w1
          · exact w2
          · exact k8)) rfl rfl rfl ⟨k3, k4, w3⟩ (by rw [k6]; exact hroom y)
        exact va_runS S (hM y0 y1 hfit) hcw ⟨hbl, hPre⟩ rfl (by rw [List.length_map]; exact hlen) hL hstk (lv_room hsum') hd ⟨hcl, hsl⟩
      · cases h
      · cases h
      · cases h
      · cases h
    · have hpk2 : tg.lookup 0 = some y := by simpa [mm_pick] using hpk
      rcases hok with ⟨h, -⟩ | ⟨-, hok⟩ | ⟨h, -⟩ | ⟨h, -⟩ | h
      · cases h
      · obtain ⟨y0, y1, w1, w2, w3, w4⟩ := hok (0, y) (mm_lookup_mem hpk2)
        obtain ⟨k1, ⟨k2, k3, k4⟩, k5, k6, k7, k8⟩ := mm_mall y y0 y1
        have hnw : ∃ host, va_Nw (.methodLinkNest (mm_cn (mm_own mid)) i (mm_me y).1 host) s := by
          rw [w2]
          simp only [mm_NN, List.mem_cons, Prod.mk.injEq, List.not_mem_nil, or_false] at w1
          rcases w1 with ⟨h1, h2⟩ | ⟨h1, h2⟩
          · rw [h1, h2]; exact ⟨_, hO.2.2.2.2.2⟩
          · rw [h1, h2]; exact ⟨_, hO.2.2.2.2.1⟩
        obtain ⟨host, hnw⟩ := hnw
        have hcw := va_cnB (R := R) (rm := mm_rm d) (mc := 0) (ms := 0) (args := args) na hts (mm_goodws k1) rfl rfl rfl hnw (hts _ k8) ⟨k3, k4, w4⟩ (by rw [k6]; exact hroom y)
        exact va_runSN S (hM y0 y1 hfit) ⟨hcw, hts _ w3, trivial⟩ ⟨hbl, hPre⟩ rfl (by rw [List.length_map]; exact hlen) hL hstk (lv_room hsum') hd ⟨hcl, hsl⟩
      · cases h
      · cases h
      · cases h
  · -- virtual
    simp only [mm_chk, Bool.and_eq_true, beq_iff_eq] at ck
    obtain ⟨hn, hv⟩ := ck
    subst hn
    rw [Nat.add_sub_cancel_left] at hd
    refine ⟨rfl, ?_⟩
    obtain ⟨hok, hkd⟩ := mm_ct_inv hv hcs
    simp only [List.mem_cons, List.not_mem_nil, or_false] at hkd
    subst hkd
    unfold mm_sok at hok
    dsimp only at hok
    rcases hok with ⟨h, -⟩ | ⟨h, -⟩ | ⟨-, hok⟩ | ⟨h, -⟩ | h
    · cases h
    · cases h
    · have hpk2 : ∃ ci, mm_cls T as = some ci ∧ tg.lookup ci = some y := by
        replace hpk : (match mm_cls T as with
          | some ci => tg.lookup ci
          | none => none) = some y := hpk
        cases hcc : mm_cls T as with
        | none => rw [hcc] at hpk; cases hpk
        | some ci => rw [hcc] at hpk; exact ⟨ci, rfl, hpk⟩
      obtain ⟨ci, hcls, hlk⟩ := hpk2
      obtain ⟨y0, y1, hw⟩ := hok (ci, y) (mm_lookup_mem hlk)
      obtain ⟨k1, ⟨k2, k3, k4⟩, k5, k6, k7, k8⟩ := mm_mall y y0 y1
      obtain ⟨a, as', hasr, hrecv⟩ : ∃ a as', as = .ref a :: as' ∧ ∃ cell : Cell, H[ad a]? = some cell ∧ cell.vm.isStatics = false ∧ s.vm.findClass (mm_cn ci) = some cell.cls := by
        unfold mm_cls at hcls
        split at hcls
        · next a as' =>
          refine ⟨a, as', rfl, ?_⟩
          split at hcls
          · next ha =>
            split at hcls
            · next ha2 =>
              cases hcls
              obtain ⟨j, hj⟩ : ∃ j : Nat, a = 1010 + j := ⟨a - 1010, (Nat.add_sub_cancel' ha).symm⟩
              have hj3 : j < 3 := Nat.lt_of_add_lt_add_left (n := 1010) (by rw [← hj]; exact ha2)
              rw [hj]
              exact vk_recv (i := j) hO.2.2.2.1 hj3 hS
            · cases hcls
          · split at hcls
            · next cc hT =>
              split at hcls
              · next hc13 =>
                cases hcls
                have hw := mm_w_at (cy := cy) (ad := ad) (I := I) hT
                rw [mm_cel_obj hc13] at hw
                obtain ⟨rr, hrr⟩ : ∃ rr, vwCl[cc.1]? = some rr := ⟨_, List.getElem?_eq_getElem (show cc.1 < vwCl.length from hc13)⟩
                rw [← mm_cn_vw _ _ hrr]
                exact va_recv hK hP hrr hw
              · cases hcls
            · cases hcls
        · cases hcls
      subst hasr
      have hln : as'.length + 1 = na := by rw [← hlen]; rfl
      have hstk : (F0 m pc lsR (st.map (mm_tr ad))).stack = (as'.map (mm_tr ad)).reverse ++ .ref (ad a) :: rest.map (mm_tr ad) := by show st.map _ = _; rw [hst]; simp [mm_tr]
      have hpv : PreV s H (mm_cn ci) (ad a) (mm_Pc D cy ad T I H.size (.ref a :: as')) (as'.map (mm_tr ad)) := ⟨hbl, hrecv, hPre⟩
      rcases hw with ⟨w1, w2, w3, w4, w5, w6⟩ | ⟨owner, x, w1, w2, w3, w4, w5, ⟨b0, m0, r0, w6⟩, ⟨w7, w8⟩, w9⟩
      · have hcw := cwV (R := R) (C := mm_cn ci) (rm := mm_rm d) (mc := 0) (ms := 0) as'.length hts (mm_goodapp k1 (l := [.methodLink (mm_cn (mm_own mid)) i (mm_me y).1, .instanceMethod (mm_me y).1, .selects (mm_cn ci) (mm_me y).1 (mm_me y).1, .initialized (mm_cn ci)]) (fun w hw => by
          simp only [List.mem_cons, List.not_mem_nil, or_false] at hw
          rcases hw with rfl | rfl | rfl | rfl
          · exact w1
          · exact w2
          · exact w3
          · exact w4)) rfl rfl rfl ⟨w6, k3, k4, mm_np_of w5 hln⟩ (by rw [k6]; exact hroom y)
        exact va_runV S (hM y0 y1 hfit) hcw hpv rfl (by rw [List.length_map]) hL hstk (lv_room hsum') hd ⟨hcl, hsl⟩
      · have hcw := va_cwO (R := R) (C := mm_cn ci) (rm := mm_rm d) (mc := 0) (ms := 0) (args := args) as'.length hts (mm_goodapp k1 (l := [.methodLink (mm_cn (mm_own mid)) i x, .sameMethod x.cls owner x.name x.desc, .instanceMethod ⟨owner, x.name, x.desc⟩, .selects (mm_cn ci) x (mm_me y).1, .instanceMethod (mm_me y).1, .initialized (mm_me y).1.cls]) (fun w hw => by
          simp only [List.mem_cons, List.not_mem_nil, or_false] at hw
          rcases hw with rfl | rfl | rfl | rfl | rfl | rfl
          · exact w1
          · exact w2
          · exact w5
          · exact w3
          · exact w4
          · exact k8)) rfl rfl rfl w6 ⟨w7, w8, mm_np_of w9 hln⟩ (by rw [k6]; exact hroom y)
        exact va_runU S (hM y0 y1 hfit) hcw hpv rfl (by rw [List.length_map]) hL hstk (lv_room hsum') hd ⟨hcl, hsl⟩
    · cases h
    · cases h
  · -- super
    simp only [mm_chk, Bool.and_eq_true, beq_iff_eq, Bool.or_eq_true] at ck
    obtain ⟨hn, hv⟩ := ck
    subst hn
    rw [Nat.add_sub_cancel_left] at hd
    refine ⟨rfl, ?_⟩
    rcases hv with hv | hv
    · omega
    obtain ⟨hok, hkd⟩ := mm_ct_inv hv hcs
    simp only [List.mem_cons, List.not_mem_nil, or_false] at hkd
    rcases hkd with rfl | rfl
    · unfold mm_sok at hok
      dsimp only at hok
      rcases hok with ⟨h, -⟩ | ⟨h, -⟩ | ⟨h, -⟩ | ⟨-, hok⟩ | h
      · cases h
      · cases h
      · cases h
      · have hpk2 : ∃ ci, mm_cls T as = some ci ∧ ci < 13 ∧ tg.lookup 0 = some y := by
          replace hpk : (match mm_cls T as with
            | some ci => if ci < 13 then tg.lookup 0 else none
            | none => none) = some y := hpk
          cases hcc : mm_cls T as with
          | none => rw [hcc] at hpk; cases hpk
          | some ci =>
            rw [hcc] at hpk
            dsimp only at hpk
            split at hpk
            · next h13 => exact ⟨ci, rfl, h13, hpk⟩
            · cases hpk
        obtain ⟨ci, hcls, h13, hlk⟩ := hpk2
        obtain ⟨y0, y1, x, w1, w2, w3, w4, w5, w6, w7, w8⟩ := hok (0, y) (mm_lookup_mem hlk)
        obtain ⟨k1, ⟨k2, k3, k4⟩, k5, k6, k7, k8⟩ := mm_mall y y0 y1
        obtain ⟨rr, hrr⟩ : ∃ rr, vwCl[ci]? = some rr := ⟨_, List.getElem?_eq_getElem (show ci < vwCl.length from h13)⟩
        obtain ⟨a, as', hasr, hrecv⟩ : ∃ a as', as = .ref a :: as' ∧ ∃ cell : Cell, H[ad a]? = some cell ∧ cell.vm.isStatics = false ∧ s.vm.findClass rr.1 = some cell.cls := by
          unfold mm_cls at hcls
          split at hcls
          · next a as' =>
            refine ⟨a, as', rfl, ?_⟩
            split at hcls
            · split at hcls
              · cases hcls; omega
              · cases hcls
            · split at hcls
              · next cc hT =>
                split at hcls
                · next hc13 =>
                  cases hcls
                  have hw := mm_w_at (cy := cy) (ad := ad) (I := I) hT
                  rw [mm_cel_obj hc13] at hw
                  exact va_recv hK hP hrr hw
                · cases hcls
              · cases hcls
          · cases hcls
        subst hasr
        have hln : as'.length + 1 = na := by rw [← hlen]; rfl
        have hstk : (F0 m pc lsR (st.map (mm_tr ad))).stack = (as'.map (mm_tr ad)).reverse ++ .ref (ad a) :: rest.map (mm_tr ad) := by show st.map _ = _; rw [hst]; simp [mm_tr]
        exact mm_runSU (R := R) (hK.1 ci _ hrr).2 S (hM y0 y1 hfit) (mm_goodws k1) rfl rfl rfl (hts _ w1) (hts _ w2) (hts _ w3) (w4.elim Or.inl (fun z => Or.inr (hts _ z))) w5 (hts _ w6) (hts _ k8) w7 (by rw [List.length_map]; exact mm_np_of w8 hln) (by rw [k6]; exact hroom y) ⟨hbl, hrecv, hPre⟩ rfl hL hstk (lv_room hsum') hd ⟨hcl, hsl⟩
      · cases h
    · simp [mm_pick] at hpk
/-- a method's return -/
theorem mm_retW {mid pc : Nat} {en : mm_E} {st : List Value} {r : Option Value} {J : mm_I} {lsR : Array Slot} {rt : Option FieldType} (hx : p.tables.exec = Jvm.exec) (hb : c.code = mm_b mid) (hr : meth.sig.returnType = rt) (hlocks : meth.locks = false) (hrt : mm_rt (mm_rk mid) rt = true) (he : mm_at mid pc = some en) (h : mm_ret mid en st = some r) (hP : va_P D vwCl (mm_w cy ad T J) H) (hS : va_S A s.heap H locs) : W p l e R s m args below meth c H locs 0 0 (MQ below (mm_Qc D cy ad T J r A) args s 0 0 A) (F0 m pc lsR (st.map (mm_tr ad))) := by
  obtain ⟨op, nx, aux, vv⟩ := en
  obtain ⟨ck, hd⟩ := mm_ent_ok he
  dsimp only at hd
  cases op
  case return_ =>
    simp only [mm_ret] at h
    split at h
    · split at h
      · next hk =>
        cases h
        have hn : nx = pc + 1 := by simpa [mm_chk] using ck
        subst hn
        rw [Nat.add_sub_cancel_left] at hd
        rw [hk] at hrt
        have hrn : rt = none := by
          cases rt with
          | none => rfl
          | some t => simp [mm_rt] at hrt
        subst hrn
        exact W.vret hx hb hr (fun t ht hW => ⟨⟨rfl, by rw [ht]; exact hP⟩, hS.F ht⟩) hS.2.2 hd
      · cases h
    · cases h
  case ireturn =>
    simp only [mm_ret] at h
    split at h
    · next v =>
      split at h
      · next hk =>
        cases h
        have hn : nx = pc + 1 := by simpa [mm_chk] using ck
        subst hn
        rw [Nat.add_sub_cancel_left] at hd
        have hex : ∃ ty, rt = some ty ∧ narrow ty (.int v) = .int v := by
          cases rt with
          | none => rcases hk with hk | ⟨hk, -⟩ <;> rw [hk] at hrt <;> simp [mm_rt] at hrt
          | some ty =>
            refine ⟨ty, rfl, ?_⟩
            rcases hk with hk | ⟨hk, hv⟩
            · rw [hk] at hrt
              cases ty <;> simp [mm_rt] at hrt
              rfl
            · rw [hk] at hrt
              rcases hv with rfl | rfl <;> cases ty <;> simp [mm_rt] at hrt <;> rfl
        obtain ⟨ty, hty, hnar⟩ := hex
        exact W.zret (ty := ty) hx hb (hr.trans hty) hnar (fun t ht hW => ⟨⟨rfl, by rw [ht]; exact hP⟩, hS.F ht⟩) hS.2.2 hd
      · cases h
    · cases h
  case areturn =>
    simp only [mm_ret] at h
    split at h
    · next a =>
      split at h
      · next hk =>
        cases h
        have hn : nx = pc + 1 := by simpa [mm_chk] using ck
        subst hn
        rw [Nat.add_sub_cancel_left] at hd
        rw [hk] at hrt
        have hex : ∃ n, rt = some (.object n) := by
          cases rt with
          | none => simp [mm_rt] at hrt
          | some ty => cases ty <;> simp [mm_rt] at hrt; exact ⟨_, rfl⟩
        obtain ⟨n, hn2⟩ := hex
        exact W.aret (rt := .object n) hx hb (hr.trans hn2) (Or.inl ⟨n, rfl⟩) (Or.inr ⟨ad a, rfl⟩) (fun t ht hW => ⟨⟨rfl, by rw [ht]; exact hP⟩, hS.F ht⟩) hS.2.2 hd
      · cases h
    · cases h
  all_goals (exfalso; simp [mm_ret] at h)
end SND
def mm_Sound (l : Launch) (D : va_G) (cy : Nat → ClassId) (ad : Nat → Nat) (T : List mm_C) (X : Nat × (Nat → Int32)) (n : Nat) : Prop :=
  ∀ (d mid pc : Nat) (ls st : List Value) (I : mm_I) (r : Option Value) (J : mm_I), mm_run T X n d mid pc ls st I = some (r, J) →
  ∀ (p : Program) (e : Env) (R : Room) (s : State) (m : MethodId) (args : Array Value) (below : List Frame) (meth : Method) (c : Code) (H : Heap) (locs : List Loc) (cells slots : Nat) (Q : State → Prop) (A : Nat → Prop) (lsR : Array Slot),
  mm_Cx p R s m args c A D cy ad X mid d → cells ≤ R.cells → slots ≤ R.slots → mm_LR ad lsR (mm_ml mid) ls → va_P D vwCl (mm_w cy ad T I) H → va_D A (mm_w cy ad T I) → va_S A s.heap H locs →
  (∀ (pc' : Nat) (en : mm_E) (st' : List Value) (lsR' : Array Slot) (H' : Heap) (locs' : List Loc), mm_at mid pc' = some en → mm_ret mid en st' = some r → va_P D vwCl (mm_w cy ad T J) H' → va_S A s.heap H' locs' → W p l e R s m args below meth c H' locs' cells slots Q (F0 m pc' lsR' (st'.map (mm_tr ad)))) →
  W p l e R s m args below meth c H locs cells slots Q (F0 m pc lsR (st.map (mm_tr ad)))
set_option maxHeartbeats 4000000 in
theorem mm_met {l : Launch} {D : va_G} {cy : Nat → ClassId} {ad : Nat → Nat} {T : List mm_C} {X : Nat × (Nat → Int32)} {n : Nat} (ih : mm_Sound l D cy ad T X n) {d y sz : Nat} {as : List Value} {I J : mm_I} {r : Option Value} (hrun : mm_run T X n d y 0 (mm_ent y as) [] I = some (r, J)) (y0 : 0 < y) (y1 : y < 253) (hfit : (mm_sl as).length ≤ mm_ml y) :
    Met l (mm_me y).1 (mm_ws (mm_me y)) (mm_rm d) (mm_Pc D cy ad T I sz as) (mm_Qc D cy ad T J r (va_A (mm_w cy ad T I) sz)) 0 0 (va_A (mm_w cy ad T I) sz) := by
  obtain ⟨k1, ⟨k2, k3, k4⟩, k5, k6, k7, k8⟩ := mm_mall y y0 y1
  refine Met.ofW (cc := (mm_me y).2.1) (maxL := (mm_me y).2.2.1) (ret := (mm_me y).2.2.2) k2 rfl ?_
  intro p e s m args below meth c s₁ B hml hv
  obtain ⟨rfl, hsz, hP, hK, hD0, hO⟩ := hv
  subst hsz
  have hts0 := atoms_spec (ws := mm_ws (mm_me y)) B.pre
  have hts : ∀ w ∈ lw_g, w.before (as.map (mm_tr ad)).toArray s = true := fun w hw => hts0 w (List.mem_cons_of_mem _ hw)
  have hown : s.vm.findClass (mm_cn (mm_own y)) = some m.cls := by rw [← k5]; exact findClass_of_methodNamed B.named
  have hA : ∀ q : Nat, s.heap.size ≤ q → va_A (mm_w cy ad T I) s.heap.size q := fun q h => Or.inr h
  have hlocks : meth.locks = false := B.notSynchronized
  rw [lg_entry_eq, k6]
  refine ih d y 0 (mm_ent y as) [] I r J hrun p e _ s m _ below meth c s.heap [] 0 0 _ (va_A (mm_w cy ad T I) s.heap.size) _ ?_ (Nat.zero_le _) (Nat.zero_le _) (mm_LR_entry hfit) hP hD0.self va_S.rf ?_
  · exact ⟨B.exec, B.bytes, hml.trans k6, hown, hts, hK, hA, hO, ⟨Nat.le_refl _, Nat.le_refl _⟩, fun h => absurd h (by omega)⟩
  · intro pc' en st' lsR' H' locs' he h hP' hS'
    exact mm_retW B.exec B.bytes B.returns hlocks k7 he h hP' hS'
theorem mm_sound (l : Launch) (D : va_G) (cy : Nat → ClassId) (ad : Nat → Nat) (T : List mm_C) (X : Nat × (Nat → Int32)) : ∀ n, mm_Sound l D cy ad T X n := by
  intro n
  induction n with
  | zero => intro d mid pc ls st I r J h; cases h
  | succ n ih =>
    intro d mid pc ls st I r J h p e R s m args below meth c H locs cells slots Q A lsR C hcl hsl hL hP hD hS hret
    rw [mm_run] at h
    cases h1 : mm_at mid pc with
    | none => rw [h1] at h; cases h
    | some en =>
      rw [h1] at h
      dsimp only at h
      cases h2 : mm_ret mid en st with
      | some r0 =>
        rw [h2] at h
        cases h
        exact hret pc en st lsR H locs h1 h2 hP hS
      | none =>
        rw [h2] at h
        dsimp only at h
        cases h3 : mm_call T en st with
        | some w =>
          obtain ⟨y, as, rest⟩ := w
          rw [h3] at h
          dsimp only at h
          cases d with
          | zero => cases h
          | succ d =>
            dsimp only at h
            cases h4 : mm_run T X n d y 0 (mm_ent y as) [] I with
            | none => rw [h4] at h; cases h
            | some w =>
              obtain ⟨r1, I1⟩ := w
              rw [h4] at h
              dsimp only at h
              obtain ⟨hnx, hrun⟩ := mm_callRun (l := l) (e := e) (below := below) (meth := meth) (J := I1) (r := r1) C hcl hsl h1 h3 hL.1 hP hD hS (fun y0 y1 hf => mm_met ih h4 y0 y1 hf)
              refine mm_cont hrun hS (mm_sub hD hS C.2.2.2.2.2.2.1) (fun H1 locs1 hP1 hS1 => ?_)
              have h5 := ih (d + 1) mid en.2.1 ls (r1.toList ++ rest) I1 r J h p e R s m args below meth c H1 locs1 cells slots Q A lsR C hcl hsl hL hP1 (mm_D_any hD) hS1 hret
              rw [hnx] at h5
              have e5 : (r1.toList ++ rest).map (mm_tr ad) = (r1.map (mm_tr ad)).toList ++ rest.map (mm_tr ad) := by cases r1 <;> simp
              rw [e5] at h5
              exact h5
        | none =>
          rw [h3] at h
          dsimp only at h
          cases h4 : mm_stp T X mid en pc ls st I with
          | none => rw [h4] at h; cases h
          | some w =>
            obtain ⟨pc', ls', st', I'⟩ := w
            rw [h4] at h
            exact mm_stpW C hcl hsl h1 h4 hL hP hD hS (fun lsR' H' locs' hL' hP' hD' hS' => ih d mid pc' ls' st' I' r J h p e R s m args below meth c H' locs' cells slots Q A lsR' C hcl hsl hL' hP' hD' hS' hret)
