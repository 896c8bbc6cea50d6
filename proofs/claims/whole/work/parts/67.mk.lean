/-! THE MAKING MACHINE: as the small machine, but it makes cells. -/
def mk_def (ci : Nat) : List Value := (mm_fkl.getD ci []).map (fun k => if k ≤ 1 then .int 0 else if k = 2 then .long 0 else .null)
def mk_sl (T : List mm_C) : Nat := (T.map (fun c => c.2.1)).sum
def mk_rp (I : mm_I) (k : Nat) : mm_I := fun q => if q = k then (fun _ => 0) else I q
def mk_cv (n : Nat) : Value → Bool
  | .ref q => decide (q < n) || decide (1000 ≤ q)
  | _ => true
def mk_ok (T : List mm_C) (ls st : List Value) : Bool := decide (T.length < 1000) && T.all (fun c => c.2.2.all (mk_cv T.length)) && ls.all (mk_cv T.length) && st.all (mk_cv T.length)
def mk_NW : List (Nat × Nat × Nat) := [(13, 7, 11), (13, 10, 12), (11, 9, 7), (11, 18, 1), (11, 23, 10), (11, 26, 3), (11, 29, 6), (11, 32, 8), (11, 35, 0), (11, 38, 2), (11, 45, 4), (11, 60, 5), (4, 36, 9), (4, 54, 7), (9, 9, 7), (5, 9, 7)]
def mk_AW : List (Nat × Nat × Nat) := [(11, 18, 101), (11, 9, 102)]
def mk_OI : List (Nat × Nat) := [(11, 3), (7, 1), (1, 3), (4, 3), (9, 3), (5, 3), (12, 3)]
def mk_IS : List (Nat × Nat × Nat × Nat) := [(13, 9, 75, 1), (13, 12, 136, 1), (11, 11, 52, 3), (11, 20, 4, 2), (11, 25, 72, 2), (11, 28, 16, 2), (11, 31, 49, 2), (11, 34, 64, 2), (11, 37, 1, 2), (11, 40, 11, 2), (11, 47, 19, 2), (11, 62, 40, 1), (4, 41, 67, 4), (4, 56, 52, 3), (9, 11, 52, 3), (5, 11, 52, 3), (10, 1, 4, 2), (3, 1, 4, 2), (6, 3, 4, 2), (8, 1, 72, 2), (0, 1, 16, 2), (2, 1, 49, 2)]
def mk_CH : List Nat := [0, 1, 2, 3, 6, 8, 10]
def mk_nok (q : Nat × Nat × Nat) : Prop := ∃ r : vw_C, vwCl[q.2.2]? = some r ∧ Cond.classLink (mm_cn q.1) q.2.1 r.1 ∈ lw_g ∧ Cond.instantiable r.1 r.2.2 ∈ lw_g ∧ Cond.initialized r.1 ∈ lw_g ∧ q.2.2 < 13 ∧ (mk_def q.2.2).length = r.2.2
theorem nw_0 : mk_nok (13, 7, 11) := ⟨(RX11, TX11, 10), rfl, tb_g 98 (by decide +kernel) (by decide +kernel), tb_g 99 (by decide +kernel) (by decide +kernel), tb_g 76 (by decide +kernel) (by decide +kernel), by decide, by decide +kernel⟩
theorem nw_1 : mk_nok (13, 10, 12) := ⟨(RX12, TX12, 19), rfl, tb_g 1030 (by decide +kernel) (by decide +kernel), tb_g 1031 (by decide +kernel) (by decide +kernel), tb_g 89 (by decide +kernel) (by decide +kernel), by decide, by decide +kernel⟩
theorem nw_2 : mk_nok (11, 9, 7) := ⟨(RX7, TX7, 3), rfl, tb_g 106 (by decide +kernel) (by decide +kernel), tb_g 107 (by decide +kernel) (by decide +kernel), tb_g 77 (by decide +kernel) (by decide +kernel), by decide, by decide +kernel⟩
theorem nw_3 : mk_nok (11, 18, 1) := ⟨(RX1, TX1, 1), rfl, tb_g 130 (by decide +kernel) (by decide +kernel), tb_g 132 (by decide +kernel) (by decide +kernel), tb_g 79 (by decide +kernel) (by decide +kernel), by decide, by decide +kernel⟩
theorem nw_4 : mk_nok (11, 23, 10) := ⟨(RX10, TX10, 1), rfl, tb_g 153 (by decide +kernel) (by decide +kernel), tb_g 154 (by decide +kernel) (by decide +kernel), tb_g 80 (by decide +kernel) (by decide +kernel), by decide, by decide +kernel⟩
theorem nw_5 : mk_nok (11, 26, 3) := ⟨(RX3, TX3, 1), rfl, tb_g 161 (by decide +kernel) (by decide +kernel), tb_g 162 (by decide +kernel) (by decide +kernel), tb_g 81 (by decide +kernel) (by decide +kernel), by decide, by decide +kernel⟩
theorem nw_6 : mk_nok (11, 29, 6) := ⟨(RX6, TX6, 1), rfl, tb_g 169 (by decide +kernel) (by decide +kernel), tb_g 170 (by decide +kernel) (by decide +kernel), tb_g 82 (by decide +kernel) (by decide +kernel), by decide, by decide +kernel⟩
theorem nw_7 : mk_nok (11, 32, 8) := ⟨(RX8, TX8, 1), rfl, tb_g 177 (by decide +kernel) (by decide +kernel), tb_g 178 (by decide +kernel) (by decide +kernel), tb_g 83 (by decide +kernel) (by decide +kernel), by decide, by decide +kernel⟩
theorem nw_8 : mk_nok (11, 35, 0) := ⟨(RX0, TX0, 1), rfl, tb_g 185 (by decide +kernel) (by decide +kernel), tb_g 186 (by decide +kernel) (by decide +kernel), tb_g 84 (by decide +kernel) (by decide +kernel), by decide, by decide +kernel⟩
theorem nw_9 : mk_nok (11, 38, 2) := ⟨(RX2, TX2, 1), rfl, tb_g 193 (by decide +kernel) (by decide +kernel), tb_g 194 (by decide +kernel) (by decide +kernel), tb_g 85 (by decide +kernel) (by decide +kernel), by decide, by decide +kernel⟩
theorem nw_10 : mk_nok (11, 45, 4) := ⟨(RX4, TX4, 18), rfl, tb_g 201 (by decide +kernel) (by decide +kernel), tb_g 202 (by decide +kernel) (by decide +kernel), tb_g 86 (by decide +kernel) (by decide +kernel), by decide, by decide +kernel⟩
theorem nw_11 : mk_nok (11, 60, 5) := ⟨(RX5, TX5, 5), rfl, tb_g 318 (by decide +kernel) (by decide +kernel), tb_g 319 (by decide +kernel) (by decide +kernel), tb_g 88 (by decide +kernel) (by decide +kernel), by decide, by decide +kernel⟩
theorem nw_12 : mk_nok (4, 36, 9) := ⟨(RX9, TX9, 4), rfl, tb_g 207 (by decide +kernel) (by decide +kernel), tb_g 208 (by decide +kernel) (by decide +kernel), tb_g 87 (by decide +kernel) (by decide +kernel), by decide, by decide +kernel⟩
theorem nw_13 : mk_nok (4, 54, 7) := ⟨(RX7, TX7, 3), rfl, tb_g 242 (by decide +kernel) (by decide +kernel), tb_g 107 (by decide +kernel) (by decide +kernel), tb_g 77 (by decide +kernel) (by decide +kernel), by decide, by decide +kernel⟩
theorem nw_14 : mk_nok (9, 9, 7) := ⟨(RX7, TX7, 3), rfl, tb_g 215 (by decide +kernel) (by decide +kernel), tb_g 107 (by decide +kernel) (by decide +kernel), tb_g 77 (by decide +kernel) (by decide +kernel), by decide, by decide +kernel⟩
theorem nw_15 : mk_nok (5, 9, 7) := ⟨(RX7, TX7, 3), rfl, tb_g 324 (by decide +kernel) (by decide +kernel), tb_g 107 (by decide +kernel) (by decide +kernel), tb_g 77 (by decide +kernel) (by decide +kernel), by decide, by decide +kernel⟩
theorem mk_nall : ∀ q ∈ mk_NW, mk_nok q := List.forall_mem_cons.mpr ⟨nw_0, List.forall_mem_cons.mpr ⟨nw_1, List.forall_mem_cons.mpr ⟨nw_2, List.forall_mem_cons.mpr ⟨nw_3, List.forall_mem_cons.mpr ⟨nw_4, List.forall_mem_cons.mpr ⟨nw_5, List.forall_mem_cons.mpr ⟨nw_6, List.forall_mem_cons.mpr ⟨nw_7, List.forall_mem_cons.mpr ⟨nw_8, List.forall_mem_cons.mpr ⟨nw_9, List.forall_mem_cons.mpr ⟨nw_10, List.forall_mem_cons.mpr ⟨nw_11, List.forall_mem_cons.mpr ⟨nw_12, List.forall_mem_cons.mpr ⟨nw_13, List.forall_mem_cons.mpr ⟨nw_14, List.forall_mem_cons.mpr ⟨nw_15, fun _ h => absurd h List.not_mem_nil⟩⟩⟩⟩⟩⟩⟩⟩⟩⟩⟩⟩⟩⟩⟩⟩
def mk_iok (q : Nat × Nat × Nat × Nat) : Prop := 0 < q.2.2.1 ∧ q.2.2.1 < 253 ∧ Cond.methodLink (mm_cn q.1) q.2.1 (mm_me q.2.2.1).1 ∈ lw_g ∧ Cond.instanceMethod (mm_me q.2.2.1).1 ∈ lw_g ∧ (mm_me q.2.2.1).1.name = "<init>" ∧ (mm_np (mm_me q.2.2.1).1).map (· + 1) = some q.2.2.2 ∧ (mm_me q.2.2.1).2.2.2 = none
theorem is_0 : mk_iok (13, 9, 75, 1) := ⟨by decide, by decide, tb_g 100 (by decide +kernel) (by decide +kernel), tb_g 101 (by decide +kernel) (by decide +kernel), by decide +kernel, by decide +kernel, by decide +kernel⟩
theorem is_1 : mk_iok (13, 12, 136, 1) := ⟨by decide, by decide, tb_g 1032 (by decide +kernel) (by decide +kernel), tb_g 1033 (by decide +kernel) (by decide +kernel), by decide +kernel, by decide +kernel, by decide +kernel⟩
theorem is_2 : mk_iok (11, 11, 52, 3) := ⟨by decide, by decide, tb_g 108 (by decide +kernel) (by decide +kernel), tb_g 109 (by decide +kernel) (by decide +kernel), by decide +kernel, by decide +kernel, by decide +kernel⟩
theorem is_3 : mk_iok (11, 20, 4, 2) := ⟨by decide, by decide, tb_g 133 (by decide +kernel) (by decide +kernel), tb_g 134 (by decide +kernel) (by decide +kernel), by decide +kernel, by decide +kernel, by decide +kernel⟩
theorem is_4 : mk_iok (11, 25, 72, 2) := ⟨by decide, by decide, tb_g 155 (by decide +kernel) (by decide +kernel), tb_g 156 (by decide +kernel) (by decide +kernel), by decide +kernel, by decide +kernel, by decide +kernel⟩
theorem is_5 : mk_iok (11, 28, 16, 2) := ⟨by decide, by decide, tb_g 163 (by decide +kernel) (by decide +kernel), tb_g 164 (by decide +kernel) (by decide +kernel), by decide +kernel, by decide +kernel, by decide +kernel⟩
theorem is_6 : mk_iok (11, 31, 49, 2) := ⟨by decide, by decide, tb_g 171 (by decide +kernel) (by decide +kernel), tb_g 172 (by decide +kernel) (by decide +kernel), by decide +kernel, by decide +kernel, by decide +kernel⟩
theorem is_7 : mk_iok (11, 34, 64, 2) := ⟨by decide, by decide, tb_g 179 (by decide +kernel) (by decide +kernel), tb_g 180 (by decide +kernel) (by decide +kernel), by decide +kernel, by decide +kernel, by decide +kernel⟩
theorem is_8 : mk_iok (11, 37, 1, 2) := ⟨by decide, by decide, tb_g 187 (by decide +kernel) (by decide +kernel), tb_g 188 (by decide +kernel) (by decide +kernel), by decide +kernel, by decide +kernel, by decide +kernel⟩
theorem is_9 : mk_iok (11, 40, 11, 2) := ⟨by decide, by decide, tb_g 195 (by decide +kernel) (by decide +kernel), tb_g 196 (by decide +kernel) (by decide +kernel), by decide +kernel, by decide +kernel, by decide +kernel⟩
theorem is_10 : mk_iok (11, 47, 19, 2) := ⟨by decide, by decide, tb_g 203 (by decide +kernel) (by decide +kernel), tb_g 204 (by decide +kernel) (by decide +kernel), by decide +kernel, by decide +kernel, by decide +kernel⟩
theorem is_11 : mk_iok (11, 62, 40, 1) := ⟨by decide, by decide, tb_g 320 (by decide +kernel) (by decide +kernel), tb_g 321 (by decide +kernel) (by decide +kernel), by decide +kernel, by decide +kernel, by decide +kernel⟩
theorem is_12 : mk_iok (4, 41, 67, 4) := ⟨by decide, by decide, tb_g 211 (by decide +kernel) (by decide +kernel), tb_g 212 (by decide +kernel) (by decide +kernel), by decide +kernel, by decide +kernel, by decide +kernel⟩
theorem is_13 : mk_iok (4, 56, 52, 3) := ⟨by decide, by decide, tb_g 243 (by decide +kernel) (by decide +kernel), tb_g 109 (by decide +kernel) (by decide +kernel), by decide +kernel, by decide +kernel, by decide +kernel⟩
theorem is_14 : mk_iok (9, 11, 52, 3) := ⟨by decide, by decide, tb_g 216 (by decide +kernel) (by decide +kernel), tb_g 109 (by decide +kernel) (by decide +kernel), by decide +kernel, by decide +kernel, by decide +kernel⟩
theorem is_15 : mk_iok (5, 11, 52, 3) := ⟨by decide, by decide, tb_g 325 (by decide +kernel) (by decide +kernel), tb_g 109 (by decide +kernel) (by decide +kernel), by decide +kernel, by decide +kernel, by decide +kernel⟩
theorem is_16 : mk_iok (10, 1, 4, 2) := ⟨by decide, by decide, tb_g 158 (by decide +kernel) (by decide +kernel), tb_g 134 (by decide +kernel) (by decide +kernel), by decide +kernel, by decide +kernel, by decide +kernel⟩
theorem is_17 : mk_iok (3, 1, 4, 2) := ⟨by decide, by decide, tb_g 166 (by decide +kernel) (by decide +kernel), tb_g 134 (by decide +kernel) (by decide +kernel), by decide +kernel, by decide +kernel, by decide +kernel⟩
theorem is_18 : mk_iok (6, 3, 4, 2) := ⟨by decide, by decide, tb_g 174 (by decide +kernel) (by decide +kernel), tb_g 134 (by decide +kernel) (by decide +kernel), by decide +kernel, by decide +kernel, by decide +kernel⟩
theorem is_19 : mk_iok (8, 1, 72, 2) := ⟨by decide, by decide, tb_g 182 (by decide +kernel) (by decide +kernel), tb_g 156 (by decide +kernel) (by decide +kernel), by decide +kernel, by decide +kernel, by decide +kernel⟩
theorem is_20 : mk_iok (0, 1, 16, 2) := ⟨by decide, by decide, tb_g 190 (by decide +kernel) (by decide +kernel), tb_g 164 (by decide +kernel) (by decide +kernel), by decide +kernel, by decide +kernel, by decide +kernel⟩
theorem is_21 : mk_iok (2, 1, 49, 2) := ⟨by decide, by decide, tb_g 198 (by decide +kernel) (by decide +kernel), tb_g 172 (by decide +kernel) (by decide +kernel), by decide +kernel, by decide +kernel, by decide +kernel⟩
theorem mk_iall : ∀ q ∈ mk_IS, mk_iok q := List.forall_mem_cons.mpr ⟨is_0, List.forall_mem_cons.mpr ⟨is_1, List.forall_mem_cons.mpr ⟨is_2, List.forall_mem_cons.mpr ⟨is_3, List.forall_mem_cons.mpr ⟨is_4, List.forall_mem_cons.mpr ⟨is_5, List.forall_mem_cons.mpr ⟨is_6, List.forall_mem_cons.mpr ⟨is_7, List.forall_mem_cons.mpr ⟨is_8, List.forall_mem_cons.mpr ⟨is_9, List.forall_mem_cons.mpr ⟨is_10, List.forall_mem_cons.mpr ⟨is_11, List.forall_mem_cons.mpr ⟨is_12, List.forall_mem_cons.mpr ⟨is_13, List.forall_mem_cons.mpr ⟨is_14, List.forall_mem_cons.mpr ⟨is_15, List.forall_mem_cons.mpr ⟨is_16, List.forall_mem_cons.mpr ⟨is_17, List.forall_mem_cons.mpr ⟨is_18, List.forall_mem_cons.mpr ⟨is_19, List.forall_mem_cons.mpr ⟨is_20, List.forall_mem_cons.mpr ⟨is_21, fun _ h => absurd h List.not_mem_nil⟩⟩⟩⟩⟩⟩⟩⟩⟩⟩⟩⟩⟩⟩⟩⟩⟩⟩⟩⟩⟩⟩
theorem mk_oall : ∀ q ∈ mk_OI, Cond.methodLink (mm_cn q.1) q.2 Lib.objectInit ∈ lw_g := List.forall_mem_cons.mpr ⟨tb_g 103 (by decide +kernel) (by decide +kernel), List.forall_mem_cons.mpr ⟨tb_g 111 (by decide +kernel) (by decide +kernel), List.forall_mem_cons.mpr ⟨tb_g 136 (by decide +kernel) (by decide +kernel), List.forall_mem_cons.mpr ⟨tb_g 206 (by decide +kernel) (by decide +kernel), List.forall_mem_cons.mpr ⟨tb_g 214 (by decide +kernel) (by decide +kernel), List.forall_mem_cons.mpr ⟨tb_g 323 (by decide +kernel) (by decide +kernel), List.forall_mem_cons.mpr ⟨tb_g 1035 (by decide +kernel) (by decide +kernel), fun _ h => absurd h List.not_mem_nil⟩⟩⟩⟩⟩⟩⟩
theorem mk_oi1 : Cond.instanceMethod Lib.objectInit ∈ lw_g := tb_g 104 (by decide +kernel) (by decide +kernel)
theorem mk_oi2 : Cond.code Lib.objectInit { data := #[177] } 1 none ∈ lw_g := tb_g 105 (by decide +kernel) (by decide +kernel)
theorem mk_aw1 : Cond.classLink "ChairViews" 18 "ChairViews$Chair" ∈ lw_g := tb_g 130 (by decide +kernel) (by decide +kernel)
theorem mk_aw2 : Cond.classLink "ChairViews" 9 "ChairViews$Row" ∈ lw_g := tb_g 106 (by decide +kernel) (by decide +kernel)
theorem mk_aci : Cond.arrayClass .int ∈ lw_g := tb_g 129 (by decide +kernel) (by decide +kernel)
def mk_isr : FieldType → Bool
  | .object _ => true
  | .array _ => true
  | _ => false
def mk_fko (ci : Nat) (r : vw_C) : Prop := ∀ j, j < r.2.2 → (r.2.1 j).1 = mm_cn (mm_dc ci j) ∧ (mm_nf ci j = false → (r.2.1 j).2.2.2 = true) ∧ (mm_fk ci j = 3 → (parseFieldDescriptor (r.2.1 j).2.2.1).map mk_isr = some true) ∧ mm_fk ci j ≤ 3
theorem mk_fo0 : mk_fko 0 (RX0, TX0, 1) := by unfold mk_fko; decide +kernel
theorem mk_fo1 : mk_fko 1 (RX1, TX1, 1) := by unfold mk_fko; decide +kernel
theorem mk_fo2 : mk_fko 2 (RX2, TX2, 1) := by unfold mk_fko; decide +kernel
theorem mk_fo3 : mk_fko 3 (RX3, TX3, 1) := by unfold mk_fko; decide +kernel
theorem mk_fo4 : mk_fko 4 (RX4, TX4, 18) := by unfold mk_fko; decide +kernel
theorem mk_fo5 : mk_fko 5 (RX5, TX5, 5) := by unfold mk_fko; decide +kernel
theorem mk_fo6 : mk_fko 6 (RX6, TX6, 1) := by unfold mk_fko; decide +kernel
theorem mk_fo7 : mk_fko 7 (RX7, TX7, 3) := by unfold mk_fko; decide +kernel
theorem mk_fo8 : mk_fko 8 (RX8, TX8, 1) := by unfold mk_fko; decide +kernel
theorem mk_fo9 : mk_fko 9 (RX9, TX9, 4) := by unfold mk_fko; decide +kernel
theorem mk_fo10 : mk_fko 10 (RX10, TX10, 1) := by unfold mk_fko; decide +kernel
theorem mk_fo11 : mk_fko 11 (RX11, TX11, 10) := by unfold mk_fko; decide +kernel
theorem mk_fo12 : mk_fko 12 (RX12, TX12, 19) := by unfold mk_fko; decide +kernel
theorem mk_fkoall : ∀ (ci : Nat) (r : vw_C), vwCl[ci]? = some r → mk_fko ci r
  | 0, _, h => by cases h; exact mk_fo0
  | 1, _, h => by cases h; exact mk_fo1
  | 2, _, h => by cases h; exact mk_fo2
  | 3, _, h => by cases h; exact mk_fo3
  | 4, _, h => by cases h; exact mk_fo4
  | 5, _, h => by cases h; exact mk_fo5
  | 6, _, h => by cases h; exact mk_fo6
  | 7, _, h => by cases h; exact mk_fo7
  | 8, _, h => by cases h; exact mk_fo8
  | 9, _, h => by cases h; exact mk_fo9
  | 10, _, h => by cases h; exact mk_fo10
  | 11, _, h => by cases h; exact mk_fo11
  | 12, _, h => by cases h; exact mk_fo12
  | k + 13, _, h => by simp [vwCl] at h
def mk_stp (mid : Nat) (e : mm_E) (ls st : List Value) (T : List mm_C) (I : mm_I) : Option (Nat × List Value × List Value × List mm_C × mm_I) := match e.1 with
  | .new n => if mk_NW.contains (mm_own mid, n, e.2.2.1) = true ∧ mk_ok T ls st = true then some (e.2.1, ls, .ref T.length :: st, T ++ [(e.2.2.1, (mk_def e.2.2.1).length, mk_def e.2.2.1)], mk_rp I T.length) else none
  | .newarray .int => match st with
    | .int n :: r => if ¬ n < 0 ∧ n.toNatClampNeg ≤ 1000 ∧ mk_ok T ls r = true then some (e.2.1, ls, .ref T.length :: r, T ++ [(100, n.toNatClampNeg, [])], mk_rp I T.length) else none
    | _ => none
  | .anewarray n => match st with
    | .int k :: r => if ¬ k < 0 ∧ k.toNatClampNeg ≤ 1000 ∧ mk_AW.contains (mm_own mid, n, e.2.2.1) = true ∧ mk_ok T ls r = true then some (e.2.1, ls, .ref T.length :: r, T ++ [(e.2.2.1, k.toNatClampNeg, List.replicate k.toNatClampNeg .null)], mk_rp I T.length) else none
    | _ => none
  | .putfield _ => match st with
    | .ref q :: .ref a :: r => match T[a]? with
      | some c => if c.1 < 13 ∧ mm_dc c.1 (e.2.2.1 % 100) = e.2.2.1 / 100 ∧ mm_nf c.1 (e.2.2.1 % 100) = false ∧ mm_own mid = e.2.2.1 / 100 ∧ mm_fk c.1 (e.2.2.1 % 100) = 3 ∧ e.2.2.1 % 100 < c.2.2.length ∧ mid ≠ 0 then some (e.2.1, ls, r, T.set a (c.1, c.2.1, c.2.2.set (e.2.2.1 % 100) (.ref q)), I) else none
      | none => none
    | .int x :: .ref a :: r => match T[a]? with
      | some c => if c.1 < 13 ∧ mm_dc c.1 (e.2.2.1 % 100) = e.2.2.1 / 100 ∧ mm_nf c.1 (e.2.2.1 % 100) = false ∧ mm_own mid = e.2.2.1 / 100 ∧ mm_fk c.1 (e.2.2.1 % 100) = 0 ∧ mid ≠ 0 then (match c.2.2[e.2.2.1 % 100]? with
        | some (.int _) => some (e.2.1, ls, r, T, mm_up I a (e.2.2.1 % 100) x)
        | _ => none) else none
      | none => none
    | _ => none
  | .aastore => match st with
    | .ref q :: .int i :: .ref a :: r => match T[a]?, T[q]? with
      | some c, some d => if ((c.1 = 101 ∧ mk_CH.contains d.1 = true) ∨ (c.1 = 102 ∧ d.1 = 7)) ∧ ¬ (i < 0 ∨ c.2.1 ≤ i.toNatClampNeg) ∧ i.toNatClampNeg < c.2.2.length then some (e.2.1, ls, r, T.set a (c.1, c.2.1, c.2.2.set i.toNatClampNeg (.ref q)), I) else none
      | _, _ => none
    | _ => none
  | .invokespecial n => if e.2.2.1 = 10001 ∧ mk_OI.contains (mm_own mid, n) = true then (match st with
    | .ref _ :: r => if (r.map Value.category).sum ≤ 8 then some (e.2.1, ls, r, T, I) else none
    | _ => none) else none
  | _ => none
def mk_call (mid : Nat) (e : mm_E) (st : List Value) : Option (Nat × Nat × List Value × List Value) := match e.1 with
  | .invokespecial n => match mm_CS[e.2.2.1]? with
    | some (na, kd, tg) => if kd = 3 ∧ na ≤ st.length ∧ ((st.drop na).map Value.category).sum ≤ 8 then (match tg.lookup 0 with
      | some y => if (mm_sl (st.take na).reverse).length ≤ mm_ml y ∧ mk_IS.contains (mm_own mid, n, y, na) = true then (match (st.take na).reverse with
        | .ref b :: as => some (y, b, as, st.drop na)
        | _ => none) else none
      | none => none) else none
    | none => none
  | _ => none
def mk_stop (mid pc : Nat) (st : List Value) : Bool := if mid = 0 then pc == 18 else (match mm_at mid pc with
  | some e => (match e.1, st with
    | .return_, [] => true
    | _, _ => false)
  | none => false)
def mk_isX : Instr → Bool
  | .iaload => true
  | .arraylength => true
  | _ => false
abbrev mk_x0 : Nat × (Nat → Int32) := (0, fun _ => 0)
def mk_run : Nat → Nat → Nat → Nat → List Value → List Value → List mm_C → mm_I → Option (Nat × List Value × List Value × List mm_C × mm_I)
  | 0, _, _, _, _, _, _, _ => none
  | n + 1, d, mid, pc, ls, st, T, I => if mk_stop mid pc st = true then some (pc, ls, st, T, I) else match mm_at mid pc with
    | none => none
    | some e => match mk_call mid e st with
      | some (y, b, as, rest) => match d with
        | 0 => none
        | d' + 1 => if mk_ok T ls rest = true then (match mk_run n d' y 0 (mm_ent y (.ref b :: as)) [] T I with
          | some (_, _, _, T1, I1) => mk_run n (d' + 1) mid e.2.1 ls rest T1 I1
          | none => none) else none
      | none => match mk_stp mid e ls st T I with
        | some (pc', ls', st', T', I') => mk_run n d mid pc' ls' st' T' I'
        | none => match mm_call T e st with
          | some (y, as, rest) => match d with
            | 0 => none
            | d' + 1 => match mm_run T mk_x0 n d' y 0 (mm_ent y as) [] I with
              | some (r, I1) => mk_run n (d' + 1) mid e.2.1 ls (r.toList ++ rest) T I1
              | none => none
          | none => if mid = 0 ∧ mk_isX e.1 = true then none else match mm_stp T mk_x0 mid e pc ls st I with
            | some (pc', ls', st', I') => mk_run n d mid pc' ls' st' T I'
            | none => none
def mk_R : Option (Nat × List Value × List Value × List mm_C × mm_I) := mk_run 400 6 0 0 [.ref 1000, .retAddr 0, .retAddr 0, .retAddr 0] [] [] (fun _ _ => 0)
def mk_I0 : mm_I := (mk_R.map (fun r => r.2.2.2.2)).getD (fun _ _ => 0)
def mk_Rk : Bool := match mk_R with
  | some (a, b, c, d, _) => decide (a = 18) && decide (b = [.ref 1000, .ref 0, .ref 91, .int 0]) && decide (c = []) && decide (d = mm_T0)
  | none => false
theorem mk_Rok : mk_Rk = true := by decide +kernel
theorem mk_Rrun : mk_run 400 6 0 0 [.ref 1000, .retAddr 0, .retAddr 0, .retAddr 0] [] [] (fun _ _ => 0) = some (18, [.ref 1000, .ref 0, .ref 91, .int 0], [], mm_T0, mk_I0) := by
  have h := mk_Rok
  have e : mk_I0 = (mk_R.map (fun r => r.2.2.2.2)).getD (fun _ _ => 0) := rfl
  rw [e]
  show mk_R = _
  unfold mk_Rk at h
  cases hr : mk_R with
  | none => rw [hr] at h; cases h
  | some r =>
    rw [hr] at h
    obtain ⟨a, b, c, d, i⟩ := r
    simp only [Bool.and_eq_true, decide_eq_true_eq] at h
    obtain ⟨⟨⟨rfl, rfl⟩, rfl⟩, rfl⟩ := h
    rfl
