/-! WHAT A RUN COMES TO: mm_Ev .. Q: from here the small machine returns, with Q of the answer and of the ints behind it. -/
def mm_Ev (T : List mm_C) (X : Nat × (Nat → Int32)) (d mid pc : Nat) (ls st : List Value) (I : mm_I) (Q : Option Value → mm_I → Prop) : Prop :=
  ∃ (n : Nat) (r : Option Value) (J : mm_I), mm_run T X n d mid pc ls st I = some (r, J) ∧ Q r J
section EV
variable {T : List mm_C} {X : Nat × (Nat → Int32)} {d mid pc nx aux : Nat} {vv : Value} {ls st : List Value} {I : mm_I} {Q : Option Value → mm_I → Prop}
theorem mm_mono1 (T : List mm_C) (X : Nat × (Nat → Int32)) : ∀ (n d mid pc : Nat) (ls st : List Value) (I : mm_I) (z : Option Value × mm_I), mm_run T X n d mid pc ls st I = some z → mm_run T X (n + 1) d mid pc ls st I = some z := by
  intro n
  induction n with
  | zero => intro d mid pc ls st I z h; cases h
  | succ n ih =>
    intro d mid pc ls st I z h
    rw [mm_run] at h ⊢
    cases h1 : mm_at mid pc with
    | none => rw [h1] at h; cases h
    | some e =>
      rw [h1] at h
      dsimp only at h ⊢
      cases h2 : mm_ret mid e st with
      | some r => rw [h2] at h; exact h
      | none =>
        rw [h2] at h
        dsimp only at h ⊢
        cases h3 : mm_call T e st with
        | some w =>
          obtain ⟨y, as, rest⟩ := w
          rw [h3] at h
          dsimp only at h ⊢
          cases d with
          | zero => cases h
          | succ d =>
            dsimp only at h ⊢
            cases h4 : mm_run T X n d y 0 (mm_ent y as) [] I with
            | none => rw [h4] at h; cases h
            | some w =>
              obtain ⟨r, I'⟩ := w
              rw [h4] at h
              rw [ih _ _ _ _ _ _ _ h4]
              exact ih _ _ _ _ _ _ _ h
        | none =>
          rw [h3] at h
          dsimp only at h ⊢
          cases h4 : mm_stp T X mid e pc ls st I with
          | none => rw [h4] at h; cases h
          | some w =>
            obtain ⟨pc', ls', st', I'⟩ := w
            rw [h4] at h
            exact ih _ _ _ _ _ _ _ h
theorem mm_mono {n k : Nat} {z : Option Value × mm_I} (h : mm_run T X n d mid pc ls st I = some z) : mm_run T X (n + k) d mid pc ls st I = some z := by
  induction k with
  | zero => exact h
  | succ k ih => exact mm_mono1 T X _ _ _ _ _ _ _ _ ih
theorem ev_of {e : mm_E} {pc' : Nat} {ls' st' : List Value} {I' : mm_I} (h : mm_at mid pc = some e) (hr : mm_ret mid e st = none) (hc : mm_call T e st = none) (hs : mm_stp T X mid e pc ls st I = some (pc', ls', st', I')) (k : mm_Ev T X d mid pc' ls' st' I' Q) : mm_Ev T X d mid pc ls st I Q := by
  obtain ⟨n, r, J, h1, h2⟩ := k
  exact ⟨n + 1, r, J, by rw [mm_run, h]; dsimp only; rw [hr]; dsimp only; rw [hc]; dsimp only; rw [hs]; exact h1, h2⟩
theorem ev_call {e : mm_E} {y : Nat} {as rest : List Value} (h : mm_at mid pc = some e) (hr : mm_ret mid e st = none) (hc : mm_call T e st = some (y, as, rest)) (k : mm_Ev T X d y 0 (mm_ent y as) [] I (fun r I' => mm_Ev T X (d + 1) mid e.2.1 ls (r.toList ++ rest) I' Q)) : mm_Ev T X (d + 1) mid pc ls st I Q := by
  obtain ⟨n1, r1, J1, h1, n2, r2, J2, h2, hQ⟩ := k
  refine ⟨n1 + n2 + 1, r2, J2, ?_, hQ⟩
  rw [mm_run, h]; dsimp only; rw [hr]; dsimp only; rw [hc]; dsimp only
  rw [mm_mono (k := n2) h1]; dsimp only
  rw [Nat.add_comm n1 n2]
  exact mm_mono (k := n1) h2
theorem ev_ret {e : mm_E} {r : Option Value} (h : mm_at mid pc = some e) (hr : mm_ret mid e st = some r) (k : Q r I) : mm_Ev T X d mid pc ls st I Q :=
  ⟨1, r, I, by rw [mm_run, h]; dsimp only; rw [hr], k⟩
theorem ev_conseq {Q' : Option Value → mm_I → Prop} (h : mm_Ev T X d mid pc ls st I Q) (hQ : ∀ r J, Q r J → Q' r J) : mm_Ev T X d mid pc ls st I Q' := by
  obtain ⟨n, r, J, h1, h2⟩ := h
  exact ⟨n, r, J, h1, hQ _ _ h2⟩
theorem ev_vret (h : mm_at mid pc = some (.return_, nx, aux, vv)) (hk : mm_rk mid = 2) (k : Q none I) : mm_Ev T X d mid pc ls [] I Q := ev_ret h (show (if mm_rk mid = 2 then some (none : Option Value) else none) = _ from if_pos hk) k
theorem ev_aret {a : Nat} (h : mm_at mid pc = some (.areturn, nx, aux, vv)) (hk : mm_rk mid = 3) (k : Q (some (.ref a)) I) : mm_Ev T X d mid pc ls [.ref a] I Q := ev_ret h (show (if mm_rk mid = 3 then some (some (Value.ref a)) else none) = _ from if_pos hk) k
theorem ev_iret {v : Int32} (h : mm_at mid pc = some (.ireturn, nx, aux, vv)) (hk : mm_rk mid = 0) (k : Q (some (.int v)) I) : mm_Ev T X d mid pc ls [.int v] I Q :=
  ev_ret h (show (if mm_rk mid = 0 ∨ (mm_rk mid = 1 ∧ (v = 0 ∨ v = 1)) then some (some (Value.int v)) else none) = _ from if_pos (Or.inl hk)) k
theorem ev_zret {v : Int32} (h : mm_at mid pc = some (.ireturn, nx, aux, vv)) (hk : mm_rk mid = 1) (hv : v = 0 ∨ v = 1) (k : Q (some (.int v)) I) : mm_Ev T X d mid pc ls [.int v] I Q :=
  ev_ret h (show (if mm_rk mid = 0 ∨ (mm_rk mid = 1 ∧ (v = 0 ∨ v = 1)) then some (some (Value.int v)) else none) = _ from if_pos (Or.inr ⟨hk, hv⟩)) k
theorem ev_iconst {n : Int} (h : mm_at mid pc = some (.iconst n, nx, aux, vv)) (k : mm_Ev T X d mid nx ls (vv :: st) I Q) : mm_Ev T X d mid pc ls st I Q := ev_of h rfl rfl rfl k
theorem ev_bipush {n : Int} (h : mm_at mid pc = some (.bipush n, nx, aux, vv)) (k : mm_Ev T X d mid nx ls (vv :: st) I Q) : mm_Ev T X d mid pc ls st I Q := ev_of h rfl rfl rfl k
theorem ev_sipush {n : Int} (h : mm_at mid pc = some (.sipush n, nx, aux, vv)) (k : mm_Ev T X d mid nx ls (vv :: st) I Q) : mm_Ev T X d mid pc ls st I Q := ev_of h rfl rfl rfl k
theorem ev_ldc {n : Nat} (h : mm_at mid pc = some (.ldc n, nx, aux, vv)) (k : mm_Ev T X d mid nx ls (vv :: st) I Q) : mm_Ev T X d mid pc ls st I Q := ev_of h rfl rfl rfl k
theorem ev_ldc_w {n : Nat} (h : mm_at mid pc = some (.ldc_w n, nx, aux, vv)) (k : mm_Ev T X d mid nx ls (vv :: st) I Q) : mm_Ev T X d mid pc ls st I Q := ev_of h rfl rfl rfl k
theorem ev_ldc2_w {n : Nat} (h : mm_at mid pc = some (.ldc2_w n, nx, aux, vv)) (k : mm_Ev T X d mid nx ls (vv :: st) I Q) : mm_Ev T X d mid pc ls st I Q := ev_of h rfl rfl rfl k
theorem ev_getstatic {n : Nat} (h : mm_at mid pc = some (.getstatic n, nx, aux, vv)) (k : mm_Ev T X d mid nx ls (vv :: st) I Q) : mm_Ev T X d mid pc ls st I Q := ev_of h rfl rfl rfl k
theorem ev_iload {n : Nat} {x : Int32} (h : mm_at mid pc = some (.iload n, nx, aux, vv)) (hl : ls[aux]? = some (.int x)) (k : mm_Ev T X d mid nx ls (.int x :: st) I Q) : mm_Ev T X d mid pc ls st I Q := ev_of h rfl rfl (by simp only [mm_stp]; rw [hl]) k
theorem ev_iload_n {n : Fin 4} {x : Int32} (h : mm_at mid pc = some (.iload_n n, nx, aux, vv)) (hl : ls[aux]? = some (.int x)) (k : mm_Ev T X d mid nx ls (.int x :: st) I Q) : mm_Ev T X d mid pc ls st I Q := ev_of h rfl rfl (by simp only [mm_stp]; rw [hl]) k
theorem ev_lload_n {n : Fin 4} {x : Int64} (h : mm_at mid pc = some (.lload_n n, nx, aux, vv)) (hl : ls[aux]? = some (.long x)) (k : mm_Ev T X d mid nx ls (.long x :: st) I Q) : mm_Ev T X d mid pc ls st I Q := ev_of h rfl rfl (by simp only [mm_stp]; rw [hl]) k
theorem ev_aload {n : Nat} {x : Nat} (h : mm_at mid pc = some (.aload n, nx, aux, vv)) (hl : ls[aux]? = some (.ref x)) (k : mm_Ev T X d mid nx ls (.ref x :: st) I Q) : mm_Ev T X d mid pc ls st I Q := ev_of h rfl rfl (by simp only [mm_stp]; rw [hl]) k
theorem ev_aload_n {n : Fin 4} {x : Nat} (h : mm_at mid pc = some (.aload_n n, nx, aux, vv)) (hl : ls[aux]? = some (.ref x)) (k : mm_Ev T X d mid nx ls (.ref x :: st) I Q) : mm_Ev T X d mid pc ls st I Q := ev_of h rfl rfl (by simp only [mm_stp]; rw [hl]) k
theorem ev_istore {n : Nat} {x : Int32} {ls' : List Value} (h : mm_at mid pc = some (.istore n, nx, aux, vv)) (hl : mm_sto ls aux = true) (he : ls.set aux (.int x) = ls') (k : mm_Ev T X d mid nx ls' st I Q) : mm_Ev T X d mid pc ls (.int x :: st) I Q := ev_of h rfl rfl (by simp only [mm_stp]; rw [if_pos hl, he]) k
theorem ev_istore_n {n : Fin 4} {x : Int32} {ls' : List Value} (h : mm_at mid pc = some (.istore_n n, nx, aux, vv)) (hl : mm_sto ls aux = true) (he : ls.set aux (.int x) = ls') (k : mm_Ev T X d mid nx ls' st I Q) : mm_Ev T X d mid pc ls (.int x :: st) I Q := ev_of h rfl rfl (by simp only [mm_stp]; rw [if_pos hl, he]) k
theorem ev_astore {n : Nat} {x : Nat} {ls' : List Value} (h : mm_at mid pc = some (.astore n, nx, aux, vv)) (hl : mm_sto ls aux = true) (he : ls.set aux (.ref x) = ls') (k : mm_Ev T X d mid nx ls' st I Q) : mm_Ev T X d mid pc ls (.ref x :: st) I Q := ev_of h rfl rfl (by simp only [mm_stp]; rw [if_pos hl, he]) k
theorem ev_astore_n {n : Fin 4} {x : Nat} {ls' : List Value} (h : mm_at mid pc = some (.astore_n n, nx, aux, vv)) (hl : mm_sto ls aux = true) (he : ls.set aux (.ref x) = ls') (k : mm_Ev T X d mid nx ls' st I Q) : mm_Ev T X d mid pc ls (.ref x :: st) I Q := ev_of h rfl rfl (by simp only [mm_stp]; rw [if_pos hl, he]) k
theorem ev_iinc {n : Nat} {c : Int} {x z : Int32} {ls' : List Value} (h : mm_at mid pc = some (.iinc n c, nx, aux, .int z)) (hg : ls[aux]? = some (.int x)) (hl : mm_sto ls aux = true) (he : ls.set aux (.int (x + z)) = ls') (k : mm_Ev T X d mid nx ls' st I Q) : mm_Ev T X d mid pc ls st I Q := ev_of h rfl rfl (by simp only [mm_stp]; rw [hg]; dsimp only; rw [if_pos hl, he]) k
theorem ev_iadd {x y : Int32} (h : mm_at mid pc = some (.iadd, nx, aux, vv)) (k : mm_Ev T X d mid nx ls (.int (x + y) :: st) I Q) : mm_Ev T X d mid pc ls (.int y :: .int x :: st) I Q := ev_of h rfl rfl rfl k
theorem ev_isub {x y : Int32} (h : mm_at mid pc = some (.isub, nx, aux, vv)) (k : mm_Ev T X d mid nx ls (.int (x - y) :: st) I Q) : mm_Ev T X d mid pc ls (.int y :: .int x :: st) I Q := ev_of h rfl rfl rfl k
theorem ev_imul {x y : Int32} (h : mm_at mid pc = some (.imul, nx, aux, vv)) (k : mm_Ev T X d mid nx ls (.int (x * y) :: st) I Q) : mm_Ev T X d mid pc ls (.int y :: .int x :: st) I Q := ev_of h rfl rfl rfl k
theorem ev_iand {x y : Int32} (h : mm_at mid pc = some (.iand, nx, aux, vv)) (k : mm_Ev T X d mid nx ls (.int (x &&& y) :: st) I Q) : mm_Ev T X d mid pc ls (.int y :: .int x :: st) I Q := ev_of h rfl rfl rfl k
theorem ev_ior {x y : Int32} (h : mm_at mid pc = some (.ior, nx, aux, vv)) (k : mm_Ev T X d mid nx ls (.int (x ||| y) :: st) I Q) : mm_Ev T X d mid pc ls (.int y :: .int x :: st) I Q := ev_of h rfl rfl rfl k
theorem ev_ixor {x y : Int32} (h : mm_at mid pc = some (.ixor, nx, aux, vv)) (k : mm_Ev T X d mid nx ls (.int (x ^^^ y) :: st) I Q) : mm_Ev T X d mid pc ls (.int y :: .int x :: st) I Q := ev_of h rfl rfl rfl k
theorem ev_ishl {x y : Int32} (h : mm_at mid pc = some (.ishl, nx, aux, vv)) (k : mm_Ev T X d mid nx ls (.int (x <<< (y &&& 31)) :: st) I Q) : mm_Ev T X d mid pc ls (.int y :: .int x :: st) I Q := ev_of h rfl rfl rfl k
theorem ev_ishr {x y : Int32} (h : mm_at mid pc = some (.ishr, nx, aux, vv)) (k : mm_Ev T X d mid nx ls (.int (x >>> (y &&& 31)) :: st) I Q) : mm_Ev T X d mid pc ls (.int y :: .int x :: st) I Q := ev_of h rfl rfl rfl k
theorem ev_iushr {x y : Int32} (h : mm_at mid pc = some (.iushr, nx, aux, vv)) (k : mm_Ev T X d mid nx ls (.int (x.toUInt32 >>> (y.toUInt32 &&& Int32.toUInt32 31)).toInt32 :: st) I Q) : mm_Ev T X d mid pc ls (.int y :: .int x :: st) I Q := ev_of h rfl rfl rfl k
theorem ev_idiv {x y : Int32} (h : mm_at mid pc = some (.idiv, nx, aux, vv)) (hy : ¬ y = 0) (k : mm_Ev T X d mid nx ls (.int (x / y) :: st) I Q) : mm_Ev T X d mid pc ls (.int y :: .int x :: st) I Q := ev_of h rfl rfl (by simp only [mm_stp]; rw [if_neg hy]) k
theorem ev_irem {x y : Int32} (h : mm_at mid pc = some (.irem, nx, aux, vv)) (hy : ¬ y = 0) (k : mm_Ev T X d mid nx ls (.int (x - x / y * y) :: st) I Q) : mm_Ev T X d mid pc ls (.int y :: .int x :: st) I Q := ev_of h rfl rfl (by simp only [mm_stp]; rw [if_neg hy]) k
theorem ev_ineg {x : Int32} (h : mm_at mid pc = some (.ineg, nx, aux, vv)) (k : mm_Ev T X d mid nx ls (.int (-x) :: st) I Q) : mm_Ev T X d mid pc ls (.int x :: st) I Q := ev_of h rfl rfl rfl k
theorem ev_i2b {x : Int32} (h : mm_at mid pc = some (.i2b, nx, aux, vv)) (k : mm_Ev T X d mid nx ls (.int x.toInt8.toInt32 :: st) I Q) : mm_Ev T X d mid pc ls (.int x :: st) I Q := ev_of h rfl rfl rfl k
theorem ev_i2s {x : Int32} (h : mm_at mid pc = some (.i2s, nx, aux, vv)) (k : mm_Ev T X d mid nx ls (.int x.toInt16.toInt32 :: st) I Q) : mm_Ev T X d mid pc ls (.int x :: st) I Q := ev_of h rfl rfl rfl k
theorem ev_i2c {x : Int32} (h : mm_at mid pc = some (.i2c, nx, aux, vv)) (k : mm_Ev T X d mid nx ls (.int (x.toUInt32 % 65536).toInt32 :: st) I Q) : mm_Ev T X d mid pc ls (.int x :: st) I Q := ev_of h rfl rfl rfl k
theorem ev_i2l {x : Int32} (h : mm_at mid pc = some (.i2l, nx, aux, vv)) (k : mm_Ev T X d mid nx ls (.long x.toInt64 :: st) I Q) : mm_Ev T X d mid pc ls (.int x :: st) I Q := ev_of h rfl rfl rfl k
theorem ev_l2i {x : Int64} (h : mm_at mid pc = some (.l2i, nx, aux, vv)) (k : mm_Ev T X d mid nx ls (.int x.toInt32 :: st) I Q) : mm_Ev T X d mid pc ls (.long x :: st) I Q := ev_of h rfl rfl rfl k
theorem ev_land {x y : Int64} (h : mm_at mid pc = some (.land, nx, aux, vv)) (k : mm_Ev T X d mid nx ls (.long (x &&& y) :: st) I Q) : mm_Ev T X d mid pc ls (.long y :: .long x :: st) I Q := ev_of h rfl rfl rfl k
theorem ev_lor {x y : Int64} (h : mm_at mid pc = some (.lor, nx, aux, vv)) (k : mm_Ev T X d mid nx ls (.long (x ||| y) :: st) I Q) : mm_Ev T X d mid pc ls (.long y :: .long x :: st) I Q := ev_of h rfl rfl rfl k
theorem ev_lshl {x : Int64} {y : Int32} (h : mm_at mid pc = some (.lshl, nx, aux, vv)) (k : mm_Ev T X d mid nx ls (.long (x <<< (y.toInt64 &&& 63)) :: st) I Q) : mm_Ev T X d mid pc ls (.int y :: .long x :: st) I Q := ev_of h rfl rfl rfl k
theorem ev_lshr {x : Int64} {y : Int32} (h : mm_at mid pc = some (.lshr, nx, aux, vv)) (k : mm_Ev T X d mid nx ls (.long (x >>> (y.toInt64 &&& 63)) :: st) I Q) : mm_Ev T X d mid pc ls (.int y :: .long x :: st) I Q := ev_of h rfl rfl rfl k
theorem ev_lushr {x : Int64} {y : Int32} (h : mm_at mid pc = some (.lushr, nx, aux, vv)) (k : mm_Ev T X d mid nx ls (.long (x.toUInt64 >>> (y.toInt64.toUInt64 &&& Int64.toUInt64 63)).toInt64 :: st) I Q) : mm_Ev T X d mid pc ls (.int y :: .long x :: st) I Q := ev_of h rfl rfl rfl k
theorem ev_dup {v : Value} (h : mm_at mid pc = some (.dup, nx, aux, vv)) (hv : v.category = 1) (k : mm_Ev T X d mid nx ls (v :: v :: st) I Q) : mm_Ev T X d mid pc ls (v :: st) I Q := ev_of h rfl rfl (by simp only [mm_stp]; rw [if_pos hv]) k
theorem ev_dup2 {v w : Value} (h : mm_at mid pc = some (.dup2, nx, aux, vv)) (hv : v.category = 1) (hw : w.category = 1) (k : mm_Ev T X d mid nx ls (v :: w :: v :: w :: st) I Q) : mm_Ev T X d mid pc ls (v :: w :: st) I Q := ev_of h rfl rfl (by simp only [mm_stp]; rw [if_pos ⟨hv, hw⟩]) k
theorem ev_goto {n : Int} (h : mm_at mid pc = some (.goto n, nx, aux, vv)) (k : mm_Ev T X d mid aux ls st I Q) : mm_Ev T X d mid pc ls st I Q := ev_of h rfl rfl rfl k
theorem ev_icmp {c : Jvm.ClassFile.Cond} {n : Int} {x y : Int32} (h : mm_at mid pc = some (.if_icmp c n, nx, aux, vv)) (k1 : mm_cmp c x y = true → mm_Ev T X d mid aux ls st I Q) (k2 : ¬ mm_cmp c x y = true → mm_Ev T X d mid nx ls st I Q) : mm_Ev T X d mid pc ls (.int y :: .int x :: st) I Q := by
  by_cases hc : mm_cmp c x y = true
  · exact ev_of h rfl rfl (by simp only [mm_stp]; rw [if_pos hc]) (k1 hc)
  · exact ev_of h rfl rfl (by simp only [mm_stp]; rw [if_neg hc]) (k2 hc)
theorem ev_cond {c : Jvm.ClassFile.Cond} {n : Int} {x : Int32} (h : mm_at mid pc = some (.ifCond c n, nx, aux, vv)) (k1 : mm_cmp c x 0 = true → mm_Ev T X d mid aux ls st I Q) (k2 : ¬ mm_cmp c x 0 = true → mm_Ev T X d mid nx ls st I Q) : mm_Ev T X d mid pc ls (.int x :: st) I Q := by
  by_cases hc : mm_cmp c x 0 = true
  · exact ev_of h rfl rfl (by simp only [mm_stp]; rw [if_pos hc]) (k1 hc)
  · exact ev_of h rfl rfl (by simp only [mm_stp]; rw [if_neg hc]) (k2 hc)
theorem ev_icmp_eq {n : Int} {x y : Int32} (h : mm_at mid pc = some (.if_icmp .eq n, nx, aux, vv)) (k1 : x = y → mm_Ev T X d mid aux ls st I Q) (k2 : ¬ x = y → mm_Ev T X d mid nx ls st I Q) : mm_Ev T X d mid pc ls (.int y :: .int x :: st) I Q := ev_icmp h (fun z => k1 (of_decide_eq_true z)) (fun z => k2 (fun w => z (decide_eq_true w)))
theorem ev_icmp_ne {n : Int} {x y : Int32} (h : mm_at mid pc = some (.if_icmp .ne n, nx, aux, vv)) (k1 : ¬ x = y → mm_Ev T X d mid aux ls st I Q) (k2 : x = y → mm_Ev T X d mid nx ls st I Q) : mm_Ev T X d mid pc ls (.int y :: .int x :: st) I Q := ev_icmp h (fun z => k1 (of_decide_eq_true z)) (fun z => k2 (Decidable.of_not_not (fun w => z (decide_eq_true w))))
theorem ev_icmp_lt {n : Int} {x y : Int32} (h : mm_at mid pc = some (.if_icmp .lt n, nx, aux, vv)) (k1 : x < y → mm_Ev T X d mid aux ls st I Q) (k2 : ¬ x < y → mm_Ev T X d mid nx ls st I Q) : mm_Ev T X d mid pc ls (.int y :: .int x :: st) I Q := ev_icmp h (fun z => k1 (of_decide_eq_true z)) (fun z => k2 (fun w => z (decide_eq_true w)))
theorem ev_icmp_ge {n : Int} {x y : Int32} (h : mm_at mid pc = some (.if_icmp .ge n, nx, aux, vv)) (k1 : y ≤ x → mm_Ev T X d mid aux ls st I Q) (k2 : ¬ y ≤ x → mm_Ev T X d mid nx ls st I Q) : mm_Ev T X d mid pc ls (.int y :: .int x :: st) I Q := ev_icmp h (fun z => k1 (of_decide_eq_true z)) (fun z => k2 (fun w => z (decide_eq_true w)))
theorem ev_icmp_gt {n : Int} {x y : Int32} (h : mm_at mid pc = some (.if_icmp .gt n, nx, aux, vv)) (k1 : y < x → mm_Ev T X d mid aux ls st I Q) (k2 : ¬ y < x → mm_Ev T X d mid nx ls st I Q) : mm_Ev T X d mid pc ls (.int y :: .int x :: st) I Q := ev_icmp h (fun z => k1 (of_decide_eq_true z)) (fun z => k2 (fun w => z (decide_eq_true w)))
theorem ev_icmp_le {n : Int} {x y : Int32} (h : mm_at mid pc = some (.if_icmp .le n, nx, aux, vv)) (k1 : x ≤ y → mm_Ev T X d mid aux ls st I Q) (k2 : ¬ x ≤ y → mm_Ev T X d mid nx ls st I Q) : mm_Ev T X d mid pc ls (.int y :: .int x :: st) I Q := ev_icmp h (fun z => k1 (of_decide_eq_true z)) (fun z => k2 (fun w => z (decide_eq_true w)))
theorem ev_if_eq {n : Int} {x : Int32} (h : mm_at mid pc = some (.ifCond .eq n, nx, aux, vv)) (k1 : x = 0 → mm_Ev T X d mid aux ls st I Q) (k2 : ¬ x = 0 → mm_Ev T X d mid nx ls st I Q) : mm_Ev T X d mid pc ls (.int x :: st) I Q := ev_cond h (fun z => k1 (of_decide_eq_true z)) (fun z => k2 (fun w => z (decide_eq_true w)))
theorem ev_if_ne {n : Int} {x : Int32} (h : mm_at mid pc = some (.ifCond .ne n, nx, aux, vv)) (k1 : ¬ x = 0 → mm_Ev T X d mid aux ls st I Q) (k2 : x = 0 → mm_Ev T X d mid nx ls st I Q) : mm_Ev T X d mid pc ls (.int x :: st) I Q := ev_cond h (fun z => k1 (of_decide_eq_true z)) (fun z => k2 (Decidable.of_not_not (fun w => z (decide_eq_true w))))
theorem ev_if_lt {n : Int} {x : Int32} (h : mm_at mid pc = some (.ifCond .lt n, nx, aux, vv)) (k1 : x < 0 → mm_Ev T X d mid aux ls st I Q) (k2 : ¬ x < 0 → mm_Ev T X d mid nx ls st I Q) : mm_Ev T X d mid pc ls (.int x :: st) I Q := ev_cond h (fun z => k1 (of_decide_eq_true z)) (fun z => k2 (fun w => z (decide_eq_true w)))
theorem ev_if_ge {n : Int} {x : Int32} (h : mm_at mid pc = some (.ifCond .ge n, nx, aux, vv)) (k1 : 0 ≤ x → mm_Ev T X d mid aux ls st I Q) (k2 : ¬ 0 ≤ x → mm_Ev T X d mid nx ls st I Q) : mm_Ev T X d mid pc ls (.int x :: st) I Q := ev_cond h (fun z => k1 (of_decide_eq_true z)) (fun z => k2 (fun w => z (decide_eq_true w)))
theorem ev_if_gt {n : Int} {x : Int32} (h : mm_at mid pc = some (.ifCond .gt n, nx, aux, vv)) (k1 : 0 < x → mm_Ev T X d mid aux ls st I Q) (k2 : ¬ 0 < x → mm_Ev T X d mid nx ls st I Q) : mm_Ev T X d mid pc ls (.int x :: st) I Q := ev_cond h (fun z => k1 (of_decide_eq_true z)) (fun z => k2 (fun w => z (decide_eq_true w)))
theorem ev_if_le {n : Int} {x : Int32} (h : mm_at mid pc = some (.ifCond .le n, nx, aux, vv)) (k1 : x ≤ 0 → mm_Ev T X d mid aux ls st I Q) (k2 : ¬ x ≤ 0 → mm_Ev T X d mid nx ls st I Q) : mm_Ev T X d mid pc ls (.int x :: st) I Q := ev_cond h (fun z => k1 (of_decide_eq_true z)) (fun z => k2 (fun w => z (decide_eq_true w)))
theorem ev_table {d0 lo hi : Int} {offs : Array Int} {x : Int32} {t : Nat} (h : mm_at mid pc = some (.tableswitch d0 lo hi offs, nx, aux, vv)) (ht : mm_tsw pc d0 lo hi offs x = t) (k : mm_Ev T X d mid t ls st I Q) : mm_Ev T X d mid pc ls (.int x :: st) I Q := ev_of h rfl rfl (by simp only [mm_stp]; rw [ht]) k
theorem ev_lookup {d0 : Int} {ps : Array (Int × Int)} {x : Int32} {t : Nat} (h : mm_at mid pc = some (.lookupswitch d0 ps, nx, aux, vv)) (ht : mm_lsw pc d0 ps x = t) (k : mm_Ev T X d mid t ls st I Q) : mm_Ev T X d mid pc ls (.int x :: st) I Q := ev_of h rfl rfl (by simp only [mm_stp]; rw [ht]) k
/-- a reference field; an int field -/
theorem ev_getr {n a q : Nat} {c : mm_C} (h : mm_at mid pc = some (.getfield n, nx, aux, vv)) (hT : T[a]? = some c) (hs : (aux == 5000 || aux == 5001) = false) (hc : (decide (c.1 < 13) && mm_dc c.1 (aux % 100) == aux / 100) = true) (hj : c.2.2[aux % 100]? = some (.ref q)) (k : mm_Ev T X d mid nx ls (.ref q :: st) I Q) : mm_Ev T X d mid pc ls (.ref a :: st) I Q := by
  simp only [Bool.or_eq_false_iff, beq_eq_false_iff_ne, ne_eq] at hs
  simp only [Bool.and_eq_true, decide_eq_true_eq, beq_iff_eq] at hc
  exact ev_of h rfl rfl (by simp only [mm_stp]; rw [if_neg hs.1, if_neg hs.2, hT]; dsimp only; rw [if_pos hc, hj]) k
theorem ev_geti {n a : Nat} {c : mm_C} {z : Int32} (h : mm_at mid pc = some (.getfield n, nx, aux, vv)) (hT : T[a]? = some c) (hs : (aux == 5000 || aux == 5001) = false) (hc : (decide (c.1 < 13) && mm_dc c.1 (aux % 100) == aux / 100) = true) (hj : c.2.2[aux % 100]? = some (.int z)) (k : mm_Ev T X d mid nx ls (.int (I a (aux % 100)) :: st) I Q) : mm_Ev T X d mid pc ls (.ref a :: st) I Q := by
  simp only [Bool.or_eq_false_iff, beq_eq_false_iff_ne, ne_eq] at hs
  simp only [Bool.and_eq_true, decide_eq_true_eq, beq_iff_eq] at hc
  exact ev_of h rfl rfl (by simp only [mm_stp]; rw [if_neg hs.1, if_neg hs.2, hT]; dsimp only; rw [if_pos hc, hj]) k
theorem ev_gets {n a : Nat} {c : mm_C} {z : Int64} {w : Int32} (h : mm_at mid pc = some (.getfield n, nx, aux, vv)) (hT : T[a]? = some c) (hs : (aux == 5000 || aux == 5001) = false) (hc : (decide (c.1 < 13) && mm_dc c.1 (aux % 100) == aux / 100) = true) (hj : c.2.2[aux % 100]? = some (.long z)) (hw : I a (aux % 100) = w) (h0 : ¬ w = 0) (k : mm_Ev T X d mid nx ls (.ref (1009 + w.toNatClampNeg) :: st) I Q) : mm_Ev T X d mid pc ls (.ref a :: st) I Q := by
  simp only [Bool.or_eq_false_iff, beq_eq_false_iff_ne, ne_eq] at hs
  simp only [Bool.and_eq_true, decide_eq_true_eq, beq_iff_eq] at hc
  subst hw
  exact ev_of h rfl rfl (by simp only [mm_stp]; rw [if_neg hs.1, if_neg hs.2, hT]; dsimp only; rw [if_pos hc, hj]; dsimp only; rw [if_neg h0]) k
theorem ev_strv {n a : Nat} (h : mm_at mid pc = some (.getfield n, nx, 5000, vv)) (ha : 1010 ≤ a ∧ a < 1013) (k : mm_Ev T X d mid nx ls (.ref (a + 10) :: st) I Q) : mm_Ev T X d mid pc ls (.ref a :: st) I Q := ev_of h rfl rfl (by simp [mm_stp, ha.1, ha.2]) k
theorem ev_strc {n a : Nat} (h : mm_at mid pc = some (.getfield n, nx, 5001, vv)) (ha : 1010 ≤ a ∧ a < 1013) (k : mm_Ev T X d mid nx ls (.int 0 :: st) I Q) : mm_Ev T X d mid pc ls (.ref a :: st) I Q := ev_of h rfl rfl (by simp [mm_stp, ha.1, ha.2]) k
theorem ev_puti {n a : Nat} {x z : Int32} {c : mm_C} (h : mm_at mid pc = some (.putfield n, nx, aux, vv)) (hT : T[a]? = some c) (hc : (decide (c.1 < 13) && mm_dc c.1 (aux % 100) == aux / 100 && mm_nf c.1 (aux % 100) && mm_fk c.1 (aux % 100) == 0) = true) (hj : c.2.2[aux % 100]? = some (.int z)) (k : mm_Ev T X d mid nx ls st (mm_up I a (aux % 100) x) Q) : mm_Ev T X d mid pc ls (.int x :: .ref a :: st) I Q := by
  simp only [Bool.and_eq_true, decide_eq_true_eq, beq_iff_eq] at hc
  exact ev_of h rfl rfl (by simp only [mm_stp]; rw [hT]; dsimp only; rw [if_pos ⟨hc.1.1.1, hc.1.1.2, hc.1.2, Or.inl hc.2⟩, hj]) k
theorem ev_putz {n a : Nat} {x z : Int32} {c : mm_C} (h : mm_at mid pc = some (.putfield n, nx, aux, vv)) (hT : T[a]? = some c) (hc : (decide (c.1 < 13) && mm_dc c.1 (aux % 100) == aux / 100 && mm_nf c.1 (aux % 100) && mm_fk c.1 (aux % 100) == 1) = true) (hx : x = 0 ∨ x = 1) (hj : c.2.2[aux % 100]? = some (.int z)) (k : mm_Ev T X d mid nx ls st (mm_up I a (aux % 100) x) Q) : mm_Ev T X d mid pc ls (.int x :: .ref a :: st) I Q := by
  simp only [Bool.and_eq_true, decide_eq_true_eq, beq_iff_eq] at hc
  exact ev_of h rfl rfl (by simp only [mm_stp]; rw [hT]; dsimp only; rw [if_pos ⟨hc.1.1.1, hc.1.1.2, hc.1.2, Or.inr ⟨hc.2, hx⟩⟩, hj]) k
theorem ev_puts {n a q : Nat} {z : Int64} {c : mm_C} (h : mm_at mid pc = some (.putfield n, nx, aux, vv)) (hT : T[a]? = some c) (hc : (decide (c.1 < 13) && mm_dc c.1 (aux % 100) == aux / 100 && mm_nf c.1 (aux % 100) && mm_fk c.1 (aux % 100) == 2) = true) (hq : 1010 ≤ q ∧ q < 1013) (hj : c.2.2[aux % 100]? = some (.long z)) (k : mm_Ev T X d mid nx ls st (mm_up I a (aux % 100) (Int32.ofNat (q - 1009))) Q) : mm_Ev T X d mid pc ls (.ref q :: .ref a :: st) I Q := by
  simp only [Bool.and_eq_true, decide_eq_true_eq, beq_iff_eq] at hc
  exact ev_of h rfl rfl (by simp only [mm_stp]; rw [hT]; dsimp only; rw [if_pos ⟨hc.1.1.1, hc.1.1.2, hc.1.2, hc.2, hq⟩, hj]) k
theorem ev_iaload {a N : Nat} {i : Int32} {rs : List Value} (h : mm_at mid pc = some (.iaload, nx, aux, vv)) (hT : T[a]? = some (100, N, rs)) (ha : a < 1000) (hi : vp_in i N) (k : mm_Ev T X d mid nx ls (.int (I a i.toNatClampNeg) :: st) I Q) : mm_Ev T X d mid pc ls (.int i :: .ref a :: st) I Q := by
  have a1 : ¬ i < 0 := fun z => hi (Or.inl z)
  have a2 : ¬ N ≤ i.toNatClampNeg := fun z => hi (Or.inr z)
  have e1 : ¬ a = 1000 := by omega
  have e2 : ¬ 1001 ≤ a := by omega
  exact ev_of h rfl rfl (by simp [mm_stp, e1, e2, hT, a1, a2]) k
theorem ev_ialoadX {L : Nat} {xs : Nat → Int32} {i : Int32} (h : mm_at 0 pc = some (.iaload, nx, aux, vv)) (hi : vp_in i L) (k : mm_Ev T (L, xs) d 0 nx ls (.int (xs i.toNatClampNeg) :: st) I Q) : mm_Ev T (L, xs) d 0 pc ls (.int i :: .ref 1000 :: st) I Q := by
  have a1 : ¬ i < 0 := fun z => hi (Or.inl z)
  have a2 : ¬ L ≤ i.toNatClampNeg := fun z => hi (Or.inr z)
  exact ev_of h rfl rfl (by simp [mm_stp, a1, a2]) k
theorem ev_ialoadO {a : Nat} {i : Int32} {l : List Int32} (h : mm_at mid pc = some (.iaload, nx, aux, vv)) (ha : 1001 ≤ a) (hl : mm_oldI a = some l) (hi : vp_in i l.length) (k : mm_Ev T X d mid nx ls (.int (l.getD i.toNatClampNeg 0) :: st) I Q) : mm_Ev T X d mid pc ls (.int i :: .ref a :: st) I Q := by
  have a1 : ¬ i < 0 := fun z => hi (Or.inl z)
  have a2 : ¬ l.length ≤ i.toNatClampNeg := fun z => hi (Or.inr z)
  have e1 : ¬ a = 1000 := by omega
  exact ev_of h rfl rfl (by simp [mm_stp, e1, ha, hl, a1, a2]) k
theorem ev_baload {a : Nat} {i : Int32} {l : List Int32} (h : mm_at mid pc = some (.baload, nx, aux, vv)) (hl : mm_oldB a = some l) (hi : vp_in i l.length) (k : mm_Ev T X d mid nx ls (.int (l.getD i.toNatClampNeg 0) :: st) I Q) : mm_Ev T X d mid pc ls (.int i :: .ref a :: st) I Q := by
  have a1 : ¬ i < 0 := fun z => hi (Or.inl z)
  have a2 : ¬ l.length ≤ i.toNatClampNeg := fun z => hi (Or.inr z)
  exact ev_of h rfl rfl (by simp [mm_stp, hl, a1, a2]) k
theorem ev_iastore {a N : Nat} {i x : Int32} {rs : List Value} (h : mm_at mid pc = some (.iastore, nx, aux, vv)) (hT : T[a]? = some (100, N, rs)) (hi : vp_in i N) (k : mm_Ev T X d mid nx ls st (mm_up I a i.toNatClampNeg x) Q) : mm_Ev T X d mid pc ls (.int x :: .int i :: .ref a :: st) I Q := by
  have a1 : ¬ i < 0 := fun z => hi (Or.inl z)
  have a2 : ¬ N ≤ i.toNatClampNeg := fun z => hi (Or.inr z)
  exact ev_of h rfl rfl (by simp [mm_stp, hT, a1, a2]) k
theorem ev_aaload {a q : Nat} {i : Int32} {c : mm_C} (h : mm_at mid pc = some (.aaload, nx, aux, vv)) (hT : T[a]? = some c) (hc : c.1 = 101 ∨ c.1 = 102) (hi : vp_in i c.2.1) (hq : c.2.2[i.toNatClampNeg]? = some (.ref q)) (k : mm_Ev T X d mid nx ls (.ref q :: st) I Q) : mm_Ev T X d mid pc ls (.int i :: .ref a :: st) I Q :=
  ev_of h rfl rfl (by simp only [mm_stp]; rw [hT]; dsimp only; rw [if_pos hc, if_neg hi, hq]) k
theorem ev_alen {a N : Nat} {rs : List Value} (h : mm_at mid pc = some (.arraylength, nx, aux, vv)) (hT : T[a]? = some (100, N, rs)) (ha : a < 1000) (k : mm_Ev T X d mid nx ls (.int (Int32.ofNat N) :: st) I Q) : mm_Ev T X d mid pc ls (.ref a :: st) I Q := by
  have e1 : ¬ a = 1000 := by omega
  have e2 : ¬ 1001 ≤ a := by omega
  exact ev_of h rfl rfl (by simp [mm_stp, e1, e2, hT]) k
theorem ev_alenX {L : Nat} {xs : Nat → Int32} (h : mm_at 0 pc = some (.arraylength, nx, aux, vv)) (k : mm_Ev T (L, xs) d 0 nx ls (.int (Int32.ofNat L) :: st) I Q) : mm_Ev T (L, xs) d 0 pc ls (.ref 1000 :: st) I Q := ev_of h rfl rfl (by simp [mm_stp]) k
theorem ev_alenO {a : Nat} {l : List Int32} (h : mm_at mid pc = some (.arraylength, nx, aux, vv)) (ha : 1001 ≤ a) (hl : mm_oldI a = some l) (k : mm_Ev T X d mid nx ls (.int (Int32.ofNat l.length) :: st) I Q) : mm_Ev T X d mid pc ls (.ref a :: st) I Q := by
  have e1 : ¬ a = 1000 := by omega
  exact ev_of h rfl rfl (by simp [mm_stp, e1, ha, hl]) k
theorem ev_alenB {a : Nat} {l : List Int32} (h : mm_at mid pc = some (.arraylength, nx, aux, vv)) (ha : 1001 ≤ a) (hn : mm_oldI a = none) (hl : mm_oldB a = some l) (k : mm_Ev T X d mid nx ls (.int (Int32.ofNat l.length) :: st) I Q) : mm_Ev T X d mid pc ls (.ref a :: st) I Q := by
  have e1 : ¬ a = 1000 := by omega
  exact ev_of h rfl rfl (by simp [mm_stp, e1, ha, hn, hl]) k
theorem ev_copy {a b N M n : Nat} {sp dp m : Int32} {rs rs' : List Value} (h : mm_at mid pc = some (.invokestatic n, nx, 10000, vv)) (hT : T[a]? = some (100, N, rs)) (hT' : T[b]? = some (100, M, rs')) (h1 : ¬ sp < 0) (h2 : ¬ dp < 0) (h3 : ¬ m < 0) (h4 : sp.toNatClampNeg + m.toNatClampNeg ≤ N) (h5 : dp.toNatClampNeg + m.toNatClampNeg ≤ M) (h6 : (st.map Value.category).sum ≤ 8) (k : mm_Ev T X d mid nx ls st (mm_cp I a sp.toNatClampNeg b dp.toNatClampNeg m.toNatClampNeg) Q) : mm_Ev T X d mid pc ls (.int m :: .int dp :: .ref b :: .int sp :: .ref a :: st) I Q := by
  have e0 : mm_call T (Instr.invokestatic n, nx, 10000, vv) (.int m :: .int dp :: .ref b :: .int sp :: .ref a :: st) = none := rfl
  exact ev_of h rfl e0 (by unfold mm_stp; dsimp only; rw [if_pos rfl, hT, hT']; dsimp only; rw [if_pos ⟨rfl, rfl, h1, h2, h3, h4, h5, h6⟩]) k
theorem ev_max {n : Nat} {x y : Int32} (h : mm_at mid pc = some (.invokestatic n, nx, 10002, vv)) (hw : decide ((st.map Value.category).sum ≤ 8) = true) (k : mm_Ev T X d mid nx ls (.int (if x < y then y else x) :: st) I Q) : mm_Ev T X d mid pc ls (.int y :: .int x :: st) I Q := by
  have e0 : mm_call T (Instr.invokestatic n, nx, 10002, vv) (.int y :: .int x :: st) = none := rfl
  have hw' : (st.map Value.category).sum ≤ 8 := of_decide_eq_true hw
  exact ev_of h rfl e0 (by simp [mm_stp, hw']) k
theorem ev_min {n : Nat} {x y : Int32} (h : mm_at mid pc = some (.invokestatic n, nx, 10003, vv)) (hw : decide ((st.map Value.category).sum ≤ 8) = true) (k : mm_Ev T X d mid nx ls (.int (if y < x then y else x) :: st) I Q) : mm_Ev T X d mid pc ls (.int y :: .int x :: st) I Q := by
  have e0 : mm_call T (Instr.invokestatic n, nx, 10003, vv) (.int y :: .int x :: st) = none := rfl
  have hw' : (st.map Value.category).sum ≤ 8 := of_decide_eq_true hw
  exact ev_of h rfl e0 (by simp [mm_stp, hw']) k
end EV
