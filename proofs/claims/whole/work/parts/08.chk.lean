/-! Each row of the code tables is what the class file has there, and what it names stands in the tables' words. -/
def mm_ct (o i aux : Nat) (ks : List Nat) : Bool := match mm_CZ[aux]? with
  | some q => q.1 == o && q.2.1 == i && ks.contains q.2.2.2.1
  | none => false
def mm_ff (o i aux : Nat) : Bool := (List.range 13).all (fun ci => mm_dc ci (aux % 100) != aux / 100 || mm_FX.contains (o, i, aux, ci))
def mm_chk (mid pc : Nat) (e : mm_E) : Bool := match e.1 with
  | .iconst n => e.2.1 == pc + 1 && decide (e.2.2.2 = Value.int (Int32.ofInt n))
  | .bipush n => e.2.1 == pc + 2 && decide (e.2.2.2 = Value.int (Int8.ofInt n).toInt32)
  | .sipush n => e.2.1 == pc + 3 && decide (e.2.2.2 = Value.int (Int16.ofInt n).toInt32)
  | .ldc i => e.2.1 == pc + 2 && (match e.2.2.2 with
    | .int v => mm_KI.contains (mm_own mid, i, v)
    | .ref q => mm_KS.contains (mm_own mid, i, q)
    | _ => false)
  | .ldc_w i => e.2.1 == pc + 3 && (match e.2.2.2 with
    | .int v => mm_KI.contains (mm_own mid, i, v)
    | _ => false)
  | .ldc2_w i => e.2.1 == pc + 3 && (match e.2.2.2 with
    | .long v => mm_KL.contains (mm_own mid, i, v)
    | _ => false)
  | .getstatic i => e.2.1 == pc + 3 && mm_SS.any (fun q => q.1 == mm_own mid && q.2.1 == i && decide (q.2.2.2 = e.2.2.2))
  | .iload i | .aload i | .istore i | .astore i => e.2.1 == pc + 2 && e.2.2.1 == i
  | .iload_n i | .aload_n i | .istore_n i | .astore_n i | .lload_n i => e.2.1 == pc + 1 && e.2.2.1 == i.val
  | .iinc i n => e.2.1 == pc + 3 && e.2.2.1 == i && decide (e.2.2.2 = Value.int (Int32.ofInt n))
  | .if_icmp _ off | .ifCond _ off | .goto off => e.2.1 == pc + 3 && decide ((pc : Int) + off = (e.2.2.1 : Int))
  | .getfield i => e.2.1 == pc + 3 && (if 5000 ≤ e.2.2.1 then mm_SF.contains (mm_own mid, i, e.2.2.1) else mm_ff (mm_own mid) i e.2.2.1)
  | .putfield i => e.2.1 == pc + 3 && mm_ff (mm_own mid) i e.2.2.1
  | .invokestatic i => e.2.1 == pc + 3 && (if e.2.2.1 = 10000 then mm_AC.contains (mm_own mid, i) else if e.2.2.1 = 10002 then mm_XM.contains (mm_own mid, i) else if e.2.2.1 = 10003 then mm_XN.contains (mm_own mid, i) else if e.2.2.1 = 9999 then true else mm_ct (mm_own mid) i e.2.2.1 [0, 5])
  | .invokevirtual i => e.2.1 == pc + 3 && mm_ct (mm_own mid) i e.2.2.1 [1]
  | .invokespecial i => e.2.1 == pc + 3 && (e.2.2.1 == 10001 || mm_ct (mm_own mid) i e.2.2.1 [2, 3])
  | .tableswitch d lo hi offs => decide (0 ≤ (pc : Int) + d) && offs.toList.all (fun off => decide (0 ≤ (pc : Int) + off)) && decide (hi - lo + 1 = (offs.size : Int))
  | .lookupswitch d ps => decide (0 ≤ (pc : Int) + d) && ps.toList.all (fun off => decide (0 ≤ (pc : Int) + off.2)) && (ps.toList.zip (ps.toList.drop 1)).all (fun (a, next) => a.1 < next.1)
  | .new _ | .anewarray _ => e.2.1 == pc + 3
  | .newarray _ => e.2.1 == pc + 2
  | _ => e.2.1 == pc + 1
abbrev mm_ckP (mid : Nat) (l : List (Nat × mm_E)) : Prop := l.all (fun q => mm_chk mid q.1 q.2 && decide (decode (mm_b mid) q.1 = .ok (q.2.1, q.2.2.1 - q.1))) = true
def mm_ckL : Nat → List (List (Nat × mm_E)) → Prop
  | _, [] => True
  | k, l :: ls => mm_ckP k l ∧ mm_ckL (k + 1) ls
theorem mm_ckL_at : ∀ (ls : List (List (Nat × mm_E))) (k i : Nat) (l : List (Nat × mm_E)), mm_ckL k ls → ls[i]? = some l → mm_ckP (k + i) l
  | [], _, i, _, _, h => by simp at h
  | l0 :: ls, k, 0, l, hk, h => by
    simp at h
    subst h
    exact hk.1
  | l0 :: ls, k, i + 1, l, hk, h => by
    have h2 : ls[i]? = some l := by simpa using h
    have h3 := mm_ckL_at ls (k + 1) i l hk.2 h2
    have e : k + 1 + i = k + (i + 1) := by omega
    rw [e] at h3
    exact h3
theorem mm_cks {mid : Nat} {l : List (Nat × mm_E)} (n : Nat) (h1 : mm_ckP mid ((l.drop n).take 40)) (h2 : mm_ckP mid (l.drop (n + 40))) : mm_ckP mid (l.drop n) := by
  show (l.drop n).all _ = true
  rw [← List.take_append_drop 40 (l.drop n), List.all_append, List.drop_drop]
  rw [show (List.take 40 (List.drop n l)).all _ = true from h1, show (List.drop (n + 40) l).all _ = true from h2]
  rfl

