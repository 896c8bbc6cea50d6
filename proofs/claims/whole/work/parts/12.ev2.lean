/-! The same rules by places of the locals and by how many values a call takes; what a method answers: mm_pi an int, mm_pv nothing, mm_pr a reference. -/
def mm_pi (P : Int32 → mm_I → Prop) : Option Value → mm_I → Prop := fun r J => ∃ v, r = some (.int v) ∧ P v J
def mm_pv (P : mm_I → Prop) : Option Value → mm_I → Prop := fun r J => r = none ∧ P J
def mm_pr (P : Nat → mm_I → Prop) : Option Value → mm_I → Prop := fun r J => ∃ v, r = some (.ref v) ∧ P v J
theorem vp_dec {i : Int32} {n : Nat} (h : (decide (i < 0) || decide (n ≤ i.toNatClampNeg)) = false) : vp_in i n := by
  simp only [Bool.or_eq_false_iff, decide_eq_false_iff_not] at h
  exact fun z => z.elim h.1 h.2
section EV2
variable {T : List mm_C} {X : Nat × (Nat → Int32)} {d mid pc nx aux : Nat} {vv : Value} {ls st : List Value} {I : mm_I} {Q : Option Value → mm_I → Prop}
theorem ev_ri {v : Int32} {P : Int32 → mm_I → Prop} (h : mm_at mid pc = some (.ireturn, nx, aux, vv)) (hk : mm_rk mid = 0) (k : P v I) : mm_Ev T X d mid pc ls [.int v] I (mm_pi P) := ev_iret h hk ⟨v, rfl, k⟩
theorem ev_rz {v : Int32} {P : Int32 → mm_I → Prop} (h : mm_at mid pc = some (.ireturn, nx, aux, vv)) (hk : mm_rk mid = 1) (hv : v = 0 ∨ v = 1) (k : P v I) : mm_Ev T X d mid pc ls [.int v] I (mm_pi P) := ev_zret h hk hv ⟨v, rfl, k⟩
theorem ev_rv {P : mm_I → Prop} (h : mm_at mid pc = some (.return_, nx, aux, vv)) (hk : mm_rk mid = 2) (k : P I) : mm_Ev T X d mid pc ls [] I (mm_pv P) := ev_vret h hk ⟨rfl, k⟩
theorem ev_rr {a : Nat} {P : Nat → mm_I → Prop} (h : mm_at mid pc = some (.areturn, nx, aux, vv)) (hk : mm_rk mid = 3) (k : P a I) : mm_Ev T X d mid pc ls [.ref a] I (mm_pr P) := ev_aret h hk ⟨a, rfl, k⟩
theorem ev_gf {n a j : Nat} {c : mm_C} {z : Int32} (h : mm_at mid pc = some (.getfield n, nx, aux, vv)) (hT : T[a]? = some c) (hj0 : aux % 100 = j) (hs : (aux == 5000 || aux == 5001) = false) (hc : (decide (c.1 < 13) && mm_dc c.1 (aux % 100) == aux / 100) = true) (hj : c.2.2[j]? = some (.int z)) (k : mm_Ev T X d mid nx ls (.int (I a j) :: st) I Q) : mm_Ev T X d mid pc ls (.ref a :: st) I Q := by
  subst hj0; exact ev_geti h hT hs hc hj k
theorem ev_pf {n a j : Nat} {x z : Int32} {c : mm_C} (h : mm_at mid pc = some (.putfield n, nx, aux, vv)) (hT : T[a]? = some c) (hj0 : aux % 100 = j) (hc : (decide (c.1 < 13) && mm_dc c.1 (aux % 100) == aux / 100 && mm_nf c.1 (aux % 100) && mm_fk c.1 (aux % 100) == 0) = true) (hj : c.2.2[j]? = some (.int z)) (k : mm_Ev T X d mid nx ls st (mm_up I a j x) Q) : mm_Ev T X d mid pc ls (.int x :: .ref a :: st) I Q := by
  subst hj0; exact ev_puti h hT hc hj k
theorem ev_pz {n a j : Nat} {x z : Int32} {c : mm_C} (h : mm_at mid pc = some (.putfield n, nx, aux, vv)) (hT : T[a]? = some c) (hj0 : aux % 100 = j) (hc : (decide (c.1 < 13) && mm_dc c.1 (aux % 100) == aux / 100 && mm_nf c.1 (aux % 100) && mm_fk c.1 (aux % 100) == 1) = true) (hx : x = 0 ∨ x = 1) (hj : c.2.2[j]? = some (.int z)) (k : mm_Ev T X d mid nx ls st (mm_up I a j x) Q) : mm_Ev T X d mid pc ls (.int x :: .ref a :: st) I Q := by
  subst hj0; exact ev_putz h hT hc hx hj k
theorem ev_ial {a N j : Nat} {i : Int32} {rs : List Value} (h : mm_at mid pc = some (.iaload, nx, aux, vv)) (hT : T[a]? = some (100, N, rs)) (ha : a < 1000) (hj : i.toNatClampNeg = j) (hi : vp_in i N) (k : mm_Ev T X d mid nx ls (.int (I a j) :: st) I Q) : mm_Ev T X d mid pc ls (.int i :: .ref a :: st) I Q := by
  subst hj; exact ev_iaload h hT ha hi k
theorem ev_ias {a N j : Nat} {i x : Int32} {rs : List Value} (h : mm_at mid pc = some (.iastore, nx, aux, vv)) (hT : T[a]? = some (100, N, rs)) (hj : i.toNatClampNeg = j) (hi : vp_in i N) (k : mm_Ev T X d mid nx ls st (mm_up I a j x) Q) : mm_Ev T X d mid pc ls (.int x :: .int i :: .ref a :: st) I Q := by
  subst hj; exact ev_iastore h hT hi k
theorem ev_ild0 {n : Fin 4}  {x : Int32} (h : mm_at mid pc = some (.iload_n n, nx, 0, vv)) (k : mm_Ev T X d mid nx (.int x :: ls) (.int x :: st) I Q) : mm_Ev T X d mid pc (.int x :: ls) st I Q := ev_iload_n h rfl k
theorem ev_ald0 {n : Fin 4}  {x : Nat} (h : mm_at mid pc = some (.aload_n n, nx, 0, vv)) (k : mm_Ev T X d mid nx (.ref x :: ls) (.ref x :: st) I Q) : mm_Ev T X d mid pc (.ref x :: ls) st I Q := ev_aload_n h rfl k
theorem ev_ist0 {n : Fin 4}  {b : Value} {x : Int32} (h : mm_at mid pc = some (.istore_n n, nx, 0, vv)) (k : mm_Ev T X d mid nx (.int x :: ls) st I Q) : mm_Ev T X d mid pc (b :: ls) (.int x :: st) I Q := ev_istore_n h (by simp [mm_sto]) rfl k
theorem ev_ast0 {n : Fin 4}  {b : Value} {x : Nat} (h : mm_at mid pc = some (.astore_n n, nx, 0, vv)) (k : mm_Ev T X d mid nx (.ref x :: ls) st I Q) : mm_Ev T X d mid pc (b :: ls) (.ref x :: st) I Q := ev_astore_n h (by simp [mm_sto]) rfl k
theorem ev_inc0 {n : Nat} {c : Int}  {x z : Int32} (h : mm_at mid pc = some (.iinc n c, nx, 0, .int z)) (k : mm_Ev T X d mid nx (.int (x + z) :: ls) st I Q) : mm_Ev T X d mid pc (.int x :: ls) st I Q := ev_iinc h rfl (by simp [mm_sto]) rfl k
theorem ev_ild1 {n : Fin 4} {a0 : Value} {x : Int32} (h : mm_at mid pc = some (.iload_n n, nx, 1, vv)) (k : mm_Ev T X d mid nx (a0 :: .int x :: ls) (.int x :: st) I Q) : mm_Ev T X d mid pc (a0 :: .int x :: ls) st I Q := ev_iload_n h rfl k
theorem ev_ald1 {n : Fin 4} {a0 : Value} {x : Nat} (h : mm_at mid pc = some (.aload_n n, nx, 1, vv)) (k : mm_Ev T X d mid nx (a0 :: .ref x :: ls) (.ref x :: st) I Q) : mm_Ev T X d mid pc (a0 :: .ref x :: ls) st I Q := ev_aload_n h rfl k
theorem ev_ist1 {n : Fin 4} {a0 : Value} {b : Value} {x : Int32} (h : mm_at mid pc = some (.istore_n n, nx, 1, vv)) (hc : a0.category = 1) (k : mm_Ev T X d mid nx (a0 :: .int x :: ls) st I Q) : mm_Ev T X d mid pc (a0 :: b :: ls) (.int x :: st) I Q := ev_istore_n h (by simp [mm_sto, hc]) rfl k
theorem ev_ast1 {n : Fin 4} {a0 : Value} {b : Value} {x : Nat} (h : mm_at mid pc = some (.astore_n n, nx, 1, vv)) (hc : a0.category = 1) (k : mm_Ev T X d mid nx (a0 :: .ref x :: ls) st I Q) : mm_Ev T X d mid pc (a0 :: b :: ls) (.ref x :: st) I Q := ev_astore_n h (by simp [mm_sto, hc]) rfl k
theorem ev_inc1 {n : Nat} {c : Int} {a0 : Value} {x z : Int32} (h : mm_at mid pc = some (.iinc n c, nx, 1, .int z)) (hc : a0.category = 1) (k : mm_Ev T X d mid nx (a0 :: .int (x + z) :: ls) st I Q) : mm_Ev T X d mid pc (a0 :: .int x :: ls) st I Q := ev_iinc h rfl (by simp [mm_sto, hc]) rfl k
theorem ev_ild2 {n : Fin 4} {a0 : Value} {a1 : Value} {x : Int32} (h : mm_at mid pc = some (.iload_n n, nx, 2, vv)) (k : mm_Ev T X d mid nx (a0 :: a1 :: .int x :: ls) (.int x :: st) I Q) : mm_Ev T X d mid pc (a0 :: a1 :: .int x :: ls) st I Q := ev_iload_n h rfl k
theorem ev_ald2 {n : Fin 4} {a0 : Value} {a1 : Value} {x : Nat} (h : mm_at mid pc = some (.aload_n n, nx, 2, vv)) (k : mm_Ev T X d mid nx (a0 :: a1 :: .ref x :: ls) (.ref x :: st) I Q) : mm_Ev T X d mid pc (a0 :: a1 :: .ref x :: ls) st I Q := ev_aload_n h rfl k
theorem ev_ist2 {n : Fin 4} {a0 : Value} {a1 : Value} {b : Value} {x : Int32} (h : mm_at mid pc = some (.istore_n n, nx, 2, vv)) (hc : a1.category = 1) (k : mm_Ev T X d mid nx (a0 :: a1 :: .int x :: ls) st I Q) : mm_Ev T X d mid pc (a0 :: a1 :: b :: ls) (.int x :: st) I Q := ev_istore_n h (by simp [mm_sto, hc]) rfl k
theorem ev_ast2 {n : Fin 4} {a0 : Value} {a1 : Value} {b : Value} {x : Nat} (h : mm_at mid pc = some (.astore_n n, nx, 2, vv)) (hc : a1.category = 1) (k : mm_Ev T X d mid nx (a0 :: a1 :: .ref x :: ls) st I Q) : mm_Ev T X d mid pc (a0 :: a1 :: b :: ls) (.ref x :: st) I Q := ev_astore_n h (by simp [mm_sto, hc]) rfl k
theorem ev_inc2 {n : Nat} {c : Int} {a0 : Value} {a1 : Value} {x z : Int32} (h : mm_at mid pc = some (.iinc n c, nx, 2, .int z)) (hc : a1.category = 1) (k : mm_Ev T X d mid nx (a0 :: a1 :: .int (x + z) :: ls) st I Q) : mm_Ev T X d mid pc (a0 :: a1 :: .int x :: ls) st I Q := ev_iinc h rfl (by simp [mm_sto, hc]) rfl k
theorem ev_ild3 {n : Fin 4} {a0 : Value} {a1 : Value} {a2 : Value} {x : Int32} (h : mm_at mid pc = some (.iload_n n, nx, 3, vv)) (k : mm_Ev T X d mid nx (a0 :: a1 :: a2 :: .int x :: ls) (.int x :: st) I Q) : mm_Ev T X d mid pc (a0 :: a1 :: a2 :: .int x :: ls) st I Q := ev_iload_n h rfl k
theorem ev_ald3 {n : Fin 4} {a0 : Value} {a1 : Value} {a2 : Value} {x : Nat} (h : mm_at mid pc = some (.aload_n n, nx, 3, vv)) (k : mm_Ev T X d mid nx (a0 :: a1 :: a2 :: .ref x :: ls) (.ref x :: st) I Q) : mm_Ev T X d mid pc (a0 :: a1 :: a2 :: .ref x :: ls) st I Q := ev_aload_n h rfl k
theorem ev_ist3 {n : Fin 4} {a0 : Value} {a1 : Value} {a2 : Value} {b : Value} {x : Int32} (h : mm_at mid pc = some (.istore_n n, nx, 3, vv)) (hc : a2.category = 1) (k : mm_Ev T X d mid nx (a0 :: a1 :: a2 :: .int x :: ls) st I Q) : mm_Ev T X d mid pc (a0 :: a1 :: a2 :: b :: ls) (.int x :: st) I Q := ev_istore_n h (by simp [mm_sto, hc]) rfl k
theorem ev_ast3 {n : Fin 4} {a0 : Value} {a1 : Value} {a2 : Value} {b : Value} {x : Nat} (h : mm_at mid pc = some (.astore_n n, nx, 3, vv)) (hc : a2.category = 1) (k : mm_Ev T X d mid nx (a0 :: a1 :: a2 :: .ref x :: ls) st I Q) : mm_Ev T X d mid pc (a0 :: a1 :: a2 :: b :: ls) (.ref x :: st) I Q := ev_astore_n h (by simp [mm_sto, hc]) rfl k
theorem ev_inc3 {n : Nat} {c : Int} {a0 : Value} {a1 : Value} {a2 : Value} {x z : Int32} (h : mm_at mid pc = some (.iinc n c, nx, 3, .int z)) (hc : a2.category = 1) (k : mm_Ev T X d mid nx (a0 :: a1 :: a2 :: .int (x + z) :: ls) st I Q) : mm_Ev T X d mid pc (a0 :: a1 :: a2 :: .int x :: ls) st I Q := ev_iinc h rfl (by simp [mm_sto, hc]) rfl k
theorem ev_ild4 {n : Nat} {a0 : Value} {a1 : Value} {a2 : Value} {a3 : Value} {x : Int32} (h : mm_at mid pc = some (.iload n, nx, 4, vv)) (k : mm_Ev T X d mid nx (a0 :: a1 :: a2 :: a3 :: .int x :: ls) (.int x :: st) I Q) : mm_Ev T X d mid pc (a0 :: a1 :: a2 :: a3 :: .int x :: ls) st I Q := ev_iload h rfl k
theorem ev_ald4 {n : Nat} {a0 : Value} {a1 : Value} {a2 : Value} {a3 : Value} {x : Nat} (h : mm_at mid pc = some (.aload n, nx, 4, vv)) (k : mm_Ev T X d mid nx (a0 :: a1 :: a2 :: a3 :: .ref x :: ls) (.ref x :: st) I Q) : mm_Ev T X d mid pc (a0 :: a1 :: a2 :: a3 :: .ref x :: ls) st I Q := ev_aload h rfl k
theorem ev_ist4 {n : Nat} {a0 : Value} {a1 : Value} {a2 : Value} {a3 : Value} {b : Value} {x : Int32} (h : mm_at mid pc = some (.istore n, nx, 4, vv)) (hc : a3.category = 1) (k : mm_Ev T X d mid nx (a0 :: a1 :: a2 :: a3 :: .int x :: ls) st I Q) : mm_Ev T X d mid pc (a0 :: a1 :: a2 :: a3 :: b :: ls) (.int x :: st) I Q := ev_istore h (by simp [mm_sto, hc]) rfl k
theorem ev_ast4 {n : Nat} {a0 : Value} {a1 : Value} {a2 : Value} {a3 : Value} {b : Value} {x : Nat} (h : mm_at mid pc = some (.astore n, nx, 4, vv)) (hc : a3.category = 1) (k : mm_Ev T X d mid nx (a0 :: a1 :: a2 :: a3 :: .ref x :: ls) st I Q) : mm_Ev T X d mid pc (a0 :: a1 :: a2 :: a3 :: b :: ls) (.ref x :: st) I Q := ev_astore h (by simp [mm_sto, hc]) rfl k
theorem ev_inc4 {n : Nat} {c : Int} {a0 : Value} {a1 : Value} {a2 : Value} {a3 : Value} {x z : Int32} (h : mm_at mid pc = some (.iinc n c, nx, 4, .int z)) (hc : a3.category = 1) (k : mm_Ev T X d mid nx (a0 :: a1 :: a2 :: a3 :: .int (x + z) :: ls) st I Q) : mm_Ev T X d mid pc (a0 :: a1 :: a2 :: a3 :: .int x :: ls) st I Q := ev_iinc h rfl (by simp [mm_sto, hc]) rfl k
theorem ev_ild5 {n : Nat} {a0 : Value} {a1 : Value} {a2 : Value} {a3 : Value} {a4 : Value} {x : Int32} (h : mm_at mid pc = some (.iload n, nx, 5, vv)) (k : mm_Ev T X d mid nx (a0 :: a1 :: a2 :: a3 :: a4 :: .int x :: ls) (.int x :: st) I Q) : mm_Ev T X d mid pc (a0 :: a1 :: a2 :: a3 :: a4 :: .int x :: ls) st I Q := ev_iload h rfl k
theorem ev_ald5 {n : Nat} {a0 : Value} {a1 : Value} {a2 : Value} {a3 : Value} {a4 : Value} {x : Nat} (h : mm_at mid pc = some (.aload n, nx, 5, vv)) (k : mm_Ev T X d mid nx (a0 :: a1 :: a2 :: a3 :: a4 :: .ref x :: ls) (.ref x :: st) I Q) : mm_Ev T X d mid pc (a0 :: a1 :: a2 :: a3 :: a4 :: .ref x :: ls) st I Q := ev_aload h rfl k
theorem ev_ist5 {n : Nat} {a0 : Value} {a1 : Value} {a2 : Value} {a3 : Value} {a4 : Value} {b : Value} {x : Int32} (h : mm_at mid pc = some (.istore n, nx, 5, vv)) (hc : a4.category = 1) (k : mm_Ev T X d mid nx (a0 :: a1 :: a2 :: a3 :: a4 :: .int x :: ls) st I Q) : mm_Ev T X d mid pc (a0 :: a1 :: a2 :: a3 :: a4 :: b :: ls) (.int x :: st) I Q := ev_istore h (by simp [mm_sto, hc]) rfl k
theorem ev_ast5 {n : Nat} {a0 : Value} {a1 : Value} {a2 : Value} {a3 : Value} {a4 : Value} {b : Value} {x : Nat} (h : mm_at mid pc = some (.astore n, nx, 5, vv)) (hc : a4.category = 1) (k : mm_Ev T X d mid nx (a0 :: a1 :: a2 :: a3 :: a4 :: .ref x :: ls) st I Q) : mm_Ev T X d mid pc (a0 :: a1 :: a2 :: a3 :: a4 :: b :: ls) (.ref x :: st) I Q := ev_astore h (by simp [mm_sto, hc]) rfl k
theorem ev_inc5 {n : Nat} {c : Int} {a0 : Value} {a1 : Value} {a2 : Value} {a3 : Value} {a4 : Value} {x z : Int32} (h : mm_at mid pc = some (.iinc n c, nx, 5, .int z)) (hc : a4.category = 1) (k : mm_Ev T X d mid nx (a0 :: a1 :: a2 :: a3 :: a4 :: .int (x + z) :: ls) st I Q) : mm_Ev T X d mid pc (a0 :: a1 :: a2 :: a3 :: a4 :: .int x :: ls) st I Q := ev_iinc h rfl (by simp [mm_sto, hc]) rfl k
theorem ev_ild6 {n : Nat} {a0 : Value} {a1 : Value} {a2 : Value} {a3 : Value} {a4 : Value} {a5 : Value} {x : Int32} (h : mm_at mid pc = some (.iload n, nx, 6, vv)) (k : mm_Ev T X d mid nx (a0 :: a1 :: a2 :: a3 :: a4 :: a5 :: .int x :: ls) (.int x :: st) I Q) : mm_Ev T X d mid pc (a0 :: a1 :: a2 :: a3 :: a4 :: a5 :: .int x :: ls) st I Q := ev_iload h rfl k
theorem ev_ald6 {n : Nat} {a0 : Value} {a1 : Value} {a2 : Value} {a3 : Value} {a4 : Value} {a5 : Value} {x : Nat} (h : mm_at mid pc = some (.aload n, nx, 6, vv)) (k : mm_Ev T X d mid nx (a0 :: a1 :: a2 :: a3 :: a4 :: a5 :: .ref x :: ls) (.ref x :: st) I Q) : mm_Ev T X d mid pc (a0 :: a1 :: a2 :: a3 :: a4 :: a5 :: .ref x :: ls) st I Q := ev_aload h rfl k
theorem ev_ist6 {n : Nat} {a0 : Value} {a1 : Value} {a2 : Value} {a3 : Value} {a4 : Value} {a5 : Value} {b : Value} {x : Int32} (h : mm_at mid pc = some (.istore n, nx, 6, vv)) (hc : a5.category = 1) (k : mm_Ev T X d mid nx (a0 :: a1 :: a2 :: a3 :: a4 :: a5 :: .int x :: ls) st I Q) : mm_Ev T X d mid pc (a0 :: a1 :: a2 :: a3 :: a4 :: a5 :: b :: ls) (.int x :: st) I Q := ev_istore h (by simp [mm_sto, hc]) rfl k
theorem ev_ast6 {n : Nat} {a0 : Value} {a1 : Value} {a2 : Value} {a3 : Value} {a4 : Value} {a5 : Value} {b : Value} {x : Nat} (h : mm_at mid pc = some (.astore n, nx, 6, vv)) (hc : a5.category = 1) (k : mm_Ev T X d mid nx (a0 :: a1 :: a2 :: a3 :: a4 :: a5 :: .ref x :: ls) st I Q) : mm_Ev T X d mid pc (a0 :: a1 :: a2 :: a3 :: a4 :: a5 :: b :: ls) (.ref x :: st) I Q := ev_astore h (by simp [mm_sto, hc]) rfl k
theorem ev_inc6 {n : Nat} {c : Int} {a0 : Value} {a1 : Value} {a2 : Value} {a3 : Value} {a4 : Value} {a5 : Value} {x z : Int32} (h : mm_at mid pc = some (.iinc n c, nx, 6, .int z)) (hc : a5.category = 1) (k : mm_Ev T X d mid nx (a0 :: a1 :: a2 :: a3 :: a4 :: a5 :: .int (x + z) :: ls) st I Q) : mm_Ev T X d mid pc (a0 :: a1 :: a2 :: a3 :: a4 :: a5 :: .int x :: ls) st I Q := ev_iinc h rfl (by simp [mm_sto, hc]) rfl k
theorem ev_ild7 {n : Nat} {a0 : Value} {a1 : Value} {a2 : Value} {a3 : Value} {a4 : Value} {a5 : Value} {a6 : Value} {x : Int32} (h : mm_at mid pc = some (.iload n, nx, 7, vv)) (k : mm_Ev T X d mid nx (a0 :: a1 :: a2 :: a3 :: a4 :: a5 :: a6 :: .int x :: ls) (.int x :: st) I Q) : mm_Ev T X d mid pc (a0 :: a1 :: a2 :: a3 :: a4 :: a5 :: a6 :: .int x :: ls) st I Q := ev_iload h rfl k
theorem ev_ald7 {n : Nat} {a0 : Value} {a1 : Value} {a2 : Value} {a3 : Value} {a4 : Value} {a5 : Value} {a6 : Value} {x : Nat} (h : mm_at mid pc = some (.aload n, nx, 7, vv)) (k : mm_Ev T X d mid nx (a0 :: a1 :: a2 :: a3 :: a4 :: a5 :: a6 :: .ref x :: ls) (.ref x :: st) I Q) : mm_Ev T X d mid pc (a0 :: a1 :: a2 :: a3 :: a4 :: a5 :: a6 :: .ref x :: ls) st I Q := ev_aload h rfl k
theorem ev_ist7 {n : Nat} {a0 : Value} {a1 : Value} {a2 : Value} {a3 : Value} {a4 : Value} {a5 : Value} {a6 : Value} {b : Value} {x : Int32} (h : mm_at mid pc = some (.istore n, nx, 7, vv)) (hc : a6.category = 1) (k : mm_Ev T X d mid nx (a0 :: a1 :: a2 :: a3 :: a4 :: a5 :: a6 :: .int x :: ls) st I Q) : mm_Ev T X d mid pc (a0 :: a1 :: a2 :: a3 :: a4 :: a5 :: a6 :: b :: ls) (.int x :: st) I Q := ev_istore h (by simp [mm_sto, hc]) rfl k
theorem ev_ast7 {n : Nat} {a0 : Value} {a1 : Value} {a2 : Value} {a3 : Value} {a4 : Value} {a5 : Value} {a6 : Value} {b : Value} {x : Nat} (h : mm_at mid pc = some (.astore n, nx, 7, vv)) (hc : a6.category = 1) (k : mm_Ev T X d mid nx (a0 :: a1 :: a2 :: a3 :: a4 :: a5 :: a6 :: .ref x :: ls) st I Q) : mm_Ev T X d mid pc (a0 :: a1 :: a2 :: a3 :: a4 :: a5 :: a6 :: b :: ls) (.ref x :: st) I Q := ev_astore h (by simp [mm_sto, hc]) rfl k
theorem ev_inc7 {n : Nat} {c : Int} {a0 : Value} {a1 : Value} {a2 : Value} {a3 : Value} {a4 : Value} {a5 : Value} {a6 : Value} {x z : Int32} (h : mm_at mid pc = some (.iinc n c, nx, 7, .int z)) (hc : a6.category = 1) (k : mm_Ev T X d mid nx (a0 :: a1 :: a2 :: a3 :: a4 :: a5 :: a6 :: .int (x + z) :: ls) st I Q) : mm_Ev T X d mid pc (a0 :: a1 :: a2 :: a3 :: a4 :: a5 :: a6 :: .int x :: ls) st I Q := ev_iinc h rfl (by simp [mm_sto, hc]) rfl k
theorem ev_ild8 {n : Nat} {a0 : Value} {a1 : Value} {a2 : Value} {a3 : Value} {a4 : Value} {a5 : Value} {a6 : Value} {a7 : Value} {x : Int32} (h : mm_at mid pc = some (.iload n, nx, 8, vv)) (k : mm_Ev T X d mid nx (a0 :: a1 :: a2 :: a3 :: a4 :: a5 :: a6 :: a7 :: .int x :: ls) (.int x :: st) I Q) : mm_Ev T X d mid pc (a0 :: a1 :: a2 :: a3 :: a4 :: a5 :: a6 :: a7 :: .int x :: ls) st I Q := ev_iload h rfl k
theorem ev_ald8 {n : Nat} {a0 : Value} {a1 : Value} {a2 : Value} {a3 : Value} {a4 : Value} {a5 : Value} {a6 : Value} {a7 : Value} {x : Nat} (h : mm_at mid pc = some (.aload n, nx, 8, vv)) (k : mm_Ev T X d mid nx (a0 :: a1 :: a2 :: a3 :: a4 :: a5 :: a6 :: a7 :: .ref x :: ls) (.ref x :: st) I Q) : mm_Ev T X d mid pc (a0 :: a1 :: a2 :: a3 :: a4 :: a5 :: a6 :: a7 :: .ref x :: ls) st I Q := ev_aload h rfl k
theorem ev_ist8 {n : Nat} {a0 : Value} {a1 : Value} {a2 : Value} {a3 : Value} {a4 : Value} {a5 : Value} {a6 : Value} {a7 : Value} {b : Value} {x : Int32} (h : mm_at mid pc = some (.istore n, nx, 8, vv)) (hc : a7.category = 1) (k : mm_Ev T X d mid nx (a0 :: a1 :: a2 :: a3 :: a4 :: a5 :: a6 :: a7 :: .int x :: ls) st I Q) : mm_Ev T X d mid pc (a0 :: a1 :: a2 :: a3 :: a4 :: a5 :: a6 :: a7 :: b :: ls) (.int x :: st) I Q := ev_istore h (by simp [mm_sto, hc]) rfl k
theorem ev_ast8 {n : Nat} {a0 : Value} {a1 : Value} {a2 : Value} {a3 : Value} {a4 : Value} {a5 : Value} {a6 : Value} {a7 : Value} {b : Value} {x : Nat} (h : mm_at mid pc = some (.astore n, nx, 8, vv)) (hc : a7.category = 1) (k : mm_Ev T X d mid nx (a0 :: a1 :: a2 :: a3 :: a4 :: a5 :: a6 :: a7 :: .ref x :: ls) st I Q) : mm_Ev T X d mid pc (a0 :: a1 :: a2 :: a3 :: a4 :: a5 :: a6 :: a7 :: b :: ls) (.ref x :: st) I Q := ev_astore h (by simp [mm_sto, hc]) rfl k
theorem ev_inc8 {n : Nat} {c : Int} {a0 : Value} {a1 : Value} {a2 : Value} {a3 : Value} {a4 : Value} {a5 : Value} {a6 : Value} {a7 : Value} {x z : Int32} (h : mm_at mid pc = some (.iinc n c, nx, 8, .int z)) (hc : a7.category = 1) (k : mm_Ev T X d mid nx (a0 :: a1 :: a2 :: a3 :: a4 :: a5 :: a6 :: a7 :: .int (x + z) :: ls) st I Q) : mm_Ev T X d mid pc (a0 :: a1 :: a2 :: a3 :: a4 :: a5 :: a6 :: a7 :: .int x :: ls) st I Q := ev_iinc h rfl (by simp [mm_sto, hc]) rfl k
theorem ev_cS0i {n s y kd : Nat} {rest : List Value} (h : mm_at mid pc = some (.invokestatic n, nx, s, vv)) (hs : mm_CS[s]? = some (0, kd, [(0, y)])) (hk : (kd == 0 || kd == 5) = true) (hw : decide ((rest.map Value.category).sum ≤ 8) = true) (hf : decide ((mm_sl []).length ≤ mm_ml y) = true) (k : mm_Ev T X d y 0 (mm_ent y []) [] I (mm_pi (fun r I' => mm_Ev T X (d + 1) mid nx ls (.int r :: rest) I' Q))) : mm_Ev T X (d + 1) mid pc ls (rest) I Q := by
  refine ev_call h rfl (y := y) (as := []) (rest := rest) ?_ (ev_conseq k (fun r J h2 => by obtain ⟨v, rfl, h3⟩ := h2; exact h3))
  have hk' : kd = 0 ∨ kd = 5 := by simpa using hk
  have hw' : (rest.map Value.category).sum ≤ 8 := of_decide_eq_true hw
  have hf' := of_decide_eq_true hf
  simp [mm_call, hs, hf', mm_pick, hk', hw']
theorem ev_cS0v {n s y kd : Nat} {rest : List Value} (h : mm_at mid pc = some (.invokestatic n, nx, s, vv)) (hs : mm_CS[s]? = some (0, kd, [(0, y)])) (hk : (kd == 0 || kd == 5) = true) (hw : decide ((rest.map Value.category).sum ≤ 8) = true) (hf : decide ((mm_sl []).length ≤ mm_ml y) = true) (k : mm_Ev T X d y 0 (mm_ent y []) [] I (mm_pv (fun I' => mm_Ev T X (d + 1) mid nx ls rest I' Q))) : mm_Ev T X (d + 1) mid pc ls (rest) I Q := by
  refine ev_call h rfl (y := y) (as := []) (rest := rest) ?_ (ev_conseq k (fun r J h2 => by obtain ⟨rfl, h3⟩ := h2; exact h3))
  have hk' : kd = 0 ∨ kd = 5 := by simpa using hk
  have hw' : (rest.map Value.category).sum ≤ 8 := of_decide_eq_true hw
  have hf' := of_decide_eq_true hf
  simp [mm_call, hs, hf', mm_pick, hk', hw']
theorem ev_cS0r {n s y kd : Nat} {rest : List Value} (h : mm_at mid pc = some (.invokestatic n, nx, s, vv)) (hs : mm_CS[s]? = some (0, kd, [(0, y)])) (hk : (kd == 0 || kd == 5) = true) (hw : decide ((rest.map Value.category).sum ≤ 8) = true) (hf : decide ((mm_sl []).length ≤ mm_ml y) = true) (k : mm_Ev T X d y 0 (mm_ent y []) [] I (mm_pr (fun r I' => mm_Ev T X (d + 1) mid nx ls (.ref r :: rest) I' Q))) : mm_Ev T X (d + 1) mid pc ls (rest) I Q := by
  refine ev_call h rfl (y := y) (as := []) (rest := rest) ?_ (ev_conseq k (fun r J h2 => by obtain ⟨v, rfl, h3⟩ := h2; exact h3))
  have hk' : kd = 0 ∨ kd = 5 := by simpa using hk
  have hw' : (rest.map Value.category).sum ≤ 8 := of_decide_eq_true hw
  have hf' := of_decide_eq_true hf
  simp [mm_call, hs, hf', mm_pick, hk', hw']
theorem ev_cS1i {n s y kd : Nat} {v0 : Value} {rest : List Value} (h : mm_at mid pc = some (.invokestatic n, nx, s, vv)) (hs : mm_CS[s]? = some (1, kd, [(0, y)])) (hk : (kd == 0 || kd == 5) = true) (hw : decide ((rest.map Value.category).sum ≤ 8) = true) (hf : decide ((mm_sl [v0]).length ≤ mm_ml y) = true) (k : mm_Ev T X d y 0 (mm_ent y [v0]) [] I (mm_pi (fun r I' => mm_Ev T X (d + 1) mid nx ls (.int r :: rest) I' Q))) : mm_Ev T X (d + 1) mid pc ls (v0 :: rest) I Q := by
  refine ev_call h rfl (y := y) (as := [v0]) (rest := rest) ?_ (ev_conseq k (fun r J h2 => by obtain ⟨v, rfl, h3⟩ := h2; exact h3))
  have hk' : kd = 0 ∨ kd = 5 := by simpa using hk
  have hw' : (rest.map Value.category).sum ≤ 8 := of_decide_eq_true hw
  have hf' := of_decide_eq_true hf
  simp [mm_call, hs, hf', mm_pick, hk', hw']
theorem ev_cV1i {n s y a : Nat} {tg : List (Nat × Nat)} {c : mm_C} {rest : List Value} (h : mm_at mid pc = some (.invokevirtual n, nx, s, vv)) (hs : mm_CS[s]? = some (1, 1, tg)) (hT : T[a]? = some c) (ha : a < 1000) (hc : c.1 < 13) (hy : tg.lookup c.1 = some y) (hw : decide ((rest.map Value.category).sum ≤ 8) = true) (hf : decide ((mm_sl [.ref a]).length ≤ mm_ml y) = true) (k : mm_Ev T X d y 0 (mm_ent y [.ref a]) [] I (mm_pi (fun r I' => mm_Ev T X (d + 1) mid nx ls (.int r :: rest) I' Q))) : mm_Ev T X (d + 1) mid pc ls (.ref a :: rest) I Q := by
  refine ev_call h rfl (y := y) (as := [.ref a]) (rest := rest) ?_ (ev_conseq k (fun r J h2 => by obtain ⟨v, rfl, h3⟩ := h2; exact h3))
  have hw' : (rest.map Value.category).sum ≤ 8 := of_decide_eq_true hw
  have hf' := of_decide_eq_true hf
  have e1 : ¬ 1010 ≤ a := by omega
  simp [mm_call, hs, hf', mm_pick, mm_cls, hT, hc, hy, hw', e1]
theorem ev_cP1i {n s y a : Nat} {tg : List (Nat × Nat)} {c : mm_C} {rest : List Value} (h : mm_at mid pc = some (.invokespecial n, nx, s, vv)) (hs : mm_CS[s]? = some (1, 2, tg)) (hT : T[a]? = some c) (ha : a < 1000) (hc : c.1 < 13) (hy : tg.lookup 0 = some y) (hw : decide ((rest.map Value.category).sum ≤ 8) = true) (hf : decide ((mm_sl [.ref a]).length ≤ mm_ml y) = true) (k : mm_Ev T X d y 0 (mm_ent y [.ref a]) [] I (mm_pi (fun r I' => mm_Ev T X (d + 1) mid nx ls (.int r :: rest) I' Q))) : mm_Ev T X (d + 1) mid pc ls (.ref a :: rest) I Q := by
  refine ev_call h rfl (y := y) (as := [.ref a]) (rest := rest) ?_ (ev_conseq k (fun r J h2 => by obtain ⟨v, rfl, h3⟩ := h2; exact h3))
  have hw' : (rest.map Value.category).sum ≤ 8 := of_decide_eq_true hw
  have hf' := of_decide_eq_true hf
  have e1 : ¬ 1010 ≤ a := by omega
  simp [mm_call, hs, hf', mm_pick, mm_cls, hT, hc, hy, hw', e1]
theorem ev_cT1i {n s y a : Nat} {tg : List (Nat × Nat)} {rest : List Value} (h : mm_at mid pc = some (.invokevirtual n, nx, s, vv)) (hs : mm_CS[s]? = some (1, 1, tg)) (ha : 1010 ≤ a ∧ a < 1013) (hy : tg.lookup 50 = some y) (hw : decide ((rest.map Value.category).sum ≤ 8) = true) (hf : decide ((mm_sl [.ref a]).length ≤ mm_ml y) = true) (k : mm_Ev T X d y 0 (mm_ent y [.ref a]) [] I (mm_pi (fun r I' => mm_Ev T X (d + 1) mid nx ls (.int r :: rest) I' Q))) : mm_Ev T X (d + 1) mid pc ls (.ref a :: rest) I Q := by
  refine ev_call h rfl (y := y) (as := [.ref a]) (rest := rest) ?_ (ev_conseq k (fun r J h2 => by obtain ⟨v, rfl, h3⟩ := h2; exact h3))
  have hw' : (rest.map Value.category).sum ≤ 8 := of_decide_eq_true hw
  have hf' := of_decide_eq_true hf
  simp [mm_call, hs, hf', mm_pick, mm_cls, ha.1, ha.2, hy, hw']
theorem ev_cS1v {n s y kd : Nat} {v0 : Value} {rest : List Value} (h : mm_at mid pc = some (.invokestatic n, nx, s, vv)) (hs : mm_CS[s]? = some (1, kd, [(0, y)])) (hk : (kd == 0 || kd == 5) = true) (hw : decide ((rest.map Value.category).sum ≤ 8) = true) (hf : decide ((mm_sl [v0]).length ≤ mm_ml y) = true) (k : mm_Ev T X d y 0 (mm_ent y [v0]) [] I (mm_pv (fun I' => mm_Ev T X (d + 1) mid nx ls rest I' Q))) : mm_Ev T X (d + 1) mid pc ls (v0 :: rest) I Q := by
  refine ev_call h rfl (y := y) (as := [v0]) (rest := rest) ?_ (ev_conseq k (fun r J h2 => by obtain ⟨rfl, h3⟩ := h2; exact h3))
  have hk' : kd = 0 ∨ kd = 5 := by simpa using hk
  have hw' : (rest.map Value.category).sum ≤ 8 := of_decide_eq_true hw
  have hf' := of_decide_eq_true hf
  simp [mm_call, hs, hf', mm_pick, hk', hw']
theorem ev_cV1v {n s y a : Nat} {tg : List (Nat × Nat)} {c : mm_C} {rest : List Value} (h : mm_at mid pc = some (.invokevirtual n, nx, s, vv)) (hs : mm_CS[s]? = some (1, 1, tg)) (hT : T[a]? = some c) (ha : a < 1000) (hc : c.1 < 13) (hy : tg.lookup c.1 = some y) (hw : decide ((rest.map Value.category).sum ≤ 8) = true) (hf : decide ((mm_sl [.ref a]).length ≤ mm_ml y) = true) (k : mm_Ev T X d y 0 (mm_ent y [.ref a]) [] I (mm_pv (fun I' => mm_Ev T X (d + 1) mid nx ls rest I' Q))) : mm_Ev T X (d + 1) mid pc ls (.ref a :: rest) I Q := by
  refine ev_call h rfl (y := y) (as := [.ref a]) (rest := rest) ?_ (ev_conseq k (fun r J h2 => by obtain ⟨rfl, h3⟩ := h2; exact h3))
  have hw' : (rest.map Value.category).sum ≤ 8 := of_decide_eq_true hw
  have hf' := of_decide_eq_true hf
  have e1 : ¬ 1010 ≤ a := by omega
  simp [mm_call, hs, hf', mm_pick, mm_cls, hT, hc, hy, hw', e1]
theorem ev_cP1v {n s y a : Nat} {tg : List (Nat × Nat)} {c : mm_C} {rest : List Value} (h : mm_at mid pc = some (.invokespecial n, nx, s, vv)) (hs : mm_CS[s]? = some (1, 2, tg)) (hT : T[a]? = some c) (ha : a < 1000) (hc : c.1 < 13) (hy : tg.lookup 0 = some y) (hw : decide ((rest.map Value.category).sum ≤ 8) = true) (hf : decide ((mm_sl [.ref a]).length ≤ mm_ml y) = true) (k : mm_Ev T X d y 0 (mm_ent y [.ref a]) [] I (mm_pv (fun I' => mm_Ev T X (d + 1) mid nx ls rest I' Q))) : mm_Ev T X (d + 1) mid pc ls (.ref a :: rest) I Q := by
  refine ev_call h rfl (y := y) (as := [.ref a]) (rest := rest) ?_ (ev_conseq k (fun r J h2 => by obtain ⟨rfl, h3⟩ := h2; exact h3))
  have hw' : (rest.map Value.category).sum ≤ 8 := of_decide_eq_true hw
  have hf' := of_decide_eq_true hf
  have e1 : ¬ 1010 ≤ a := by omega
  simp [mm_call, hs, hf', mm_pick, mm_cls, hT, hc, hy, hw', e1]
theorem ev_cS1r {n s y kd : Nat} {v0 : Value} {rest : List Value} (h : mm_at mid pc = some (.invokestatic n, nx, s, vv)) (hs : mm_CS[s]? = some (1, kd, [(0, y)])) (hk : (kd == 0 || kd == 5) = true) (hw : decide ((rest.map Value.category).sum ≤ 8) = true) (hf : decide ((mm_sl [v0]).length ≤ mm_ml y) = true) (k : mm_Ev T X d y 0 (mm_ent y [v0]) [] I (mm_pr (fun r I' => mm_Ev T X (d + 1) mid nx ls (.ref r :: rest) I' Q))) : mm_Ev T X (d + 1) mid pc ls (v0 :: rest) I Q := by
  refine ev_call h rfl (y := y) (as := [v0]) (rest := rest) ?_ (ev_conseq k (fun r J h2 => by obtain ⟨v, rfl, h3⟩ := h2; exact h3))
  have hk' : kd = 0 ∨ kd = 5 := by simpa using hk
  have hw' : (rest.map Value.category).sum ≤ 8 := of_decide_eq_true hw
  have hf' := of_decide_eq_true hf
  simp [mm_call, hs, hf', mm_pick, hk', hw']
theorem ev_cV1r {n s y a : Nat} {tg : List (Nat × Nat)} {c : mm_C} {rest : List Value} (h : mm_at mid pc = some (.invokevirtual n, nx, s, vv)) (hs : mm_CS[s]? = some (1, 1, tg)) (hT : T[a]? = some c) (ha : a < 1000) (hc : c.1 < 13) (hy : tg.lookup c.1 = some y) (hw : decide ((rest.map Value.category).sum ≤ 8) = true) (hf : decide ((mm_sl [.ref a]).length ≤ mm_ml y) = true) (k : mm_Ev T X d y 0 (mm_ent y [.ref a]) [] I (mm_pr (fun r I' => mm_Ev T X (d + 1) mid nx ls (.ref r :: rest) I' Q))) : mm_Ev T X (d + 1) mid pc ls (.ref a :: rest) I Q := by
  refine ev_call h rfl (y := y) (as := [.ref a]) (rest := rest) ?_ (ev_conseq k (fun r J h2 => by obtain ⟨v, rfl, h3⟩ := h2; exact h3))
  have hw' : (rest.map Value.category).sum ≤ 8 := of_decide_eq_true hw
  have hf' := of_decide_eq_true hf
  have e1 : ¬ 1010 ≤ a := by omega
  simp [mm_call, hs, hf', mm_pick, mm_cls, hT, hc, hy, hw', e1]
theorem ev_cP1r {n s y a : Nat} {tg : List (Nat × Nat)} {c : mm_C} {rest : List Value} (h : mm_at mid pc = some (.invokespecial n, nx, s, vv)) (hs : mm_CS[s]? = some (1, 2, tg)) (hT : T[a]? = some c) (ha : a < 1000) (hc : c.1 < 13) (hy : tg.lookup 0 = some y) (hw : decide ((rest.map Value.category).sum ≤ 8) = true) (hf : decide ((mm_sl [.ref a]).length ≤ mm_ml y) = true) (k : mm_Ev T X d y 0 (mm_ent y [.ref a]) [] I (mm_pr (fun r I' => mm_Ev T X (d + 1) mid nx ls (.ref r :: rest) I' Q))) : mm_Ev T X (d + 1) mid pc ls (.ref a :: rest) I Q := by
  refine ev_call h rfl (y := y) (as := [.ref a]) (rest := rest) ?_ (ev_conseq k (fun r J h2 => by obtain ⟨v, rfl, h3⟩ := h2; exact h3))
  have hw' : (rest.map Value.category).sum ≤ 8 := of_decide_eq_true hw
  have hf' := of_decide_eq_true hf
  have e1 : ¬ 1010 ≤ a := by omega
  simp [mm_call, hs, hf', mm_pick, mm_cls, hT, hc, hy, hw', e1]
theorem ev_cS2i {n s y kd : Nat} {v0 v1 : Value} {rest : List Value} (h : mm_at mid pc = some (.invokestatic n, nx, s, vv)) (hs : mm_CS[s]? = some (2, kd, [(0, y)])) (hk : (kd == 0 || kd == 5) = true) (hw : decide ((rest.map Value.category).sum ≤ 8) = true) (hf : decide ((mm_sl [v0, v1]).length ≤ mm_ml y) = true) (k : mm_Ev T X d y 0 (mm_ent y [v0, v1]) [] I (mm_pi (fun r I' => mm_Ev T X (d + 1) mid nx ls (.int r :: rest) I' Q))) : mm_Ev T X (d + 1) mid pc ls (v1 :: v0 :: rest) I Q := by
  refine ev_call h rfl (y := y) (as := [v0, v1]) (rest := rest) ?_ (ev_conseq k (fun r J h2 => by obtain ⟨v, rfl, h3⟩ := h2; exact h3))
  have hk' : kd = 0 ∨ kd = 5 := by simpa using hk
  have hw' : (rest.map Value.category).sum ≤ 8 := of_decide_eq_true hw
  have hf' := of_decide_eq_true hf
  simp [mm_call, hs, hf', mm_pick, hk', hw']
theorem ev_cV2i {n s y a : Nat} {tg : List (Nat × Nat)} {c : mm_C} {v1 : Value} {rest : List Value} (h : mm_at mid pc = some (.invokevirtual n, nx, s, vv)) (hs : mm_CS[s]? = some (2, 1, tg)) (hT : T[a]? = some c) (ha : a < 1000) (hc : c.1 < 13) (hy : tg.lookup c.1 = some y) (hw : decide ((rest.map Value.category).sum ≤ 8) = true) (hf : decide ((mm_sl [.ref a, v1]).length ≤ mm_ml y) = true) (k : mm_Ev T X d y 0 (mm_ent y [.ref a, v1]) [] I (mm_pi (fun r I' => mm_Ev T X (d + 1) mid nx ls (.int r :: rest) I' Q))) : mm_Ev T X (d + 1) mid pc ls (v1 :: .ref a :: rest) I Q := by
  refine ev_call h rfl (y := y) (as := [.ref a, v1]) (rest := rest) ?_ (ev_conseq k (fun r J h2 => by obtain ⟨v, rfl, h3⟩ := h2; exact h3))
  have hw' : (rest.map Value.category).sum ≤ 8 := of_decide_eq_true hw
  have hf' := of_decide_eq_true hf
  have e1 : ¬ 1010 ≤ a := by omega
  simp [mm_call, hs, hf', mm_pick, mm_cls, hT, hc, hy, hw', e1]
theorem ev_cP2i {n s y a : Nat} {tg : List (Nat × Nat)} {c : mm_C} {v1 : Value} {rest : List Value} (h : mm_at mid pc = some (.invokespecial n, nx, s, vv)) (hs : mm_CS[s]? = some (2, 2, tg)) (hT : T[a]? = some c) (ha : a < 1000) (hc : c.1 < 13) (hy : tg.lookup 0 = some y) (hw : decide ((rest.map Value.category).sum ≤ 8) = true) (hf : decide ((mm_sl [.ref a, v1]).length ≤ mm_ml y) = true) (k : mm_Ev T X d y 0 (mm_ent y [.ref a, v1]) [] I (mm_pi (fun r I' => mm_Ev T X (d + 1) mid nx ls (.int r :: rest) I' Q))) : mm_Ev T X (d + 1) mid pc ls (v1 :: .ref a :: rest) I Q := by
  refine ev_call h rfl (y := y) (as := [.ref a, v1]) (rest := rest) ?_ (ev_conseq k (fun r J h2 => by obtain ⟨v, rfl, h3⟩ := h2; exact h3))
  have hw' : (rest.map Value.category).sum ≤ 8 := of_decide_eq_true hw
  have hf' := of_decide_eq_true hf
  have e1 : ¬ 1010 ≤ a := by omega
  simp [mm_call, hs, hf', mm_pick, mm_cls, hT, hc, hy, hw', e1]
theorem ev_cT2i {n s y a : Nat} {tg : List (Nat × Nat)} {v1 : Value} {rest : List Value} (h : mm_at mid pc = some (.invokevirtual n, nx, s, vv)) (hs : mm_CS[s]? = some (2, 1, tg)) (ha : 1010 ≤ a ∧ a < 1013) (hy : tg.lookup 50 = some y) (hw : decide ((rest.map Value.category).sum ≤ 8) = true) (hf : decide ((mm_sl [.ref a, v1]).length ≤ mm_ml y) = true) (k : mm_Ev T X d y 0 (mm_ent y [.ref a, v1]) [] I (mm_pi (fun r I' => mm_Ev T X (d + 1) mid nx ls (.int r :: rest) I' Q))) : mm_Ev T X (d + 1) mid pc ls (v1 :: .ref a :: rest) I Q := by
  refine ev_call h rfl (y := y) (as := [.ref a, v1]) (rest := rest) ?_ (ev_conseq k (fun r J h2 => by obtain ⟨v, rfl, h3⟩ := h2; exact h3))
  have hw' : (rest.map Value.category).sum ≤ 8 := of_decide_eq_true hw
  have hf' := of_decide_eq_true hf
  simp [mm_call, hs, hf', mm_pick, mm_cls, ha.1, ha.2, hy, hw']
theorem ev_cS2v {n s y kd : Nat} {v0 v1 : Value} {rest : List Value} (h : mm_at mid pc = some (.invokestatic n, nx, s, vv)) (hs : mm_CS[s]? = some (2, kd, [(0, y)])) (hk : (kd == 0 || kd == 5) = true) (hw : decide ((rest.map Value.category).sum ≤ 8) = true) (hf : decide ((mm_sl [v0, v1]).length ≤ mm_ml y) = true) (k : mm_Ev T X d y 0 (mm_ent y [v0, v1]) [] I (mm_pv (fun I' => mm_Ev T X (d + 1) mid nx ls rest I' Q))) : mm_Ev T X (d + 1) mid pc ls (v1 :: v0 :: rest) I Q := by
  refine ev_call h rfl (y := y) (as := [v0, v1]) (rest := rest) ?_ (ev_conseq k (fun r J h2 => by obtain ⟨rfl, h3⟩ := h2; exact h3))
  have hk' : kd = 0 ∨ kd = 5 := by simpa using hk
  have hw' : (rest.map Value.category).sum ≤ 8 := of_decide_eq_true hw
  have hf' := of_decide_eq_true hf
  simp [mm_call, hs, hf', mm_pick, hk', hw']
theorem ev_cV2v {n s y a : Nat} {tg : List (Nat × Nat)} {c : mm_C} {v1 : Value} {rest : List Value} (h : mm_at mid pc = some (.invokevirtual n, nx, s, vv)) (hs : mm_CS[s]? = some (2, 1, tg)) (hT : T[a]? = some c) (ha : a < 1000) (hc : c.1 < 13) (hy : tg.lookup c.1 = some y) (hw : decide ((rest.map Value.category).sum ≤ 8) = true) (hf : decide ((mm_sl [.ref a, v1]).length ≤ mm_ml y) = true) (k : mm_Ev T X d y 0 (mm_ent y [.ref a, v1]) [] I (mm_pv (fun I' => mm_Ev T X (d + 1) mid nx ls rest I' Q))) : mm_Ev T X (d + 1) mid pc ls (v1 :: .ref a :: rest) I Q := by
  refine ev_call h rfl (y := y) (as := [.ref a, v1]) (rest := rest) ?_ (ev_conseq k (fun r J h2 => by obtain ⟨rfl, h3⟩ := h2; exact h3))
  have hw' : (rest.map Value.category).sum ≤ 8 := of_decide_eq_true hw
  have hf' := of_decide_eq_true hf
  have e1 : ¬ 1010 ≤ a := by omega
  simp [mm_call, hs, hf', mm_pick, mm_cls, hT, hc, hy, hw', e1]
theorem ev_cP2v {n s y a : Nat} {tg : List (Nat × Nat)} {c : mm_C} {v1 : Value} {rest : List Value} (h : mm_at mid pc = some (.invokespecial n, nx, s, vv)) (hs : mm_CS[s]? = some (2, 2, tg)) (hT : T[a]? = some c) (ha : a < 1000) (hc : c.1 < 13) (hy : tg.lookup 0 = some y) (hw : decide ((rest.map Value.category).sum ≤ 8) = true) (hf : decide ((mm_sl [.ref a, v1]).length ≤ mm_ml y) = true) (k : mm_Ev T X d y 0 (mm_ent y [.ref a, v1]) [] I (mm_pv (fun I' => mm_Ev T X (d + 1) mid nx ls rest I' Q))) : mm_Ev T X (d + 1) mid pc ls (v1 :: .ref a :: rest) I Q := by
  refine ev_call h rfl (y := y) (as := [.ref a, v1]) (rest := rest) ?_ (ev_conseq k (fun r J h2 => by obtain ⟨rfl, h3⟩ := h2; exact h3))
  have hw' : (rest.map Value.category).sum ≤ 8 := of_decide_eq_true hw
  have hf' := of_decide_eq_true hf
  have e1 : ¬ 1010 ≤ a := by omega
  simp [mm_call, hs, hf', mm_pick, mm_cls, hT, hc, hy, hw', e1]
theorem ev_cS2r {n s y kd : Nat} {v0 v1 : Value} {rest : List Value} (h : mm_at mid pc = some (.invokestatic n, nx, s, vv)) (hs : mm_CS[s]? = some (2, kd, [(0, y)])) (hk : (kd == 0 || kd == 5) = true) (hw : decide ((rest.map Value.category).sum ≤ 8) = true) (hf : decide ((mm_sl [v0, v1]).length ≤ mm_ml y) = true) (k : mm_Ev T X d y 0 (mm_ent y [v0, v1]) [] I (mm_pr (fun r I' => mm_Ev T X (d + 1) mid nx ls (.ref r :: rest) I' Q))) : mm_Ev T X (d + 1) mid pc ls (v1 :: v0 :: rest) I Q := by
  refine ev_call h rfl (y := y) (as := [v0, v1]) (rest := rest) ?_ (ev_conseq k (fun r J h2 => by obtain ⟨v, rfl, h3⟩ := h2; exact h3))
  have hk' : kd = 0 ∨ kd = 5 := by simpa using hk
  have hw' : (rest.map Value.category).sum ≤ 8 := of_decide_eq_true hw
  have hf' := of_decide_eq_true hf
  simp [mm_call, hs, hf', mm_pick, hk', hw']
theorem ev_cV2r {n s y a : Nat} {tg : List (Nat × Nat)} {c : mm_C} {v1 : Value} {rest : List Value} (h : mm_at mid pc = some (.invokevirtual n, nx, s, vv)) (hs : mm_CS[s]? = some (2, 1, tg)) (hT : T[a]? = some c) (ha : a < 1000) (hc : c.1 < 13) (hy : tg.lookup c.1 = some y) (hw : decide ((rest.map Value.category).sum ≤ 8) = true) (hf : decide ((mm_sl [.ref a, v1]).length ≤ mm_ml y) = true) (k : mm_Ev T X d y 0 (mm_ent y [.ref a, v1]) [] I (mm_pr (fun r I' => mm_Ev T X (d + 1) mid nx ls (.ref r :: rest) I' Q))) : mm_Ev T X (d + 1) mid pc ls (v1 :: .ref a :: rest) I Q := by
  refine ev_call h rfl (y := y) (as := [.ref a, v1]) (rest := rest) ?_ (ev_conseq k (fun r J h2 => by obtain ⟨v, rfl, h3⟩ := h2; exact h3))
  have hw' : (rest.map Value.category).sum ≤ 8 := of_decide_eq_true hw
  have hf' := of_decide_eq_true hf
  have e1 : ¬ 1010 ≤ a := by omega
  simp [mm_call, hs, hf', mm_pick, mm_cls, hT, hc, hy, hw', e1]
theorem ev_cP2r {n s y a : Nat} {tg : List (Nat × Nat)} {c : mm_C} {v1 : Value} {rest : List Value} (h : mm_at mid pc = some (.invokespecial n, nx, s, vv)) (hs : mm_CS[s]? = some (2, 2, tg)) (hT : T[a]? = some c) (ha : a < 1000) (hc : c.1 < 13) (hy : tg.lookup 0 = some y) (hw : decide ((rest.map Value.category).sum ≤ 8) = true) (hf : decide ((mm_sl [.ref a, v1]).length ≤ mm_ml y) = true) (k : mm_Ev T X d y 0 (mm_ent y [.ref a, v1]) [] I (mm_pr (fun r I' => mm_Ev T X (d + 1) mid nx ls (.ref r :: rest) I' Q))) : mm_Ev T X (d + 1) mid pc ls (v1 :: .ref a :: rest) I Q := by
  refine ev_call h rfl (y := y) (as := [.ref a, v1]) (rest := rest) ?_ (ev_conseq k (fun r J h2 => by obtain ⟨v, rfl, h3⟩ := h2; exact h3))
  have hw' : (rest.map Value.category).sum ≤ 8 := of_decide_eq_true hw
  have hf' := of_decide_eq_true hf
  have e1 : ¬ 1010 ≤ a := by omega
  simp [mm_call, hs, hf', mm_pick, mm_cls, hT, hc, hy, hw', e1]
theorem ev_cS3i {n s y kd : Nat} {v0 v1 v2 : Value} {rest : List Value} (h : mm_at mid pc = some (.invokestatic n, nx, s, vv)) (hs : mm_CS[s]? = some (3, kd, [(0, y)])) (hk : (kd == 0 || kd == 5) = true) (hw : decide ((rest.map Value.category).sum ≤ 8) = true) (hf : decide ((mm_sl [v0, v1, v2]).length ≤ mm_ml y) = true) (k : mm_Ev T X d y 0 (mm_ent y [v0, v1, v2]) [] I (mm_pi (fun r I' => mm_Ev T X (d + 1) mid nx ls (.int r :: rest) I' Q))) : mm_Ev T X (d + 1) mid pc ls (v2 :: v1 :: v0 :: rest) I Q := by
  refine ev_call h rfl (y := y) (as := [v0, v1, v2]) (rest := rest) ?_ (ev_conseq k (fun r J h2 => by obtain ⟨v, rfl, h3⟩ := h2; exact h3))
  have hk' : kd = 0 ∨ kd = 5 := by simpa using hk
  have hw' : (rest.map Value.category).sum ≤ 8 := of_decide_eq_true hw
  have hf' := of_decide_eq_true hf
  simp [mm_call, hs, hf', mm_pick, hk', hw']
theorem ev_cV3i {n s y a : Nat} {tg : List (Nat × Nat)} {c : mm_C} {v1 v2 : Value} {rest : List Value} (h : mm_at mid pc = some (.invokevirtual n, nx, s, vv)) (hs : mm_CS[s]? = some (3, 1, tg)) (hT : T[a]? = some c) (ha : a < 1000) (hc : c.1 < 13) (hy : tg.lookup c.1 = some y) (hw : decide ((rest.map Value.category).sum ≤ 8) = true) (hf : decide ((mm_sl [.ref a, v1, v2]).length ≤ mm_ml y) = true) (k : mm_Ev T X d y 0 (mm_ent y [.ref a, v1, v2]) [] I (mm_pi (fun r I' => mm_Ev T X (d + 1) mid nx ls (.int r :: rest) I' Q))) : mm_Ev T X (d + 1) mid pc ls (v2 :: v1 :: .ref a :: rest) I Q := by
  refine ev_call h rfl (y := y) (as := [.ref a, v1, v2]) (rest := rest) ?_ (ev_conseq k (fun r J h2 => by obtain ⟨v, rfl, h3⟩ := h2; exact h3))
  have hw' : (rest.map Value.category).sum ≤ 8 := of_decide_eq_true hw
  have hf' := of_decide_eq_true hf
  have e1 : ¬ 1010 ≤ a := by omega
  simp [mm_call, hs, hf', mm_pick, mm_cls, hT, hc, hy, hw', e1]
theorem ev_cP3i {n s y a : Nat} {tg : List (Nat × Nat)} {c : mm_C} {v1 v2 : Value} {rest : List Value} (h : mm_at mid pc = some (.invokespecial n, nx, s, vv)) (hs : mm_CS[s]? = some (3, 2, tg)) (hT : T[a]? = some c) (ha : a < 1000) (hc : c.1 < 13) (hy : tg.lookup 0 = some y) (hw : decide ((rest.map Value.category).sum ≤ 8) = true) (hf : decide ((mm_sl [.ref a, v1, v2]).length ≤ mm_ml y) = true) (k : mm_Ev T X d y 0 (mm_ent y [.ref a, v1, v2]) [] I (mm_pi (fun r I' => mm_Ev T X (d + 1) mid nx ls (.int r :: rest) I' Q))) : mm_Ev T X (d + 1) mid pc ls (v2 :: v1 :: .ref a :: rest) I Q := by
  refine ev_call h rfl (y := y) (as := [.ref a, v1, v2]) (rest := rest) ?_ (ev_conseq k (fun r J h2 => by obtain ⟨v, rfl, h3⟩ := h2; exact h3))
  have hw' : (rest.map Value.category).sum ≤ 8 := of_decide_eq_true hw
  have hf' := of_decide_eq_true hf
  have e1 : ¬ 1010 ≤ a := by omega
  simp [mm_call, hs, hf', mm_pick, mm_cls, hT, hc, hy, hw', e1]
theorem ev_cT3i {n s y a : Nat} {tg : List (Nat × Nat)} {v1 v2 : Value} {rest : List Value} (h : mm_at mid pc = some (.invokevirtual n, nx, s, vv)) (hs : mm_CS[s]? = some (3, 1, tg)) (ha : 1010 ≤ a ∧ a < 1013) (hy : tg.lookup 50 = some y) (hw : decide ((rest.map Value.category).sum ≤ 8) = true) (hf : decide ((mm_sl [.ref a, v1, v2]).length ≤ mm_ml y) = true) (k : mm_Ev T X d y 0 (mm_ent y [.ref a, v1, v2]) [] I (mm_pi (fun r I' => mm_Ev T X (d + 1) mid nx ls (.int r :: rest) I' Q))) : mm_Ev T X (d + 1) mid pc ls (v2 :: v1 :: .ref a :: rest) I Q := by
  refine ev_call h rfl (y := y) (as := [.ref a, v1, v2]) (rest := rest) ?_ (ev_conseq k (fun r J h2 => by obtain ⟨v, rfl, h3⟩ := h2; exact h3))
  have hw' : (rest.map Value.category).sum ≤ 8 := of_decide_eq_true hw
  have hf' := of_decide_eq_true hf
  simp [mm_call, hs, hf', mm_pick, mm_cls, ha.1, ha.2, hy, hw']
theorem ev_cS3v {n s y kd : Nat} {v0 v1 v2 : Value} {rest : List Value} (h : mm_at mid pc = some (.invokestatic n, nx, s, vv)) (hs : mm_CS[s]? = some (3, kd, [(0, y)])) (hk : (kd == 0 || kd == 5) = true) (hw : decide ((rest.map Value.category).sum ≤ 8) = true) (hf : decide ((mm_sl [v0, v1, v2]).length ≤ mm_ml y) = true) (k : mm_Ev T X d y 0 (mm_ent y [v0, v1, v2]) [] I (mm_pv (fun I' => mm_Ev T X (d + 1) mid nx ls rest I' Q))) : mm_Ev T X (d + 1) mid pc ls (v2 :: v1 :: v0 :: rest) I Q := by
  refine ev_call h rfl (y := y) (as := [v0, v1, v2]) (rest := rest) ?_ (ev_conseq k (fun r J h2 => by obtain ⟨rfl, h3⟩ := h2; exact h3))
  have hk' : kd = 0 ∨ kd = 5 := by simpa using hk
  have hw' : (rest.map Value.category).sum ≤ 8 := of_decide_eq_true hw
  have hf' := of_decide_eq_true hf
  simp [mm_call, hs, hf', mm_pick, hk', hw']
theorem ev_cV3v {n s y a : Nat} {tg : List (Nat × Nat)} {c : mm_C} {v1 v2 : Value} {rest : List Value} (h : mm_at mid pc = some (.invokevirtual n, nx, s, vv)) (hs : mm_CS[s]? = some (3, 1, tg)) (hT : T[a]? = some c) (ha : a < 1000) (hc : c.1 < 13) (hy : tg.lookup c.1 = some y) (hw : decide ((rest.map Value.category).sum ≤ 8) = true) (hf : decide ((mm_sl [.ref a, v1, v2]).length ≤ mm_ml y) = true) (k : mm_Ev T X d y 0 (mm_ent y [.ref a, v1, v2]) [] I (mm_pv (fun I' => mm_Ev T X (d + 1) mid nx ls rest I' Q))) : mm_Ev T X (d + 1) mid pc ls (v2 :: v1 :: .ref a :: rest) I Q := by
  refine ev_call h rfl (y := y) (as := [.ref a, v1, v2]) (rest := rest) ?_ (ev_conseq k (fun r J h2 => by obtain ⟨rfl, h3⟩ := h2; exact h3))
  have hw' : (rest.map Value.category).sum ≤ 8 := of_decide_eq_true hw
  have hf' := of_decide_eq_true hf
  have e1 : ¬ 1010 ≤ a := by omega
  simp [mm_call, hs, hf', mm_pick, mm_cls, hT, hc, hy, hw', e1]
theorem ev_cP3v {n s y a : Nat} {tg : List (Nat × Nat)} {c : mm_C} {v1 v2 : Value} {rest : List Value} (h : mm_at mid pc = some (.invokespecial n, nx, s, vv)) (hs : mm_CS[s]? = some (3, 2, tg)) (hT : T[a]? = some c) (ha : a < 1000) (hc : c.1 < 13) (hy : tg.lookup 0 = some y) (hw : decide ((rest.map Value.category).sum ≤ 8) = true) (hf : decide ((mm_sl [.ref a, v1, v2]).length ≤ mm_ml y) = true) (k : mm_Ev T X d y 0 (mm_ent y [.ref a, v1, v2]) [] I (mm_pv (fun I' => mm_Ev T X (d + 1) mid nx ls rest I' Q))) : mm_Ev T X (d + 1) mid pc ls (v2 :: v1 :: .ref a :: rest) I Q := by
  refine ev_call h rfl (y := y) (as := [.ref a, v1, v2]) (rest := rest) ?_ (ev_conseq k (fun r J h2 => by obtain ⟨rfl, h3⟩ := h2; exact h3))
  have hw' : (rest.map Value.category).sum ≤ 8 := of_decide_eq_true hw
  have hf' := of_decide_eq_true hf
  have e1 : ¬ 1010 ≤ a := by omega
  simp [mm_call, hs, hf', mm_pick, mm_cls, hT, hc, hy, hw', e1]
theorem ev_cS3r {n s y kd : Nat} {v0 v1 v2 : Value} {rest : List Value} (h : mm_at mid pc = some (.invokestatic n, nx, s, vv)) (hs : mm_CS[s]? = some (3, kd, [(0, y)])) (hk : (kd == 0 || kd == 5) = true) (hw : decide ((rest.map Value.category).sum ≤ 8) = true) (hf : decide ((mm_sl [v0, v1, v2]).length ≤ mm_ml y) = true) (k : mm_Ev T X d y 0 (mm_ent y [v0, v1, v2]) [] I (mm_pr (fun r I' => mm_Ev T X (d + 1) mid nx ls (.ref r :: rest) I' Q))) : mm_Ev T X (d + 1) mid pc ls (v2 :: v1 :: v0 :: rest) I Q := by
  refine ev_call h rfl (y := y) (as := [v0, v1, v2]) (rest := rest) ?_ (ev_conseq k (fun r J h2 => by obtain ⟨v, rfl, h3⟩ := h2; exact h3))
  have hk' : kd = 0 ∨ kd = 5 := by simpa using hk
  have hw' : (rest.map Value.category).sum ≤ 8 := of_decide_eq_true hw
  have hf' := of_decide_eq_true hf
  simp [mm_call, hs, hf', mm_pick, hk', hw']
theorem ev_cV3r {n s y a : Nat} {tg : List (Nat × Nat)} {c : mm_C} {v1 v2 : Value} {rest : List Value} (h : mm_at mid pc = some (.invokevirtual n, nx, s, vv)) (hs : mm_CS[s]? = some (3, 1, tg)) (hT : T[a]? = some c) (ha : a < 1000) (hc : c.1 < 13) (hy : tg.lookup c.1 = some y) (hw : decide ((rest.map Value.category).sum ≤ 8) = true) (hf : decide ((mm_sl [.ref a, v1, v2]).length ≤ mm_ml y) = true) (k : mm_Ev T X d y 0 (mm_ent y [.ref a, v1, v2]) [] I (mm_pr (fun r I' => mm_Ev T X (d + 1) mid nx ls (.ref r :: rest) I' Q))) : mm_Ev T X (d + 1) mid pc ls (v2 :: v1 :: .ref a :: rest) I Q := by
  refine ev_call h rfl (y := y) (as := [.ref a, v1, v2]) (rest := rest) ?_ (ev_conseq k (fun r J h2 => by obtain ⟨v, rfl, h3⟩ := h2; exact h3))
  have hw' : (rest.map Value.category).sum ≤ 8 := of_decide_eq_true hw
  have hf' := of_decide_eq_true hf
  have e1 : ¬ 1010 ≤ a := by omega
  simp [mm_call, hs, hf', mm_pick, mm_cls, hT, hc, hy, hw', e1]
theorem ev_cP3r {n s y a : Nat} {tg : List (Nat × Nat)} {c : mm_C} {v1 v2 : Value} {rest : List Value} (h : mm_at mid pc = some (.invokespecial n, nx, s, vv)) (hs : mm_CS[s]? = some (3, 2, tg)) (hT : T[a]? = some c) (ha : a < 1000) (hc : c.1 < 13) (hy : tg.lookup 0 = some y) (hw : decide ((rest.map Value.category).sum ≤ 8) = true) (hf : decide ((mm_sl [.ref a, v1, v2]).length ≤ mm_ml y) = true) (k : mm_Ev T X d y 0 (mm_ent y [.ref a, v1, v2]) [] I (mm_pr (fun r I' => mm_Ev T X (d + 1) mid nx ls (.ref r :: rest) I' Q))) : mm_Ev T X (d + 1) mid pc ls (v2 :: v1 :: .ref a :: rest) I Q := by
  refine ev_call h rfl (y := y) (as := [.ref a, v1, v2]) (rest := rest) ?_ (ev_conseq k (fun r J h2 => by obtain ⟨v, rfl, h3⟩ := h2; exact h3))
  have hw' : (rest.map Value.category).sum ≤ 8 := of_decide_eq_true hw
  have hf' := of_decide_eq_true hf
  have e1 : ¬ 1010 ≤ a := by omega
  simp [mm_call, hs, hf', mm_pick, mm_cls, hT, hc, hy, hw', e1]
theorem ev_cS4i {n s y kd : Nat} {v0 v1 v2 v3 : Value} {rest : List Value} (h : mm_at mid pc = some (.invokestatic n, nx, s, vv)) (hs : mm_CS[s]? = some (4, kd, [(0, y)])) (hk : (kd == 0 || kd == 5) = true) (hw : decide ((rest.map Value.category).sum ≤ 8) = true) (hf : decide ((mm_sl [v0, v1, v2, v3]).length ≤ mm_ml y) = true) (k : mm_Ev T X d y 0 (mm_ent y [v0, v1, v2, v3]) [] I (mm_pi (fun r I' => mm_Ev T X (d + 1) mid nx ls (.int r :: rest) I' Q))) : mm_Ev T X (d + 1) mid pc ls (v3 :: v2 :: v1 :: v0 :: rest) I Q := by
  refine ev_call h rfl (y := y) (as := [v0, v1, v2, v3]) (rest := rest) ?_ (ev_conseq k (fun r J h2 => by obtain ⟨v, rfl, h3⟩ := h2; exact h3))
  have hk' : kd = 0 ∨ kd = 5 := by simpa using hk
  have hw' : (rest.map Value.category).sum ≤ 8 := of_decide_eq_true hw
  have hf' := of_decide_eq_true hf
  simp [mm_call, hs, hf', mm_pick, hk', hw']
theorem ev_cV4i {n s y a : Nat} {tg : List (Nat × Nat)} {c : mm_C} {v1 v2 v3 : Value} {rest : List Value} (h : mm_at mid pc = some (.invokevirtual n, nx, s, vv)) (hs : mm_CS[s]? = some (4, 1, tg)) (hT : T[a]? = some c) (ha : a < 1000) (hc : c.1 < 13) (hy : tg.lookup c.1 = some y) (hw : decide ((rest.map Value.category).sum ≤ 8) = true) (hf : decide ((mm_sl [.ref a, v1, v2, v3]).length ≤ mm_ml y) = true) (k : mm_Ev T X d y 0 (mm_ent y [.ref a, v1, v2, v3]) [] I (mm_pi (fun r I' => mm_Ev T X (d + 1) mid nx ls (.int r :: rest) I' Q))) : mm_Ev T X (d + 1) mid pc ls (v3 :: v2 :: v1 :: .ref a :: rest) I Q := by
  refine ev_call h rfl (y := y) (as := [.ref a, v1, v2, v3]) (rest := rest) ?_ (ev_conseq k (fun r J h2 => by obtain ⟨v, rfl, h3⟩ := h2; exact h3))
  have hw' : (rest.map Value.category).sum ≤ 8 := of_decide_eq_true hw
  have hf' := of_decide_eq_true hf
  have e1 : ¬ 1010 ≤ a := by omega
  simp [mm_call, hs, hf', mm_pick, mm_cls, hT, hc, hy, hw', e1]
theorem ev_cP4i {n s y a : Nat} {tg : List (Nat × Nat)} {c : mm_C} {v1 v2 v3 : Value} {rest : List Value} (h : mm_at mid pc = some (.invokespecial n, nx, s, vv)) (hs : mm_CS[s]? = some (4, 2, tg)) (hT : T[a]? = some c) (ha : a < 1000) (hc : c.1 < 13) (hy : tg.lookup 0 = some y) (hw : decide ((rest.map Value.category).sum ≤ 8) = true) (hf : decide ((mm_sl [.ref a, v1, v2, v3]).length ≤ mm_ml y) = true) (k : mm_Ev T X d y 0 (mm_ent y [.ref a, v1, v2, v3]) [] I (mm_pi (fun r I' => mm_Ev T X (d + 1) mid nx ls (.int r :: rest) I' Q))) : mm_Ev T X (d + 1) mid pc ls (v3 :: v2 :: v1 :: .ref a :: rest) I Q := by
  refine ev_call h rfl (y := y) (as := [.ref a, v1, v2, v3]) (rest := rest) ?_ (ev_conseq k (fun r J h2 => by obtain ⟨v, rfl, h3⟩ := h2; exact h3))
  have hw' : (rest.map Value.category).sum ≤ 8 := of_decide_eq_true hw
  have hf' := of_decide_eq_true hf
  have e1 : ¬ 1010 ≤ a := by omega
  simp [mm_call, hs, hf', mm_pick, mm_cls, hT, hc, hy, hw', e1]
theorem ev_cS4v {n s y kd : Nat} {v0 v1 v2 v3 : Value} {rest : List Value} (h : mm_at mid pc = some (.invokestatic n, nx, s, vv)) (hs : mm_CS[s]? = some (4, kd, [(0, y)])) (hk : (kd == 0 || kd == 5) = true) (hw : decide ((rest.map Value.category).sum ≤ 8) = true) (hf : decide ((mm_sl [v0, v1, v2, v3]).length ≤ mm_ml y) = true) (k : mm_Ev T X d y 0 (mm_ent y [v0, v1, v2, v3]) [] I (mm_pv (fun I' => mm_Ev T X (d + 1) mid nx ls rest I' Q))) : mm_Ev T X (d + 1) mid pc ls (v3 :: v2 :: v1 :: v0 :: rest) I Q := by
  refine ev_call h rfl (y := y) (as := [v0, v1, v2, v3]) (rest := rest) ?_ (ev_conseq k (fun r J h2 => by obtain ⟨rfl, h3⟩ := h2; exact h3))
  have hk' : kd = 0 ∨ kd = 5 := by simpa using hk
  have hw' : (rest.map Value.category).sum ≤ 8 := of_decide_eq_true hw
  have hf' := of_decide_eq_true hf
  simp [mm_call, hs, hf', mm_pick, hk', hw']
theorem ev_cV4v {n s y a : Nat} {tg : List (Nat × Nat)} {c : mm_C} {v1 v2 v3 : Value} {rest : List Value} (h : mm_at mid pc = some (.invokevirtual n, nx, s, vv)) (hs : mm_CS[s]? = some (4, 1, tg)) (hT : T[a]? = some c) (ha : a < 1000) (hc : c.1 < 13) (hy : tg.lookup c.1 = some y) (hw : decide ((rest.map Value.category).sum ≤ 8) = true) (hf : decide ((mm_sl [.ref a, v1, v2, v3]).length ≤ mm_ml y) = true) (k : mm_Ev T X d y 0 (mm_ent y [.ref a, v1, v2, v3]) [] I (mm_pv (fun I' => mm_Ev T X (d + 1) mid nx ls rest I' Q))) : mm_Ev T X (d + 1) mid pc ls (v3 :: v2 :: v1 :: .ref a :: rest) I Q := by
  refine ev_call h rfl (y := y) (as := [.ref a, v1, v2, v3]) (rest := rest) ?_ (ev_conseq k (fun r J h2 => by obtain ⟨rfl, h3⟩ := h2; exact h3))
  have hw' : (rest.map Value.category).sum ≤ 8 := of_decide_eq_true hw
  have hf' := of_decide_eq_true hf
  have e1 : ¬ 1010 ≤ a := by omega
  simp [mm_call, hs, hf', mm_pick, mm_cls, hT, hc, hy, hw', e1]
theorem ev_cP4v {n s y a : Nat} {tg : List (Nat × Nat)} {c : mm_C} {v1 v2 v3 : Value} {rest : List Value} (h : mm_at mid pc = some (.invokespecial n, nx, s, vv)) (hs : mm_CS[s]? = some (4, 2, tg)) (hT : T[a]? = some c) (ha : a < 1000) (hc : c.1 < 13) (hy : tg.lookup 0 = some y) (hw : decide ((rest.map Value.category).sum ≤ 8) = true) (hf : decide ((mm_sl [.ref a, v1, v2, v3]).length ≤ mm_ml y) = true) (k : mm_Ev T X d y 0 (mm_ent y [.ref a, v1, v2, v3]) [] I (mm_pv (fun I' => mm_Ev T X (d + 1) mid nx ls rest I' Q))) : mm_Ev T X (d + 1) mid pc ls (v3 :: v2 :: v1 :: .ref a :: rest) I Q := by
  refine ev_call h rfl (y := y) (as := [.ref a, v1, v2, v3]) (rest := rest) ?_ (ev_conseq k (fun r J h2 => by obtain ⟨rfl, h3⟩ := h2; exact h3))
  have hw' : (rest.map Value.category).sum ≤ 8 := of_decide_eq_true hw
  have hf' := of_decide_eq_true hf
  have e1 : ¬ 1010 ≤ a := by omega
  simp [mm_call, hs, hf', mm_pick, mm_cls, hT, hc, hy, hw', e1]
theorem ev_cS4r {n s y kd : Nat} {v0 v1 v2 v3 : Value} {rest : List Value} (h : mm_at mid pc = some (.invokestatic n, nx, s, vv)) (hs : mm_CS[s]? = some (4, kd, [(0, y)])) (hk : (kd == 0 || kd == 5) = true) (hw : decide ((rest.map Value.category).sum ≤ 8) = true) (hf : decide ((mm_sl [v0, v1, v2, v3]).length ≤ mm_ml y) = true) (k : mm_Ev T X d y 0 (mm_ent y [v0, v1, v2, v3]) [] I (mm_pr (fun r I' => mm_Ev T X (d + 1) mid nx ls (.ref r :: rest) I' Q))) : mm_Ev T X (d + 1) mid pc ls (v3 :: v2 :: v1 :: v0 :: rest) I Q := by
  refine ev_call h rfl (y := y) (as := [v0, v1, v2, v3]) (rest := rest) ?_ (ev_conseq k (fun r J h2 => by obtain ⟨v, rfl, h3⟩ := h2; exact h3))
  have hk' : kd = 0 ∨ kd = 5 := by simpa using hk
  have hw' : (rest.map Value.category).sum ≤ 8 := of_decide_eq_true hw
  have hf' := of_decide_eq_true hf
  simp [mm_call, hs, hf', mm_pick, hk', hw']
theorem ev_cV4r {n s y a : Nat} {tg : List (Nat × Nat)} {c : mm_C} {v1 v2 v3 : Value} {rest : List Value} (h : mm_at mid pc = some (.invokevirtual n, nx, s, vv)) (hs : mm_CS[s]? = some (4, 1, tg)) (hT : T[a]? = some c) (ha : a < 1000) (hc : c.1 < 13) (hy : tg.lookup c.1 = some y) (hw : decide ((rest.map Value.category).sum ≤ 8) = true) (hf : decide ((mm_sl [.ref a, v1, v2, v3]).length ≤ mm_ml y) = true) (k : mm_Ev T X d y 0 (mm_ent y [.ref a, v1, v2, v3]) [] I (mm_pr (fun r I' => mm_Ev T X (d + 1) mid nx ls (.ref r :: rest) I' Q))) : mm_Ev T X (d + 1) mid pc ls (v3 :: v2 :: v1 :: .ref a :: rest) I Q := by
  refine ev_call h rfl (y := y) (as := [.ref a, v1, v2, v3]) (rest := rest) ?_ (ev_conseq k (fun r J h2 => by obtain ⟨v, rfl, h3⟩ := h2; exact h3))
  have hw' : (rest.map Value.category).sum ≤ 8 := of_decide_eq_true hw
  have hf' := of_decide_eq_true hf
  have e1 : ¬ 1010 ≤ a := by omega
  simp [mm_call, hs, hf', mm_pick, mm_cls, hT, hc, hy, hw', e1]
theorem ev_cP4r {n s y a : Nat} {tg : List (Nat × Nat)} {c : mm_C} {v1 v2 v3 : Value} {rest : List Value} (h : mm_at mid pc = some (.invokespecial n, nx, s, vv)) (hs : mm_CS[s]? = some (4, 2, tg)) (hT : T[a]? = some c) (ha : a < 1000) (hc : c.1 < 13) (hy : tg.lookup 0 = some y) (hw : decide ((rest.map Value.category).sum ≤ 8) = true) (hf : decide ((mm_sl [.ref a, v1, v2, v3]).length ≤ mm_ml y) = true) (k : mm_Ev T X d y 0 (mm_ent y [.ref a, v1, v2, v3]) [] I (mm_pr (fun r I' => mm_Ev T X (d + 1) mid nx ls (.ref r :: rest) I' Q))) : mm_Ev T X (d + 1) mid pc ls (v3 :: v2 :: v1 :: .ref a :: rest) I Q := by
  refine ev_call h rfl (y := y) (as := [.ref a, v1, v2, v3]) (rest := rest) ?_ (ev_conseq k (fun r J h2 => by obtain ⟨v, rfl, h3⟩ := h2; exact h3))
  have hw' : (rest.map Value.category).sum ≤ 8 := of_decide_eq_true hw
  have hf' := of_decide_eq_true hf
  have e1 : ¬ 1010 ≤ a := by omega
  simp [mm_call, hs, hf', mm_pick, mm_cls, hT, hc, hy, hw', e1]
theorem ev_cS5i {n s y kd : Nat} {v0 v1 v2 v3 v4 : Value} {rest : List Value} (h : mm_at mid pc = some (.invokestatic n, nx, s, vv)) (hs : mm_CS[s]? = some (5, kd, [(0, y)])) (hk : (kd == 0 || kd == 5) = true) (hw : decide ((rest.map Value.category).sum ≤ 8) = true) (hf : decide ((mm_sl [v0, v1, v2, v3, v4]).length ≤ mm_ml y) = true) (k : mm_Ev T X d y 0 (mm_ent y [v0, v1, v2, v3, v4]) [] I (mm_pi (fun r I' => mm_Ev T X (d + 1) mid nx ls (.int r :: rest) I' Q))) : mm_Ev T X (d + 1) mid pc ls (v4 :: v3 :: v2 :: v1 :: v0 :: rest) I Q := by
  refine ev_call h rfl (y := y) (as := [v0, v1, v2, v3, v4]) (rest := rest) ?_ (ev_conseq k (fun r J h2 => by obtain ⟨v, rfl, h3⟩ := h2; exact h3))
  have hk' : kd = 0 ∨ kd = 5 := by simpa using hk
  have hw' : (rest.map Value.category).sum ≤ 8 := of_decide_eq_true hw
  have hf' := of_decide_eq_true hf
  simp [mm_call, hs, hf', mm_pick, hk', hw']
theorem ev_cV5i {n s y a : Nat} {tg : List (Nat × Nat)} {c : mm_C} {v1 v2 v3 v4 : Value} {rest : List Value} (h : mm_at mid pc = some (.invokevirtual n, nx, s, vv)) (hs : mm_CS[s]? = some (5, 1, tg)) (hT : T[a]? = some c) (ha : a < 1000) (hc : c.1 < 13) (hy : tg.lookup c.1 = some y) (hw : decide ((rest.map Value.category).sum ≤ 8) = true) (hf : decide ((mm_sl [.ref a, v1, v2, v3, v4]).length ≤ mm_ml y) = true) (k : mm_Ev T X d y 0 (mm_ent y [.ref a, v1, v2, v3, v4]) [] I (mm_pi (fun r I' => mm_Ev T X (d + 1) mid nx ls (.int r :: rest) I' Q))) : mm_Ev T X (d + 1) mid pc ls (v4 :: v3 :: v2 :: v1 :: .ref a :: rest) I Q := by
  refine ev_call h rfl (y := y) (as := [.ref a, v1, v2, v3, v4]) (rest := rest) ?_ (ev_conseq k (fun r J h2 => by obtain ⟨v, rfl, h3⟩ := h2; exact h3))
  have hw' : (rest.map Value.category).sum ≤ 8 := of_decide_eq_true hw
  have hf' := of_decide_eq_true hf
  have e1 : ¬ 1010 ≤ a := by omega
  simp [mm_call, hs, hf', mm_pick, mm_cls, hT, hc, hy, hw', e1]
theorem ev_cP5i {n s y a : Nat} {tg : List (Nat × Nat)} {c : mm_C} {v1 v2 v3 v4 : Value} {rest : List Value} (h : mm_at mid pc = some (.invokespecial n, nx, s, vv)) (hs : mm_CS[s]? = some (5, 2, tg)) (hT : T[a]? = some c) (ha : a < 1000) (hc : c.1 < 13) (hy : tg.lookup 0 = some y) (hw : decide ((rest.map Value.category).sum ≤ 8) = true) (hf : decide ((mm_sl [.ref a, v1, v2, v3, v4]).length ≤ mm_ml y) = true) (k : mm_Ev T X d y 0 (mm_ent y [.ref a, v1, v2, v3, v4]) [] I (mm_pi (fun r I' => mm_Ev T X (d + 1) mid nx ls (.int r :: rest) I' Q))) : mm_Ev T X (d + 1) mid pc ls (v4 :: v3 :: v2 :: v1 :: .ref a :: rest) I Q := by
  refine ev_call h rfl (y := y) (as := [.ref a, v1, v2, v3, v4]) (rest := rest) ?_ (ev_conseq k (fun r J h2 => by obtain ⟨v, rfl, h3⟩ := h2; exact h3))
  have hw' : (rest.map Value.category).sum ≤ 8 := of_decide_eq_true hw
  have hf' := of_decide_eq_true hf
  have e1 : ¬ 1010 ≤ a := by omega
  simp [mm_call, hs, hf', mm_pick, mm_cls, hT, hc, hy, hw', e1]
theorem ev_cS5v {n s y kd : Nat} {v0 v1 v2 v3 v4 : Value} {rest : List Value} (h : mm_at mid pc = some (.invokestatic n, nx, s, vv)) (hs : mm_CS[s]? = some (5, kd, [(0, y)])) (hk : (kd == 0 || kd == 5) = true) (hw : decide ((rest.map Value.category).sum ≤ 8) = true) (hf : decide ((mm_sl [v0, v1, v2, v3, v4]).length ≤ mm_ml y) = true) (k : mm_Ev T X d y 0 (mm_ent y [v0, v1, v2, v3, v4]) [] I (mm_pv (fun I' => mm_Ev T X (d + 1) mid nx ls rest I' Q))) : mm_Ev T X (d + 1) mid pc ls (v4 :: v3 :: v2 :: v1 :: v0 :: rest) I Q := by
  refine ev_call h rfl (y := y) (as := [v0, v1, v2, v3, v4]) (rest := rest) ?_ (ev_conseq k (fun r J h2 => by obtain ⟨rfl, h3⟩ := h2; exact h3))
  have hk' : kd = 0 ∨ kd = 5 := by simpa using hk
  have hw' : (rest.map Value.category).sum ≤ 8 := of_decide_eq_true hw
  have hf' := of_decide_eq_true hf
  simp [mm_call, hs, hf', mm_pick, hk', hw']
theorem ev_cV5v {n s y a : Nat} {tg : List (Nat × Nat)} {c : mm_C} {v1 v2 v3 v4 : Value} {rest : List Value} (h : mm_at mid pc = some (.invokevirtual n, nx, s, vv)) (hs : mm_CS[s]? = some (5, 1, tg)) (hT : T[a]? = some c) (ha : a < 1000) (hc : c.1 < 13) (hy : tg.lookup c.1 = some y) (hw : decide ((rest.map Value.category).sum ≤ 8) = true) (hf : decide ((mm_sl [.ref a, v1, v2, v3, v4]).length ≤ mm_ml y) = true) (k : mm_Ev T X d y 0 (mm_ent y [.ref a, v1, v2, v3, v4]) [] I (mm_pv (fun I' => mm_Ev T X (d + 1) mid nx ls rest I' Q))) : mm_Ev T X (d + 1) mid pc ls (v4 :: v3 :: v2 :: v1 :: .ref a :: rest) I Q := by
  refine ev_call h rfl (y := y) (as := [.ref a, v1, v2, v3, v4]) (rest := rest) ?_ (ev_conseq k (fun r J h2 => by obtain ⟨rfl, h3⟩ := h2; exact h3))
  have hw' : (rest.map Value.category).sum ≤ 8 := of_decide_eq_true hw
  have hf' := of_decide_eq_true hf
  have e1 : ¬ 1010 ≤ a := by omega
  simp [mm_call, hs, hf', mm_pick, mm_cls, hT, hc, hy, hw', e1]
theorem ev_cP5v {n s y a : Nat} {tg : List (Nat × Nat)} {c : mm_C} {v1 v2 v3 v4 : Value} {rest : List Value} (h : mm_at mid pc = some (.invokespecial n, nx, s, vv)) (hs : mm_CS[s]? = some (5, 2, tg)) (hT : T[a]? = some c) (ha : a < 1000) (hc : c.1 < 13) (hy : tg.lookup 0 = some y) (hw : decide ((rest.map Value.category).sum ≤ 8) = true) (hf : decide ((mm_sl [.ref a, v1, v2, v3, v4]).length ≤ mm_ml y) = true) (k : mm_Ev T X d y 0 (mm_ent y [.ref a, v1, v2, v3, v4]) [] I (mm_pv (fun I' => mm_Ev T X (d + 1) mid nx ls rest I' Q))) : mm_Ev T X (d + 1) mid pc ls (v4 :: v3 :: v2 :: v1 :: .ref a :: rest) I Q := by
  refine ev_call h rfl (y := y) (as := [.ref a, v1, v2, v3, v4]) (rest := rest) ?_ (ev_conseq k (fun r J h2 => by obtain ⟨rfl, h3⟩ := h2; exact h3))
  have hw' : (rest.map Value.category).sum ≤ 8 := of_decide_eq_true hw
  have hf' := of_decide_eq_true hf
  have e1 : ¬ 1010 ≤ a := by omega
  simp [mm_call, hs, hf', mm_pick, mm_cls, hT, hc, hy, hw', e1]
theorem ev_cS5r {n s y kd : Nat} {v0 v1 v2 v3 v4 : Value} {rest : List Value} (h : mm_at mid pc = some (.invokestatic n, nx, s, vv)) (hs : mm_CS[s]? = some (5, kd, [(0, y)])) (hk : (kd == 0 || kd == 5) = true) (hw : decide ((rest.map Value.category).sum ≤ 8) = true) (hf : decide ((mm_sl [v0, v1, v2, v3, v4]).length ≤ mm_ml y) = true) (k : mm_Ev T X d y 0 (mm_ent y [v0, v1, v2, v3, v4]) [] I (mm_pr (fun r I' => mm_Ev T X (d + 1) mid nx ls (.ref r :: rest) I' Q))) : mm_Ev T X (d + 1) mid pc ls (v4 :: v3 :: v2 :: v1 :: v0 :: rest) I Q := by
  refine ev_call h rfl (y := y) (as := [v0, v1, v2, v3, v4]) (rest := rest) ?_ (ev_conseq k (fun r J h2 => by obtain ⟨v, rfl, h3⟩ := h2; exact h3))
  have hk' : kd = 0 ∨ kd = 5 := by simpa using hk
  have hw' : (rest.map Value.category).sum ≤ 8 := of_decide_eq_true hw
  have hf' := of_decide_eq_true hf
  simp [mm_call, hs, hf', mm_pick, hk', hw']
theorem ev_cV5r {n s y a : Nat} {tg : List (Nat × Nat)} {c : mm_C} {v1 v2 v3 v4 : Value} {rest : List Value} (h : mm_at mid pc = some (.invokevirtual n, nx, s, vv)) (hs : mm_CS[s]? = some (5, 1, tg)) (hT : T[a]? = some c) (ha : a < 1000) (hc : c.1 < 13) (hy : tg.lookup c.1 = some y) (hw : decide ((rest.map Value.category).sum ≤ 8) = true) (hf : decide ((mm_sl [.ref a, v1, v2, v3, v4]).length ≤ mm_ml y) = true) (k : mm_Ev T X d y 0 (mm_ent y [.ref a, v1, v2, v3, v4]) [] I (mm_pr (fun r I' => mm_Ev T X (d + 1) mid nx ls (.ref r :: rest) I' Q))) : mm_Ev T X (d + 1) mid pc ls (v4 :: v3 :: v2 :: v1 :: .ref a :: rest) I Q := by
  refine ev_call h rfl (y := y) (as := [.ref a, v1, v2, v3, v4]) (rest := rest) ?_ (ev_conseq k (fun r J h2 => by obtain ⟨v, rfl, h3⟩ := h2; exact h3))
  have hw' : (rest.map Value.category).sum ≤ 8 := of_decide_eq_true hw
  have hf' := of_decide_eq_true hf
  have e1 : ¬ 1010 ≤ a := by omega
  simp [mm_call, hs, hf', mm_pick, mm_cls, hT, hc, hy, hw', e1]
theorem ev_cP5r {n s y a : Nat} {tg : List (Nat × Nat)} {c : mm_C} {v1 v2 v3 v4 : Value} {rest : List Value} (h : mm_at mid pc = some (.invokespecial n, nx, s, vv)) (hs : mm_CS[s]? = some (5, 2, tg)) (hT : T[a]? = some c) (ha : a < 1000) (hc : c.1 < 13) (hy : tg.lookup 0 = some y) (hw : decide ((rest.map Value.category).sum ≤ 8) = true) (hf : decide ((mm_sl [.ref a, v1, v2, v3, v4]).length ≤ mm_ml y) = true) (k : mm_Ev T X d y 0 (mm_ent y [.ref a, v1, v2, v3, v4]) [] I (mm_pr (fun r I' => mm_Ev T X (d + 1) mid nx ls (.ref r :: rest) I' Q))) : mm_Ev T X (d + 1) mid pc ls (v4 :: v3 :: v2 :: v1 :: .ref a :: rest) I Q := by
  refine ev_call h rfl (y := y) (as := [.ref a, v1, v2, v3, v4]) (rest := rest) ?_ (ev_conseq k (fun r J h2 => by obtain ⟨v, rfl, h3⟩ := h2; exact h3))
  have hw' : (rest.map Value.category).sum ≤ 8 := of_decide_eq_true hw
  have hf' := of_decide_eq_true hf
  have e1 : ¬ 1010 ≤ a := by omega
  simp [mm_call, hs, hf', mm_pick, mm_cls, hT, hc, hy, hw', e1]
theorem ev_cS6i {n s y kd : Nat} {v0 v1 v2 v3 v4 v5 : Value} {rest : List Value} (h : mm_at mid pc = some (.invokestatic n, nx, s, vv)) (hs : mm_CS[s]? = some (6, kd, [(0, y)])) (hk : (kd == 0 || kd == 5) = true) (hw : decide ((rest.map Value.category).sum ≤ 8) = true) (hf : decide ((mm_sl [v0, v1, v2, v3, v4, v5]).length ≤ mm_ml y) = true) (k : mm_Ev T X d y 0 (mm_ent y [v0, v1, v2, v3, v4, v5]) [] I (mm_pi (fun r I' => mm_Ev T X (d + 1) mid nx ls (.int r :: rest) I' Q))) : mm_Ev T X (d + 1) mid pc ls (v5 :: v4 :: v3 :: v2 :: v1 :: v0 :: rest) I Q := by
  refine ev_call h rfl (y := y) (as := [v0, v1, v2, v3, v4, v5]) (rest := rest) ?_ (ev_conseq k (fun r J h2 => by obtain ⟨v, rfl, h3⟩ := h2; exact h3))
  have hk' : kd = 0 ∨ kd = 5 := by simpa using hk
  have hw' : (rest.map Value.category).sum ≤ 8 := of_decide_eq_true hw
  have hf' := of_decide_eq_true hf
  simp [mm_call, hs, hf', mm_pick, hk', hw']
theorem ev_cV6i {n s y a : Nat} {tg : List (Nat × Nat)} {c : mm_C} {v1 v2 v3 v4 v5 : Value} {rest : List Value} (h : mm_at mid pc = some (.invokevirtual n, nx, s, vv)) (hs : mm_CS[s]? = some (6, 1, tg)) (hT : T[a]? = some c) (ha : a < 1000) (hc : c.1 < 13) (hy : tg.lookup c.1 = some y) (hw : decide ((rest.map Value.category).sum ≤ 8) = true) (hf : decide ((mm_sl [.ref a, v1, v2, v3, v4, v5]).length ≤ mm_ml y) = true) (k : mm_Ev T X d y 0 (mm_ent y [.ref a, v1, v2, v3, v4, v5]) [] I (mm_pi (fun r I' => mm_Ev T X (d + 1) mid nx ls (.int r :: rest) I' Q))) : mm_Ev T X (d + 1) mid pc ls (v5 :: v4 :: v3 :: v2 :: v1 :: .ref a :: rest) I Q := by
  refine ev_call h rfl (y := y) (as := [.ref a, v1, v2, v3, v4, v5]) (rest := rest) ?_ (ev_conseq k (fun r J h2 => by obtain ⟨v, rfl, h3⟩ := h2; exact h3))
  have hw' : (rest.map Value.category).sum ≤ 8 := of_decide_eq_true hw
  have hf' := of_decide_eq_true hf
  have e1 : ¬ 1010 ≤ a := by omega
  simp [mm_call, hs, hf', mm_pick, mm_cls, hT, hc, hy, hw', e1]
theorem ev_cP6i {n s y a : Nat} {tg : List (Nat × Nat)} {c : mm_C} {v1 v2 v3 v4 v5 : Value} {rest : List Value} (h : mm_at mid pc = some (.invokespecial n, nx, s, vv)) (hs : mm_CS[s]? = some (6, 2, tg)) (hT : T[a]? = some c) (ha : a < 1000) (hc : c.1 < 13) (hy : tg.lookup 0 = some y) (hw : decide ((rest.map Value.category).sum ≤ 8) = true) (hf : decide ((mm_sl [.ref a, v1, v2, v3, v4, v5]).length ≤ mm_ml y) = true) (k : mm_Ev T X d y 0 (mm_ent y [.ref a, v1, v2, v3, v4, v5]) [] I (mm_pi (fun r I' => mm_Ev T X (d + 1) mid nx ls (.int r :: rest) I' Q))) : mm_Ev T X (d + 1) mid pc ls (v5 :: v4 :: v3 :: v2 :: v1 :: .ref a :: rest) I Q := by
  refine ev_call h rfl (y := y) (as := [.ref a, v1, v2, v3, v4, v5]) (rest := rest) ?_ (ev_conseq k (fun r J h2 => by obtain ⟨v, rfl, h3⟩ := h2; exact h3))
  have hw' : (rest.map Value.category).sum ≤ 8 := of_decide_eq_true hw
  have hf' := of_decide_eq_true hf
  have e1 : ¬ 1010 ≤ a := by omega
  simp [mm_call, hs, hf', mm_pick, mm_cls, hT, hc, hy, hw', e1]
theorem ev_cS6v {n s y kd : Nat} {v0 v1 v2 v3 v4 v5 : Value} {rest : List Value} (h : mm_at mid pc = some (.invokestatic n, nx, s, vv)) (hs : mm_CS[s]? = some (6, kd, [(0, y)])) (hk : (kd == 0 || kd == 5) = true) (hw : decide ((rest.map Value.category).sum ≤ 8) = true) (hf : decide ((mm_sl [v0, v1, v2, v3, v4, v5]).length ≤ mm_ml y) = true) (k : mm_Ev T X d y 0 (mm_ent y [v0, v1, v2, v3, v4, v5]) [] I (mm_pv (fun I' => mm_Ev T X (d + 1) mid nx ls rest I' Q))) : mm_Ev T X (d + 1) mid pc ls (v5 :: v4 :: v3 :: v2 :: v1 :: v0 :: rest) I Q := by
  refine ev_call h rfl (y := y) (as := [v0, v1, v2, v3, v4, v5]) (rest := rest) ?_ (ev_conseq k (fun r J h2 => by obtain ⟨rfl, h3⟩ := h2; exact h3))
  have hk' : kd = 0 ∨ kd = 5 := by simpa using hk
  have hw' : (rest.map Value.category).sum ≤ 8 := of_decide_eq_true hw
  have hf' := of_decide_eq_true hf
  simp [mm_call, hs, hf', mm_pick, hk', hw']
theorem ev_cV6v {n s y a : Nat} {tg : List (Nat × Nat)} {c : mm_C} {v1 v2 v3 v4 v5 : Value} {rest : List Value} (h : mm_at mid pc = some (.invokevirtual n, nx, s, vv)) (hs : mm_CS[s]? = some (6, 1, tg)) (hT : T[a]? = some c) (ha : a < 1000) (hc : c.1 < 13) (hy : tg.lookup c.1 = some y) (hw : decide ((rest.map Value.category).sum ≤ 8) = true) (hf : decide ((mm_sl [.ref a, v1, v2, v3, v4, v5]).length ≤ mm_ml y) = true) (k : mm_Ev T X d y 0 (mm_ent y [.ref a, v1, v2, v3, v4, v5]) [] I (mm_pv (fun I' => mm_Ev T X (d + 1) mid nx ls rest I' Q))) : mm_Ev T X (d + 1) mid pc ls (v5 :: v4 :: v3 :: v2 :: v1 :: .ref a :: rest) I Q := by
  refine ev_call h rfl (y := y) (as := [.ref a, v1, v2, v3, v4, v5]) (rest := rest) ?_ (ev_conseq k (fun r J h2 => by obtain ⟨rfl, h3⟩ := h2; exact h3))
  have hw' : (rest.map Value.category).sum ≤ 8 := of_decide_eq_true hw
  have hf' := of_decide_eq_true hf
  have e1 : ¬ 1010 ≤ a := by omega
  simp [mm_call, hs, hf', mm_pick, mm_cls, hT, hc, hy, hw', e1]
theorem ev_cP6v {n s y a : Nat} {tg : List (Nat × Nat)} {c : mm_C} {v1 v2 v3 v4 v5 : Value} {rest : List Value} (h : mm_at mid pc = some (.invokespecial n, nx, s, vv)) (hs : mm_CS[s]? = some (6, 2, tg)) (hT : T[a]? = some c) (ha : a < 1000) (hc : c.1 < 13) (hy : tg.lookup 0 = some y) (hw : decide ((rest.map Value.category).sum ≤ 8) = true) (hf : decide ((mm_sl [.ref a, v1, v2, v3, v4, v5]).length ≤ mm_ml y) = true) (k : mm_Ev T X d y 0 (mm_ent y [.ref a, v1, v2, v3, v4, v5]) [] I (mm_pv (fun I' => mm_Ev T X (d + 1) mid nx ls rest I' Q))) : mm_Ev T X (d + 1) mid pc ls (v5 :: v4 :: v3 :: v2 :: v1 :: .ref a :: rest) I Q := by
  refine ev_call h rfl (y := y) (as := [.ref a, v1, v2, v3, v4, v5]) (rest := rest) ?_ (ev_conseq k (fun r J h2 => by obtain ⟨rfl, h3⟩ := h2; exact h3))
  have hw' : (rest.map Value.category).sum ≤ 8 := of_decide_eq_true hw
  have hf' := of_decide_eq_true hf
  have e1 : ¬ 1010 ≤ a := by omega
  simp [mm_call, hs, hf', mm_pick, mm_cls, hT, hc, hy, hw', e1]
theorem ev_cS6r {n s y kd : Nat} {v0 v1 v2 v3 v4 v5 : Value} {rest : List Value} (h : mm_at mid pc = some (.invokestatic n, nx, s, vv)) (hs : mm_CS[s]? = some (6, kd, [(0, y)])) (hk : (kd == 0 || kd == 5) = true) (hw : decide ((rest.map Value.category).sum ≤ 8) = true) (hf : decide ((mm_sl [v0, v1, v2, v3, v4, v5]).length ≤ mm_ml y) = true) (k : mm_Ev T X d y 0 (mm_ent y [v0, v1, v2, v3, v4, v5]) [] I (mm_pr (fun r I' => mm_Ev T X (d + 1) mid nx ls (.ref r :: rest) I' Q))) : mm_Ev T X (d + 1) mid pc ls (v5 :: v4 :: v3 :: v2 :: v1 :: v0 :: rest) I Q := by
  refine ev_call h rfl (y := y) (as := [v0, v1, v2, v3, v4, v5]) (rest := rest) ?_ (ev_conseq k (fun r J h2 => by obtain ⟨v, rfl, h3⟩ := h2; exact h3))
  have hk' : kd = 0 ∨ kd = 5 := by simpa using hk
  have hw' : (rest.map Value.category).sum ≤ 8 := of_decide_eq_true hw
  have hf' := of_decide_eq_true hf
  simp [mm_call, hs, hf', mm_pick, hk', hw']
theorem ev_cV6r {n s y a : Nat} {tg : List (Nat × Nat)} {c : mm_C} {v1 v2 v3 v4 v5 : Value} {rest : List Value} (h : mm_at mid pc = some (.invokevirtual n, nx, s, vv)) (hs : mm_CS[s]? = some (6, 1, tg)) (hT : T[a]? = some c) (ha : a < 1000) (hc : c.1 < 13) (hy : tg.lookup c.1 = some y) (hw : decide ((rest.map Value.category).sum ≤ 8) = true) (hf : decide ((mm_sl [.ref a, v1, v2, v3, v4, v5]).length ≤ mm_ml y) = true) (k : mm_Ev T X d y 0 (mm_ent y [.ref a, v1, v2, v3, v4, v5]) [] I (mm_pr (fun r I' => mm_Ev T X (d + 1) mid nx ls (.ref r :: rest) I' Q))) : mm_Ev T X (d + 1) mid pc ls (v5 :: v4 :: v3 :: v2 :: v1 :: .ref a :: rest) I Q := by
  refine ev_call h rfl (y := y) (as := [.ref a, v1, v2, v3, v4, v5]) (rest := rest) ?_ (ev_conseq k (fun r J h2 => by obtain ⟨v, rfl, h3⟩ := h2; exact h3))
  have hw' : (rest.map Value.category).sum ≤ 8 := of_decide_eq_true hw
  have hf' := of_decide_eq_true hf
  have e1 : ¬ 1010 ≤ a := by omega
  simp [mm_call, hs, hf', mm_pick, mm_cls, hT, hc, hy, hw', e1]
theorem ev_cP6r {n s y a : Nat} {tg : List (Nat × Nat)} {c : mm_C} {v1 v2 v3 v4 v5 : Value} {rest : List Value} (h : mm_at mid pc = some (.invokespecial n, nx, s, vv)) (hs : mm_CS[s]? = some (6, 2, tg)) (hT : T[a]? = some c) (ha : a < 1000) (hc : c.1 < 13) (hy : tg.lookup 0 = some y) (hw : decide ((rest.map Value.category).sum ≤ 8) = true) (hf : decide ((mm_sl [.ref a, v1, v2, v3, v4, v5]).length ≤ mm_ml y) = true) (k : mm_Ev T X d y 0 (mm_ent y [.ref a, v1, v2, v3, v4, v5]) [] I (mm_pr (fun r I' => mm_Ev T X (d + 1) mid nx ls (.ref r :: rest) I' Q))) : mm_Ev T X (d + 1) mid pc ls (v5 :: v4 :: v3 :: v2 :: v1 :: .ref a :: rest) I Q := by
  refine ev_call h rfl (y := y) (as := [.ref a, v1, v2, v3, v4, v5]) (rest := rest) ?_ (ev_conseq k (fun r J h2 => by obtain ⟨v, rfl, h3⟩ := h2; exact h3))
  have hw' : (rest.map Value.category).sum ≤ 8 := of_decide_eq_true hw
  have hf' := of_decide_eq_true hf
  have e1 : ¬ 1010 ≤ a := by omega
  simp [mm_call, hs, hf', mm_pick, mm_cls, hT, hc, hy, hw', e1]
end EV2
