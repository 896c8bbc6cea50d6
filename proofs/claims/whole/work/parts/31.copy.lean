/-! A house becomes as another one -/
section EVR
variable {T : List mm_C} {X : Nat × (Nat → Int32)} {d mid pc nx aux : Nat} {vv : Value} {ls st : List Value} {I : mm_I} {Q : Option Value → mm_I → Prop}
theorem ev_copyR {a b N M n : Nat} {rs rs' : List Value} (h : mm_at mid pc = some (.invokestatic n, nx, 10000, vv)) (hT : T[a]? = some (100, N, rs)) (hT' : T[b]? = some (100, M, rs')) (h4 : 6 ≤ N) (h5 : 6 ≤ M) (h6 : (st.map Value.category).sum ≤ 8) (k : ∀ J : mm_I, (∀ q, q ≠ b → J q = I q) → (∀ j, j < 6 → J b j = I a j) → mm_Ev T X d mid nx ls st J Q) : mm_Ev T X d mid pc ls (.int 6 :: .int 0 :: .ref b :: .int 0 :: .ref a :: st) I Q :=
  ev_copy h hT hT' (by decide) (by decide) (by decide) h4 h5 h6 (k _ (mm_cp_ne I a _ b _ _) (fun j hj => by
    rw [mm_cp_same]
    have e : (0 : Int32).toNatClampNeg = 0 := rfl
    have e6 : (6 : Int32).toNatClampNeg = 6 := rfl
    unfold va_cpy
    rw [e, e6, if_pos (by omega)]
    simp))
theorem ev_pfR {n a j : Nat} {x z : Int32} {c : mm_C} (h : mm_at mid pc = some (.putfield n, nx, aux, vv)) (hT : T[a]? = some c) (hj0 : aux % 100 = j) (hc : (decide (c.1 < 13) && mm_dc c.1 (aux % 100) == aux / 100 && mm_nf c.1 (aux % 100) && mm_fk c.1 (aux % 100) == 0) = true) (hj : c.2.2[j]? = some (.int z)) (k : ∀ J : mm_I, (∀ q, q ≠ a → J q = I q) → J a j = x → (∀ j', j' ≠ j → J a j' = I a j') → mm_Ev T X d mid nx ls st J Q) : mm_Ev T X d mid pc ls (.int x :: .ref a :: st) I Q :=
  ev_pf h hT hj0 hc hj (k _ (mm_up_ne I a j x) (by simp [mm_up_at]) (fun j' h' => by simp [mm_up_at, h']))
end EVR
theorem sp_copyFromR {T : List mm_C} {X : Nat × (Nat → Int32)} {d : Nat} {I : mm_I} {ra rb N N2 n : Nat} {P : mm_I → Prop} (hr : T[ra]? = some (rC ra)) (hn : T[ra + 1]? = some (aC N)) (ha : ra < 900) (hr2 : T[rb]? = some (rC rb)) (hn2 : T[rb + 1]? = some (aC N2)) (hb : rb < 900) (hab : rb ≠ ra) (hab2 : rb + 1 ≠ ra) (hab3 : ra + 1 ≠ rb) (hl : I rb 2 = nI n) (hN : n ≤ N) (hN2 : n ≤ N2) (hN3 : N ≤ 900) (hQ : ∀ J : mm_I, (∀ q, q ≠ ra → q ≠ ra + 1 → J q = I q) → J ra 1 = I rb 1 → J ra 2 = nI n → (∀ j, j < n → J (ra + 1) j = I (rb + 1) j) → P J) : mm_Ev T X d 61 0 (mm_ent 61 [.ref ra, .ref rb]) [] I (mm_pv P) := by
  refine sp_copyFrom hr hn ha hr2 hn2 hb hab hl hN hN2 hN3 (hQ _ (fun q h1 h2 => ?_) ?_ ?_ (fun j hj => ?_))
  · rw [mm_cp_ne _ _ _ _ _ _ _ h2, mm_up_ne _ _ _ _ _ h1, mm_up_ne _ _ _ _ _ h1]
  · rw [mm_cp_ne _ _ _ _ _ _ _ (by omega)]; simp [mm_up_at]
  · rw [mm_cp_ne _ _ _ _ _ _ _ (by omega)]; simp [mm_up_at]
  · rw [mm_cp_same, pk_cpy_in (by omega) (by omega), mm_up_ne _ _ _ _ _ (by omega), mm_up_ne _ _ _ _ _ (by omega)]
    simp
/-- J is I, but that house hb is as house ob -/
def hCy (I J : mm_I) (hb ob : Nat) : Prop := (∀ k, (k < hb ∨ hb + 20 < k) → J k = I k) ∧ (J hb 1 = I ob 1 ∧ J hb 7 = I ob 7 ∧ J hb 15 = I ob 15 ∧ J hb 16 = I ob 16 ∧ J hb 17 = I ob 17) ∧ (∀ j, j < 6 → J (hb + 1) j = I (ob + 1) j ∧ J (hb + 2) j = I (ob + 2) j ∧ J (hb + 3) j = I (ob + 3) j ∧ J (hb + 4) j = I (ob + 4) j ∧ J (hb + 6) j = I (ob + 6) j ∧ J (hb + 7) j = I (ob + 7) j ∧ J (hb + 8) j = I (ob + 8) j) ∧
  (J (hb + 10) 1 = I (ob + 10) 1 ∧ J (hb + 10) 2 = I (ob + 10) 2 ∧ ∀ j, j < (I (ob + 10) 2).toNatClampNeg → J (hb + 11) j = I (ob + 11) j) ∧ (J (hb + 14) 1 = I (ob + 14) 1 ∧ J (hb + 14) 2 = I (ob + 14) 2 ∧ ∀ j, j < (I (ob + 14) 2).toNatClampNeg → J (hb + 15) j = I (ob + 15) j) ∧ (J (hb + 17) 1 = I (ob + 17) 1 ∧ J (hb + 17) 2 = I (ob + 17) 2 ∧ ∀ j, j < (I (ob + 17) 2).toNatClampNeg → J (hb + 18) j = I (ob + 18) j) ∧ (J (hb + 19) 1 = I (ob + 19) 1 ∧ J (hb + 19) 2 = I (ob + 19) 2 ∧ ∀ j, j < (I (ob + 19) 2).toNatClampNeg → J (hb + 20) j = I (ob + 20) j) ∧ J (hb + 9) = I (hb + 9) ∧ J (hb + 13) = I (hb + 13)
/-- House.copyFrom -/
theorem sp_hCopy {X : Nat × (Nat → Int32)} {d : Nat} {I : mm_I} {hb ob l0 l1 l2 l3 : Nat} {P : mm_I → Prop} (hh : hH hb) (ho : hH ob) (hne : hb ≠ ob) (e10 : I (ob + 10) 2 = nI l0) (e14 : I (ob + 14) 2 = nI l1) (e17 : I (ob + 17) 2 = nI l2) (e19 : I (ob + 19) 2 = nI l3) (h0 : l0 ≤ 50) (h1 : l1 ≤ 50) (h2 : l2 ≤ 50) (h3 : l3 ≤ 20) (hQ : ∀ J, hCy I J hb ob → P J) : mm_Ev mm_T0 X (d + 1) 20 0 (mm_ent 20 [.ref hb, .ref ob]) [] I (mm_pv P) := by
  show mm_Ev mm_T0 X (d + 1) 20 0 [.ref hb, .ref ob] [] I (mm_pv P)
  have t0 := tH0 hh
  have s0 := tH0 ho
  have t1 := tH1 hh
  have s1 := tH1 ho
  have t2 := tH2 hh
  have s2 := tH2 ho
  have t3 := tH3 hh
  have s3 := tH3 ho
  have t4 := tH4 hh
  have s4 := tH4 ho
  have t6 := tH6 hh
  have s6 := tH6 ho
  have t7 := tH7 hh
  have s7 := tH7 ho
  have t8 := tH8 hh
  have s8 := tH8 ho
  have t9 := tH9 hh
  have s9 := tH9 ho
  have t10 := tH10 hh
  have s10 := tH10 ho
  have t11 := tH11 hh
  have s11 := tH11 ho
  have t13 := tH13 hh
  have s13 := tH13 ho
  have t14 := tH14 hh
  have s14 := tH14 ho
  have t15 := tH15 hh
  have s15 := tH15 ho
  have t17 := tH17 hh
  have s17 := tH17 ho
  have t18 := tH18 hh
  have s18 := tH18 ho
  have t19 := tH19 hh
  have s19 := tH19 ho
  have t20 := tH20 hh
  have s20 := tH20 ho
  have hh' : hb = 11 ∨ hb = 32 ∨ hb = 53 := hh
  have ho' : ob = 11 ∨ ob = 32 ∨ ob = 53 := ho
  refine ev_ald0 k20_0 ?_
  refine ev_ald1 k20_1 ?_
  refine ev_gf (j := 1) k20_2 (by first | assumption | rfl) rfl rfl rfl rfl ?_
  refine ev_pfR (j := 1) k20_5 (by first | assumption | rfl) rfl rfl rfl (fun J1 f1 g1 u1 => ?_)
  refine ev_ald1 k20_8 ?_
  refine ev_getr k20_9 (by first | assumption | rfl) rfl rfl rfl ?_
  refine ev_iconst k20_12 ?_
  refine ev_ald0 k20_13 ?_
  refine ev_getr k20_14 (by first | assumption | rfl) rfl rfl rfl ?_
  refine ev_iconst k20_17 ?_
  refine ev_bipush k20_18 ?_
  refine ev_copyR k20_20 (by first | assumption | rfl) (by first | assumption | rfl) (by decide) (by decide) (by decide) (fun J2 f2 g2 => ?_)
  refine ev_ald1 k20_23 ?_
  refine ev_getr k20_24 (by first | assumption | rfl) rfl rfl rfl ?_
  refine ev_iconst k20_27 ?_
  refine ev_ald0 k20_28 ?_
  refine ev_getr k20_29 (by first | assumption | rfl) rfl rfl rfl ?_
  refine ev_iconst k20_32 ?_
  refine ev_bipush k20_33 ?_
  refine ev_copyR k20_35 (by first | assumption | rfl) (by first | assumption | rfl) (by decide) (by decide) (by decide) (fun J3 f3 g3 => ?_)
  refine ev_ald1 k20_38 ?_
  refine ev_getr k20_39 (by first | assumption | rfl) rfl rfl rfl ?_
  refine ev_iconst k20_42 ?_
  refine ev_ald0 k20_43 ?_
  refine ev_getr k20_44 (by first | assumption | rfl) rfl rfl rfl ?_
  refine ev_iconst k20_47 ?_
  refine ev_bipush k20_48 ?_
  refine ev_copyR k20_50 (by first | assumption | rfl) (by first | assumption | rfl) (by decide) (by decide) (by decide) (fun J4 f4 g4 => ?_)
  refine ev_ald1 k20_53 ?_
  refine ev_getr k20_54 (by first | assumption | rfl) rfl rfl rfl ?_
  refine ev_iconst k20_57 ?_
  refine ev_ald0 k20_58 ?_
  refine ev_getr k20_59 (by first | assumption | rfl) rfl rfl rfl ?_
  refine ev_iconst k20_62 ?_
  refine ev_bipush k20_63 ?_
  refine ev_copyR k20_65 (by first | assumption | rfl) (by first | assumption | rfl) (by decide) (by decide) (by decide) (fun J5 f5 g5 => ?_)
  refine ev_ald0 k20_68 ?_
  refine ev_ald1 k20_69 ?_
  refine ev_gf (j := 7) k20_70 (by first | assumption | rfl) rfl rfl rfl rfl ?_
  refine ev_pfR (j := 7) k20_73 (by first | assumption | rfl) rfl rfl rfl (fun J6 f6 g6 u6 => ?_)
  refine ev_ald1 k20_76 ?_
  refine ev_getr k20_77 (by first | assumption | rfl) rfl rfl rfl ?_
  refine ev_iconst k20_80 ?_
  refine ev_ald0 k20_81 ?_
  refine ev_getr k20_82 (by first | assumption | rfl) rfl rfl rfl ?_
  refine ev_iconst k20_85 ?_
  refine ev_bipush k20_86 ?_
  refine ev_copyR k20_88 (by first | assumption | rfl) (by first | assumption | rfl) (by decide) (by decide) (by decide) (fun J7 f7 g7 => ?_)
  refine ev_ald1 k20_91 ?_
  refine ev_getr k20_92 (by first | assumption | rfl) rfl rfl rfl ?_
  refine ev_iconst k20_95 ?_
  refine ev_ald0 k20_96 ?_
  refine ev_getr k20_97 (by first | assumption | rfl) rfl rfl rfl ?_
  refine ev_iconst k20_100 ?_
  refine ev_bipush k20_101 ?_
  refine ev_copyR k20_103 (by first | assumption | rfl) (by first | assumption | rfl) (by decide) (by decide) (by decide) (fun J8 f8 g8 => ?_)
  refine ev_ald1 k20_106 ?_
  refine ev_getr k20_107 (by first | assumption | rfl) rfl rfl rfl ?_
  refine ev_iconst k20_110 ?_
  refine ev_ald0 k20_111 ?_
  refine ev_getr k20_112 (by first | assumption | rfl) rfl rfl rfl ?_
  refine ev_iconst k20_115 ?_
  refine ev_bipush k20_116 ?_
  refine ev_copyR k20_118 (by first | assumption | rfl) (by first | assumption | rfl) (by decide) (by decide) (by decide) (fun J9 f9 g9 => ?_)
  refine ev_ald0 k20_121 ?_
  refine ev_getr k20_122 (by first | assumption | rfl) rfl rfl rfl ?_
  refine ev_getr k20_125 (by first | assumption | rfl) rfl rfl rfl ?_
  refine ev_ald1 k20_128 ?_
  refine ev_getr k20_129 (by first | assumption | rfl) rfl rfl rfl ?_
  refine ev_getr k20_132 (by first | assumption | rfl) rfl rfl rfl ?_
  refine ev_cV2v k20_135 cs_107 (by first | assumption | rfl) (by omega) (Nat.le_of_ble_eq_true rfl) rfl rfl rfl ?_
  refine sp_copyFromR (n := l0) t10 t11 (by omega) s10 s11 (by omega) (by omega) (by omega) (by omega) (by rw [f9 _ (by omega), f8 _ (by omega), f7 _ (by omega), f6 _ (by omega), f5 _ (by omega), f4 _ (by omega), f3 _ (by omega), f2 _ (by omega), f1 _ (by omega)]; exact e10) (by omega) (by omega) (by omega) (fun J10 f10 g10a g10b g10c => ?_)
  refine ev_ald0 k20_138 ?_
  refine ev_getr k20_139 (by first | assumption | rfl) rfl rfl rfl ?_
  refine ev_getr k20_142 (by first | assumption | rfl) rfl rfl rfl ?_
  refine ev_ald1 k20_145 ?_
  refine ev_getr k20_146 (by first | assumption | rfl) rfl rfl rfl ?_
  refine ev_getr k20_149 (by first | assumption | rfl) rfl rfl rfl ?_
  refine ev_cV2v k20_152 cs_107 (by first | assumption | rfl) (by omega) (Nat.le_of_ble_eq_true rfl) rfl rfl rfl ?_
  refine sp_copyFromR (n := l1) t14 t15 (by omega) s14 s15 (by omega) (by omega) (by omega) (by omega) (by rw [f10 _ (by omega) (by omega), f9 _ (by omega), f8 _ (by omega), f7 _ (by omega), f6 _ (by omega), f5 _ (by omega), f4 _ (by omega), f3 _ (by omega), f2 _ (by omega), f1 _ (by omega)]; exact e14) (by omega) (by omega) (by omega) (fun J11 f11 g11a g11b g11c => ?_)
  refine ev_ald0 k20_155 ?_
  refine ev_getr k20_156 (by first | assumption | rfl) rfl rfl rfl ?_
  refine ev_ald1 k20_159 ?_
  refine ev_getr k20_160 (by first | assumption | rfl) rfl rfl rfl ?_
  refine ev_cV2v k20_163 cs_107 (by first | assumption | rfl) (by omega) (Nat.le_of_ble_eq_true rfl) rfl rfl rfl ?_
  refine sp_copyFromR (n := l2) t17 t18 (by omega) s17 s18 (by omega) (by omega) (by omega) (by omega) (by rw [f11 _ (by omega) (by omega), f10 _ (by omega) (by omega), f9 _ (by omega), f8 _ (by omega), f7 _ (by omega), f6 _ (by omega), f5 _ (by omega), f4 _ (by omega), f3 _ (by omega), f2 _ (by omega), f1 _ (by omega)]; exact e17) (by omega) (by omega) (by omega) (fun J12 f12 g12a g12b g12c => ?_)
  refine ev_ald0 k20_166 ?_
  refine ev_getr k20_167 (by first | assumption | rfl) rfl rfl rfl ?_
  refine ev_ald1 k20_170 ?_
  refine ev_getr k20_171 (by first | assumption | rfl) rfl rfl rfl ?_
  refine ev_cV2v k20_174 cs_107 (by first | assumption | rfl) (by omega) (Nat.le_of_ble_eq_true rfl) rfl rfl rfl ?_
  refine sp_copyFromR (n := l3) t19 t20 (by omega) s19 s20 (by omega) (by omega) (by omega) (by omega) (by rw [f12 _ (by omega) (by omega), f11 _ (by omega) (by omega), f10 _ (by omega) (by omega), f9 _ (by omega), f8 _ (by omega), f7 _ (by omega), f6 _ (by omega), f5 _ (by omega), f4 _ (by omega), f3 _ (by omega), f2 _ (by omega), f1 _ (by omega)]; exact e19) (by omega) (by omega) (by omega) (fun J13 f13 g13a g13b g13c => ?_)
  refine ev_ald0 k20_177 ?_
  refine ev_ald1 k20_178 ?_
  refine ev_gf (j := 15) k20_179 (by first | assumption | rfl) rfl rfl rfl rfl ?_
  refine ev_pfR (j := 15) k20_182 (by first | assumption | rfl) rfl rfl rfl (fun J14 f14 g14 u14 => ?_)
  refine ev_ald0 k20_185 ?_
  refine ev_ald1 k20_186 ?_
  refine ev_gf (j := 16) k20_187 (by first | assumption | rfl) rfl rfl rfl rfl ?_
  refine ev_pfR (j := 16) k20_190 (by first | assumption | rfl) rfl rfl rfl (fun J15 f15 g15 u15 => ?_)
  refine ev_ald0 k20_193 ?_
  refine ev_ald1 k20_194 ?_
  refine ev_gf (j := 17) k20_195 (by first | assumption | rfl) rfl rfl rfl rfl ?_
  refine ev_pfR (j := 17) k20_198 (by first | assumption | rfl) rfl rfl rfl (fun J16 f16 g16 u16 => ?_)
  refine ev_rv k20_201 rfl ?_
  refine hQ J16 ⟨fun k hk => ?_, ⟨?_, ?_, ?_, ?_, ?_⟩, fun j hj => ⟨?_, ?_, ?_, ?_, ?_, ?_, ?_⟩, ⟨?_, ?_, fun j hj => ?_⟩, ⟨?_, ?_, fun j hj => ?_⟩, ⟨?_, ?_, fun j hj => ?_⟩, ⟨?_, ?_, fun j hj => ?_⟩, ?_, ?_⟩
  · rw [f16 _ (by omega), f15 _ (by omega), f14 _ (by omega), f13 _ (by omega) (by omega), f12 _ (by omega) (by omega), f11 _ (by omega) (by omega), f10 _ (by omega) (by omega), f9 _ (by omega), f8 _ (by omega), f7 _ (by omega), f6 _ (by omega), f5 _ (by omega), f4 _ (by omega), f3 _ (by omega), f2 _ (by omega), f1 _ (by omega)]
  · rw [u16 1 (by decide), u15 1 (by decide), u14 1 (by decide), f13 hb (by omega) (by omega), f12 hb (by omega) (by omega), f11 hb (by omega) (by omega), f10 hb (by omega) (by omega), f9 hb (by omega), f8 hb (by omega), f7 hb (by omega), u6 1 (by decide), f5 hb (by omega), f4 hb (by omega), f3 hb (by omega), f2 hb (by omega), g1]
  · rw [u16 7 (by decide), u15 7 (by decide), u14 7 (by decide), f13 hb (by omega) (by omega), f12 hb (by omega) (by omega), f11 hb (by omega) (by omega), f10 hb (by omega) (by omega), f9 hb (by omega), f8 hb (by omega), f7 hb (by omega), g6, f5 ob (by omega), f4 ob (by omega), f3 ob (by omega), f2 ob (by omega), f1 ob (by omega)]
  · rw [u16 15 (by decide), u15 15 (by decide), g14, f13 ob (by omega) (by omega), f12 ob (by omega) (by omega), f11 ob (by omega) (by omega), f10 ob (by omega) (by omega), f9 ob (by omega), f8 ob (by omega), f7 ob (by omega), f6 ob (by omega), f5 ob (by omega), f4 ob (by omega), f3 ob (by omega), f2 ob (by omega), f1 ob (by omega)]
  · rw [u16 16 (by decide), g15, f14 ob (by omega), f13 ob (by omega) (by omega), f12 ob (by omega) (by omega), f11 ob (by omega) (by omega), f10 ob (by omega) (by omega), f9 ob (by omega), f8 ob (by omega), f7 ob (by omega), f6 ob (by omega), f5 ob (by omega), f4 ob (by omega), f3 ob (by omega), f2 ob (by omega), f1 ob (by omega)]
  · rw [g16, f15 ob (by omega), f14 ob (by omega), f13 ob (by omega) (by omega), f12 ob (by omega) (by omega), f11 ob (by omega) (by omega), f10 ob (by omega) (by omega), f9 ob (by omega), f8 ob (by omega), f7 ob (by omega), f6 ob (by omega), f5 ob (by omega), f4 ob (by omega), f3 ob (by omega), f2 ob (by omega), f1 ob (by omega)]
  · rw [f16 _ (by omega), f15 _ (by omega), f14 _ (by omega), f13 _ (by omega) (by omega), f12 _ (by omega) (by omega), f11 _ (by omega) (by omega), f10 _ (by omega) (by omega), f9 _ (by omega), f8 _ (by omega), f7 _ (by omega), f6 _ (by omega), f5 _ (by omega), f4 _ (by omega), f3 _ (by omega), g2 j hj, f1 _ (by omega)]
  · rw [f16 _ (by omega), f15 _ (by omega), f14 _ (by omega), f13 _ (by omega) (by omega), f12 _ (by omega) (by omega), f11 _ (by omega) (by omega), f10 _ (by omega) (by omega), f9 _ (by omega), f8 _ (by omega), f7 _ (by omega), f6 _ (by omega), f5 _ (by omega), f4 _ (by omega), g3 j hj, f2 _ (by omega), f1 _ (by omega)]
  · rw [f16 _ (by omega), f15 _ (by omega), f14 _ (by omega), f13 _ (by omega) (by omega), f12 _ (by omega) (by omega), f11 _ (by omega) (by omega), f10 _ (by omega) (by omega), f9 _ (by omega), f8 _ (by omega), f7 _ (by omega), f6 _ (by omega), f5 _ (by omega), g4 j hj, f3 _ (by omega), f2 _ (by omega), f1 _ (by omega)]
  · rw [f16 _ (by omega), f15 _ (by omega), f14 _ (by omega), f13 _ (by omega) (by omega), f12 _ (by omega) (by omega), f11 _ (by omega) (by omega), f10 _ (by omega) (by omega), f9 _ (by omega), f8 _ (by omega), f7 _ (by omega), f6 _ (by omega), g5 j hj, f4 _ (by omega), f3 _ (by omega), f2 _ (by omega), f1 _ (by omega)]
  · rw [f16 _ (by omega), f15 _ (by omega), f14 _ (by omega), f13 _ (by omega) (by omega), f12 _ (by omega) (by omega), f11 _ (by omega) (by omega), f10 _ (by omega) (by omega), f9 _ (by omega), f8 _ (by omega), g7 j hj, f6 _ (by omega), f5 _ (by omega), f4 _ (by omega), f3 _ (by omega), f2 _ (by omega), f1 _ (by omega)]
  · rw [f16 _ (by omega), f15 _ (by omega), f14 _ (by omega), f13 _ (by omega) (by omega), f12 _ (by omega) (by omega), f11 _ (by omega) (by omega), f10 _ (by omega) (by omega), f9 _ (by omega), g8 j hj, f7 _ (by omega), f6 _ (by omega), f5 _ (by omega), f4 _ (by omega), f3 _ (by omega), f2 _ (by omega), f1 _ (by omega)]
  · rw [f16 _ (by omega), f15 _ (by omega), f14 _ (by omega), f13 _ (by omega) (by omega), f12 _ (by omega) (by omega), f11 _ (by omega) (by omega), f10 _ (by omega) (by omega), g9 j hj, f8 _ (by omega), f7 _ (by omega), f6 _ (by omega), f5 _ (by omega), f4 _ (by omega), f3 _ (by omega), f2 _ (by omega), f1 _ (by omega)]
  · rw [f16 _ (by omega), f15 _ (by omega), f14 _ (by omega), f13 _ (by omega) (by omega), f12 _ (by omega) (by omega), f11 _ (by omega) (by omega), g10a, f9 _ (by omega), f8 _ (by omega), f7 _ (by omega), f6 _ (by omega), f5 _ (by omega), f4 _ (by omega), f3 _ (by omega), f2 _ (by omega), f1 _ (by omega)]
  · rw [f16 _ (by omega), f15 _ (by omega), f14 _ (by omega), f13 _ (by omega) (by omega), f12 _ (by omega) (by omega), f11 _ (by omega) (by omega), g10b, e10]
  · rw [e10, nI_clamp (by omega)] at hj
    rw [f16 _ (by omega), f15 _ (by omega), f14 _ (by omega), f13 _ (by omega) (by omega), f12 _ (by omega) (by omega), f11 _ (by omega) (by omega), g10c j hj, f9 _ (by omega), f8 _ (by omega), f7 _ (by omega), f6 _ (by omega), f5 _ (by omega), f4 _ (by omega), f3 _ (by omega), f2 _ (by omega), f1 _ (by omega)]
  · rw [f16 _ (by omega), f15 _ (by omega), f14 _ (by omega), f13 _ (by omega) (by omega), f12 _ (by omega) (by omega), g11a, f10 _ (by omega) (by omega), f9 _ (by omega), f8 _ (by omega), f7 _ (by omega), f6 _ (by omega), f5 _ (by omega), f4 _ (by omega), f3 _ (by omega), f2 _ (by omega), f1 _ (by omega)]
  · rw [f16 _ (by omega), f15 _ (by omega), f14 _ (by omega), f13 _ (by omega) (by omega), f12 _ (by omega) (by omega), g11b, e14]
  · rw [e14, nI_clamp (by omega)] at hj
    rw [f16 _ (by omega), f15 _ (by omega), f14 _ (by omega), f13 _ (by omega) (by omega), f12 _ (by omega) (by omega), g11c j hj, f10 _ (by omega) (by omega), f9 _ (by omega), f8 _ (by omega), f7 _ (by omega), f6 _ (by omega), f5 _ (by omega), f4 _ (by omega), f3 _ (by omega), f2 _ (by omega), f1 _ (by omega)]
  · rw [f16 _ (by omega), f15 _ (by omega), f14 _ (by omega), f13 _ (by omega) (by omega), g12a, f11 _ (by omega) (by omega), f10 _ (by omega) (by omega), f9 _ (by omega), f8 _ (by omega), f7 _ (by omega), f6 _ (by omega), f5 _ (by omega), f4 _ (by omega), f3 _ (by omega), f2 _ (by omega), f1 _ (by omega)]
  · rw [f16 _ (by omega), f15 _ (by omega), f14 _ (by omega), f13 _ (by omega) (by omega), g12b, e17]
  · rw [e17, nI_clamp (by omega)] at hj
    rw [f16 _ (by omega), f15 _ (by omega), f14 _ (by omega), f13 _ (by omega) (by omega), g12c j hj, f11 _ (by omega) (by omega), f10 _ (by omega) (by omega), f9 _ (by omega), f8 _ (by omega), f7 _ (by omega), f6 _ (by omega), f5 _ (by omega), f4 _ (by omega), f3 _ (by omega), f2 _ (by omega), f1 _ (by omega)]
  · rw [f16 _ (by omega), f15 _ (by omega), f14 _ (by omega), g13a, f12 _ (by omega) (by omega), f11 _ (by omega) (by omega), f10 _ (by omega) (by omega), f9 _ (by omega), f8 _ (by omega), f7 _ (by omega), f6 _ (by omega), f5 _ (by omega), f4 _ (by omega), f3 _ (by omega), f2 _ (by omega), f1 _ (by omega)]
  · rw [f16 _ (by omega), f15 _ (by omega), f14 _ (by omega), g13b, e19]
  · rw [e19, nI_clamp (by omega)] at hj
    rw [f16 _ (by omega), f15 _ (by omega), f14 _ (by omega), g13c j hj, f12 _ (by omega) (by omega), f11 _ (by omega) (by omega), f10 _ (by omega) (by omega), f9 _ (by omega), f8 _ (by omega), f7 _ (by omega), f6 _ (by omega), f5 _ (by omega), f4 _ (by omega), f3 _ (by omega), f2 _ (by omega), f1 _ (by omega)]
  · rw [f16 _ (by omega), f15 _ (by omega), f14 _ (by omega), f13 _ (by omega) (by omega), f12 _ (by omega) (by omega), f11 _ (by omega) (by omega), f10 _ (by omega) (by omega), f9 _ (by omega), f8 _ (by omega), f7 _ (by omega), f6 _ (by omega), f5 _ (by omega), f4 _ (by omega), f3 _ (by omega), f2 _ (by omega), f1 _ (by omega)]
  · rw [f16 _ (by omega), f15 _ (by omega), f14 _ (by omega), f13 _ (by omega) (by omega), f12 _ (by omega) (by omega), f11 _ (by omega) (by omega), f10 _ (by omega) (by omega), f9 _ (by omega), f8 _ (by omega), f7 _ (by omega), f6 _ (by omega), f5 _ (by omega), f4 _ (by omega), f3 _ (by omega), f2 _ (by omega), f1 _ (by omega)]
