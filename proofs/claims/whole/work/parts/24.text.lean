/-! Text: its steps over a pile -/
def jn (s x y : Int32) : Int32 :=
  if s = 37 then (if y = 0 then 0 else x - x / y * y) else if s = 38 then bI (!decide (x = 0) && !decide (y = 0)) else if s = 42 then x * y else if s = 43 then x + y else if s = 45 then x - y else if s = 47 then (if y = 0 then 0 else x / y) else if s = 60 then bI (decide (x < y)) else if s = 61 then bI (decide (x = y)) else if s = 62 then bI (decide (y < x)) else if s = 124 then bI (!decide (x ||| y = 0)) else 0
def vl (s a b c : Int32) : Int32 := if s = -3 then c else if s = -2 then b else if s = -1 then a else s
/-- Text.oneIf -/
theorem sp_oneIf {T : List mm_C} {X : Nat × (Nat → Int32)} {d : Nat} {I : mm_I} {v : Int32} {P : Int32 → mm_I → Prop} (hQ : P (bI (!decide (v = 0))) I) : mm_Ev T X (d) 71 0 (mm_ent 71 [.int v]) [] I (mm_pi P) := by
  show mm_Ev T X (d) 71 0 [.int v] [] I (mm_pi P)
  refine ev_ild0 k71_0 ?_
  refine ev_if_eq k71_1 (fun h1 => ?_) (fun h1 => ?_)
  ·
    refine ev_iconst k71_8 ?_
    refine ev_ri k71_9 rfl ?_
    simpa [bI, *] using hQ
  ·
    refine ev_iconst k71_4 ?_
    refine ev_goto k71_5 ?_
    refine ev_ri k71_9 rfl ?_
    simpa [bI, *] using hQ
/-- Text.valueOf -/
theorem sp_valueOf {T : List mm_C} {X : Nat × (Nat → Int32)} {d : Nat} {I : mm_I} {s a b c : Int32} {P : Int32 → mm_I → Prop} (hQ : P (vl s a b c) I) : mm_Ev T X (d) 69 0 (mm_ent 69 [.int s, .int a, .int b, .int c]) [] I (mm_pi P) := by
  show mm_Ev T X (d) 69 0 [.int s, .int a, .int b, .int c] [] I (mm_pi P)
  refine ev_ild0 k69_0 ?_
  refine ev_tb (l := [(-3, 31), (-2, 29), (-1, 27)]) k69_1 rfl rfl ?_
  refine sw_cons (key := -3) (t := 32) rfl rfl (fun h1 => ?_) (fun h1_0 => ?_)
  ·
    refine ev_ild3 k69_32 ?_
    refine ev_ri k69_33 rfl ?_
    subst h1
    exact hQ
  refine sw_cons (key := -2) (t := 30) rfl rfl (fun h1 => ?_) (fun h1_1 => ?_)
  ·
    refine ev_ild2 k69_30 ?_
    refine ev_ri k69_31 rfl ?_
    subst h1
    exact hQ
  refine sw_cons (key := -1) (t := 28) rfl rfl (fun h1 => ?_) (fun h1_2 => ?_)
  ·
    refine ev_ild1 k69_28 ?_
    refine ev_ri k69_29 rfl ?_
    subst h1
    exact hQ
  refine sw_nil (t := 34) rfl ?_
  refine ev_ild0 k69_34 ?_
  refine ev_ri k69_35 rfl ?_
  simp only [vl, *, if_true, if_false] at hQ
  exact hQ
/-- Text.join -/
theorem sp_join {T : List mm_C} {X : Nat × (Nat → Int32)} {d : Nat} {I : mm_I} {s x y : Int32} {P : Int32 → mm_I → Prop} (hQ : P (jn s x y) I) : mm_Ev T X (d + 1) 70 0 (mm_ent 70 [.int s, .int x, .int y]) [] I (mm_pi P) := by
  show mm_Ev T X (d + 1) 70 0 [.int s, .int x, .int y] [] I (mm_pi P)
  refine ev_ild0 k70_0 ?_
  refine ev_lk (l := [(37, 189), (38, 106), (42, 173), (43, 165), (45, 169), (47, 177), (60, 123), (61, 137), (62, 151), (124, 91)]) k70_1 rfl ?_
  refine sw_cons (key := 37) (t := 190) rfl rfl (fun h1 => ?_) (fun h1_0 => ?_)
  ·
    refine ev_ild2 k70_190 ?_
    refine ev_if_ne k70_191 (fun h191 => ?_) (fun h191 => ?_)
    ·
      refine ev_ild1 k70_198 ?_
      refine ev_ild2 k70_199 ?_
      refine ev_irem k70_200 h191 ?_
      refine ev_ri k70_201 rfl ?_
      first | (subst h1; simpa [jn, bI, *] using hQ) | (simp only [jn, *, if_true, if_false] at hQ; exact hQ)
    ·
      refine ev_iconst k70_194 ?_
      refine ev_goto k70_195 ?_
      refine ev_ri k70_201 rfl ?_
      first | (subst h1; simpa [jn, bI, *] using hQ) | (simp only [jn, *, if_true, if_false] at hQ; exact hQ)
  refine sw_cons (key := 38) (t := 107) rfl rfl (fun h1 => ?_) (fun h1_1 => ?_)
  ·
    refine ev_ild1 k70_107 ?_
    refine ev_if_eq k70_108 (fun h108 => ?_) (fun h108 => ?_)
    ·
      refine ev_iconst k70_119 ?_
      refine ev_cS1i k70_120 cs_156 rfl rfl rfl ?_
      refine sp_oneIf ?_
      refine ev_ri k70_123 rfl ?_
      first | (subst h1; simpa [jn, bI, *] using hQ) | (simp only [jn, *, if_true, if_false] at hQ; exact hQ)
    ·
      refine ev_ild2 k70_111 ?_
      refine ev_if_eq k70_112 (fun h112 => ?_) (fun h112 => ?_)
      ·
        refine ev_iconst k70_119 ?_
        refine ev_cS1i k70_120 cs_156 rfl rfl rfl ?_
        refine sp_oneIf ?_
        refine ev_ri k70_123 rfl ?_
        first | (subst h1; simpa [jn, bI, *] using hQ) | (simp only [jn, *, if_true, if_false] at hQ; exact hQ)
      ·
        refine ev_iconst k70_115 ?_
        refine ev_goto k70_116 ?_
        refine ev_cS1i k70_120 cs_156 rfl rfl rfl ?_
        refine sp_oneIf ?_
        refine ev_ri k70_123 rfl ?_
        first | (subst h1; simpa [jn, bI, *] using hQ) | (simp only [jn, *, if_true, if_false] at hQ; exact hQ)
  refine sw_cons (key := 42) (t := 174) rfl rfl (fun h1 => ?_) (fun h1_2 => ?_)
  ·
    refine ev_ild1 k70_174 ?_
    refine ev_ild2 k70_175 ?_
    refine ev_imul k70_176 ?_
    refine ev_ri k70_177 rfl ?_
    first | (subst h1; simpa [jn, bI, *] using hQ) | (simp only [jn, *, if_true, if_false] at hQ; exact hQ)
  refine sw_cons (key := 43) (t := 166) rfl rfl (fun h1 => ?_) (fun h1_3 => ?_)
  ·
    refine ev_ild1 k70_166 ?_
    refine ev_ild2 k70_167 ?_
    refine ev_iadd k70_168 ?_
    refine ev_ri k70_169 rfl ?_
    first | (subst h1; simpa [jn, bI, *] using hQ) | (simp only [jn, *, if_true, if_false] at hQ; exact hQ)
  refine sw_cons (key := 45) (t := 170) rfl rfl (fun h1 => ?_) (fun h1_4 => ?_)
  ·
    refine ev_ild1 k70_170 ?_
    refine ev_ild2 k70_171 ?_
    refine ev_isub k70_172 ?_
    refine ev_ri k70_173 rfl ?_
    first | (subst h1; simpa [jn, bI, *] using hQ) | (simp only [jn, *, if_true, if_false] at hQ; exact hQ)
  refine sw_cons (key := 47) (t := 178) rfl rfl (fun h1 => ?_) (fun h1_5 => ?_)
  ·
    refine ev_ild2 k70_178 ?_
    refine ev_if_ne k70_179 (fun h179 => ?_) (fun h179 => ?_)
    ·
      refine ev_ild1 k70_186 ?_
      refine ev_ild2 k70_187 ?_
      refine ev_idiv k70_188 h179 ?_
      refine ev_ri k70_189 rfl ?_
      first | (subst h1; simpa [jn, bI, *] using hQ) | (simp only [jn, *, if_true, if_false] at hQ; exact hQ)
    ·
      refine ev_iconst k70_182 ?_
      refine ev_goto k70_183 ?_
      refine ev_ri k70_189 rfl ?_
      first | (subst h1; simpa [jn, bI, *] using hQ) | (simp only [jn, *, if_true, if_false] at hQ; exact hQ)
  refine sw_cons (key := 60) (t := 124) rfl rfl (fun h1 => ?_) (fun h1_6 => ?_)
  ·
    refine ev_ild1 k70_124 ?_
    refine ev_ild2 k70_125 ?_
    refine ev_jcmp_ge k70_126 (fun h126 => ?_) (fun h126 => ?_)
    ·
      refine ev_iconst k70_133 ?_
      refine ev_cS1i k70_134 cs_156 rfl rfl rfl ?_
      refine sp_oneIf ?_
      refine ev_ri k70_137 rfl ?_
      first | (subst h1; simpa [jn, bI, *] using hQ) | (simp only [jn, *, if_true, if_false] at hQ; exact hQ)
    ·
      refine ev_iconst k70_129 ?_
      refine ev_goto k70_130 ?_
      refine ev_cS1i k70_134 cs_156 rfl rfl rfl ?_
      refine sp_oneIf ?_
      refine ev_ri k70_137 rfl ?_
      first | (subst h1; simpa [jn, bI, *] using hQ) | (simp only [jn, *, if_true, if_false] at hQ; exact hQ)
  refine sw_cons (key := 61) (t := 138) rfl rfl (fun h1 => ?_) (fun h1_7 => ?_)
  ·
    refine ev_ild1 k70_138 ?_
    refine ev_ild2 k70_139 ?_
    refine ev_icmp_ne k70_140 (fun h140 => ?_) (fun h140 => ?_)
    ·
      refine ev_iconst k70_147 ?_
      refine ev_cS1i k70_148 cs_156 rfl rfl rfl ?_
      refine sp_oneIf ?_
      refine ev_ri k70_151 rfl ?_
      first | (subst h1; simpa [jn, bI, *] using hQ) | (simp only [jn, *, if_true, if_false] at hQ; exact hQ)
    ·
      refine ev_iconst k70_143 ?_
      refine ev_goto k70_144 ?_
      refine ev_cS1i k70_148 cs_156 rfl rfl rfl ?_
      refine sp_oneIf ?_
      refine ev_ri k70_151 rfl ?_
      first | (subst h1; simpa [jn, bI, *] using hQ) | (simp only [jn, *, if_true, if_false] at hQ; exact hQ)
  refine sw_cons (key := 62) (t := 152) rfl rfl (fun h1 => ?_) (fun h1_8 => ?_)
  ·
    refine ev_ild1 k70_152 ?_
    refine ev_ild2 k70_153 ?_
    refine ev_jcmp_le k70_154 (fun h154 => ?_) (fun h154 => ?_)
    ·
      refine ev_iconst k70_161 ?_
      refine ev_cS1i k70_162 cs_156 rfl rfl rfl ?_
      refine sp_oneIf ?_
      refine ev_ri k70_165 rfl ?_
      first | (subst h1; simpa [jn, bI, *] using hQ) | (simp only [jn, *, if_true, if_false] at hQ; exact hQ)
    ·
      refine ev_iconst k70_157 ?_
      refine ev_goto k70_158 ?_
      refine ev_cS1i k70_162 cs_156 rfl rfl rfl ?_
      refine sp_oneIf ?_
      refine ev_ri k70_165 rfl ?_
      first | (subst h1; simpa [jn, bI, *] using hQ) | (simp only [jn, *, if_true, if_false] at hQ; exact hQ)
  refine sw_cons (key := 124) (t := 92) rfl rfl (fun h1 => ?_) (fun h1_9 => ?_)
  ·
    refine ev_ild1 k70_92 ?_
    refine ev_ild2 k70_93 ?_
    refine ev_ior k70_94 ?_
    refine ev_if_eq k70_95 (fun h95 => ?_) (fun h95 => ?_)
    ·
      refine ev_iconst k70_102 ?_
      refine ev_cS1i k70_103 cs_156 rfl rfl rfl ?_
      refine sp_oneIf ?_
      refine ev_ri k70_106 rfl ?_
      first | (subst h1; simpa [jn, bI, *] using hQ) | (simp only [jn, *, if_true, if_false] at hQ; exact hQ)
    ·
      refine ev_iconst k70_98 ?_
      refine ev_goto k70_99 ?_
      refine ev_cS1i k70_103 cs_156 rfl rfl rfl ?_
      refine sp_oneIf ?_
      refine ev_ri k70_106 rfl ?_
      first | (subst h1; simpa [jn, bI, *] using hQ) | (simp only [jn, *, if_true, if_false] at hQ; exact hQ)
  refine sw_nil (t := 202) rfl ?_
  refine ev_iconst k70_202 ?_
  refine ev_ri k70_203 rfl ?_
  first | (subst h1; simpa [jn, bI, *] using hQ) | (simp only [jn, *, if_true, if_false] at hQ; exact hQ)
def mm_rp (I : mm_I) (k : Nat) (g : Nat → Int32) : mm_I := fun k' => if k' = k then g else I k'
theorem mm_rp_self (I : mm_I) (k : Nat) : mm_rp I k (I k) = I := by
  funext k'
  by_cases h : k' = k
  · subst h; simp [mm_rp]
  · simp [mm_rp, h]
theorem mm_rp_up (I : mm_I) (k : Nat) (g : Nat → Int32) (j : Nat) (x : Int32) : mm_up (mm_rp I k g) k j x = mm_rp I k (upd g j x) := by
  funext k'
  by_cases h : k' = k
  · subst h; simp [mm_rp, mm_up]
  · simp [mm_rp, mm_up, h]
theorem mm_rp_at (I : mm_I) (k : Nat) (g : Nat → Int32) : mm_rp I k g k = g := by simp [mm_rp]
theorem mm_rp_ne (I : mm_I) (k : Nat) (g : Nat → Int32) {k' : Nat} (h : k' ≠ k) : mm_rp I k g k' = I k' := by simp [mm_rp, h]
/-- a step over the pile: how many lie there, what lies there -/
def ts (a b c s : Int32) (q : Nat × (Nat → Int32)) : Nat × (Nat → Int32) :=
  if s < -3 then
    (if s = -33 then (if 0 < q.1 then (q.1, upd q.2 (q.1 - 1) (bI (decide (q.2 (q.1 - 1) = 0)))) else q)
    else (if 1 < q.1 then (q.1 - 1, upd q.2 (q.1 - 2) (jn (-s) (q.2 (q.1 - 2)) (q.2 (q.1 - 1)))) else q))
  else (if q.1 < 50 then (q.1 + 1, upd q.2 q.1 (vl s a b c)) else q)
def tv (f : Nat → Int32) (a b c : Int32) (n i : Nat) (q : Nat × (Nat → Int32)) : Nat × (Nat → Int32) := fo (fun i q => ts a b c (f i) q) n i q
def clp (lo hi v : Int32) : Int32 := if lo < (if v < hi then v else hi) then (if v < hi then v else hi) else lo
abbrev tC (ta : Nat) : mm_C := (9, 4, [.ref (ta + 1), .ref (ta + 3), .int 0, .int 0])
theorem lp_gives {T : List mm_C} {X : Nat × (Nat → Int32)} {d : Nat} {I : mm_I} {ta l : Nat} {a b c : Int32} {P : Int32 → mm_I → Prop} (h0 : T[ta]? = some (tC ta)) (h1 : T[ta + 1]? = some (rC (ta + 1))) (h2 : T[ta + 2]? = some (aC 50)) (h3 : T[ta + 3]? = some (aC 50)) (ha : ta < 800) (hl : I (ta + 1) 2 = nI l) (hl50 : l ≤ 50) : ∀ (n i m : Nat) (g : Nat → Int32) (v6 : Value), i + n = l → m ≤ 50 → P (clp (I ta 2) (I ta 3) ((tv (I (ta + 2)) a b c n i (m, g)).2 0)) (mm_rp I (ta + 3) (tv (I (ta + 2)) a b c n i (m, g)).2) → mm_Ev T X (d + 2) 68 6 [.ref ta, .int a, .int b, .int c, .int (nI m), .int (nI i), v6] [] (mm_rp I (ta + 3) g) (mm_pi P) := by
  intro n
  induction n with
  | zero =>
    intro i m g v6 hi hm hQ
    have e : i = l := by omega
    subst e
    have el : mm_rp I (ta + 3) g (ta + 1) 2 = nI i := by rw [mm_rp_ne _ _ _ (by omega)]; exact hl
    refine ev_ild5 k68_6 ?_
    refine ev_ald0 k68_8 ?_
    refine ev_getr k68_9 (by first | assumption | rfl) rfl rfl rfl ?_
    refine ev_gf (j := 2) k68_12 (by first | assumption | rfl) rfl rfl rfl rfl ?_
    rw [el]
    refine ev_jcmp_ge k68_15 (fun h15 => ?_) (fun h15 => absurd h15 (nI_nlt (Nat.le_refl _) (by omega)))
    refine ev_ald0 k68_154 ?_
    refine ev_gf (j := 2) k68_155 (by first | assumption | rfl) rfl rfl rfl rfl ?_
    rw [mm_rp_ne _ _ _ (show ta ≠ ta + 3 by omega)]
    refine ev_ald0 k68_158 ?_
    refine ev_gf (j := 3) k68_159 (by first | assumption | rfl) rfl rfl rfl rfl ?_
    rw [mm_rp_ne _ _ _ (show ta ≠ ta + 3 by omega)]
    refine ev_ald0 k68_162 ?_
    refine ev_getr k68_163 (by first | assumption | rfl) rfl rfl rfl ?_
    refine ev_iconst k68_166 ?_
    refine ev_ial (j := 0) k68_167 (by first | assumption | rfl) (by omega) rfl (vp_dec rfl) ?_
    rw [mm_rp_at]
    refine ev_min k68_168 rfl ?_
    refine ev_max k68_171 rfl ?_
    refine ev_ri k68_174 rfl ?_
    exact hQ
  | succ n ih =>
    intro i m g v6 hi hm hQ
    have hlt : i < l := by omega
    have el : mm_rp I (ta + 3) g (ta + 1) 2 = nI l := by rw [mm_rp_ne _ _ _ (by omega)]; exact hl
    replace hQ : P (clp (I ta 2) (I ta 3) ((tv (I (ta + 2)) a b c n (i + 1) (ts a b c (I (ta + 2) i) (m, g))).2 0)) (mm_rp I (ta + 3) (tv (I (ta + 2)) a b c n (i + 1) (ts a b c (I (ta + 2) i) (m, g))).2) := hQ
    refine ev_ild5 k68_6 ?_
    refine ev_ald0 k68_8 ?_
    refine ev_getr k68_9 (by first | assumption | rfl) rfl rfl rfl ?_
    refine ev_gf (j := 2) k68_12 (by first | assumption | rfl) rfl rfl rfl rfl ?_
    rw [el]
    refine ev_jcmp_ge k68_15 (fun h15 => absurd (nI_lt hlt (by omega)) h15) (fun h15 => ?_)
    refine ev_ald0 k68_18 ?_
    refine ev_getr k68_19 (by first | assumption | rfl) rfl rfl rfl ?_
    refine ev_ild5 k68_22 ?_
    refine ev_cV2i k68_24 cs_154 (by first | assumption | rfl) (by omega) (Nat.le_of_ble_eq_true rfl) rfl rfl rfl ?_
    refine sp_get h1 h2 (by omega) el hl50 (by omega) ?_
    rw [if_pos (inB_of hlt (by omega)), nI_clamp (by omega), mm_rp_ne _ _ _ (show ta + 1 + 1 ≠ ta + 3 by omega)]
    try rw [show ta + 1 + 1 = ta + 2 from rfl]
    refine ev_ist6 k68_27 rfl ?_
    refine ev_ild6 k68_29 ?_
    refine ev_bipush k68_31 ?_
    refine ev_icmp_lt k68_33 (fun h33 => ?_) (fun h33 => ?_)
    ·
      refine ev_ild6 k68_64 ?_
      refine ev_bipush k68_66 ?_
      refine ev_icmp_ne k68_68 (fun h68 => ?_) (fun h68 => ?_)
      ·
        refine ev_ild4 k68_108 ?_
        refine ev_iconst k68_110 ?_
        refine ev_jcmp_le k68_111 (fun h111 => ?_) (fun h111 => ?_)
        ·
          refine ev_inc5 k68_148 rfl ?_
          refine ev_goto k68_151 ?_
          rw [nI_1]
          have hnm : ¬ 1 < m := fun z => h111 (nI_lt (a := 1) z (by omega))
          refine ih (i + 1) m g _ (by omega) hm ?_
          have et : ts a b c (I (ta + 2) i) (m, g) = (m, g) := by simp only [ts, if_pos h33, if_neg h68, if_neg hnm]
          rw [et] at hQ
          exact hQ
        ·
          obtain ⟨m, rfl⟩ : ∃ m2, m = m2 + 2 := ⟨m - 2, by have := (nI_ltI (a := 1) (by omega) (by omega)).mp (show nI 1 < nI m from h111); omega⟩
          refine ev_inc4 k68_114 rfl ?_
          rw [show nI (m + 2) + (-1) = nI (m + 1) from pk_m1 (m + 1)]
          refine ev_ald0 k68_117 ?_
          refine ev_getr k68_118 (by first | assumption | rfl) rfl rfl rfl ?_
          refine ev_ild4 k68_121 ?_
          refine ev_iconst k68_123 ?_
          refine ev_isub k68_124 ?_
          rw [nI_pred]
          refine ev_ild6 k68_125 ?_
          refine ev_ineg k68_127 ?_
          refine ev_ald0 k68_128 ?_
          refine ev_getr k68_129 (by first | assumption | rfl) rfl rfl rfl ?_
          refine ev_ild4 k68_132 ?_
          refine ev_iconst k68_134 ?_
          refine ev_isub k68_135 ?_
          rw [nI_pred]
          refine ev_ial (j := m) k68_136 (by first | assumption | rfl) (by omega) (nI_clamp (by omega)) (vp_in_nI (show m < 50 by omega) (by omega)) ?_
          rw [mm_rp_at]
          refine ev_ald0 k68_137 ?_
          refine ev_getr k68_138 (by first | assumption | rfl) rfl rfl rfl ?_
          refine ev_ild4 k68_141 ?_
          refine ev_ial (j := m + 1) k68_143 (by first | assumption | rfl) (by omega) (nI_clamp (by omega)) (vp_in_nI (show m + 1 < 50 by omega) (by omega)) ?_
          rw [mm_rp_at]
          refine ev_cS3i k68_144 cs_157 rfl rfl rfl ?_
          refine sp_join ?_
          refine ev_ias (j := m) k68_147 (by first | assumption | rfl) (nI_clamp (by omega)) (vp_in_nI (show m < 50 by omega) (by omega)) ?_
          refine ev_inc5 k68_148 rfl ?_
          refine ev_goto k68_151 ?_
          rw [nI_1, mm_rp_up]
          refine ih (i + 1) (m + 1) _ _ (by omega) (by omega) ?_
          have et : ts a b c (I (ta + 2) i) (m + 2, g) = (m + 1, upd g m (jn (-(I (ta + 2) i)) (g m) (g (m + 1)))) := by simp only [ts, if_pos h33, if_neg h68, if_pos (show 1 < m + 2 by omega)]; rfl
          rw [et] at hQ
          exact hQ
      ·
        refine ev_ild4 k68_71 ?_
        refine ev_jf_le k68_73 (fun h73 => ?_) (fun h73 => ?_)
        ·
          refine ev_inc5 k68_148 rfl ?_
          refine ev_goto k68_151 ?_
          rw [nI_1]
          have hnm : ¬ 0 < m := fun z => h73 (nI_lt (a := 0) z (by omega))
          refine ih (i + 1) m g _ (by omega) hm ?_
          have et : ts a b c (I (ta + 2) i) (m, g) = (m, g) := by simp only [ts, if_pos h33, if_pos h68, if_neg hnm]
          rw [et] at hQ
          exact hQ
        ·
          obtain ⟨m, rfl⟩ : ∃ m2, m = m2 + 1 := ⟨m - 1, by have := (nI_ltI (a := 0) (by omega) (by omega)).mp (show nI 0 < nI m from h73); omega⟩
          refine ev_ald0 k68_76 ?_
          refine ev_getr k68_77 (by first | assumption | rfl) rfl rfl rfl ?_
          refine ev_ild4 k68_80 ?_
          refine ev_iconst k68_82 ?_
          refine ev_isub k68_83 ?_
          rw [nI_pred]
          refine ev_ald0 k68_84 ?_
          refine ev_getr k68_85 (by first | assumption | rfl) rfl rfl rfl ?_
          refine ev_ild4 k68_88 ?_
          refine ev_iconst k68_90 ?_
          refine ev_isub k68_91 ?_
          rw [nI_pred]
          refine ev_ial (j := m) k68_92 (by first | assumption | rfl) (by omega) (nI_clamp (by omega)) (vp_in_nI (show m < 50 by omega) (by omega)) ?_
          rw [mm_rp_at]
          refine ev_if_ne k68_93 (fun h93 => ?_) (fun h93 => ?_)
          ·
            refine ev_iconst k68_100 ?_
            refine ev_cS1i k68_101 cs_156 rfl rfl rfl ?_
            refine sp_oneIf ?_
            refine ev_ias (j := m) k68_104 (by first | assumption | rfl) (nI_clamp (by omega)) (vp_in_nI (show m < 50 by omega) (by omega)) ?_
            rw [mm_rp_up]
            refine ev_goto k68_105 ?_
            refine ev_inc5 k68_148 rfl ?_
            refine ev_goto k68_151 ?_
            rw [nI_1]
            refine ih (i + 1) (m + 1) _ _ (by omega) (by omega) ?_
            have et : ts a b c (I (ta + 2) i) (m + 1, g) = (m + 1, upd g m 0) := by simp only [ts, if_pos h33, if_pos h68, if_pos (show 0 < m + 1 by omega), Nat.add_sub_cancel, decide_eq_false h93, bI_f]
            rw [et] at hQ
            exact hQ
          ·
            refine ev_iconst k68_96 ?_
            refine ev_goto k68_97 ?_
            refine ev_cS1i k68_101 cs_156 rfl rfl rfl ?_
            refine sp_oneIf ?_
            refine ev_ias (j := m) k68_104 (by first | assumption | rfl) (nI_clamp (by omega)) (vp_in_nI (show m < 50 by omega) (by omega)) ?_
            rw [mm_rp_up]
            refine ev_goto k68_105 ?_
            refine ev_inc5 k68_148 rfl ?_
            refine ev_goto k68_151 ?_
            rw [nI_1]
            refine ih (i + 1) (m + 1) _ _ (by omega) (by omega) ?_
            have et : ts a b c (I (ta + 2) i) (m + 1, g) = (m + 1, upd g m 1) := by simp only [ts, if_pos h33, if_pos h68, if_pos (show 0 < m + 1 by omega), Nat.add_sub_cancel, decide_eq_true h93, bI_t]
            rw [et] at hQ
            exact hQ
    ·
      refine ev_ild4 k68_36 ?_
      refine ev_bipush k68_38 ?_
      refine ev_jcmp_ge k68_40 (fun h40 => ?_) (fun h40 => ?_)
      ·
        refine ev_inc5 k68_148 rfl ?_
        refine ev_goto k68_151 ?_
        rw [nI_1]
        have hnm : ¬ m < 50 := fun z => h40 (nI_lt (b := 50) z (by omega))
        refine ih (i + 1) m g _ (by omega) hm ?_
        have et : ts a b c (I (ta + 2) i) (m, g) = (m, g) := by simp only [ts, if_neg h33, if_neg hnm]
        rw [et] at hQ
        exact hQ
      ·
        have hm50 : m < 50 := (nI_ltI (by omega) (by omega)).mp h40
        refine ev_ald0 k68_43 ?_
        refine ev_getr k68_44 (by first | assumption | rfl) rfl rfl rfl ?_
        refine ev_ild4 k68_47 ?_
        refine ev_ild6 k68_49 ?_
        refine ev_ild1 k68_51 ?_
        refine ev_ild2 k68_52 ?_
        refine ev_ild3 k68_53 ?_
        refine ev_cS4i k68_54 cs_155 rfl rfl rfl ?_
        refine sp_valueOf ?_
        refine ev_ias (j := m) k68_57 (by first | assumption | rfl) (nI_clamp (by omega)) (vp_in_nI hm50 (by omega)) ?_
        rw [mm_rp_up]
        refine ev_inc4 k68_58 rfl ?_
        rw [nI_1]
        refine ev_goto k68_61 ?_
        refine ev_inc5 k68_148 rfl ?_
        refine ev_goto k68_151 ?_
        rw [nI_1]
        refine ih (i + 1) (m + 1) _ _ (by omega) (by omega) ?_
        have et : ts a b c (I (ta + 2) i) (m, g) = (m + 1, upd g m (vl (I (ta + 2) i) a b c)) := by simp only [ts, if_neg h33, if_pos hm50]
        rw [et] at hQ
        exact hQ
/-- Text.gives -/
theorem sp_gives {T : List mm_C} {X : Nat × (Nat → Int32)} {d : Nat} {I : mm_I} {ta l : Nat} {a b c : Int32} {P : Int32 → mm_I → Prop} (h0 : T[ta]? = some (tC ta)) (h1 : T[ta + 1]? = some (rC (ta + 1))) (h2 : T[ta + 2]? = some (aC 50)) (h3 : T[ta + 3]? = some (aC 50)) (ha : ta < 800) (hl : I (ta + 1) 2 = nI l) (hl50 : l ≤ 50) (hQ : P (clp (I ta 2) (I ta 3) ((tv (I (ta + 2)) a b c l 0 (0, I (ta + 3))).2 0)) (mm_rp I (ta + 3) (tv (I (ta + 2)) a b c l 0 (0, I (ta + 3))).2)) : mm_Ev T X (d + 2) 68 0 (mm_ent 68 [.ref ta, .int a, .int b, .int c]) [] I (mm_pi P) := by
  show mm_Ev T X (d + 2) 68 0 [.ref ta, .int a, .int b, .int c, .retAddr 0, .retAddr 0, .retAddr 0] [] I (mm_pi P)
  refine ev_iconst k68_0 ?_
  refine ev_ist4 k68_1 rfl ?_
  refine ev_iconst k68_3 ?_
  refine ev_ist5 k68_4 rfl ?_
  have h := lp_gives (X := X) (d := d) (a := a) (b := b) (c := c) (P := P) h0 h1 h2 h3 ha hl hl50 l 0 0 (I (ta + 3)) (.retAddr 0) (by omega) (by omega) hQ
  rw [mm_rp_self] at h
  exact h
