/-! Text: its steps over a pile -/
def jn (s x y : Int32) : Int32 :=
  if s = 37 then (if y = 0 then 0 else x - x / y * y) else if s = 38 then bI (!decide (x = 0) && !decide (y = 0)) else if s = 42 then x * y else if s = 43 then x + y else if s = 45 then x - y else if s = 47 then (if y = 0 then 0 else x / y) else if s = 60 then bI (decide (x < y)) else if s = 61 then bI (decide (x = y)) else if s = 62 then bI (decide (y < x)) else if s = 124 then bI (!decide (x ||| y = 0)) else 0
def vl (s a b c : Int32) : Int32 := if s = -3 then c else if s = -2 then b else if s = -1 then a else s
/-- Text.oneIf -/
theorem sp_oneIf {T : List mm_C} {X : Nat × (Nat → Int32)} {d : Nat} {I : mm_I} {v : Int32} {P : Int32 → mm_I → Prop} (hQ : P (bI (!decide (v = 0))) I) : mm_Ev T X (d) 71 0 (mm_ent 71 [.int v]) [] I (mm_pi P) := by
  show mm_Ev T X (d) 71 0 [.int v] [] I (mm_pi P)
  refine ev_ild0 k71_0 ?_
  refine ev_if_eq k71_1 (fun h1 => ?_) (fun h1 => ?_)
  ·
    refine ev_iconst k71_8 ?_
    refine ev_ri k71_9 rfl ?_
    simpa [bI, *] using hQ
  ·
    refine ev_iconst k71_4 ?_
    refine ev_goto k71_5 ?_
    refine ev_ri k71_9 rfl ?_
    simpa [bI, *] using hQ
/-- Text.valueOf -/
theorem sp_valueOf {T : List mm_C} {X : Nat × (Nat → Int32)} {d : Nat} {I : mm_I} {s a b c : Int32} {P : Int32 → mm_I → Prop} (hQ : P (vl s a b c) I) : mm_Ev T X (d) 69 0 (mm_ent 69 [.int s, .int a, .int b, .int c]) [] I (mm_pi P) := by
  show mm_Ev T X (d) 69 0 [.int s, .int a, .int b, .int c] [] I (mm_pi P)
  refine ev_ild0 k69_0 ?_
  refine ev_tb (l := [(-3, 31), (-2, 29), (-1, 27)]) k69_1 rfl rfl ?_
  refine sw_cons (key := -3) (t := 32) rfl rfl (fun h1 => ?_) (fun h1_0 => ?_)
  ·
    refine ev_ild3 k69_32 ?_
    refine ev_ri k69_33 rfl ?_
    subst h1
    exact hQ
  refine sw_cons (key := -2) (t := 30) rfl rfl (fun h1 => ?_) (fun h1_1 => ?_)
  ·
    refine ev_ild2 k69_30 ?_
    refine ev_ri k69_31 rfl ?_
    subst h1
    exact hQ
  refine sw_cons (key := -1) (t := 28) rfl rfl (fun h1 => ?_) (fun h1_2 => ?_)
  ·
    refine ev_ild1 k69_28 ?_
    refine ev_ri k69_29 rfl ?_
    subst h1
    exact hQ
  refine sw_nil (t := 34) rfl ?_
  refine ev_ild0 k69_34 ?_
  refine ev_ri k69_35 rfl ?_
  simp only [vl, *, if_true, if_false] at hQ
  exact hQ
/-- Text.join -/
theorem sp_join {T : List mm_C} {X : Nat × (Nat → Int32)} {d : Nat} {I : mm_I} {s x y : Int32} {P : Int32 → mm_I → Prop} (hQ : P (jn s x y) I) : mm_Ev T X (d + 1) 70 0 (mm_ent 70 [.int s, .int x, .int y]) [] I (mm_pi P) := by
  show mm_Ev T X (d + 1) 70 0 [.int s, .int x, .int y] [] I (mm_pi P)
  refine ev_ild0 k70_0 ?_
  refine ev_lk (l := [(37, 189), (38, 106), (42, 173), (43, 165), (45, 169), (47, 177), (60, 123), (61, 137), (62, 151), (124, 91)]) k70_1 rfl ?_
  refine sw_cons (key := 37) (t := 190) rfl rfl (fun h1 => ?_) (fun h1_0 => ?_)
  ·
    refine ev_ild2 k70_190 ?_
    refine ev_if_ne k70_191 (fun h191 => ?_) (fun h191 => ?_)
    ·
      refine ev_ild1 k70_198 ?_
      refine ev_ild2 k70_199 ?_
      refine ev_irem k70_200 h191 ?_
      refine ev_ri k70_201 rfl ?_
      first | (subst h1; simpa [jn, bI, *] using hQ) | (simp only [jn, *, if_true, if_false] at hQ; exact hQ)
    ·
      refine ev_iconst k70_194 ?_
      refine ev_goto k70_195 ?_
      refine ev_ri k70_201 rfl ?_
      first | (subst h1; simpa [jn, bI, *] using hQ) | (simp only [jn, *, if_true, if_false] at hQ; exact hQ)
  refine sw_cons (key := 38) (t := 107) rfl rfl (fun h1 => ?_) (fun h1_1 => ?_)
  ·
    refine ev_ild1 k70_107 ?_
    refine ev_if_eq k70_108 (fun h108 => ?_) (fun h108 => ?_)
    ·
      refine ev_iconst k70_119 ?_
      refine ev_cS1i k70_120 cs_156 rfl rfl rfl ?_
      refine sp_oneIf ?_
      refine ev_ri k70_123 rfl ?_
      first | (subst h1; simpa [jn, bI, *] using hQ) | (simp only [jn, *, if_true, if_false] at hQ; exact hQ)
    ·
      refine ev_ild2 k70_111 ?_
      refine ev_if_eq k70_112 (fun h112 => ?_) (fun h112 => ?_)
      ·
        refine ev_iconst k70_119 ?_
        refine ev_cS1i k70_120 cs_156 rfl rfl rfl ?_
        refine sp_oneIf ?_
        refine ev_ri k70_123 rfl ?_
        first | (subst h1; simpa [jn, bI, *] using hQ) | (simp only [jn, *, if_true, if_false] at hQ; exact hQ)
      ·
        refine ev_iconst k70_115 ?_
        refine ev_goto k70_116 ?_
        refine ev_cS1i k70_120 cs_156 rfl rfl rfl ?_
        refine sp_oneIf ?_
        refine ev_ri k70_123 rfl ?_
        first | (subst h1; simpa [jn, bI, *] using hQ) | (simp only [jn, *, if_true, if_false] at hQ; exact hQ)
  refine sw_cons (key := 42) (t := 174) rfl rfl (fun h1 => ?_) (fun h1_2 => ?_)
  ·
    refine ev_ild1 k70_174 ?_
    refine ev_ild2 k70_175 ?_
    refine ev_imul k70_176 ?_
    refine ev_ri k70_177 rfl ?_
    first | (subst h1; simpa [jn, bI, *] using hQ) | (simp only [jn, *, if_true, if_false] at hQ; exact hQ)
  refine sw_cons (key := 43) (t := 166) rfl rfl (fun h1 => ?_) (fun h1_3 => ?_)
  ·
    refine ev_ild1 k70_166 ?_
    refine ev_ild2 k70_167 ?_
    refine ev_iadd k70_168 ?_
    refine ev_ri k70_169 rfl ?_
    first | (subst h1; simpa [jn, bI, *] using hQ) | (simp only [jn, *, if_true, if_false] at hQ; exact hQ)
  refine sw_cons (key := 45) (t := 170) rfl rfl (fun h1 => ?_) (fun h1_4 => ?_)
  ·
    refine ev_ild1 k70_170 ?_
    refine ev_ild2 k70_171 ?_
    refine ev_isub k70_172 ?_
    refine ev_ri k70_173 rfl ?_
    first | (subst h1; simpa [jn, bI, *] using hQ) | (simp only [jn, *, if_true, if_false] at hQ; exact hQ)
  refine sw_cons (key := 47) (t := 178) rfl rfl (fun h1 => ?_) (fun h1_5 => ?_)
  ·
    refine ev_ild2 k70_178 ?_
    refine ev_if_ne k70_179 (fun h179 => ?_) (fun h179 => ?_)
    ·
      refine ev_ild1 k70_186 ?_
      refine ev_ild2 k70_187 ?_
      refine ev_idiv k70_188 h179 ?_
      refine ev_ri k70_189 rfl ?_
      first | (subst h1; simpa [jn, bI, *] using hQ) | (simp only [jn, *, if_true, if_false] at hQ; exact hQ)
    ·
      refine ev_iconst k70_182 ?_
      refine ev_goto k70_183 ?_
      refine ev_ri k70_189 rfl ?_
      first | (subst h1; simpa [jn, bI, *] using hQ) | (simp only [jn, *, if_true, if_false] at hQ; exact hQ)
  refine sw_cons (key := 60) (t := 124) rfl rfl (fun h1 => ?_) (fun h1_6 => ?_)
  ·
    refine ev_ild1 k70_124 ?_
    refine ev_ild2 k70_125 ?_
    refine ev_jcmp_ge k70_126 (fun h126 => ?_) (fun h126 => ?_)
    ·
      refine ev_iconst k70_133 ?_
      refine ev_cS1i k70_134 cs_156 rfl rfl rfl ?_
      refine sp_oneIf ?_
      refine ev_ri k70_137 rfl ?_
      first | (subst h1; simpa [jn, bI, *] using hQ) | (simp only [jn, *, if_true, if_false] at hQ; exact hQ)
    ·
      refine ev_iconst k70_129 ?_
      refine ev_goto k70_130 ?_
      refine ev_cS1i k70_134 cs_156 rfl rfl rfl ?_
      refine sp_oneIf ?_
      refine ev_ri k70_137 rfl ?_
      first | (subst h1; simpa [jn, bI, *] using hQ) | (simp only [jn, *, if_true, if_false] at hQ; exact hQ)
  refine sw_cons (key := 61) (t := 138) rfl rfl (fun h1 => ?_) (fun h1_7 => ?_)
  ·
    refine ev_ild1 k70_138 ?_
    refine ev_ild2 k70_139 ?_
    refine ev_icmp_ne k70_140 (fun h140 => ?_) (fun h140 => ?_)
    ·
      refine ev_iconst k70_147 ?_
      refine ev_cS1i k70_148 cs_156 rfl rfl rfl ?_
      refine sp_oneIf ?_
      refine ev_ri k70_151 rfl ?_
      first | (subst h1; simpa [jn, bI, *] using hQ) | (simp only [jn, *, if_true, if_false] at hQ; exact hQ)
    ·
      refine ev_iconst k70_143 ?_
      refine ev_goto k70_144 ?_
      refine ev_cS1i k70_148 cs_156 rfl rfl rfl ?_
      refine sp_oneIf ?_
      refine ev_ri k70_151 rfl ?_
      first | (subst h1; simpa [jn, bI, *] using hQ) | (simp only [jn, *, if_true, if_false] at hQ; exact hQ)
  refine sw_cons (key := 62) (t := 152) rfl rfl (fun h1 => ?_) (fun h1_8 => ?_)
  ·
    refine ev_ild1 k70_152 ?_
    refine ev_ild2 k70_153 ?_
    refine ev_jcmp_le k70_154 (fun h154 => ?_) (fun h154 => ?_)
    ·
      refine ev_iconst k70_161 ?_
      refine ev_cS1i k70_162 cs_156 rfl rfl rfl ?_
      refine sp_oneIf ?_
      refine ev_ri k70_165 rfl ?_
      first | (subst h1; simpa [jn, bI, *] using hQ) | (simp only [jn, *, if_true, if_false] at hQ; exact hQ)
    ·
      refine ev_iconst k70_157 ?_
      refine ev_goto k70_158 ?_
      refine ev_cS1i k70_162 cs_156 rfl rfl rfl ?_
      refine sp_oneIf ?_
      refine ev_ri k70_165 rfl ?_
      first | (subst h1; simpa [jn, bI, *] using hQ) | (simp only [jn, *, if_true, if_false] at hQ; exact hQ)
  refine sw_cons (key := 124) (t := 92) rfl rfl (fun h1 => ?_) (fun h1_9 => ?_)
  ·
    refine ev_ild1 k70_92 ?_
    refine ev_ild2 k70_93 ?_
    refine ev_ior k70_94 ?_
    refine ev_if_eq k70_95 (fun h95 => ?_) (fun h95 => ?_)
    ·
      refine ev_iconst k70_102 ?_
      refine ev_cS1i k70_103 cs_156 rfl rfl rfl ?_
      refine sp_oneIf ?_
      refine ev_ri k70_106 rfl ?_
      first | (subst h1; simpa [jn, bI, *] using hQ) | (simp only [jn, *, if_true, if_false] at hQ; exact hQ)
    ·
      refine ev_iconst k70_98 ?_
      refine ev_goto k70_99 ?_
      refine ev_cS1i k70_103 cs_156 rfl rfl rfl ?_
      refine sp_oneIf ?_
      refine ev_ri k70_106 rfl ?_
      first | (subst h1; simpa [jn, bI, *] using hQ) | (simp only [jn, *, if_true, if_false] at hQ; exact hQ)
  refine sw_nil (t := 202) rfl ?_
  refine ev_iconst k70_202 ?_
  refine ev_ri k70_203 rfl ?_
  first | (subst h1; simpa [jn, bI, *] using hQ) | (simp only [jn, *, if_true, if_false] at hQ; exact hQ)
