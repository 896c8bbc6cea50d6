/-! The reference's texts -/
theorem or_eq0 (x y : Int32) : x ||| y = 0 ↔ x = 0 ∧ y = 0 := by
  constructor
  · intro h
    have h1 : x.toBitVec ||| y.toBitVec = 0#32 := by
      have := congrArg Int32.toBitVec h
      simpa using this
    have h2 := BitVec.or_eq_zero_iff.mp h1
    exact ⟨Int32.toBitVec_inj.mp (by simpa using h2.1), Int32.toBitVec_inj.mp (by simpa using h2.2)⟩
  · rintro ⟨rfl, rfl⟩
    rfl
theorem sg_neg : ∀ s : Int32, s ∈ ([37, 38, 42, 43, 45, 47, 60, 61, 62, 124] : List Int32) → (-s < -3 ∧ ¬ -s = -33) ∧ - -s = s := by decide
/-- Model.twoOf -/
theorem sm_twoOf {X : Nat × (Nat → Int32)} {d : Nat} {I : mm_I} {s x y : Int32} {P : Int32 → mm_I → Prop} (hs : s ∈ ([37, 38, 42, 43, 45, 47, 60, 61, 62, 124] : List Int32)) (hQ : P (jn s x y) I) : mm_Ev mm_T0 X (d) 183 0 (mm_ent 183 [.int s, .int x, .int y]) [] I (mm_pi P) := by
  show mm_Ev mm_T0 X (d) 183 0 [.int s, .int x, .int y] [] I (mm_pi P)
  refine ev_ild0 k183_0 ?_
  refine ev_tb (l := [(37, 143), (38, 188), (39, 202), (40, 202), (41, 202), (42, 127), (43, 119), (44, 202), (45, 123), (46, 202), (47, 131), (48, 202), (49, 202), (50, 202), (51, 202), (52, 202), (53, 202), (54, 202), (55, 202), (56, 202), (57, 202), (58, 202), (59, 202), (60, 155), (61, 166), (62, 177)]) k183_1 rfl rfl ?_
  refine sw_cons (key := 37) (t := 144) rfl rfl (fun h1 => ?_) (fun h1_0 => ?_)
  ·
    refine ev_ild2 k183_144 ?_
    refine ev_if_ne k183_145 (fun h145 => ?_) (fun h145 => ?_)
    ·
      refine ev_ild1 k183_152 ?_
      refine ev_ild2 k183_153 ?_
      refine ev_irem k183_154 h145 ?_
      refine ev_ri k183_155 rfl ?_
      subst h1
      simpa [jn, bI, *] using hQ
    ·
      refine ev_iconst k183_148 ?_
      refine ev_goto k183_149 ?_
      refine ev_ri k183_155 rfl ?_
      subst h1
      simpa [jn, bI, *] using hQ
  refine sw_cons (key := 38) (t := 189) rfl rfl (fun h1 => ?_) (fun h1_1 => ?_)
  ·
    refine ev_ild1 k183_189 ?_
    refine ev_if_eq k183_190 (fun h190 => ?_) (fun h190 => ?_)
    ·
      refine ev_iconst k183_201 ?_
      refine ev_ri k183_202 rfl ?_
      subst h1
      simpa [jn, bI, *] using hQ
    ·
      refine ev_ild2 k183_193 ?_
      refine ev_if_eq k183_194 (fun h194 => ?_) (fun h194 => ?_)
      ·
        refine ev_iconst k183_201 ?_
        refine ev_ri k183_202 rfl ?_
        subst h1
        simpa [jn, bI, *] using hQ
      ·
        refine ev_iconst k183_197 ?_
        refine ev_goto k183_198 ?_
        refine ev_ri k183_202 rfl ?_
        subst h1
        simpa [jn, bI, *] using hQ
  refine sw_cons (key := 39) (t := 203) rfl rfl (fun h1 => absurd hs (by rw [h1]; decide)) (fun h1_2 => ?_)
  refine sw_cons (key := 40) (t := 203) rfl rfl (fun h1 => absurd hs (by rw [h1]; decide)) (fun h1_3 => ?_)
  refine sw_cons (key := 41) (t := 203) rfl rfl (fun h1 => absurd hs (by rw [h1]; decide)) (fun h1_4 => ?_)
  refine sw_cons (key := 42) (t := 128) rfl rfl (fun h1 => ?_) (fun h1_5 => ?_)
  ·
    refine ev_ild1 k183_128 ?_
    refine ev_ild2 k183_129 ?_
    refine ev_imul k183_130 ?_
    refine ev_ri k183_131 rfl ?_
    subst h1
    simpa [jn, bI, *] using hQ
  refine sw_cons (key := 43) (t := 120) rfl rfl (fun h1 => ?_) (fun h1_6 => ?_)
  ·
    refine ev_ild1 k183_120 ?_
    refine ev_ild2 k183_121 ?_
    refine ev_iadd k183_122 ?_
    refine ev_ri k183_123 rfl ?_
    subst h1
    simpa [jn, bI, *] using hQ
  refine sw_cons (key := 44) (t := 203) rfl rfl (fun h1 => absurd hs (by rw [h1]; decide)) (fun h1_7 => ?_)
  refine sw_cons (key := 45) (t := 124) rfl rfl (fun h1 => ?_) (fun h1_8 => ?_)
  ·
    refine ev_ild1 k183_124 ?_
    refine ev_ild2 k183_125 ?_
    refine ev_isub k183_126 ?_
    refine ev_ri k183_127 rfl ?_
    subst h1
    simpa [jn, bI, *] using hQ
  refine sw_cons (key := 46) (t := 203) rfl rfl (fun h1 => absurd hs (by rw [h1]; decide)) (fun h1_9 => ?_)
  refine sw_cons (key := 47) (t := 132) rfl rfl (fun h1 => ?_) (fun h1_10 => ?_)
  ·
    refine ev_ild2 k183_132 ?_
    refine ev_if_ne k183_133 (fun h133 => ?_) (fun h133 => ?_)
    ·
      refine ev_ild1 k183_140 ?_
      refine ev_ild2 k183_141 ?_
      refine ev_idiv k183_142 h133 ?_
      refine ev_ri k183_143 rfl ?_
      subst h1
      simpa [jn, bI, *] using hQ
    ·
      refine ev_iconst k183_136 ?_
      refine ev_goto k183_137 ?_
      refine ev_ri k183_143 rfl ?_
      subst h1
      simpa [jn, bI, *] using hQ
  refine sw_cons (key := 48) (t := 203) rfl rfl (fun h1 => absurd hs (by rw [h1]; decide)) (fun h1_11 => ?_)
  refine sw_cons (key := 49) (t := 203) rfl rfl (fun h1 => absurd hs (by rw [h1]; decide)) (fun h1_12 => ?_)
  refine sw_cons (key := 50) (t := 203) rfl rfl (fun h1 => absurd hs (by rw [h1]; decide)) (fun h1_13 => ?_)
  refine sw_cons (key := 51) (t := 203) rfl rfl (fun h1 => absurd hs (by rw [h1]; decide)) (fun h1_14 => ?_)
  refine sw_cons (key := 52) (t := 203) rfl rfl (fun h1 => absurd hs (by rw [h1]; decide)) (fun h1_15 => ?_)
  refine sw_cons (key := 53) (t := 203) rfl rfl (fun h1 => absurd hs (by rw [h1]; decide)) (fun h1_16 => ?_)
  refine sw_cons (key := 54) (t := 203) rfl rfl (fun h1 => absurd hs (by rw [h1]; decide)) (fun h1_17 => ?_)
  refine sw_cons (key := 55) (t := 203) rfl rfl (fun h1 => absurd hs (by rw [h1]; decide)) (fun h1_18 => ?_)
  refine sw_cons (key := 56) (t := 203) rfl rfl (fun h1 => absurd hs (by rw [h1]; decide)) (fun h1_19 => ?_)
  refine sw_cons (key := 57) (t := 203) rfl rfl (fun h1 => absurd hs (by rw [h1]; decide)) (fun h1_20 => ?_)
  refine sw_cons (key := 58) (t := 203) rfl rfl (fun h1 => absurd hs (by rw [h1]; decide)) (fun h1_21 => ?_)
  refine sw_cons (key := 59) (t := 203) rfl rfl (fun h1 => absurd hs (by rw [h1]; decide)) (fun h1_22 => ?_)
  refine sw_cons (key := 60) (t := 156) rfl rfl (fun h1 => ?_) (fun h1_23 => ?_)
  ·
    refine ev_ild1 k183_156 ?_
    refine ev_ild2 k183_157 ?_
    refine ev_jcmp_ge k183_158 (fun h158 => ?_) (fun h158 => ?_)
    ·
      refine ev_iconst k183_165 ?_
      refine ev_ri k183_166 rfl ?_
      subst h1
      simpa [jn, bI, *] using hQ
    ·
      refine ev_iconst k183_161 ?_
      refine ev_goto k183_162 ?_
      refine ev_ri k183_166 rfl ?_
      subst h1
      simpa [jn, bI, *] using hQ
  refine sw_cons (key := 61) (t := 167) rfl rfl (fun h1 => ?_) (fun h1_24 => ?_)
  ·
    refine ev_ild1 k183_167 ?_
    refine ev_ild2 k183_168 ?_
    refine ev_icmp_ne k183_169 (fun h169 => ?_) (fun h169 => ?_)
    ·
      refine ev_iconst k183_176 ?_
      refine ev_ri k183_177 rfl ?_
      subst h1
      simpa [jn, bI, *] using hQ
    ·
      refine ev_iconst k183_172 ?_
      refine ev_goto k183_173 ?_
      refine ev_ri k183_177 rfl ?_
      subst h1
      simpa [jn, bI, *] using hQ
  refine sw_cons (key := 62) (t := 178) rfl rfl (fun h1 => ?_) (fun h1_25 => ?_)
  ·
    refine ev_ild1 k183_178 ?_
    refine ev_ild2 k183_179 ?_
    refine ev_jcmp_le k183_180 (fun h180 => ?_) (fun h180 => ?_)
    ·
      refine ev_iconst k183_187 ?_
      refine ev_ri k183_188 rfl ?_
      subst h1
      simpa [jn, bI, *] using hQ
    ·
      refine ev_iconst k183_183 ?_
      refine ev_goto k183_184 ?_
      refine ev_ri k183_188 rfl ?_
      subst h1
      simpa [jn, bI, *] using hQ
  refine sw_nil (t := 203) rfl ?_
  refine ev_ild1 k183_203 ?_
  refine ev_if_ne k183_204 (fun h204 => ?_) (fun h204 => ?_)
  ·
    refine ev_iconst k183_211 ?_
    refine ev_goto k183_212 ?_
    refine ev_ri k183_216 rfl ?_
    have h124 : s = 124 := by
      simp only [List.mem_cons, List.not_mem_nil, or_false] at hs
      rcases hs with h | h | h | h | h | h | h | h | h | h <;> first | exact h | exact absurd h (by assumption)
    subst h124
    simpa [jn, bI, or_eq0, *] using hQ
  ·
    refine ev_ild2 k183_207 ?_
    refine ev_if_eq k183_208 (fun h208 => ?_) (fun h208 => ?_)
    ·
      refine ev_iconst k183_215 ?_
      refine ev_ri k183_216 rfl ?_
      have h124 : s = 124 := by
        simp only [List.mem_cons, List.not_mem_nil, or_false] at hs
        rcases hs with h | h | h | h | h | h | h | h | h | h <;> first | exact h | exact absurd h (by assumption)
      subst h124
      simpa [jn, bI, or_eq0, *] using hQ
    ·
      refine ev_iconst k183_211 ?_
      refine ev_goto k183_212 ?_
      refine ev_ri k183_216 rfl ?_
      have h124 : s = 124 := by
        simp only [List.mem_cons, List.not_mem_nil, or_false] at hs
        rcases hs with h | h | h | h | h | h | h | h | h | h <;> first | exact h | exact absurd h (by assumption)
      subst h124
      simpa [jn, bI, or_eq0, *] using hQ
/-- a step of the class's, a step of the reference's -/
def stR (s a w : Int32) : Prop := (∃ v : Nat, v < 10000 ∧ s = nI v ∧ a = 1 ∧ w = nI v) ∨ (∃ k : Nat, k < 3 ∧ s = -1 - nI k ∧ a = 2 ∧ w = nI k) ∨ (s = -33 ∧ a = 3) ∨ (∃ c : Int32, c ∈ ([37, 38, 42, 43, 45, 47, 60, 61, 62, 124] : List Int32) ∧ s = -c ∧ a = c)
def cst (s : Int32) (m : Nat) : Nat := if s < -3 then (if s = -33 then m else m - 1) else m + 1
/-- there is always enough on the pile -/
def okS (f : Nat → Int32) : Nat → Nat → Nat → Prop
  | 0, _, _ => True
  | n + 1, i, m => ((¬ f i < -3 → m < 50) ∧ (f i < -3 → f i = -33 → 0 < m) ∧ (f i < -3 → ¬ f i = -33 → 1 < m)) ∧ okS f n (i + 1) (cst (f i) m)
def tMi (I : mm_I) (g : Nat → Int32) : mm_I := mm_rp I 99 g
theorem lm_works {X : Nat × (Nat → Int32)} {d : Nat} {I : mm_I} {f : Nat → Int32} {l at0 : Nat} {P : Int32 → mm_I → Prop} (hat : at0 ≤ 220) (hl : I 92 at0 = nI l) (hl50 : l ≤ 50) (hst : ∀ i, i < l → stR (f i) (I 92 (at0 + 1 + i)) (I 92 (at0 + 51 + i))) : ∀ (n i m : Nat) (g : Nat → Int32) (v4 : Value), i + n = l → m ≤ 50 → okS f n i m → P ((tv f (I 98 0) (I 98 1) (I 98 2) n i (m, g)).2 0) (mm_rp I 99 (tv f (I 98 0) (I 98 1) (I 98 2) n i (m, g)).2) → mm_Ev mm_T0 X (d + 1) 184 4 [.ref 91, .int (nI at0), .int (nI m), .int (nI i), v4] [] (mm_rp I 99 g) (mm_pi P) := by
  have tm := tM
  have tr := tR
  have tf := tMf
  have tp := tMp
  intro n
  induction n with
  | zero =>
    intro i m g v4 hi hm hok hQ
    have e : i = l := by omega
    subst e
    refine ev_ild3 k184_4 ?_
    refine ev_ald0 k184_5 ?_
    refine ev_getr k184_6 (by first | assumption | rfl) rfl rfl rfl ?_
    refine ev_ild1 k184_9 ?_
    refine ev_ial (j := at0) k184_10 (by first | assumption | rfl) (by omega) (nI_clamp (by omega)) (vp_in_nI (show at0 < 321 by omega) (by omega)) ?_
    rw [mm_rp_ne I 99 g (show 92 ≠ 99 by decide), hl]
    refine ev_jcmp_ge k184_11 (fun h11 => ?_) (fun h11 => absurd h11 (nI_nlt (Nat.le_refl _) (by omega)))
    refine ev_ald0 k184_155 ?_
    refine ev_getr k184_156 (by first | assumption | rfl) rfl rfl rfl ?_
    refine ev_iconst k184_159 ?_
    refine ev_ial (j := 0) k184_160 (by first | assumption | rfl) (by omega) rfl (vp_dec rfl) ?_
    rw [mm_rp_at]
    refine ev_ri k184_161 rfl ?_
    exact hQ
  | succ n ih =>
    intro i m g v4 hi hm hok hQ
    have hlt : i < l := by omega
    replace hQ : P ((tv f (I 98 0) (I 98 1) (I 98 2) n (i + 1) (ts (I 98 0) (I 98 1) (I 98 2) (f i) (m, g))).2 0) (mm_rp I 99 (tv f (I 98 0) (I 98 1) (I 98 2) n (i + 1) (ts (I 98 0) (I 98 1) (I 98 2) (f i) (m, g))).2) := hQ
    rcases hst i hlt with ⟨v, hv, es, ea, ew⟩ | ⟨k, hk3, es, ea, ew⟩ | ⟨es, ea⟩ | ⟨sg, hsg, es, ea⟩
    · have hn3 : ¬ f i < -3 := by
        rw [es]
        intro z
        have h1 := Int32.lt_iff_toInt_lt.mp z
        rw [nI_toInt (by omega), show (-3 : Int32).toInt = -3 from rfl] at h1
        omega
      have hm50 : m < 50 := hok.1.1 hn3
      have ec : cst (f i) m = m + 1 := by simp only [cst, if_neg hn3]
      have evl : vl (f i) (I 98 0) (I 98 1) (I 98 2) = nI v := by
        have hne : ∀ q : Int32, q < 0 → ¬ nI v = q := fun q hq z => nI_pos (show v < 2 ^ 31 by omega) (by rw [z]; exact hq)
        rw [es]
        simp only [vl, if_neg (hne (-3) (by decide)), if_neg (hne (-2) (by decide)), if_neg (hne (-1) (by decide))]
      refine ev_ild3 k184_4 ?_
      refine ev_ald0 k184_5 ?_
      refine ev_getr k184_6 (by first | assumption | rfl) rfl rfl rfl ?_
      refine ev_ild1 k184_9 ?_
      refine ev_ial (j := at0) k184_10 (by first | assumption | rfl) (by omega) (nI_clamp (by omega)) (vp_in_nI (show at0 < 321 by omega) (by omega)) ?_
      rw [mm_rp_ne I 99 g (show 92 ≠ 99 by decide), hl]
      refine ev_jcmp_ge k184_11 (fun h11 => absurd (nI_lt hlt (by omega)) h11) (fun h11 => ?_)
      refine ev_ald0 k184_14 ?_
      refine ev_getr k184_15 (by first | assumption | rfl) rfl rfl rfl ?_
      refine ev_ild1 k184_18 ?_
      refine ev_iconst k184_19 ?_
      refine ev_iadd k184_20 ?_
      refine ev_ild3 k184_21 ?_
      refine ev_iadd k184_22 ?_
      rw [show (1 : Int32) = nI 1 from rfl, nI_add, nI_add]
      refine ev_ial (j := at0 + 1 + i) k184_23 (by first | assumption | rfl) (by omega) (nI_clamp (by omega)) (vp_in_nI (show at0 + 1 + i < 321 by omega) (by omega)) ?_
      rw [mm_rp_ne I 99 g (show 92 ≠ 99 by decide), ea]
      refine ev_ist4 k184_24 rfl ?_
      refine ev_ild4 k184_26 ?_
      refine ev_iconst k184_28 ?_
      refine ev_icmp_eq k184_29 (fun h29 => ?_) (fun h29 => absurd rfl h29)
      refine ev_ald0 k184_38 ?_
      refine ev_getr k184_39 (by first | assumption | rfl) rfl rfl rfl ?_
      refine ev_ild2 k184_42 ?_
      refine ev_ild4 k184_43 ?_
      refine ev_iconst k184_45 ?_
      refine ev_icmp_ne k184_46 (fun h46 => absurd rfl h46) (fun h46 => ?_)
      refine ev_ald0 k184_49 ?_
      refine ev_getr k184_50 (by first | assumption | rfl) rfl rfl rfl ?_
      refine ev_ild1 k184_53 ?_
      refine ev_bipush k184_54 ?_
      refine ev_iadd k184_56 ?_
      refine ev_ild3 k184_57 ?_
      refine ev_iadd k184_58 ?_
      rw [show (51 : Int32) = nI 51 from rfl, nI_add, nI_add]
      refine ev_ial (j := at0 + 51 + i) k184_59 (by first | assumption | rfl) (by omega) (nI_clamp (by omega)) (vp_in_nI (show at0 + 51 + i < 321 by omega) (by omega)) ?_
      rw [mm_rp_ne I 99 g (show 92 ≠ 99 by decide), ew]
      refine ev_goto k184_60 ?_
      refine ev_ias (j := m) k184_79 (by first | assumption | rfl) (nI_clamp (by omega)) (vp_in_nI (show m < 50 by omega) (by omega)) ?_
      rw [mm_rp_up]
      refine ev_inc2 k184_80 rfl ?_
      rw [nI_1]
      refine ev_goto k184_83 ?_
      refine ev_inc3 k184_149 rfl ?_
      refine ev_goto k184_152 ?_
      rw [nI_1]
      refine ih (i + 1) (m + 1) _ _ (by omega) (by omega) (by have z := hok.2; rw [ec] at z; exact z) ?_
      have et : ts (I 98 0) (I 98 1) (I 98 2) (f i) (m, g) = (m + 1, upd g m (nI v)) := by simp only [ts, if_neg hn3, if_pos hm50, evl]
      rw [et] at hQ
      exact hQ
    · have hk : k = 0 ∨ k = 1 ∨ k = 2 := by omega
      have hn3 : ¬ f i < -3 := by
        rw [es]
        rcases hk with rfl | rfl | rfl <;> decide
      have hm50 : m < 50 := hok.1.1 hn3
      have ec : cst (f i) m = m + 1 := by simp only [cst, if_neg hn3]
      have evl : vl (f i) (I 98 0) (I 98 1) (I 98 2) = I 98 k := by
        rw [es]
        rcases hk with rfl | rfl | rfl <;> rfl
      refine ev_ild3 k184_4 ?_
      refine ev_ald0 k184_5 ?_
      refine ev_getr k184_6 (by first | assumption | rfl) rfl rfl rfl ?_
      refine ev_ild1 k184_9 ?_
      refine ev_ial (j := at0) k184_10 (by first | assumption | rfl) (by omega) (nI_clamp (by omega)) (vp_in_nI (show at0 < 321 by omega) (by omega)) ?_
      rw [mm_rp_ne I 99 g (show 92 ≠ 99 by decide), hl]
      refine ev_jcmp_ge k184_11 (fun h11 => absurd (nI_lt hlt (by omega)) h11) (fun h11 => ?_)
      refine ev_ald0 k184_14 ?_
      refine ev_getr k184_15 (by first | assumption | rfl) rfl rfl rfl ?_
      refine ev_ild1 k184_18 ?_
      refine ev_iconst k184_19 ?_
      refine ev_iadd k184_20 ?_
      refine ev_ild3 k184_21 ?_
      refine ev_iadd k184_22 ?_
      rw [show (1 : Int32) = nI 1 from rfl, nI_add, nI_add]
      refine ev_ial (j := at0 + 1 + i) k184_23 (by first | assumption | rfl) (by omega) (nI_clamp (by omega)) (vp_in_nI (show at0 + 1 + i < 321 by omega) (by omega)) ?_
      rw [mm_rp_ne I 99 g (show 92 ≠ 99 by decide), ea]
      refine ev_ist4 k184_24 rfl ?_
      refine ev_ild4 k184_26 ?_
      refine ev_iconst k184_28 ?_
      refine ev_icmp_eq k184_29 (fun h29 => absurd h29 (by decide)) (fun h29 => ?_)
      refine ev_ild4 k184_32 ?_
      refine ev_iconst k184_34 ?_
      refine ev_icmp_ne k184_35 (fun h35 => absurd rfl h35) (fun h35 => ?_)
      refine ev_ald0 k184_38 ?_
      refine ev_getr k184_39 (by first | assumption | rfl) rfl rfl rfl ?_
      refine ev_ild2 k184_42 ?_
      refine ev_ild4 k184_43 ?_
      refine ev_iconst k184_45 ?_
      refine ev_icmp_ne k184_46 (fun h46 => ?_) (fun h46 => absurd h46 (by decide))
      refine ev_ald0 k184_63 ?_
      refine ev_getr k184_64 (by first | assumption | rfl) rfl rfl rfl ?_
      refine ev_ald0 k184_67 ?_
      refine ev_getr k184_68 (by first | assumption | rfl) rfl rfl rfl ?_
      refine ev_ild1 k184_71 ?_
      refine ev_bipush k184_72 ?_
      refine ev_iadd k184_74 ?_
      refine ev_ild3 k184_75 ?_
      refine ev_iadd k184_76 ?_
      rw [show (51 : Int32) = nI 51 from rfl, nI_add, nI_add]
      refine ev_ial (j := at0 + 51 + i) k184_77 (by first | assumption | rfl) (by omega) (nI_clamp (by omega)) (vp_in_nI (show at0 + 51 + i < 321 by omega) (by omega)) ?_
      rw [mm_rp_ne I 99 g (show 92 ≠ 99 by decide), ew]
      refine ev_ial (j := k) k184_78 (by first | assumption | rfl) (by omega) (nI_clamp (by omega)) (vp_in_nI hk3 (by omega)) ?_
      rw [mm_rp_ne I 99 g (show 98 ≠ 99 by decide)]
      refine ev_ias (j := m) k184_79 (by first | assumption | rfl) (nI_clamp (by omega)) (vp_in_nI (show m < 50 by omega) (by omega)) ?_
      rw [mm_rp_up]
      refine ev_inc2 k184_80 rfl ?_
      rw [nI_1]
      refine ev_goto k184_83 ?_
      refine ev_inc3 k184_149 rfl ?_
      refine ev_goto k184_152 ?_
      rw [nI_1]
      refine ih (i + 1) (m + 1) _ _ (by omega) (by omega) (by have z := hok.2; rw [ec] at z; exact z) ?_
      have et : ts (I 98 0) (I 98 1) (I 98 2) (f i) (m, g) = (m + 1, upd g m (I 98 k)) := by simp only [ts, if_neg hn3, if_pos hm50, evl]
      rw [et] at hQ
      exact hQ
    · have hn3 : f i < -3 := by rw [es]; decide
      have hn33 : f i = -33 := es
      have hm0 := hok.1.2.1 hn3 hn33
      have ec : cst (f i) m = m := by simp only [cst, if_pos hn3, if_pos hn33]
      obtain ⟨m, rfl⟩ : ∃ m2, m = m2 + 1 := ⟨m - 1, by omega⟩
      refine ev_ild3 k184_4 ?_
      refine ev_ald0 k184_5 ?_
      refine ev_getr k184_6 (by first | assumption | rfl) rfl rfl rfl ?_
      refine ev_ild1 k184_9 ?_
      refine ev_ial (j := at0) k184_10 (by first | assumption | rfl) (by omega) (nI_clamp (by omega)) (vp_in_nI (show at0 < 321 by omega) (by omega)) ?_
      rw [mm_rp_ne I 99 g (show 92 ≠ 99 by decide), hl]
      refine ev_jcmp_ge k184_11 (fun h11 => absurd (nI_lt hlt (by omega)) h11) (fun h11 => ?_)
      refine ev_ald0 k184_14 ?_
      refine ev_getr k184_15 (by first | assumption | rfl) rfl rfl rfl ?_
      refine ev_ild1 k184_18 ?_
      refine ev_iconst k184_19 ?_
      refine ev_iadd k184_20 ?_
      refine ev_ild3 k184_21 ?_
      refine ev_iadd k184_22 ?_
      rw [show (1 : Int32) = nI 1 from rfl, nI_add, nI_add]
      refine ev_ial (j := at0 + 1 + i) k184_23 (by first | assumption | rfl) (by omega) (nI_clamp (by omega)) (vp_in_nI (show at0 + 1 + i < 321 by omega) (by omega)) ?_
      rw [mm_rp_ne I 99 g (show 92 ≠ 99 by decide), ea]
      refine ev_ist4 k184_24 rfl ?_
      refine ev_ild4 k184_26 ?_
      refine ev_iconst k184_28 ?_
      refine ev_icmp_eq k184_29 (fun h29 => absurd h29 (by decide)) (fun h29 => ?_)
      refine ev_ild4 k184_32 ?_
      refine ev_iconst k184_34 ?_
      refine ev_icmp_ne k184_35 (fun h35 => ?_) (fun h35 => absurd h35 (by decide))
      refine ev_ild4 k184_86 ?_
      refine ev_iconst k184_88 ?_
      refine ev_icmp_ne k184_89 (fun h89 => absurd rfl h89) (fun h89 => ?_)
      refine ev_ald0 k184_92 ?_
      refine ev_getr k184_93 (by first | assumption | rfl) rfl rfl rfl ?_
      refine ev_ild2 k184_96 ?_
      refine ev_iconst k184_97 ?_
      refine ev_isub k184_98 ?_
      rw [nI_pred]
      refine ev_ald0 k184_99 ?_
      refine ev_getr k184_100 (by first | assumption | rfl) rfl rfl rfl ?_
      refine ev_ild2 k184_103 ?_
      refine ev_iconst k184_104 ?_
      refine ev_isub k184_105 ?_
      rw [nI_pred]
      refine ev_ial (j := m) k184_106 (by first | assumption | rfl) (by omega) (nI_clamp (by omega)) (vp_in_nI (show m < 50 by omega) (by omega)) ?_
      rw [mm_rp_at]
      refine ev_if_ne k184_107 (fun h107 => ?_) (fun h107 => ?_)
      ·
        refine ev_iconst k184_114 ?_
        refine ev_ias (j := m) k184_115 (by first | assumption | rfl) (nI_clamp (by omega)) (vp_in_nI (show m < 50 by omega) (by omega)) ?_
        rw [mm_rp_up]
        refine ev_goto k184_116 ?_
        refine ev_inc3 k184_149 rfl ?_
        refine ev_goto k184_152 ?_
        rw [nI_1]
        refine ih (i + 1) (m + 1) _ _ (by omega) (by omega) (by have z := hok.2; rw [ec] at z; exact z) ?_
        first | (have et : ts (I 98 0) (I 98 1) (I 98 2) (f i) (m + 1, g) = (m + 1, upd g m 1) := by { simp only [ts, if_pos hn3, if_pos hn33, if_pos (show 0 < m + 1 by omega), Nat.add_sub_cancel, decide_eq_true h107, bI_t] }; rw [et] at hQ; exact hQ) | (have et : ts (I 98 0) (I 98 1) (I 98 2) (f i) (m + 1, g) = (m + 1, upd g m 0) := by { simp only [ts, if_pos hn3, if_pos hn33, if_pos (show 0 < m + 1 by omega), Nat.add_sub_cancel, decide_eq_false h107, bI_f] }; rw [et] at hQ; exact hQ)
      ·
        refine ev_iconst k184_110 ?_
        refine ev_goto k184_111 ?_
        refine ev_ias (j := m) k184_115 (by first | assumption | rfl) (nI_clamp (by omega)) (vp_in_nI (show m < 50 by omega) (by omega)) ?_
        rw [mm_rp_up]
        refine ev_goto k184_116 ?_
        refine ev_inc3 k184_149 rfl ?_
        refine ev_goto k184_152 ?_
        rw [nI_1]
        refine ih (i + 1) (m + 1) _ _ (by omega) (by omega) (by have z := hok.2; rw [ec] at z; exact z) ?_
        first | (have et : ts (I 98 0) (I 98 1) (I 98 2) (f i) (m + 1, g) = (m + 1, upd g m 1) := by { simp only [ts, if_pos hn3, if_pos hn33, if_pos (show 0 < m + 1 by omega), Nat.add_sub_cancel, decide_eq_true h107, bI_t] }; rw [et] at hQ; exact hQ) | (have et : ts (I 98 0) (I 98 1) (I 98 2) (f i) (m + 1, g) = (m + 1, upd g m 0) := by { simp only [ts, if_pos hn3, if_pos hn33, if_pos (show 0 < m + 1 by omega), Nat.add_sub_cancel, decide_eq_false h107, bI_f] }; rw [et] at hQ; exact hQ)
    · obtain ⟨⟨hn3q, hn33q⟩, enn⟩ := sg_neg sg hsg
      have hn3 : f i < -3 := by rw [es]; exact hn3q
      have hn33 : ¬ f i = -33 := by rw [es]; exact hn33q
      have hm1 := hok.1.2.2 hn3 hn33
      have ec : cst (f i) m = m - 1 := by simp only [cst, if_pos hn3, if_neg hn33]
      obtain ⟨m, rfl⟩ : ∃ m2, m = m2 + 2 := ⟨m - 2, by omega⟩
      rw [show m + 2 - 1 = m + 1 from rfl] at ec
      refine ev_ild3 k184_4 ?_
      refine ev_ald0 k184_5 ?_
      refine ev_getr k184_6 (by first | assumption | rfl) rfl rfl rfl ?_
      refine ev_ild1 k184_9 ?_
      refine ev_ial (j := at0) k184_10 (by first | assumption | rfl) (by omega) (nI_clamp (by omega)) (vp_in_nI (show at0 < 321 by omega) (by omega)) ?_
      rw [mm_rp_ne I 99 g (show 92 ≠ 99 by decide), hl]
      refine ev_jcmp_ge k184_11 (fun h11 => absurd (nI_lt hlt (by omega)) h11) (fun h11 => ?_)
      refine ev_ald0 k184_14 ?_
      refine ev_getr k184_15 (by first | assumption | rfl) rfl rfl rfl ?_
      refine ev_ild1 k184_18 ?_
      refine ev_iconst k184_19 ?_
      refine ev_iadd k184_20 ?_
      refine ev_ild3 k184_21 ?_
      refine ev_iadd k184_22 ?_
      rw [show (1 : Int32) = nI 1 from rfl, nI_add, nI_add]
      refine ev_ial (j := at0 + 1 + i) k184_23 (by first | assumption | rfl) (by omega) (nI_clamp (by omega)) (vp_in_nI (show at0 + 1 + i < 321 by omega) (by omega)) ?_
      rw [mm_rp_ne I 99 g (show 92 ≠ 99 by decide), ea]
      refine ev_ist4 k184_24 rfl ?_
      refine ev_ild4 k184_26 ?_
      refine ev_iconst k184_28 ?_
      refine ev_icmp_eq k184_29 (fun h29 => absurd hsg (by rw [h29]; decide)) (fun h29 => ?_)
      refine ev_ild4 k184_32 ?_
      refine ev_iconst k184_34 ?_
      refine ev_icmp_ne k184_35 (fun h35 => ?_) (fun h35 => absurd hsg (by rw [h35]; decide))
      refine ev_ild4 k184_86 ?_
      refine ev_iconst k184_88 ?_
      refine ev_icmp_ne k184_89 (fun h89 => ?_) (fun h89 => absurd hsg (by rw [h89]; decide))
      refine ev_inc2 k184_119 rfl ?_
      rw [show nI (m + 2) + (-1) = nI (m + 1) from pk_m1 (m + 1)]
      refine ev_ald0 k184_122 ?_
      refine ev_getr k184_123 (by first | assumption | rfl) rfl rfl rfl ?_
      refine ev_ild2 k184_126 ?_
      refine ev_iconst k184_127 ?_
      refine ev_isub k184_128 ?_
      rw [nI_pred]
      refine ev_ild4 k184_129 ?_
      refine ev_ald0 k184_131 ?_
      refine ev_getr k184_132 (by first | assumption | rfl) rfl rfl rfl ?_
      refine ev_ild2 k184_135 ?_
      refine ev_iconst k184_136 ?_
      refine ev_isub k184_137 ?_
      rw [nI_pred]
      refine ev_ial (j := m) k184_138 (by first | assumption | rfl) (by omega) (nI_clamp (by omega)) (vp_in_nI (show m < 50 by omega) (by omega)) ?_
      rw [mm_rp_at]
      refine ev_ald0 k184_139 ?_
      refine ev_getr k184_140 (by first | assumption | rfl) rfl rfl rfl ?_
      refine ev_ild2 k184_143 ?_
      refine ev_ial (j := m + 1) k184_144 (by first | assumption | rfl) (by omega) (nI_clamp (by omega)) (vp_in_nI (show m + 1 < 50 by omega) (by omega)) ?_
      rw [mm_rp_at]
      refine ev_cS3i k184_145 cs_257 rfl rfl rfl ?_
      refine sm_twoOf hsg ?_
      refine ev_ias (j := m) k184_148 (by first | assumption | rfl) (nI_clamp (by omega)) (vp_in_nI (show m < 50 by omega) (by omega)) ?_
      rw [mm_rp_up]
      refine ev_inc3 k184_149 rfl ?_
      refine ev_goto k184_152 ?_
      rw [nI_1]
      refine ih (i + 1) (m + 1) _ _ (by omega) (by omega) (by have z := hok.2; rw [ec] at z; exact z) ?_
      have et : ts (I 98 0) (I 98 1) (I 98 2) (f i) (m + 2, g) = (m + 1, upd g m (jn sg (g m) (g (m + 1)))) := by simp only [ts, es, if_pos hn3q, if_neg hn33q, if_pos (show 1 < m + 2 by omega), enn]; rfl
      rw [et] at hQ
      exact hQ
/-- Model.works -/
theorem sm_works {X : Nat × (Nat → Int32)} {d : Nat} {I : mm_I} {f : Nat → Int32} {l at0 : Nat} {P : Int32 → mm_I → Prop} (hat : at0 ≤ 220) (hl : I 92 at0 = nI l) (hl50 : l ≤ 50) (hst : ∀ i, i < l → stR (f i) (I 92 (at0 + 1 + i)) (I 92 (at0 + 51 + i))) (hok : okS f l 0 0) (hQ : P ((tv f (I 98 0) (I 98 1) (I 98 2) l 0 (0, I 99)).2 0) (mm_rp I 99 (tv f (I 98 0) (I 98 1) (I 98 2) l 0 (0, I 99)).2)) : mm_Ev mm_T0 X (d + 1) 184 0 (mm_ent 184 [.ref 91, .int (nI at0)]) [] I (mm_pi P) := by
  show mm_Ev mm_T0 X (d + 1) 184 0 [.ref 91, .int (nI at0), .retAddr 0, .retAddr 0, .retAddr 0] [] I (mm_pi P)
  refine ev_iconst k184_0 ?_
  refine ev_ist2 k184_1 rfl ?_
  refine ev_iconst k184_2 ?_
  refine ev_ist3 k184_3 rfl ?_
  have h := lm_works (X := X) (d := d) (P := P) hat hl hl50 hst l 0 0 (I 99) (.retAddr 0) (by omega) (by omega) hok hQ
  rw [mm_rp_self] at h
  exact h
