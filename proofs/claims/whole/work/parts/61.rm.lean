/-! The reference's reader -/
def mcL (f w : Nat → Int32) : List Int32 → Prop
  | [] => True
  | s :: r => stR s (f r.length) (w r.length) ∧ mcL f w r
theorem mcL_congr {f w f' w' : Nat → Int32} : ∀ (l : List Int32), (∀ j, j < l.length → f' j = f j ∧ w' j = w j) → mcL f w l → mcL f' w' l
  | [], _, _ => trivial
  | s :: r, h, ht => ⟨by rw [(h r.length (by simp)).1, (h r.length (by simp)).2]; exact ht.1, mcL_congr r (fun j hj => h j (by simp; omega)) ht.2⟩
def mdE (J K : mm_I) (op p : Nat) (l : List Int32) : Prop := (∀ k, k ≠ 91 → k ≠ 96 → k ≠ 97 → K k = J k) ∧ (∀ q, q ≠ 9 → q ≠ 10 → q ≠ 11 → q ≠ 12 → K 91 q = J 91 q) ∧ K 91 9 = nI l.length ∧ K 91 10 = nI p ∧ K 91 11 = nI op ∧ K 91 12 = 0 ∧ mcL (K 96) (K 97) l
def mdF (J K : mm_I) (p : Nat) : Prop := (∀ k, k ≠ 91 → k ≠ 96 → k ≠ 97 → K k = J k) ∧ (∀ q, q ≠ 9 → q ≠ 10 → q ≠ 11 → q ≠ 12 → K 91 q = J 91 q) ∧ K 91 10 = nI p ∧ K 91 12 = 1 ∧ ∃ n : Nat, n ≤ 50 ∧ K 91 9 = nI n
def mdB (J : mm_I) (g : Nat → Int32) (u L : Nat) : Prop := gOK g L ∧ u ≤ 1 ∧ J 91 13 = nI u ∧ J 92 5 = nI L ∧ ∀ p, p < L → J 92 (49 + p) = g p
theorem mdE_up {J K : mm_I} {op p : Nat} {l : List Int32} {q op' p' : Nat} {x : Int32} (h : mdE J K op p l) (hx : (q = 10 ∧ x = nI p' ∧ op' = op) ∨ (q = 11 ∧ x = nI op' ∧ p' = p)) : mdE J (mm_up K 91 q x) op' p' l := by
  obtain ⟨h1, h2, h3, h4, h5, h6, h7⟩ := h
  refine ⟨fun k a b c => ?_, fun r a b c e => ?_, ?_, ?_, ?_, ?_, ?_⟩
  · rw [mm_up_ne _ _ _ _ _ a]; exact h1 k a b c
  · rw [mm_up_at, if_neg (by omega)]; exact h2 r a b c e
  · rw [mm_up_at, if_neg (by omega)]; exact h3
  · rw [mm_up_at]
    rcases hx with ⟨a, b, c⟩ | ⟨a, b, c⟩
    · rw [if_pos ⟨rfl, a.symm⟩, b]
    · rw [if_neg (by omega), c]; exact h4
  · rw [mm_up_at]
    rcases hx with ⟨a, b, c⟩ | ⟨a, b, c⟩
    · rw [if_neg (by omega), c]; exact h5
    · rw [if_pos ⟨rfl, a.symm⟩, b]
  · rw [mm_up_at, if_neg (by omega)]; exact h6
  · rw [mm_up_ne _ _ _ _ _ (by decide), mm_up_ne _ _ _ _ _ (by decide)]; exact h7
theorem mdE_bad {J K : mm_I} {op p : Nat} {l : List Int32} (hl : l.length ≤ 50) (h : mdE J K op p l) : mdF J (mm_up K 91 12 1) p := by
  obtain ⟨h1, h2, h3, h4, h5, h6, h7⟩ := h
  refine ⟨fun k a b c => ?_, fun r a b c e => ?_, ?_, ?_, l.length, hl, ?_⟩
  · rw [mm_up_ne _ _ _ _ _ a]; exact h1 k a b c
  · rw [mm_up_at, if_neg (by omega)]; exact h2 r a b c e
  · rw [mm_up_at, if_neg (by omega)]; exact h4
  · rw [mm_up_at, if_pos ⟨rfl, rfl⟩]
  · rw [mm_up_at, if_neg (by omega)]; exact h3
theorem mdE_ok {J K : mm_I} {op p : Nat} {l : List Int32} (h : mdE J K op p l) : mm_up K 91 12 0 = K := by
  rw [← h.2.2.2.2.2.1]; exact mm_up_id _ _ _
theorem mdF_up {J K : mm_I} {p q : Nat} {x : Int32} (h : mdF J K p) (hx : (q = 11) ∨ (q = 12 ∧ x = 1) ∨ (q = 10 ∧ x = nI p)) : mdF J (mm_up K 91 q x) p := by
  obtain ⟨h1, h2, h3, h4, n, hn, h5⟩ := h
  refine ⟨fun k a b c => ?_, fun r a b c e => ?_, ?_, ?_, n, hn, ?_⟩
  · rw [mm_up_ne _ _ _ _ _ a]; exact h1 k a b c
  · rw [mm_up_at, if_neg (by omega)]; exact h2 r a b c e
  · rw [mm_up_at]
    rcases hx with a | ⟨a, b⟩ | ⟨a, b⟩
    · rw [if_neg (by omega)]; exact h3
    · rw [if_neg (by omega)]; exact h3
    · rw [if_pos ⟨rfl, a.symm⟩, b]
  · rw [mm_up_at]
    rcases hx with a | ⟨a, b⟩ | ⟨a, b⟩
    · rw [if_neg (by omega)]; exact h4
    · rw [if_pos ⟨rfl, a.symm⟩, b]
    · rw [if_neg (by omega)]; exact h4
  · rw [mm_up_at, if_neg (by omega)]; exact h5
theorem nm_k {u : Nat} {b : Int32} (h : ¬ nm u b < 0) : (∃ k : Nat, k < 3 ∧ nm u b = nI k) ∧ dg b = false := by
  unfold nm at *
  repeat' split at h
  all_goals first
    | (rename_i q; subst q; exact ⟨⟨0, by decide, by decide⟩, by decide⟩)
    | (rename_i q; subst q; exact ⟨⟨1, by decide, by decide⟩, by decide⟩)
    | (rename_i q; subst q; exact ⟨⟨2, by decide, by decide⟩, by decide⟩)
    | exact absurd (by decide) h
    | skip
  all_goals simp_all
  all_goals first | exact ⟨⟨0, by decide, by decide⟩, by decide⟩ | exact ⟨⟨1, by decide, by decide⟩, by decide⟩ | exact ⟨⟨2, by decide, by decide⟩, by decide⟩
/-- Model.look -/
theorem sm_look {X : Nat × (Nat → Int32)} {d : Nat} {I : mm_I} {J : mm_I} {g : Nat → Int32} {u L p : Nat} {P : Int32 → mm_I → Prop} (hb : mdB J g u L) (h92 : I 92 = J 92) (hh : I 91 10 = nI p) (hp : p ≤ L) (hQ : P (g p) I) : mm_Ev mm_T0 X (d) 171 0 (mm_ent 171 [.ref 91]) [] I (mm_pi P) := by
  show mm_Ev mm_T0 X (d) 171 0 [.ref 91] [] I (mm_pi P)
  have tm := tM
  have tr := tR
  have hL := hb.1.1
  have e5 : I 92 5 = nI L := by rw [h92]; exact hb.2.2.2.1
  refine ev_ald0 k171_0 ?_
  refine ev_gfv (j := 10) k171_1 (by first | assumption | rfl) rfl rfl rfl rfl hh ?_
  refine ev_ald0 k171_4 ?_
  refine ev_getr k171_5 (by first | assumption | rfl) rfl rfl rfl ?_
  refine ev_iconst k171_8 ?_
  refine ev_ialv (j := 5) k171_9 (by first | assumption | rfl) (by omega) rfl (vp_dec rfl) e5 ?_
  refine ev_jcmp_ge k171_10 (fun h10 => ?_) (fun h10 => ?_)
  ·
    refine ev_iconst k171_28 ?_
    refine ev_ri k171_29 rfl ?_
    have e : g p = -1 := hb.1.2.2 p (Nat.le_of_not_lt (fun z => h10 (nI_lt z (by omega))))
    rw [e] at hQ
    exact hQ
  ·
    refine ev_ald0 k171_13 ?_
    refine ev_getr k171_14 (by first | assumption | rfl) rfl rfl rfl ?_
    refine ev_bipush k171_17 ?_
    refine ev_ald0 k171_19 ?_
    refine ev_gfv (j := 10) k171_20 (by first | assumption | rfl) rfl rfl rfl rfl hh ?_
    refine ev_iadd k171_23 ?_
    have hpl : p < L := (nI_ltI (by omega) (by omega)).mp h10
    rw [show (49 : Int32) + nI p = nI (49 + p) from nI_add 49 p]
    skip
    refine ev_ial (j := (49 + p)) k171_24 (by first | assumption | rfl) (by omega) (nI_clamp (by omega)) (vp_in_nI (show 49 + p < 321 by omega) (by omega)) ?_
    refine ev_goto k171_25 ?_
    refine ev_ri k171_29 rfl ?_
    rw [show I 92 (49 + p) = g p from by rw [h92]; exact hb.2.2.2.2 p hpl]
    exact hQ
/-- Model.nameOf -/
theorem sm_nameOf {X : Nat × (Nat → Int32)} {d : Nat} {I : mm_I} {u : Nat} {v : Int32} {P : Int32 → mm_I → Prop} (hu : u ≤ 1) (hh : I 91 13 = nI u) (hQ : P (nm u v) I) : mm_Ev mm_T0 X (d) 173 0 (mm_ent 173 [.ref 91, .int v]) [] I (mm_pi P) := by
  show mm_Ev mm_T0 X (d) 173 0 [.ref 91, .int v] [] I (mm_pi P)
  have tm := tM
  have tr := tR
  refine ev_ild1 k173_0 ?_
  refine ev_tb (l := [(99, 95), (100, 162), (101, 162), (102, 162), (103, 162), (104, 128), (105, 162), (106, 162), (107, 95), (108, 162), (109, 162), (110, 128), (111, 162), (112, 162), (113, 162), (114, 162), (115, 95), (116, 162), (117, 162), (118, 128)]) k173_1 rfl rfl ?_
  refine sw_cons (key := 99) (t := 96) rfl rfl (fun h1 => ?_) (fun h1_0 => ?_)
  ·
    subst h1
    refine ev_ald0 k173_96 ?_
    refine ev_gfv (j := 13) k173_97 (by first | assumption | rfl) rfl rfl rfl rfl hh ?_
    refine ev_if_eq k173_100 (fun h100 => ?_) (fun h100 => ?_)
    ·
      refine ev_ild1 k173_107 ?_
      refine ev_bipush k173_108 ?_
      refine ev_icmp_ne k173_110 (fun h110 => ?_) (fun h110 => absurd h110 (by decide))
      refine ev_ild1 k173_117 ?_
      refine ev_bipush k173_118 ?_
      refine ev_icmp_ne k173_120 (fun h120 => absurd rfl h120) (fun h120 => ?_)
      refine ev_iconst k173_123 ?_
      refine ev_goto k173_124 ?_
      refine ev_ri k173_128 rfl ?_
      have hu0 : u = 0 := by
        rcases (show u = 0 ∨ u = 1 by omega) with rfl | rfl
        · rfl
        · exact absurd h100 (by decide)
      subst hu0
      rw [show nm 0 99 = 1 from by decide] at hQ
      exact hQ
    ·
      refine ev_iconst k173_103 ?_
      refine ev_goto k173_104 ?_
      refine ev_ri k173_128 rfl ?_
      have hu0 : u = 1 := by
        rcases (show u = 0 ∨ u = 1 by omega) with rfl | rfl
        · exact absurd rfl h100
        · rfl
      subst hu0
      rw [show nm 1 99 = -1 from by decide] at hQ
      exact hQ
  refine sw_cons (key := 100) (t := 163) rfl rfl (fun h1 => ?_) (fun h1_1 => ?_)
  ·
    subst h1
    refine ev_iconst k173_163 ?_
    refine ev_ri k173_164 rfl ?_
    rw [show nm u 100 = -1 from by rcases (show u = 0 ∨ u = 1 by omega) with rfl | rfl <;> decide] at hQ
    exact hQ
  refine sw_cons (key := 101) (t := 163) rfl rfl (fun h1 => ?_) (fun h1_2 => ?_)
  ·
    subst h1
    refine ev_iconst k173_163 ?_
    refine ev_ri k173_164 rfl ?_
    rw [show nm u 101 = -1 from by rcases (show u = 0 ∨ u = 1 by omega) with rfl | rfl <;> decide] at hQ
    exact hQ
  refine sw_cons (key := 102) (t := 163) rfl rfl (fun h1 => ?_) (fun h1_3 => ?_)
  ·
    subst h1
    refine ev_iconst k173_163 ?_
    refine ev_ri k173_164 rfl ?_
    rw [show nm u 102 = -1 from by rcases (show u = 0 ∨ u = 1 by omega) with rfl | rfl <;> decide] at hQ
    exact hQ
  refine sw_cons (key := 103) (t := 163) rfl rfl (fun h1 => ?_) (fun h1_4 => ?_)
  ·
    subst h1
    refine ev_iconst k173_163 ?_
    refine ev_ri k173_164 rfl ?_
    rw [show nm u 103 = -1 from by rcases (show u = 0 ∨ u = 1 by omega) with rfl | rfl <;> decide] at hQ
    exact hQ
  refine sw_cons (key := 104) (t := 129) rfl rfl (fun h1 => ?_) (fun h1_5 => ?_)
  ·
    subst h1
    refine ev_ald0 k173_129 ?_
    refine ev_gfv (j := 13) k173_130 (by first | assumption | rfl) rfl rfl rfl rfl hh ?_
    refine ev_iconst k173_133 ?_
    refine ev_icmp_eq k173_134 (fun h134 => ?_) (fun h134 => ?_)
    ·
      refine ev_ild1 k173_141 ?_
      refine ev_bipush k173_142 ?_
      refine ev_icmp_ne k173_144 (fun h144 => absurd rfl h144) (fun h144 => ?_)
      refine ev_iconst k173_147 ?_
      refine ev_goto k173_148 ?_
      refine ev_ri k173_162 rfl ?_
      have hu0 : u = 1 := by
        rcases (show u = 0 ∨ u = 1 by omega) with rfl | rfl
        · exact absurd h134 (by decide)
        · rfl
      subst hu0
      rw [show nm 1 104 = 0 from by decide] at hQ
      exact hQ
    ·
      refine ev_iconst k173_137 ?_
      refine ev_goto k173_138 ?_
      refine ev_ri k173_162 rfl ?_
      have hu0 : u = 0 := by
        rcases (show u = 0 ∨ u = 1 by omega) with rfl | rfl
        · rfl
        · exact absurd rfl h134
      subst hu0
      rw [show nm 0 104 = -1 from by decide] at hQ
      exact hQ
  refine sw_cons (key := 105) (t := 163) rfl rfl (fun h1 => ?_) (fun h1_6 => ?_)
  ·
    subst h1
    refine ev_iconst k173_163 ?_
    refine ev_ri k173_164 rfl ?_
    rw [show nm u 105 = -1 from by rcases (show u = 0 ∨ u = 1 by omega) with rfl | rfl <;> decide] at hQ
    exact hQ
  refine sw_cons (key := 106) (t := 163) rfl rfl (fun h1 => ?_) (fun h1_7 => ?_)
  ·
    subst h1
    refine ev_iconst k173_163 ?_
    refine ev_ri k173_164 rfl ?_
    rw [show nm u 106 = -1 from by rcases (show u = 0 ∨ u = 1 by omega) with rfl | rfl <;> decide] at hQ
    exact hQ
  refine sw_cons (key := 107) (t := 96) rfl rfl (fun h1 => ?_) (fun h1_8 => ?_)
  ·
    subst h1
    refine ev_ald0 k173_96 ?_
    refine ev_gfv (j := 13) k173_97 (by first | assumption | rfl) rfl rfl rfl rfl hh ?_
    refine ev_if_eq k173_100 (fun h100 => ?_) (fun h100 => ?_)
    ·
      refine ev_ild1 k173_107 ?_
      refine ev_bipush k173_108 ?_
      refine ev_icmp_ne k173_110 (fun h110 => absurd rfl h110) (fun h110 => ?_)
      refine ev_iconst k173_113 ?_
      refine ev_goto k173_114 ?_
      refine ev_ri k173_128 rfl ?_
      have hu0 : u = 0 := by
        rcases (show u = 0 ∨ u = 1 by omega) with rfl | rfl
        · rfl
        · exact absurd h100 (by decide)
      subst hu0
      rw [show nm 0 107 = 0 from by decide] at hQ
      exact hQ
    ·
      refine ev_iconst k173_103 ?_
      refine ev_goto k173_104 ?_
      refine ev_ri k173_128 rfl ?_
      have hu0 : u = 1 := by
        rcases (show u = 0 ∨ u = 1 by omega) with rfl | rfl
        · exact absurd rfl h100
        · rfl
      subst hu0
      rw [show nm 1 107 = -1 from by decide] at hQ
      exact hQ
  refine sw_cons (key := 108) (t := 163) rfl rfl (fun h1 => ?_) (fun h1_9 => ?_)
  ·
    subst h1
    refine ev_iconst k173_163 ?_
    refine ev_ri k173_164 rfl ?_
    rw [show nm u 108 = -1 from by rcases (show u = 0 ∨ u = 1 by omega) with rfl | rfl <;> decide] at hQ
    exact hQ
  refine sw_cons (key := 109) (t := 163) rfl rfl (fun h1 => ?_) (fun h1_10 => ?_)
  ·
    subst h1
    refine ev_iconst k173_163 ?_
    refine ev_ri k173_164 rfl ?_
    rw [show nm u 109 = -1 from by rcases (show u = 0 ∨ u = 1 by omega) with rfl | rfl <;> decide] at hQ
    exact hQ
  refine sw_cons (key := 110) (t := 129) rfl rfl (fun h1 => ?_) (fun h1_11 => ?_)
  ·
    subst h1
    refine ev_ald0 k173_129 ?_
    refine ev_gfv (j := 13) k173_130 (by first | assumption | rfl) rfl rfl rfl rfl hh ?_
    refine ev_iconst k173_133 ?_
    refine ev_icmp_eq k173_134 (fun h134 => ?_) (fun h134 => ?_)
    ·
      refine ev_ild1 k173_141 ?_
      refine ev_bipush k173_142 ?_
      refine ev_icmp_ne k173_144 (fun h144 => ?_) (fun h144 => absurd h144 (by decide))
      refine ev_ild1 k173_151 ?_
      refine ev_bipush k173_152 ?_
      refine ev_icmp_ne k173_154 (fun h154 => absurd rfl h154) (fun h154 => ?_)
      refine ev_iconst k173_157 ?_
      refine ev_goto k173_158 ?_
      refine ev_ri k173_162 rfl ?_
      have hu0 : u = 1 := by
        rcases (show u = 0 ∨ u = 1 by omega) with rfl | rfl
        · exact absurd h134 (by decide)
        · rfl
      subst hu0
      rw [show nm 1 110 = 1 from by decide] at hQ
      exact hQ
    ·
      refine ev_iconst k173_137 ?_
      refine ev_goto k173_138 ?_
      refine ev_ri k173_162 rfl ?_
      have hu0 : u = 0 := by
        rcases (show u = 0 ∨ u = 1 by omega) with rfl | rfl
        · rfl
        · exact absurd rfl h134
      subst hu0
      rw [show nm 0 110 = -1 from by decide] at hQ
      exact hQ
  refine sw_cons (key := 111) (t := 163) rfl rfl (fun h1 => ?_) (fun h1_12 => ?_)
  ·
    subst h1
    refine ev_iconst k173_163 ?_
    refine ev_ri k173_164 rfl ?_
    rw [show nm u 111 = -1 from by rcases (show u = 0 ∨ u = 1 by omega) with rfl | rfl <;> decide] at hQ
    exact hQ
  refine sw_cons (key := 112) (t := 163) rfl rfl (fun h1 => ?_) (fun h1_13 => ?_)
  ·
    subst h1
    refine ev_iconst k173_163 ?_
    refine ev_ri k173_164 rfl ?_
    rw [show nm u 112 = -1 from by rcases (show u = 0 ∨ u = 1 by omega) with rfl | rfl <;> decide] at hQ
    exact hQ
  refine sw_cons (key := 113) (t := 163) rfl rfl (fun h1 => ?_) (fun h1_14 => ?_)
  ·
    subst h1
    refine ev_iconst k173_163 ?_
    refine ev_ri k173_164 rfl ?_
    rw [show nm u 113 = -1 from by rcases (show u = 0 ∨ u = 1 by omega) with rfl | rfl <;> decide] at hQ
    exact hQ
  refine sw_cons (key := 114) (t := 163) rfl rfl (fun h1 => ?_) (fun h1_15 => ?_)
  ·
    subst h1
    refine ev_iconst k173_163 ?_
    refine ev_ri k173_164 rfl ?_
    rw [show nm u 114 = -1 from by rcases (show u = 0 ∨ u = 1 by omega) with rfl | rfl <;> decide] at hQ
    exact hQ
  refine sw_cons (key := 115) (t := 96) rfl rfl (fun h1 => ?_) (fun h1_16 => ?_)
  ·
    subst h1
    refine ev_ald0 k173_96 ?_
    refine ev_gfv (j := 13) k173_97 (by first | assumption | rfl) rfl rfl rfl rfl hh ?_
    refine ev_if_eq k173_100 (fun h100 => ?_) (fun h100 => ?_)
    ·
      refine ev_ild1 k173_107 ?_
      refine ev_bipush k173_108 ?_
      refine ev_icmp_ne k173_110 (fun h110 => ?_) (fun h110 => absurd h110 (by decide))
      refine ev_ild1 k173_117 ?_
      refine ev_bipush k173_118 ?_
      refine ev_icmp_ne k173_120 (fun h120 => ?_) (fun h120 => absurd h120 (by decide))
      refine ev_iconst k173_127 ?_
      refine ev_ri k173_128 rfl ?_
      have hu0 : u = 0 := by
        rcases (show u = 0 ∨ u = 1 by omega) with rfl | rfl
        · rfl
        · exact absurd h100 (by decide)
      subst hu0
      rw [show nm 0 115 = 2 from by decide] at hQ
      exact hQ
    ·
      refine ev_iconst k173_103 ?_
      refine ev_goto k173_104 ?_
      refine ev_ri k173_128 rfl ?_
      have hu0 : u = 1 := by
        rcases (show u = 0 ∨ u = 1 by omega) with rfl | rfl
        · exact absurd rfl h100
        · rfl
      subst hu0
      rw [show nm 1 115 = -1 from by decide] at hQ
      exact hQ
  refine sw_cons (key := 116) (t := 163) rfl rfl (fun h1 => ?_) (fun h1_17 => ?_)
  ·
    subst h1
    refine ev_iconst k173_163 ?_
    refine ev_ri k173_164 rfl ?_
    rw [show nm u 116 = -1 from by rcases (show u = 0 ∨ u = 1 by omega) with rfl | rfl <;> decide] at hQ
    exact hQ
  refine sw_cons (key := 117) (t := 163) rfl rfl (fun h1 => ?_) (fun h1_18 => ?_)
  ·
    subst h1
    refine ev_iconst k173_163 ?_
    refine ev_ri k173_164 rfl ?_
    rw [show nm u 117 = -1 from by rcases (show u = 0 ∨ u = 1 by omega) with rfl | rfl <;> decide] at hQ
    exact hQ
  refine sw_cons (key := 118) (t := 129) rfl rfl (fun h1 => ?_) (fun h1_19 => ?_)
  ·
    subst h1
    refine ev_ald0 k173_129 ?_
    refine ev_gfv (j := 13) k173_130 (by first | assumption | rfl) rfl rfl rfl rfl hh ?_
    refine ev_iconst k173_133 ?_
    refine ev_icmp_eq k173_134 (fun h134 => ?_) (fun h134 => ?_)
    ·
      refine ev_ild1 k173_141 ?_
      refine ev_bipush k173_142 ?_
      refine ev_icmp_ne k173_144 (fun h144 => ?_) (fun h144 => absurd h144 (by decide))
      refine ev_ild1 k173_151 ?_
      refine ev_bipush k173_152 ?_
      refine ev_icmp_ne k173_154 (fun h154 => ?_) (fun h154 => absurd h154 (by decide))
      refine ev_iconst k173_161 ?_
      refine ev_ri k173_162 rfl ?_
      have hu0 : u = 1 := by
        rcases (show u = 0 ∨ u = 1 by omega) with rfl | rfl
        · exact absurd h134 (by decide)
        · rfl
      subst hu0
      rw [show nm 1 118 = 2 from by decide] at hQ
      exact hQ
    ·
      refine ev_iconst k173_137 ?_
      refine ev_goto k173_138 ?_
      refine ev_ri k173_162 rfl ?_
      have hu0 : u = 0 := by
        rcases (show u = 0 ∨ u = 1 by omega) with rfl | rfl
        · rfl
        · exact absurd rfl h134
      subst hu0
      rw [show nm 0 118 = -1 from by decide] at hQ
      exact hQ
  refine sw_nil (t := 163) rfl ?_
  refine ev_iconst k173_163 ?_
  refine ev_ri k173_164 rfl ?_
  have e : nm u v = -1 := by
    unfold nm
    split
    · first | rfl | rw [if_neg h1_8, if_neg h1_0, if_neg h1_16]
    · first | rfl | rw [if_neg h1_5, if_neg h1_11, if_neg h1_19]
  rw [e] at hQ
  exact hQ
/-- Model.step -/
theorem sm_step {X : Nat × (Nat → Int32)} {d : Nat} {I : mm_I} {J : mm_I} {op p : Nat} {l : List Int32} {s a v : Int32} {P : mm_I → Prop} (h : mdE J I op p l) (hl : l.length < 50) (hst : stR s a v) (hQ : ∀ K, mdE J K op p (s :: l) → P K) : mm_Ev mm_T0 X (d) 172 0 (mm_ent 172 [.ref 91, .int a, .int v]) [] I (mm_pv P) := by
  show mm_Ev mm_T0 X (d) 172 0 [.ref 91, .int a, .int v] [] I (mm_pv P)
  have tm := tM
  have tr := tR
  have t6 : mm_T0[96]? = some (aC 50) := rfl
  have t7 : mm_T0[97]? = some (aC 50) := rfl
  refine ev_ald0 k172_0 ?_
  refine ev_gfv (j := 9) k172_1 (by first | assumption | rfl) rfl rfl rfl rfl h.2.2.1 ?_
  refine ev_ald0 k172_4 ?_
  refine ev_getr k172_5 (by first | assumption | rfl) rfl rfl rfl ?_
  refine ev_alen k172_8 (by first | assumption | rfl) (by omega) ?_
  rw [show Int32.ofNat 50 = nI 50 from rfl]
  refine ev_jcmp_ge k172_9 (fun h9 => absurd (nI_lt hl (by omega)) h9) (fun h9 => ?_)
  refine ev_ald0 k172_12 ?_
  refine ev_getr k172_13 (by first | assumption | rfl) rfl rfl rfl ?_
  refine ev_ald0 k172_16 ?_
  refine ev_gfv (j := 9) k172_17 (by first | assumption | rfl) rfl rfl rfl rfl h.2.2.1 ?_
  refine ev_ild1 k172_20 ?_
  refine ev_ias (j := l.length) k172_21 (by first | assumption | rfl) (nI_clamp (by omega)) (vp_in_nI hl (by omega)) ?_
  refine ev_ald0 k172_22 ?_
  refine ev_getr k172_23 (by first | assumption | rfl) rfl rfl rfl ?_
  refine ev_ald0 k172_26 ?_
  refine ev_gfv (j := 9) k172_27 (by first | assumption | rfl) rfl rfl rfl rfl (show _ = nI l.length from by rw [mm_up_ne _ _ _ _ _ (by decide)]; exact h.2.2.1) ?_
  refine ev_ild2 k172_30 ?_
  refine ev_ias (j := l.length) k172_31 (by first | assumption | rfl) (nI_clamp (by omega)) (vp_in_nI hl (by omega)) ?_
  refine ev_ald0 k172_32 ?_
  refine ev_dup k172_33 rfl ?_
  refine ev_gfv (j := 9) k172_34 (by first | assumption | rfl) rfl rfl rfl rfl (show _ = nI l.length from by rw [mm_up_ne _ _ _ _ _ (by decide), mm_up_ne _ _ _ _ _ (by decide)]; exact h.2.2.1) ?_
  refine ev_iconst k172_37 ?_
  refine ev_iadd k172_38 ?_
  rw [nI_1]
  refine ev_pf (j := 9) k172_39 (by first | assumption | rfl) rfl rfl rfl ?_
  refine ev_rv k172_42 rfl ?_
  obtain ⟨h1, h2, h3, h4, h5, h6, h7⟩ := h
  refine hQ _ ⟨fun k a b c => ?_, fun r a b c e => ?_, ?_, ?_, ?_, ?_, ?_, ?_⟩
  · rw [mm_up_ne _ _ _ _ _ a, mm_up_ne _ _ _ _ _ c, mm_up_ne _ _ _ _ _ b]; exact h1 k a b c
  · rw [mm_up_at, if_neg (by omega), mm_up_ne _ _ _ _ _ (by decide), mm_up_ne _ _ _ _ _ (by decide)]; exact h2 r a b c e
  · rw [mm_up_at, if_pos ⟨rfl, rfl⟩]; rfl
  · rw [mm_up_at, if_neg (by omega), mm_up_ne _ _ _ _ _ (by decide), mm_up_ne _ _ _ _ _ (by decide)]; exact h4
  · rw [mm_up_at, if_neg (by omega), mm_up_ne _ _ _ _ _ (by decide), mm_up_ne _ _ _ _ _ (by decide)]; exact h5
  · rw [mm_up_at, if_neg (by omega), mm_up_ne _ _ _ _ _ (by decide), mm_up_ne _ _ _ _ _ (by decide)]; exact h6
  · rw [mm_up_ne _ _ _ _ _ (by decide), mm_up_ne _ _ _ _ _ (by decide), mm_up_at, if_pos ⟨rfl, rfl⟩, mm_up_ne _ _ _ _ _ (by decide), mm_up_at, if_pos ⟨rfl, rfl⟩]; exact hst
  · refine mcL_congr l (fun j hj => ⟨?_, ?_⟩) h7
    · rw [mm_up_ne _ _ _ _ _ (by decide), mm_up_ne _ _ _ _ _ (by decide), mm_up_at, if_neg (by omega)]
    · rw [mm_up_ne _ _ _ _ _ (by decide), mm_up_at, if_neg (by omega), mm_up_ne _ _ _ _ _ (by decide)]
/-- Model.step -/
theorem sm_stepF {X : Nat × (Nat → Int32)} {d : Nat} {I : mm_I} {J : mm_I} {p : Nat} {a v : Int32} {P : mm_I → Prop} (h : mdF J I p) (hQ : ∀ K, mdF J K p → P K) : mm_Ev mm_T0 X (d) 172 0 (mm_ent 172 [.ref 91, .int a, .int v]) [] I (mm_pv P) := by
  show mm_Ev mm_T0 X (d) 172 0 [.ref 91, .int a, .int v] [] I (mm_pv P)
  have tm := tM
  have tr := tR
  have t6 : mm_T0[96]? = some (aC 50) := rfl
  have t7 : mm_T0[97]? = some (aC 50) := rfl
  obtain ⟨h1, h2, h3, h4, n, hn, h5⟩ := h
  refine ev_ald0 k172_0 ?_
  refine ev_gfv (j := 9) k172_1 (by first | assumption | rfl) rfl rfl rfl rfl h5 ?_
  refine ev_ald0 k172_4 ?_
  refine ev_getr k172_5 (by first | assumption | rfl) rfl rfl rfl ?_
  refine ev_alen k172_8 (by first | assumption | rfl) (by omega) ?_
  rw [show Int32.ofNat 50 = nI 50 from rfl]
  refine ev_jcmp_ge k172_9 (fun h9 => ?_) (fun h9 => ?_)
  ·
    refine ev_rv k172_42 rfl ?_
    exact hQ _ ⟨h1, h2, h3, h4, n, hn, h5⟩
  ·
    have hn5 : n < 50 := (nI_ltI (by omega) (by omega)).mp h9
    refine ev_ald0 k172_12 ?_
    refine ev_getr k172_13 (by first | assumption | rfl) rfl rfl rfl ?_
    refine ev_ald0 k172_16 ?_
    refine ev_gfv (j := 9) k172_17 (by first | assumption | rfl) rfl rfl rfl rfl h5 ?_
    refine ev_ild1 k172_20 ?_
    refine ev_ias (j := n) k172_21 (by first | assumption | rfl) (nI_clamp (by omega)) (vp_in_nI hn5 (by omega)) ?_
    refine ev_ald0 k172_22 ?_
    refine ev_getr k172_23 (by first | assumption | rfl) rfl rfl rfl ?_
    refine ev_ald0 k172_26 ?_
    refine ev_gfv (j := 9) k172_27 (by first | assumption | rfl) rfl rfl rfl rfl (show _ = nI n from by rw [mm_up_ne _ _ _ _ _ (by decide)]; exact h5) ?_
    refine ev_ild2 k172_30 ?_
    refine ev_ias (j := n) k172_31 (by first | assumption | rfl) (nI_clamp (by omega)) (vp_in_nI hn5 (by omega)) ?_
    refine ev_ald0 k172_32 ?_
    refine ev_dup k172_33 rfl ?_
    refine ev_gfv (j := 9) k172_34 (by first | assumption | rfl) rfl rfl rfl rfl (show _ = nI n from by rw [mm_up_ne _ _ _ _ _ (by decide), mm_up_ne _ _ _ _ _ (by decide)]; exact h5) ?_
    refine ev_iconst k172_37 ?_
    refine ev_iadd k172_38 ?_
    rw [nI_1]
    refine ev_pf (j := 9) k172_39 (by first | assumption | rfl) rfl rfl rfl ?_
    refine ev_rv k172_42 rfl ?_
    refine hQ _ ⟨fun k a b c => ?_, fun r a b c e => ?_, ?_, ?_, n + 1, by omega, ?_⟩
    · rw [mm_up_ne _ _ _ _ _ a, mm_up_ne _ _ _ _ _ c, mm_up_ne _ _ _ _ _ b]; exact h1 k a b c
    · rw [mm_up_at, if_neg (by omega), mm_up_ne _ _ _ _ _ (by decide), mm_up_ne _ _ _ _ _ (by decide)]; exact h2 r a b c e
    · rw [mm_up_at, if_neg (by omega), mm_up_ne _ _ _ _ _ (by decide), mm_up_ne _ _ _ _ _ (by decide)]; exact h3
    · rw [mm_up_at, if_neg (by omega), mm_up_ne _ _ _ _ _ (by decide), mm_up_ne _ _ _ _ _ (by decide)]; exact h4
    · rw [mm_up_at, if_pos ⟨rfl, rfl⟩]
theorem lm_num {X : Nat × (Nat → Int32)} {d : Nat} {J : mm_I} {g : Nat → Int32} {u L p0 op : Nat} {l : List Int32} {P : mm_I → Prop} (hb : mdB J g u L) (hl : l.length < 50) (hQ : ∀ K, mdE J K op (pNum g 4 p0 0).1 (nI (pNum g 4 p0 0).2 :: l) → P K) : ∀ (n i p v : Nat) (K : mm_I), i + n = 4 → 1 ≤ i → v < 10 ^ i → p ≤ L → mdE J K op p l → pNum g n p v = pNum g 4 p0 0 → mm_Ev mm_T0 X (d + 3) 174 4 [.ref 91, .int (nI v), .int (nI i)] [] K (mm_pv P) := by
  have tm := tM
  have tr := tR
  intro n
  induction n with
  | zero =>
    intro i p v K hi hi1 hv hp h he
    have e : i = 4 := by omega
    subst e
    refine ev_ild2 k174_4 ?_
    refine ev_iconst k174_5 ?_
    refine ev_jcmp_ge k174_6 (fun h6 => ?_) (fun h6 => absurd h6 (by decide))
    have hv4 : v < 10000 := hv
    refine ev_ald0 k174_52 ?_
    refine ev_ild2 k174_53 ?_
    refine ev_if_ne k174_54 (fun h54 => ?_) (fun h54 => absurd h54 (by decide))
    refine ev_iconst k174_61 ?_
    refine ev_pz (j := 12) k174_62 (by first | assumption | rfl) rfl rfl (by first | exact Or.inl rfl | exact Or.inr rfl | assumption) rfl ?_
    rw [mdE_ok h]
    refine ev_ald0 k174_65 ?_
    refine ev_iconst k174_66 ?_
    refine ev_ild1 k174_67 ?_
    refine ev_cV3v k174_68 cs_247 (by first | assumption | rfl) (by omega) (Nat.le_of_ble_eq_true rfl) rfl rfl rfl ?_
    refine sm_step (s := nI v) h hl (Or.inl ⟨v, hv4, rfl, rfl, rfl⟩) (fun K2 h2 => ?_)
    refine ev_rv k174_71 rfl ?_
    have z := hQ K2
    rw [← he] at z
    exact z h2
  | succ n ih =>
    intro i p v K hi hi1 hv hp h he
    refine ev_ild2 k174_4 ?_
    refine ev_iconst k174_5 ?_
    refine ev_jcmp_ge k174_6 (fun h6 => absurd (nI_lt (show i < 4 by omega) (by omega)) h6) (fun h6 => ?_)
    refine ev_ald0 k174_9 ?_
    refine ev_cV1i k174_10 cs_246 (by first | assumption | rfl) (by omega) (Nat.le_of_ble_eq_true rfl) rfl rfl rfl ?_
    refine sm_look hb (h.1 92 (by decide) (by decide) (by decide)) h.2.2.2.1 hp ?_
    refine ev_bipush k174_13 ?_
    refine ev_bipush k174_15 ?_
    refine ev_cS3i k174_17 cs_224 rfl rfl rfl ?_
    refine sp_in ?_
    rw [show wB 48 57 (g p) = dg (g p) from rfl]
    refine ev_ifz_eq k174_20 (fun h20 => ?_) (fun h20 => ?_)
    ·
      have hv4 : v < 10000 := by have := p10 hv (by omega); omega
      refine ev_ald0 k174_52 ?_
      refine ev_ild2 k174_53 ?_
      refine ev_if_ne k174_54 (fun h54 => ?_) (fun h54 => absurd h54 (nI_ne0 (by omega) (by omega)))
      refine ev_iconst k174_61 ?_
      refine ev_pz (j := 12) k174_62 (by first | assumption | rfl) rfl rfl (by first | exact Or.inl rfl | exact Or.inr rfl | assumption) rfl ?_
      rw [mdE_ok h]
      refine ev_ald0 k174_65 ?_
      refine ev_iconst k174_66 ?_
      refine ev_ild1 k174_67 ?_
      refine ev_cV3v k174_68 cs_247 (by first | assumption | rfl) (by omega) (Nat.le_of_ble_eq_true rfl) rfl rfl rfl ?_
      refine sm_step (s := nI v) h hl (Or.inl ⟨v, hv4, rfl, rfl, rfl⟩) (fun K2 h2 => ?_)
      refine ev_rv k174_71 rfl ?_
      have e : pNum g (n + 1) p v = (p, v) := if_neg (by rw [h20]; decide)
      rw [e] at he
      have z := hQ K2
      rw [← he] at z
      exact z h2
    ·
      refine ev_bipush k174_23 ?_
      refine ev_ild1 k174_25 ?_
      refine ev_imul k174_26 ?_
      refine ev_ald0 k174_27 ?_
      refine ev_cV1i k174_28 cs_246 (by first | assumption | rfl) (by omega) (Nat.le_of_ble_eq_true rfl) rfl rfl rfl ?_
      refine sm_look hb (h.1 92 (by decide) (by decide) (by decide)) h.2.2.2.1 hp ?_
      refine ev_iadd k174_31 ?_
      refine ev_bipush k174_32 ?_
      refine ev_isub k174_34 ?_
      obtain ⟨b, hb1, hb2, eb⟩ := dg_b h20
      have hpl := dg_lt hb.1 h20
      have en := (num_s (p10 hv (by omega)) hb1 hb2).2
      rw [← eb] at en
      rw [en]
      refine ev_ist1 k174_35 rfl ?_
      refine ev_ald0 k174_36 ?_
      refine ev_dup k174_37 rfl ?_
      refine ev_gfv (j := 10) k174_38 (by first | assumption | rfl) rfl rfl rfl rfl h.2.2.2.1 ?_
      refine ev_iconst k174_41 ?_
      refine ev_iadd k174_42 ?_
      rw [nI_1]
      refine ev_pf (j := 10) k174_43 (by first | assumption | rfl) rfl rfl rfl ?_
      refine ev_inc2 k174_46 rfl ?_
      refine ev_goto k174_49 ?_
      have e : pNum g (n + 1) p v = pNum g n (p + 1) (10 * v + (g p).toNatClampNeg - 48) := if_pos h20
      rw [nI_1]
      refine ih (i + 1) (p + 1) _ _ (by omega) (by omega) ?_ (by omega) (mdE_up h (Or.inl ⟨rfl, rfl, rfl⟩)) (e.symm.trans he)
      rw [eb, nI_clamp (by omega)]
      exact p10s hv (by omega) hb2
/-- Model.number -/
theorem sm_number {X : Nat × (Nat → Int32)} {d : Nat} {I : mm_I} {J : mm_I} {g : Nat → Int32} {u L p op : Nat} {l : List Int32} {P : mm_I → Prop} (hb : mdB J g u L) (hl : l.length ≤ p) (hp : p ≤ L) (h : mdE J I op p l) (hQ1 : dg (g p) = true → ∀ K, mdE J K op (pNum g 4 p 0).1 (nI (pNum g 4 p 0).2 :: l) → P K) (hQ2 : dg (g p) = false → ∀ K, mdF J K p → P K) : mm_Ev mm_T0 X (d + 3) 174 0 (mm_ent 174 [.ref 91]) [] I (mm_pv P) := by
  show mm_Ev mm_T0 X (d + 3) 174 0 [.ref 91, .retAddr 0, .retAddr 0] [] I (mm_pv P)
  have tm := tM
  have tr := tR
  have hL := hb.1.1
  refine ev_iconst k174_0 ?_
  refine ev_ist1 k174_1 rfl ?_
  refine ev_iconst k174_2 ?_
  refine ev_ist2 k174_3 rfl ?_
  refine ev_ild2 k174_4 ?_
  refine ev_iconst k174_5 ?_
  refine ev_jcmp_ge k174_6 (fun h6 => absurd (by decide) h6) (fun h6 => ?_)
  refine ev_ald0 k174_9 ?_
  refine ev_cV1i k174_10 cs_246 (by first | assumption | rfl) (by omega) (Nat.le_of_ble_eq_true rfl) rfl rfl rfl ?_
  refine sm_look hb (h.1 92 (by decide) (by decide) (by decide)) h.2.2.2.1 hp ?_
  refine ev_bipush k174_13 ?_
  refine ev_bipush k174_15 ?_
  refine ev_cS3i k174_17 cs_224 rfl rfl rfl ?_
  refine sp_in ?_
  rw [show wB 48 57 (g p) = dg (g p) from rfl]
  refine ev_ifz_eq k174_20 (fun h20 => ?_) (fun h20 => ?_)
  ·
    refine ev_ald0 k174_52 ?_
    refine ev_ild2 k174_53 ?_
    refine ev_if_ne k174_54 (fun h54 => absurd rfl h54) (fun h54 => ?_)
    refine ev_iconst k174_57 ?_
    refine ev_goto k174_58 ?_
    refine ev_pz (j := 12) k174_62 (by first | assumption | rfl) rfl rfl (by first | exact Or.inl rfl | exact Or.inr rfl | assumption) rfl ?_
    refine ev_ald0 k174_65 ?_
    refine ev_iconst k174_66 ?_
    refine ev_ild1 k174_67 ?_
    refine ev_cV3v k174_68 cs_247 (by first | assumption | rfl) (by omega) (Nat.le_of_ble_eq_true rfl) rfl rfl rfl ?_
    refine sm_stepF (mdE_bad (by omega) h) (fun K2 h2 => ?_)
    refine ev_rv k174_71 rfl ?_
    exact hQ2 h20 K2 h2
  ·
    refine ev_bipush k174_23 ?_
    refine ev_ild1 k174_25 ?_
    refine ev_imul k174_26 ?_
    refine ev_ald0 k174_27 ?_
    refine ev_cV1i k174_28 cs_246 (by first | assumption | rfl) (by omega) (Nat.le_of_ble_eq_true rfl) rfl rfl rfl ?_
    refine sm_look hb (h.1 92 (by decide) (by decide) (by decide)) h.2.2.2.1 hp ?_
    refine ev_iadd k174_31 ?_
    refine ev_bipush k174_32 ?_
    refine ev_isub k174_34 ?_
    obtain ⟨b, hb1, hb2, eb⟩ := dg_b h20
    have hpl := dg_lt hb.1 h20
    have en := (num_s (v := 0) (by decide) hb1 hb2).2
    rw [← eb] at en
    rw [show (10 : Int32) * 0 + g p - 48 = nI (10 * 0 + (g p).toNatClampNeg - 48) from en]
    refine ev_ist1 k174_35 rfl ?_
    refine ev_ald0 k174_36 ?_
    refine ev_dup k174_37 rfl ?_
    refine ev_gfv (j := 10) k174_38 (by first | assumption | rfl) rfl rfl rfl rfl h.2.2.2.1 ?_
    refine ev_iconst k174_41 ?_
    refine ev_iadd k174_42 ?_
    rw [nI_1]
    refine ev_pf (j := 10) k174_43 (by first | assumption | rfl) rfl rfl rfl ?_
    have e : pNum g 4 p 0 = pNum g 3 (p + 1) (10 * 0 + (g p).toNatClampNeg - 48) := if_pos h20
    refine ev_inc2 k174_46 rfl ?_
    refine ev_goto k174_49 ?_
    refine lm_num hb (by omega) (hQ1 h20) 3 1 (p + 1) _ _ (by omega) (by omega) ?_ (by omega) (mdE_up h (Or.inl ⟨rfl, rfl, rfl⟩)) e.symm
    rw [eb, nI_clamp (by omega)]
    exact p10s (v := 0) (i := 0) (by decide) (by decide) hb2
