/-! A house without what is only used; sittings and runs of such -/
def nz (S : mm_I) : mm_I := fun k => if k ≤ 20 ∧ k ≠ 5 ∧ k ≠ 12 ∧ k ≠ 16 then S k else fun _ => 0
theorem nz_at {S : mm_I} {k : Nat} (h : k ≤ 20) (h5 : k ≠ 5) (h12 : k ≠ 12) (h16 : k ≠ 16) : nz S k = S k := if_pos ⟨h, h5, h12, h16⟩
theorem nz_eq {S S' : mm_I} (h : ∀ k, k ≤ 20 → k ≠ 5 → k ≠ 12 → k ≠ 16 → S' k = S k) : nz S' = nz S := by
  funext k
  unfold nz
  split
  · rename_i a; exact h k a.1 a.2.1 a.2.2.1 a.2.2.2
  · rfl
theorem nz_nz (S : mm_I) : nz (nz S) = nz S := nz_eq (fun _ a b c e => nz_at a b c e)
theorem HS_nz {S : mm_I} {R : Nat → Int32} {nc np : Nat} (H : HS S R nc np) : HS (nz S) R nc np := HS_congr (fun _ a b c e => nz_at a b c e) (fun _ _ => rfl) H
theorem HS_zn {S : mm_I} {R : Nat → Int32} {nc np : Nat} (H : HS (nz S) R nc np) : HS S R nc np := HS_congr (fun _ a b c e => (nz_at a b c e).symm) (fun _ _ => rfl) H
def wfS (S : mm_I) (nc np : Nat) : Prop := S 0 7 = nI np ∧ np ≤ 6 ∧ hOK S 0 nc ∧ sR S nc np ∧ ∃ z : Nat, z < 256 ∧ S 0 15 = nI z
theorem HS_wf {S : mm_I} {R : Nat → Int32} {nc np : Nat} (H : HS S R nc np) : wfS S nc np := ⟨H.1.1.2.2.2.2.2, H.1.1.2.2.2.1, H.2.1, H.2.2.1, H.2.2.2.2.2⟩
theorem wf_congr {S S' : mm_I} {nc np : Nat} (h : ∀ k, k ≤ 20 → k ≠ 5 → k ≠ 12 → k ≠ 16 → S' k = S k) (H : wfS S nc np) : wfS S' nc np := by
  have g : ∀ k, k ≤ 20 ∧ k ≠ 5 ∧ k ≠ 12 ∧ k ≠ 16 → S' k = S k := fun k a => h k a.1 a.2.1 a.2.2.1 a.2.2.2
  unfold wfS hOK sR hK hL0 hL1 at *
  rw [g 0 (by omega), g (0 + 1) (by omega), g (0 + 10) (by omega), g (0 + 11) (by omega), g (0 + 9) (by omega), g (0 + 14) (by omega), g (0 + 15) (by omega), g (0 + 13) (by omega), g 2 (by omega), g 3 (by omega), g 4 (by omega), g 6 (by omega), g 7 (by omega), g 8 (by omega)]
  exact H
theorem wf_nz {S : mm_I} {nc np : Nat} (H : wfS S nc np) : wfS (nz S) nc np := wf_congr (fun _ a b c e => nz_at a b c e) H
def sN (S : mm_I) (nc np : Nat) : mm_I := nz (sit S nc np)
def rN (S : mm_I) (nc np : Nat) : mm_I := nz (Sa S (hRn S 0 nc np))
theorem hRn_nz (S : mm_I) (nc np : Nat) : hRn (nz S) 0 nc np = hRn S 0 nc np := rfl
theorem hLw_nz (S : mm_I) (nc np : Nat) : hLw (nz S) 0 nc np = hLw S 0 nc np := rfl
theorem hCu_nz (S : mm_I) (nc np : Nat) : hCu (nz S) 0 nc (hTt (nz S) 0 nc np) = hCu S 0 nc (hTt S 0 nc np) := rfl
theorem cu_bits : ∀ u : Fin 256, (nI u.val &&& (nI u.val - 1)) = nI (u.val &&& (u.val - 1)) ∧ u.val &&& (u.val - 1) < 256 := by decide +kernel
theorem hLw_lt {S : mm_I} {nc np : Nat} : ∃ z : Nat, z < 256 ∧ hLw S 0 nc np = nI z := by
  have key : ∀ (n i z : Nat), i + n = 8 → z < 256 → ∃ z' : Nat, z' < 256 ∧ fo (hLs S 0 nc (hTt S 0 nc np)) n i (nI z) = nI z' := by
    intro n
    induction n with
    | zero => intro i z _ hz; exact ⟨z, hz, rfl⟩
    | succ n ih =>
      intro i z hi hz
      show ∃ z' : Nat, z' < 256 ∧ fo (hLs S 0 nc (hTt S 0 nc np)) n (i + 1) (hLs S 0 nc (hTt S 0 nc np) i (nI z)) = nI z'
      obtain ⟨b1, -, -, b4, -, -, -⟩ := lw_bits ⟨i, by omega⟩ ⟨z, hz⟩
      dsimp only at b1 b4
      by_cases h : 0 < hMv S 0 nc (hWt S 0) (nI i) (hTt S 0 nc np)
      · rw [lw_pos h, b1]; exact ih (i + 1) _ (by omega) b4
      · rw [lw_neg h]; exact ih (i + 1) _ (by omega) hz
  exact key 8 0 0 rfl (by decide)
theorem wf_at {S : mm_I} {nc np : Nat} (h : sR S nc np) : ∀ p, p < np → S 8 p = -1 ∨ ∃ c, c < nc ∧ S 8 p = nI c := fun p hp => by obtain ⟨_, _, _, _, _, _, z⟩ := h.2.1 p hp; exact z
theorem wf_sit {S : mm_I} {nc np : Nat} (H : wfS S nc np) : wfS (sit S nc np) nc np := by
  obtain ⟨h7, h6, ok, sr, -⟩ := H
  have n6 := ok.2.1
  have g : ∀ k, k ≠ 0 ∧ k ≠ 8 ∧ k ≠ 4 → sit S nc np k = S k := fun k a => sit_ne a.1 a.2.1 a.2.2
  have g0 : ∀ j, j ≠ 15 ∧ j ≠ 16 → sit S nc np 0 j = S 0 j := fun j a => by simp [sit, a.1, a.2]
  refine ⟨(g0 7 (by omega)).trans h7, h6, ?_, ⟨fun c hc => ?_, fun p hp => ?_, ?_⟩, ?_⟩
  · unfold hOK hK hL0 hL1 at *
    rw [g0 1 (by omega), g (0 + 1) (by omega), g (0 + 10) (by omega), g (0 + 11) (by omega), g (0 + 9) (by omega), g (0 + 14) (by omega), g (0 + 15) (by omega), g (0 + 13) (by omega)]
    exact ok
  · rw [g 1 (by omega), g 2 (by omega), g 3 (by omega)]
    obtain ⟨a, b, c2, e, a1, b1, c1, e1, a2, b2, c3, e2⟩ := sr.1 c hc
    show ∃ k m v u : Nat, k < 7 ∧ m < 10 ∧ v < 256 ∧ u < 256 ∧ S 1 c = nI k ∧ S 2 c = nI m ∧ S 3 c = nI v ∧ hCu S 0 nc (hTt S 0 nc np) c = nI u
    unfold hCu
    obtain ⟨q1, q2⟩ := cu_bits ⟨e, e1⟩
    dsimp only at q1 q2
    split
    · exact ⟨a, b, c2, _, a1, b1, c1, q2, a2, b2, c3, by rw [show S (0 + 4) c = nI e from e2]; exact q1⟩
    · exact ⟨a, b, c2, e, a1, b1, c1, e1, a2, b2, c3, e2⟩
  · rw [g 6 (by omega), g 7 (by omega)]
    obtain ⟨s, h, e1, e2, e3, e4, -⟩ := sr.2.1 p hp
    exact ⟨s, h, e1, e2, e3, e4, hRn_in (wf_at sr) p hp⟩
  · exact hRn_dist (fun p hp => spd sr hp) n6 h6
  · obtain ⟨z, hz, ez⟩ := hLw_lt (S := S) (nc := nc) (np := np)
    exact ⟨z, hz, by simpa [sit] using ez⟩
theorem wf_run {S : mm_I} {nc np : Nat} (H : wfS S nc np) : wfS (Sa S (hRn S 0 nc np)) nc np := by
  obtain ⟨h7, h6, ok, sr, lw⟩ := H
  have n6 := ok.2.1
  refine ⟨h7, h6, hOK_Sa ok, ⟨fun c hc => sr.1 c hc, fun p hp => ?_, hRn_dist (fun p hp => spd sr hp) n6 h6⟩, lw⟩
  obtain ⟨s, h, e1, e2, e3, e4, -⟩ := sr.2.1 p hp
  exact ⟨s, h, e1, e2, e3, e4, hRn_in (wf_at sr) p hp⟩
theorem wf_sN {S : mm_I} {nc np : Nat} (H : wfS S nc np) : wfS (sN S nc np) nc np := wf_nz (wf_sit H)
theorem wf_rN {S : mm_I} {nc np : Nat} (H : wfS S nc np) : wfS (rN S nc np) nc np := wf_nz (wf_run H)
theorem HS_mk {S S' : mm_I} {R R' : Nat → Int32} {nc np : Nat} (H : HS S R nc np) (w : wfS S' nc np) (rm : RM S' (fun _ => R') nc np) (hr : ∀ j, (j = 5 ∨ j = 6 ∨ 49 ≤ j) → R' j = R j) (hs : ∀ k, 9 ≤ k → k ≤ 20 → S' k = S k) : HS S' R' nc np := by
  obtain ⟨-, -, -, tt, ⟨⟨l, tl1, tl2, tl3, tl4, tl5⟩, ⟨u, wl1, wl2, wl3, wl4, wl5⟩⟩, -⟩ := H
  refine ⟨rm, w.2.2.1, w.2.2.2.1, TR_congr3 (fun j hj => hr j (by omega)) (hs 10 (by omega) (by omega)) (hs 11 (by omega) (by omega)) (hs 14 (by omega) (by omega)) (hs 15 (by omega) (by omega)) tt, ⟨⟨l, tl1, ?_, ?_, ?_, fun j hj2 => ?_⟩, ⟨u, wl1, ?_, ?_, ?_, fun j hj2 => ?_⟩⟩, w.2.2.2.2⟩
  · rw [hs 17 (by omega) (by omega)]; exact tl2
  · rw [hs 17 (by omega) (by omega)]; exact tl3
  · rw [hr _ (by omega)]; exact tl4
  · rw [hs 18 (by omega) (by omega), hr _ (by omega)]; exact tl5 j hj2
  · rw [hs 19 (by omega) (by omega)]; exact wl2
  · rw [hs 19 (by omega) (by omega)]; exact wl3
  · rw [hr _ (by omega)]; exact wl4
  · rw [hs 20 (by omega) (by omega), hr _ (by omega)]; exact wl5 j hj2
theorem HS_sit {S I J : mm_I} {nc np : Nat} (H : HS S (I 92) nc np) (h : sgJ S I J nc np) : HS (sN S nc np) (J 92) nc np :=
  HS_nz (HS_mk H (wf_sit (HS_wf H)) h.2.2 h.2.1 (fun k a _ => sit_ne (by omega) (by omega) (by omega)))
theorem HS_run {S I J : mm_I} {nc np : Nat} (H : HS S (I 92) nc np) (h : atJ I J np (hRn S 0 nc np)) : HS (rN S nc np) (J 92) nc np :=
  HS_nz (HS_mk H (wf_run (HS_wf H)) (atJ_RM (I := I) (J := J) H.1 h) (fun j hj => h.2.1 j (fun p hp => by have := H.1.1.2.2.2.1; omega)) (fun k a _ => Sa_ne (by omega)))
/-- a class's house behind a sitting -/
theorem hSg_sN {I J N : mm_I} {hb nc np : Nat} (e : nz (cells I hb) = N) (h : hSg I J hb nc np) : nz (cells J hb) = sN N nc np := by
  subst e
  refine nz_eq (fun k a b c d => ?_)
  obtain ⟨-, h0, h8, h4, hk⟩ := h
  by_cases k0 : k = 0
  · subst k0
    funext j
    show J hb j = _
    rw [h0 j]
    rfl
  · by_cases k8 : k = 8
    · subst k8; exact h8
    · by_cases k4 : k = 4
      · subst k4; exact h4
      · rw [sit_ne k0 k8 k4, nz_at a b c d]
        exact hk k a k0 k4 b k8 c d
theorem sp_sitC {X : Nat × (Nat → Int32)} {d : Nat} {J N : mm_I} {hb nc np : Nat} {P : mm_I → Prop} (hh : hH hb) (e : nz (cells J hb) = N) (wf : wfS N nc np) (hQ : ∀ K, nz (cells K hb) = sN N nc np → (∀ k, (k < hb ∨ hb + 20 < k) → K k = J k) → P K) : mm_Ev mm_T0 X (d + 6) 37 0 (mm_ent 37 [.ref hb]) [] J (mm_pv P) := by
  have wf' := wf
  rw [← e] at wf'
  exact sp_holdSitting (nc := nc) (np := np) hh wf'.2.2.1 wf'.1 wf'.2.1 (fun K hK => hQ K (hSg_sN e hK) hK.1)
theorem sp_runC {X : Nat × (Nat → Int32)} {d : Nat} {J N : mm_I} {hb nc np : Nat} {P : mm_I → Prop} (hh : hH hb) (e : nz (cells J hb) = N) (wf : wfS N nc np) (hQ : ∀ K, nz (cells K hb) = rN N nc np → (∀ k, (k < hb ∨ hb + 20 < k) → K k = J k) → P K) : mm_Ev mm_T0 X (d + 4) 34 0 (mm_ent 34 [.ref hb]) [] J (mm_pv P) := by
  have wf' := wf
  rw [← e] at wf'
  refine sp_runAll (nc := nc) (np := np) hh wf'.2.2.1 wf'.1 wf'.2.1 (fun g => hQ _ ?_ (fun k hk => hRI_ne (by omega) (by omega)))
  subst e
  refine nz_eq (fun k a b c e => ?_)
  by_cases k8 : k = 8
  · subst k8
    rw [Sa_at]
    unfold cells hRI
    rw [mm_rp_ne _ _ _ (by omega), mm_rp_at]
    rfl
  · rw [Sa_ne k8, nz_at a b c e]
    exact hRI_ne (by omega) (by omega)
theorem sm_sitM {X : Nat × (Nat → Int32)} {d : Nat} {J N : mm_I} {nc np : Nat} {P : mm_I → Prop} (H : HS N (J 92) nc np) (hQ : ∀ K, HS (sN N nc np) (K 92) nc np → (∀ k, k ≠ 92 → k ≠ 98 → k ≠ 99 → K k = J k) → P K) : mm_Ev mm_T0 X (d + 8) 194 0 (mm_ent 194 [.ref 91]) [] J (mm_pv P) :=
  sm_sitting (S := N) H.1 H.2.1 H.2.2.1 H.2.2.2.1 H.2.2.2.2.2 (fun K hK => hQ K (HS_sit H hK) hK.1)
theorem sm_runM {X : Nat × (Nat → Int32)} {d : Nat} {J N : mm_I} {nc np : Nat} {P : mm_I → Prop} (H : HS N (J 92) nc np) (hQ : ∀ K, HS (rN N nc np) (K 92) nc np → (∀ k, k ≠ 92 → k ≠ 98 → k ≠ 99 → K k = J k) → P K) : mm_Ev mm_T0 X (d + 5) 192 0 (mm_ent 192 [.ref 91]) [] J (mm_pv P) :=
  sm_runs (S := N) H.1 H.2.1 (fun p hp => spd H.2.2.1 hp) H.2.2.2.1 (fun K hK => hQ K (HS_run H hK) hK.1)
def itS (N : mm_I) (nc np : Nat) : Nat → mm_I
  | 0 => N
  | n + 1 => sN (itS N nc np n) nc np
theorem wf_it {N : mm_I} {nc np : Nat} (wf : wfS N nc np) : ∀ n, wfS (itS N nc np n) nc np
  | 0 => wf
  | n + 1 => wf_sN (wf_it wf n)
theorem lm_goesOn {X : Nat × (Nat → Int32)} {d : Nat} {I N : mm_I} {nc np M : Nat} {P : mm_I → Prop} (hM : M ≤ 60) (hQ : ∀ K, HS (itS N nc np M) (K 92) nc np → (∀ k, k ≠ 92 → k ≠ 98 → k ≠ 99 → K k = I k) → P K) : ∀ (n i : Nat) (J : mm_I), i + n = M → HS (itS N nc np i) (J 92) nc np → (∀ k, k ≠ 92 → k ≠ 98 → k ≠ 99 → J k = I k) → mm_Ev mm_T0 X (d + 9) 195 2 [.ref 91, .int (nI M), .int (nI i)] [] J (mm_pv P) := by
  have tm := tM
  intro n
  induction n with
  | zero =>
    intro i J hi H hf
    have e : i = M := by omega
    subst e
    refine ev_ild2 k195_2 ?_
    refine ev_ild1 k195_3 ?_
    refine ev_jcmp_ge k195_4 (fun h4 => ?_) (fun h4 => absurd h4 (nI_nlt (Nat.le_refl _) (by omega)))
    refine ev_rv k195_17 rfl ?_
    exact hQ _ H hf
  | succ n ih =>
    intro i J hi H hf
    have hlt : i < M := by omega
    refine ev_ild2 k195_2 ?_
    refine ev_ild1 k195_3 ?_
    refine ev_jcmp_ge k195_4 (fun h4 => absurd (nI_lt hlt (by omega)) h4) (fun h4 => ?_)
    refine ev_ald0 k195_7 ?_
    refine ev_cV1v k195_8 cs_265 (by first | assumption | rfl) (by omega) (Nat.le_of_ble_eq_true rfl) rfl rfl rfl ?_
    refine sm_sitM H (fun K HK hK => ?_)
    refine ev_inc2 k195_11 rfl ?_
    refine ev_goto k195_14 ?_
    rw [nI_1]
    exact ih (i + 1) K (by omega) HK (fun k a b c => (hK k a b c).trans (hf k a b c))
/-- Model.goesOn -/
theorem sm_goesOn {X : Nat × (Nat → Int32)} {d : Nat} {I : mm_I} {N : mm_I} {nc np M : Nat} {P : mm_I → Prop} (hM : M ≤ 60) (H : HS N (I 92) nc np) (hQ : ∀ K, HS (itS N nc np M) (K 92) nc np → (∀ k, k ≠ 92 → k ≠ 98 → k ≠ 99 → K k = I k) → P K) : mm_Ev mm_T0 X (d + 9) 195 0 (mm_ent 195 [.ref 91, .int (nI M)]) [] I (mm_pv P) := by
  show mm_Ev mm_T0 X (d + 9) 195 0 [.ref 91, .int (nI M), .retAddr 0] [] I (mm_pv P)
  refine ev_iconst k195_0 ?_
  refine ev_ist2 k195_1 rfl ?_
  exact lm_goesOn hM hQ M 0 I (by omega) H (fun _ _ _ _ => rfl)
def cpA (I : mm_I) (a b i : Nat) : mm_I := mm_rp I b (fun j => if j < i then I a j else I b j)
theorem cpA_0 (I : mm_I) (a b : Nat) : cpA I a b 0 = I := by
  funext k
  by_cases h : k = b
  · subst h; simp [cpA, mm_rp]
  · simp [cpA, mm_rp, h]
theorem cpA_s (I : mm_I) {a b : Nat} (hab : a ≠ b) (i : Nat) : mm_up (cpA I a b i) b i (cpA I a b i a i) = cpA I a b (i + 1) := by
  have e : cpA I a b i a = I a := mm_rp_ne _ _ _ hab
  rw [e]
  funext k j
  by_cases h : k = b
  · subst h
    by_cases hj : j = i
    · subst hj; simp [mm_up_at, cpA, mm_rp]
    · have h3 : (j < i + 1) = (j < i) := by apply propext; omega
      simp [mm_up_at, cpA, mm_rp, hj, h3]
  · simp [mm_up_at, cpA, mm_rp, h]
theorem lm_copyAll {X : Nat × (Nat → Int32)} {d : Nat} {I : mm_I} {a b : Nat} {P : mm_I → Prop} (ta : mm_T0[a]? = some (aC 321)) (tb : mm_T0[b]? = some (aC 321)) (ha : a < 1000) (hab : a ≠ b) (hQ : P (cpA I a b 321))  : ∀ (n i : Nat) , i + n = 321 → True → mm_Ev mm_T0 X (d) 140 2 [.ref a, .ref b, .int (nI i)] [] (cpA I a b i) (mm_pv P) := by
  intro n
  induction n with
  | zero =>
    intro i hi _
    have e : i = 321 := by omega
    subst e
    refine ev_ild2 k140_2 ?_
    refine ev_sipush k140_3 ?_
    rw [show (321 : Int32) = nI 321 from rfl]
    refine ev_jcmp_ge k140_6 (fun h6 => ?_) (fun h6 => absurd h6 (nI_nlt (Nat.le_refl _) (by omega)))
    refine ev_rv k140_21 rfl ?_
    exact hQ
  | succ n ih =>
    intro i hi _
    have hlt : i < 321 := by omega
    refine ev_ild2 k140_2 ?_
    refine ev_sipush k140_3 ?_
    rw [show (321 : Int32) = nI 321 from rfl]
    refine ev_jcmp_ge k140_6 (fun h6 => absurd (nI_lt hlt (by omega)) h6) (fun h6 => ?_)
    refine ev_ald1 k140_9 ?_
    refine ev_ild2 k140_10 ?_
    refine ev_ald0 k140_11 ?_
    refine ev_ild2 k140_12 ?_
    refine ev_ial (j := i) k140_13 (by first | assumption | rfl) (by omega) (nI_clamp (by omega)) (vp_in_nI (show i < 321 by omega) (by omega)) ?_
    refine ev_ias (j := i) k140_14 (by first | assumption | rfl) (nI_clamp (by omega)) (vp_in_nI (show i < 321 by omega) (by omega)) ?_
    refine ev_inc2 k140_15 rfl ?_
    refine ev_goto k140_18 ?_
    rw [nI_1, cpA_s I hab]
    exact ih (i + 1) (by omega) trivial
/-- Model.copyAll -/
theorem sm_copyAll {X : Nat × (Nat → Int32)} {d : Nat} {I : mm_I} {a b : Nat} {P : mm_I → Prop} (ta : mm_T0[a]? = some (aC 321)) (tb : mm_T0[b]? = some (aC 321)) (ha : a < 1000) (hab : a ≠ b) (hQ : P (cpA I a b 321))  : mm_Ev mm_T0 X (d) 140 0 (mm_ent 140 [.ref a, .ref b]) [] I (mm_pv P) := by
  show mm_Ev mm_T0 X (d) 140 0 [.ref a, .ref b, .retAddr 0] [] I (mm_pv P)
  refine ev_iconst k140_0 ?_
  refine ev_ist2 k140_1 rfl ?_
  rw [← cpA_0 I a b]
  exact lm_copyAll ta tb ha hab hQ 321 0 rfl trivial
/-- Model.thinks -/
theorem sm_thinks {X : Nat × (Nat → Int32)} {d : Nat} {I : mm_I} {P : mm_I → Prop} (hQ : P (cpA I 92 94 321))  : mm_Ev mm_T0 X (d + 1) 199 0 (mm_ent 199 [.ref 91]) [] I (mm_pv P) := by
  show mm_Ev mm_T0 X (d + 1) 199 0 [.ref 91] [] I (mm_pv P)
  have tm := tM
  have tr := tR
  refine ev_ald0 k199_0 ?_
  refine ev_getr k199_1 (by first | assumption | rfl) rfl rfl rfl ?_
  refine ev_ald0 k199_4 ?_
  refine ev_getr k199_5 (by first | assumption | rfl) rfl rfl rfl ?_
  refine ev_cS2v k199_8 cs_268 rfl rfl rfl ?_
  refine sm_copyAll tR tR3 (by decide) (by decide) ?_
  refine ev_rv k199_11 rfl ?_
  exact hQ
/-- Model.putsBack -/
theorem sm_putsBack {X : Nat × (Nat → Int32)} {d : Nat} {I : mm_I} {P : mm_I → Prop} (hQ : P (cpA I 94 92 321))  : mm_Ev mm_T0 X (d + 1) 200 0 (mm_ent 200 [.ref 91]) [] I (mm_pv P) := by
  show mm_Ev mm_T0 X (d + 1) 200 0 [.ref 91] [] I (mm_pv P)
  have tm := tM
  have tr := tR
  refine ev_ald0 k200_0 ?_
  refine ev_getr k200_1 (by first | assumption | rfl) rfl rfl rfl ?_
  refine ev_ald0 k200_4 ?_
  refine ev_getr k200_5 (by first | assumption | rfl) rfl rfl rfl ?_
  refine ev_cS2v k200_8 cs_268 rfl rfl rfl ?_
  refine sm_copyAll tR3 tR (by decide) (by decide) ?_
  refine ev_rv k200_11 rfl ?_
  exact hQ
