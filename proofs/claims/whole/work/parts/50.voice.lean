/-! Voices: what is traced, the last first -/
def tcL (f : Nat → Int32) : List Int32 → Prop
  | [] => True
  | v :: r => f r.length = v ∧ tcL f r
theorem tcL_congr {f g : Nat → Int32} : ∀ (l : List Int32), (∀ j, j < l.length → g j = f j) → tcL f l → tcL g l
  | [], _, _ => trivial
  | v :: r, h, ht => ⟨(h r.length (by simp)).trans ht.1, tcL_congr r (fun j hj => h j (by simp; omega)) ht.2⟩
theorem tcL_eq {f g : Nat → Int32} : ∀ (l : List Int32), tcL f l → tcL g l → ∀ j, j < l.length → f j = g j
  | [], _, _ => fun j hj => absurd hj (by simp)
  | v :: r, h, h' => fun j hj => by
    by_cases e : j = r.length
    · rw [e, h.1, h'.1]
    · exact tcL_eq r h.2 h'.2 j (by simp at hj; omega)
def tcE (I K : mm_I) (l : List Int32) : Prop := (∀ k, k ≠ 1 → k ≠ 2 → K k = I k) ∧ K 1 1 = 32 ∧ K 1 2 = nI l.length ∧ tcL (K 2) l
def tmE (I K : mm_I) (l : List Int32) : Prop := (∀ k, k ≠ 91 → k ≠ 100 → K k = I k) ∧ (∀ j, j ≠ 15 → K 91 j = I 91 j) ∧ K 91 15 = nI l.length ∧ tcL (K 100) l
theorem sp_tadd {X : Nat × (Nat → Int32)} {d : Nat} {I K : mm_I} {l : List Int32} {v : Int32} {P : mm_I → Prop} (h : tcE I K l) (hl : l.length < 40) (hQ : ∀ K', tcE I K' (v :: l) → P K') : mm_Ev mm_T0 X (d + 1) 57 0 (mm_ent 57 [.ref 1, .int v]) [] K (mm_pv P) := by
  refine sp_add (n := l.length) t1r t2a (by decide) h.2.2.1 (by omega) (by decide) ?_
  rw [if_pos hl, h.2.1, cut32]
  refine hQ _ ⟨fun k a b => ?_, ?_, ?_, ?_, ?_⟩
  · rw [mm_up_ne _ _ _ _ _ a, mm_up_ne _ _ _ _ _ b]; exact h.1 k a b
  · rw [mm_up_at, if_neg (by omega), mm_up_ne _ _ _ _ _ (by decide)]; exact h.2.1
  · rw [mm_up_at, if_pos ⟨rfl, rfl⟩]; rfl
  · rw [mm_up_ne _ _ _ _ _ (by decide), mm_up_at, if_pos ⟨rfl, rfl⟩]
  · refine tcL_congr l (fun j hj => ?_) h.2.2.2
    rw [mm_up_ne _ _ _ _ _ (by decide), mm_up_at, if_neg (by omega)]
theorem Inv_tr {I K L : mm_I} {l : List Int32} (inv : Inv I) (h : tcE I K l) (h' : tmE K L l) (hl : l.length ≤ 40) : Inv L := by
  obtain ⟨⟨nc, np, hs⟩, im, er, tr, sh, cs⟩ := inv
  have g : ∀ k, k ≠ 1 → k ≠ 2 → k ≠ 91 → k ≠ 100 → L k = I k := fun k a b c e => (h'.1 k c e).trans (h.1 k a b)
  have g91 : ∀ j, j ≠ 15 → L 91 j = I 91 j := fun j hj => (h'.2.1 j hj).trans (by rw [h.1 91 (by decide) (by decide)])
  refine ⟨⟨nc, np, HS_congr (fun k hk _ _ _ => g _ (by omega) (by omega) (by omega) (by omega)) (fun j _ => by rw [g 92 (by decide) (by decide) (by decide) (by decide)]) hs⟩, ⟨?_, ?_⟩, ?_, ⟨l.length, hl, ?_, ?_, h'.2.2.1, fun j hj => ?_⟩, fun s hs4 => ?_, ?_⟩
  · rw [g 0 (by decide) (by decide) (by decide) (by decide), g91 3 (by decide)]; exact im.1
  · rw [g 0 (by decide) (by decide) (by decide) (by decide)]
    exact im.2.imp id (fun ⟨a, b, q⟩ => ⟨a, b, HS_congr (fun k hk _ _ _ => g _ (by omega) (by omega) (by omega) (by omega)) (fun j _ => by rw [g 93 (by decide) (by decide) (by decide) (by decide)]) q⟩)
  · unfold erR
    rw [g 90 (by decide) (by decide) (by decide) (by decide), g 95 (by decide) (by decide) (by decide) (by decide)]; exact er
  · rw [h'.1 1 (by decide) (by decide)]; exact h.2.1
  · rw [h'.1 1 (by decide) (by decide)]; exact h.2.2.1
  · rw [h'.1 2 (by decide) (by decide)]
    exact tcL_eq l h.2.2.2 h'.2.2.2 j hj
  · rw [g (80 + 2 * s) (by omega) (by omega) (by omega) (by omega), g (81 + 2 * s) (by omega) (by omega) (by omega) (by omega), g 101 (by decide) (by decide) (by decide) (by decide), g 102 (by decide) (by decide) (by decide) (by decide), g 103 (by decide) (by decide) (by decide) (by decide)]
    exact sh s hs4
  · unfold csR
    rw [g 75 (by decide) (by decide) (by decide) (by decide), g 88 (by decide) (by decide) (by decide) (by decide), g (32 + 9) (by decide) (by decide) (by decide) (by decide), g (32 + 13) (by decide) (by decide) (by decide) (by decide), g (53 + 9) (by decide) (by decide) (by decide) (by decide), g (53 + 13) (by decide) (by decide) (by decide) (by decide)]; exact cs
/-- Model.begins -/
theorem sm_begins {X : Nat × (Nat → Int32)} {d : Nat} {I : mm_I} {J : mm_I} {l : List Int32} {v : Int32} {P : mm_I → Prop} (h : tmE J I l) (hl : l.length < 40) (hQ : ∀ K, tmE J K (v :: l) → P K) : mm_Ev mm_T0 X (d) 216 0 (mm_ent 216 [.ref 91, .int v]) [] I (mm_pv P) := by
  show mm_Ev mm_T0 X (d) 216 0 [.ref 91, .int v] [] I (mm_pv P)
  have tm := tM
  have tr := tR
  have th := t100
  refine ev_ald0 k216_0 ?_
  refine ev_gfv (j := 15) k216_1 (by first | assumption | rfl) rfl rfl rfl rfl h.2.2.1 ?_
  refine ev_bipush k216_4 ?_
  refine ev_jcmp_ge k216_6 (fun h6 => absurd (nI_lt (show l.length < 40 from hl) (by omega)) h6) (fun h6 => ?_)
  refine ev_ald0 k216_9 ?_
  refine ev_getr k216_10 (by first | assumption | rfl) rfl rfl rfl ?_
  refine ev_ald0 k216_13 ?_
  refine ev_gfv (j := 15) k216_14 (by first | assumption | rfl) rfl rfl rfl rfl h.2.2.1 ?_
  refine ev_ild1 k216_17 ?_
  refine ev_ias (j := l.length) k216_18 (by first | assumption | rfl) (nI_clamp (by omega)) (vp_in_nI hl (by omega)) ?_
  refine ev_ald0 k216_19 ?_
  refine ev_dup k216_20 rfl ?_
  refine ev_gfv (j := 15) k216_21 (by first | assumption | rfl) rfl rfl rfl rfl (show _ = nI l.length from by rw [mm_up_ne _ _ _ _ _ (by decide)]; exact h.2.2.1) ?_
  refine ev_iconst k216_24 ?_
  refine ev_iadd k216_25 ?_
  refine ev_pf (j := 15) k216_26 (by first | assumption | rfl) rfl rfl rfl ?_
  refine ev_rv k216_29 rfl ?_
  refine hQ _ ⟨fun k a b => ?_, fun j hj => ?_, ?_, ?_, ?_⟩
  · rw [mm_up_ne _ _ _ _ _ a, mm_up_ne _ _ _ _ _ b]; exact h.1 k a b
  · rw [mm_up_at, if_neg (fun z => hj z.2), mm_up_ne _ _ _ _ _ (by decide)]; exact h.2.1 j hj
  · rw [mm_up_at, if_pos ⟨rfl, rfl⟩, nI_1]; rfl
  · rw [mm_up_ne _ _ _ _ _ (by decide), mm_up_at, if_pos ⟨rfl, rfl⟩]
  · refine tcL_congr l (fun j hj => ?_) h.2.2.2
    rw [mm_up_ne _ _ _ _ _ (by decide), mm_up_at, if_neg (by omega)]
/-- Chair.saysVoice -/
theorem vc_Chair_saysVoice_0 {X : Nat × (Nat → Int32)} {d : Nat} {I : mm_I} {J : mm_I} {l : List Int32} {n m x : Int32} {P : Int32 → mm_I → Prop} (h0 : tcE J I l) (hl : l.length + 1 ≤ 40) (hQ : ∀ K, tcE J K (10 :: l) → P (x + n) K) : mm_Ev mm_T0 X (d + 2) 7 0 (mm_ent 7 [.ref 4, .int n, .int m, .int x]) [] I (mm_pi P) := by
  show mm_Ev mm_T0 X (d + 2) 7 0 [.ref 4, .int n, .int m, .int x] [] I (mm_pi P)
  refine ev_ald0 k7_0 ?_
  refine ev_getr k7_1 (by first | assumption | rfl) rfl rfl rfl ?_
  refine ev_bipush k7_4 ?_
  refine ev_cV2v k7_6 cs_87 (by first | assumption | rfl) (by omega) (Nat.le_of_ble_eq_true rfl) rfl rfl rfl ?_
  refine sp_tadd h0 (by (try simp only [List.length_cons]); omega) (fun K1 h1 => ?_)
  refine ev_ild3 k7_9 ?_
  refine ev_ild1 k7_10 ?_
  refine ev_iadd k7_11 ?_
  refine ev_ri k7_12 rfl ?_
  exact hQ _ h1
/-- Chair.weighsVoice -/
theorem vc_Chair_weighsVoice_0 {X : Nat × (Nat → Int32)} {d : Nat} {I : mm_I} {J : mm_I} {l : List Int32} {n m x : Int32} {P : Int32 → mm_I → Prop} (h0 : tcE J I l) (hl : l.length + 2 ≤ 40) (hQ : ∀ K, tcE J K (10 :: 11 :: l) → P ((x + n) * 2) K) : mm_Ev mm_T0 X (d + 3) 8 0 (mm_ent 8 [.ref 4, .int n, .int m, .int x]) [] I (mm_pi P) := by
  show mm_Ev mm_T0 X (d + 3) 8 0 [.ref 4, .int n, .int m, .int x] [] I (mm_pi P)
  refine ev_ald0 k8_0 ?_
  refine ev_getr k8_1 (by first | assumption | rfl) rfl rfl rfl ?_
  refine ev_bipush k8_4 ?_
  refine ev_cV2v k8_6 cs_87 (by first | assumption | rfl) (by omega) (Nat.le_of_ble_eq_true rfl) rfl rfl rfl ?_
  refine sp_tadd h0 (by (try simp only [List.length_cons]); omega) (fun K1 h1 => ?_)
  refine ev_ald0 k8_9 ?_
  refine ev_ild1 k8_10 ?_
  refine ev_ild2 k8_11 ?_
  refine ev_ild3 k8_12 ?_
  refine ev_cV4i k8_13 cs_88 (by first | assumption | rfl) (by omega) (Nat.le_of_ble_eq_true rfl) rfl rfl rfl ?_
  refine vc_Chair_saysVoice_0 h1 (by (try simp only [List.length_cons]); omega) (fun K2 h2 => ?_)
  refine ev_iconst k8_16 ?_
  refine ev_imul k8_17 ?_
  refine ev_ri k8_18 rfl ?_
  exact hQ _ h2
/-- Chair.creaksVoice -/
theorem vc_Chair_creaksVoice_0 {X : Nat × (Nat → Int32)} {d : Nat} {I : mm_I} {J : mm_I} {l : List Int32} {n m x : Int32} {P : Int32 → mm_I → Prop} (h0 : tcE J I l) (hl : l.length + 1 ≤ 40) (hQ : ∀ K, tcE J K (12 :: l) → P (x - m) K) : mm_Ev mm_T0 X (d + 2) 9 0 (mm_ent 9 [.ref 4, .int n, .int m, .int x]) [] I (mm_pi P) := by
  show mm_Ev mm_T0 X (d + 2) 9 0 [.ref 4, .int n, .int m, .int x] [] I (mm_pi P)
  refine ev_ald0 k9_0 ?_
  refine ev_getr k9_1 (by first | assumption | rfl) rfl rfl rfl ?_
  refine ev_bipush k9_4 ?_
  refine ev_cV2v k9_6 cs_87 (by first | assumption | rfl) (by omega) (Nat.le_of_ble_eq_true rfl) rfl rfl rfl ?_
  refine sp_tadd h0 (by (try simp only [List.length_cons]); omega) (fun K1 h1 => ?_)
  refine ev_ild3 k9_9 ?_
  refine ev_ild2 k9_10 ?_
  refine ev_isub k9_11 ?_
  refine ev_ri k9_12 rfl ?_
  exact hQ _ h1
/-- Chair.tellsVoice -/
theorem vc_Chair_tellsVoice_0 {X : Nat × (Nat → Int32)} {d : Nat} {I : mm_I} {J : mm_I} {l : List Int32} {n m x : Int32} {P : Int32 → mm_I → Prop} (h0 : tcE J I l) (hl : l.length + 4 ≤ 40) (hQ : ∀ K, tcE J K (12 :: 10 :: 11 :: 13 :: l) → P (((x + n) * 2) ^^^ (x - m)) K) : mm_Ev mm_T0 X (d + 4) 10 0 (mm_ent 10 [.ref 4, .int n, .int m, .int x]) [] I (mm_pi P) := by
  show mm_Ev mm_T0 X (d + 4) 10 0 [.ref 4, .int n, .int m, .int x] [] I (mm_pi P)
  refine ev_ald0 k10_0 ?_
  refine ev_getr k10_1 (by first | assumption | rfl) rfl rfl rfl ?_
  refine ev_bipush k10_4 ?_
  refine ev_cV2v k10_6 cs_87 (by first | assumption | rfl) (by omega) (Nat.le_of_ble_eq_true rfl) rfl rfl rfl ?_
  refine sp_tadd h0 (by (try simp only [List.length_cons]); omega) (fun K1 h1 => ?_)
  refine ev_ald0 k10_9 ?_
  refine ev_ild1 k10_10 ?_
  refine ev_ild2 k10_11 ?_
  refine ev_ild3 k10_12 ?_
  refine ev_cV4i k10_13 cs_89 (by first | assumption | rfl) (by omega) (Nat.le_of_ble_eq_true rfl) rfl rfl rfl ?_
  refine vc_Chair_weighsVoice_0 h1 (by (try simp only [List.length_cons]); omega) (fun K2 h2 => ?_)
  refine ev_ald0 k10_16 ?_
  refine ev_ild1 k10_17 ?_
  refine ev_ild2 k10_18 ?_
  refine ev_ild3 k10_19 ?_
  refine ev_cV4i k10_20 cs_90 (by first | assumption | rfl) (by omega) (Nat.le_of_ble_eq_true rfl) rfl rfl rfl ?_
  refine vc_Chair_creaksVoice_0 h2 (by (try simp only [List.length_cons]); omega) (fun K3 h3 => ?_)
  refine ev_ixor k10_23 ?_
  refine ev_ri k10_24 rfl ?_
  exact hQ _ h3
/-- Chair.saysVoice -/
theorem vc_Chair_saysVoice_1 {X : Nat × (Nat → Int32)} {d : Nat} {I : mm_I} {J : mm_I} {l : List Int32} {n m x : Int32} {P : Int32 → mm_I → Prop} (h0 : tcE J I l) (hl : l.length + 1 ≤ 40) (hQ : ∀ K, tcE J K (10 :: l) → P (x + n) K) : mm_Ev mm_T0 X (d + 2) 7 0 (mm_ent 7 [.ref 5, .int n, .int m, .int x]) [] I (mm_pi P) := by
  show mm_Ev mm_T0 X (d + 2) 7 0 [.ref 5, .int n, .int m, .int x] [] I (mm_pi P)
  refine ev_ald0 k7_0 ?_
  refine ev_getr k7_1 (by first | assumption | rfl) rfl rfl rfl ?_
  refine ev_bipush k7_4 ?_
  refine ev_cV2v k7_6 cs_87 (by first | assumption | rfl) (by omega) (Nat.le_of_ble_eq_true rfl) rfl rfl rfl ?_
  refine sp_tadd h0 (by (try simp only [List.length_cons]); omega) (fun K1 h1 => ?_)
  refine ev_ild3 k7_9 ?_
  refine ev_ild1 k7_10 ?_
  refine ev_iadd k7_11 ?_
  refine ev_ri k7_12 rfl ?_
  exact hQ _ h1
/-- Wet.saysVoice -/
theorem vc_Wet_saysVoice_1 {X : Nat × (Nat → Int32)} {d : Nat} {I : mm_I} {J : mm_I} {l : List Int32} {n m x : Int32} {P : Int32 → mm_I → Prop} (h0 : tcE J I l) (hl : l.length + 2 ≤ 40) (hQ : ∀ K, tcE J K (10 :: 20 :: l) → P ((x + n) * 3) K) : mm_Ev mm_T0 X (d + 3) 74 0 (mm_ent 74 [.ref 5, .int n, .int m, .int x]) [] I (mm_pi P) := by
  show mm_Ev mm_T0 X (d + 3) 74 0 [.ref 5, .int n, .int m, .int x] [] I (mm_pi P)
  refine ev_ald0 k74_0 ?_
  refine ev_getr k74_1 (by first | assumption | rfl) rfl rfl rfl ?_
  refine ev_bipush k74_4 ?_
  refine ev_cV2v k74_6 cs_160 (by first | assumption | rfl) (by omega) (Nat.le_of_ble_eq_true rfl) rfl rfl rfl ?_
  refine sp_tadd h0 (by (try simp only [List.length_cons]); omega) (fun K1 h1 => ?_)
  refine ev_ald0 k74_9 ?_
  refine ev_ild1 k74_10 ?_
  refine ev_ild2 k74_11 ?_
  refine ev_ild3 k74_12 ?_
  refine ev_cP4i k74_13 cs_161 (by first | assumption | rfl) (by omega) (Nat.le_of_ble_eq_true rfl) rfl rfl rfl ?_
  refine vc_Chair_saysVoice_1 h1 (by (try simp only [List.length_cons]); omega) (fun K2 h2 => ?_)
  refine ev_iconst k74_16 ?_
  refine ev_imul k74_17 ?_
  refine ev_ri k74_18 rfl ?_
  exact hQ _ h2
/-- Chair.weighsVoice -/
theorem vc_Chair_weighsVoice_1 {X : Nat × (Nat → Int32)} {d : Nat} {I : mm_I} {J : mm_I} {l : List Int32} {n m x : Int32} {P : Int32 → mm_I → Prop} (h0 : tcE J I l) (hl : l.length + 3 ≤ 40) (hQ : ∀ K, tcE J K (10 :: 20 :: 11 :: l) → P (((x + n) * 3) * 2) K) : mm_Ev mm_T0 X (d + 4) 8 0 (mm_ent 8 [.ref 5, .int n, .int m, .int x]) [] I (mm_pi P) := by
  show mm_Ev mm_T0 X (d + 4) 8 0 [.ref 5, .int n, .int m, .int x] [] I (mm_pi P)
  refine ev_ald0 k8_0 ?_
  refine ev_getr k8_1 (by first | assumption | rfl) rfl rfl rfl ?_
  refine ev_bipush k8_4 ?_
  refine ev_cV2v k8_6 cs_87 (by first | assumption | rfl) (by omega) (Nat.le_of_ble_eq_true rfl) rfl rfl rfl ?_
  refine sp_tadd h0 (by (try simp only [List.length_cons]); omega) (fun K1 h1 => ?_)
  refine ev_ald0 k8_9 ?_
  refine ev_ild1 k8_10 ?_
  refine ev_ild2 k8_11 ?_
  refine ev_ild3 k8_12 ?_
  refine ev_cV4i k8_13 cs_88 (by first | assumption | rfl) (by omega) (Nat.le_of_ble_eq_true rfl) rfl rfl rfl ?_
  refine vc_Wet_saysVoice_1 h1 (by (try simp only [List.length_cons]); omega) (fun K2 h2 => ?_)
  refine ev_iconst k8_16 ?_
  refine ev_imul k8_17 ?_
  refine ev_ri k8_18 rfl ?_
  exact hQ _ h2
/-- Chair.creaksVoice -/
theorem vc_Chair_creaksVoice_1 {X : Nat × (Nat → Int32)} {d : Nat} {I : mm_I} {J : mm_I} {l : List Int32} {n m x : Int32} {P : Int32 → mm_I → Prop} (h0 : tcE J I l) (hl : l.length + 1 ≤ 40) (hQ : ∀ K, tcE J K (12 :: l) → P (x - m) K) : mm_Ev mm_T0 X (d + 2) 9 0 (mm_ent 9 [.ref 5, .int n, .int m, .int x]) [] I (mm_pi P) := by
  show mm_Ev mm_T0 X (d + 2) 9 0 [.ref 5, .int n, .int m, .int x] [] I (mm_pi P)
  refine ev_ald0 k9_0 ?_
  refine ev_getr k9_1 (by first | assumption | rfl) rfl rfl rfl ?_
  refine ev_bipush k9_4 ?_
  refine ev_cV2v k9_6 cs_87 (by first | assumption | rfl) (by omega) (Nat.le_of_ble_eq_true rfl) rfl rfl rfl ?_
  refine sp_tadd h0 (by (try simp only [List.length_cons]); omega) (fun K1 h1 => ?_)
  refine ev_ild3 k9_9 ?_
  refine ev_ild2 k9_10 ?_
  refine ev_isub k9_11 ?_
  refine ev_ri k9_12 rfl ?_
  exact hQ _ h1
/-- Chair.tellsVoice -/
theorem vc_Chair_tellsVoice_1 {X : Nat × (Nat → Int32)} {d : Nat} {I : mm_I} {J : mm_I} {l : List Int32} {n m x : Int32} {P : Int32 → mm_I → Prop} (h0 : tcE J I l) (hl : l.length + 5 ≤ 40) (hQ : ∀ K, tcE J K (12 :: 10 :: 20 :: 11 :: 13 :: l) → P ((((x + n) * 3) * 2) ^^^ (x - m)) K) : mm_Ev mm_T0 X (d + 5) 10 0 (mm_ent 10 [.ref 5, .int n, .int m, .int x]) [] I (mm_pi P) := by
  show mm_Ev mm_T0 X (d + 5) 10 0 [.ref 5, .int n, .int m, .int x] [] I (mm_pi P)
  refine ev_ald0 k10_0 ?_
  refine ev_getr k10_1 (by first | assumption | rfl) rfl rfl rfl ?_
  refine ev_bipush k10_4 ?_
  refine ev_cV2v k10_6 cs_87 (by first | assumption | rfl) (by omega) (Nat.le_of_ble_eq_true rfl) rfl rfl rfl ?_
  refine sp_tadd h0 (by (try simp only [List.length_cons]); omega) (fun K1 h1 => ?_)
  refine ev_ald0 k10_9 ?_
  refine ev_ild1 k10_10 ?_
  refine ev_ild2 k10_11 ?_
  refine ev_ild3 k10_12 ?_
  refine ev_cV4i k10_13 cs_89 (by first | assumption | rfl) (by omega) (Nat.le_of_ble_eq_true rfl) rfl rfl rfl ?_
  refine vc_Chair_weighsVoice_1 h1 (by (try simp only [List.length_cons]); omega) (fun K2 h2 => ?_)
  refine ev_ald0 k10_16 ?_
  refine ev_ild1 k10_17 ?_
  refine ev_ild2 k10_18 ?_
  refine ev_ild3 k10_19 ?_
  refine ev_cV4i k10_20 cs_90 (by first | assumption | rfl) (by omega) (Nat.le_of_ble_eq_true rfl) rfl rfl rfl ?_
  refine vc_Chair_creaksVoice_1 h2 (by (try simp only [List.length_cons]); omega) (fun K3 h3 => ?_)
  refine ev_ixor k10_23 ?_
  refine ev_ri k10_24 rfl ?_
  exact hQ _ h3
/-- Chair.saysVoice -/
theorem vc_Chair_saysVoice_2 {X : Nat × (Nat → Int32)} {d : Nat} {I : mm_I} {J : mm_I} {l : List Int32} {n m x : Int32} {P : Int32 → mm_I → Prop} (h0 : tcE J I l) (hl : l.length + 1 ≤ 40) (hQ : ∀ K, tcE J K (10 :: l) → P (x + n) K) : mm_Ev mm_T0 X (d + 2) 7 0 (mm_ent 7 [.ref 6, .int n, .int m, .int x]) [] I (mm_pi P) := by
  show mm_Ev mm_T0 X (d + 2) 7 0 [.ref 6, .int n, .int m, .int x] [] I (mm_pi P)
  refine ev_ald0 k7_0 ?_
  refine ev_getr k7_1 (by first | assumption | rfl) rfl rfl rfl ?_
  refine ev_bipush k7_4 ?_
  refine ev_cV2v k7_6 cs_87 (by first | assumption | rfl) (by omega) (Nat.le_of_ble_eq_true rfl) rfl rfl rfl ?_
  refine sp_tadd h0 (by (try simp only [List.length_cons]); omega) (fun K1 h1 => ?_)
  refine ev_ild3 k7_9 ?_
  refine ev_ild1 k7_10 ?_
  refine ev_iadd k7_11 ?_
  refine ev_ri k7_12 rfl ?_
  exact hQ _ h1
/-- Chair.weighsVoice -/
theorem vc_Chair_weighsVoice_2 {X : Nat × (Nat → Int32)} {d : Nat} {I : mm_I} {J : mm_I} {l : List Int32} {n m x : Int32} {P : Int32 → mm_I → Prop} (h0 : tcE J I l) (hl : l.length + 2 ≤ 40) (hQ : ∀ K, tcE J K (10 :: 11 :: l) → P ((x + n) * 2) K) : mm_Ev mm_T0 X (d + 3) 8 0 (mm_ent 8 [.ref 6, .int n, .int m, .int x]) [] I (mm_pi P) := by
  show mm_Ev mm_T0 X (d + 3) 8 0 [.ref 6, .int n, .int m, .int x] [] I (mm_pi P)
  refine ev_ald0 k8_0 ?_
  refine ev_getr k8_1 (by first | assumption | rfl) rfl rfl rfl ?_
  refine ev_bipush k8_4 ?_
  refine ev_cV2v k8_6 cs_87 (by first | assumption | rfl) (by omega) (Nat.le_of_ble_eq_true rfl) rfl rfl rfl ?_
  refine sp_tadd h0 (by (try simp only [List.length_cons]); omega) (fun K1 h1 => ?_)
  refine ev_ald0 k8_9 ?_
  refine ev_ild1 k8_10 ?_
  refine ev_ild2 k8_11 ?_
  refine ev_ild3 k8_12 ?_
  refine ev_cV4i k8_13 cs_88 (by first | assumption | rfl) (by omega) (Nat.le_of_ble_eq_true rfl) rfl rfl rfl ?_
  refine vc_Chair_saysVoice_2 h1 (by (try simp only [List.length_cons]); omega) (fun K2 h2 => ?_)
  refine ev_iconst k8_16 ?_
  refine ev_imul k8_17 ?_
  refine ev_ri k8_18 rfl ?_
  exact hQ _ h2
/-- Chair.creaksVoice -/
theorem vc_Chair_creaksVoice_2 {X : Nat × (Nat → Int32)} {d : Nat} {I : mm_I} {J : mm_I} {l : List Int32} {n m x : Int32} {P : Int32 → mm_I → Prop} (h0 : tcE J I l) (hl : l.length + 1 ≤ 40) (hQ : ∀ K, tcE J K (12 :: l) → P (x - m) K) : mm_Ev mm_T0 X (d + 2) 9 0 (mm_ent 9 [.ref 6, .int n, .int m, .int x]) [] I (mm_pi P) := by
  show mm_Ev mm_T0 X (d + 2) 9 0 [.ref 6, .int n, .int m, .int x] [] I (mm_pi P)
  refine ev_ald0 k9_0 ?_
  refine ev_getr k9_1 (by first | assumption | rfl) rfl rfl rfl ?_
  refine ev_bipush k9_4 ?_
  refine ev_cV2v k9_6 cs_87 (by first | assumption | rfl) (by omega) (Nat.le_of_ble_eq_true rfl) rfl rfl rfl ?_
  refine sp_tadd h0 (by (try simp only [List.length_cons]); omega) (fun K1 h1 => ?_)
  refine ev_ild3 k9_9 ?_
  refine ev_ild2 k9_10 ?_
  refine ev_isub k9_11 ?_
  refine ev_ri k9_12 rfl ?_
  exact hQ _ h1
/-- Glued.weighsVoice -/
theorem vc_Glued_weighsVoice_2 {X : Nat × (Nat → Int32)} {d : Nat} {I : mm_I} {J : mm_I} {l : List Int32} {n m x : Int32} {P : Int32 → mm_I → Prop} (h0 : tcE J I l) (hl : l.length + 4 ≤ 40) (hQ : ∀ K, tcE J K (12 :: 10 :: 11 :: 30 :: l) → P (((x + n) * 2) - (1 - m)) K) : mm_Ev mm_T0 X (d + 4) 18 0 (mm_ent 18 [.ref 6, .int n, .int m, .int x]) [] I (mm_pi P) := by
  show mm_Ev mm_T0 X (d + 4) 18 0 [.ref 6, .int n, .int m, .int x] [] I (mm_pi P)
  refine ev_ald0 k18_0 ?_
  refine ev_getr k18_1 (by first | assumption | rfl) rfl rfl rfl ?_
  refine ev_bipush k18_4 ?_
  refine ev_cV2v k18_6 cs_102 (by first | assumption | rfl) (by omega) (Nat.le_of_ble_eq_true rfl) rfl rfl rfl ?_
  refine sp_tadd h0 (by (try simp only [List.length_cons]); omega) (fun K1 h1 => ?_)
  refine ev_ald0 k18_9 ?_
  refine ev_ild1 k18_10 ?_
  refine ev_ild2 k18_11 ?_
  refine ev_ild3 k18_12 ?_
  refine ev_cP4i k18_13 cs_103 (by first | assumption | rfl) (by omega) (Nat.le_of_ble_eq_true rfl) rfl rfl rfl ?_
  refine vc_Chair_weighsVoice_2 h1 (by (try simp only [List.length_cons]); omega) (fun K2 h2 => ?_)
  refine ev_ald0 k18_16 ?_
  refine ev_ild1 k18_17 ?_
  refine ev_ild2 k18_18 ?_
  refine ev_iconst k18_19 ?_
  refine ev_cV4i k18_20 cs_104 (by first | assumption | rfl) (by omega) (Nat.le_of_ble_eq_true rfl) rfl rfl rfl ?_
  refine vc_Chair_creaksVoice_2 h2 (by (try simp only [List.length_cons]); omega) (fun K3 h3 => ?_)
  refine ev_isub k18_23 ?_
  refine ev_ri k18_24 rfl ?_
  exact hQ _ h3
/-- Chair.tellsVoice -/
theorem vc_Chair_tellsVoice_2 {X : Nat × (Nat → Int32)} {d : Nat} {I : mm_I} {J : mm_I} {l : List Int32} {n m x : Int32} {P : Int32 → mm_I → Prop} (h0 : tcE J I l) (hl : l.length + 6 ≤ 40) (hQ : ∀ K, tcE J K (12 :: 12 :: 10 :: 11 :: 30 :: 13 :: l) → P ((((x + n) * 2) - (1 - m)) ^^^ (x - m)) K) : mm_Ev mm_T0 X (d + 5) 10 0 (mm_ent 10 [.ref 6, .int n, .int m, .int x]) [] I (mm_pi P) := by
  show mm_Ev mm_T0 X (d + 5) 10 0 [.ref 6, .int n, .int m, .int x] [] I (mm_pi P)
  refine ev_ald0 k10_0 ?_
  refine ev_getr k10_1 (by first | assumption | rfl) rfl rfl rfl ?_
  refine ev_bipush k10_4 ?_
  refine ev_cV2v k10_6 cs_87 (by first | assumption | rfl) (by omega) (Nat.le_of_ble_eq_true rfl) rfl rfl rfl ?_
  refine sp_tadd h0 (by (try simp only [List.length_cons]); omega) (fun K1 h1 => ?_)
  refine ev_ald0 k10_9 ?_
  refine ev_ild1 k10_10 ?_
  refine ev_ild2 k10_11 ?_
  refine ev_ild3 k10_12 ?_
  refine ev_cV4i k10_13 cs_89 (by first | assumption | rfl) (by omega) (Nat.le_of_ble_eq_true rfl) rfl rfl rfl ?_
  refine vc_Glued_weighsVoice_2 h1 (by (try simp only [List.length_cons]); omega) (fun K2 h2 => ?_)
  refine ev_ald0 k10_16 ?_
  refine ev_ild1 k10_17 ?_
  refine ev_ild2 k10_18 ?_
  refine ev_ild3 k10_19 ?_
  refine ev_cV4i k10_20 cs_90 (by first | assumption | rfl) (by omega) (Nat.le_of_ble_eq_true rfl) rfl rfl rfl ?_
  refine vc_Chair_creaksVoice_2 h2 (by (try simp only [List.length_cons]); omega) (fun K3 h3 => ?_)
  refine ev_ixor k10_23 ?_
  refine ev_ri k10_24 rfl ?_
  exact hQ _ h3
/-- Chair.saysVoice -/
theorem vc_Chair_saysVoice_3 {X : Nat × (Nat → Int32)} {d : Nat} {I : mm_I} {J : mm_I} {l : List Int32} {n m x : Int32} {P : Int32 → mm_I → Prop} (h0 : tcE J I l) (hl : l.length + 1 ≤ 40) (hQ : ∀ K, tcE J K (10 :: l) → P (x + n) K) : mm_Ev mm_T0 X (d + 2) 7 0 (mm_ent 7 [.ref 7, .int n, .int m, .int x]) [] I (mm_pi P) := by
  show mm_Ev mm_T0 X (d + 2) 7 0 [.ref 7, .int n, .int m, .int x] [] I (mm_pi P)
  refine ev_ald0 k7_0 ?_
  refine ev_getr k7_1 (by first | assumption | rfl) rfl rfl rfl ?_
  refine ev_bipush k7_4 ?_
  refine ev_cV2v k7_6 cs_87 (by first | assumption | rfl) (by omega) (Nat.le_of_ble_eq_true rfl) rfl rfl rfl ?_
  refine sp_tadd h0 (by (try simp only [List.length_cons]); omega) (fun K1 h1 => ?_)
  refine ev_ild3 k7_9 ?_
  refine ev_ild1 k7_10 ?_
  refine ev_iadd k7_11 ?_
  refine ev_ri k7_12 rfl ?_
  exact hQ _ h1
/-- Chair.weighsVoice -/
theorem vc_Chair_weighsVoice_3 {X : Nat × (Nat → Int32)} {d : Nat} {I : mm_I} {J : mm_I} {l : List Int32} {n m x : Int32} {P : Int32 → mm_I → Prop} (h0 : tcE J I l) (hl : l.length + 2 ≤ 40) (hQ : ∀ K, tcE J K (10 :: 11 :: l) → P ((x + n) * 2) K) : mm_Ev mm_T0 X (d + 3) 8 0 (mm_ent 8 [.ref 7, .int n, .int m, .int x]) [] I (mm_pi P) := by
  show mm_Ev mm_T0 X (d + 3) 8 0 [.ref 7, .int n, .int m, .int x] [] I (mm_pi P)
  refine ev_ald0 k8_0 ?_
  refine ev_getr k8_1 (by first | assumption | rfl) rfl rfl rfl ?_
  refine ev_bipush k8_4 ?_
  refine ev_cV2v k8_6 cs_87 (by first | assumption | rfl) (by omega) (Nat.le_of_ble_eq_true rfl) rfl rfl rfl ?_
  refine sp_tadd h0 (by (try simp only [List.length_cons]); omega) (fun K1 h1 => ?_)
  refine ev_ald0 k8_9 ?_
  refine ev_ild1 k8_10 ?_
  refine ev_ild2 k8_11 ?_
  refine ev_ild3 k8_12 ?_
  refine ev_cV4i k8_13 cs_88 (by first | assumption | rfl) (by omega) (Nat.le_of_ble_eq_true rfl) rfl rfl rfl ?_
  refine vc_Chair_saysVoice_3 h1 (by (try simp only [List.length_cons]); omega) (fun K2 h2 => ?_)
  refine ev_iconst k8_16 ?_
  refine ev_imul k8_17 ?_
  refine ev_ri k8_18 rfl ?_
  exact hQ _ h2
/-- Chair.creaksVoice -/
theorem vc_Chair_creaksVoice_3 {X : Nat × (Nat → Int32)} {d : Nat} {I : mm_I} {J : mm_I} {l : List Int32} {n m x : Int32} {P : Int32 → mm_I → Prop} (h0 : tcE J I l) (hl : l.length + 1 ≤ 40) (hQ : ∀ K, tcE J K (12 :: l) → P (x - m) K) : mm_Ev mm_T0 X (d + 2) 9 0 (mm_ent 9 [.ref 7, .int n, .int m, .int x]) [] I (mm_pi P) := by
  show mm_Ev mm_T0 X (d + 2) 9 0 [.ref 7, .int n, .int m, .int x] [] I (mm_pi P)
  refine ev_ald0 k9_0 ?_
  refine ev_getr k9_1 (by first | assumption | rfl) rfl rfl rfl ?_
  refine ev_bipush k9_4 ?_
  refine ev_cV2v k9_6 cs_87 (by first | assumption | rfl) (by omega) (Nat.le_of_ble_eq_true rfl) rfl rfl rfl ?_
  refine sp_tadd h0 (by (try simp only [List.length_cons]); omega) (fun K1 h1 => ?_)
  refine ev_ild3 k9_9 ?_
  refine ev_ild2 k9_10 ?_
  refine ev_isub k9_11 ?_
  refine ev_ri k9_12 rfl ?_
  exact hQ _ h1
/-- Repaired.creaksVoice -/
theorem vc_Repaired_creaksVoice_3 {X : Nat × (Nat → Int32)} {d : Nat} {I : mm_I} {J : mm_I} {l : List Int32} {n m x : Int32} {P : Int32 → mm_I → Prop} (h0 : tcE J I l) (hl : l.length + 2 ≤ 40) (hQ : ∀ K, tcE J K (12 :: 40 :: l) → P (-(x - m)) K) : mm_Ev mm_T0 X (d + 3) 51 0 (mm_ent 51 [.ref 7, .int n, .int m, .int x]) [] I (mm_pi P) := by
  show mm_Ev mm_T0 X (d + 3) 51 0 [.ref 7, .int n, .int m, .int x] [] I (mm_pi P)
  refine ev_ald0 k51_0 ?_
  refine ev_getr k51_1 (by first | assumption | rfl) rfl rfl rfl ?_
  refine ev_bipush k51_4 ?_
  refine ev_cV2v k51_6 cs_141 (by first | assumption | rfl) (by omega) (Nat.le_of_ble_eq_true rfl) rfl rfl rfl ?_
  refine sp_tadd h0 (by (try simp only [List.length_cons]); omega) (fun K1 h1 => ?_)
  refine ev_ald0 k51_9 ?_
  refine ev_ild1 k51_10 ?_
  refine ev_ild2 k51_11 ?_
  refine ev_ild3 k51_12 ?_
  refine ev_cP4i k51_13 cs_142 (by first | assumption | rfl) (by omega) (Nat.le_of_ble_eq_true rfl) rfl rfl rfl ?_
  refine vc_Chair_creaksVoice_3 h1 (by (try simp only [List.length_cons]); omega) (fun K2 h2 => ?_)
  refine ev_ineg k51_16 ?_
  refine ev_ri k51_17 rfl ?_
  exact hQ _ h2
/-- Chair.tellsVoice -/
theorem vc_Chair_tellsVoice_3 {X : Nat × (Nat → Int32)} {d : Nat} {I : mm_I} {J : mm_I} {l : List Int32} {n m x : Int32} {P : Int32 → mm_I → Prop} (h0 : tcE J I l) (hl : l.length + 5 ≤ 40) (hQ : ∀ K, tcE J K (12 :: 40 :: 10 :: 11 :: 13 :: l) → P (((x + n) * 2) ^^^ (-(x - m))) K) : mm_Ev mm_T0 X (d + 4) 10 0 (mm_ent 10 [.ref 7, .int n, .int m, .int x]) [] I (mm_pi P) := by
  show mm_Ev mm_T0 X (d + 4) 10 0 [.ref 7, .int n, .int m, .int x] [] I (mm_pi P)
  refine ev_ald0 k10_0 ?_
  refine ev_getr k10_1 (by first | assumption | rfl) rfl rfl rfl ?_
  refine ev_bipush k10_4 ?_
  refine ev_cV2v k10_6 cs_87 (by first | assumption | rfl) (by omega) (Nat.le_of_ble_eq_true rfl) rfl rfl rfl ?_
  refine sp_tadd h0 (by (try simp only [List.length_cons]); omega) (fun K1 h1 => ?_)
  refine ev_ald0 k10_9 ?_
  refine ev_ild1 k10_10 ?_
  refine ev_ild2 k10_11 ?_
  refine ev_ild3 k10_12 ?_
  refine ev_cV4i k10_13 cs_89 (by first | assumption | rfl) (by omega) (Nat.le_of_ble_eq_true rfl) rfl rfl rfl ?_
  refine vc_Chair_weighsVoice_3 h1 (by (try simp only [List.length_cons]); omega) (fun K2 h2 => ?_)
  refine ev_ald0 k10_16 ?_
  refine ev_ild1 k10_17 ?_
  refine ev_ild2 k10_18 ?_
  refine ev_ild3 k10_19 ?_
  refine ev_cV4i k10_20 cs_90 (by first | assumption | rfl) (by omega) (Nat.le_of_ble_eq_true rfl) rfl rfl rfl ?_
  refine vc_Repaired_creaksVoice_3 h2 (by (try simp only [List.length_cons]); omega) (fun K3 h3 => ?_)
  refine ev_ixor k10_23 ?_
  refine ev_ri k10_24 rfl ?_
  exact hQ _ h3
/-- Chair.saysVoice -/
theorem vc_Chair_saysVoice_4 {X : Nat × (Nat → Int32)} {d : Nat} {I : mm_I} {J : mm_I} {l : List Int32} {n m x : Int32} {P : Int32 → mm_I → Prop} (h0 : tcE J I l) (hl : l.length + 1 ≤ 40) (hQ : ∀ K, tcE J K (10 :: l) → P (x + n) K) : mm_Ev mm_T0 X (d + 2) 7 0 (mm_ent 7 [.ref 8, .int n, .int m, .int x]) [] I (mm_pi P) := by
  show mm_Ev mm_T0 X (d + 2) 7 0 [.ref 8, .int n, .int m, .int x] [] I (mm_pi P)
  refine ev_ald0 k7_0 ?_
  refine ev_getr k7_1 (by first | assumption | rfl) rfl rfl rfl ?_
  refine ev_bipush k7_4 ?_
  refine ev_cV2v k7_6 cs_87 (by first | assumption | rfl) (by omega) (Nat.le_of_ble_eq_true rfl) rfl rfl rfl ?_
  refine sp_tadd h0 (by (try simp only [List.length_cons]); omega) (fun K1 h1 => ?_)
  refine ev_ild3 k7_9 ?_
  refine ev_ild1 k7_10 ?_
  refine ev_iadd k7_11 ?_
  refine ev_ri k7_12 rfl ?_
  exact hQ _ h1
/-- Wet.saysVoice -/
theorem vc_Wet_saysVoice_4 {X : Nat × (Nat → Int32)} {d : Nat} {I : mm_I} {J : mm_I} {l : List Int32} {n m x : Int32} {P : Int32 → mm_I → Prop} (h0 : tcE J I l) (hl : l.length + 2 ≤ 40) (hQ : ∀ K, tcE J K (10 :: 20 :: l) → P ((x + n) * 3) K) : mm_Ev mm_T0 X (d + 3) 74 0 (mm_ent 74 [.ref 8, .int n, .int m, .int x]) [] I (mm_pi P) := by
  show mm_Ev mm_T0 X (d + 3) 74 0 [.ref 8, .int n, .int m, .int x] [] I (mm_pi P)
  refine ev_ald0 k74_0 ?_
  refine ev_getr k74_1 (by first | assumption | rfl) rfl rfl rfl ?_
  refine ev_bipush k74_4 ?_
  refine ev_cV2v k74_6 cs_160 (by first | assumption | rfl) (by omega) (Nat.le_of_ble_eq_true rfl) rfl rfl rfl ?_
  refine sp_tadd h0 (by (try simp only [List.length_cons]); omega) (fun K1 h1 => ?_)
  refine ev_ald0 k74_9 ?_
  refine ev_ild1 k74_10 ?_
  refine ev_ild2 k74_11 ?_
  refine ev_ild3 k74_12 ?_
  refine ev_cP4i k74_13 cs_161 (by first | assumption | rfl) (by omega) (Nat.le_of_ble_eq_true rfl) rfl rfl rfl ?_
  refine vc_Chair_saysVoice_4 h1 (by (try simp only [List.length_cons]); omega) (fun K2 h2 => ?_)
  refine ev_iconst k74_16 ?_
  refine ev_imul k74_17 ?_
  refine ev_ri k74_18 rfl ?_
  exact hQ _ h2
/-- Chair.weighsVoice -/
theorem vc_Chair_weighsVoice_4 {X : Nat × (Nat → Int32)} {d : Nat} {I : mm_I} {J : mm_I} {l : List Int32} {n m x : Int32} {P : Int32 → mm_I → Prop} (h0 : tcE J I l) (hl : l.length + 3 ≤ 40) (hQ : ∀ K, tcE J K (10 :: 20 :: 11 :: l) → P (((x + n) * 3) * 2) K) : mm_Ev mm_T0 X (d + 4) 8 0 (mm_ent 8 [.ref 8, .int n, .int m, .int x]) [] I (mm_pi P) := by
  show mm_Ev mm_T0 X (d + 4) 8 0 [.ref 8, .int n, .int m, .int x] [] I (mm_pi P)
  refine ev_ald0 k8_0 ?_
  refine ev_getr k8_1 (by first | assumption | rfl) rfl rfl rfl ?_
  refine ev_bipush k8_4 ?_
  refine ev_cV2v k8_6 cs_87 (by first | assumption | rfl) (by omega) (Nat.le_of_ble_eq_true rfl) rfl rfl rfl ?_
  refine sp_tadd h0 (by (try simp only [List.length_cons]); omega) (fun K1 h1 => ?_)
  refine ev_ald0 k8_9 ?_
  refine ev_ild1 k8_10 ?_
  refine ev_ild2 k8_11 ?_
  refine ev_ild3 k8_12 ?_
  refine ev_cV4i k8_13 cs_88 (by first | assumption | rfl) (by omega) (Nat.le_of_ble_eq_true rfl) rfl rfl rfl ?_
  refine vc_Wet_saysVoice_4 h1 (by (try simp only [List.length_cons]); omega) (fun K2 h2 => ?_)
  refine ev_iconst k8_16 ?_
  refine ev_imul k8_17 ?_
  refine ev_ri k8_18 rfl ?_
  exact hQ _ h2
/-- Chair.creaksVoice -/
theorem vc_Chair_creaksVoice_4 {X : Nat × (Nat → Int32)} {d : Nat} {I : mm_I} {J : mm_I} {l : List Int32} {n m x : Int32} {P : Int32 → mm_I → Prop} (h0 : tcE J I l) (hl : l.length + 1 ≤ 40) (hQ : ∀ K, tcE J K (12 :: l) → P (x - m) K) : mm_Ev mm_T0 X (d + 2) 9 0 (mm_ent 9 [.ref 8, .int n, .int m, .int x]) [] I (mm_pi P) := by
  show mm_Ev mm_T0 X (d + 2) 9 0 [.ref 8, .int n, .int m, .int x] [] I (mm_pi P)
  refine ev_ald0 k9_0 ?_
  refine ev_getr k9_1 (by first | assumption | rfl) rfl rfl rfl ?_
  refine ev_bipush k9_4 ?_
  refine ev_cV2v k9_6 cs_87 (by first | assumption | rfl) (by omega) (Nat.le_of_ble_eq_true rfl) rfl rfl rfl ?_
  refine sp_tadd h0 (by (try simp only [List.length_cons]); omega) (fun K1 h1 => ?_)
  refine ev_ild3 k9_9 ?_
  refine ev_ild2 k9_10 ?_
  refine ev_isub k9_11 ?_
  refine ev_ri k9_12 rfl ?_
  exact hQ _ h1
/-- Chair.tellsVoice -/
theorem vc_Chair_tellsVoice_4 {X : Nat × (Nat → Int32)} {d : Nat} {I : mm_I} {J : mm_I} {l : List Int32} {n m x : Int32} {P : Int32 → mm_I → Prop} (h0 : tcE J I l) (hl : l.length + 5 ≤ 40) (hQ : ∀ K, tcE J K (12 :: 10 :: 20 :: 11 :: 13 :: l) → P ((((x + n) * 3) * 2) ^^^ (x - m)) K) : mm_Ev mm_T0 X (d + 5) 10 0 (mm_ent 10 [.ref 8, .int n, .int m, .int x]) [] I (mm_pi P) := by
  show mm_Ev mm_T0 X (d + 5) 10 0 [.ref 8, .int n, .int m, .int x] [] I (mm_pi P)
  refine ev_ald0 k10_0 ?_
  refine ev_getr k10_1 (by first | assumption | rfl) rfl rfl rfl ?_
  refine ev_bipush k10_4 ?_
  refine ev_cV2v k10_6 cs_87 (by first | assumption | rfl) (by omega) (Nat.le_of_ble_eq_true rfl) rfl rfl rfl ?_
  refine sp_tadd h0 (by (try simp only [List.length_cons]); omega) (fun K1 h1 => ?_)
  refine ev_ald0 k10_9 ?_
  refine ev_ild1 k10_10 ?_
  refine ev_ild2 k10_11 ?_
  refine ev_ild3 k10_12 ?_
  refine ev_cV4i k10_13 cs_89 (by first | assumption | rfl) (by omega) (Nat.le_of_ble_eq_true rfl) rfl rfl rfl ?_
  refine vc_Chair_weighsVoice_4 h1 (by (try simp only [List.length_cons]); omega) (fun K2 h2 => ?_)
  refine ev_ald0 k10_16 ?_
  refine ev_ild1 k10_17 ?_
  refine ev_ild2 k10_18 ?_
  refine ev_ild3 k10_19 ?_
  refine ev_cV4i k10_20 cs_90 (by first | assumption | rfl) (by omega) (Nat.le_of_ble_eq_true rfl) rfl rfl rfl ?_
  refine vc_Chair_creaksVoice_4 h2 (by (try simp only [List.length_cons]); omega) (fun K3 h3 => ?_)
  refine ev_ixor k10_23 ?_
  refine ev_ri k10_24 rfl ?_
  exact hQ _ h3
/-- Soaked.tellsVoice -/
theorem vc_Soaked_tellsVoice_4 {X : Nat × (Nat → Int32)} {d : Nat} {I : mm_I} {J : mm_I} {l : List Int32} {n m x : Int32} {P : Int32 → mm_I → Prop} (h0 : tcE J I l) (hl : l.length + 8 ≤ 40) (hQ : ∀ K, tcE J K (10 :: 20 :: 12 :: 10 :: 20 :: 11 :: 13 :: 50 :: l) → P (((((x + n) * 3) * 2) ^^^ (x - m)) - ((2 + n) * 3)) K) : mm_Ev mm_T0 X (d + 6) 66 0 (mm_ent 66 [.ref 8, .int n, .int m, .int x]) [] I (mm_pi P) := by
  show mm_Ev mm_T0 X (d + 6) 66 0 [.ref 8, .int n, .int m, .int x] [] I (mm_pi P)
  refine ev_ald0 k66_0 ?_
  refine ev_getr k66_1 (by first | assumption | rfl) rfl rfl rfl ?_
  refine ev_bipush k66_4 ?_
  refine ev_cV2v k66_6 cs_149 (by first | assumption | rfl) (by omega) (Nat.le_of_ble_eq_true rfl) rfl rfl rfl ?_
  refine sp_tadd h0 (by (try simp only [List.length_cons]); omega) (fun K1 h1 => ?_)
  refine ev_ald0 k66_9 ?_
  refine ev_ild1 k66_10 ?_
  refine ev_ild2 k66_11 ?_
  refine ev_ild3 k66_12 ?_
  refine ev_cP4i k66_13 cs_150 (by first | assumption | rfl) (by omega) (Nat.le_of_ble_eq_true rfl) rfl rfl rfl ?_
  refine vc_Chair_tellsVoice_4 h1 (by (try simp only [List.length_cons]); omega) (fun K2 h2 => ?_)
  refine ev_ald0 k66_16 ?_
  refine ev_ild1 k66_17 ?_
  refine ev_ild2 k66_18 ?_
  refine ev_iconst k66_19 ?_
  refine ev_cV4i k66_20 cs_151 (by first | assumption | rfl) (by omega) (Nat.le_of_ble_eq_true rfl) rfl rfl rfl ?_
  refine vc_Wet_saysVoice_4 h2 (by (try simp only [List.length_cons]); omega) (fun K3 h3 => ?_)
  refine ev_isub k66_23 ?_
  refine ev_ri k66_24 rfl ?_
  exact hQ _ h3
/-- Chair.saysVoice -/
theorem vc_Chair_saysVoice_5 {X : Nat × (Nat → Int32)} {d : Nat} {I : mm_I} {J : mm_I} {l : List Int32} {n m x : Int32} {P : Int32 → mm_I → Prop} (h0 : tcE J I l) (hl : l.length + 1 ≤ 40) (hQ : ∀ K, tcE J K (10 :: l) → P (x + n) K) : mm_Ev mm_T0 X (d + 2) 7 0 (mm_ent 7 [.ref 9, .int n, .int m, .int x]) [] I (mm_pi P) := by
  show mm_Ev mm_T0 X (d + 2) 7 0 [.ref 9, .int n, .int m, .int x] [] I (mm_pi P)
  refine ev_ald0 k7_0 ?_
  refine ev_getr k7_1 (by first | assumption | rfl) rfl rfl rfl ?_
  refine ev_bipush k7_4 ?_
  refine ev_cV2v k7_6 cs_87 (by first | assumption | rfl) (by omega) (Nat.le_of_ble_eq_true rfl) rfl rfl rfl ?_
  refine sp_tadd h0 (by (try simp only [List.length_cons]); omega) (fun K1 h1 => ?_)
  refine ev_ild3 k7_9 ?_
  refine ev_ild1 k7_10 ?_
  refine ev_iadd k7_11 ?_
  refine ev_ri k7_12 rfl ?_
  exact hQ _ h1
/-- Chair.weighsVoice -/
theorem vc_Chair_weighsVoice_5 {X : Nat × (Nat → Int32)} {d : Nat} {I : mm_I} {J : mm_I} {l : List Int32} {n m x : Int32} {P : Int32 → mm_I → Prop} (h0 : tcE J I l) (hl : l.length + 2 ≤ 40) (hQ : ∀ K, tcE J K (10 :: 11 :: l) → P ((x + n) * 2) K) : mm_Ev mm_T0 X (d + 3) 8 0 (mm_ent 8 [.ref 9, .int n, .int m, .int x]) [] I (mm_pi P) := by
  show mm_Ev mm_T0 X (d + 3) 8 0 [.ref 9, .int n, .int m, .int x] [] I (mm_pi P)
  refine ev_ald0 k8_0 ?_
  refine ev_getr k8_1 (by first | assumption | rfl) rfl rfl rfl ?_
  refine ev_bipush k8_4 ?_
  refine ev_cV2v k8_6 cs_87 (by first | assumption | rfl) (by omega) (Nat.le_of_ble_eq_true rfl) rfl rfl rfl ?_
  refine sp_tadd h0 (by (try simp only [List.length_cons]); omega) (fun K1 h1 => ?_)
  refine ev_ald0 k8_9 ?_
  refine ev_ild1 k8_10 ?_
  refine ev_ild2 k8_11 ?_
  refine ev_ild3 k8_12 ?_
  refine ev_cV4i k8_13 cs_88 (by first | assumption | rfl) (by omega) (Nat.le_of_ble_eq_true rfl) rfl rfl rfl ?_
  refine vc_Chair_saysVoice_5 h1 (by (try simp only [List.length_cons]); omega) (fun K2 h2 => ?_)
  refine ev_iconst k8_16 ?_
  refine ev_imul k8_17 ?_
  refine ev_ri k8_18 rfl ?_
  exact hQ _ h2
/-- Chair.creaksVoice -/
theorem vc_Chair_creaksVoice_5 {X : Nat × (Nat → Int32)} {d : Nat} {I : mm_I} {J : mm_I} {l : List Int32} {n m x : Int32} {P : Int32 → mm_I → Prop} (h0 : tcE J I l) (hl : l.length + 1 ≤ 40) (hQ : ∀ K, tcE J K (12 :: l) → P (x - m) K) : mm_Ev mm_T0 X (d + 2) 9 0 (mm_ent 9 [.ref 9, .int n, .int m, .int x]) [] I (mm_pi P) := by
  show mm_Ev mm_T0 X (d + 2) 9 0 [.ref 9, .int n, .int m, .int x] [] I (mm_pi P)
  refine ev_ald0 k9_0 ?_
  refine ev_getr k9_1 (by first | assumption | rfl) rfl rfl rfl ?_
  refine ev_bipush k9_4 ?_
  refine ev_cV2v k9_6 cs_87 (by first | assumption | rfl) (by omega) (Nat.le_of_ble_eq_true rfl) rfl rfl rfl ?_
  refine sp_tadd h0 (by (try simp only [List.length_cons]); omega) (fun K1 h1 => ?_)
  refine ev_ild3 k9_9 ?_
  refine ev_ild2 k9_10 ?_
  refine ev_isub k9_11 ?_
  refine ev_ri k9_12 rfl ?_
  exact hQ _ h1
/-- Glued.weighsVoice -/
theorem vc_Glued_weighsVoice_5 {X : Nat × (Nat → Int32)} {d : Nat} {I : mm_I} {J : mm_I} {l : List Int32} {n m x : Int32} {P : Int32 → mm_I → Prop} (h0 : tcE J I l) (hl : l.length + 4 ≤ 40) (hQ : ∀ K, tcE J K (12 :: 10 :: 11 :: 30 :: l) → P (((x + n) * 2) - (1 - m)) K) : mm_Ev mm_T0 X (d + 4) 18 0 (mm_ent 18 [.ref 9, .int n, .int m, .int x]) [] I (mm_pi P) := by
  show mm_Ev mm_T0 X (d + 4) 18 0 [.ref 9, .int n, .int m, .int x] [] I (mm_pi P)
  refine ev_ald0 k18_0 ?_
  refine ev_getr k18_1 (by first | assumption | rfl) rfl rfl rfl ?_
  refine ev_bipush k18_4 ?_
  refine ev_cV2v k18_6 cs_102 (by first | assumption | rfl) (by omega) (Nat.le_of_ble_eq_true rfl) rfl rfl rfl ?_
  refine sp_tadd h0 (by (try simp only [List.length_cons]); omega) (fun K1 h1 => ?_)
  refine ev_ald0 k18_9 ?_
  refine ev_ild1 k18_10 ?_
  refine ev_ild2 k18_11 ?_
  refine ev_ild3 k18_12 ?_
  refine ev_cP4i k18_13 cs_103 (by first | assumption | rfl) (by omega) (Nat.le_of_ble_eq_true rfl) rfl rfl rfl ?_
  refine vc_Chair_weighsVoice_5 h1 (by (try simp only [List.length_cons]); omega) (fun K2 h2 => ?_)
  refine ev_ald0 k18_16 ?_
  refine ev_ild1 k18_17 ?_
  refine ev_ild2 k18_18 ?_
  refine ev_iconst k18_19 ?_
  refine ev_cV4i k18_20 cs_104 (by first | assumption | rfl) (by omega) (Nat.le_of_ble_eq_true rfl) rfl rfl rfl ?_
  refine vc_Chair_creaksVoice_5 h2 (by (try simp only [List.length_cons]); omega) (fun K3 h3 => ?_)
  refine ev_isub k18_23 ?_
  refine ev_ri k18_24 rfl ?_
  exact hQ _ h3
/-- Bench.weighsVoice -/
theorem vc_Bench_weighsVoice_5 {X : Nat × (Nat → Int32)} {d : Nat} {I : mm_I} {J : mm_I} {l : List Int32} {n m x : Int32} {P : Int32 → mm_I → Prop} (h0 : tcE J I l) (hl : l.length + 5 ≤ 40) (hQ : ∀ K, tcE J K (12 :: 10 :: 11 :: 30 :: 60 :: l) → P ((((x + 1) + n) * 2) - (1 - m)) K) : mm_Ev mm_T0 X (d + 5) 3 0 (mm_ent 3 [.ref 9, .int n, .int m, .int x]) [] I (mm_pi P) := by
  show mm_Ev mm_T0 X (d + 5) 3 0 [.ref 9, .int n, .int m, .int x] [] I (mm_pi P)
  refine ev_ald0 k3_0 ?_
  refine ev_getr k3_1 (by first | assumption | rfl) rfl rfl rfl ?_
  refine ev_bipush k3_4 ?_
  refine ev_cV2v k3_6 cs_84 (by first | assumption | rfl) (by omega) (Nat.le_of_ble_eq_true rfl) rfl rfl rfl ?_
  refine sp_tadd h0 (by (try simp only [List.length_cons]); omega) (fun K1 h1 => ?_)
  refine ev_ald0 k3_9 ?_
  refine ev_ild1 k3_10 ?_
  refine ev_ild2 k3_11 ?_
  refine ev_ild3 k3_12 ?_
  refine ev_iconst k3_13 ?_
  refine ev_iadd k3_14 ?_
  refine ev_cP4i k3_15 cs_85 (by first | assumption | rfl) (by omega) (Nat.le_of_ble_eq_true rfl) rfl rfl rfl ?_
  refine vc_Glued_weighsVoice_5 h1 (by (try simp only [List.length_cons]); omega) (fun K2 h2 => ?_)
  refine ev_ri k3_18 rfl ?_
  exact hQ _ h2
/-- Chair.tellsVoice -/
theorem vc_Chair_tellsVoice_5 {X : Nat × (Nat → Int32)} {d : Nat} {I : mm_I} {J : mm_I} {l : List Int32} {n m x : Int32} {P : Int32 → mm_I → Prop} (h0 : tcE J I l) (hl : l.length + 7 ≤ 40) (hQ : ∀ K, tcE J K (12 :: 12 :: 10 :: 11 :: 30 :: 60 :: 13 :: l) → P (((((x + 1) + n) * 2) - (1 - m)) ^^^ (x - m)) K) : mm_Ev mm_T0 X (d + 6) 10 0 (mm_ent 10 [.ref 9, .int n, .int m, .int x]) [] I (mm_pi P) := by
  show mm_Ev mm_T0 X (d + 6) 10 0 [.ref 9, .int n, .int m, .int x] [] I (mm_pi P)
  refine ev_ald0 k10_0 ?_
  refine ev_getr k10_1 (by first | assumption | rfl) rfl rfl rfl ?_
  refine ev_bipush k10_4 ?_
  refine ev_cV2v k10_6 cs_87 (by first | assumption | rfl) (by omega) (Nat.le_of_ble_eq_true rfl) rfl rfl rfl ?_
  refine sp_tadd h0 (by (try simp only [List.length_cons]); omega) (fun K1 h1 => ?_)
  refine ev_ald0 k10_9 ?_
  refine ev_ild1 k10_10 ?_
  refine ev_ild2 k10_11 ?_
  refine ev_ild3 k10_12 ?_
  refine ev_cV4i k10_13 cs_89 (by first | assumption | rfl) (by omega) (Nat.le_of_ble_eq_true rfl) rfl rfl rfl ?_
  refine vc_Bench_weighsVoice_5 h1 (by (try simp only [List.length_cons]); omega) (fun K2 h2 => ?_)
  refine ev_ald0 k10_16 ?_
  refine ev_ild1 k10_17 ?_
  refine ev_ild2 k10_18 ?_
  refine ev_ild3 k10_19 ?_
  refine ev_cV4i k10_20 cs_90 (by first | assumption | rfl) (by omega) (Nat.le_of_ble_eq_true rfl) rfl rfl rfl ?_
  refine vc_Chair_creaksVoice_5 h2 (by (try simp only [List.length_cons]); omega) (fun K3 h3 => ?_)
  refine ev_ixor k10_23 ?_
  refine ev_ri k10_24 rfl ?_
  exact hQ _ h3
/-- Chair.saysVoice -/
theorem vc_Chair_saysVoice_6 {X : Nat × (Nat → Int32)} {d : Nat} {I : mm_I} {J : mm_I} {l : List Int32} {n m x : Int32} {P : Int32 → mm_I → Prop} (h0 : tcE J I l) (hl : l.length + 1 ≤ 40) (hQ : ∀ K, tcE J K (10 :: l) → P (x + n) K) : mm_Ev mm_T0 X (d + 2) 7 0 (mm_ent 7 [.ref 10, .int n, .int m, .int x]) [] I (mm_pi P) := by
  show mm_Ev mm_T0 X (d + 2) 7 0 [.ref 10, .int n, .int m, .int x] [] I (mm_pi P)
  refine ev_ald0 k7_0 ?_
  refine ev_getr k7_1 (by first | assumption | rfl) rfl rfl rfl ?_
  refine ev_bipush k7_4 ?_
  refine ev_cV2v k7_6 cs_87 (by first | assumption | rfl) (by omega) (Nat.le_of_ble_eq_true rfl) rfl rfl rfl ?_
  refine sp_tadd h0 (by (try simp only [List.length_cons]); omega) (fun K1 h1 => ?_)
  refine ev_ild3 k7_9 ?_
  refine ev_ild1 k7_10 ?_
  refine ev_iadd k7_11 ?_
  refine ev_ri k7_12 rfl ?_
  exact hQ _ h1
/-- Chair.weighsVoice -/
theorem vc_Chair_weighsVoice_6 {X : Nat × (Nat → Int32)} {d : Nat} {I : mm_I} {J : mm_I} {l : List Int32} {n m x : Int32} {P : Int32 → mm_I → Prop} (h0 : tcE J I l) (hl : l.length + 2 ≤ 40) (hQ : ∀ K, tcE J K (10 :: 11 :: l) → P ((x + n) * 2) K) : mm_Ev mm_T0 X (d + 3) 8 0 (mm_ent 8 [.ref 10, .int n, .int m, .int x]) [] I (mm_pi P) := by
  show mm_Ev mm_T0 X (d + 3) 8 0 [.ref 10, .int n, .int m, .int x] [] I (mm_pi P)
  refine ev_ald0 k8_0 ?_
  refine ev_getr k8_1 (by first | assumption | rfl) rfl rfl rfl ?_
  refine ev_bipush k8_4 ?_
  refine ev_cV2v k8_6 cs_87 (by first | assumption | rfl) (by omega) (Nat.le_of_ble_eq_true rfl) rfl rfl rfl ?_
  refine sp_tadd h0 (by (try simp only [List.length_cons]); omega) (fun K1 h1 => ?_)
  refine ev_ald0 k8_9 ?_
  refine ev_ild1 k8_10 ?_
  refine ev_ild2 k8_11 ?_
  refine ev_ild3 k8_12 ?_
  refine ev_cV4i k8_13 cs_88 (by first | assumption | rfl) (by omega) (Nat.le_of_ble_eq_true rfl) rfl rfl rfl ?_
  refine vc_Chair_saysVoice_6 h1 (by (try simp only [List.length_cons]); omega) (fun K2 h2 => ?_)
  refine ev_iconst k8_16 ?_
  refine ev_imul k8_17 ?_
  refine ev_ri k8_18 rfl ?_
  exact hQ _ h2
/-- Chair.creaksVoice -/
theorem vc_Chair_creaksVoice_6 {X : Nat × (Nat → Int32)} {d : Nat} {I : mm_I} {J : mm_I} {l : List Int32} {n m x : Int32} {P : Int32 → mm_I → Prop} (h0 : tcE J I l) (hl : l.length + 1 ≤ 40) (hQ : ∀ K, tcE J K (12 :: l) → P (x - m) K) : mm_Ev mm_T0 X (d + 2) 9 0 (mm_ent 9 [.ref 10, .int n, .int m, .int x]) [] I (mm_pi P) := by
  show mm_Ev mm_T0 X (d + 2) 9 0 [.ref 10, .int n, .int m, .int x] [] I (mm_pi P)
  refine ev_ald0 k9_0 ?_
  refine ev_getr k9_1 (by first | assumption | rfl) rfl rfl rfl ?_
  refine ev_bipush k9_4 ?_
  refine ev_cV2v k9_6 cs_87 (by first | assumption | rfl) (by omega) (Nat.le_of_ble_eq_true rfl) rfl rfl rfl ?_
  refine sp_tadd h0 (by (try simp only [List.length_cons]); omega) (fun K1 h1 => ?_)
  refine ev_ild3 k9_9 ?_
  refine ev_ild2 k9_10 ?_
  refine ev_isub k9_11 ?_
  refine ev_ri k9_12 rfl ?_
  exact hQ _ h1
/-- Repaired.creaksVoice -/
theorem vc_Repaired_creaksVoice_6 {X : Nat × (Nat → Int32)} {d : Nat} {I : mm_I} {J : mm_I} {l : List Int32} {n m x : Int32} {P : Int32 → mm_I → Prop} (h0 : tcE J I l) (hl : l.length + 2 ≤ 40) (hQ : ∀ K, tcE J K (12 :: 40 :: l) → P (-(x - m)) K) : mm_Ev mm_T0 X (d + 3) 51 0 (mm_ent 51 [.ref 10, .int n, .int m, .int x]) [] I (mm_pi P) := by
  show mm_Ev mm_T0 X (d + 3) 51 0 [.ref 10, .int n, .int m, .int x] [] I (mm_pi P)
  refine ev_ald0 k51_0 ?_
  refine ev_getr k51_1 (by first | assumption | rfl) rfl rfl rfl ?_
  refine ev_bipush k51_4 ?_
  refine ev_cV2v k51_6 cs_141 (by first | assumption | rfl) (by omega) (Nat.le_of_ble_eq_true rfl) rfl rfl rfl ?_
  refine sp_tadd h0 (by (try simp only [List.length_cons]); omega) (fun K1 h1 => ?_)
  refine ev_ald0 k51_9 ?_
  refine ev_ild1 k51_10 ?_
  refine ev_ild2 k51_11 ?_
  refine ev_ild3 k51_12 ?_
  refine ev_cP4i k51_13 cs_142 (by first | assumption | rfl) (by omega) (Nat.le_of_ble_eq_true rfl) rfl rfl rfl ?_
  refine vc_Chair_creaksVoice_6 h1 (by (try simp only [List.length_cons]); omega) (fun K2 h2 => ?_)
  refine ev_ineg k51_16 ?_
  refine ev_ri k51_17 rfl ?_
  exact hQ _ h2
/-- Crown.creaksVoice -/
theorem vc_Crown_creaksVoice_6 {X : Nat × (Nat → Int32)} {d : Nat} {I : mm_I} {J : mm_I} {l : List Int32} {n m x : Int32} {P : Int32 → mm_I → Prop} (h0 : tcE J I l) (hl : l.length + 3 ≤ 40) (hQ : ∀ K, tcE J K (12 :: 40 :: 70 :: l) → P ((-(x - m)) ^^^ n) K) : mm_Ev mm_T0 X (d + 4) 14 0 (mm_ent 14 [.ref 10, .int n, .int m, .int x]) [] I (mm_pi P) := by
  show mm_Ev mm_T0 X (d + 4) 14 0 [.ref 10, .int n, .int m, .int x] [] I (mm_pi P)
  refine ev_ald0 k14_0 ?_
  refine ev_getr k14_1 (by first | assumption | rfl) rfl rfl rfl ?_
  refine ev_bipush k14_4 ?_
  refine ev_cV2v k14_6 cs_94 (by first | assumption | rfl) (by omega) (Nat.le_of_ble_eq_true rfl) rfl rfl rfl ?_
  refine sp_tadd h0 (by (try simp only [List.length_cons]); omega) (fun K1 h1 => ?_)
  refine ev_ald0 k14_9 ?_
  refine ev_ild1 k14_10 ?_
  refine ev_ild2 k14_11 ?_
  refine ev_ild3 k14_12 ?_
  refine ev_cP4i k14_13 cs_95 (by first | assumption | rfl) (by omega) (Nat.le_of_ble_eq_true rfl) rfl rfl rfl ?_
  refine vc_Repaired_creaksVoice_6 h1 (by (try simp only [List.length_cons]); omega) (fun K2 h2 => ?_)
  refine ev_ild1 k14_16 ?_
  refine ev_ixor k14_17 ?_
  refine ev_ri k14_18 rfl ?_
  exact hQ _ h2
/-- Chair.tellsVoice -/
theorem vc_Chair_tellsVoice_6 {X : Nat × (Nat → Int32)} {d : Nat} {I : mm_I} {J : mm_I} {l : List Int32} {n m x : Int32} {P : Int32 → mm_I → Prop} (h0 : tcE J I l) (hl : l.length + 6 ≤ 40) (hQ : ∀ K, tcE J K (12 :: 40 :: 70 :: 10 :: 11 :: 13 :: l) → P (((x + n) * 2) ^^^ ((-(x - m)) ^^^ n)) K) : mm_Ev mm_T0 X (d + 5) 10 0 (mm_ent 10 [.ref 10, .int n, .int m, .int x]) [] I (mm_pi P) := by
  show mm_Ev mm_T0 X (d + 5) 10 0 [.ref 10, .int n, .int m, .int x] [] I (mm_pi P)
  refine ev_ald0 k10_0 ?_
  refine ev_getr k10_1 (by first | assumption | rfl) rfl rfl rfl ?_
  refine ev_bipush k10_4 ?_
  refine ev_cV2v k10_6 cs_87 (by first | assumption | rfl) (by omega) (Nat.le_of_ble_eq_true rfl) rfl rfl rfl ?_
  refine sp_tadd h0 (by (try simp only [List.length_cons]); omega) (fun K1 h1 => ?_)
  refine ev_ald0 k10_9 ?_
  refine ev_ild1 k10_10 ?_
  refine ev_ild2 k10_11 ?_
  refine ev_ild3 k10_12 ?_
  refine ev_cV4i k10_13 cs_89 (by first | assumption | rfl) (by omega) (Nat.le_of_ble_eq_true rfl) rfl rfl rfl ?_
  refine vc_Chair_weighsVoice_6 h1 (by (try simp only [List.length_cons]); omega) (fun K2 h2 => ?_)
  refine ev_ald0 k10_16 ?_
  refine ev_ild1 k10_17 ?_
  refine ev_ild2 k10_18 ?_
  refine ev_ild3 k10_19 ?_
  refine ev_cV4i k10_20 cs_90 (by first | assumption | rfl) (by omega) (Nat.le_of_ble_eq_true rfl) rfl rfl rfl ?_
  refine vc_Crown_creaksVoice_6 h2 (by (try simp only [List.length_cons]); omega) (fun K3 h3 => ?_)
  refine ev_ixor k10_23 ?_
  refine ev_ri k10_24 rfl ?_
  exact hQ _ h3
/-- Crown.tellsVoice -/
theorem vc_Crown_tellsVoice_6 {X : Nat × (Nat → Int32)} {d : Nat} {I : mm_I} {J : mm_I} {l : List Int32} {n m x : Int32} {P : Int32 → mm_I → Prop} (h0 : tcE J I l) (hl : l.length + 9 ≤ 40) (hQ : ∀ K, tcE J K (12 :: 40 :: 70 :: 10 :: 11 :: 13 :: 10 :: 11 :: 71 :: l) → P (((x + n) * 2) - (((x + n) * 2) ^^^ ((-(x - m)) ^^^ n))) K) : mm_Ev mm_T0 X (d + 6) 15 0 (mm_ent 15 [.ref 10, .int n, .int m, .int x]) [] I (mm_pi P) := by
  show mm_Ev mm_T0 X (d + 6) 15 0 [.ref 10, .int n, .int m, .int x] [] I (mm_pi P)
  refine ev_ald0 k15_0 ?_
  refine ev_getr k15_1 (by first | assumption | rfl) rfl rfl rfl ?_
  refine ev_bipush k15_4 ?_
  refine ev_cV2v k15_6 cs_94 (by first | assumption | rfl) (by omega) (Nat.le_of_ble_eq_true rfl) rfl rfl rfl ?_
  refine sp_tadd h0 (by (try simp only [List.length_cons]); omega) (fun K1 h1 => ?_)
  refine ev_ald0 k15_9 ?_
  refine ev_ild1 k15_10 ?_
  refine ev_ild2 k15_11 ?_
  refine ev_ild3 k15_12 ?_
  refine ev_cV4i k15_13 cs_96 (by first | assumption | rfl) (by omega) (Nat.le_of_ble_eq_true rfl) rfl rfl rfl ?_
  refine vc_Chair_weighsVoice_6 h1 (by (try simp only [List.length_cons]); omega) (fun K2 h2 => ?_)
  refine ev_ald0 k15_16 ?_
  refine ev_ild1 k15_17 ?_
  refine ev_ild2 k15_18 ?_
  refine ev_ild3 k15_19 ?_
  refine ev_cP4i k15_20 cs_97 (by first | assumption | rfl) (by omega) (Nat.le_of_ble_eq_true rfl) rfl rfl rfl ?_
  refine vc_Chair_tellsVoice_6 h2 (by (try simp only [List.length_cons]); omega) (fun K3 h3 => ?_)
  refine ev_isub k15_23 ?_
  refine ev_ri k15_24 rfl ?_
  exact hQ _ h3
/-- Model.plainSpeaks -/
theorem vm_Model_plainSpeaks_0 {X : Nat × (Nat → Int32)} {d : Nat} {I : mm_I} {J : mm_I} {l : List Int32} {c : Nat} {m x : Int32} {P : Int32 → mm_I → Prop} (hc : c < 6) (hk : J 92 (7 + 4 * c) = nI 0) (hm : J 92 (7 + 4 * c + 1) = m) (h0 : tmE J I l) (hl : l.length + 1 ≤ 40) (hQ : ∀ K, tmE J K (10 :: l) → P (x + nI c) K) : mm_Ev mm_T0 X (d + 2) 217 0 (mm_ent 217 [.ref 91, .int (nI c), .int x]) [] I (mm_pi P) := by
  show mm_Ev mm_T0 X (d + 2) 217 0 [.ref 91, .int (nI c), .int x] [] I (mm_pi P)
  have tm := tM
  have tr := tR
  refine ev_ald0 k217_0 ?_
  refine ev_bipush k217_1 ?_
  refine ev_cV2v k217_3 cs_277 (by first | assumption | rfl) (by omega) (Nat.le_of_ble_eq_true rfl) rfl rfl rfl ?_
  refine sm_begins h0 (by (try simp only [List.length_cons]); omega) (fun K1 h1 => ?_)
  refine ev_ild2 k217_6 ?_
  refine ev_ild1 k217_7 ?_
  refine ev_iadd k217_8 ?_
  refine ev_ri k217_9 rfl ?_
  exact hQ _ h1
/-- Model.speaks -/
theorem vm_Model_speaks_0 {X : Nat × (Nat → Int32)} {d : Nat} {I : mm_I} {J : mm_I} {l : List Int32} {c : Nat} {m x : Int32} {P : Int32 → mm_I → Prop} (hc : c < 6) (hk : J 92 (7 + 4 * c) = nI 0) (hm : J 92 (7 + 4 * c + 1) = m) (h0 : tmE J I l) (hl : l.length + 1 ≤ 40) (hQ : ∀ K, tmE J K (10 :: l) → P (x + nI c) K) : mm_Ev mm_T0 X (d + 3) 218 0 (mm_ent 218 [.ref 91, .int (nI c), .int x]) [] I (mm_pi P) := by
  show mm_Ev mm_T0 X (d + 3) 218 0 [.ref 91, .int (nI c), .int x, .retAddr 0] [] I (mm_pi P)
  have tm := tM
  have tr := tR
  refine ev_ald0 k218_0 ?_
  refine ev_ild1 k218_1 ?_
  refine ev_iconst k218_2 ?_
  refine ev_cV3i k218_3 cs_226 (by first | assumption | rfl) (by omega) (Nat.le_of_ble_eq_true rfl) rfl rfl rfl ?_
  refine sm_ofv (w := 0) hc (by decide) (show _ = nI 0 from by rw [h0.1 92 (by decide) (by decide)]; exact hk) ?_
  refine ev_ist3 k218_6 rfl ?_
  refine ev_ild3 k218_7 ?_
  refine ev_iconst k218_8 ?_
  refine ev_icmp_eq k218_9 (fun h9 => absurd h9 (show ¬ nI 0 = (1 : Int32) by decide)) (fun h9 => ?_)
  refine ev_ild3 k218_12 ?_
  refine ev_iconst k218_13 ?_
  refine ev_icmp_ne k218_14 (fun h14 => ?_) (fun h14 => absurd h14 (show ¬ nI 0 = (4 : Int32) by decide))
  refine ev_ald0 k218_32 ?_
  refine ev_ild1 k218_33 ?_
  refine ev_ild2 k218_34 ?_
  refine ev_cV3i k218_35 cs_278 (by first | assumption | rfl) (by omega) (Nat.le_of_ble_eq_true rfl) rfl rfl rfl ?_
  refine vm_Model_plainSpeaks_0 hc hk hm h0 (by (try simp only [List.length_cons]); omega) (fun K1 h1 => ?_)
  refine ev_ri k218_38 rfl ?_
  exact hQ _ h1
/-- Model.plainWeighs -/
theorem vm_Model_plainWeighs_0 {X : Nat × (Nat → Int32)} {d : Nat} {I : mm_I} {J : mm_I} {l : List Int32} {c : Nat} {m x : Int32} {P : Int32 → mm_I → Prop} (hc : c < 6) (hk : J 92 (7 + 4 * c) = nI 0) (hm : J 92 (7 + 4 * c + 1) = m) (h0 : tmE J I l) (hl : l.length + 2 ≤ 40) (hQ : ∀ K, tmE J K (10 :: 11 :: l) → P ((x + nI c) * 2) K) : mm_Ev mm_T0 X (d + 4) 219 0 (mm_ent 219 [.ref 91, .int (nI c), .int x]) [] I (mm_pi P) := by
  show mm_Ev mm_T0 X (d + 4) 219 0 [.ref 91, .int (nI c), .int x] [] I (mm_pi P)
  have tm := tM
  have tr := tR
  refine ev_ald0 k219_0 ?_
  refine ev_bipush k219_1 ?_
  refine ev_cV2v k219_3 cs_277 (by first | assumption | rfl) (by omega) (Nat.le_of_ble_eq_true rfl) rfl rfl rfl ?_
  refine sm_begins h0 (by (try simp only [List.length_cons]); omega) (fun K1 h1 => ?_)
  refine ev_ald0 k219_6 ?_
  refine ev_ild1 k219_7 ?_
  refine ev_ild2 k219_8 ?_
  refine ev_cV3i k219_9 cs_279 (by first | assumption | rfl) (by omega) (Nat.le_of_ble_eq_true rfl) rfl rfl rfl ?_
  refine vm_Model_speaks_0 hc hk hm h1 (by (try simp only [List.length_cons]); omega) (fun K2 h2 => ?_)
  refine ev_iconst k219_12 ?_
  refine ev_imul k219_13 ?_
  refine ev_ri k219_14 rfl ?_
  exact hQ _ h2
/-- Model.weighs -/
theorem vm_Model_weighs_0 {X : Nat × (Nat → Int32)} {d : Nat} {I : mm_I} {J : mm_I} {l : List Int32} {c : Nat} {m x : Int32} {P : Int32 → mm_I → Prop} (hc : c < 6) (hk : J 92 (7 + 4 * c) = nI 0) (hm : J 92 (7 + 4 * c + 1) = m) (h0 : tmE J I l) (hl : l.length + 2 ≤ 40) (hQ : ∀ K, tmE J K (10 :: 11 :: l) → P ((x + nI c) * 2) K) : mm_Ev mm_T0 X (d + 5) 221 0 (mm_ent 221 [.ref 91, .int (nI c), .int x]) [] I (mm_pi P) := by
  show mm_Ev mm_T0 X (d + 5) 221 0 [.ref 91, .int (nI c), .int x, .retAddr 0] [] I (mm_pi P)
  have tm := tM
  have tr := tR
  refine ev_ald0 k221_0 ?_
  refine ev_ild1 k221_1 ?_
  refine ev_iconst k221_2 ?_
  refine ev_cV3i k221_3 cs_226 (by first | assumption | rfl) (by omega) (Nat.le_of_ble_eq_true rfl) rfl rfl rfl ?_
  refine sm_ofv (w := 0) hc (by decide) (show _ = nI 0 from by rw [h0.1 92 (by decide) (by decide)]; exact hk) ?_
  refine ev_ist3 k221_6 rfl ?_
  refine ev_ild3 k221_7 ?_
  refine ev_iconst k221_8 ?_
  refine ev_icmp_ne k221_9 (fun h9 => ?_) (fun h9 => absurd h9 (show ¬ nI 0 = (5 : Int32) by decide))
  refine ev_ild3 k221_27 ?_
  refine ev_iconst k221_28 ?_
  refine ev_icmp_ne k221_29 (fun h29 => ?_) (fun h29 => absurd h29 (show ¬ nI 0 = (2 : Int32) by decide))
  refine ev_ald0 k221_41 ?_
  refine ev_ild1 k221_42 ?_
  refine ev_ild2 k221_43 ?_
  refine ev_cV3i k221_44 cs_280 (by first | assumption | rfl) (by omega) (Nat.le_of_ble_eq_true rfl) rfl rfl rfl ?_
  refine vm_Model_plainWeighs_0 hc hk hm h0 (by (try simp only [List.length_cons]); omega) (fun K1 h1 => ?_)
  refine ev_ri k221_47 rfl ?_
  exact hQ _ h1
/-- Model.plainCreaks -/
theorem vm_Model_plainCreaks_0 {X : Nat × (Nat → Int32)} {d : Nat} {I : mm_I} {J : mm_I} {l : List Int32} {c : Nat} {m x : Int32} {P : Int32 → mm_I → Prop} (hc : c < 6) (hk : J 92 (7 + 4 * c) = nI 0) (hm : J 92 (7 + 4 * c + 1) = m) (h0 : tmE J I l) (hl : l.length + 1 ≤ 40) (hQ : ∀ K, tmE J K (12 :: l) → P (x - m) K) : mm_Ev mm_T0 X (d + 2) 222 0 (mm_ent 222 [.ref 91, .int (nI c), .int x]) [] I (mm_pi P) := by
  show mm_Ev mm_T0 X (d + 2) 222 0 [.ref 91, .int (nI c), .int x] [] I (mm_pi P)
  have tm := tM
  have tr := tR
  refine ev_ald0 k222_0 ?_
  refine ev_bipush k222_1 ?_
  refine ev_cV2v k222_3 cs_277 (by first | assumption | rfl) (by omega) (Nat.le_of_ble_eq_true rfl) rfl rfl rfl ?_
  refine sm_begins h0 (by (try simp only [List.length_cons]); omega) (fun K1 h1 => ?_)
  refine ev_ild2 k222_6 ?_
  refine ev_ald0 k222_7 ?_
  refine ev_ild1 k222_8 ?_
  refine ev_iconst k222_9 ?_
  refine ev_cV3i k222_10 cs_226 (by first | assumption | rfl) (by omega) (Nat.le_of_ble_eq_true rfl) rfl rfl rfl ?_
  refine sm_ofv (w := 1) hc (by decide) (show _ = m from by rw [h1.1 92 (by decide) (by decide)]; exact hm) ?_
  refine ev_isub k222_13 ?_
  refine ev_ri k222_14 rfl ?_
  exact hQ _ h1
/-- Model.creaks -/
theorem vm_Model_creaks_0 {X : Nat × (Nat → Int32)} {d : Nat} {I : mm_I} {J : mm_I} {l : List Int32} {c : Nat} {m x : Int32} {P : Int32 → mm_I → Prop} (hc : c < 6) (hk : J 92 (7 + 4 * c) = nI 0) (hm : J 92 (7 + 4 * c + 1) = m) (h0 : tmE J I l) (hl : l.length + 1 ≤ 40) (hQ : ∀ K, tmE J K (12 :: l) → P (x - m) K) : mm_Ev mm_T0 X (d + 3) 224 0 (mm_ent 224 [.ref 91, .int (nI c), .int x]) [] I (mm_pi P) := by
  show mm_Ev mm_T0 X (d + 3) 224 0 [.ref 91, .int (nI c), .int x, .retAddr 0] [] I (mm_pi P)
  have tm := tM
  have tr := tR
  refine ev_ald0 k224_0 ?_
  refine ev_ild1 k224_1 ?_
  refine ev_iconst k224_2 ?_
  refine ev_cV3i k224_3 cs_226 (by first | assumption | rfl) (by omega) (Nat.le_of_ble_eq_true rfl) rfl rfl rfl ?_
  refine sm_ofv (w := 0) hc (by decide) (show _ = nI 0 from by rw [h0.1 92 (by decide) (by decide)]; exact hk) ?_
  refine ev_ist3 k224_6 rfl ?_
  refine ev_ild3 k224_7 ?_
  refine ev_bipush k224_8 ?_
  refine ev_icmp_ne k224_10 (fun h10 => ?_) (fun h10 => absurd h10 (show ¬ nI 0 = (6 : Int32) by decide))
  refine ev_ild3 k224_28 ?_
  refine ev_iconst k224_29 ?_
  refine ev_icmp_ne k224_30 (fun h30 => ?_) (fun h30 => absurd h30 (show ¬ nI 0 = (3 : Int32) by decide))
  refine ev_ald0 k224_42 ?_
  refine ev_ild1 k224_43 ?_
  refine ev_ild2 k224_44 ?_
  refine ev_cV3i k224_45 cs_283 (by first | assumption | rfl) (by omega) (Nat.le_of_ble_eq_true rfl) rfl rfl rfl ?_
  refine vm_Model_plainCreaks_0 hc hk hm h0 (by (try simp only [List.length_cons]); omega) (fun K1 h1 => ?_)
  refine ev_ri k224_48 rfl ?_
  exact hQ _ h1
/-- Model.plainTells -/
theorem vm_Model_plainTells_0 {X : Nat × (Nat → Int32)} {d : Nat} {I : mm_I} {J : mm_I} {l : List Int32} {c : Nat} {m x : Int32} {P : Int32 → mm_I → Prop} (hc : c < 6) (hk : J 92 (7 + 4 * c) = nI 0) (hm : J 92 (7 + 4 * c + 1) = m) (h0 : tmE J I l) (hl : l.length + 4 ≤ 40) (hQ : ∀ K, tmE J K (12 :: 10 :: 11 :: 13 :: l) → P (((x + nI c) * 2) ^^^ (x - m)) K) : mm_Ev mm_T0 X (d + 6) 225 0 (mm_ent 225 [.ref 91, .int (nI c), .int x]) [] I (mm_pi P) := by
  show mm_Ev mm_T0 X (d + 6) 225 0 [.ref 91, .int (nI c), .int x, .retAddr 0] [] I (mm_pi P)
  have tm := tM
  have tr := tR
  refine ev_ald0 k225_0 ?_
  refine ev_bipush k225_1 ?_
  refine ev_cV2v k225_3 cs_277 (by first | assumption | rfl) (by omega) (Nat.le_of_ble_eq_true rfl) rfl rfl rfl ?_
  refine sm_begins h0 (by (try simp only [List.length_cons]); omega) (fun K1 h1 => ?_)
  refine ev_ald0 k225_6 ?_
  refine ev_ild1 k225_7 ?_
  refine ev_ild2 k225_8 ?_
  refine ev_cV3i k225_9 cs_285 (by first | assumption | rfl) (by omega) (Nat.le_of_ble_eq_true rfl) rfl rfl rfl ?_
  refine vm_Model_weighs_0 hc hk hm h1 (by (try simp only [List.length_cons]); omega) (fun K2 h2 => ?_)
  refine ev_ist3 k225_12 rfl ?_
  refine ev_ild3 k225_13 ?_
  refine ev_ald0 k225_14 ?_
  refine ev_ild1 k225_15 ?_
  refine ev_ild2 k225_16 ?_
  refine ev_cV3i k225_17 cs_281 (by first | assumption | rfl) (by omega) (Nat.le_of_ble_eq_true rfl) rfl rfl rfl ?_
  refine vm_Model_creaks_0 hc hk hm h2 (by (try simp only [List.length_cons]); omega) (fun K3 h3 => ?_)
  refine ev_ixor k225_20 ?_
  refine ev_ri k225_21 rfl ?_
  exact hQ _ h3
/-- Model.tells -/
theorem vm_Model_tells_0 {X : Nat × (Nat → Int32)} {d : Nat} {I : mm_I} {J : mm_I} {l : List Int32} {c : Nat} {m x : Int32} {P : Int32 → mm_I → Prop} (hc : c < 6) (hk : J 92 (7 + 4 * c) = nI 0) (hm : J 92 (7 + 4 * c + 1) = m) (h0 : tmE J I l) (hl : l.length + 4 ≤ 40) (hQ : ∀ K, tmE J K (12 :: 10 :: 11 :: 13 :: l) → P (((x + nI c) * 2) ^^^ (x - m)) K) : mm_Ev mm_T0 X (d + 7) 226 0 (mm_ent 226 [.ref 91, .int (nI c), .int x]) [] I (mm_pi P) := by
  show mm_Ev mm_T0 X (d + 7) 226 0 [.ref 91, .int (nI c), .int x, .retAddr 0, .retAddr 0] [] I (mm_pi P)
  have tm := tM
  have tr := tR
  refine ev_ald0 k226_0 ?_
  refine ev_ild1 k226_1 ?_
  refine ev_iconst k226_2 ?_
  refine ev_cV3i k226_3 cs_226 (by first | assumption | rfl) (by omega) (Nat.le_of_ble_eq_true rfl) rfl rfl rfl ?_
  refine sm_ofv (w := 0) hc (by decide) (show _ = nI 0 from by rw [h0.1 92 (by decide) (by decide)]; exact hk) ?_
  refine ev_ist3 k226_6 rfl ?_
  refine ev_ild3 k226_7 ?_
  refine ev_iconst k226_8 ?_
  refine ev_icmp_ne k226_9 (fun h9 => ?_) (fun h9 => absurd h9 (show ¬ nI 0 = (4 : Int32) by decide))
  refine ev_ild3 k226_36 ?_
  refine ev_bipush k226_37 ?_
  refine ev_icmp_ne k226_39 (fun h39 => ?_) (fun h39 => absurd h39 (show ¬ nI 0 = (6 : Int32) by decide))
  refine ev_ald0 k226_66 ?_
  refine ev_ild1 k226_67 ?_
  refine ev_ild2 k226_68 ?_
  refine ev_cV3i k226_69 cs_286 (by first | assumption | rfl) (by omega) (Nat.le_of_ble_eq_true rfl) rfl rfl rfl ?_
  refine vm_Model_plainTells_0 hc hk hm h0 (by (try simp only [List.length_cons]); omega) (fun K1 h1 => ?_)
  refine ev_ri k226_72 rfl ?_
  exact hQ _ h1
/-- Model.plainSpeaks -/
theorem vm_Model_plainSpeaks_1 {X : Nat × (Nat → Int32)} {d : Nat} {I : mm_I} {J : mm_I} {l : List Int32} {c : Nat} {m x : Int32} {P : Int32 → mm_I → Prop} (hc : c < 6) (hk : J 92 (7 + 4 * c) = nI 1) (hm : J 92 (7 + 4 * c + 1) = m) (h0 : tmE J I l) (hl : l.length + 1 ≤ 40) (hQ : ∀ K, tmE J K (10 :: l) → P (x + nI c) K) : mm_Ev mm_T0 X (d + 2) 217 0 (mm_ent 217 [.ref 91, .int (nI c), .int x]) [] I (mm_pi P) := by
  show mm_Ev mm_T0 X (d + 2) 217 0 [.ref 91, .int (nI c), .int x] [] I (mm_pi P)
  have tm := tM
  have tr := tR
  refine ev_ald0 k217_0 ?_
  refine ev_bipush k217_1 ?_
  refine ev_cV2v k217_3 cs_277 (by first | assumption | rfl) (by omega) (Nat.le_of_ble_eq_true rfl) rfl rfl rfl ?_
  refine sm_begins h0 (by (try simp only [List.length_cons]); omega) (fun K1 h1 => ?_)
  refine ev_ild2 k217_6 ?_
  refine ev_ild1 k217_7 ?_
  refine ev_iadd k217_8 ?_
  refine ev_ri k217_9 rfl ?_
  exact hQ _ h1
/-- Model.speaks -/
theorem vm_Model_speaks_1 {X : Nat × (Nat → Int32)} {d : Nat} {I : mm_I} {J : mm_I} {l : List Int32} {c : Nat} {m x : Int32} {P : Int32 → mm_I → Prop} (hc : c < 6) (hk : J 92 (7 + 4 * c) = nI 1) (hm : J 92 (7 + 4 * c + 1) = m) (h0 : tmE J I l) (hl : l.length + 2 ≤ 40) (hQ : ∀ K, tmE J K (10 :: 20 :: l) → P ((x + nI c) * 3) K) : mm_Ev mm_T0 X (d + 3) 218 0 (mm_ent 218 [.ref 91, .int (nI c), .int x]) [] I (mm_pi P) := by
  show mm_Ev mm_T0 X (d + 3) 218 0 [.ref 91, .int (nI c), .int x, .retAddr 0] [] I (mm_pi P)
  have tm := tM
  have tr := tR
  refine ev_ald0 k218_0 ?_
  refine ev_ild1 k218_1 ?_
  refine ev_iconst k218_2 ?_
  refine ev_cV3i k218_3 cs_226 (by first | assumption | rfl) (by omega) (Nat.le_of_ble_eq_true rfl) rfl rfl rfl ?_
  refine sm_ofv (w := 0) hc (by decide) (show _ = nI 1 from by rw [h0.1 92 (by decide) (by decide)]; exact hk) ?_
  refine ev_ist3 k218_6 rfl ?_
  refine ev_ild3 k218_7 ?_
  refine ev_iconst k218_8 ?_
  refine ev_icmp_eq k218_9 (fun h9 => ?_) (fun h9 => absurd (show nI 1 = (1 : Int32) by decide) h9)
  refine ev_ald0 k218_17 ?_
  refine ev_bipush k218_18 ?_
  refine ev_cV2v k218_20 cs_277 (by first | assumption | rfl) (by omega) (Nat.le_of_ble_eq_true rfl) rfl rfl rfl ?_
  refine sm_begins h0 (by (try simp only [List.length_cons]); omega) (fun K1 h1 => ?_)
  refine ev_ald0 k218_23 ?_
  refine ev_ild1 k218_24 ?_
  refine ev_ild2 k218_25 ?_
  refine ev_cV3i k218_26 cs_278 (by first | assumption | rfl) (by omega) (Nat.le_of_ble_eq_true rfl) rfl rfl rfl ?_
  refine vm_Model_plainSpeaks_1 hc hk hm h1 (by (try simp only [List.length_cons]); omega) (fun K2 h2 => ?_)
  refine ev_iconst k218_29 ?_
  refine ev_imul k218_30 ?_
  refine ev_ri k218_31 rfl ?_
  exact hQ _ h2
/-- Model.plainWeighs -/
theorem vm_Model_plainWeighs_1 {X : Nat × (Nat → Int32)} {d : Nat} {I : mm_I} {J : mm_I} {l : List Int32} {c : Nat} {m x : Int32} {P : Int32 → mm_I → Prop} (hc : c < 6) (hk : J 92 (7 + 4 * c) = nI 1) (hm : J 92 (7 + 4 * c + 1) = m) (h0 : tmE J I l) (hl : l.length + 3 ≤ 40) (hQ : ∀ K, tmE J K (10 :: 20 :: 11 :: l) → P (((x + nI c) * 3) * 2) K) : mm_Ev mm_T0 X (d + 4) 219 0 (mm_ent 219 [.ref 91, .int (nI c), .int x]) [] I (mm_pi P) := by
  show mm_Ev mm_T0 X (d + 4) 219 0 [.ref 91, .int (nI c), .int x] [] I (mm_pi P)
  have tm := tM
  have tr := tR
  refine ev_ald0 k219_0 ?_
  refine ev_bipush k219_1 ?_
  refine ev_cV2v k219_3 cs_277 (by first | assumption | rfl) (by omega) (Nat.le_of_ble_eq_true rfl) rfl rfl rfl ?_
  refine sm_begins h0 (by (try simp only [List.length_cons]); omega) (fun K1 h1 => ?_)
  refine ev_ald0 k219_6 ?_
  refine ev_ild1 k219_7 ?_
  refine ev_ild2 k219_8 ?_
  refine ev_cV3i k219_9 cs_279 (by first | assumption | rfl) (by omega) (Nat.le_of_ble_eq_true rfl) rfl rfl rfl ?_
  refine vm_Model_speaks_1 hc hk hm h1 (by (try simp only [List.length_cons]); omega) (fun K2 h2 => ?_)
  refine ev_iconst k219_12 ?_
  refine ev_imul k219_13 ?_
  refine ev_ri k219_14 rfl ?_
  exact hQ _ h2
/-- Model.weighs -/
theorem vm_Model_weighs_1 {X : Nat × (Nat → Int32)} {d : Nat} {I : mm_I} {J : mm_I} {l : List Int32} {c : Nat} {m x : Int32} {P : Int32 → mm_I → Prop} (hc : c < 6) (hk : J 92 (7 + 4 * c) = nI 1) (hm : J 92 (7 + 4 * c + 1) = m) (h0 : tmE J I l) (hl : l.length + 3 ≤ 40) (hQ : ∀ K, tmE J K (10 :: 20 :: 11 :: l) → P (((x + nI c) * 3) * 2) K) : mm_Ev mm_T0 X (d + 5) 221 0 (mm_ent 221 [.ref 91, .int (nI c), .int x]) [] I (mm_pi P) := by
  show mm_Ev mm_T0 X (d + 5) 221 0 [.ref 91, .int (nI c), .int x, .retAddr 0] [] I (mm_pi P)
  have tm := tM
  have tr := tR
  refine ev_ald0 k221_0 ?_
  refine ev_ild1 k221_1 ?_
  refine ev_iconst k221_2 ?_
  refine ev_cV3i k221_3 cs_226 (by first | assumption | rfl) (by omega) (Nat.le_of_ble_eq_true rfl) rfl rfl rfl ?_
  refine sm_ofv (w := 0) hc (by decide) (show _ = nI 1 from by rw [h0.1 92 (by decide) (by decide)]; exact hk) ?_
  refine ev_ist3 k221_6 rfl ?_
  refine ev_ild3 k221_7 ?_
  refine ev_iconst k221_8 ?_
  refine ev_icmp_ne k221_9 (fun h9 => ?_) (fun h9 => absurd h9 (show ¬ nI 1 = (5 : Int32) by decide))
  refine ev_ild3 k221_27 ?_
  refine ev_iconst k221_28 ?_
  refine ev_icmp_ne k221_29 (fun h29 => ?_) (fun h29 => absurd h29 (show ¬ nI 1 = (2 : Int32) by decide))
  refine ev_ald0 k221_41 ?_
  refine ev_ild1 k221_42 ?_
  refine ev_ild2 k221_43 ?_
  refine ev_cV3i k221_44 cs_280 (by first | assumption | rfl) (by omega) (Nat.le_of_ble_eq_true rfl) rfl rfl rfl ?_
  refine vm_Model_plainWeighs_1 hc hk hm h0 (by (try simp only [List.length_cons]); omega) (fun K1 h1 => ?_)
  refine ev_ri k221_47 rfl ?_
  exact hQ _ h1
/-- Model.plainCreaks -/
theorem vm_Model_plainCreaks_1 {X : Nat × (Nat → Int32)} {d : Nat} {I : mm_I} {J : mm_I} {l : List Int32} {c : Nat} {m x : Int32} {P : Int32 → mm_I → Prop} (hc : c < 6) (hk : J 92 (7 + 4 * c) = nI 1) (hm : J 92 (7 + 4 * c + 1) = m) (h0 : tmE J I l) (hl : l.length + 1 ≤ 40) (hQ : ∀ K, tmE J K (12 :: l) → P (x - m) K) : mm_Ev mm_T0 X (d + 2) 222 0 (mm_ent 222 [.ref 91, .int (nI c), .int x]) [] I (mm_pi P) := by
  show mm_Ev mm_T0 X (d + 2) 222 0 [.ref 91, .int (nI c), .int x] [] I (mm_pi P)
  have tm := tM
  have tr := tR
  refine ev_ald0 k222_0 ?_
  refine ev_bipush k222_1 ?_
  refine ev_cV2v k222_3 cs_277 (by first | assumption | rfl) (by omega) (Nat.le_of_ble_eq_true rfl) rfl rfl rfl ?_
  refine sm_begins h0 (by (try simp only [List.length_cons]); omega) (fun K1 h1 => ?_)
  refine ev_ild2 k222_6 ?_
  refine ev_ald0 k222_7 ?_
  refine ev_ild1 k222_8 ?_
  refine ev_iconst k222_9 ?_
  refine ev_cV3i k222_10 cs_226 (by first | assumption | rfl) (by omega) (Nat.le_of_ble_eq_true rfl) rfl rfl rfl ?_
  refine sm_ofv (w := 1) hc (by decide) (show _ = m from by rw [h1.1 92 (by decide) (by decide)]; exact hm) ?_
  refine ev_isub k222_13 ?_
  refine ev_ri k222_14 rfl ?_
  exact hQ _ h1
/-- Model.creaks -/
theorem vm_Model_creaks_1 {X : Nat × (Nat → Int32)} {d : Nat} {I : mm_I} {J : mm_I} {l : List Int32} {c : Nat} {m x : Int32} {P : Int32 → mm_I → Prop} (hc : c < 6) (hk : J 92 (7 + 4 * c) = nI 1) (hm : J 92 (7 + 4 * c + 1) = m) (h0 : tmE J I l) (hl : l.length + 1 ≤ 40) (hQ : ∀ K, tmE J K (12 :: l) → P (x - m) K) : mm_Ev mm_T0 X (d + 3) 224 0 (mm_ent 224 [.ref 91, .int (nI c), .int x]) [] I (mm_pi P) := by
  show mm_Ev mm_T0 X (d + 3) 224 0 [.ref 91, .int (nI c), .int x, .retAddr 0] [] I (mm_pi P)
  have tm := tM
  have tr := tR
  refine ev_ald0 k224_0 ?_
  refine ev_ild1 k224_1 ?_
  refine ev_iconst k224_2 ?_
  refine ev_cV3i k224_3 cs_226 (by first | assumption | rfl) (by omega) (Nat.le_of_ble_eq_true rfl) rfl rfl rfl ?_
  refine sm_ofv (w := 0) hc (by decide) (show _ = nI 1 from by rw [h0.1 92 (by decide) (by decide)]; exact hk) ?_
  refine ev_ist3 k224_6 rfl ?_
  refine ev_ild3 k224_7 ?_
  refine ev_bipush k224_8 ?_
  refine ev_icmp_ne k224_10 (fun h10 => ?_) (fun h10 => absurd h10 (show ¬ nI 1 = (6 : Int32) by decide))
  refine ev_ild3 k224_28 ?_
  refine ev_iconst k224_29 ?_
  refine ev_icmp_ne k224_30 (fun h30 => ?_) (fun h30 => absurd h30 (show ¬ nI 1 = (3 : Int32) by decide))
  refine ev_ald0 k224_42 ?_
  refine ev_ild1 k224_43 ?_
  refine ev_ild2 k224_44 ?_
  refine ev_cV3i k224_45 cs_283 (by first | assumption | rfl) (by omega) (Nat.le_of_ble_eq_true rfl) rfl rfl rfl ?_
  refine vm_Model_plainCreaks_1 hc hk hm h0 (by (try simp only [List.length_cons]); omega) (fun K1 h1 => ?_)
  refine ev_ri k224_48 rfl ?_
  exact hQ _ h1
/-- Model.plainTells -/
theorem vm_Model_plainTells_1 {X : Nat × (Nat → Int32)} {d : Nat} {I : mm_I} {J : mm_I} {l : List Int32} {c : Nat} {m x : Int32} {P : Int32 → mm_I → Prop} (hc : c < 6) (hk : J 92 (7 + 4 * c) = nI 1) (hm : J 92 (7 + 4 * c + 1) = m) (h0 : tmE J I l) (hl : l.length + 5 ≤ 40) (hQ : ∀ K, tmE J K (12 :: 10 :: 20 :: 11 :: 13 :: l) → P ((((x + nI c) * 3) * 2) ^^^ (x - m)) K) : mm_Ev mm_T0 X (d + 6) 225 0 (mm_ent 225 [.ref 91, .int (nI c), .int x]) [] I (mm_pi P) := by
  show mm_Ev mm_T0 X (d + 6) 225 0 [.ref 91, .int (nI c), .int x, .retAddr 0] [] I (mm_pi P)
  have tm := tM
  have tr := tR
  refine ev_ald0 k225_0 ?_
  refine ev_bipush k225_1 ?_
  refine ev_cV2v k225_3 cs_277 (by first | assumption | rfl) (by omega) (Nat.le_of_ble_eq_true rfl) rfl rfl rfl ?_
  refine sm_begins h0 (by (try simp only [List.length_cons]); omega) (fun K1 h1 => ?_)
  refine ev_ald0 k225_6 ?_
  refine ev_ild1 k225_7 ?_
  refine ev_ild2 k225_8 ?_
  refine ev_cV3i k225_9 cs_285 (by first | assumption | rfl) (by omega) (Nat.le_of_ble_eq_true rfl) rfl rfl rfl ?_
  refine vm_Model_weighs_1 hc hk hm h1 (by (try simp only [List.length_cons]); omega) (fun K2 h2 => ?_)
  refine ev_ist3 k225_12 rfl ?_
  refine ev_ild3 k225_13 ?_
  refine ev_ald0 k225_14 ?_
  refine ev_ild1 k225_15 ?_
  refine ev_ild2 k225_16 ?_
  refine ev_cV3i k225_17 cs_281 (by first | assumption | rfl) (by omega) (Nat.le_of_ble_eq_true rfl) rfl rfl rfl ?_
  refine vm_Model_creaks_1 hc hk hm h2 (by (try simp only [List.length_cons]); omega) (fun K3 h3 => ?_)
  refine ev_ixor k225_20 ?_
  refine ev_ri k225_21 rfl ?_
  exact hQ _ h3
/-- Model.tells -/
theorem vm_Model_tells_1 {X : Nat × (Nat → Int32)} {d : Nat} {I : mm_I} {J : mm_I} {l : List Int32} {c : Nat} {m x : Int32} {P : Int32 → mm_I → Prop} (hc : c < 6) (hk : J 92 (7 + 4 * c) = nI 1) (hm : J 92 (7 + 4 * c + 1) = m) (h0 : tmE J I l) (hl : l.length + 5 ≤ 40) (hQ : ∀ K, tmE J K (12 :: 10 :: 20 :: 11 :: 13 :: l) → P ((((x + nI c) * 3) * 2) ^^^ (x - m)) K) : mm_Ev mm_T0 X (d + 7) 226 0 (mm_ent 226 [.ref 91, .int (nI c), .int x]) [] I (mm_pi P) := by
  show mm_Ev mm_T0 X (d + 7) 226 0 [.ref 91, .int (nI c), .int x, .retAddr 0, .retAddr 0] [] I (mm_pi P)
  have tm := tM
  have tr := tR
  refine ev_ald0 k226_0 ?_
  refine ev_ild1 k226_1 ?_
  refine ev_iconst k226_2 ?_
  refine ev_cV3i k226_3 cs_226 (by first | assumption | rfl) (by omega) (Nat.le_of_ble_eq_true rfl) rfl rfl rfl ?_
  refine sm_ofv (w := 0) hc (by decide) (show _ = nI 1 from by rw [h0.1 92 (by decide) (by decide)]; exact hk) ?_
  refine ev_ist3 k226_6 rfl ?_
  refine ev_ild3 k226_7 ?_
  refine ev_iconst k226_8 ?_
  refine ev_icmp_ne k226_9 (fun h9 => ?_) (fun h9 => absurd h9 (show ¬ nI 1 = (4 : Int32) by decide))
  refine ev_ild3 k226_36 ?_
  refine ev_bipush k226_37 ?_
  refine ev_icmp_ne k226_39 (fun h39 => ?_) (fun h39 => absurd h39 (show ¬ nI 1 = (6 : Int32) by decide))
  refine ev_ald0 k226_66 ?_
  refine ev_ild1 k226_67 ?_
  refine ev_ild2 k226_68 ?_
  refine ev_cV3i k226_69 cs_286 (by first | assumption | rfl) (by omega) (Nat.le_of_ble_eq_true rfl) rfl rfl rfl ?_
  refine vm_Model_plainTells_1 hc hk hm h0 (by (try simp only [List.length_cons]); omega) (fun K1 h1 => ?_)
  refine ev_ri k226_72 rfl ?_
  exact hQ _ h1
/-- Model.plainSpeaks -/
theorem vm_Model_plainSpeaks_2 {X : Nat × (Nat → Int32)} {d : Nat} {I : mm_I} {J : mm_I} {l : List Int32} {c : Nat} {m x : Int32} {P : Int32 → mm_I → Prop} (hc : c < 6) (hk : J 92 (7 + 4 * c) = nI 2) (hm : J 92 (7 + 4 * c + 1) = m) (h0 : tmE J I l) (hl : l.length + 1 ≤ 40) (hQ : ∀ K, tmE J K (10 :: l) → P (x + nI c) K) : mm_Ev mm_T0 X (d + 2) 217 0 (mm_ent 217 [.ref 91, .int (nI c), .int x]) [] I (mm_pi P) := by
  show mm_Ev mm_T0 X (d + 2) 217 0 [.ref 91, .int (nI c), .int x] [] I (mm_pi P)
  have tm := tM
  have tr := tR
  refine ev_ald0 k217_0 ?_
  refine ev_bipush k217_1 ?_
  refine ev_cV2v k217_3 cs_277 (by first | assumption | rfl) (by omega) (Nat.le_of_ble_eq_true rfl) rfl rfl rfl ?_
  refine sm_begins h0 (by (try simp only [List.length_cons]); omega) (fun K1 h1 => ?_)
  refine ev_ild2 k217_6 ?_
  refine ev_ild1 k217_7 ?_
  refine ev_iadd k217_8 ?_
  refine ev_ri k217_9 rfl ?_
  exact hQ _ h1
/-- Model.speaks -/
theorem vm_Model_speaks_2 {X : Nat × (Nat → Int32)} {d : Nat} {I : mm_I} {J : mm_I} {l : List Int32} {c : Nat} {m x : Int32} {P : Int32 → mm_I → Prop} (hc : c < 6) (hk : J 92 (7 + 4 * c) = nI 2) (hm : J 92 (7 + 4 * c + 1) = m) (h0 : tmE J I l) (hl : l.length + 1 ≤ 40) (hQ : ∀ K, tmE J K (10 :: l) → P (x + nI c) K) : mm_Ev mm_T0 X (d + 3) 218 0 (mm_ent 218 [.ref 91, .int (nI c), .int x]) [] I (mm_pi P) := by
  show mm_Ev mm_T0 X (d + 3) 218 0 [.ref 91, .int (nI c), .int x, .retAddr 0] [] I (mm_pi P)
  have tm := tM
  have tr := tR
  refine ev_ald0 k218_0 ?_
  refine ev_ild1 k218_1 ?_
  refine ev_iconst k218_2 ?_
  refine ev_cV3i k218_3 cs_226 (by first | assumption | rfl) (by omega) (Nat.le_of_ble_eq_true rfl) rfl rfl rfl ?_
  refine sm_ofv (w := 0) hc (by decide) (show _ = nI 2 from by rw [h0.1 92 (by decide) (by decide)]; exact hk) ?_
  refine ev_ist3 k218_6 rfl ?_
  refine ev_ild3 k218_7 ?_
  refine ev_iconst k218_8 ?_
  refine ev_icmp_eq k218_9 (fun h9 => absurd h9 (show ¬ nI 2 = (1 : Int32) by decide)) (fun h9 => ?_)
  refine ev_ild3 k218_12 ?_
  refine ev_iconst k218_13 ?_
  refine ev_icmp_ne k218_14 (fun h14 => ?_) (fun h14 => absurd h14 (show ¬ nI 2 = (4 : Int32) by decide))
  refine ev_ald0 k218_32 ?_
  refine ev_ild1 k218_33 ?_
  refine ev_ild2 k218_34 ?_
  refine ev_cV3i k218_35 cs_278 (by first | assumption | rfl) (by omega) (Nat.le_of_ble_eq_true rfl) rfl rfl rfl ?_
  refine vm_Model_plainSpeaks_2 hc hk hm h0 (by (try simp only [List.length_cons]); omega) (fun K1 h1 => ?_)
  refine ev_ri k218_38 rfl ?_
  exact hQ _ h1
/-- Model.plainWeighs -/
theorem vm_Model_plainWeighs_2 {X : Nat × (Nat → Int32)} {d : Nat} {I : mm_I} {J : mm_I} {l : List Int32} {c : Nat} {m x : Int32} {P : Int32 → mm_I → Prop} (hc : c < 6) (hk : J 92 (7 + 4 * c) = nI 2) (hm : J 92 (7 + 4 * c + 1) = m) (h0 : tmE J I l) (hl : l.length + 2 ≤ 40) (hQ : ∀ K, tmE J K (10 :: 11 :: l) → P ((x + nI c) * 2) K) : mm_Ev mm_T0 X (d + 4) 219 0 (mm_ent 219 [.ref 91, .int (nI c), .int x]) [] I (mm_pi P) := by
  show mm_Ev mm_T0 X (d + 4) 219 0 [.ref 91, .int (nI c), .int x] [] I (mm_pi P)
  have tm := tM
  have tr := tR
  refine ev_ald0 k219_0 ?_
  refine ev_bipush k219_1 ?_
  refine ev_cV2v k219_3 cs_277 (by first | assumption | rfl) (by omega) (Nat.le_of_ble_eq_true rfl) rfl rfl rfl ?_
  refine sm_begins h0 (by (try simp only [List.length_cons]); omega) (fun K1 h1 => ?_)
  refine ev_ald0 k219_6 ?_
  refine ev_ild1 k219_7 ?_
  refine ev_ild2 k219_8 ?_
  refine ev_cV3i k219_9 cs_279 (by first | assumption | rfl) (by omega) (Nat.le_of_ble_eq_true rfl) rfl rfl rfl ?_
  refine vm_Model_speaks_2 hc hk hm h1 (by (try simp only [List.length_cons]); omega) (fun K2 h2 => ?_)
  refine ev_iconst k219_12 ?_
  refine ev_imul k219_13 ?_
  refine ev_ri k219_14 rfl ?_
  exact hQ _ h2
/-- Model.plainCreaks -/
theorem vm_Model_plainCreaks_2 {X : Nat × (Nat → Int32)} {d : Nat} {I : mm_I} {J : mm_I} {l : List Int32} {c : Nat} {m x : Int32} {P : Int32 → mm_I → Prop} (hc : c < 6) (hk : J 92 (7 + 4 * c) = nI 2) (hm : J 92 (7 + 4 * c + 1) = m) (h0 : tmE J I l) (hl : l.length + 1 ≤ 40) (hQ : ∀ K, tmE J K (12 :: l) → P (x - m) K) : mm_Ev mm_T0 X (d + 2) 222 0 (mm_ent 222 [.ref 91, .int (nI c), .int x]) [] I (mm_pi P) := by
  show mm_Ev mm_T0 X (d + 2) 222 0 [.ref 91, .int (nI c), .int x] [] I (mm_pi P)
  have tm := tM
  have tr := tR
  refine ev_ald0 k222_0 ?_
  refine ev_bipush k222_1 ?_
  refine ev_cV2v k222_3 cs_277 (by first | assumption | rfl) (by omega) (Nat.le_of_ble_eq_true rfl) rfl rfl rfl ?_
  refine sm_begins h0 (by (try simp only [List.length_cons]); omega) (fun K1 h1 => ?_)
  refine ev_ild2 k222_6 ?_
  refine ev_ald0 k222_7 ?_
  refine ev_ild1 k222_8 ?_
  refine ev_iconst k222_9 ?_
  refine ev_cV3i k222_10 cs_226 (by first | assumption | rfl) (by omega) (Nat.le_of_ble_eq_true rfl) rfl rfl rfl ?_
  refine sm_ofv (w := 1) hc (by decide) (show _ = m from by rw [h1.1 92 (by decide) (by decide)]; exact hm) ?_
  refine ev_isub k222_13 ?_
  refine ev_ri k222_14 rfl ?_
  exact hQ _ h1
/-- Model.creaks -/
theorem vm_Model_creaks_2 {X : Nat × (Nat → Int32)} {d : Nat} {I : mm_I} {J : mm_I} {l : List Int32} {c : Nat} {m x : Int32} {P : Int32 → mm_I → Prop} (hc : c < 6) (hk : J 92 (7 + 4 * c) = nI 2) (hm : J 92 (7 + 4 * c + 1) = m) (h0 : tmE J I l) (hl : l.length + 1 ≤ 40) (hQ : ∀ K, tmE J K (12 :: l) → P (x - m) K) : mm_Ev mm_T0 X (d + 3) 224 0 (mm_ent 224 [.ref 91, .int (nI c), .int x]) [] I (mm_pi P) := by
  show mm_Ev mm_T0 X (d + 3) 224 0 [.ref 91, .int (nI c), .int x, .retAddr 0] [] I (mm_pi P)
  have tm := tM
  have tr := tR
  refine ev_ald0 k224_0 ?_
  refine ev_ild1 k224_1 ?_
  refine ev_iconst k224_2 ?_
  refine ev_cV3i k224_3 cs_226 (by first | assumption | rfl) (by omega) (Nat.le_of_ble_eq_true rfl) rfl rfl rfl ?_
  refine sm_ofv (w := 0) hc (by decide) (show _ = nI 2 from by rw [h0.1 92 (by decide) (by decide)]; exact hk) ?_
  refine ev_ist3 k224_6 rfl ?_
  refine ev_ild3 k224_7 ?_
  refine ev_bipush k224_8 ?_
  refine ev_icmp_ne k224_10 (fun h10 => ?_) (fun h10 => absurd h10 (show ¬ nI 2 = (6 : Int32) by decide))
  refine ev_ild3 k224_28 ?_
  refine ev_iconst k224_29 ?_
  refine ev_icmp_ne k224_30 (fun h30 => ?_) (fun h30 => absurd h30 (show ¬ nI 2 = (3 : Int32) by decide))
  refine ev_ald0 k224_42 ?_
  refine ev_ild1 k224_43 ?_
  refine ev_ild2 k224_44 ?_
  refine ev_cV3i k224_45 cs_283 (by first | assumption | rfl) (by omega) (Nat.le_of_ble_eq_true rfl) rfl rfl rfl ?_
  refine vm_Model_plainCreaks_2 hc hk hm h0 (by (try simp only [List.length_cons]); omega) (fun K1 h1 => ?_)
  refine ev_ri k224_48 rfl ?_
  exact hQ _ h1
/-- Model.gluedWeighs -/
theorem vm_Model_gluedWeighs_2 {X : Nat × (Nat → Int32)} {d : Nat} {I : mm_I} {J : mm_I} {l : List Int32} {c : Nat} {m x : Int32} {P : Int32 → mm_I → Prop} (hc : c < 6) (hk : J 92 (7 + 4 * c) = nI 2) (hm : J 92 (7 + 4 * c + 1) = m) (h0 : tmE J I l) (hl : l.length + 4 ≤ 40) (hQ : ∀ K, tmE J K (12 :: 10 :: 11 :: 30 :: l) → P (((x + nI c) * 2) - (1 - m)) K) : mm_Ev mm_T0 X (d + 5) 220 0 (mm_ent 220 [.ref 91, .int (nI c), .int x]) [] I (mm_pi P) := by
  show mm_Ev mm_T0 X (d + 5) 220 0 [.ref 91, .int (nI c), .int x, .retAddr 0] [] I (mm_pi P)
  have tm := tM
  have tr := tR
  refine ev_ald0 k220_0 ?_
  refine ev_bipush k220_1 ?_
  refine ev_cV2v k220_3 cs_277 (by first | assumption | rfl) (by omega) (Nat.le_of_ble_eq_true rfl) rfl rfl rfl ?_
  refine sm_begins h0 (by (try simp only [List.length_cons]); omega) (fun K1 h1 => ?_)
  refine ev_ald0 k220_6 ?_
  refine ev_ild1 k220_7 ?_
  refine ev_ild2 k220_8 ?_
  refine ev_cV3i k220_9 cs_280 (by first | assumption | rfl) (by omega) (Nat.le_of_ble_eq_true rfl) rfl rfl rfl ?_
  refine vm_Model_plainWeighs_2 hc hk hm h1 (by (try simp only [List.length_cons]); omega) (fun K2 h2 => ?_)
  refine ev_ist3 k220_12 rfl ?_
  refine ev_ild3 k220_13 ?_
  refine ev_ald0 k220_14 ?_
  refine ev_ild1 k220_15 ?_
  refine ev_iconst k220_16 ?_
  refine ev_cV3i k220_17 cs_281 (by first | assumption | rfl) (by omega) (Nat.le_of_ble_eq_true rfl) rfl rfl rfl ?_
  refine vm_Model_creaks_2 hc hk hm h2 (by (try simp only [List.length_cons]); omega) (fun K3 h3 => ?_)
  refine ev_isub k220_20 ?_
  refine ev_ri k220_21 rfl ?_
  exact hQ _ h3
/-- Model.weighs -/
theorem vm_Model_weighs_2 {X : Nat × (Nat → Int32)} {d : Nat} {I : mm_I} {J : mm_I} {l : List Int32} {c : Nat} {m x : Int32} {P : Int32 → mm_I → Prop} (hc : c < 6) (hk : J 92 (7 + 4 * c) = nI 2) (hm : J 92 (7 + 4 * c + 1) = m) (h0 : tmE J I l) (hl : l.length + 4 ≤ 40) (hQ : ∀ K, tmE J K (12 :: 10 :: 11 :: 30 :: l) → P (((x + nI c) * 2) - (1 - m)) K) : mm_Ev mm_T0 X (d + 6) 221 0 (mm_ent 221 [.ref 91, .int (nI c), .int x]) [] I (mm_pi P) := by
  show mm_Ev mm_T0 X (d + 6) 221 0 [.ref 91, .int (nI c), .int x, .retAddr 0] [] I (mm_pi P)
  have tm := tM
  have tr := tR
  refine ev_ald0 k221_0 ?_
  refine ev_ild1 k221_1 ?_
  refine ev_iconst k221_2 ?_
  refine ev_cV3i k221_3 cs_226 (by first | assumption | rfl) (by omega) (Nat.le_of_ble_eq_true rfl) rfl rfl rfl ?_
  refine sm_ofv (w := 0) hc (by decide) (show _ = nI 2 from by rw [h0.1 92 (by decide) (by decide)]; exact hk) ?_
  refine ev_ist3 k221_6 rfl ?_
  refine ev_ild3 k221_7 ?_
  refine ev_iconst k221_8 ?_
  refine ev_icmp_ne k221_9 (fun h9 => ?_) (fun h9 => absurd h9 (show ¬ nI 2 = (5 : Int32) by decide))
  refine ev_ild3 k221_27 ?_
  refine ev_iconst k221_28 ?_
  refine ev_icmp_ne k221_29 (fun h29 => absurd (show nI 2 = (2 : Int32) by decide) h29) (fun h29 => ?_)
  refine ev_ald0 k221_32 ?_
  refine ev_ild1 k221_33 ?_
  refine ev_ild2 k221_34 ?_
  refine ev_cV3i k221_35 cs_282 (by first | assumption | rfl) (by omega) (Nat.le_of_ble_eq_true rfl) rfl rfl rfl ?_
  refine vm_Model_gluedWeighs_2 hc hk hm h0 (by (try simp only [List.length_cons]); omega) (fun K1 h1 => ?_)
  refine ev_goto k221_38 ?_
  refine ev_ri k221_47 rfl ?_
  exact hQ _ h1
/-- Model.plainTells -/
theorem vm_Model_plainTells_2 {X : Nat × (Nat → Int32)} {d : Nat} {I : mm_I} {J : mm_I} {l : List Int32} {c : Nat} {m x : Int32} {P : Int32 → mm_I → Prop} (hc : c < 6) (hk : J 92 (7 + 4 * c) = nI 2) (hm : J 92 (7 + 4 * c + 1) = m) (h0 : tmE J I l) (hl : l.length + 6 ≤ 40) (hQ : ∀ K, tmE J K (12 :: 12 :: 10 :: 11 :: 30 :: 13 :: l) → P ((((x + nI c) * 2) - (1 - m)) ^^^ (x - m)) K) : mm_Ev mm_T0 X (d + 7) 225 0 (mm_ent 225 [.ref 91, .int (nI c), .int x]) [] I (mm_pi P) := by
  show mm_Ev mm_T0 X (d + 7) 225 0 [.ref 91, .int (nI c), .int x, .retAddr 0] [] I (mm_pi P)
  have tm := tM
  have tr := tR
  refine ev_ald0 k225_0 ?_
  refine ev_bipush k225_1 ?_
  refine ev_cV2v k225_3 cs_277 (by first | assumption | rfl) (by omega) (Nat.le_of_ble_eq_true rfl) rfl rfl rfl ?_
  refine sm_begins h0 (by (try simp only [List.length_cons]); omega) (fun K1 h1 => ?_)
  refine ev_ald0 k225_6 ?_
  refine ev_ild1 k225_7 ?_
  refine ev_ild2 k225_8 ?_
  refine ev_cV3i k225_9 cs_285 (by first | assumption | rfl) (by omega) (Nat.le_of_ble_eq_true rfl) rfl rfl rfl ?_
  refine vm_Model_weighs_2 hc hk hm h1 (by (try simp only [List.length_cons]); omega) (fun K2 h2 => ?_)
  refine ev_ist3 k225_12 rfl ?_
  refine ev_ild3 k225_13 ?_
  refine ev_ald0 k225_14 ?_
  refine ev_ild1 k225_15 ?_
  refine ev_ild2 k225_16 ?_
  refine ev_cV3i k225_17 cs_281 (by first | assumption | rfl) (by omega) (Nat.le_of_ble_eq_true rfl) rfl rfl rfl ?_
  refine vm_Model_creaks_2 hc hk hm h2 (by (try simp only [List.length_cons]); omega) (fun K3 h3 => ?_)
  refine ev_ixor k225_20 ?_
  refine ev_ri k225_21 rfl ?_
  exact hQ _ h3
/-- Model.tells -/
theorem vm_Model_tells_2 {X : Nat × (Nat → Int32)} {d : Nat} {I : mm_I} {J : mm_I} {l : List Int32} {c : Nat} {m x : Int32} {P : Int32 → mm_I → Prop} (hc : c < 6) (hk : J 92 (7 + 4 * c) = nI 2) (hm : J 92 (7 + 4 * c + 1) = m) (h0 : tmE J I l) (hl : l.length + 6 ≤ 40) (hQ : ∀ K, tmE J K (12 :: 12 :: 10 :: 11 :: 30 :: 13 :: l) → P ((((x + nI c) * 2) - (1 - m)) ^^^ (x - m)) K) : mm_Ev mm_T0 X (d + 8) 226 0 (mm_ent 226 [.ref 91, .int (nI c), .int x]) [] I (mm_pi P) := by
  show mm_Ev mm_T0 X (d + 8) 226 0 [.ref 91, .int (nI c), .int x, .retAddr 0, .retAddr 0] [] I (mm_pi P)
  have tm := tM
  have tr := tR
  refine ev_ald0 k226_0 ?_
  refine ev_ild1 k226_1 ?_
  refine ev_iconst k226_2 ?_
  refine ev_cV3i k226_3 cs_226 (by first | assumption | rfl) (by omega) (Nat.le_of_ble_eq_true rfl) rfl rfl rfl ?_
  refine sm_ofv (w := 0) hc (by decide) (show _ = nI 2 from by rw [h0.1 92 (by decide) (by decide)]; exact hk) ?_
  refine ev_ist3 k226_6 rfl ?_
  refine ev_ild3 k226_7 ?_
  refine ev_iconst k226_8 ?_
  refine ev_icmp_ne k226_9 (fun h9 => ?_) (fun h9 => absurd h9 (show ¬ nI 2 = (4 : Int32) by decide))
  refine ev_ild3 k226_36 ?_
  refine ev_bipush k226_37 ?_
  refine ev_icmp_ne k226_39 (fun h39 => ?_) (fun h39 => absurd h39 (show ¬ nI 2 = (6 : Int32) by decide))
  refine ev_ald0 k226_66 ?_
  refine ev_ild1 k226_67 ?_
  refine ev_ild2 k226_68 ?_
  refine ev_cV3i k226_69 cs_286 (by first | assumption | rfl) (by omega) (Nat.le_of_ble_eq_true rfl) rfl rfl rfl ?_
  refine vm_Model_plainTells_2 hc hk hm h0 (by (try simp only [List.length_cons]); omega) (fun K1 h1 => ?_)
  refine ev_ri k226_72 rfl ?_
  exact hQ _ h1
/-- Model.plainSpeaks -/
theorem vm_Model_plainSpeaks_3 {X : Nat × (Nat → Int32)} {d : Nat} {I : mm_I} {J : mm_I} {l : List Int32} {c : Nat} {m x : Int32} {P : Int32 → mm_I → Prop} (hc : c < 6) (hk : J 92 (7 + 4 * c) = nI 3) (hm : J 92 (7 + 4 * c + 1) = m) (h0 : tmE J I l) (hl : l.length + 1 ≤ 40) (hQ : ∀ K, tmE J K (10 :: l) → P (x + nI c) K) : mm_Ev mm_T0 X (d + 2) 217 0 (mm_ent 217 [.ref 91, .int (nI c), .int x]) [] I (mm_pi P) := by
  show mm_Ev mm_T0 X (d + 2) 217 0 [.ref 91, .int (nI c), .int x] [] I (mm_pi P)
  have tm := tM
  have tr := tR
  refine ev_ald0 k217_0 ?_
  refine ev_bipush k217_1 ?_
  refine ev_cV2v k217_3 cs_277 (by first | assumption | rfl) (by omega) (Nat.le_of_ble_eq_true rfl) rfl rfl rfl ?_
  refine sm_begins h0 (by (try simp only [List.length_cons]); omega) (fun K1 h1 => ?_)
  refine ev_ild2 k217_6 ?_
  refine ev_ild1 k217_7 ?_
  refine ev_iadd k217_8 ?_
  refine ev_ri k217_9 rfl ?_
  exact hQ _ h1
/-- Model.speaks -/
theorem vm_Model_speaks_3 {X : Nat × (Nat → Int32)} {d : Nat} {I : mm_I} {J : mm_I} {l : List Int32} {c : Nat} {m x : Int32} {P : Int32 → mm_I → Prop} (hc : c < 6) (hk : J 92 (7 + 4 * c) = nI 3) (hm : J 92 (7 + 4 * c + 1) = m) (h0 : tmE J I l) (hl : l.length + 1 ≤ 40) (hQ : ∀ K, tmE J K (10 :: l) → P (x + nI c) K) : mm_Ev mm_T0 X (d + 3) 218 0 (mm_ent 218 [.ref 91, .int (nI c), .int x]) [] I (mm_pi P) := by
  show mm_Ev mm_T0 X (d + 3) 218 0 [.ref 91, .int (nI c), .int x, .retAddr 0] [] I (mm_pi P)
  have tm := tM
  have tr := tR
  refine ev_ald0 k218_0 ?_
  refine ev_ild1 k218_1 ?_
  refine ev_iconst k218_2 ?_
  refine ev_cV3i k218_3 cs_226 (by first | assumption | rfl) (by omega) (Nat.le_of_ble_eq_true rfl) rfl rfl rfl ?_
  refine sm_ofv (w := 0) hc (by decide) (show _ = nI 3 from by rw [h0.1 92 (by decide) (by decide)]; exact hk) ?_
  refine ev_ist3 k218_6 rfl ?_
  refine ev_ild3 k218_7 ?_
  refine ev_iconst k218_8 ?_
  refine ev_icmp_eq k218_9 (fun h9 => absurd h9 (show ¬ nI 3 = (1 : Int32) by decide)) (fun h9 => ?_)
  refine ev_ild3 k218_12 ?_
  refine ev_iconst k218_13 ?_
  refine ev_icmp_ne k218_14 (fun h14 => ?_) (fun h14 => absurd h14 (show ¬ nI 3 = (4 : Int32) by decide))
  refine ev_ald0 k218_32 ?_
  refine ev_ild1 k218_33 ?_
  refine ev_ild2 k218_34 ?_
  refine ev_cV3i k218_35 cs_278 (by first | assumption | rfl) (by omega) (Nat.le_of_ble_eq_true rfl) rfl rfl rfl ?_
  refine vm_Model_plainSpeaks_3 hc hk hm h0 (by (try simp only [List.length_cons]); omega) (fun K1 h1 => ?_)
  refine ev_ri k218_38 rfl ?_
  exact hQ _ h1
/-- Model.plainWeighs -/
theorem vm_Model_plainWeighs_3 {X : Nat × (Nat → Int32)} {d : Nat} {I : mm_I} {J : mm_I} {l : List Int32} {c : Nat} {m x : Int32} {P : Int32 → mm_I → Prop} (hc : c < 6) (hk : J 92 (7 + 4 * c) = nI 3) (hm : J 92 (7 + 4 * c + 1) = m) (h0 : tmE J I l) (hl : l.length + 2 ≤ 40) (hQ : ∀ K, tmE J K (10 :: 11 :: l) → P ((x + nI c) * 2) K) : mm_Ev mm_T0 X (d + 4) 219 0 (mm_ent 219 [.ref 91, .int (nI c), .int x]) [] I (mm_pi P) := by
  show mm_Ev mm_T0 X (d + 4) 219 0 [.ref 91, .int (nI c), .int x] [] I (mm_pi P)
  have tm := tM
  have tr := tR
  refine ev_ald0 k219_0 ?_
  refine ev_bipush k219_1 ?_
  refine ev_cV2v k219_3 cs_277 (by first | assumption | rfl) (by omega) (Nat.le_of_ble_eq_true rfl) rfl rfl rfl ?_
  refine sm_begins h0 (by (try simp only [List.length_cons]); omega) (fun K1 h1 => ?_)
  refine ev_ald0 k219_6 ?_
  refine ev_ild1 k219_7 ?_
  refine ev_ild2 k219_8 ?_
  refine ev_cV3i k219_9 cs_279 (by first | assumption | rfl) (by omega) (Nat.le_of_ble_eq_true rfl) rfl rfl rfl ?_
  refine vm_Model_speaks_3 hc hk hm h1 (by (try simp only [List.length_cons]); omega) (fun K2 h2 => ?_)
  refine ev_iconst k219_12 ?_
  refine ev_imul k219_13 ?_
  refine ev_ri k219_14 rfl ?_
  exact hQ _ h2
/-- Model.weighs -/
theorem vm_Model_weighs_3 {X : Nat × (Nat → Int32)} {d : Nat} {I : mm_I} {J : mm_I} {l : List Int32} {c : Nat} {m x : Int32} {P : Int32 → mm_I → Prop} (hc : c < 6) (hk : J 92 (7 + 4 * c) = nI 3) (hm : J 92 (7 + 4 * c + 1) = m) (h0 : tmE J I l) (hl : l.length + 2 ≤ 40) (hQ : ∀ K, tmE J K (10 :: 11 :: l) → P ((x + nI c) * 2) K) : mm_Ev mm_T0 X (d + 5) 221 0 (mm_ent 221 [.ref 91, .int (nI c), .int x]) [] I (mm_pi P) := by
  show mm_Ev mm_T0 X (d + 5) 221 0 [.ref 91, .int (nI c), .int x, .retAddr 0] [] I (mm_pi P)
  have tm := tM
  have tr := tR
  refine ev_ald0 k221_0 ?_
  refine ev_ild1 k221_1 ?_
  refine ev_iconst k221_2 ?_
  refine ev_cV3i k221_3 cs_226 (by first | assumption | rfl) (by omega) (Nat.le_of_ble_eq_true rfl) rfl rfl rfl ?_
  refine sm_ofv (w := 0) hc (by decide) (show _ = nI 3 from by rw [h0.1 92 (by decide) (by decide)]; exact hk) ?_
  refine ev_ist3 k221_6 rfl ?_
  refine ev_ild3 k221_7 ?_
  refine ev_iconst k221_8 ?_
  refine ev_icmp_ne k221_9 (fun h9 => ?_) (fun h9 => absurd h9 (show ¬ nI 3 = (5 : Int32) by decide))
  refine ev_ild3 k221_27 ?_
  refine ev_iconst k221_28 ?_
  refine ev_icmp_ne k221_29 (fun h29 => ?_) (fun h29 => absurd h29 (show ¬ nI 3 = (2 : Int32) by decide))
  refine ev_ald0 k221_41 ?_
  refine ev_ild1 k221_42 ?_
  refine ev_ild2 k221_43 ?_
  refine ev_cV3i k221_44 cs_280 (by first | assumption | rfl) (by omega) (Nat.le_of_ble_eq_true rfl) rfl rfl rfl ?_
  refine vm_Model_plainWeighs_3 hc hk hm h0 (by (try simp only [List.length_cons]); omega) (fun K1 h1 => ?_)
  refine ev_ri k221_47 rfl ?_
  exact hQ _ h1
/-- Model.plainCreaks -/
theorem vm_Model_plainCreaks_3 {X : Nat × (Nat → Int32)} {d : Nat} {I : mm_I} {J : mm_I} {l : List Int32} {c : Nat} {m x : Int32} {P : Int32 → mm_I → Prop} (hc : c < 6) (hk : J 92 (7 + 4 * c) = nI 3) (hm : J 92 (7 + 4 * c + 1) = m) (h0 : tmE J I l) (hl : l.length + 1 ≤ 40) (hQ : ∀ K, tmE J K (12 :: l) → P (x - m) K) : mm_Ev mm_T0 X (d + 2) 222 0 (mm_ent 222 [.ref 91, .int (nI c), .int x]) [] I (mm_pi P) := by
  show mm_Ev mm_T0 X (d + 2) 222 0 [.ref 91, .int (nI c), .int x] [] I (mm_pi P)
  have tm := tM
  have tr := tR
  refine ev_ald0 k222_0 ?_
  refine ev_bipush k222_1 ?_
  refine ev_cV2v k222_3 cs_277 (by first | assumption | rfl) (by omega) (Nat.le_of_ble_eq_true rfl) rfl rfl rfl ?_
  refine sm_begins h0 (by (try simp only [List.length_cons]); omega) (fun K1 h1 => ?_)
  refine ev_ild2 k222_6 ?_
  refine ev_ald0 k222_7 ?_
  refine ev_ild1 k222_8 ?_
  refine ev_iconst k222_9 ?_
  refine ev_cV3i k222_10 cs_226 (by first | assumption | rfl) (by omega) (Nat.le_of_ble_eq_true rfl) rfl rfl rfl ?_
  refine sm_ofv (w := 1) hc (by decide) (show _ = m from by rw [h1.1 92 (by decide) (by decide)]; exact hm) ?_
  refine ev_isub k222_13 ?_
  refine ev_ri k222_14 rfl ?_
  exact hQ _ h1
/-- Model.repairedCreaks -/
theorem vm_Model_repairedCreaks_3 {X : Nat × (Nat → Int32)} {d : Nat} {I : mm_I} {J : mm_I} {l : List Int32} {c : Nat} {m x : Int32} {P : Int32 → mm_I → Prop} (hc : c < 6) (hk : J 92 (7 + 4 * c) = nI 3) (hm : J 92 (7 + 4 * c + 1) = m) (h0 : tmE J I l) (hl : l.length + 2 ≤ 40) (hQ : ∀ K, tmE J K (12 :: 40 :: l) → P (-(x - m)) K) : mm_Ev mm_T0 X (d + 3) 223 0 (mm_ent 223 [.ref 91, .int (nI c), .int x]) [] I (mm_pi P) := by
  show mm_Ev mm_T0 X (d + 3) 223 0 [.ref 91, .int (nI c), .int x] [] I (mm_pi P)
  have tm := tM
  have tr := tR
  refine ev_ald0 k223_0 ?_
  refine ev_bipush k223_1 ?_
  refine ev_cV2v k223_3 cs_277 (by first | assumption | rfl) (by omega) (Nat.le_of_ble_eq_true rfl) rfl rfl rfl ?_
  refine sm_begins h0 (by (try simp only [List.length_cons]); omega) (fun K1 h1 => ?_)
  refine ev_ald0 k223_6 ?_
  refine ev_ild1 k223_7 ?_
  refine ev_ild2 k223_8 ?_
  refine ev_cV3i k223_9 cs_283 (by first | assumption | rfl) (by omega) (Nat.le_of_ble_eq_true rfl) rfl rfl rfl ?_
  refine vm_Model_plainCreaks_3 hc hk hm h1 (by (try simp only [List.length_cons]); omega) (fun K2 h2 => ?_)
  refine ev_ineg k223_12 ?_
  refine ev_ri k223_13 rfl ?_
  exact hQ _ h2
/-- Model.creaks -/
theorem vm_Model_creaks_3 {X : Nat × (Nat → Int32)} {d : Nat} {I : mm_I} {J : mm_I} {l : List Int32} {c : Nat} {m x : Int32} {P : Int32 → mm_I → Prop} (hc : c < 6) (hk : J 92 (7 + 4 * c) = nI 3) (hm : J 92 (7 + 4 * c + 1) = m) (h0 : tmE J I l) (hl : l.length + 2 ≤ 40) (hQ : ∀ K, tmE J K (12 :: 40 :: l) → P (-(x - m)) K) : mm_Ev mm_T0 X (d + 4) 224 0 (mm_ent 224 [.ref 91, .int (nI c), .int x]) [] I (mm_pi P) := by
  show mm_Ev mm_T0 X (d + 4) 224 0 [.ref 91, .int (nI c), .int x, .retAddr 0] [] I (mm_pi P)
  have tm := tM
  have tr := tR
  refine ev_ald0 k224_0 ?_
  refine ev_ild1 k224_1 ?_
  refine ev_iconst k224_2 ?_
  refine ev_cV3i k224_3 cs_226 (by first | assumption | rfl) (by omega) (Nat.le_of_ble_eq_true rfl) rfl rfl rfl ?_
  refine sm_ofv (w := 0) hc (by decide) (show _ = nI 3 from by rw [h0.1 92 (by decide) (by decide)]; exact hk) ?_
  refine ev_ist3 k224_6 rfl ?_
  refine ev_ild3 k224_7 ?_
  refine ev_bipush k224_8 ?_
  refine ev_icmp_ne k224_10 (fun h10 => ?_) (fun h10 => absurd h10 (show ¬ nI 3 = (6 : Int32) by decide))
  refine ev_ild3 k224_28 ?_
  refine ev_iconst k224_29 ?_
  refine ev_icmp_ne k224_30 (fun h30 => absurd (show nI 3 = (3 : Int32) by decide) h30) (fun h30 => ?_)
  refine ev_ald0 k224_33 ?_
  refine ev_ild1 k224_34 ?_
  refine ev_ild2 k224_35 ?_
  refine ev_cV3i k224_36 cs_284 (by first | assumption | rfl) (by omega) (Nat.le_of_ble_eq_true rfl) rfl rfl rfl ?_
  refine vm_Model_repairedCreaks_3 hc hk hm h0 (by (try simp only [List.length_cons]); omega) (fun K1 h1 => ?_)
  refine ev_goto k224_39 ?_
  refine ev_ri k224_48 rfl ?_
  exact hQ _ h1
/-- Model.plainTells -/
theorem vm_Model_plainTells_3 {X : Nat × (Nat → Int32)} {d : Nat} {I : mm_I} {J : mm_I} {l : List Int32} {c : Nat} {m x : Int32} {P : Int32 → mm_I → Prop} (hc : c < 6) (hk : J 92 (7 + 4 * c) = nI 3) (hm : J 92 (7 + 4 * c + 1) = m) (h0 : tmE J I l) (hl : l.length + 5 ≤ 40) (hQ : ∀ K, tmE J K (12 :: 40 :: 10 :: 11 :: 13 :: l) → P (((x + nI c) * 2) ^^^ (-(x - m))) K) : mm_Ev mm_T0 X (d + 6) 225 0 (mm_ent 225 [.ref 91, .int (nI c), .int x]) [] I (mm_pi P) := by
  show mm_Ev mm_T0 X (d + 6) 225 0 [.ref 91, .int (nI c), .int x, .retAddr 0] [] I (mm_pi P)
  have tm := tM
  have tr := tR
  refine ev_ald0 k225_0 ?_
  refine ev_bipush k225_1 ?_
  refine ev_cV2v k225_3 cs_277 (by first | assumption | rfl) (by omega) (Nat.le_of_ble_eq_true rfl) rfl rfl rfl ?_
  refine sm_begins h0 (by (try simp only [List.length_cons]); omega) (fun K1 h1 => ?_)
  refine ev_ald0 k225_6 ?_
  refine ev_ild1 k225_7 ?_
  refine ev_ild2 k225_8 ?_
  refine ev_cV3i k225_9 cs_285 (by first | assumption | rfl) (by omega) (Nat.le_of_ble_eq_true rfl) rfl rfl rfl ?_
  refine vm_Model_weighs_3 hc hk hm h1 (by (try simp only [List.length_cons]); omega) (fun K2 h2 => ?_)
  refine ev_ist3 k225_12 rfl ?_
  refine ev_ild3 k225_13 ?_
  refine ev_ald0 k225_14 ?_
  refine ev_ild1 k225_15 ?_
  refine ev_ild2 k225_16 ?_
  refine ev_cV3i k225_17 cs_281 (by first | assumption | rfl) (by omega) (Nat.le_of_ble_eq_true rfl) rfl rfl rfl ?_
  refine vm_Model_creaks_3 hc hk hm h2 (by (try simp only [List.length_cons]); omega) (fun K3 h3 => ?_)
  refine ev_ixor k225_20 ?_
  refine ev_ri k225_21 rfl ?_
  exact hQ _ h3
/-- Model.tells -/
theorem vm_Model_tells_3 {X : Nat × (Nat → Int32)} {d : Nat} {I : mm_I} {J : mm_I} {l : List Int32} {c : Nat} {m x : Int32} {P : Int32 → mm_I → Prop} (hc : c < 6) (hk : J 92 (7 + 4 * c) = nI 3) (hm : J 92 (7 + 4 * c + 1) = m) (h0 : tmE J I l) (hl : l.length + 5 ≤ 40) (hQ : ∀ K, tmE J K (12 :: 40 :: 10 :: 11 :: 13 :: l) → P (((x + nI c) * 2) ^^^ (-(x - m))) K) : mm_Ev mm_T0 X (d + 7) 226 0 (mm_ent 226 [.ref 91, .int (nI c), .int x]) [] I (mm_pi P) := by
  show mm_Ev mm_T0 X (d + 7) 226 0 [.ref 91, .int (nI c), .int x, .retAddr 0, .retAddr 0] [] I (mm_pi P)
  have tm := tM
  have tr := tR
  refine ev_ald0 k226_0 ?_
  refine ev_ild1 k226_1 ?_
  refine ev_iconst k226_2 ?_
  refine ev_cV3i k226_3 cs_226 (by first | assumption | rfl) (by omega) (Nat.le_of_ble_eq_true rfl) rfl rfl rfl ?_
  refine sm_ofv (w := 0) hc (by decide) (show _ = nI 3 from by rw [h0.1 92 (by decide) (by decide)]; exact hk) ?_
  refine ev_ist3 k226_6 rfl ?_
  refine ev_ild3 k226_7 ?_
  refine ev_iconst k226_8 ?_
  refine ev_icmp_ne k226_9 (fun h9 => ?_) (fun h9 => absurd h9 (show ¬ nI 3 = (4 : Int32) by decide))
  refine ev_ild3 k226_36 ?_
  refine ev_bipush k226_37 ?_
  refine ev_icmp_ne k226_39 (fun h39 => ?_) (fun h39 => absurd h39 (show ¬ nI 3 = (6 : Int32) by decide))
  refine ev_ald0 k226_66 ?_
  refine ev_ild1 k226_67 ?_
  refine ev_ild2 k226_68 ?_
  refine ev_cV3i k226_69 cs_286 (by first | assumption | rfl) (by omega) (Nat.le_of_ble_eq_true rfl) rfl rfl rfl ?_
  refine vm_Model_plainTells_3 hc hk hm h0 (by (try simp only [List.length_cons]); omega) (fun K1 h1 => ?_)
  refine ev_ri k226_72 rfl ?_
  exact hQ _ h1
/-- Model.plainSpeaks -/
theorem vm_Model_plainSpeaks_4 {X : Nat × (Nat → Int32)} {d : Nat} {I : mm_I} {J : mm_I} {l : List Int32} {c : Nat} {m x : Int32} {P : Int32 → mm_I → Prop} (hc : c < 6) (hk : J 92 (7 + 4 * c) = nI 4) (hm : J 92 (7 + 4 * c + 1) = m) (h0 : tmE J I l) (hl : l.length + 1 ≤ 40) (hQ : ∀ K, tmE J K (10 :: l) → P (x + nI c) K) : mm_Ev mm_T0 X (d + 2) 217 0 (mm_ent 217 [.ref 91, .int (nI c), .int x]) [] I (mm_pi P) := by
  show mm_Ev mm_T0 X (d + 2) 217 0 [.ref 91, .int (nI c), .int x] [] I (mm_pi P)
  have tm := tM
  have tr := tR
  refine ev_ald0 k217_0 ?_
  refine ev_bipush k217_1 ?_
  refine ev_cV2v k217_3 cs_277 (by first | assumption | rfl) (by omega) (Nat.le_of_ble_eq_true rfl) rfl rfl rfl ?_
  refine sm_begins h0 (by (try simp only [List.length_cons]); omega) (fun K1 h1 => ?_)
  refine ev_ild2 k217_6 ?_
  refine ev_ild1 k217_7 ?_
  refine ev_iadd k217_8 ?_
  refine ev_ri k217_9 rfl ?_
  exact hQ _ h1
/-- Model.speaks -/
theorem vm_Model_speaks_4 {X : Nat × (Nat → Int32)} {d : Nat} {I : mm_I} {J : mm_I} {l : List Int32} {c : Nat} {m x : Int32} {P : Int32 → mm_I → Prop} (hc : c < 6) (hk : J 92 (7 + 4 * c) = nI 4) (hm : J 92 (7 + 4 * c + 1) = m) (h0 : tmE J I l) (hl : l.length + 2 ≤ 40) (hQ : ∀ K, tmE J K (10 :: 20 :: l) → P ((x + nI c) * 3) K) : mm_Ev mm_T0 X (d + 3) 218 0 (mm_ent 218 [.ref 91, .int (nI c), .int x]) [] I (mm_pi P) := by
  show mm_Ev mm_T0 X (d + 3) 218 0 [.ref 91, .int (nI c), .int x, .retAddr 0] [] I (mm_pi P)
  have tm := tM
  have tr := tR
  refine ev_ald0 k218_0 ?_
  refine ev_ild1 k218_1 ?_
  refine ev_iconst k218_2 ?_
  refine ev_cV3i k218_3 cs_226 (by first | assumption | rfl) (by omega) (Nat.le_of_ble_eq_true rfl) rfl rfl rfl ?_
  refine sm_ofv (w := 0) hc (by decide) (show _ = nI 4 from by rw [h0.1 92 (by decide) (by decide)]; exact hk) ?_
  refine ev_ist3 k218_6 rfl ?_
  refine ev_ild3 k218_7 ?_
  refine ev_iconst k218_8 ?_
  refine ev_icmp_eq k218_9 (fun h9 => absurd h9 (show ¬ nI 4 = (1 : Int32) by decide)) (fun h9 => ?_)
  refine ev_ild3 k218_12 ?_
  refine ev_iconst k218_13 ?_
  refine ev_icmp_ne k218_14 (fun h14 => absurd (show nI 4 = (4 : Int32) by decide) h14) (fun h14 => ?_)
  refine ev_ald0 k218_17 ?_
  refine ev_bipush k218_18 ?_
  refine ev_cV2v k218_20 cs_277 (by first | assumption | rfl) (by omega) (Nat.le_of_ble_eq_true rfl) rfl rfl rfl ?_
  refine sm_begins h0 (by (try simp only [List.length_cons]); omega) (fun K1 h1 => ?_)
  refine ev_ald0 k218_23 ?_
  refine ev_ild1 k218_24 ?_
  refine ev_ild2 k218_25 ?_
  refine ev_cV3i k218_26 cs_278 (by first | assumption | rfl) (by omega) (Nat.le_of_ble_eq_true rfl) rfl rfl rfl ?_
  refine vm_Model_plainSpeaks_4 hc hk hm h1 (by (try simp only [List.length_cons]); omega) (fun K2 h2 => ?_)
  refine ev_iconst k218_29 ?_
  refine ev_imul k218_30 ?_
  refine ev_ri k218_31 rfl ?_
  exact hQ _ h2
/-- Model.plainWeighs -/
theorem vm_Model_plainWeighs_4 {X : Nat × (Nat → Int32)} {d : Nat} {I : mm_I} {J : mm_I} {l : List Int32} {c : Nat} {m x : Int32} {P : Int32 → mm_I → Prop} (hc : c < 6) (hk : J 92 (7 + 4 * c) = nI 4) (hm : J 92 (7 + 4 * c + 1) = m) (h0 : tmE J I l) (hl : l.length + 3 ≤ 40) (hQ : ∀ K, tmE J K (10 :: 20 :: 11 :: l) → P (((x + nI c) * 3) * 2) K) : mm_Ev mm_T0 X (d + 4) 219 0 (mm_ent 219 [.ref 91, .int (nI c), .int x]) [] I (mm_pi P) := by
  show mm_Ev mm_T0 X (d + 4) 219 0 [.ref 91, .int (nI c), .int x] [] I (mm_pi P)
  have tm := tM
  have tr := tR
  refine ev_ald0 k219_0 ?_
  refine ev_bipush k219_1 ?_
  refine ev_cV2v k219_3 cs_277 (by first | assumption | rfl) (by omega) (Nat.le_of_ble_eq_true rfl) rfl rfl rfl ?_
  refine sm_begins h0 (by (try simp only [List.length_cons]); omega) (fun K1 h1 => ?_)
  refine ev_ald0 k219_6 ?_
  refine ev_ild1 k219_7 ?_
  refine ev_ild2 k219_8 ?_
  refine ev_cV3i k219_9 cs_279 (by first | assumption | rfl) (by omega) (Nat.le_of_ble_eq_true rfl) rfl rfl rfl ?_
  refine vm_Model_speaks_4 hc hk hm h1 (by (try simp only [List.length_cons]); omega) (fun K2 h2 => ?_)
  refine ev_iconst k219_12 ?_
  refine ev_imul k219_13 ?_
  refine ev_ri k219_14 rfl ?_
  exact hQ _ h2
/-- Model.weighs -/
theorem vm_Model_weighs_4 {X : Nat × (Nat → Int32)} {d : Nat} {I : mm_I} {J : mm_I} {l : List Int32} {c : Nat} {m x : Int32} {P : Int32 → mm_I → Prop} (hc : c < 6) (hk : J 92 (7 + 4 * c) = nI 4) (hm : J 92 (7 + 4 * c + 1) = m) (h0 : tmE J I l) (hl : l.length + 3 ≤ 40) (hQ : ∀ K, tmE J K (10 :: 20 :: 11 :: l) → P (((x + nI c) * 3) * 2) K) : mm_Ev mm_T0 X (d + 5) 221 0 (mm_ent 221 [.ref 91, .int (nI c), .int x]) [] I (mm_pi P) := by
  show mm_Ev mm_T0 X (d + 5) 221 0 [.ref 91, .int (nI c), .int x, .retAddr 0] [] I (mm_pi P)
  have tm := tM
  have tr := tR
  refine ev_ald0 k221_0 ?_
  refine ev_ild1 k221_1 ?_
  refine ev_iconst k221_2 ?_
  refine ev_cV3i k221_3 cs_226 (by first | assumption | rfl) (by omega) (Nat.le_of_ble_eq_true rfl) rfl rfl rfl ?_
  refine sm_ofv (w := 0) hc (by decide) (show _ = nI 4 from by rw [h0.1 92 (by decide) (by decide)]; exact hk) ?_
  refine ev_ist3 k221_6 rfl ?_
  refine ev_ild3 k221_7 ?_
  refine ev_iconst k221_8 ?_
  refine ev_icmp_ne k221_9 (fun h9 => ?_) (fun h9 => absurd h9 (show ¬ nI 4 = (5 : Int32) by decide))
  refine ev_ild3 k221_27 ?_
  refine ev_iconst k221_28 ?_
  refine ev_icmp_ne k221_29 (fun h29 => ?_) (fun h29 => absurd h29 (show ¬ nI 4 = (2 : Int32) by decide))
  refine ev_ald0 k221_41 ?_
  refine ev_ild1 k221_42 ?_
  refine ev_ild2 k221_43 ?_
  refine ev_cV3i k221_44 cs_280 (by first | assumption | rfl) (by omega) (Nat.le_of_ble_eq_true rfl) rfl rfl rfl ?_
  refine vm_Model_plainWeighs_4 hc hk hm h0 (by (try simp only [List.length_cons]); omega) (fun K1 h1 => ?_)
  refine ev_ri k221_47 rfl ?_
  exact hQ _ h1
/-- Model.plainCreaks -/
theorem vm_Model_plainCreaks_4 {X : Nat × (Nat → Int32)} {d : Nat} {I : mm_I} {J : mm_I} {l : List Int32} {c : Nat} {m x : Int32} {P : Int32 → mm_I → Prop} (hc : c < 6) (hk : J 92 (7 + 4 * c) = nI 4) (hm : J 92 (7 + 4 * c + 1) = m) (h0 : tmE J I l) (hl : l.length + 1 ≤ 40) (hQ : ∀ K, tmE J K (12 :: l) → P (x - m) K) : mm_Ev mm_T0 X (d + 2) 222 0 (mm_ent 222 [.ref 91, .int (nI c), .int x]) [] I (mm_pi P) := by
  show mm_Ev mm_T0 X (d + 2) 222 0 [.ref 91, .int (nI c), .int x] [] I (mm_pi P)
  have tm := tM
  have tr := tR
  refine ev_ald0 k222_0 ?_
  refine ev_bipush k222_1 ?_
  refine ev_cV2v k222_3 cs_277 (by first | assumption | rfl) (by omega) (Nat.le_of_ble_eq_true rfl) rfl rfl rfl ?_
  refine sm_begins h0 (by (try simp only [List.length_cons]); omega) (fun K1 h1 => ?_)
  refine ev_ild2 k222_6 ?_
  refine ev_ald0 k222_7 ?_
  refine ev_ild1 k222_8 ?_
  refine ev_iconst k222_9 ?_
  refine ev_cV3i k222_10 cs_226 (by first | assumption | rfl) (by omega) (Nat.le_of_ble_eq_true rfl) rfl rfl rfl ?_
  refine sm_ofv (w := 1) hc (by decide) (show _ = m from by rw [h1.1 92 (by decide) (by decide)]; exact hm) ?_
  refine ev_isub k222_13 ?_
  refine ev_ri k222_14 rfl ?_
  exact hQ _ h1
/-- Model.creaks -/
theorem vm_Model_creaks_4 {X : Nat × (Nat → Int32)} {d : Nat} {I : mm_I} {J : mm_I} {l : List Int32} {c : Nat} {m x : Int32} {P : Int32 → mm_I → Prop} (hc : c < 6) (hk : J 92 (7 + 4 * c) = nI 4) (hm : J 92 (7 + 4 * c + 1) = m) (h0 : tmE J I l) (hl : l.length + 1 ≤ 40) (hQ : ∀ K, tmE J K (12 :: l) → P (x - m) K) : mm_Ev mm_T0 X (d + 3) 224 0 (mm_ent 224 [.ref 91, .int (nI c), .int x]) [] I (mm_pi P) := by
  show mm_Ev mm_T0 X (d + 3) 224 0 [.ref 91, .int (nI c), .int x, .retAddr 0] [] I (mm_pi P)
  have tm := tM
  have tr := tR
  refine ev_ald0 k224_0 ?_
  refine ev_ild1 k224_1 ?_
  refine ev_iconst k224_2 ?_
  refine ev_cV3i k224_3 cs_226 (by first | assumption | rfl) (by omega) (Nat.le_of_ble_eq_true rfl) rfl rfl rfl ?_
  refine sm_ofv (w := 0) hc (by decide) (show _ = nI 4 from by rw [h0.1 92 (by decide) (by decide)]; exact hk) ?_
  refine ev_ist3 k224_6 rfl ?_
  refine ev_ild3 k224_7 ?_
  refine ev_bipush k224_8 ?_
  refine ev_icmp_ne k224_10 (fun h10 => ?_) (fun h10 => absurd h10 (show ¬ nI 4 = (6 : Int32) by decide))
  refine ev_ild3 k224_28 ?_
  refine ev_iconst k224_29 ?_
  refine ev_icmp_ne k224_30 (fun h30 => ?_) (fun h30 => absurd h30 (show ¬ nI 4 = (3 : Int32) by decide))
  refine ev_ald0 k224_42 ?_
  refine ev_ild1 k224_43 ?_
  refine ev_ild2 k224_44 ?_
  refine ev_cV3i k224_45 cs_283 (by first | assumption | rfl) (by omega) (Nat.le_of_ble_eq_true rfl) rfl rfl rfl ?_
  refine vm_Model_plainCreaks_4 hc hk hm h0 (by (try simp only [List.length_cons]); omega) (fun K1 h1 => ?_)
  refine ev_ri k224_48 rfl ?_
  exact hQ _ h1
/-- Model.plainTells -/
theorem vm_Model_plainTells_4 {X : Nat × (Nat → Int32)} {d : Nat} {I : mm_I} {J : mm_I} {l : List Int32} {c : Nat} {m x : Int32} {P : Int32 → mm_I → Prop} (hc : c < 6) (hk : J 92 (7 + 4 * c) = nI 4) (hm : J 92 (7 + 4 * c + 1) = m) (h0 : tmE J I l) (hl : l.length + 5 ≤ 40) (hQ : ∀ K, tmE J K (12 :: 10 :: 20 :: 11 :: 13 :: l) → P ((((x + nI c) * 3) * 2) ^^^ (x - m)) K) : mm_Ev mm_T0 X (d + 6) 225 0 (mm_ent 225 [.ref 91, .int (nI c), .int x]) [] I (mm_pi P) := by
  show mm_Ev mm_T0 X (d + 6) 225 0 [.ref 91, .int (nI c), .int x, .retAddr 0] [] I (mm_pi P)
  have tm := tM
  have tr := tR
  refine ev_ald0 k225_0 ?_
  refine ev_bipush k225_1 ?_
  refine ev_cV2v k225_3 cs_277 (by first | assumption | rfl) (by omega) (Nat.le_of_ble_eq_true rfl) rfl rfl rfl ?_
  refine sm_begins h0 (by (try simp only [List.length_cons]); omega) (fun K1 h1 => ?_)
  refine ev_ald0 k225_6 ?_
  refine ev_ild1 k225_7 ?_
  refine ev_ild2 k225_8 ?_
  refine ev_cV3i k225_9 cs_285 (by first | assumption | rfl) (by omega) (Nat.le_of_ble_eq_true rfl) rfl rfl rfl ?_
  refine vm_Model_weighs_4 hc hk hm h1 (by (try simp only [List.length_cons]); omega) (fun K2 h2 => ?_)
  refine ev_ist3 k225_12 rfl ?_
  refine ev_ild3 k225_13 ?_
  refine ev_ald0 k225_14 ?_
  refine ev_ild1 k225_15 ?_
  refine ev_ild2 k225_16 ?_
  refine ev_cV3i k225_17 cs_281 (by first | assumption | rfl) (by omega) (Nat.le_of_ble_eq_true rfl) rfl rfl rfl ?_
  refine vm_Model_creaks_4 hc hk hm h2 (by (try simp only [List.length_cons]); omega) (fun K3 h3 => ?_)
  refine ev_ixor k225_20 ?_
  refine ev_ri k225_21 rfl ?_
  exact hQ _ h3
/-- Model.tells -/
theorem vm_Model_tells_4 {X : Nat × (Nat → Int32)} {d : Nat} {I : mm_I} {J : mm_I} {l : List Int32} {c : Nat} {m x : Int32} {P : Int32 → mm_I → Prop} (hc : c < 6) (hk : J 92 (7 + 4 * c) = nI 4) (hm : J 92 (7 + 4 * c + 1) = m) (h0 : tmE J I l) (hl : l.length + 8 ≤ 40) (hQ : ∀ K, tmE J K (10 :: 20 :: 12 :: 10 :: 20 :: 11 :: 13 :: 50 :: l) → P (((((x + nI c) * 3) * 2) ^^^ (x - m)) - ((2 + nI c) * 3)) K) : mm_Ev mm_T0 X (d + 7) 226 0 (mm_ent 226 [.ref 91, .int (nI c), .int x]) [] I (mm_pi P) := by
  show mm_Ev mm_T0 X (d + 7) 226 0 [.ref 91, .int (nI c), .int x, .retAddr 0, .retAddr 0] [] I (mm_pi P)
  have tm := tM
  have tr := tR
  refine ev_ald0 k226_0 ?_
  refine ev_ild1 k226_1 ?_
  refine ev_iconst k226_2 ?_
  refine ev_cV3i k226_3 cs_226 (by first | assumption | rfl) (by omega) (Nat.le_of_ble_eq_true rfl) rfl rfl rfl ?_
  refine sm_ofv (w := 0) hc (by decide) (show _ = nI 4 from by rw [h0.1 92 (by decide) (by decide)]; exact hk) ?_
  refine ev_ist3 k226_6 rfl ?_
  refine ev_ild3 k226_7 ?_
  refine ev_iconst k226_8 ?_
  refine ev_icmp_ne k226_9 (fun h9 => absurd (show nI 4 = (4 : Int32) by decide) h9) (fun h9 => ?_)
  refine ev_ald0 k226_12 ?_
  refine ev_bipush k226_13 ?_
  refine ev_cV2v k226_15 cs_277 (by first | assumption | rfl) (by omega) (Nat.le_of_ble_eq_true rfl) rfl rfl rfl ?_
  refine sm_begins h0 (by (try simp only [List.length_cons]); omega) (fun K1 h1 => ?_)
  refine ev_ald0 k226_18 ?_
  refine ev_ild1 k226_19 ?_
  refine ev_ild2 k226_20 ?_
  refine ev_cV3i k226_21 cs_286 (by first | assumption | rfl) (by omega) (Nat.le_of_ble_eq_true rfl) rfl rfl rfl ?_
  refine vm_Model_plainTells_4 hc hk hm h1 (by (try simp only [List.length_cons]); omega) (fun K2 h2 => ?_)
  refine ev_ist4 k226_24 rfl ?_
  refine ev_ild4 k226_26 ?_
  refine ev_ald0 k226_28 ?_
  refine ev_ild1 k226_29 ?_
  refine ev_iconst k226_30 ?_
  refine ev_cV3i k226_31 cs_279 (by first | assumption | rfl) (by omega) (Nat.le_of_ble_eq_true rfl) rfl rfl rfl ?_
  refine vm_Model_speaks_4 hc hk hm h2 (by (try simp only [List.length_cons]); omega) (fun K3 h3 => ?_)
  refine ev_isub k226_34 ?_
  refine ev_ri k226_35 rfl ?_
  exact hQ _ h3
/-- Model.plainSpeaks -/
theorem vm_Model_plainSpeaks_5 {X : Nat × (Nat → Int32)} {d : Nat} {I : mm_I} {J : mm_I} {l : List Int32} {c : Nat} {m x : Int32} {P : Int32 → mm_I → Prop} (hc : c < 6) (hk : J 92 (7 + 4 * c) = nI 5) (hm : J 92 (7 + 4 * c + 1) = m) (h0 : tmE J I l) (hl : l.length + 1 ≤ 40) (hQ : ∀ K, tmE J K (10 :: l) → P (x + nI c) K) : mm_Ev mm_T0 X (d + 2) 217 0 (mm_ent 217 [.ref 91, .int (nI c), .int x]) [] I (mm_pi P) := by
  show mm_Ev mm_T0 X (d + 2) 217 0 [.ref 91, .int (nI c), .int x] [] I (mm_pi P)
  have tm := tM
  have tr := tR
  refine ev_ald0 k217_0 ?_
  refine ev_bipush k217_1 ?_
  refine ev_cV2v k217_3 cs_277 (by first | assumption | rfl) (by omega) (Nat.le_of_ble_eq_true rfl) rfl rfl rfl ?_
  refine sm_begins h0 (by (try simp only [List.length_cons]); omega) (fun K1 h1 => ?_)
  refine ev_ild2 k217_6 ?_
  refine ev_ild1 k217_7 ?_
  refine ev_iadd k217_8 ?_
  refine ev_ri k217_9 rfl ?_
  exact hQ _ h1
/-- Model.speaks -/
theorem vm_Model_speaks_5 {X : Nat × (Nat → Int32)} {d : Nat} {I : mm_I} {J : mm_I} {l : List Int32} {c : Nat} {m x : Int32} {P : Int32 → mm_I → Prop} (hc : c < 6) (hk : J 92 (7 + 4 * c) = nI 5) (hm : J 92 (7 + 4 * c + 1) = m) (h0 : tmE J I l) (hl : l.length + 1 ≤ 40) (hQ : ∀ K, tmE J K (10 :: l) → P (x + nI c) K) : mm_Ev mm_T0 X (d + 3) 218 0 (mm_ent 218 [.ref 91, .int (nI c), .int x]) [] I (mm_pi P) := by
  show mm_Ev mm_T0 X (d + 3) 218 0 [.ref 91, .int (nI c), .int x, .retAddr 0] [] I (mm_pi P)
  have tm := tM
  have tr := tR
  refine ev_ald0 k218_0 ?_
  refine ev_ild1 k218_1 ?_
  refine ev_iconst k218_2 ?_
  refine ev_cV3i k218_3 cs_226 (by first | assumption | rfl) (by omega) (Nat.le_of_ble_eq_true rfl) rfl rfl rfl ?_
  refine sm_ofv (w := 0) hc (by decide) (show _ = nI 5 from by rw [h0.1 92 (by decide) (by decide)]; exact hk) ?_
  refine ev_ist3 k218_6 rfl ?_
  refine ev_ild3 k218_7 ?_
  refine ev_iconst k218_8 ?_
  refine ev_icmp_eq k218_9 (fun h9 => absurd h9 (show ¬ nI 5 = (1 : Int32) by decide)) (fun h9 => ?_)
  refine ev_ild3 k218_12 ?_
  refine ev_iconst k218_13 ?_
  refine ev_icmp_ne k218_14 (fun h14 => ?_) (fun h14 => absurd h14 (show ¬ nI 5 = (4 : Int32) by decide))
  refine ev_ald0 k218_32 ?_
  refine ev_ild1 k218_33 ?_
  refine ev_ild2 k218_34 ?_
  refine ev_cV3i k218_35 cs_278 (by first | assumption | rfl) (by omega) (Nat.le_of_ble_eq_true rfl) rfl rfl rfl ?_
  refine vm_Model_plainSpeaks_5 hc hk hm h0 (by (try simp only [List.length_cons]); omega) (fun K1 h1 => ?_)
  refine ev_ri k218_38 rfl ?_
  exact hQ _ h1
/-- Model.plainWeighs -/
theorem vm_Model_plainWeighs_5 {X : Nat × (Nat → Int32)} {d : Nat} {I : mm_I} {J : mm_I} {l : List Int32} {c : Nat} {m x : Int32} {P : Int32 → mm_I → Prop} (hc : c < 6) (hk : J 92 (7 + 4 * c) = nI 5) (hm : J 92 (7 + 4 * c + 1) = m) (h0 : tmE J I l) (hl : l.length + 2 ≤ 40) (hQ : ∀ K, tmE J K (10 :: 11 :: l) → P ((x + nI c) * 2) K) : mm_Ev mm_T0 X (d + 4) 219 0 (mm_ent 219 [.ref 91, .int (nI c), .int x]) [] I (mm_pi P) := by
  show mm_Ev mm_T0 X (d + 4) 219 0 [.ref 91, .int (nI c), .int x] [] I (mm_pi P)
  have tm := tM
  have tr := tR
  refine ev_ald0 k219_0 ?_
  refine ev_bipush k219_1 ?_
  refine ev_cV2v k219_3 cs_277 (by first | assumption | rfl) (by omega) (Nat.le_of_ble_eq_true rfl) rfl rfl rfl ?_
  refine sm_begins h0 (by (try simp only [List.length_cons]); omega) (fun K1 h1 => ?_)
  refine ev_ald0 k219_6 ?_
  refine ev_ild1 k219_7 ?_
  refine ev_ild2 k219_8 ?_
  refine ev_cV3i k219_9 cs_279 (by first | assumption | rfl) (by omega) (Nat.le_of_ble_eq_true rfl) rfl rfl rfl ?_
  refine vm_Model_speaks_5 hc hk hm h1 (by (try simp only [List.length_cons]); omega) (fun K2 h2 => ?_)
  refine ev_iconst k219_12 ?_
  refine ev_imul k219_13 ?_
  refine ev_ri k219_14 rfl ?_
  exact hQ _ h2
/-- Model.plainCreaks -/
theorem vm_Model_plainCreaks_5 {X : Nat × (Nat → Int32)} {d : Nat} {I : mm_I} {J : mm_I} {l : List Int32} {c : Nat} {m x : Int32} {P : Int32 → mm_I → Prop} (hc : c < 6) (hk : J 92 (7 + 4 * c) = nI 5) (hm : J 92 (7 + 4 * c + 1) = m) (h0 : tmE J I l) (hl : l.length + 1 ≤ 40) (hQ : ∀ K, tmE J K (12 :: l) → P (x - m) K) : mm_Ev mm_T0 X (d + 2) 222 0 (mm_ent 222 [.ref 91, .int (nI c), .int x]) [] I (mm_pi P) := by
  show mm_Ev mm_T0 X (d + 2) 222 0 [.ref 91, .int (nI c), .int x] [] I (mm_pi P)
  have tm := tM
  have tr := tR
  refine ev_ald0 k222_0 ?_
  refine ev_bipush k222_1 ?_
  refine ev_cV2v k222_3 cs_277 (by first | assumption | rfl) (by omega) (Nat.le_of_ble_eq_true rfl) rfl rfl rfl ?_
  refine sm_begins h0 (by (try simp only [List.length_cons]); omega) (fun K1 h1 => ?_)
  refine ev_ild2 k222_6 ?_
  refine ev_ald0 k222_7 ?_
  refine ev_ild1 k222_8 ?_
  refine ev_iconst k222_9 ?_
  refine ev_cV3i k222_10 cs_226 (by first | assumption | rfl) (by omega) (Nat.le_of_ble_eq_true rfl) rfl rfl rfl ?_
  refine sm_ofv (w := 1) hc (by decide) (show _ = m from by rw [h1.1 92 (by decide) (by decide)]; exact hm) ?_
  refine ev_isub k222_13 ?_
  refine ev_ri k222_14 rfl ?_
  exact hQ _ h1
/-- Model.creaks -/
theorem vm_Model_creaks_5 {X : Nat × (Nat → Int32)} {d : Nat} {I : mm_I} {J : mm_I} {l : List Int32} {c : Nat} {m x : Int32} {P : Int32 → mm_I → Prop} (hc : c < 6) (hk : J 92 (7 + 4 * c) = nI 5) (hm : J 92 (7 + 4 * c + 1) = m) (h0 : tmE J I l) (hl : l.length + 1 ≤ 40) (hQ : ∀ K, tmE J K (12 :: l) → P (x - m) K) : mm_Ev mm_T0 X (d + 3) 224 0 (mm_ent 224 [.ref 91, .int (nI c), .int x]) [] I (mm_pi P) := by
  show mm_Ev mm_T0 X (d + 3) 224 0 [.ref 91, .int (nI c), .int x, .retAddr 0] [] I (mm_pi P)
  have tm := tM
  have tr := tR
  refine ev_ald0 k224_0 ?_
  refine ev_ild1 k224_1 ?_
  refine ev_iconst k224_2 ?_
  refine ev_cV3i k224_3 cs_226 (by first | assumption | rfl) (by omega) (Nat.le_of_ble_eq_true rfl) rfl rfl rfl ?_
  refine sm_ofv (w := 0) hc (by decide) (show _ = nI 5 from by rw [h0.1 92 (by decide) (by decide)]; exact hk) ?_
  refine ev_ist3 k224_6 rfl ?_
  refine ev_ild3 k224_7 ?_
  refine ev_bipush k224_8 ?_
  refine ev_icmp_ne k224_10 (fun h10 => ?_) (fun h10 => absurd h10 (show ¬ nI 5 = (6 : Int32) by decide))
  refine ev_ild3 k224_28 ?_
  refine ev_iconst k224_29 ?_
  refine ev_icmp_ne k224_30 (fun h30 => ?_) (fun h30 => absurd h30 (show ¬ nI 5 = (3 : Int32) by decide))
  refine ev_ald0 k224_42 ?_
  refine ev_ild1 k224_43 ?_
  refine ev_ild2 k224_44 ?_
  refine ev_cV3i k224_45 cs_283 (by first | assumption | rfl) (by omega) (Nat.le_of_ble_eq_true rfl) rfl rfl rfl ?_
  refine vm_Model_plainCreaks_5 hc hk hm h0 (by (try simp only [List.length_cons]); omega) (fun K1 h1 => ?_)
  refine ev_ri k224_48 rfl ?_
  exact hQ _ h1
/-- Model.gluedWeighs -/
theorem vm_Model_gluedWeighs_5 {X : Nat × (Nat → Int32)} {d : Nat} {I : mm_I} {J : mm_I} {l : List Int32} {c : Nat} {m x : Int32} {P : Int32 → mm_I → Prop} (hc : c < 6) (hk : J 92 (7 + 4 * c) = nI 5) (hm : J 92 (7 + 4 * c + 1) = m) (h0 : tmE J I l) (hl : l.length + 4 ≤ 40) (hQ : ∀ K, tmE J K (12 :: 10 :: 11 :: 30 :: l) → P (((x + nI c) * 2) - (1 - m)) K) : mm_Ev mm_T0 X (d + 5) 220 0 (mm_ent 220 [.ref 91, .int (nI c), .int x]) [] I (mm_pi P) := by
  show mm_Ev mm_T0 X (d + 5) 220 0 [.ref 91, .int (nI c), .int x, .retAddr 0] [] I (mm_pi P)
  have tm := tM
  have tr := tR
  refine ev_ald0 k220_0 ?_
  refine ev_bipush k220_1 ?_
  refine ev_cV2v k220_3 cs_277 (by first | assumption | rfl) (by omega) (Nat.le_of_ble_eq_true rfl) rfl rfl rfl ?_
  refine sm_begins h0 (by (try simp only [List.length_cons]); omega) (fun K1 h1 => ?_)
  refine ev_ald0 k220_6 ?_
  refine ev_ild1 k220_7 ?_
  refine ev_ild2 k220_8 ?_
  refine ev_cV3i k220_9 cs_280 (by first | assumption | rfl) (by omega) (Nat.le_of_ble_eq_true rfl) rfl rfl rfl ?_
  refine vm_Model_plainWeighs_5 hc hk hm h1 (by (try simp only [List.length_cons]); omega) (fun K2 h2 => ?_)
  refine ev_ist3 k220_12 rfl ?_
  refine ev_ild3 k220_13 ?_
  refine ev_ald0 k220_14 ?_
  refine ev_ild1 k220_15 ?_
  refine ev_iconst k220_16 ?_
  refine ev_cV3i k220_17 cs_281 (by first | assumption | rfl) (by omega) (Nat.le_of_ble_eq_true rfl) rfl rfl rfl ?_
  refine vm_Model_creaks_5 hc hk hm h2 (by (try simp only [List.length_cons]); omega) (fun K3 h3 => ?_)
  refine ev_isub k220_20 ?_
  refine ev_ri k220_21 rfl ?_
  exact hQ _ h3
/-- Model.weighs -/
theorem vm_Model_weighs_5 {X : Nat × (Nat → Int32)} {d : Nat} {I : mm_I} {J : mm_I} {l : List Int32} {c : Nat} {m x : Int32} {P : Int32 → mm_I → Prop} (hc : c < 6) (hk : J 92 (7 + 4 * c) = nI 5) (hm : J 92 (7 + 4 * c + 1) = m) (h0 : tmE J I l) (hl : l.length + 5 ≤ 40) (hQ : ∀ K, tmE J K (12 :: 10 :: 11 :: 30 :: 60 :: l) → P ((((x + 1) + nI c) * 2) - (1 - m)) K) : mm_Ev mm_T0 X (d + 6) 221 0 (mm_ent 221 [.ref 91, .int (nI c), .int x]) [] I (mm_pi P) := by
  show mm_Ev mm_T0 X (d + 6) 221 0 [.ref 91, .int (nI c), .int x, .retAddr 0] [] I (mm_pi P)
  have tm := tM
  have tr := tR
  refine ev_ald0 k221_0 ?_
  refine ev_ild1 k221_1 ?_
  refine ev_iconst k221_2 ?_
  refine ev_cV3i k221_3 cs_226 (by first | assumption | rfl) (by omega) (Nat.le_of_ble_eq_true rfl) rfl rfl rfl ?_
  refine sm_ofv (w := 0) hc (by decide) (show _ = nI 5 from by rw [h0.1 92 (by decide) (by decide)]; exact hk) ?_
  refine ev_ist3 k221_6 rfl ?_
  refine ev_ild3 k221_7 ?_
  refine ev_iconst k221_8 ?_
  refine ev_icmp_ne k221_9 (fun h9 => absurd (show nI 5 = (5 : Int32) by decide) h9) (fun h9 => ?_)
  refine ev_ald0 k221_12 ?_
  refine ev_bipush k221_13 ?_
  refine ev_cV2v k221_15 cs_277 (by first | assumption | rfl) (by omega) (Nat.le_of_ble_eq_true rfl) rfl rfl rfl ?_
  refine sm_begins h0 (by (try simp only [List.length_cons]); omega) (fun K1 h1 => ?_)
  refine ev_ald0 k221_18 ?_
  refine ev_ild1 k221_19 ?_
  refine ev_ild2 k221_20 ?_
  refine ev_iconst k221_21 ?_
  refine ev_iadd k221_22 ?_
  refine ev_cV3i k221_23 cs_282 (by first | assumption | rfl) (by omega) (Nat.le_of_ble_eq_true rfl) rfl rfl rfl ?_
  refine vm_Model_gluedWeighs_5 hc hk hm h1 (by (try simp only [List.length_cons]); omega) (fun K2 h2 => ?_)
  refine ev_ri k221_26 rfl ?_
  exact hQ _ h2
/-- Model.plainTells -/
theorem vm_Model_plainTells_5 {X : Nat × (Nat → Int32)} {d : Nat} {I : mm_I} {J : mm_I} {l : List Int32} {c : Nat} {m x : Int32} {P : Int32 → mm_I → Prop} (hc : c < 6) (hk : J 92 (7 + 4 * c) = nI 5) (hm : J 92 (7 + 4 * c + 1) = m) (h0 : tmE J I l) (hl : l.length + 7 ≤ 40) (hQ : ∀ K, tmE J K (12 :: 12 :: 10 :: 11 :: 30 :: 60 :: 13 :: l) → P (((((x + 1) + nI c) * 2) - (1 - m)) ^^^ (x - m)) K) : mm_Ev mm_T0 X (d + 7) 225 0 (mm_ent 225 [.ref 91, .int (nI c), .int x]) [] I (mm_pi P) := by
  show mm_Ev mm_T0 X (d + 7) 225 0 [.ref 91, .int (nI c), .int x, .retAddr 0] [] I (mm_pi P)
  have tm := tM
  have tr := tR
  refine ev_ald0 k225_0 ?_
  refine ev_bipush k225_1 ?_
  refine ev_cV2v k225_3 cs_277 (by first | assumption | rfl) (by omega) (Nat.le_of_ble_eq_true rfl) rfl rfl rfl ?_
  refine sm_begins h0 (by (try simp only [List.length_cons]); omega) (fun K1 h1 => ?_)
  refine ev_ald0 k225_6 ?_
  refine ev_ild1 k225_7 ?_
  refine ev_ild2 k225_8 ?_
  refine ev_cV3i k225_9 cs_285 (by first | assumption | rfl) (by omega) (Nat.le_of_ble_eq_true rfl) rfl rfl rfl ?_
  refine vm_Model_weighs_5 hc hk hm h1 (by (try simp only [List.length_cons]); omega) (fun K2 h2 => ?_)
  refine ev_ist3 k225_12 rfl ?_
  refine ev_ild3 k225_13 ?_
  refine ev_ald0 k225_14 ?_
  refine ev_ild1 k225_15 ?_
  refine ev_ild2 k225_16 ?_
  refine ev_cV3i k225_17 cs_281 (by first | assumption | rfl) (by omega) (Nat.le_of_ble_eq_true rfl) rfl rfl rfl ?_
  refine vm_Model_creaks_5 hc hk hm h2 (by (try simp only [List.length_cons]); omega) (fun K3 h3 => ?_)
  refine ev_ixor k225_20 ?_
  refine ev_ri k225_21 rfl ?_
  exact hQ _ h3
/-- Model.tells -/
theorem vm_Model_tells_5 {X : Nat × (Nat → Int32)} {d : Nat} {I : mm_I} {J : mm_I} {l : List Int32} {c : Nat} {m x : Int32} {P : Int32 → mm_I → Prop} (hc : c < 6) (hk : J 92 (7 + 4 * c) = nI 5) (hm : J 92 (7 + 4 * c + 1) = m) (h0 : tmE J I l) (hl : l.length + 7 ≤ 40) (hQ : ∀ K, tmE J K (12 :: 12 :: 10 :: 11 :: 30 :: 60 :: 13 :: l) → P (((((x + 1) + nI c) * 2) - (1 - m)) ^^^ (x - m)) K) : mm_Ev mm_T0 X (d + 8) 226 0 (mm_ent 226 [.ref 91, .int (nI c), .int x]) [] I (mm_pi P) := by
  show mm_Ev mm_T0 X (d + 8) 226 0 [.ref 91, .int (nI c), .int x, .retAddr 0, .retAddr 0] [] I (mm_pi P)
  have tm := tM
  have tr := tR
  refine ev_ald0 k226_0 ?_
  refine ev_ild1 k226_1 ?_
  refine ev_iconst k226_2 ?_
  refine ev_cV3i k226_3 cs_226 (by first | assumption | rfl) (by omega) (Nat.le_of_ble_eq_true rfl) rfl rfl rfl ?_
  refine sm_ofv (w := 0) hc (by decide) (show _ = nI 5 from by rw [h0.1 92 (by decide) (by decide)]; exact hk) ?_
  refine ev_ist3 k226_6 rfl ?_
  refine ev_ild3 k226_7 ?_
  refine ev_iconst k226_8 ?_
  refine ev_icmp_ne k226_9 (fun h9 => ?_) (fun h9 => absurd h9 (show ¬ nI 5 = (4 : Int32) by decide))
  refine ev_ild3 k226_36 ?_
  refine ev_bipush k226_37 ?_
  refine ev_icmp_ne k226_39 (fun h39 => ?_) (fun h39 => absurd h39 (show ¬ nI 5 = (6 : Int32) by decide))
  refine ev_ald0 k226_66 ?_
  refine ev_ild1 k226_67 ?_
  refine ev_ild2 k226_68 ?_
  refine ev_cV3i k226_69 cs_286 (by first | assumption | rfl) (by omega) (Nat.le_of_ble_eq_true rfl) rfl rfl rfl ?_
  refine vm_Model_plainTells_5 hc hk hm h0 (by (try simp only [List.length_cons]); omega) (fun K1 h1 => ?_)
  refine ev_ri k226_72 rfl ?_
  exact hQ _ h1
/-- Model.plainSpeaks -/
theorem vm_Model_plainSpeaks_6 {X : Nat × (Nat → Int32)} {d : Nat} {I : mm_I} {J : mm_I} {l : List Int32} {c : Nat} {m x : Int32} {P : Int32 → mm_I → Prop} (hc : c < 6) (hk : J 92 (7 + 4 * c) = nI 6) (hm : J 92 (7 + 4 * c + 1) = m) (h0 : tmE J I l) (hl : l.length + 1 ≤ 40) (hQ : ∀ K, tmE J K (10 :: l) → P (x + nI c) K) : mm_Ev mm_T0 X (d + 2) 217 0 (mm_ent 217 [.ref 91, .int (nI c), .int x]) [] I (mm_pi P) := by
  show mm_Ev mm_T0 X (d + 2) 217 0 [.ref 91, .int (nI c), .int x] [] I (mm_pi P)
  have tm := tM
  have tr := tR
  refine ev_ald0 k217_0 ?_
  refine ev_bipush k217_1 ?_
  refine ev_cV2v k217_3 cs_277 (by first | assumption | rfl) (by omega) (Nat.le_of_ble_eq_true rfl) rfl rfl rfl ?_
  refine sm_begins h0 (by (try simp only [List.length_cons]); omega) (fun K1 h1 => ?_)
  refine ev_ild2 k217_6 ?_
  refine ev_ild1 k217_7 ?_
  refine ev_iadd k217_8 ?_
  refine ev_ri k217_9 rfl ?_
  exact hQ _ h1
/-- Model.speaks -/
theorem vm_Model_speaks_6 {X : Nat × (Nat → Int32)} {d : Nat} {I : mm_I} {J : mm_I} {l : List Int32} {c : Nat} {m x : Int32} {P : Int32 → mm_I → Prop} (hc : c < 6) (hk : J 92 (7 + 4 * c) = nI 6) (hm : J 92 (7 + 4 * c + 1) = m) (h0 : tmE J I l) (hl : l.length + 1 ≤ 40) (hQ : ∀ K, tmE J K (10 :: l) → P (x + nI c) K) : mm_Ev mm_T0 X (d + 3) 218 0 (mm_ent 218 [.ref 91, .int (nI c), .int x]) [] I (mm_pi P) := by
  show mm_Ev mm_T0 X (d + 3) 218 0 [.ref 91, .int (nI c), .int x, .retAddr 0] [] I (mm_pi P)
  have tm := tM
  have tr := tR
  refine ev_ald0 k218_0 ?_
  refine ev_ild1 k218_1 ?_
  refine ev_iconst k218_2 ?_
  refine ev_cV3i k218_3 cs_226 (by first | assumption | rfl) (by omega) (Nat.le_of_ble_eq_true rfl) rfl rfl rfl ?_
  refine sm_ofv (w := 0) hc (by decide) (show _ = nI 6 from by rw [h0.1 92 (by decide) (by decide)]; exact hk) ?_
  refine ev_ist3 k218_6 rfl ?_
  refine ev_ild3 k218_7 ?_
  refine ev_iconst k218_8 ?_
  refine ev_icmp_eq k218_9 (fun h9 => absurd h9 (show ¬ nI 6 = (1 : Int32) by decide)) (fun h9 => ?_)
  refine ev_ild3 k218_12 ?_
  refine ev_iconst k218_13 ?_
  refine ev_icmp_ne k218_14 (fun h14 => ?_) (fun h14 => absurd h14 (show ¬ nI 6 = (4 : Int32) by decide))
  refine ev_ald0 k218_32 ?_
  refine ev_ild1 k218_33 ?_
  refine ev_ild2 k218_34 ?_
  refine ev_cV3i k218_35 cs_278 (by first | assumption | rfl) (by omega) (Nat.le_of_ble_eq_true rfl) rfl rfl rfl ?_
  refine vm_Model_plainSpeaks_6 hc hk hm h0 (by (try simp only [List.length_cons]); omega) (fun K1 h1 => ?_)
  refine ev_ri k218_38 rfl ?_
  exact hQ _ h1
/-- Model.plainWeighs -/
theorem vm_Model_plainWeighs_6 {X : Nat × (Nat → Int32)} {d : Nat} {I : mm_I} {J : mm_I} {l : List Int32} {c : Nat} {m x : Int32} {P : Int32 → mm_I → Prop} (hc : c < 6) (hk : J 92 (7 + 4 * c) = nI 6) (hm : J 92 (7 + 4 * c + 1) = m) (h0 : tmE J I l) (hl : l.length + 2 ≤ 40) (hQ : ∀ K, tmE J K (10 :: 11 :: l) → P ((x + nI c) * 2) K) : mm_Ev mm_T0 X (d + 4) 219 0 (mm_ent 219 [.ref 91, .int (nI c), .int x]) [] I (mm_pi P) := by
  show mm_Ev mm_T0 X (d + 4) 219 0 [.ref 91, .int (nI c), .int x] [] I (mm_pi P)
  have tm := tM
  have tr := tR
  refine ev_ald0 k219_0 ?_
  refine ev_bipush k219_1 ?_
  refine ev_cV2v k219_3 cs_277 (by first | assumption | rfl) (by omega) (Nat.le_of_ble_eq_true rfl) rfl rfl rfl ?_
  refine sm_begins h0 (by (try simp only [List.length_cons]); omega) (fun K1 h1 => ?_)
  refine ev_ald0 k219_6 ?_
  refine ev_ild1 k219_7 ?_
  refine ev_ild2 k219_8 ?_
  refine ev_cV3i k219_9 cs_279 (by first | assumption | rfl) (by omega) (Nat.le_of_ble_eq_true rfl) rfl rfl rfl ?_
  refine vm_Model_speaks_6 hc hk hm h1 (by (try simp only [List.length_cons]); omega) (fun K2 h2 => ?_)
  refine ev_iconst k219_12 ?_
  refine ev_imul k219_13 ?_
  refine ev_ri k219_14 rfl ?_
  exact hQ _ h2
/-- Model.weighs -/
theorem vm_Model_weighs_6 {X : Nat × (Nat → Int32)} {d : Nat} {I : mm_I} {J : mm_I} {l : List Int32} {c : Nat} {m x : Int32} {P : Int32 → mm_I → Prop} (hc : c < 6) (hk : J 92 (7 + 4 * c) = nI 6) (hm : J 92 (7 + 4 * c + 1) = m) (h0 : tmE J I l) (hl : l.length + 2 ≤ 40) (hQ : ∀ K, tmE J K (10 :: 11 :: l) → P ((x + nI c) * 2) K) : mm_Ev mm_T0 X (d + 5) 221 0 (mm_ent 221 [.ref 91, .int (nI c), .int x]) [] I (mm_pi P) := by
  show mm_Ev mm_T0 X (d + 5) 221 0 [.ref 91, .int (nI c), .int x, .retAddr 0] [] I (mm_pi P)
  have tm := tM
  have tr := tR
  refine ev_ald0 k221_0 ?_
  refine ev_ild1 k221_1 ?_
  refine ev_iconst k221_2 ?_
  refine ev_cV3i k221_3 cs_226 (by first | assumption | rfl) (by omega) (Nat.le_of_ble_eq_true rfl) rfl rfl rfl ?_
  refine sm_ofv (w := 0) hc (by decide) (show _ = nI 6 from by rw [h0.1 92 (by decide) (by decide)]; exact hk) ?_
  refine ev_ist3 k221_6 rfl ?_
  refine ev_ild3 k221_7 ?_
  refine ev_iconst k221_8 ?_
  refine ev_icmp_ne k221_9 (fun h9 => ?_) (fun h9 => absurd h9 (show ¬ nI 6 = (5 : Int32) by decide))
  refine ev_ild3 k221_27 ?_
  refine ev_iconst k221_28 ?_
  refine ev_icmp_ne k221_29 (fun h29 => ?_) (fun h29 => absurd h29 (show ¬ nI 6 = (2 : Int32) by decide))
  refine ev_ald0 k221_41 ?_
  refine ev_ild1 k221_42 ?_
  refine ev_ild2 k221_43 ?_
  refine ev_cV3i k221_44 cs_280 (by first | assumption | rfl) (by omega) (Nat.le_of_ble_eq_true rfl) rfl rfl rfl ?_
  refine vm_Model_plainWeighs_6 hc hk hm h0 (by (try simp only [List.length_cons]); omega) (fun K1 h1 => ?_)
  refine ev_ri k221_47 rfl ?_
  exact hQ _ h1
/-- Model.plainCreaks -/
theorem vm_Model_plainCreaks_6 {X : Nat × (Nat → Int32)} {d : Nat} {I : mm_I} {J : mm_I} {l : List Int32} {c : Nat} {m x : Int32} {P : Int32 → mm_I → Prop} (hc : c < 6) (hk : J 92 (7 + 4 * c) = nI 6) (hm : J 92 (7 + 4 * c + 1) = m) (h0 : tmE J I l) (hl : l.length + 1 ≤ 40) (hQ : ∀ K, tmE J K (12 :: l) → P (x - m) K) : mm_Ev mm_T0 X (d + 2) 222 0 (mm_ent 222 [.ref 91, .int (nI c), .int x]) [] I (mm_pi P) := by
  show mm_Ev mm_T0 X (d + 2) 222 0 [.ref 91, .int (nI c), .int x] [] I (mm_pi P)
  have tm := tM
  have tr := tR
  refine ev_ald0 k222_0 ?_
  refine ev_bipush k222_1 ?_
  refine ev_cV2v k222_3 cs_277 (by first | assumption | rfl) (by omega) (Nat.le_of_ble_eq_true rfl) rfl rfl rfl ?_
  refine sm_begins h0 (by (try simp only [List.length_cons]); omega) (fun K1 h1 => ?_)
  refine ev_ild2 k222_6 ?_
  refine ev_ald0 k222_7 ?_
  refine ev_ild1 k222_8 ?_
  refine ev_iconst k222_9 ?_
  refine ev_cV3i k222_10 cs_226 (by first | assumption | rfl) (by omega) (Nat.le_of_ble_eq_true rfl) rfl rfl rfl ?_
  refine sm_ofv (w := 1) hc (by decide) (show _ = m from by rw [h1.1 92 (by decide) (by decide)]; exact hm) ?_
  refine ev_isub k222_13 ?_
  refine ev_ri k222_14 rfl ?_
  exact hQ _ h1
/-- Model.repairedCreaks -/
theorem vm_Model_repairedCreaks_6 {X : Nat × (Nat → Int32)} {d : Nat} {I : mm_I} {J : mm_I} {l : List Int32} {c : Nat} {m x : Int32} {P : Int32 → mm_I → Prop} (hc : c < 6) (hk : J 92 (7 + 4 * c) = nI 6) (hm : J 92 (7 + 4 * c + 1) = m) (h0 : tmE J I l) (hl : l.length + 2 ≤ 40) (hQ : ∀ K, tmE J K (12 :: 40 :: l) → P (-(x - m)) K) : mm_Ev mm_T0 X (d + 3) 223 0 (mm_ent 223 [.ref 91, .int (nI c), .int x]) [] I (mm_pi P) := by
  show mm_Ev mm_T0 X (d + 3) 223 0 [.ref 91, .int (nI c), .int x] [] I (mm_pi P)
  have tm := tM
  have tr := tR
  refine ev_ald0 k223_0 ?_
  refine ev_bipush k223_1 ?_
  refine ev_cV2v k223_3 cs_277 (by first | assumption | rfl) (by omega) (Nat.le_of_ble_eq_true rfl) rfl rfl rfl ?_
  refine sm_begins h0 (by (try simp only [List.length_cons]); omega) (fun K1 h1 => ?_)
  refine ev_ald0 k223_6 ?_
  refine ev_ild1 k223_7 ?_
  refine ev_ild2 k223_8 ?_
  refine ev_cV3i k223_9 cs_283 (by first | assumption | rfl) (by omega) (Nat.le_of_ble_eq_true rfl) rfl rfl rfl ?_
  refine vm_Model_plainCreaks_6 hc hk hm h1 (by (try simp only [List.length_cons]); omega) (fun K2 h2 => ?_)
  refine ev_ineg k223_12 ?_
  refine ev_ri k223_13 rfl ?_
  exact hQ _ h2
/-- Model.creaks -/
theorem vm_Model_creaks_6 {X : Nat × (Nat → Int32)} {d : Nat} {I : mm_I} {J : mm_I} {l : List Int32} {c : Nat} {m x : Int32} {P : Int32 → mm_I → Prop} (hc : c < 6) (hk : J 92 (7 + 4 * c) = nI 6) (hm : J 92 (7 + 4 * c + 1) = m) (h0 : tmE J I l) (hl : l.length + 3 ≤ 40) (hQ : ∀ K, tmE J K (12 :: 40 :: 70 :: l) → P ((-(x - m)) ^^^ nI c) K) : mm_Ev mm_T0 X (d + 4) 224 0 (mm_ent 224 [.ref 91, .int (nI c), .int x]) [] I (mm_pi P) := by
  show mm_Ev mm_T0 X (d + 4) 224 0 [.ref 91, .int (nI c), .int x, .retAddr 0] [] I (mm_pi P)
  have tm := tM
  have tr := tR
  refine ev_ald0 k224_0 ?_
  refine ev_ild1 k224_1 ?_
  refine ev_iconst k224_2 ?_
  refine ev_cV3i k224_3 cs_226 (by first | assumption | rfl) (by omega) (Nat.le_of_ble_eq_true rfl) rfl rfl rfl ?_
  refine sm_ofv (w := 0) hc (by decide) (show _ = nI 6 from by rw [h0.1 92 (by decide) (by decide)]; exact hk) ?_
  refine ev_ist3 k224_6 rfl ?_
  refine ev_ild3 k224_7 ?_
  refine ev_bipush k224_8 ?_
  refine ev_icmp_ne k224_10 (fun h10 => absurd (show nI 6 = (6 : Int32) by decide) h10) (fun h10 => ?_)
  refine ev_ald0 k224_13 ?_
  refine ev_bipush k224_14 ?_
  refine ev_cV2v k224_16 cs_277 (by first | assumption | rfl) (by omega) (Nat.le_of_ble_eq_true rfl) rfl rfl rfl ?_
  refine sm_begins h0 (by (try simp only [List.length_cons]); omega) (fun K1 h1 => ?_)
  refine ev_ald0 k224_19 ?_
  refine ev_ild1 k224_20 ?_
  refine ev_ild2 k224_21 ?_
  refine ev_cV3i k224_22 cs_284 (by first | assumption | rfl) (by omega) (Nat.le_of_ble_eq_true rfl) rfl rfl rfl ?_
  refine vm_Model_repairedCreaks_6 hc hk hm h1 (by (try simp only [List.length_cons]); omega) (fun K2 h2 => ?_)
  refine ev_ild1 k224_25 ?_
  refine ev_ixor k224_26 ?_
  refine ev_ri k224_27 rfl ?_
  exact hQ _ h2
/-- Model.plainTells -/
theorem vm_Model_plainTells_6 {X : Nat × (Nat → Int32)} {d : Nat} {I : mm_I} {J : mm_I} {l : List Int32} {c : Nat} {m x : Int32} {P : Int32 → mm_I → Prop} (hc : c < 6) (hk : J 92 (7 + 4 * c) = nI 6) (hm : J 92 (7 + 4 * c + 1) = m) (h0 : tmE J I l) (hl : l.length + 6 ≤ 40) (hQ : ∀ K, tmE J K (12 :: 40 :: 70 :: 10 :: 11 :: 13 :: l) → P (((x + nI c) * 2) ^^^ ((-(x - m)) ^^^ nI c)) K) : mm_Ev mm_T0 X (d + 6) 225 0 (mm_ent 225 [.ref 91, .int (nI c), .int x]) [] I (mm_pi P) := by
  show mm_Ev mm_T0 X (d + 6) 225 0 [.ref 91, .int (nI c), .int x, .retAddr 0] [] I (mm_pi P)
  have tm := tM
  have tr := tR
  refine ev_ald0 k225_0 ?_
  refine ev_bipush k225_1 ?_
  refine ev_cV2v k225_3 cs_277 (by first | assumption | rfl) (by omega) (Nat.le_of_ble_eq_true rfl) rfl rfl rfl ?_
  refine sm_begins h0 (by (try simp only [List.length_cons]); omega) (fun K1 h1 => ?_)
  refine ev_ald0 k225_6 ?_
  refine ev_ild1 k225_7 ?_
  refine ev_ild2 k225_8 ?_
  refine ev_cV3i k225_9 cs_285 (by first | assumption | rfl) (by omega) (Nat.le_of_ble_eq_true rfl) rfl rfl rfl ?_
  refine vm_Model_weighs_6 hc hk hm h1 (by (try simp only [List.length_cons]); omega) (fun K2 h2 => ?_)
  refine ev_ist3 k225_12 rfl ?_
  refine ev_ild3 k225_13 ?_
  refine ev_ald0 k225_14 ?_
  refine ev_ild1 k225_15 ?_
  refine ev_ild2 k225_16 ?_
  refine ev_cV3i k225_17 cs_281 (by first | assumption | rfl) (by omega) (Nat.le_of_ble_eq_true rfl) rfl rfl rfl ?_
  refine vm_Model_creaks_6 hc hk hm h2 (by (try simp only [List.length_cons]); omega) (fun K3 h3 => ?_)
  refine ev_ixor k225_20 ?_
  refine ev_ri k225_21 rfl ?_
  exact hQ _ h3
/-- Model.tells -/
theorem vm_Model_tells_6 {X : Nat × (Nat → Int32)} {d : Nat} {I : mm_I} {J : mm_I} {l : List Int32} {c : Nat} {m x : Int32} {P : Int32 → mm_I → Prop} (hc : c < 6) (hk : J 92 (7 + 4 * c) = nI 6) (hm : J 92 (7 + 4 * c + 1) = m) (h0 : tmE J I l) (hl : l.length + 9 ≤ 40) (hQ : ∀ K, tmE J K (12 :: 40 :: 70 :: 10 :: 11 :: 13 :: 10 :: 11 :: 71 :: l) → P (((x + nI c) * 2) - (((x + nI c) * 2) ^^^ ((-(x - m)) ^^^ nI c))) K) : mm_Ev mm_T0 X (d + 7) 226 0 (mm_ent 226 [.ref 91, .int (nI c), .int x]) [] I (mm_pi P) := by
  show mm_Ev mm_T0 X (d + 7) 226 0 [.ref 91, .int (nI c), .int x, .retAddr 0, .retAddr 0] [] I (mm_pi P)
  have tm := tM
  have tr := tR
  refine ev_ald0 k226_0 ?_
  refine ev_ild1 k226_1 ?_
  refine ev_iconst k226_2 ?_
  refine ev_cV3i k226_3 cs_226 (by first | assumption | rfl) (by omega) (Nat.le_of_ble_eq_true rfl) rfl rfl rfl ?_
  refine sm_ofv (w := 0) hc (by decide) (show _ = nI 6 from by rw [h0.1 92 (by decide) (by decide)]; exact hk) ?_
  refine ev_ist3 k226_6 rfl ?_
  refine ev_ild3 k226_7 ?_
  refine ev_iconst k226_8 ?_
  refine ev_icmp_ne k226_9 (fun h9 => ?_) (fun h9 => absurd h9 (show ¬ nI 6 = (4 : Int32) by decide))
  refine ev_ild3 k226_36 ?_
  refine ev_bipush k226_37 ?_
  refine ev_icmp_ne k226_39 (fun h39 => absurd (show nI 6 = (6 : Int32) by decide) h39) (fun h39 => ?_)
  refine ev_ald0 k226_42 ?_
  refine ev_bipush k226_43 ?_
  refine ev_cV2v k226_45 cs_277 (by first | assumption | rfl) (by omega) (Nat.le_of_ble_eq_true rfl) rfl rfl rfl ?_
  refine sm_begins h0 (by (try simp only [List.length_cons]); omega) (fun K1 h1 => ?_)
  refine ev_ald0 k226_48 ?_
  refine ev_ild1 k226_49 ?_
  refine ev_ild2 k226_50 ?_
  refine ev_cV3i k226_51 cs_285 (by first | assumption | rfl) (by omega) (Nat.le_of_ble_eq_true rfl) rfl rfl rfl ?_
  refine vm_Model_weighs_6 hc hk hm h1 (by (try simp only [List.length_cons]); omega) (fun K2 h2 => ?_)
  refine ev_ist4 k226_54 rfl ?_
  refine ev_ild4 k226_56 ?_
  refine ev_ald0 k226_58 ?_
  refine ev_ild1 k226_59 ?_
  refine ev_ild2 k226_60 ?_
  refine ev_cV3i k226_61 cs_286 (by first | assumption | rfl) (by omega) (Nat.le_of_ble_eq_true rfl) rfl rfl rfl ?_
  refine vm_Model_plainTells_6 hc hk hm h2 (by (try simp only [List.length_cons]); omega) (fun K3 h3 => ?_)
  refine ev_isub k226_64 ?_
  refine ev_ri k226_65 rfl ?_
  exact hQ _ h3
/-- CV.voice -/
theorem op_voice {X : Nat × (Nat → Int32)} {d : Nat} {I : mm_I} {P : Int32 → mm_I → Prop} {a : Int32} {b : Int32} {e : Int32} (inv : Inv I) (hQ : ∀ v J, mm_Ev mm_T0 X (d + 60) 227 0 (mm_ent 227 [.ref 91, .int a, .int b, .int e]) [] J (mm_pi fun w K => w = v ∧ Inv K) → P v J) : mm_Ev mm_T0 X (d + 60) 103 0 (mm_ent 103 [.ref 0, .int a, .int b, .int e]) [] I (mm_pi P) := by
  show mm_Ev mm_T0 X (d + 60) 103 0 [.ref 0, .int a, .int b, .int e, .retAddr 0, .retAddr 0] [] I (mm_pi P)
  obtain ⟨nc, np, hs⟩ := inv.1
  obtain ⟨c1, n6, p1, p6, rc, rp, rm, ok, sr, tt⟩ := hsF hs
  have t0 := tCV
  have tm := tM
  have tr := tR
  refine ev_ald0 k103_0 ?_
  refine ev_ild1 k103_1 ?_
  refine ev_cV2i k103_2 cs_176 (by first | assumption | rfl) (by omega) (Nat.le_of_ble_eq_true rfl) rfl rfl rfl ?_
  refine sp_cChair c1 ?_
  refine ev_ifz_eq k103_5 (fun h5 => ?_) (fun h5 => ?_)
  ·
    refine ev_ald0 k103_17 ?_
    refine ev_ldc k103_18 ?_
    refine ev_cV2i k103_20 cs_174 (by first | assumption | rfl) (by omega) (Nat.le_of_ble_eq_true rfl) rfl rfl rfl ?_
    refine sp_error (k := 1) (by decide) (by decide) (by decide) ?_
    refine ev_ri k103_23 rfl ?_
    refine hQ _ _ ?_
    show mm_Ev mm_T0 X (d + 60) 227 0 [.ref 91, .int _, .int _, .int _] [] _ (mm_pi _)
    refine ev_ald0 k227_0 ?_
    refine ev_ild1 k227_1 ?_
    refine ev_cV2i k227_2 cs_239 (by first | assumption | rfl) (by omega) (Nat.le_of_ble_eq_true rfl) rfl rfl rfl ?_
    refine sm_cChair (show _ = nI nc from rc) ?_
    refine ev_ifz_eq k227_5 (fun g5 => ?_) (fun g5 => Bool.noConfusion (Eq.trans (Eq.symm h5) g5))
    refine ev_ald0 k227_17 ?_
    refine ev_ldc k227_18 ?_
    refine ev_cV2i k227_20 cs_238 (by first | assumption | rfl) (by omega) (Nat.le_of_ble_eq_true rfl) rfl rfl rfl ?_
    refine sm_error (k := 1) (by decide) (by decide) ?_
    refine ev_ri k227_23 rfl ?_
    first | exact ⟨rfl, Inv_e rfl rfl inv⟩ | exact ⟨rfl, inv⟩
  ·
    obtain ⟨c, hc, rfl⟩ := wB_in (n := nc) (by omega) h5
    refine ev_ild2 k103_8 ?_
    refine ev_iconst k103_9 ?_
    refine ev_iconst k103_10 ?_
    refine ev_cS3i k103_11 cs_179 rfl rfl rfl ?_
    refine sp_isWithin ?_
    refine ev_ifz_ne k103_14 (fun h14 => ?_) (fun h14 => ?_)
    ·
      refine ev_ald0 k103_24 ?_
      refine ev_getr k103_25 (by first | assumption | rfl) rfl rfl rfl ?_
      refine ev_cV1v k103_28 cs_188 (by first | assumption | rfl) (by omega) (Nat.le_of_ble_eq_true rfl) rfl rfl rfl ?_
      refine sp_clear (ra := 1) rfl ?_
      have h0 : tcE I (mm_up I 1 2 0) [] := ⟨fun k a b => mm_up_ne _ _ _ _ _ a, by rw [mm_up_at, if_neg (by decide)]; exact inv.2.2.2.1.choose_spec.2.1, by rw [mm_up_at, if_pos ⟨rfl, rfl⟩]; rfl, trivial⟩
      obtain ⟨ek, ek7⟩ := ok.2.2.1 c hc
      generalize hK I 11 c = kk at ek ek7
      rcases (show kk = 0 ∨ kk = 1 ∨ kk = 2 ∨ kk = 3 ∨ kk = 4 ∨ kk = 5 ∨ kk = 6 by omega) with rfl | rfl | rfl | rfl | rfl | rfl | rfl
      ·
        refine ev_ald0 k103_31 ?_
        refine ev_getr k103_32 (by first | assumption | rfl) rfl rfl rfl ?_
        refine ev_ild1 k103_35 ?_
        refine ev_cV2r k103_36 cs_209 (by first | assumption | rfl) (by omega) (Nat.le_of_ble_eq_true rfl) rfl rfl rfl ?_
        refine sp_kindOf hh11 (show c < 6 by omega) (k := 0) ek (by decide) ?_
        refine ev_ast4 k103_39 rfl ?_
        refine ev_ald0 k103_41 ?_
        refine ev_getr k103_42 (by first | assumption | rfl) rfl rfl rfl ?_
        refine ev_getr k103_45 (by first | assumption | rfl) rfl rfl rfl ?_
        refine ev_ild1 k103_48 ?_
        refine ev_ialv (j := c) k103_49 (by first | assumption | rfl) (by omega) (nI_clamp (by omega)) (vp_in_nI (show c < 6 by omega) (by omega)) (show _ = I 13 c from rfl) ?_
        refine ev_ist5 k103_50 rfl ?_
        refine ev_ild2 k103_52 ?_
        refine ev_tb (l := [(0, 27), (1, 37), (2, 47)]) k103_53 rfl rfl ?_
        refine sw_cons (key := 0) (t := 80) rfl rfl (fun h53 => ?_) (fun h53_0 => ?_)
        ·
          subst h53
          refine ev_ald4 k103_80 ?_
          refine ev_ild1 k103_82 ?_
          refine ev_ild5 k103_83 ?_
          refine ev_ild3 k103_85 ?_
          refine ev_cV4i k103_86 cs_210 (by first | assumption | rfl) (by omega) (Nat.le_of_ble_eq_true rfl) rfl rfl rfl ?_
          refine vc_Chair_saysVoice_0 h0 (by decide) (fun K hK => ?_)
          refine ev_ri k103_89 rfl ?_
          refine hQ _ _ ?_
          show mm_Ev mm_T0 X (d + 60) 227 0 [.ref 91, .int _, .int _, .int _] [] _ (mm_pi _)
          refine ev_ald0 k227_0 ?_
          refine ev_ild1 k227_1 ?_
          refine ev_cV2i k227_2 cs_239 (by first | assumption | rfl) (by omega) (Nat.le_of_ble_eq_true rfl) rfl rfl rfl ?_
          refine sm_cChair (show _ = nI nc from (congrFun (hK.1 92 (by decide) (by decide)) 2).trans rc) ?_
          refine ev_ifz_eq k227_5 (fun g5 => Bool.noConfusion (Eq.trans (Eq.symm h5) g5)) (fun g5 => ?_)
          refine ev_ild2 k227_8 ?_
          refine ev_iconst k227_9 ?_
          refine ev_iconst k227_10 ?_
          refine ev_cS3i k227_11 cs_224 rfl rfl rfl ?_
          refine sp_in ?_
          refine ev_ifz_ne k227_14 (fun g14 => ?_) (fun g14 => Bool.noConfusion (Eq.trans (Eq.symm h14) g14))
          refine ev_ald0 k227_24 ?_
          refine ev_iconst k227_25 ?_
          refine ev_pf (j := 15) k227_26 (by first | assumption | rfl) rfl rfl rfl ?_
          refine ev_ild2 k227_29 ?_
          refine ev_tb (l := [(0, 26), (1, 33), (2, 40)]) k227_30 rfl rfl ?_
          refine sw_cons (key := 0) (t := 56) rfl rfl (fun g30 => ?_) (fun g30_0 => ?_)
          ·
            refine ev_ald0 k227_56 ?_
            refine ev_ild1 k227_57 ?_
            refine ev_ild3 k227_58 ?_
            refine ev_cV3i k227_59 cs_279 (by first | assumption | rfl) (by omega) (Nat.le_of_ble_eq_true rfl) rfl rfl rfl ?_
            have hm0 : tmE K (mm_up K 91 15 0) [] := ⟨fun k a b => mm_up_ne _ _ _ _ _ a, fun j hj => by rw [mm_up_at, if_neg (fun z => hj z.2)], by rw [mm_up_at, if_pos ⟨rfl, rfl⟩]; rfl, trivial⟩
            refine vm_Model_speaks_0 (m := I 13 c) (show c < 6 by omega) (by rw [hK.1 92 (by decide) (by decide)]; exact (rm.2.1 c hc).1.trans ek) (by rw [hK.1 92 (by decide) (by decide)]; exact (rm.2.1 c hc).2.1) hm0 (by decide) (fun L hL => ?_)
            refine ev_ri k227_62 rfl ?_
            exact ⟨rfl, Inv_tr inv hK hL (by decide)⟩
          refine sw_cons (key := 1) (t := 63) rfl rfl (fun g30 => absurd g30 (by decide)) (fun g30_1 => ?_)
          refine sw_cons (key := 2) (t := 70) rfl rfl (fun g30 => absurd g30 (by decide)) (fun g30_2 => ?_)
          exact absurd rfl g30_0
        refine sw_cons (key := 1) (t := 90) rfl rfl (fun h53 => ?_) (fun h53_1 => ?_)
        ·
          subst h53
          refine ev_ald4 k103_90 ?_
          refine ev_ild1 k103_92 ?_
          refine ev_ild5 k103_93 ?_
          refine ev_ild3 k103_95 ?_
          refine ev_cV4i k103_96 cs_211 (by first | assumption | rfl) (by omega) (Nat.le_of_ble_eq_true rfl) rfl rfl rfl ?_
          refine vc_Chair_weighsVoice_0 h0 (by decide) (fun K hK => ?_)
          refine ev_ri k103_99 rfl ?_
          refine hQ _ _ ?_
          show mm_Ev mm_T0 X (d + 60) 227 0 [.ref 91, .int _, .int _, .int _] [] _ (mm_pi _)
          refine ev_ald0 k227_0 ?_
          refine ev_ild1 k227_1 ?_
          refine ev_cV2i k227_2 cs_239 (by first | assumption | rfl) (by omega) (Nat.le_of_ble_eq_true rfl) rfl rfl rfl ?_
          refine sm_cChair (show _ = nI nc from (congrFun (hK.1 92 (by decide) (by decide)) 2).trans rc) ?_
          refine ev_ifz_eq k227_5 (fun g5 => Bool.noConfusion (Eq.trans (Eq.symm h5) g5)) (fun g5 => ?_)
          refine ev_ild2 k227_8 ?_
          refine ev_iconst k227_9 ?_
          refine ev_iconst k227_10 ?_
          refine ev_cS3i k227_11 cs_224 rfl rfl rfl ?_
          refine sp_in ?_
          refine ev_ifz_ne k227_14 (fun g14 => ?_) (fun g14 => Bool.noConfusion (Eq.trans (Eq.symm h14) g14))
          refine ev_ald0 k227_24 ?_
          refine ev_iconst k227_25 ?_
          refine ev_pf (j := 15) k227_26 (by first | assumption | rfl) rfl rfl rfl ?_
          refine ev_ild2 k227_29 ?_
          refine ev_tb (l := [(0, 26), (1, 33), (2, 40)]) k227_30 rfl rfl ?_
          refine sw_cons (key := 0) (t := 56) rfl rfl (fun g30 => absurd g30 (by decide)) (fun g30_0 => ?_)
          refine sw_cons (key := 1) (t := 63) rfl rfl (fun g30 => ?_) (fun g30_1 => ?_)
          ·
            refine ev_ald0 k227_63 ?_
            refine ev_ild1 k227_64 ?_
            refine ev_ild3 k227_65 ?_
            refine ev_cV3i k227_66 cs_285 (by first | assumption | rfl) (by omega) (Nat.le_of_ble_eq_true rfl) rfl rfl rfl ?_
            have hm0 : tmE K (mm_up K 91 15 0) [] := ⟨fun k a b => mm_up_ne _ _ _ _ _ a, fun j hj => by rw [mm_up_at, if_neg (fun z => hj z.2)], by rw [mm_up_at, if_pos ⟨rfl, rfl⟩]; rfl, trivial⟩
            refine vm_Model_weighs_0 (m := I 13 c) (show c < 6 by omega) (by rw [hK.1 92 (by decide) (by decide)]; exact (rm.2.1 c hc).1.trans ek) (by rw [hK.1 92 (by decide) (by decide)]; exact (rm.2.1 c hc).2.1) hm0 (by decide) (fun L hL => ?_)
            refine ev_ri k227_69 rfl ?_
            exact ⟨rfl, Inv_tr inv hK hL (by decide)⟩
          refine sw_cons (key := 2) (t := 70) rfl rfl (fun g30 => absurd g30 (by decide)) (fun g30_2 => ?_)
          exact absurd rfl g30_1
        refine sw_cons (key := 2) (t := 100) rfl rfl (fun h53 => ?_) (fun h53_2 => ?_)
        ·
          subst h53
          refine ev_ald4 k103_100 ?_
          refine ev_ild1 k103_102 ?_
          refine ev_ild5 k103_103 ?_
          refine ev_ild3 k103_105 ?_
          refine ev_cV4i k103_106 cs_212 (by first | assumption | rfl) (by omega) (Nat.le_of_ble_eq_true rfl) rfl rfl rfl ?_
          refine vc_Chair_creaksVoice_0 h0 (by decide) (fun K hK => ?_)
          refine ev_ri k103_109 rfl ?_
          refine hQ _ _ ?_
          show mm_Ev mm_T0 X (d + 60) 227 0 [.ref 91, .int _, .int _, .int _] [] _ (mm_pi _)
          refine ev_ald0 k227_0 ?_
          refine ev_ild1 k227_1 ?_
          refine ev_cV2i k227_2 cs_239 (by first | assumption | rfl) (by omega) (Nat.le_of_ble_eq_true rfl) rfl rfl rfl ?_
          refine sm_cChair (show _ = nI nc from (congrFun (hK.1 92 (by decide) (by decide)) 2).trans rc) ?_
          refine ev_ifz_eq k227_5 (fun g5 => Bool.noConfusion (Eq.trans (Eq.symm h5) g5)) (fun g5 => ?_)
          refine ev_ild2 k227_8 ?_
          refine ev_iconst k227_9 ?_
          refine ev_iconst k227_10 ?_
          refine ev_cS3i k227_11 cs_224 rfl rfl rfl ?_
          refine sp_in ?_
          refine ev_ifz_ne k227_14 (fun g14 => ?_) (fun g14 => Bool.noConfusion (Eq.trans (Eq.symm h14) g14))
          refine ev_ald0 k227_24 ?_
          refine ev_iconst k227_25 ?_
          refine ev_pf (j := 15) k227_26 (by first | assumption | rfl) rfl rfl rfl ?_
          refine ev_ild2 k227_29 ?_
          refine ev_tb (l := [(0, 26), (1, 33), (2, 40)]) k227_30 rfl rfl ?_
          refine sw_cons (key := 0) (t := 56) rfl rfl (fun g30 => absurd g30 (by decide)) (fun g30_0 => ?_)
          refine sw_cons (key := 1) (t := 63) rfl rfl (fun g30 => absurd g30 (by decide)) (fun g30_1 => ?_)
          refine sw_cons (key := 2) (t := 70) rfl rfl (fun g30 => ?_) (fun g30_2 => ?_)
          ·
            refine ev_ald0 k227_70 ?_
            refine ev_ild1 k227_71 ?_
            refine ev_ild3 k227_72 ?_
            refine ev_cV3i k227_73 cs_281 (by first | assumption | rfl) (by omega) (Nat.le_of_ble_eq_true rfl) rfl rfl rfl ?_
            have hm0 : tmE K (mm_up K 91 15 0) [] := ⟨fun k a b => mm_up_ne _ _ _ _ _ a, fun j hj => by rw [mm_up_at, if_neg (fun z => hj z.2)], by rw [mm_up_at, if_pos ⟨rfl, rfl⟩]; rfl, trivial⟩
            refine vm_Model_creaks_0 (m := I 13 c) (show c < 6 by omega) (by rw [hK.1 92 (by decide) (by decide)]; exact (rm.2.1 c hc).1.trans ek) (by rw [hK.1 92 (by decide) (by decide)]; exact (rm.2.1 c hc).2.1) hm0 (by decide) (fun L hL => ?_)
            refine ev_ri k227_76 rfl ?_
            exact ⟨rfl, Inv_tr inv hK hL (by decide)⟩
          exact absurd rfl g30_2
        refine sw_nil (t := 110) rfl ?_
        refine ev_ald4 k103_110 ?_
        refine ev_ild1 k103_112 ?_
        refine ev_ild5 k103_113 ?_
        refine ev_ild3 k103_115 ?_
        refine ev_cV4i k103_116 cs_213 (by first | assumption | rfl) (by omega) (Nat.le_of_ble_eq_true rfl) rfl rfl rfl ?_
        refine vc_Chair_tellsVoice_0 h0 (by decide) (fun K hK => ?_)
        refine ev_ri k103_119 rfl ?_
        refine hQ _ _ ?_
        show mm_Ev mm_T0 X (d + 60) 227 0 [.ref 91, .int _, .int _, .int _] [] _ (mm_pi _)
        refine ev_ald0 k227_0 ?_
        refine ev_ild1 k227_1 ?_
        refine ev_cV2i k227_2 cs_239 (by first | assumption | rfl) (by omega) (Nat.le_of_ble_eq_true rfl) rfl rfl rfl ?_
        refine sm_cChair (show _ = nI nc from (congrFun (hK.1 92 (by decide) (by decide)) 2).trans rc) ?_
        refine ev_ifz_eq k227_5 (fun g5 => Bool.noConfusion (Eq.trans (Eq.symm h5) g5)) (fun g5 => ?_)
        refine ev_ild2 k227_8 ?_
        refine ev_iconst k227_9 ?_
        refine ev_iconst k227_10 ?_
        refine ev_cS3i k227_11 cs_224 rfl rfl rfl ?_
        refine sp_in ?_
        refine ev_ifz_ne k227_14 (fun g14 => ?_) (fun g14 => Bool.noConfusion (Eq.trans (Eq.symm h14) g14))
        refine ev_ald0 k227_24 ?_
        refine ev_iconst k227_25 ?_
        refine ev_pf (j := 15) k227_26 (by first | assumption | rfl) rfl rfl rfl ?_
        refine ev_ild2 k227_29 ?_
        refine ev_tb (l := [(0, 26), (1, 33), (2, 40)]) k227_30 rfl rfl ?_
        refine sw_cons (key := 0) (t := 56) rfl rfl (fun g30 => absurd g30 h53_0) (fun g30_0 => ?_)
        refine sw_cons (key := 1) (t := 63) rfl rfl (fun g30 => absurd g30 h53_1) (fun g30_1 => ?_)
        refine sw_cons (key := 2) (t := 70) rfl rfl (fun g30 => absurd g30 h53_2) (fun g30_2 => ?_)
        refine sw_nil (t := 77) rfl ?_
        refine ev_ald0 k227_77 ?_
        refine ev_ild1 k227_78 ?_
        refine ev_ild3 k227_79 ?_
        refine ev_cV3i k227_80 cs_287 (by first | assumption | rfl) (by omega) (Nat.le_of_ble_eq_true rfl) rfl rfl rfl ?_
        have hm0 : tmE K (mm_up K 91 15 0) [] := ⟨fun k a b => mm_up_ne _ _ _ _ _ a, fun j hj => by rw [mm_up_at, if_neg (fun z => hj z.2)], by rw [mm_up_at, if_pos ⟨rfl, rfl⟩]; rfl, trivial⟩
        refine vm_Model_tells_0 (m := I 13 c) (show c < 6 by omega) (by rw [hK.1 92 (by decide) (by decide)]; exact (rm.2.1 c hc).1.trans ek) (by rw [hK.1 92 (by decide) (by decide)]; exact (rm.2.1 c hc).2.1) hm0 (by decide) (fun L hL => ?_)
        refine ev_ri k227_83 rfl ?_
        exact ⟨rfl, Inv_tr inv hK hL (by decide)⟩
      ·
        refine ev_ald0 k103_31 ?_
        refine ev_getr k103_32 (by first | assumption | rfl) rfl rfl rfl ?_
        refine ev_ild1 k103_35 ?_
        refine ev_cV2r k103_36 cs_209 (by first | assumption | rfl) (by omega) (Nat.le_of_ble_eq_true rfl) rfl rfl rfl ?_
        refine sp_kindOf hh11 (show c < 6 by omega) (k := 1) ek (by decide) ?_
        refine ev_ast4 k103_39 rfl ?_
        refine ev_ald0 k103_41 ?_
        refine ev_getr k103_42 (by first | assumption | rfl) rfl rfl rfl ?_
        refine ev_getr k103_45 (by first | assumption | rfl) rfl rfl rfl ?_
        refine ev_ild1 k103_48 ?_
        refine ev_ialv (j := c) k103_49 (by first | assumption | rfl) (by omega) (nI_clamp (by omega)) (vp_in_nI (show c < 6 by omega) (by omega)) (show _ = I 13 c from rfl) ?_
        refine ev_ist5 k103_50 rfl ?_
        refine ev_ild2 k103_52 ?_
        refine ev_tb (l := [(0, 27), (1, 37), (2, 47)]) k103_53 rfl rfl ?_
        refine sw_cons (key := 0) (t := 80) rfl rfl (fun h53 => ?_) (fun h53_0 => ?_)
        ·
          subst h53
          refine ev_ald4 k103_80 ?_
          refine ev_ild1 k103_82 ?_
          refine ev_ild5 k103_83 ?_
          refine ev_ild3 k103_85 ?_
          refine ev_cV4i k103_86 cs_210 (by first | assumption | rfl) (by omega) (Nat.le_of_ble_eq_true rfl) rfl rfl rfl ?_
          refine vc_Wet_saysVoice_1 h0 (by decide) (fun K hK => ?_)
          refine ev_ri k103_89 rfl ?_
          refine hQ _ _ ?_
          show mm_Ev mm_T0 X (d + 60) 227 0 [.ref 91, .int _, .int _, .int _] [] _ (mm_pi _)
          refine ev_ald0 k227_0 ?_
          refine ev_ild1 k227_1 ?_
          refine ev_cV2i k227_2 cs_239 (by first | assumption | rfl) (by omega) (Nat.le_of_ble_eq_true rfl) rfl rfl rfl ?_
          refine sm_cChair (show _ = nI nc from (congrFun (hK.1 92 (by decide) (by decide)) 2).trans rc) ?_
          refine ev_ifz_eq k227_5 (fun g5 => Bool.noConfusion (Eq.trans (Eq.symm h5) g5)) (fun g5 => ?_)
          refine ev_ild2 k227_8 ?_
          refine ev_iconst k227_9 ?_
          refine ev_iconst k227_10 ?_
          refine ev_cS3i k227_11 cs_224 rfl rfl rfl ?_
          refine sp_in ?_
          refine ev_ifz_ne k227_14 (fun g14 => ?_) (fun g14 => Bool.noConfusion (Eq.trans (Eq.symm h14) g14))
          refine ev_ald0 k227_24 ?_
          refine ev_iconst k227_25 ?_
          refine ev_pf (j := 15) k227_26 (by first | assumption | rfl) rfl rfl rfl ?_
          refine ev_ild2 k227_29 ?_
          refine ev_tb (l := [(0, 26), (1, 33), (2, 40)]) k227_30 rfl rfl ?_
          refine sw_cons (key := 0) (t := 56) rfl rfl (fun g30 => ?_) (fun g30_0 => ?_)
          ·
            refine ev_ald0 k227_56 ?_
            refine ev_ild1 k227_57 ?_
            refine ev_ild3 k227_58 ?_
            refine ev_cV3i k227_59 cs_279 (by first | assumption | rfl) (by omega) (Nat.le_of_ble_eq_true rfl) rfl rfl rfl ?_
            have hm0 : tmE K (mm_up K 91 15 0) [] := ⟨fun k a b => mm_up_ne _ _ _ _ _ a, fun j hj => by rw [mm_up_at, if_neg (fun z => hj z.2)], by rw [mm_up_at, if_pos ⟨rfl, rfl⟩]; rfl, trivial⟩
            refine vm_Model_speaks_1 (m := I 13 c) (show c < 6 by omega) (by rw [hK.1 92 (by decide) (by decide)]; exact (rm.2.1 c hc).1.trans ek) (by rw [hK.1 92 (by decide) (by decide)]; exact (rm.2.1 c hc).2.1) hm0 (by decide) (fun L hL => ?_)
            refine ev_ri k227_62 rfl ?_
            exact ⟨rfl, Inv_tr inv hK hL (by decide)⟩
          refine sw_cons (key := 1) (t := 63) rfl rfl (fun g30 => absurd g30 (by decide)) (fun g30_1 => ?_)
          refine sw_cons (key := 2) (t := 70) rfl rfl (fun g30 => absurd g30 (by decide)) (fun g30_2 => ?_)
          exact absurd rfl g30_0
        refine sw_cons (key := 1) (t := 90) rfl rfl (fun h53 => ?_) (fun h53_1 => ?_)
        ·
          subst h53
          refine ev_ald4 k103_90 ?_
          refine ev_ild1 k103_92 ?_
          refine ev_ild5 k103_93 ?_
          refine ev_ild3 k103_95 ?_
          refine ev_cV4i k103_96 cs_211 (by first | assumption | rfl) (by omega) (Nat.le_of_ble_eq_true rfl) rfl rfl rfl ?_
          refine vc_Chair_weighsVoice_1 h0 (by decide) (fun K hK => ?_)
          refine ev_ri k103_99 rfl ?_
          refine hQ _ _ ?_
          show mm_Ev mm_T0 X (d + 60) 227 0 [.ref 91, .int _, .int _, .int _] [] _ (mm_pi _)
          refine ev_ald0 k227_0 ?_
          refine ev_ild1 k227_1 ?_
          refine ev_cV2i k227_2 cs_239 (by first | assumption | rfl) (by omega) (Nat.le_of_ble_eq_true rfl) rfl rfl rfl ?_
          refine sm_cChair (show _ = nI nc from (congrFun (hK.1 92 (by decide) (by decide)) 2).trans rc) ?_
          refine ev_ifz_eq k227_5 (fun g5 => Bool.noConfusion (Eq.trans (Eq.symm h5) g5)) (fun g5 => ?_)
          refine ev_ild2 k227_8 ?_
          refine ev_iconst k227_9 ?_
          refine ev_iconst k227_10 ?_
          refine ev_cS3i k227_11 cs_224 rfl rfl rfl ?_
          refine sp_in ?_
          refine ev_ifz_ne k227_14 (fun g14 => ?_) (fun g14 => Bool.noConfusion (Eq.trans (Eq.symm h14) g14))
          refine ev_ald0 k227_24 ?_
          refine ev_iconst k227_25 ?_
          refine ev_pf (j := 15) k227_26 (by first | assumption | rfl) rfl rfl rfl ?_
          refine ev_ild2 k227_29 ?_
          refine ev_tb (l := [(0, 26), (1, 33), (2, 40)]) k227_30 rfl rfl ?_
          refine sw_cons (key := 0) (t := 56) rfl rfl (fun g30 => absurd g30 (by decide)) (fun g30_0 => ?_)
          refine sw_cons (key := 1) (t := 63) rfl rfl (fun g30 => ?_) (fun g30_1 => ?_)
          ·
            refine ev_ald0 k227_63 ?_
            refine ev_ild1 k227_64 ?_
            refine ev_ild3 k227_65 ?_
            refine ev_cV3i k227_66 cs_285 (by first | assumption | rfl) (by omega) (Nat.le_of_ble_eq_true rfl) rfl rfl rfl ?_
            have hm0 : tmE K (mm_up K 91 15 0) [] := ⟨fun k a b => mm_up_ne _ _ _ _ _ a, fun j hj => by rw [mm_up_at, if_neg (fun z => hj z.2)], by rw [mm_up_at, if_pos ⟨rfl, rfl⟩]; rfl, trivial⟩
            refine vm_Model_weighs_1 (m := I 13 c) (show c < 6 by omega) (by rw [hK.1 92 (by decide) (by decide)]; exact (rm.2.1 c hc).1.trans ek) (by rw [hK.1 92 (by decide) (by decide)]; exact (rm.2.1 c hc).2.1) hm0 (by decide) (fun L hL => ?_)
            refine ev_ri k227_69 rfl ?_
            exact ⟨rfl, Inv_tr inv hK hL (by decide)⟩
          refine sw_cons (key := 2) (t := 70) rfl rfl (fun g30 => absurd g30 (by decide)) (fun g30_2 => ?_)
          exact absurd rfl g30_1
        refine sw_cons (key := 2) (t := 100) rfl rfl (fun h53 => ?_) (fun h53_2 => ?_)
        ·
          subst h53
          refine ev_ald4 k103_100 ?_
          refine ev_ild1 k103_102 ?_
          refine ev_ild5 k103_103 ?_
          refine ev_ild3 k103_105 ?_
          refine ev_cV4i k103_106 cs_212 (by first | assumption | rfl) (by omega) (Nat.le_of_ble_eq_true rfl) rfl rfl rfl ?_
          refine vc_Chair_creaksVoice_1 h0 (by decide) (fun K hK => ?_)
          refine ev_ri k103_109 rfl ?_
          refine hQ _ _ ?_
          show mm_Ev mm_T0 X (d + 60) 227 0 [.ref 91, .int _, .int _, .int _] [] _ (mm_pi _)
          refine ev_ald0 k227_0 ?_
          refine ev_ild1 k227_1 ?_
          refine ev_cV2i k227_2 cs_239 (by first | assumption | rfl) (by omega) (Nat.le_of_ble_eq_true rfl) rfl rfl rfl ?_
          refine sm_cChair (show _ = nI nc from (congrFun (hK.1 92 (by decide) (by decide)) 2).trans rc) ?_
          refine ev_ifz_eq k227_5 (fun g5 => Bool.noConfusion (Eq.trans (Eq.symm h5) g5)) (fun g5 => ?_)
          refine ev_ild2 k227_8 ?_
          refine ev_iconst k227_9 ?_
          refine ev_iconst k227_10 ?_
          refine ev_cS3i k227_11 cs_224 rfl rfl rfl ?_
          refine sp_in ?_
          refine ev_ifz_ne k227_14 (fun g14 => ?_) (fun g14 => Bool.noConfusion (Eq.trans (Eq.symm h14) g14))
          refine ev_ald0 k227_24 ?_
          refine ev_iconst k227_25 ?_
          refine ev_pf (j := 15) k227_26 (by first | assumption | rfl) rfl rfl rfl ?_
          refine ev_ild2 k227_29 ?_
          refine ev_tb (l := [(0, 26), (1, 33), (2, 40)]) k227_30 rfl rfl ?_
          refine sw_cons (key := 0) (t := 56) rfl rfl (fun g30 => absurd g30 (by decide)) (fun g30_0 => ?_)
          refine sw_cons (key := 1) (t := 63) rfl rfl (fun g30 => absurd g30 (by decide)) (fun g30_1 => ?_)
          refine sw_cons (key := 2) (t := 70) rfl rfl (fun g30 => ?_) (fun g30_2 => ?_)
          ·
            refine ev_ald0 k227_70 ?_
            refine ev_ild1 k227_71 ?_
            refine ev_ild3 k227_72 ?_
            refine ev_cV3i k227_73 cs_281 (by first | assumption | rfl) (by omega) (Nat.le_of_ble_eq_true rfl) rfl rfl rfl ?_
            have hm0 : tmE K (mm_up K 91 15 0) [] := ⟨fun k a b => mm_up_ne _ _ _ _ _ a, fun j hj => by rw [mm_up_at, if_neg (fun z => hj z.2)], by rw [mm_up_at, if_pos ⟨rfl, rfl⟩]; rfl, trivial⟩
            refine vm_Model_creaks_1 (m := I 13 c) (show c < 6 by omega) (by rw [hK.1 92 (by decide) (by decide)]; exact (rm.2.1 c hc).1.trans ek) (by rw [hK.1 92 (by decide) (by decide)]; exact (rm.2.1 c hc).2.1) hm0 (by decide) (fun L hL => ?_)
            refine ev_ri k227_76 rfl ?_
            exact ⟨rfl, Inv_tr inv hK hL (by decide)⟩
          exact absurd rfl g30_2
        refine sw_nil (t := 110) rfl ?_
        refine ev_ald4 k103_110 ?_
        refine ev_ild1 k103_112 ?_
        refine ev_ild5 k103_113 ?_
        refine ev_ild3 k103_115 ?_
        refine ev_cV4i k103_116 cs_213 (by first | assumption | rfl) (by omega) (Nat.le_of_ble_eq_true rfl) rfl rfl rfl ?_
        refine vc_Chair_tellsVoice_1 h0 (by decide) (fun K hK => ?_)
        refine ev_ri k103_119 rfl ?_
        refine hQ _ _ ?_
        show mm_Ev mm_T0 X (d + 60) 227 0 [.ref 91, .int _, .int _, .int _] [] _ (mm_pi _)
        refine ev_ald0 k227_0 ?_
        refine ev_ild1 k227_1 ?_
        refine ev_cV2i k227_2 cs_239 (by first | assumption | rfl) (by omega) (Nat.le_of_ble_eq_true rfl) rfl rfl rfl ?_
        refine sm_cChair (show _ = nI nc from (congrFun (hK.1 92 (by decide) (by decide)) 2).trans rc) ?_
        refine ev_ifz_eq k227_5 (fun g5 => Bool.noConfusion (Eq.trans (Eq.symm h5) g5)) (fun g5 => ?_)
        refine ev_ild2 k227_8 ?_
        refine ev_iconst k227_9 ?_
        refine ev_iconst k227_10 ?_
        refine ev_cS3i k227_11 cs_224 rfl rfl rfl ?_
        refine sp_in ?_
        refine ev_ifz_ne k227_14 (fun g14 => ?_) (fun g14 => Bool.noConfusion (Eq.trans (Eq.symm h14) g14))
        refine ev_ald0 k227_24 ?_
        refine ev_iconst k227_25 ?_
        refine ev_pf (j := 15) k227_26 (by first | assumption | rfl) rfl rfl rfl ?_
        refine ev_ild2 k227_29 ?_
        refine ev_tb (l := [(0, 26), (1, 33), (2, 40)]) k227_30 rfl rfl ?_
        refine sw_cons (key := 0) (t := 56) rfl rfl (fun g30 => absurd g30 h53_0) (fun g30_0 => ?_)
        refine sw_cons (key := 1) (t := 63) rfl rfl (fun g30 => absurd g30 h53_1) (fun g30_1 => ?_)
        refine sw_cons (key := 2) (t := 70) rfl rfl (fun g30 => absurd g30 h53_2) (fun g30_2 => ?_)
        refine sw_nil (t := 77) rfl ?_
        refine ev_ald0 k227_77 ?_
        refine ev_ild1 k227_78 ?_
        refine ev_ild3 k227_79 ?_
        refine ev_cV3i k227_80 cs_287 (by first | assumption | rfl) (by omega) (Nat.le_of_ble_eq_true rfl) rfl rfl rfl ?_
        have hm0 : tmE K (mm_up K 91 15 0) [] := ⟨fun k a b => mm_up_ne _ _ _ _ _ a, fun j hj => by rw [mm_up_at, if_neg (fun z => hj z.2)], by rw [mm_up_at, if_pos ⟨rfl, rfl⟩]; rfl, trivial⟩
        refine vm_Model_tells_1 (m := I 13 c) (show c < 6 by omega) (by rw [hK.1 92 (by decide) (by decide)]; exact (rm.2.1 c hc).1.trans ek) (by rw [hK.1 92 (by decide) (by decide)]; exact (rm.2.1 c hc).2.1) hm0 (by decide) (fun L hL => ?_)
        refine ev_ri k227_83 rfl ?_
        exact ⟨rfl, Inv_tr inv hK hL (by decide)⟩
      ·
        refine ev_ald0 k103_31 ?_
        refine ev_getr k103_32 (by first | assumption | rfl) rfl rfl rfl ?_
        refine ev_ild1 k103_35 ?_
        refine ev_cV2r k103_36 cs_209 (by first | assumption | rfl) (by omega) (Nat.le_of_ble_eq_true rfl) rfl rfl rfl ?_
        refine sp_kindOf hh11 (show c < 6 by omega) (k := 2) ek (by decide) ?_
        refine ev_ast4 k103_39 rfl ?_
        refine ev_ald0 k103_41 ?_
        refine ev_getr k103_42 (by first | assumption | rfl) rfl rfl rfl ?_
        refine ev_getr k103_45 (by first | assumption | rfl) rfl rfl rfl ?_
        refine ev_ild1 k103_48 ?_
        refine ev_ialv (j := c) k103_49 (by first | assumption | rfl) (by omega) (nI_clamp (by omega)) (vp_in_nI (show c < 6 by omega) (by omega)) (show _ = I 13 c from rfl) ?_
        refine ev_ist5 k103_50 rfl ?_
        refine ev_ild2 k103_52 ?_
        refine ev_tb (l := [(0, 27), (1, 37), (2, 47)]) k103_53 rfl rfl ?_
        refine sw_cons (key := 0) (t := 80) rfl rfl (fun h53 => ?_) (fun h53_0 => ?_)
        ·
          subst h53
          refine ev_ald4 k103_80 ?_
          refine ev_ild1 k103_82 ?_
          refine ev_ild5 k103_83 ?_
          refine ev_ild3 k103_85 ?_
          refine ev_cV4i k103_86 cs_210 (by first | assumption | rfl) (by omega) (Nat.le_of_ble_eq_true rfl) rfl rfl rfl ?_
          refine vc_Chair_saysVoice_2 h0 (by decide) (fun K hK => ?_)
          refine ev_ri k103_89 rfl ?_
          refine hQ _ _ ?_
          show mm_Ev mm_T0 X (d + 60) 227 0 [.ref 91, .int _, .int _, .int _] [] _ (mm_pi _)
          refine ev_ald0 k227_0 ?_
          refine ev_ild1 k227_1 ?_
          refine ev_cV2i k227_2 cs_239 (by first | assumption | rfl) (by omega) (Nat.le_of_ble_eq_true rfl) rfl rfl rfl ?_
          refine sm_cChair (show _ = nI nc from (congrFun (hK.1 92 (by decide) (by decide)) 2).trans rc) ?_
          refine ev_ifz_eq k227_5 (fun g5 => Bool.noConfusion (Eq.trans (Eq.symm h5) g5)) (fun g5 => ?_)
          refine ev_ild2 k227_8 ?_
          refine ev_iconst k227_9 ?_
          refine ev_iconst k227_10 ?_
          refine ev_cS3i k227_11 cs_224 rfl rfl rfl ?_
          refine sp_in ?_
          refine ev_ifz_ne k227_14 (fun g14 => ?_) (fun g14 => Bool.noConfusion (Eq.trans (Eq.symm h14) g14))
          refine ev_ald0 k227_24 ?_
          refine ev_iconst k227_25 ?_
          refine ev_pf (j := 15) k227_26 (by first | assumption | rfl) rfl rfl rfl ?_
          refine ev_ild2 k227_29 ?_
          refine ev_tb (l := [(0, 26), (1, 33), (2, 40)]) k227_30 rfl rfl ?_
          refine sw_cons (key := 0) (t := 56) rfl rfl (fun g30 => ?_) (fun g30_0 => ?_)
          ·
            refine ev_ald0 k227_56 ?_
            refine ev_ild1 k227_57 ?_
            refine ev_ild3 k227_58 ?_
            refine ev_cV3i k227_59 cs_279 (by first | assumption | rfl) (by omega) (Nat.le_of_ble_eq_true rfl) rfl rfl rfl ?_
            have hm0 : tmE K (mm_up K 91 15 0) [] := ⟨fun k a b => mm_up_ne _ _ _ _ _ a, fun j hj => by rw [mm_up_at, if_neg (fun z => hj z.2)], by rw [mm_up_at, if_pos ⟨rfl, rfl⟩]; rfl, trivial⟩
            refine vm_Model_speaks_2 (m := I 13 c) (show c < 6 by omega) (by rw [hK.1 92 (by decide) (by decide)]; exact (rm.2.1 c hc).1.trans ek) (by rw [hK.1 92 (by decide) (by decide)]; exact (rm.2.1 c hc).2.1) hm0 (by decide) (fun L hL => ?_)
            refine ev_ri k227_62 rfl ?_
            exact ⟨rfl, Inv_tr inv hK hL (by decide)⟩
          refine sw_cons (key := 1) (t := 63) rfl rfl (fun g30 => absurd g30 (by decide)) (fun g30_1 => ?_)
          refine sw_cons (key := 2) (t := 70) rfl rfl (fun g30 => absurd g30 (by decide)) (fun g30_2 => ?_)
          exact absurd rfl g30_0
        refine sw_cons (key := 1) (t := 90) rfl rfl (fun h53 => ?_) (fun h53_1 => ?_)
        ·
          subst h53
          refine ev_ald4 k103_90 ?_
          refine ev_ild1 k103_92 ?_
          refine ev_ild5 k103_93 ?_
          refine ev_ild3 k103_95 ?_
          refine ev_cV4i k103_96 cs_211 (by first | assumption | rfl) (by omega) (Nat.le_of_ble_eq_true rfl) rfl rfl rfl ?_
          refine vc_Glued_weighsVoice_2 h0 (by decide) (fun K hK => ?_)
          refine ev_ri k103_99 rfl ?_
          refine hQ _ _ ?_
          show mm_Ev mm_T0 X (d + 60) 227 0 [.ref 91, .int _, .int _, .int _] [] _ (mm_pi _)
          refine ev_ald0 k227_0 ?_
          refine ev_ild1 k227_1 ?_
          refine ev_cV2i k227_2 cs_239 (by first | assumption | rfl) (by omega) (Nat.le_of_ble_eq_true rfl) rfl rfl rfl ?_
          refine sm_cChair (show _ = nI nc from (congrFun (hK.1 92 (by decide) (by decide)) 2).trans rc) ?_
          refine ev_ifz_eq k227_5 (fun g5 => Bool.noConfusion (Eq.trans (Eq.symm h5) g5)) (fun g5 => ?_)
          refine ev_ild2 k227_8 ?_
          refine ev_iconst k227_9 ?_
          refine ev_iconst k227_10 ?_
          refine ev_cS3i k227_11 cs_224 rfl rfl rfl ?_
          refine sp_in ?_
          refine ev_ifz_ne k227_14 (fun g14 => ?_) (fun g14 => Bool.noConfusion (Eq.trans (Eq.symm h14) g14))
          refine ev_ald0 k227_24 ?_
          refine ev_iconst k227_25 ?_
          refine ev_pf (j := 15) k227_26 (by first | assumption | rfl) rfl rfl rfl ?_
          refine ev_ild2 k227_29 ?_
          refine ev_tb (l := [(0, 26), (1, 33), (2, 40)]) k227_30 rfl rfl ?_
          refine sw_cons (key := 0) (t := 56) rfl rfl (fun g30 => absurd g30 (by decide)) (fun g30_0 => ?_)
          refine sw_cons (key := 1) (t := 63) rfl rfl (fun g30 => ?_) (fun g30_1 => ?_)
          ·
            refine ev_ald0 k227_63 ?_
            refine ev_ild1 k227_64 ?_
            refine ev_ild3 k227_65 ?_
            refine ev_cV3i k227_66 cs_285 (by first | assumption | rfl) (by omega) (Nat.le_of_ble_eq_true rfl) rfl rfl rfl ?_
            have hm0 : tmE K (mm_up K 91 15 0) [] := ⟨fun k a b => mm_up_ne _ _ _ _ _ a, fun j hj => by rw [mm_up_at, if_neg (fun z => hj z.2)], by rw [mm_up_at, if_pos ⟨rfl, rfl⟩]; rfl, trivial⟩
            refine vm_Model_weighs_2 (m := I 13 c) (show c < 6 by omega) (by rw [hK.1 92 (by decide) (by decide)]; exact (rm.2.1 c hc).1.trans ek) (by rw [hK.1 92 (by decide) (by decide)]; exact (rm.2.1 c hc).2.1) hm0 (by decide) (fun L hL => ?_)
            refine ev_ri k227_69 rfl ?_
            exact ⟨rfl, Inv_tr inv hK hL (by decide)⟩
          refine sw_cons (key := 2) (t := 70) rfl rfl (fun g30 => absurd g30 (by decide)) (fun g30_2 => ?_)
          exact absurd rfl g30_1
        refine sw_cons (key := 2) (t := 100) rfl rfl (fun h53 => ?_) (fun h53_2 => ?_)
        ·
          subst h53
          refine ev_ald4 k103_100 ?_
          refine ev_ild1 k103_102 ?_
          refine ev_ild5 k103_103 ?_
          refine ev_ild3 k103_105 ?_
          refine ev_cV4i k103_106 cs_212 (by first | assumption | rfl) (by omega) (Nat.le_of_ble_eq_true rfl) rfl rfl rfl ?_
          refine vc_Chair_creaksVoice_2 h0 (by decide) (fun K hK => ?_)
          refine ev_ri k103_109 rfl ?_
          refine hQ _ _ ?_
          show mm_Ev mm_T0 X (d + 60) 227 0 [.ref 91, .int _, .int _, .int _] [] _ (mm_pi _)
          refine ev_ald0 k227_0 ?_
          refine ev_ild1 k227_1 ?_
          refine ev_cV2i k227_2 cs_239 (by first | assumption | rfl) (by omega) (Nat.le_of_ble_eq_true rfl) rfl rfl rfl ?_
          refine sm_cChair (show _ = nI nc from (congrFun (hK.1 92 (by decide) (by decide)) 2).trans rc) ?_
          refine ev_ifz_eq k227_5 (fun g5 => Bool.noConfusion (Eq.trans (Eq.symm h5) g5)) (fun g5 => ?_)
          refine ev_ild2 k227_8 ?_
          refine ev_iconst k227_9 ?_
          refine ev_iconst k227_10 ?_
          refine ev_cS3i k227_11 cs_224 rfl rfl rfl ?_
          refine sp_in ?_
          refine ev_ifz_ne k227_14 (fun g14 => ?_) (fun g14 => Bool.noConfusion (Eq.trans (Eq.symm h14) g14))
          refine ev_ald0 k227_24 ?_
          refine ev_iconst k227_25 ?_
          refine ev_pf (j := 15) k227_26 (by first | assumption | rfl) rfl rfl rfl ?_
          refine ev_ild2 k227_29 ?_
          refine ev_tb (l := [(0, 26), (1, 33), (2, 40)]) k227_30 rfl rfl ?_
          refine sw_cons (key := 0) (t := 56) rfl rfl (fun g30 => absurd g30 (by decide)) (fun g30_0 => ?_)
          refine sw_cons (key := 1) (t := 63) rfl rfl (fun g30 => absurd g30 (by decide)) (fun g30_1 => ?_)
          refine sw_cons (key := 2) (t := 70) rfl rfl (fun g30 => ?_) (fun g30_2 => ?_)
          ·
            refine ev_ald0 k227_70 ?_
            refine ev_ild1 k227_71 ?_
            refine ev_ild3 k227_72 ?_
            refine ev_cV3i k227_73 cs_281 (by first | assumption | rfl) (by omega) (Nat.le_of_ble_eq_true rfl) rfl rfl rfl ?_
            have hm0 : tmE K (mm_up K 91 15 0) [] := ⟨fun k a b => mm_up_ne _ _ _ _ _ a, fun j hj => by rw [mm_up_at, if_neg (fun z => hj z.2)], by rw [mm_up_at, if_pos ⟨rfl, rfl⟩]; rfl, trivial⟩
            refine vm_Model_creaks_2 (m := I 13 c) (show c < 6 by omega) (by rw [hK.1 92 (by decide) (by decide)]; exact (rm.2.1 c hc).1.trans ek) (by rw [hK.1 92 (by decide) (by decide)]; exact (rm.2.1 c hc).2.1) hm0 (by decide) (fun L hL => ?_)
            refine ev_ri k227_76 rfl ?_
            exact ⟨rfl, Inv_tr inv hK hL (by decide)⟩
          exact absurd rfl g30_2
        refine sw_nil (t := 110) rfl ?_
        refine ev_ald4 k103_110 ?_
        refine ev_ild1 k103_112 ?_
        refine ev_ild5 k103_113 ?_
        refine ev_ild3 k103_115 ?_
        refine ev_cV4i k103_116 cs_213 (by first | assumption | rfl) (by omega) (Nat.le_of_ble_eq_true rfl) rfl rfl rfl ?_
        refine vc_Chair_tellsVoice_2 h0 (by decide) (fun K hK => ?_)
        refine ev_ri k103_119 rfl ?_
        refine hQ _ _ ?_
        show mm_Ev mm_T0 X (d + 60) 227 0 [.ref 91, .int _, .int _, .int _] [] _ (mm_pi _)
        refine ev_ald0 k227_0 ?_
        refine ev_ild1 k227_1 ?_
        refine ev_cV2i k227_2 cs_239 (by first | assumption | rfl) (by omega) (Nat.le_of_ble_eq_true rfl) rfl rfl rfl ?_
        refine sm_cChair (show _ = nI nc from (congrFun (hK.1 92 (by decide) (by decide)) 2).trans rc) ?_
        refine ev_ifz_eq k227_5 (fun g5 => Bool.noConfusion (Eq.trans (Eq.symm h5) g5)) (fun g5 => ?_)
        refine ev_ild2 k227_8 ?_
        refine ev_iconst k227_9 ?_
        refine ev_iconst k227_10 ?_
        refine ev_cS3i k227_11 cs_224 rfl rfl rfl ?_
        refine sp_in ?_
        refine ev_ifz_ne k227_14 (fun g14 => ?_) (fun g14 => Bool.noConfusion (Eq.trans (Eq.symm h14) g14))
        refine ev_ald0 k227_24 ?_
        refine ev_iconst k227_25 ?_
        refine ev_pf (j := 15) k227_26 (by first | assumption | rfl) rfl rfl rfl ?_
        refine ev_ild2 k227_29 ?_
        refine ev_tb (l := [(0, 26), (1, 33), (2, 40)]) k227_30 rfl rfl ?_
        refine sw_cons (key := 0) (t := 56) rfl rfl (fun g30 => absurd g30 h53_0) (fun g30_0 => ?_)
        refine sw_cons (key := 1) (t := 63) rfl rfl (fun g30 => absurd g30 h53_1) (fun g30_1 => ?_)
        refine sw_cons (key := 2) (t := 70) rfl rfl (fun g30 => absurd g30 h53_2) (fun g30_2 => ?_)
        refine sw_nil (t := 77) rfl ?_
        refine ev_ald0 k227_77 ?_
        refine ev_ild1 k227_78 ?_
        refine ev_ild3 k227_79 ?_
        refine ev_cV3i k227_80 cs_287 (by first | assumption | rfl) (by omega) (Nat.le_of_ble_eq_true rfl) rfl rfl rfl ?_
        have hm0 : tmE K (mm_up K 91 15 0) [] := ⟨fun k a b => mm_up_ne _ _ _ _ _ a, fun j hj => by rw [mm_up_at, if_neg (fun z => hj z.2)], by rw [mm_up_at, if_pos ⟨rfl, rfl⟩]; rfl, trivial⟩
        refine vm_Model_tells_2 (m := I 13 c) (show c < 6 by omega) (by rw [hK.1 92 (by decide) (by decide)]; exact (rm.2.1 c hc).1.trans ek) (by rw [hK.1 92 (by decide) (by decide)]; exact (rm.2.1 c hc).2.1) hm0 (by decide) (fun L hL => ?_)
        refine ev_ri k227_83 rfl ?_
        exact ⟨rfl, Inv_tr inv hK hL (by decide)⟩
      ·
        refine ev_ald0 k103_31 ?_
        refine ev_getr k103_32 (by first | assumption | rfl) rfl rfl rfl ?_
        refine ev_ild1 k103_35 ?_
        refine ev_cV2r k103_36 cs_209 (by first | assumption | rfl) (by omega) (Nat.le_of_ble_eq_true rfl) rfl rfl rfl ?_
        refine sp_kindOf hh11 (show c < 6 by omega) (k := 3) ek (by decide) ?_
        refine ev_ast4 k103_39 rfl ?_
        refine ev_ald0 k103_41 ?_
        refine ev_getr k103_42 (by first | assumption | rfl) rfl rfl rfl ?_
        refine ev_getr k103_45 (by first | assumption | rfl) rfl rfl rfl ?_
        refine ev_ild1 k103_48 ?_
        refine ev_ialv (j := c) k103_49 (by first | assumption | rfl) (by omega) (nI_clamp (by omega)) (vp_in_nI (show c < 6 by omega) (by omega)) (show _ = I 13 c from rfl) ?_
        refine ev_ist5 k103_50 rfl ?_
        refine ev_ild2 k103_52 ?_
        refine ev_tb (l := [(0, 27), (1, 37), (2, 47)]) k103_53 rfl rfl ?_
        refine sw_cons (key := 0) (t := 80) rfl rfl (fun h53 => ?_) (fun h53_0 => ?_)
        ·
          subst h53
          refine ev_ald4 k103_80 ?_
          refine ev_ild1 k103_82 ?_
          refine ev_ild5 k103_83 ?_
          refine ev_ild3 k103_85 ?_
          refine ev_cV4i k103_86 cs_210 (by first | assumption | rfl) (by omega) (Nat.le_of_ble_eq_true rfl) rfl rfl rfl ?_
          refine vc_Chair_saysVoice_3 h0 (by decide) (fun K hK => ?_)
          refine ev_ri k103_89 rfl ?_
          refine hQ _ _ ?_
          show mm_Ev mm_T0 X (d + 60) 227 0 [.ref 91, .int _, .int _, .int _] [] _ (mm_pi _)
          refine ev_ald0 k227_0 ?_
          refine ev_ild1 k227_1 ?_
          refine ev_cV2i k227_2 cs_239 (by first | assumption | rfl) (by omega) (Nat.le_of_ble_eq_true rfl) rfl rfl rfl ?_
          refine sm_cChair (show _ = nI nc from (congrFun (hK.1 92 (by decide) (by decide)) 2).trans rc) ?_
          refine ev_ifz_eq k227_5 (fun g5 => Bool.noConfusion (Eq.trans (Eq.symm h5) g5)) (fun g5 => ?_)
          refine ev_ild2 k227_8 ?_
          refine ev_iconst k227_9 ?_
          refine ev_iconst k227_10 ?_
          refine ev_cS3i k227_11 cs_224 rfl rfl rfl ?_
          refine sp_in ?_
          refine ev_ifz_ne k227_14 (fun g14 => ?_) (fun g14 => Bool.noConfusion (Eq.trans (Eq.symm h14) g14))
          refine ev_ald0 k227_24 ?_
          refine ev_iconst k227_25 ?_
          refine ev_pf (j := 15) k227_26 (by first | assumption | rfl) rfl rfl rfl ?_
          refine ev_ild2 k227_29 ?_
          refine ev_tb (l := [(0, 26), (1, 33), (2, 40)]) k227_30 rfl rfl ?_
          refine sw_cons (key := 0) (t := 56) rfl rfl (fun g30 => ?_) (fun g30_0 => ?_)
          ·
            refine ev_ald0 k227_56 ?_
            refine ev_ild1 k227_57 ?_
            refine ev_ild3 k227_58 ?_
            refine ev_cV3i k227_59 cs_279 (by first | assumption | rfl) (by omega) (Nat.le_of_ble_eq_true rfl) rfl rfl rfl ?_
            have hm0 : tmE K (mm_up K 91 15 0) [] := ⟨fun k a b => mm_up_ne _ _ _ _ _ a, fun j hj => by rw [mm_up_at, if_neg (fun z => hj z.2)], by rw [mm_up_at, if_pos ⟨rfl, rfl⟩]; rfl, trivial⟩
            refine vm_Model_speaks_3 (m := I 13 c) (show c < 6 by omega) (by rw [hK.1 92 (by decide) (by decide)]; exact (rm.2.1 c hc).1.trans ek) (by rw [hK.1 92 (by decide) (by decide)]; exact (rm.2.1 c hc).2.1) hm0 (by decide) (fun L hL => ?_)
            refine ev_ri k227_62 rfl ?_
            exact ⟨rfl, Inv_tr inv hK hL (by decide)⟩
          refine sw_cons (key := 1) (t := 63) rfl rfl (fun g30 => absurd g30 (by decide)) (fun g30_1 => ?_)
          refine sw_cons (key := 2) (t := 70) rfl rfl (fun g30 => absurd g30 (by decide)) (fun g30_2 => ?_)
          exact absurd rfl g30_0
        refine sw_cons (key := 1) (t := 90) rfl rfl (fun h53 => ?_) (fun h53_1 => ?_)
        ·
          subst h53
          refine ev_ald4 k103_90 ?_
          refine ev_ild1 k103_92 ?_
          refine ev_ild5 k103_93 ?_
          refine ev_ild3 k103_95 ?_
          refine ev_cV4i k103_96 cs_211 (by first | assumption | rfl) (by omega) (Nat.le_of_ble_eq_true rfl) rfl rfl rfl ?_
          refine vc_Chair_weighsVoice_3 h0 (by decide) (fun K hK => ?_)
          refine ev_ri k103_99 rfl ?_
          refine hQ _ _ ?_
          show mm_Ev mm_T0 X (d + 60) 227 0 [.ref 91, .int _, .int _, .int _] [] _ (mm_pi _)
          refine ev_ald0 k227_0 ?_
          refine ev_ild1 k227_1 ?_
          refine ev_cV2i k227_2 cs_239 (by first | assumption | rfl) (by omega) (Nat.le_of_ble_eq_true rfl) rfl rfl rfl ?_
          refine sm_cChair (show _ = nI nc from (congrFun (hK.1 92 (by decide) (by decide)) 2).trans rc) ?_
          refine ev_ifz_eq k227_5 (fun g5 => Bool.noConfusion (Eq.trans (Eq.symm h5) g5)) (fun g5 => ?_)
          refine ev_ild2 k227_8 ?_
          refine ev_iconst k227_9 ?_
          refine ev_iconst k227_10 ?_
          refine ev_cS3i k227_11 cs_224 rfl rfl rfl ?_
          refine sp_in ?_
          refine ev_ifz_ne k227_14 (fun g14 => ?_) (fun g14 => Bool.noConfusion (Eq.trans (Eq.symm h14) g14))
          refine ev_ald0 k227_24 ?_
          refine ev_iconst k227_25 ?_
          refine ev_pf (j := 15) k227_26 (by first | assumption | rfl) rfl rfl rfl ?_
          refine ev_ild2 k227_29 ?_
          refine ev_tb (l := [(0, 26), (1, 33), (2, 40)]) k227_30 rfl rfl ?_
          refine sw_cons (key := 0) (t := 56) rfl rfl (fun g30 => absurd g30 (by decide)) (fun g30_0 => ?_)
          refine sw_cons (key := 1) (t := 63) rfl rfl (fun g30 => ?_) (fun g30_1 => ?_)
          ·
            refine ev_ald0 k227_63 ?_
            refine ev_ild1 k227_64 ?_
            refine ev_ild3 k227_65 ?_
            refine ev_cV3i k227_66 cs_285 (by first | assumption | rfl) (by omega) (Nat.le_of_ble_eq_true rfl) rfl rfl rfl ?_
            have hm0 : tmE K (mm_up K 91 15 0) [] := ⟨fun k a b => mm_up_ne _ _ _ _ _ a, fun j hj => by rw [mm_up_at, if_neg (fun z => hj z.2)], by rw [mm_up_at, if_pos ⟨rfl, rfl⟩]; rfl, trivial⟩
            refine vm_Model_weighs_3 (m := I 13 c) (show c < 6 by omega) (by rw [hK.1 92 (by decide) (by decide)]; exact (rm.2.1 c hc).1.trans ek) (by rw [hK.1 92 (by decide) (by decide)]; exact (rm.2.1 c hc).2.1) hm0 (by decide) (fun L hL => ?_)
            refine ev_ri k227_69 rfl ?_
            exact ⟨rfl, Inv_tr inv hK hL (by decide)⟩
          refine sw_cons (key := 2) (t := 70) rfl rfl (fun g30 => absurd g30 (by decide)) (fun g30_2 => ?_)
          exact absurd rfl g30_1
        refine sw_cons (key := 2) (t := 100) rfl rfl (fun h53 => ?_) (fun h53_2 => ?_)
        ·
          subst h53
          refine ev_ald4 k103_100 ?_
          refine ev_ild1 k103_102 ?_
          refine ev_ild5 k103_103 ?_
          refine ev_ild3 k103_105 ?_
          refine ev_cV4i k103_106 cs_212 (by first | assumption | rfl) (by omega) (Nat.le_of_ble_eq_true rfl) rfl rfl rfl ?_
          refine vc_Repaired_creaksVoice_3 h0 (by decide) (fun K hK => ?_)
          refine ev_ri k103_109 rfl ?_
          refine hQ _ _ ?_
          show mm_Ev mm_T0 X (d + 60) 227 0 [.ref 91, .int _, .int _, .int _] [] _ (mm_pi _)
          refine ev_ald0 k227_0 ?_
          refine ev_ild1 k227_1 ?_
          refine ev_cV2i k227_2 cs_239 (by first | assumption | rfl) (by omega) (Nat.le_of_ble_eq_true rfl) rfl rfl rfl ?_
          refine sm_cChair (show _ = nI nc from (congrFun (hK.1 92 (by decide) (by decide)) 2).trans rc) ?_
          refine ev_ifz_eq k227_5 (fun g5 => Bool.noConfusion (Eq.trans (Eq.symm h5) g5)) (fun g5 => ?_)
          refine ev_ild2 k227_8 ?_
          refine ev_iconst k227_9 ?_
          refine ev_iconst k227_10 ?_
          refine ev_cS3i k227_11 cs_224 rfl rfl rfl ?_
          refine sp_in ?_
          refine ev_ifz_ne k227_14 (fun g14 => ?_) (fun g14 => Bool.noConfusion (Eq.trans (Eq.symm h14) g14))
          refine ev_ald0 k227_24 ?_
          refine ev_iconst k227_25 ?_
          refine ev_pf (j := 15) k227_26 (by first | assumption | rfl) rfl rfl rfl ?_
          refine ev_ild2 k227_29 ?_
          refine ev_tb (l := [(0, 26), (1, 33), (2, 40)]) k227_30 rfl rfl ?_
          refine sw_cons (key := 0) (t := 56) rfl rfl (fun g30 => absurd g30 (by decide)) (fun g30_0 => ?_)
          refine sw_cons (key := 1) (t := 63) rfl rfl (fun g30 => absurd g30 (by decide)) (fun g30_1 => ?_)
          refine sw_cons (key := 2) (t := 70) rfl rfl (fun g30 => ?_) (fun g30_2 => ?_)
          ·
            refine ev_ald0 k227_70 ?_
            refine ev_ild1 k227_71 ?_
            refine ev_ild3 k227_72 ?_
            refine ev_cV3i k227_73 cs_281 (by first | assumption | rfl) (by omega) (Nat.le_of_ble_eq_true rfl) rfl rfl rfl ?_
            have hm0 : tmE K (mm_up K 91 15 0) [] := ⟨fun k a b => mm_up_ne _ _ _ _ _ a, fun j hj => by rw [mm_up_at, if_neg (fun z => hj z.2)], by rw [mm_up_at, if_pos ⟨rfl, rfl⟩]; rfl, trivial⟩
            refine vm_Model_creaks_3 (m := I 13 c) (show c < 6 by omega) (by rw [hK.1 92 (by decide) (by decide)]; exact (rm.2.1 c hc).1.trans ek) (by rw [hK.1 92 (by decide) (by decide)]; exact (rm.2.1 c hc).2.1) hm0 (by decide) (fun L hL => ?_)
            refine ev_ri k227_76 rfl ?_
            exact ⟨rfl, Inv_tr inv hK hL (by decide)⟩
          exact absurd rfl g30_2
        refine sw_nil (t := 110) rfl ?_
        refine ev_ald4 k103_110 ?_
        refine ev_ild1 k103_112 ?_
        refine ev_ild5 k103_113 ?_
        refine ev_ild3 k103_115 ?_
        refine ev_cV4i k103_116 cs_213 (by first | assumption | rfl) (by omega) (Nat.le_of_ble_eq_true rfl) rfl rfl rfl ?_
        refine vc_Chair_tellsVoice_3 h0 (by decide) (fun K hK => ?_)
        refine ev_ri k103_119 rfl ?_
        refine hQ _ _ ?_
        show mm_Ev mm_T0 X (d + 60) 227 0 [.ref 91, .int _, .int _, .int _] [] _ (mm_pi _)
        refine ev_ald0 k227_0 ?_
        refine ev_ild1 k227_1 ?_
        refine ev_cV2i k227_2 cs_239 (by first | assumption | rfl) (by omega) (Nat.le_of_ble_eq_true rfl) rfl rfl rfl ?_
        refine sm_cChair (show _ = nI nc from (congrFun (hK.1 92 (by decide) (by decide)) 2).trans rc) ?_
        refine ev_ifz_eq k227_5 (fun g5 => Bool.noConfusion (Eq.trans (Eq.symm h5) g5)) (fun g5 => ?_)
        refine ev_ild2 k227_8 ?_
        refine ev_iconst k227_9 ?_
        refine ev_iconst k227_10 ?_
        refine ev_cS3i k227_11 cs_224 rfl rfl rfl ?_
        refine sp_in ?_
        refine ev_ifz_ne k227_14 (fun g14 => ?_) (fun g14 => Bool.noConfusion (Eq.trans (Eq.symm h14) g14))
        refine ev_ald0 k227_24 ?_
        refine ev_iconst k227_25 ?_
        refine ev_pf (j := 15) k227_26 (by first | assumption | rfl) rfl rfl rfl ?_
        refine ev_ild2 k227_29 ?_
        refine ev_tb (l := [(0, 26), (1, 33), (2, 40)]) k227_30 rfl rfl ?_
        refine sw_cons (key := 0) (t := 56) rfl rfl (fun g30 => absurd g30 h53_0) (fun g30_0 => ?_)
        refine sw_cons (key := 1) (t := 63) rfl rfl (fun g30 => absurd g30 h53_1) (fun g30_1 => ?_)
        refine sw_cons (key := 2) (t := 70) rfl rfl (fun g30 => absurd g30 h53_2) (fun g30_2 => ?_)
        refine sw_nil (t := 77) rfl ?_
        refine ev_ald0 k227_77 ?_
        refine ev_ild1 k227_78 ?_
        refine ev_ild3 k227_79 ?_
        refine ev_cV3i k227_80 cs_287 (by first | assumption | rfl) (by omega) (Nat.le_of_ble_eq_true rfl) rfl rfl rfl ?_
        have hm0 : tmE K (mm_up K 91 15 0) [] := ⟨fun k a b => mm_up_ne _ _ _ _ _ a, fun j hj => by rw [mm_up_at, if_neg (fun z => hj z.2)], by rw [mm_up_at, if_pos ⟨rfl, rfl⟩]; rfl, trivial⟩
        refine vm_Model_tells_3 (m := I 13 c) (show c < 6 by omega) (by rw [hK.1 92 (by decide) (by decide)]; exact (rm.2.1 c hc).1.trans ek) (by rw [hK.1 92 (by decide) (by decide)]; exact (rm.2.1 c hc).2.1) hm0 (by decide) (fun L hL => ?_)
        refine ev_ri k227_83 rfl ?_
        exact ⟨rfl, Inv_tr inv hK hL (by decide)⟩
      ·
        refine ev_ald0 k103_31 ?_
        refine ev_getr k103_32 (by first | assumption | rfl) rfl rfl rfl ?_
        refine ev_ild1 k103_35 ?_
        refine ev_cV2r k103_36 cs_209 (by first | assumption | rfl) (by omega) (Nat.le_of_ble_eq_true rfl) rfl rfl rfl ?_
        refine sp_kindOf hh11 (show c < 6 by omega) (k := 4) ek (by decide) ?_
        refine ev_ast4 k103_39 rfl ?_
        refine ev_ald0 k103_41 ?_
        refine ev_getr k103_42 (by first | assumption | rfl) rfl rfl rfl ?_
        refine ev_getr k103_45 (by first | assumption | rfl) rfl rfl rfl ?_
        refine ev_ild1 k103_48 ?_
        refine ev_ialv (j := c) k103_49 (by first | assumption | rfl) (by omega) (nI_clamp (by omega)) (vp_in_nI (show c < 6 by omega) (by omega)) (show _ = I 13 c from rfl) ?_
        refine ev_ist5 k103_50 rfl ?_
        refine ev_ild2 k103_52 ?_
        refine ev_tb (l := [(0, 27), (1, 37), (2, 47)]) k103_53 rfl rfl ?_
        refine sw_cons (key := 0) (t := 80) rfl rfl (fun h53 => ?_) (fun h53_0 => ?_)
        ·
          subst h53
          refine ev_ald4 k103_80 ?_
          refine ev_ild1 k103_82 ?_
          refine ev_ild5 k103_83 ?_
          refine ev_ild3 k103_85 ?_
          refine ev_cV4i k103_86 cs_210 (by first | assumption | rfl) (by omega) (Nat.le_of_ble_eq_true rfl) rfl rfl rfl ?_
          refine vc_Wet_saysVoice_4 h0 (by decide) (fun K hK => ?_)
          refine ev_ri k103_89 rfl ?_
          refine hQ _ _ ?_
          show mm_Ev mm_T0 X (d + 60) 227 0 [.ref 91, .int _, .int _, .int _] [] _ (mm_pi _)
          refine ev_ald0 k227_0 ?_
          refine ev_ild1 k227_1 ?_
          refine ev_cV2i k227_2 cs_239 (by first | assumption | rfl) (by omega) (Nat.le_of_ble_eq_true rfl) rfl rfl rfl ?_
          refine sm_cChair (show _ = nI nc from (congrFun (hK.1 92 (by decide) (by decide)) 2).trans rc) ?_
          refine ev_ifz_eq k227_5 (fun g5 => Bool.noConfusion (Eq.trans (Eq.symm h5) g5)) (fun g5 => ?_)
          refine ev_ild2 k227_8 ?_
          refine ev_iconst k227_9 ?_
          refine ev_iconst k227_10 ?_
          refine ev_cS3i k227_11 cs_224 rfl rfl rfl ?_
          refine sp_in ?_
          refine ev_ifz_ne k227_14 (fun g14 => ?_) (fun g14 => Bool.noConfusion (Eq.trans (Eq.symm h14) g14))
          refine ev_ald0 k227_24 ?_
          refine ev_iconst k227_25 ?_
          refine ev_pf (j := 15) k227_26 (by first | assumption | rfl) rfl rfl rfl ?_
          refine ev_ild2 k227_29 ?_
          refine ev_tb (l := [(0, 26), (1, 33), (2, 40)]) k227_30 rfl rfl ?_
          refine sw_cons (key := 0) (t := 56) rfl rfl (fun g30 => ?_) (fun g30_0 => ?_)
          ·
            refine ev_ald0 k227_56 ?_
            refine ev_ild1 k227_57 ?_
            refine ev_ild3 k227_58 ?_
            refine ev_cV3i k227_59 cs_279 (by first | assumption | rfl) (by omega) (Nat.le_of_ble_eq_true rfl) rfl rfl rfl ?_
            have hm0 : tmE K (mm_up K 91 15 0) [] := ⟨fun k a b => mm_up_ne _ _ _ _ _ a, fun j hj => by rw [mm_up_at, if_neg (fun z => hj z.2)], by rw [mm_up_at, if_pos ⟨rfl, rfl⟩]; rfl, trivial⟩
            refine vm_Model_speaks_4 (m := I 13 c) (show c < 6 by omega) (by rw [hK.1 92 (by decide) (by decide)]; exact (rm.2.1 c hc).1.trans ek) (by rw [hK.1 92 (by decide) (by decide)]; exact (rm.2.1 c hc).2.1) hm0 (by decide) (fun L hL => ?_)
            refine ev_ri k227_62 rfl ?_
            exact ⟨rfl, Inv_tr inv hK hL (by decide)⟩
          refine sw_cons (key := 1) (t := 63) rfl rfl (fun g30 => absurd g30 (by decide)) (fun g30_1 => ?_)
          refine sw_cons (key := 2) (t := 70) rfl rfl (fun g30 => absurd g30 (by decide)) (fun g30_2 => ?_)
          exact absurd rfl g30_0
        refine sw_cons (key := 1) (t := 90) rfl rfl (fun h53 => ?_) (fun h53_1 => ?_)
        ·
          subst h53
          refine ev_ald4 k103_90 ?_
          refine ev_ild1 k103_92 ?_
          refine ev_ild5 k103_93 ?_
          refine ev_ild3 k103_95 ?_
          refine ev_cV4i k103_96 cs_211 (by first | assumption | rfl) (by omega) (Nat.le_of_ble_eq_true rfl) rfl rfl rfl ?_
          refine vc_Chair_weighsVoice_4 h0 (by decide) (fun K hK => ?_)
          refine ev_ri k103_99 rfl ?_
          refine hQ _ _ ?_
          show mm_Ev mm_T0 X (d + 60) 227 0 [.ref 91, .int _, .int _, .int _] [] _ (mm_pi _)
          refine ev_ald0 k227_0 ?_
          refine ev_ild1 k227_1 ?_
          refine ev_cV2i k227_2 cs_239 (by first | assumption | rfl) (by omega) (Nat.le_of_ble_eq_true rfl) rfl rfl rfl ?_
          refine sm_cChair (show _ = nI nc from (congrFun (hK.1 92 (by decide) (by decide)) 2).trans rc) ?_
          refine ev_ifz_eq k227_5 (fun g5 => Bool.noConfusion (Eq.trans (Eq.symm h5) g5)) (fun g5 => ?_)
          refine ev_ild2 k227_8 ?_
          refine ev_iconst k227_9 ?_
          refine ev_iconst k227_10 ?_
          refine ev_cS3i k227_11 cs_224 rfl rfl rfl ?_
          refine sp_in ?_
          refine ev_ifz_ne k227_14 (fun g14 => ?_) (fun g14 => Bool.noConfusion (Eq.trans (Eq.symm h14) g14))
          refine ev_ald0 k227_24 ?_
          refine ev_iconst k227_25 ?_
          refine ev_pf (j := 15) k227_26 (by first | assumption | rfl) rfl rfl rfl ?_
          refine ev_ild2 k227_29 ?_
          refine ev_tb (l := [(0, 26), (1, 33), (2, 40)]) k227_30 rfl rfl ?_
          refine sw_cons (key := 0) (t := 56) rfl rfl (fun g30 => absurd g30 (by decide)) (fun g30_0 => ?_)
          refine sw_cons (key := 1) (t := 63) rfl rfl (fun g30 => ?_) (fun g30_1 => ?_)
          ·
            refine ev_ald0 k227_63 ?_
            refine ev_ild1 k227_64 ?_
            refine ev_ild3 k227_65 ?_
            refine ev_cV3i k227_66 cs_285 (by first | assumption | rfl) (by omega) (Nat.le_of_ble_eq_true rfl) rfl rfl rfl ?_
            have hm0 : tmE K (mm_up K 91 15 0) [] := ⟨fun k a b => mm_up_ne _ _ _ _ _ a, fun j hj => by rw [mm_up_at, if_neg (fun z => hj z.2)], by rw [mm_up_at, if_pos ⟨rfl, rfl⟩]; rfl, trivial⟩
            refine vm_Model_weighs_4 (m := I 13 c) (show c < 6 by omega) (by rw [hK.1 92 (by decide) (by decide)]; exact (rm.2.1 c hc).1.trans ek) (by rw [hK.1 92 (by decide) (by decide)]; exact (rm.2.1 c hc).2.1) hm0 (by decide) (fun L hL => ?_)
            refine ev_ri k227_69 rfl ?_
            exact ⟨rfl, Inv_tr inv hK hL (by decide)⟩
          refine sw_cons (key := 2) (t := 70) rfl rfl (fun g30 => absurd g30 (by decide)) (fun g30_2 => ?_)
          exact absurd rfl g30_1
        refine sw_cons (key := 2) (t := 100) rfl rfl (fun h53 => ?_) (fun h53_2 => ?_)
        ·
          subst h53
          refine ev_ald4 k103_100 ?_
          refine ev_ild1 k103_102 ?_
          refine ev_ild5 k103_103 ?_
          refine ev_ild3 k103_105 ?_
          refine ev_cV4i k103_106 cs_212 (by first | assumption | rfl) (by omega) (Nat.le_of_ble_eq_true rfl) rfl rfl rfl ?_
          refine vc_Chair_creaksVoice_4 h0 (by decide) (fun K hK => ?_)
          refine ev_ri k103_109 rfl ?_
          refine hQ _ _ ?_
          show mm_Ev mm_T0 X (d + 60) 227 0 [.ref 91, .int _, .int _, .int _] [] _ (mm_pi _)
          refine ev_ald0 k227_0 ?_
          refine ev_ild1 k227_1 ?_
          refine ev_cV2i k227_2 cs_239 (by first | assumption | rfl) (by omega) (Nat.le_of_ble_eq_true rfl) rfl rfl rfl ?_
          refine sm_cChair (show _ = nI nc from (congrFun (hK.1 92 (by decide) (by decide)) 2).trans rc) ?_
          refine ev_ifz_eq k227_5 (fun g5 => Bool.noConfusion (Eq.trans (Eq.symm h5) g5)) (fun g5 => ?_)
          refine ev_ild2 k227_8 ?_
          refine ev_iconst k227_9 ?_
          refine ev_iconst k227_10 ?_
          refine ev_cS3i k227_11 cs_224 rfl rfl rfl ?_
          refine sp_in ?_
          refine ev_ifz_ne k227_14 (fun g14 => ?_) (fun g14 => Bool.noConfusion (Eq.trans (Eq.symm h14) g14))
          refine ev_ald0 k227_24 ?_
          refine ev_iconst k227_25 ?_
          refine ev_pf (j := 15) k227_26 (by first | assumption | rfl) rfl rfl rfl ?_
          refine ev_ild2 k227_29 ?_
          refine ev_tb (l := [(0, 26), (1, 33), (2, 40)]) k227_30 rfl rfl ?_
          refine sw_cons (key := 0) (t := 56) rfl rfl (fun g30 => absurd g30 (by decide)) (fun g30_0 => ?_)
          refine sw_cons (key := 1) (t := 63) rfl rfl (fun g30 => absurd g30 (by decide)) (fun g30_1 => ?_)
          refine sw_cons (key := 2) (t := 70) rfl rfl (fun g30 => ?_) (fun g30_2 => ?_)
          ·
            refine ev_ald0 k227_70 ?_
            refine ev_ild1 k227_71 ?_
            refine ev_ild3 k227_72 ?_
            refine ev_cV3i k227_73 cs_281 (by first | assumption | rfl) (by omega) (Nat.le_of_ble_eq_true rfl) rfl rfl rfl ?_
            have hm0 : tmE K (mm_up K 91 15 0) [] := ⟨fun k a b => mm_up_ne _ _ _ _ _ a, fun j hj => by rw [mm_up_at, if_neg (fun z => hj z.2)], by rw [mm_up_at, if_pos ⟨rfl, rfl⟩]; rfl, trivial⟩
            refine vm_Model_creaks_4 (m := I 13 c) (show c < 6 by omega) (by rw [hK.1 92 (by decide) (by decide)]; exact (rm.2.1 c hc).1.trans ek) (by rw [hK.1 92 (by decide) (by decide)]; exact (rm.2.1 c hc).2.1) hm0 (by decide) (fun L hL => ?_)
            refine ev_ri k227_76 rfl ?_
            exact ⟨rfl, Inv_tr inv hK hL (by decide)⟩
          exact absurd rfl g30_2
        refine sw_nil (t := 110) rfl ?_
        refine ev_ald4 k103_110 ?_
        refine ev_ild1 k103_112 ?_
        refine ev_ild5 k103_113 ?_
        refine ev_ild3 k103_115 ?_
        refine ev_cV4i k103_116 cs_213 (by first | assumption | rfl) (by omega) (Nat.le_of_ble_eq_true rfl) rfl rfl rfl ?_
        refine vc_Soaked_tellsVoice_4 h0 (by decide) (fun K hK => ?_)
        refine ev_ri k103_119 rfl ?_
        refine hQ _ _ ?_
        show mm_Ev mm_T0 X (d + 60) 227 0 [.ref 91, .int _, .int _, .int _] [] _ (mm_pi _)
        refine ev_ald0 k227_0 ?_
        refine ev_ild1 k227_1 ?_
        refine ev_cV2i k227_2 cs_239 (by first | assumption | rfl) (by omega) (Nat.le_of_ble_eq_true rfl) rfl rfl rfl ?_
        refine sm_cChair (show _ = nI nc from (congrFun (hK.1 92 (by decide) (by decide)) 2).trans rc) ?_
        refine ev_ifz_eq k227_5 (fun g5 => Bool.noConfusion (Eq.trans (Eq.symm h5) g5)) (fun g5 => ?_)
        refine ev_ild2 k227_8 ?_
        refine ev_iconst k227_9 ?_
        refine ev_iconst k227_10 ?_
        refine ev_cS3i k227_11 cs_224 rfl rfl rfl ?_
        refine sp_in ?_
        refine ev_ifz_ne k227_14 (fun g14 => ?_) (fun g14 => Bool.noConfusion (Eq.trans (Eq.symm h14) g14))
        refine ev_ald0 k227_24 ?_
        refine ev_iconst k227_25 ?_
        refine ev_pf (j := 15) k227_26 (by first | assumption | rfl) rfl rfl rfl ?_
        refine ev_ild2 k227_29 ?_
        refine ev_tb (l := [(0, 26), (1, 33), (2, 40)]) k227_30 rfl rfl ?_
        refine sw_cons (key := 0) (t := 56) rfl rfl (fun g30 => absurd g30 h53_0) (fun g30_0 => ?_)
        refine sw_cons (key := 1) (t := 63) rfl rfl (fun g30 => absurd g30 h53_1) (fun g30_1 => ?_)
        refine sw_cons (key := 2) (t := 70) rfl rfl (fun g30 => absurd g30 h53_2) (fun g30_2 => ?_)
        refine sw_nil (t := 77) rfl ?_
        refine ev_ald0 k227_77 ?_
        refine ev_ild1 k227_78 ?_
        refine ev_ild3 k227_79 ?_
        refine ev_cV3i k227_80 cs_287 (by first | assumption | rfl) (by omega) (Nat.le_of_ble_eq_true rfl) rfl rfl rfl ?_
        have hm0 : tmE K (mm_up K 91 15 0) [] := ⟨fun k a b => mm_up_ne _ _ _ _ _ a, fun j hj => by rw [mm_up_at, if_neg (fun z => hj z.2)], by rw [mm_up_at, if_pos ⟨rfl, rfl⟩]; rfl, trivial⟩
        refine vm_Model_tells_4 (m := I 13 c) (show c < 6 by omega) (by rw [hK.1 92 (by decide) (by decide)]; exact (rm.2.1 c hc).1.trans ek) (by rw [hK.1 92 (by decide) (by decide)]; exact (rm.2.1 c hc).2.1) hm0 (by decide) (fun L hL => ?_)
        refine ev_ri k227_83 rfl ?_
        exact ⟨rfl, Inv_tr inv hK hL (by decide)⟩
      ·
        refine ev_ald0 k103_31 ?_
        refine ev_getr k103_32 (by first | assumption | rfl) rfl rfl rfl ?_
        refine ev_ild1 k103_35 ?_
        refine ev_cV2r k103_36 cs_209 (by first | assumption | rfl) (by omega) (Nat.le_of_ble_eq_true rfl) rfl rfl rfl ?_
        refine sp_kindOf hh11 (show c < 6 by omega) (k := 5) ek (by decide) ?_
        refine ev_ast4 k103_39 rfl ?_
        refine ev_ald0 k103_41 ?_
        refine ev_getr k103_42 (by first | assumption | rfl) rfl rfl rfl ?_
        refine ev_getr k103_45 (by first | assumption | rfl) rfl rfl rfl ?_
        refine ev_ild1 k103_48 ?_
        refine ev_ialv (j := c) k103_49 (by first | assumption | rfl) (by omega) (nI_clamp (by omega)) (vp_in_nI (show c < 6 by omega) (by omega)) (show _ = I 13 c from rfl) ?_
        refine ev_ist5 k103_50 rfl ?_
        refine ev_ild2 k103_52 ?_
        refine ev_tb (l := [(0, 27), (1, 37), (2, 47)]) k103_53 rfl rfl ?_
        refine sw_cons (key := 0) (t := 80) rfl rfl (fun h53 => ?_) (fun h53_0 => ?_)
        ·
          subst h53
          refine ev_ald4 k103_80 ?_
          refine ev_ild1 k103_82 ?_
          refine ev_ild5 k103_83 ?_
          refine ev_ild3 k103_85 ?_
          refine ev_cV4i k103_86 cs_210 (by first | assumption | rfl) (by omega) (Nat.le_of_ble_eq_true rfl) rfl rfl rfl ?_
          refine vc_Chair_saysVoice_5 h0 (by decide) (fun K hK => ?_)
          refine ev_ri k103_89 rfl ?_
          refine hQ _ _ ?_
          show mm_Ev mm_T0 X (d + 60) 227 0 [.ref 91, .int _, .int _, .int _] [] _ (mm_pi _)
          refine ev_ald0 k227_0 ?_
          refine ev_ild1 k227_1 ?_
          refine ev_cV2i k227_2 cs_239 (by first | assumption | rfl) (by omega) (Nat.le_of_ble_eq_true rfl) rfl rfl rfl ?_
          refine sm_cChair (show _ = nI nc from (congrFun (hK.1 92 (by decide) (by decide)) 2).trans rc) ?_
          refine ev_ifz_eq k227_5 (fun g5 => Bool.noConfusion (Eq.trans (Eq.symm h5) g5)) (fun g5 => ?_)
          refine ev_ild2 k227_8 ?_
          refine ev_iconst k227_9 ?_
          refine ev_iconst k227_10 ?_
          refine ev_cS3i k227_11 cs_224 rfl rfl rfl ?_
          refine sp_in ?_
          refine ev_ifz_ne k227_14 (fun g14 => ?_) (fun g14 => Bool.noConfusion (Eq.trans (Eq.symm h14) g14))
          refine ev_ald0 k227_24 ?_
          refine ev_iconst k227_25 ?_
          refine ev_pf (j := 15) k227_26 (by first | assumption | rfl) rfl rfl rfl ?_
          refine ev_ild2 k227_29 ?_
          refine ev_tb (l := [(0, 26), (1, 33), (2, 40)]) k227_30 rfl rfl ?_
          refine sw_cons (key := 0) (t := 56) rfl rfl (fun g30 => ?_) (fun g30_0 => ?_)
          ·
            refine ev_ald0 k227_56 ?_
            refine ev_ild1 k227_57 ?_
            refine ev_ild3 k227_58 ?_
            refine ev_cV3i k227_59 cs_279 (by first | assumption | rfl) (by omega) (Nat.le_of_ble_eq_true rfl) rfl rfl rfl ?_
            have hm0 : tmE K (mm_up K 91 15 0) [] := ⟨fun k a b => mm_up_ne _ _ _ _ _ a, fun j hj => by rw [mm_up_at, if_neg (fun z => hj z.2)], by rw [mm_up_at, if_pos ⟨rfl, rfl⟩]; rfl, trivial⟩
            refine vm_Model_speaks_5 (m := I 13 c) (show c < 6 by omega) (by rw [hK.1 92 (by decide) (by decide)]; exact (rm.2.1 c hc).1.trans ek) (by rw [hK.1 92 (by decide) (by decide)]; exact (rm.2.1 c hc).2.1) hm0 (by decide) (fun L hL => ?_)
            refine ev_ri k227_62 rfl ?_
            exact ⟨rfl, Inv_tr inv hK hL (by decide)⟩
          refine sw_cons (key := 1) (t := 63) rfl rfl (fun g30 => absurd g30 (by decide)) (fun g30_1 => ?_)
          refine sw_cons (key := 2) (t := 70) rfl rfl (fun g30 => absurd g30 (by decide)) (fun g30_2 => ?_)
          exact absurd rfl g30_0
        refine sw_cons (key := 1) (t := 90) rfl rfl (fun h53 => ?_) (fun h53_1 => ?_)
        ·
          subst h53
          refine ev_ald4 k103_90 ?_
          refine ev_ild1 k103_92 ?_
          refine ev_ild5 k103_93 ?_
          refine ev_ild3 k103_95 ?_
          refine ev_cV4i k103_96 cs_211 (by first | assumption | rfl) (by omega) (Nat.le_of_ble_eq_true rfl) rfl rfl rfl ?_
          refine vc_Bench_weighsVoice_5 h0 (by decide) (fun K hK => ?_)
          refine ev_ri k103_99 rfl ?_
          refine hQ _ _ ?_
          show mm_Ev mm_T0 X (d + 60) 227 0 [.ref 91, .int _, .int _, .int _] [] _ (mm_pi _)
          refine ev_ald0 k227_0 ?_
          refine ev_ild1 k227_1 ?_
          refine ev_cV2i k227_2 cs_239 (by first | assumption | rfl) (by omega) (Nat.le_of_ble_eq_true rfl) rfl rfl rfl ?_
          refine sm_cChair (show _ = nI nc from (congrFun (hK.1 92 (by decide) (by decide)) 2).trans rc) ?_
          refine ev_ifz_eq k227_5 (fun g5 => Bool.noConfusion (Eq.trans (Eq.symm h5) g5)) (fun g5 => ?_)
          refine ev_ild2 k227_8 ?_
          refine ev_iconst k227_9 ?_
          refine ev_iconst k227_10 ?_
          refine ev_cS3i k227_11 cs_224 rfl rfl rfl ?_
          refine sp_in ?_
          refine ev_ifz_ne k227_14 (fun g14 => ?_) (fun g14 => Bool.noConfusion (Eq.trans (Eq.symm h14) g14))
          refine ev_ald0 k227_24 ?_
          refine ev_iconst k227_25 ?_
          refine ev_pf (j := 15) k227_26 (by first | assumption | rfl) rfl rfl rfl ?_
          refine ev_ild2 k227_29 ?_
          refine ev_tb (l := [(0, 26), (1, 33), (2, 40)]) k227_30 rfl rfl ?_
          refine sw_cons (key := 0) (t := 56) rfl rfl (fun g30 => absurd g30 (by decide)) (fun g30_0 => ?_)
          refine sw_cons (key := 1) (t := 63) rfl rfl (fun g30 => ?_) (fun g30_1 => ?_)
          ·
            refine ev_ald0 k227_63 ?_
            refine ev_ild1 k227_64 ?_
            refine ev_ild3 k227_65 ?_
            refine ev_cV3i k227_66 cs_285 (by first | assumption | rfl) (by omega) (Nat.le_of_ble_eq_true rfl) rfl rfl rfl ?_
            have hm0 : tmE K (mm_up K 91 15 0) [] := ⟨fun k a b => mm_up_ne _ _ _ _ _ a, fun j hj => by rw [mm_up_at, if_neg (fun z => hj z.2)], by rw [mm_up_at, if_pos ⟨rfl, rfl⟩]; rfl, trivial⟩
            refine vm_Model_weighs_5 (m := I 13 c) (show c < 6 by omega) (by rw [hK.1 92 (by decide) (by decide)]; exact (rm.2.1 c hc).1.trans ek) (by rw [hK.1 92 (by decide) (by decide)]; exact (rm.2.1 c hc).2.1) hm0 (by decide) (fun L hL => ?_)
            refine ev_ri k227_69 rfl ?_
            exact ⟨rfl, Inv_tr inv hK hL (by decide)⟩
          refine sw_cons (key := 2) (t := 70) rfl rfl (fun g30 => absurd g30 (by decide)) (fun g30_2 => ?_)
          exact absurd rfl g30_1
        refine sw_cons (key := 2) (t := 100) rfl rfl (fun h53 => ?_) (fun h53_2 => ?_)
        ·
          subst h53
          refine ev_ald4 k103_100 ?_
          refine ev_ild1 k103_102 ?_
          refine ev_ild5 k103_103 ?_
          refine ev_ild3 k103_105 ?_
          refine ev_cV4i k103_106 cs_212 (by first | assumption | rfl) (by omega) (Nat.le_of_ble_eq_true rfl) rfl rfl rfl ?_
          refine vc_Chair_creaksVoice_5 h0 (by decide) (fun K hK => ?_)
          refine ev_ri k103_109 rfl ?_
          refine hQ _ _ ?_
          show mm_Ev mm_T0 X (d + 60) 227 0 [.ref 91, .int _, .int _, .int _] [] _ (mm_pi _)
          refine ev_ald0 k227_0 ?_
          refine ev_ild1 k227_1 ?_
          refine ev_cV2i k227_2 cs_239 (by first | assumption | rfl) (by omega) (Nat.le_of_ble_eq_true rfl) rfl rfl rfl ?_
          refine sm_cChair (show _ = nI nc from (congrFun (hK.1 92 (by decide) (by decide)) 2).trans rc) ?_
          refine ev_ifz_eq k227_5 (fun g5 => Bool.noConfusion (Eq.trans (Eq.symm h5) g5)) (fun g5 => ?_)
          refine ev_ild2 k227_8 ?_
          refine ev_iconst k227_9 ?_
          refine ev_iconst k227_10 ?_
          refine ev_cS3i k227_11 cs_224 rfl rfl rfl ?_
          refine sp_in ?_
          refine ev_ifz_ne k227_14 (fun g14 => ?_) (fun g14 => Bool.noConfusion (Eq.trans (Eq.symm h14) g14))
          refine ev_ald0 k227_24 ?_
          refine ev_iconst k227_25 ?_
          refine ev_pf (j := 15) k227_26 (by first | assumption | rfl) rfl rfl rfl ?_
          refine ev_ild2 k227_29 ?_
          refine ev_tb (l := [(0, 26), (1, 33), (2, 40)]) k227_30 rfl rfl ?_
          refine sw_cons (key := 0) (t := 56) rfl rfl (fun g30 => absurd g30 (by decide)) (fun g30_0 => ?_)
          refine sw_cons (key := 1) (t := 63) rfl rfl (fun g30 => absurd g30 (by decide)) (fun g30_1 => ?_)
          refine sw_cons (key := 2) (t := 70) rfl rfl (fun g30 => ?_) (fun g30_2 => ?_)
          ·
            refine ev_ald0 k227_70 ?_
            refine ev_ild1 k227_71 ?_
            refine ev_ild3 k227_72 ?_
            refine ev_cV3i k227_73 cs_281 (by first | assumption | rfl) (by omega) (Nat.le_of_ble_eq_true rfl) rfl rfl rfl ?_
            have hm0 : tmE K (mm_up K 91 15 0) [] := ⟨fun k a b => mm_up_ne _ _ _ _ _ a, fun j hj => by rw [mm_up_at, if_neg (fun z => hj z.2)], by rw [mm_up_at, if_pos ⟨rfl, rfl⟩]; rfl, trivial⟩
            refine vm_Model_creaks_5 (m := I 13 c) (show c < 6 by omega) (by rw [hK.1 92 (by decide) (by decide)]; exact (rm.2.1 c hc).1.trans ek) (by rw [hK.1 92 (by decide) (by decide)]; exact (rm.2.1 c hc).2.1) hm0 (by decide) (fun L hL => ?_)
            refine ev_ri k227_76 rfl ?_
            exact ⟨rfl, Inv_tr inv hK hL (by decide)⟩
          exact absurd rfl g30_2
        refine sw_nil (t := 110) rfl ?_
        refine ev_ald4 k103_110 ?_
        refine ev_ild1 k103_112 ?_
        refine ev_ild5 k103_113 ?_
        refine ev_ild3 k103_115 ?_
        refine ev_cV4i k103_116 cs_213 (by first | assumption | rfl) (by omega) (Nat.le_of_ble_eq_true rfl) rfl rfl rfl ?_
        refine vc_Chair_tellsVoice_5 h0 (by decide) (fun K hK => ?_)
        refine ev_ri k103_119 rfl ?_
        refine hQ _ _ ?_
        show mm_Ev mm_T0 X (d + 60) 227 0 [.ref 91, .int _, .int _, .int _] [] _ (mm_pi _)
        refine ev_ald0 k227_0 ?_
        refine ev_ild1 k227_1 ?_
        refine ev_cV2i k227_2 cs_239 (by first | assumption | rfl) (by omega) (Nat.le_of_ble_eq_true rfl) rfl rfl rfl ?_
        refine sm_cChair (show _ = nI nc from (congrFun (hK.1 92 (by decide) (by decide)) 2).trans rc) ?_
        refine ev_ifz_eq k227_5 (fun g5 => Bool.noConfusion (Eq.trans (Eq.symm h5) g5)) (fun g5 => ?_)
        refine ev_ild2 k227_8 ?_
        refine ev_iconst k227_9 ?_
        refine ev_iconst k227_10 ?_
        refine ev_cS3i k227_11 cs_224 rfl rfl rfl ?_
        refine sp_in ?_
        refine ev_ifz_ne k227_14 (fun g14 => ?_) (fun g14 => Bool.noConfusion (Eq.trans (Eq.symm h14) g14))
        refine ev_ald0 k227_24 ?_
        refine ev_iconst k227_25 ?_
        refine ev_pf (j := 15) k227_26 (by first | assumption | rfl) rfl rfl rfl ?_
        refine ev_ild2 k227_29 ?_
        refine ev_tb (l := [(0, 26), (1, 33), (2, 40)]) k227_30 rfl rfl ?_
        refine sw_cons (key := 0) (t := 56) rfl rfl (fun g30 => absurd g30 h53_0) (fun g30_0 => ?_)
        refine sw_cons (key := 1) (t := 63) rfl rfl (fun g30 => absurd g30 h53_1) (fun g30_1 => ?_)
        refine sw_cons (key := 2) (t := 70) rfl rfl (fun g30 => absurd g30 h53_2) (fun g30_2 => ?_)
        refine sw_nil (t := 77) rfl ?_
        refine ev_ald0 k227_77 ?_
        refine ev_ild1 k227_78 ?_
        refine ev_ild3 k227_79 ?_
        refine ev_cV3i k227_80 cs_287 (by first | assumption | rfl) (by omega) (Nat.le_of_ble_eq_true rfl) rfl rfl rfl ?_
        have hm0 : tmE K (mm_up K 91 15 0) [] := ⟨fun k a b => mm_up_ne _ _ _ _ _ a, fun j hj => by rw [mm_up_at, if_neg (fun z => hj z.2)], by rw [mm_up_at, if_pos ⟨rfl, rfl⟩]; rfl, trivial⟩
        refine vm_Model_tells_5 (m := I 13 c) (show c < 6 by omega) (by rw [hK.1 92 (by decide) (by decide)]; exact (rm.2.1 c hc).1.trans ek) (by rw [hK.1 92 (by decide) (by decide)]; exact (rm.2.1 c hc).2.1) hm0 (by decide) (fun L hL => ?_)
        refine ev_ri k227_83 rfl ?_
        exact ⟨rfl, Inv_tr inv hK hL (by decide)⟩
      ·
        refine ev_ald0 k103_31 ?_
        refine ev_getr k103_32 (by first | assumption | rfl) rfl rfl rfl ?_
        refine ev_ild1 k103_35 ?_
        refine ev_cV2r k103_36 cs_209 (by first | assumption | rfl) (by omega) (Nat.le_of_ble_eq_true rfl) rfl rfl rfl ?_
        refine sp_kindOf hh11 (show c < 6 by omega) (k := 6) ek (by decide) ?_
        refine ev_ast4 k103_39 rfl ?_
        refine ev_ald0 k103_41 ?_
        refine ev_getr k103_42 (by first | assumption | rfl) rfl rfl rfl ?_
        refine ev_getr k103_45 (by first | assumption | rfl) rfl rfl rfl ?_
        refine ev_ild1 k103_48 ?_
        refine ev_ialv (j := c) k103_49 (by first | assumption | rfl) (by omega) (nI_clamp (by omega)) (vp_in_nI (show c < 6 by omega) (by omega)) (show _ = I 13 c from rfl) ?_
        refine ev_ist5 k103_50 rfl ?_
        refine ev_ild2 k103_52 ?_
        refine ev_tb (l := [(0, 27), (1, 37), (2, 47)]) k103_53 rfl rfl ?_
        refine sw_cons (key := 0) (t := 80) rfl rfl (fun h53 => ?_) (fun h53_0 => ?_)
        ·
          subst h53
          refine ev_ald4 k103_80 ?_
          refine ev_ild1 k103_82 ?_
          refine ev_ild5 k103_83 ?_
          refine ev_ild3 k103_85 ?_
          refine ev_cV4i k103_86 cs_210 (by first | assumption | rfl) (by omega) (Nat.le_of_ble_eq_true rfl) rfl rfl rfl ?_
          refine vc_Chair_saysVoice_6 h0 (by decide) (fun K hK => ?_)
          refine ev_ri k103_89 rfl ?_
          refine hQ _ _ ?_
          show mm_Ev mm_T0 X (d + 60) 227 0 [.ref 91, .int _, .int _, .int _] [] _ (mm_pi _)
          refine ev_ald0 k227_0 ?_
          refine ev_ild1 k227_1 ?_
          refine ev_cV2i k227_2 cs_239 (by first | assumption | rfl) (by omega) (Nat.le_of_ble_eq_true rfl) rfl rfl rfl ?_
          refine sm_cChair (show _ = nI nc from (congrFun (hK.1 92 (by decide) (by decide)) 2).trans rc) ?_
          refine ev_ifz_eq k227_5 (fun g5 => Bool.noConfusion (Eq.trans (Eq.symm h5) g5)) (fun g5 => ?_)
          refine ev_ild2 k227_8 ?_
          refine ev_iconst k227_9 ?_
          refine ev_iconst k227_10 ?_
          refine ev_cS3i k227_11 cs_224 rfl rfl rfl ?_
          refine sp_in ?_
          refine ev_ifz_ne k227_14 (fun g14 => ?_) (fun g14 => Bool.noConfusion (Eq.trans (Eq.symm h14) g14))
          refine ev_ald0 k227_24 ?_
          refine ev_iconst k227_25 ?_
          refine ev_pf (j := 15) k227_26 (by first | assumption | rfl) rfl rfl rfl ?_
          refine ev_ild2 k227_29 ?_
          refine ev_tb (l := [(0, 26), (1, 33), (2, 40)]) k227_30 rfl rfl ?_
          refine sw_cons (key := 0) (t := 56) rfl rfl (fun g30 => ?_) (fun g30_0 => ?_)
          ·
            refine ev_ald0 k227_56 ?_
            refine ev_ild1 k227_57 ?_
            refine ev_ild3 k227_58 ?_
            refine ev_cV3i k227_59 cs_279 (by first | assumption | rfl) (by omega) (Nat.le_of_ble_eq_true rfl) rfl rfl rfl ?_
            have hm0 : tmE K (mm_up K 91 15 0) [] := ⟨fun k a b => mm_up_ne _ _ _ _ _ a, fun j hj => by rw [mm_up_at, if_neg (fun z => hj z.2)], by rw [mm_up_at, if_pos ⟨rfl, rfl⟩]; rfl, trivial⟩
            refine vm_Model_speaks_6 (m := I 13 c) (show c < 6 by omega) (by rw [hK.1 92 (by decide) (by decide)]; exact (rm.2.1 c hc).1.trans ek) (by rw [hK.1 92 (by decide) (by decide)]; exact (rm.2.1 c hc).2.1) hm0 (by decide) (fun L hL => ?_)
            refine ev_ri k227_62 rfl ?_
            exact ⟨rfl, Inv_tr inv hK hL (by decide)⟩
          refine sw_cons (key := 1) (t := 63) rfl rfl (fun g30 => absurd g30 (by decide)) (fun g30_1 => ?_)
          refine sw_cons (key := 2) (t := 70) rfl rfl (fun g30 => absurd g30 (by decide)) (fun g30_2 => ?_)
          exact absurd rfl g30_0
        refine sw_cons (key := 1) (t := 90) rfl rfl (fun h53 => ?_) (fun h53_1 => ?_)
        ·
          subst h53
          refine ev_ald4 k103_90 ?_
          refine ev_ild1 k103_92 ?_
          refine ev_ild5 k103_93 ?_
          refine ev_ild3 k103_95 ?_
          refine ev_cV4i k103_96 cs_211 (by first | assumption | rfl) (by omega) (Nat.le_of_ble_eq_true rfl) rfl rfl rfl ?_
          refine vc_Chair_weighsVoice_6 h0 (by decide) (fun K hK => ?_)
          refine ev_ri k103_99 rfl ?_
          refine hQ _ _ ?_
          show mm_Ev mm_T0 X (d + 60) 227 0 [.ref 91, .int _, .int _, .int _] [] _ (mm_pi _)
          refine ev_ald0 k227_0 ?_
          refine ev_ild1 k227_1 ?_
          refine ev_cV2i k227_2 cs_239 (by first | assumption | rfl) (by omega) (Nat.le_of_ble_eq_true rfl) rfl rfl rfl ?_
          refine sm_cChair (show _ = nI nc from (congrFun (hK.1 92 (by decide) (by decide)) 2).trans rc) ?_
          refine ev_ifz_eq k227_5 (fun g5 => Bool.noConfusion (Eq.trans (Eq.symm h5) g5)) (fun g5 => ?_)
          refine ev_ild2 k227_8 ?_
          refine ev_iconst k227_9 ?_
          refine ev_iconst k227_10 ?_
          refine ev_cS3i k227_11 cs_224 rfl rfl rfl ?_
          refine sp_in ?_
          refine ev_ifz_ne k227_14 (fun g14 => ?_) (fun g14 => Bool.noConfusion (Eq.trans (Eq.symm h14) g14))
          refine ev_ald0 k227_24 ?_
          refine ev_iconst k227_25 ?_
          refine ev_pf (j := 15) k227_26 (by first | assumption | rfl) rfl rfl rfl ?_
          refine ev_ild2 k227_29 ?_
          refine ev_tb (l := [(0, 26), (1, 33), (2, 40)]) k227_30 rfl rfl ?_
          refine sw_cons (key := 0) (t := 56) rfl rfl (fun g30 => absurd g30 (by decide)) (fun g30_0 => ?_)
          refine sw_cons (key := 1) (t := 63) rfl rfl (fun g30 => ?_) (fun g30_1 => ?_)
          ·
            refine ev_ald0 k227_63 ?_
            refine ev_ild1 k227_64 ?_
            refine ev_ild3 k227_65 ?_
            refine ev_cV3i k227_66 cs_285 (by first | assumption | rfl) (by omega) (Nat.le_of_ble_eq_true rfl) rfl rfl rfl ?_
            have hm0 : tmE K (mm_up K 91 15 0) [] := ⟨fun k a b => mm_up_ne _ _ _ _ _ a, fun j hj => by rw [mm_up_at, if_neg (fun z => hj z.2)], by rw [mm_up_at, if_pos ⟨rfl, rfl⟩]; rfl, trivial⟩
            refine vm_Model_weighs_6 (m := I 13 c) (show c < 6 by omega) (by rw [hK.1 92 (by decide) (by decide)]; exact (rm.2.1 c hc).1.trans ek) (by rw [hK.1 92 (by decide) (by decide)]; exact (rm.2.1 c hc).2.1) hm0 (by decide) (fun L hL => ?_)
            refine ev_ri k227_69 rfl ?_
            exact ⟨rfl, Inv_tr inv hK hL (by decide)⟩
          refine sw_cons (key := 2) (t := 70) rfl rfl (fun g30 => absurd g30 (by decide)) (fun g30_2 => ?_)
          exact absurd rfl g30_1
        refine sw_cons (key := 2) (t := 100) rfl rfl (fun h53 => ?_) (fun h53_2 => ?_)
        ·
          subst h53
          refine ev_ald4 k103_100 ?_
          refine ev_ild1 k103_102 ?_
          refine ev_ild5 k103_103 ?_
          refine ev_ild3 k103_105 ?_
          refine ev_cV4i k103_106 cs_212 (by first | assumption | rfl) (by omega) (Nat.le_of_ble_eq_true rfl) rfl rfl rfl ?_
          refine vc_Crown_creaksVoice_6 h0 (by decide) (fun K hK => ?_)
          refine ev_ri k103_109 rfl ?_
          refine hQ _ _ ?_
          show mm_Ev mm_T0 X (d + 60) 227 0 [.ref 91, .int _, .int _, .int _] [] _ (mm_pi _)
          refine ev_ald0 k227_0 ?_
          refine ev_ild1 k227_1 ?_
          refine ev_cV2i k227_2 cs_239 (by first | assumption | rfl) (by omega) (Nat.le_of_ble_eq_true rfl) rfl rfl rfl ?_
          refine sm_cChair (show _ = nI nc from (congrFun (hK.1 92 (by decide) (by decide)) 2).trans rc) ?_
          refine ev_ifz_eq k227_5 (fun g5 => Bool.noConfusion (Eq.trans (Eq.symm h5) g5)) (fun g5 => ?_)
          refine ev_ild2 k227_8 ?_
          refine ev_iconst k227_9 ?_
          refine ev_iconst k227_10 ?_
          refine ev_cS3i k227_11 cs_224 rfl rfl rfl ?_
          refine sp_in ?_
          refine ev_ifz_ne k227_14 (fun g14 => ?_) (fun g14 => Bool.noConfusion (Eq.trans (Eq.symm h14) g14))
          refine ev_ald0 k227_24 ?_
          refine ev_iconst k227_25 ?_
          refine ev_pf (j := 15) k227_26 (by first | assumption | rfl) rfl rfl rfl ?_
          refine ev_ild2 k227_29 ?_
          refine ev_tb (l := [(0, 26), (1, 33), (2, 40)]) k227_30 rfl rfl ?_
          refine sw_cons (key := 0) (t := 56) rfl rfl (fun g30 => absurd g30 (by decide)) (fun g30_0 => ?_)
          refine sw_cons (key := 1) (t := 63) rfl rfl (fun g30 => absurd g30 (by decide)) (fun g30_1 => ?_)
          refine sw_cons (key := 2) (t := 70) rfl rfl (fun g30 => ?_) (fun g30_2 => ?_)
          ·
            refine ev_ald0 k227_70 ?_
            refine ev_ild1 k227_71 ?_
            refine ev_ild3 k227_72 ?_
            refine ev_cV3i k227_73 cs_281 (by first | assumption | rfl) (by omega) (Nat.le_of_ble_eq_true rfl) rfl rfl rfl ?_
            have hm0 : tmE K (mm_up K 91 15 0) [] := ⟨fun k a b => mm_up_ne _ _ _ _ _ a, fun j hj => by rw [mm_up_at, if_neg (fun z => hj z.2)], by rw [mm_up_at, if_pos ⟨rfl, rfl⟩]; rfl, trivial⟩
            refine vm_Model_creaks_6 (m := I 13 c) (show c < 6 by omega) (by rw [hK.1 92 (by decide) (by decide)]; exact (rm.2.1 c hc).1.trans ek) (by rw [hK.1 92 (by decide) (by decide)]; exact (rm.2.1 c hc).2.1) hm0 (by decide) (fun L hL => ?_)
            refine ev_ri k227_76 rfl ?_
            exact ⟨rfl, Inv_tr inv hK hL (by decide)⟩
          exact absurd rfl g30_2
        refine sw_nil (t := 110) rfl ?_
        refine ev_ald4 k103_110 ?_
        refine ev_ild1 k103_112 ?_
        refine ev_ild5 k103_113 ?_
        refine ev_ild3 k103_115 ?_
        refine ev_cV4i k103_116 cs_213 (by first | assumption | rfl) (by omega) (Nat.le_of_ble_eq_true rfl) rfl rfl rfl ?_
        refine vc_Crown_tellsVoice_6 h0 (by decide) (fun K hK => ?_)
        refine ev_ri k103_119 rfl ?_
        refine hQ _ _ ?_
        show mm_Ev mm_T0 X (d + 60) 227 0 [.ref 91, .int _, .int _, .int _] [] _ (mm_pi _)
        refine ev_ald0 k227_0 ?_
        refine ev_ild1 k227_1 ?_
        refine ev_cV2i k227_2 cs_239 (by first | assumption | rfl) (by omega) (Nat.le_of_ble_eq_true rfl) rfl rfl rfl ?_
        refine sm_cChair (show _ = nI nc from (congrFun (hK.1 92 (by decide) (by decide)) 2).trans rc) ?_
        refine ev_ifz_eq k227_5 (fun g5 => Bool.noConfusion (Eq.trans (Eq.symm h5) g5)) (fun g5 => ?_)
        refine ev_ild2 k227_8 ?_
        refine ev_iconst k227_9 ?_
        refine ev_iconst k227_10 ?_
        refine ev_cS3i k227_11 cs_224 rfl rfl rfl ?_
        refine sp_in ?_
        refine ev_ifz_ne k227_14 (fun g14 => ?_) (fun g14 => Bool.noConfusion (Eq.trans (Eq.symm h14) g14))
        refine ev_ald0 k227_24 ?_
        refine ev_iconst k227_25 ?_
        refine ev_pf (j := 15) k227_26 (by first | assumption | rfl) rfl rfl rfl ?_
        refine ev_ild2 k227_29 ?_
        refine ev_tb (l := [(0, 26), (1, 33), (2, 40)]) k227_30 rfl rfl ?_
        refine sw_cons (key := 0) (t := 56) rfl rfl (fun g30 => absurd g30 h53_0) (fun g30_0 => ?_)
        refine sw_cons (key := 1) (t := 63) rfl rfl (fun g30 => absurd g30 h53_1) (fun g30_1 => ?_)
        refine sw_cons (key := 2) (t := 70) rfl rfl (fun g30 => absurd g30 h53_2) (fun g30_2 => ?_)
        refine sw_nil (t := 77) rfl ?_
        refine ev_ald0 k227_77 ?_
        refine ev_ild1 k227_78 ?_
        refine ev_ild3 k227_79 ?_
        refine ev_cV3i k227_80 cs_287 (by first | assumption | rfl) (by omega) (Nat.le_of_ble_eq_true rfl) rfl rfl rfl ?_
        have hm0 : tmE K (mm_up K 91 15 0) [] := ⟨fun k a b => mm_up_ne _ _ _ _ _ a, fun j hj => by rw [mm_up_at, if_neg (fun z => hj z.2)], by rw [mm_up_at, if_pos ⟨rfl, rfl⟩]; rfl, trivial⟩
        refine vm_Model_tells_6 (m := I 13 c) (show c < 6 by omega) (by rw [hK.1 92 (by decide) (by decide)]; exact (rm.2.1 c hc).1.trans ek) (by rw [hK.1 92 (by decide) (by decide)]; exact (rm.2.1 c hc).2.1) hm0 (by decide) (fun L hL => ?_)
        refine ev_ri k227_83 rfl ?_
        exact ⟨rfl, Inv_tr inv hK hL (by decide)⟩
    ·
      refine ev_ald0 k103_17 ?_
      refine ev_ldc k103_18 ?_
      refine ev_cV2i k103_20 cs_174 (by first | assumption | rfl) (by omega) (Nat.le_of_ble_eq_true rfl) rfl rfl rfl ?_
      refine sp_error (k := 1) (by decide) (by decide) (by decide) ?_
      refine ev_ri k103_23 rfl ?_
      refine hQ _ _ ?_
      show mm_Ev mm_T0 X (d + 60) 227 0 [.ref 91, .int _, .int _, .int _] [] _ (mm_pi _)
      refine ev_ald0 k227_0 ?_
      refine ev_ild1 k227_1 ?_
      refine ev_cV2i k227_2 cs_239 (by first | assumption | rfl) (by omega) (Nat.le_of_ble_eq_true rfl) rfl rfl rfl ?_
      refine sm_cChair (show _ = nI nc from rc) ?_
      refine ev_ifz_eq k227_5 (fun g5 => Bool.noConfusion (Eq.trans (Eq.symm h5) g5)) (fun g5 => ?_)
      refine ev_ild2 k227_8 ?_
      refine ev_iconst k227_9 ?_
      refine ev_iconst k227_10 ?_
      refine ev_cS3i k227_11 cs_224 rfl rfl rfl ?_
      refine sp_in ?_
      refine ev_ifz_ne k227_14 (fun g14 => Bool.noConfusion (Eq.trans (Eq.symm h14) g14)) (fun g14 => ?_)
      refine ev_ald0 k227_17 ?_
      refine ev_ldc k227_18 ?_
      refine ev_cV2i k227_20 cs_238 (by first | assumption | rfl) (by omega) (Nat.le_of_ble_eq_true rfl) rfl rfl rfl ?_
      refine sm_error (k := 1) (by decide) (by decide) ?_
      refine ev_ri k227_23 rfl ?_
      first | exact ⟨rfl, Inv_e rfl rfl inv⟩ | exact ⟨rfl, inv⟩
