/-! parts -/
def szB (z : Int32) (s : Nat) : Bool := decide (bc (nI s) = z)
def ufE (S : mm_I) (nc b : Nat) (z : Int32) (x k : Nat) : Bool := decide (bc (nI k) = z) && decide (mgS S nc b k = mgS S nc b x)
def ufB (S : mm_I) (nc b : Nat) (z : Int32) (s : Nat) : Bool := szB z s && (fnd (ufE S nc b z s) s 0).isNone
theorem cn_s (f : Nat → Bool) : ∀ n i, cn f (n + 1) i = cn f n i + (if f (i + n) = true then 1 else 0)
  | 0, i => by simp [cn]
  | n + 1, i => by
    rw [show cn f (n + 1 + 1) i = (if f i = true then 1 else 0) + cn f (n + 1) (i + 1) from rfl, cn_s f n (i + 1), show cn f (n + 1) i = (if f i = true then 1 else 0) + cn f n (i + 1) from rfl, show i + 1 + n = i + (n + 1) by omega, Nat.add_assoc]
theorem cn_t {f : Nat → Bool} {n : Nat} (h : f n = true) : cn f (n + 1) 0 = cn f n 0 + 1 := by rw [cn_s, Nat.zero_add, if_pos h]
theorem cn_f {f : Nat → Bool} {n : Nat} (h : f n = false) : cn f (n + 1) 0 = cn f n 0 := by rw [cn_s, Nat.zero_add, if_neg (by rw [h]; decide), Nat.add_zero]
theorem cn_mono (f : Nat → Bool) {m : Nat} : ∀ n, m ≤ n → cn f m 0 ≤ cn f n 0 := by
  intro n
  induction n with
  | zero => intro h; have : m = 0 := by omega
            subst this; exact Nat.le_refl _
  | succ n ih =>
    intro h
    by_cases e : m = n + 1
    · rw [e]; exact Nat.le_refl _
    · have := ih (by omega)
      rw [cn_s]; omega
theorem cn_sub {f g : Nat → Bool} (h : ∀ s, f s = true → g s = true) : ∀ n i, cn f n i ≤ cn g n i
  | 0, _ => Nat.le_refl _
  | n + 1, i => by
    have z := cn_sub h n (i + 1)
    show (if f i = true then 1 else 0) + cn f n (i + 1) ≤ (if g i = true then 1 else 0) + cn g n (i + 1)
    by_cases e : f i = true
    · rw [if_pos e, if_pos (h i e)]; omega
    · rw [if_neg e]; omega
theorem sz20 : ∀ s : Fin 64, cn (szB (bc (nI s.val))) 64 0 ≤ 20 := by decide +kernel
theorem fnd_iff {f : Nat → Bool} {n : Nat} : (fnd f n 0).isSome = true ↔ ∃ q, q < n ∧ f q = true := by
  cases h : fnd f n 0 with
  | none =>
    refine ⟨fun z => (by cases z), fun ⟨q, a, b⟩ => ?_⟩
    rw [fnd_none h q (Nat.zero_le _) (by omega)] at b
    cases b
  | some m => exact ⟨fun _ => ⟨m, by have := (fnd_some h).2.1; omega, (fnd_some h).2.2⟩, fun _ => rfl⟩
theorem amg_iff {f : Nat → Int32} {v : Int32} {n : Nat} : amg f v n = true ↔ ∃ q, q < n ∧ f q = v := by
  unfold amg
  rw [fnd_iff]
  exact ⟨fun ⟨q, a, b⟩ => ⟨q, a, of_decide_eq_true b⟩, fun ⟨q, a, b⟩ => ⟨q, a, decide_eq_true b⟩⟩
theorem uf_f {S : mm_I} {nc b i : Nat} {z : Int32} (hz : bc (nI i) = z) : (∃ k, k < i ∧ bc (nI k) = z ∧ mgS S nc b k = mgS S nc b i) ↔ ufB S nc b z i = false := by
  unfold ufB szB
  rw [decide_eq_true hz, Bool.true_and]
  have e : (∃ k, k < i ∧ bc (nI k) = z ∧ mgS S nc b k = mgS S nc b i) ↔ (fnd (ufE S nc b z i) i 0).isSome = true := by
    rw [fnd_iff]
    refine ⟨fun ⟨k, a, c, d⟩ => ⟨k, a, ?_⟩, fun ⟨k, a, c⟩ => ⟨k, a, ?_⟩⟩
    · unfold ufE; rw [decide_eq_true c, decide_eq_true d]; rfl
    · unfold ufE at c
      simp only [Bool.and_eq_true, decide_eq_true_eq] at c
      exact c
  rw [e]
  cases fnd (ufE S nc b z i) i 0 <;> simp
/-- what stands in the row of unlike numbers, i sets being looked at -/
def unR (K : mm_I) (S : mm_I) (nc b : Nat) (z : Int32) (i : Nat) : Prop := K 88 1 = 32 ∧ K 88 2 = nI (cn (ufB S nc b z) i 0) ∧ ∀ v, (∃ q, q < cn (ufB S nc b z) i 0 ∧ K 89 q = v) ↔ ∃ k, k < i ∧ bc (nI k) = z ∧ mgS S nc b k = v
theorem unR_no {K S : mm_I} {nc b i : Nat} {z : Int32} (h : unR K S nc b z i) (hz : ¬ bc (nI i) = z) : unR K S nc b z (i + 1) := by
  have e : cn (ufB S nc b z) (i + 1) 0 = cn (ufB S nc b z) i 0 := cn_f (by unfold ufB szB; rw [decide_eq_false hz]; rfl)
  refine ⟨h.1, by rw [e]; exact h.2.1, fun v => ?_⟩
  rw [e, h.2.2 v]
  exact ⟨fun ⟨k, a, c⟩ => ⟨k, by omega, c⟩, fun ⟨k, a, c⟩ => ⟨k, by
    have : ¬ k = i := fun w => hz (by rw [← w]; exact c.1)
    omega, c⟩⟩
theorem unR_old {K S : mm_I} {nc b i : Nat} {z : Int32} (h : unR K S nc b z i) (hz : bc (nI i) = z) (ha : amg (K 89) (mgS S nc b i) (cn (ufB S nc b z) i 0) = true) : unR K S nc b z (i + 1) := by
  have hx := (h.2.2 _).mp (amg_iff.mp ha)
  have e : cn (ufB S nc b z) (i + 1) 0 = cn (ufB S nc b z) i 0 := cn_f ((uf_f hz).mp hx)
  refine ⟨h.1, by rw [e]; exact h.2.1, fun v => ?_⟩
  rw [e, h.2.2 v]
  refine ⟨fun ⟨k, a, c⟩ => ⟨k, by omega, c⟩, fun ⟨k, a, c⟩ => ?_⟩
  by_cases w : k = i
  · obtain ⟨k', a', c', d'⟩ := hx
    exact ⟨k', a', c', by rw [d', ← w]; exact c.2⟩
  · exact ⟨k, by omega, c⟩
theorem unR_new {K S : mm_I} {nc b i : Nat} {z : Int32} (h : unR K S nc b z i) (hz : bc (nI i) = z) (ha : ¬ amg (K 89) (mgS S nc b i) (cn (ufB S nc b z) i 0) = true) : unR (mm_up (mm_up K 89 (cn (ufB S nc b z) i 0) (mgS S nc b i)) 88 2 (nI (cn (ufB S nc b z) i 0 + 1))) S nc b z (i + 1) := by
  have ht : ufB S nc b z i = true := by
    cases w : ufB S nc b z i with
    | true => rfl
    | false => exact absurd (amg_iff.mpr ((h.2.2 _).mpr ((uf_f hz).mpr w))) ha
  have e : cn (ufB S nc b z) (i + 1) 0 = cn (ufB S nc b z) i 0 + 1 := cn_t ht
  refine ⟨?_, ?_, fun v => ?_⟩
  · rw [mm_up_at, if_neg (by omega), mm_up_ne _ _ _ _ _ (by decide)]; exact h.1
  · rw [mm_up_at, if_pos ⟨rfl, rfl⟩, e]
  · rw [e, mm_up_ne _ _ _ _ _ (by decide)]
    constructor
    · rintro ⟨q, a, c⟩
      rw [mm_up_at] at c
      by_cases w : q = cn (ufB S nc b z) i 0
      · rw [if_pos ⟨rfl, w⟩] at c
        exact ⟨i, by omega, hz, c⟩
      · rw [if_neg (fun t => w t.2)] at c
        obtain ⟨k, a', c'⟩ := (h.2.2 v).mp ⟨q, by omega, c⟩
        exact ⟨k, by omega, c'⟩
    · rintro ⟨k, a, c, d⟩
      by_cases w : k = i
      · exact ⟨_, Nat.lt_succ_self _, by rw [mm_up_at, if_pos ⟨rfl, rfl⟩, ← w]; exact d⟩
      · obtain ⟨q, a', c'⟩ := (h.2.2 v).mpr ⟨k, by omega, c, d⟩
        exact ⟨q, by omega, by rw [mm_up_at, if_neg (by omega)]; exact c'⟩
theorem un_lt {S : mm_I} {nc b i : Nat} {z : Int32} (h20 : cn (szB z) 64 0 ≤ 20) (hi : i < 64) (hz : bc (nI i) = z) : cn (ufB S nc b z) i 0 < 20 := by
  have a := cn_sub (f := ufB S nc b z) (g := szB z) (fun s hs => by unfold ufB at hs; simp only [Bool.and_eq_true] at hs; exact hs.1) i 0
  have c := cn_mono (szB z) (m := i + 1) 64 (by omega)
  rw [cn_t (decide_eq_true hz)] at c
  omega
theorem Inv_88 {I K : mm_I} (inv : Inv I) (h : ∀ k, k ≠ 88 → k ≠ 89 → K k = I k) (h1 : K 88 1 = 32) : Inv K := by
  obtain ⟨⟨nc, np, hs⟩, im, er, tr, sh, cs⟩ := inv
  refine ⟨⟨nc, np, HS_congr (fun k hk _ _ _ => h _ (by omega) (by omega)) (fun j _ => by rw [h 92 (by decide) (by decide)]) hs⟩, ⟨?_, ?_⟩, ?_, ?_, fun s hs4 => ?_, ?_⟩
  · rw [h 0 (by decide) (by decide), h 91 (by decide) (by decide)]; exact im.1
  · rw [h 0 (by decide) (by decide)]
    exact im.2.imp id (fun ⟨a, b, q⟩ => ⟨a, b, HS_congr (fun k hk _ _ _ => h _ (by omega) (by omega)) (fun j _ => by rw [h 93 (by decide) (by decide)]) q⟩)
  · unfold erR
    rw [h 90 (by decide) (by decide), h 95 (by decide) (by decide)]; exact er
  · unfold trR
    rw [h 1 (by decide) (by decide), h 2 (by decide) (by decide), h 91 (by decide) (by decide), h 100 (by decide) (by decide)]; exact tr
  · rw [h (80 + 2 * s) (by omega) (by omega), h (81 + 2 * s) (by omega) (by omega), h 101 (by decide) (by decide), h 102 (by decide) (by decide), h 103 (by decide) (by decide)]; exact sh s hs4
  · unfold csR
    rw [h 75 (by decide) (by decide), h (32 + 9) (by decide) (by decide), h (32 + 13) (by decide) (by decide), h (53 + 9) (by decide) (by decide), h (53 + 13) (by decide) (by decide)]
    exact ⟨cs.1, h1, cs.2.2⟩
/-- the unlike numbers of a bill -/
def unN (S : mm_I) (nc : Nat) (z : Int32) (B b : Nat) : Nat := cn (ufB S nc b z) B 0
theorem lp_unl {X : Nat × (Nat → Int32)} {d : Nat} {J0 S : mm_I} {nc b B : Nat} {z : Int32} {P : Int32 → mm_I → Prop} (c1 : J0 11 1 = nI nc) (n6 : nc ≤ 6) (ok2 : ∀ c, c < nc → J0 (11 + 1) c = nI (hK J0 11 c) ∧ hK J0 11 c < 7) (hw : ∀ J, (∀ k, k ≠ 88 → k ≠ 89 → J k = J0 k) → ∀ b t, hMg J 11 nc b t = hMv S 0 nc (hWt S 0) b t) (hB : (1 : Int32) <<< (nI nc &&& 31) = nI B) (hB64 : B ≤ 64) (h20 : cn (szB z) 64 0 ≤ 20) (hQ : ∀ K, (∀ k, k ≠ 88 → k ≠ 89 → K k = J0 k) → K 88 1 = 32 → P (nI (unN S nc z B b)) K) : ∀ (n i : Nat) (J : mm_I), i + n = B → unR J S nc b z i → (∀ k, k ≠ 88 → k ≠ 89 → J k = J0 k) → mm_Ev mm_T0 X (d + 20) 135 9 [.ref 0, .int (nI b), .int z, .int (nI i)] [] J (mm_pi P) := by
  have t0 := tCV
  intro n
  induction n with
  | zero =>
    intro i J hi hu hf
    have e : i = B := by omega
    subst e
    refine ev_ild3 k135_9 ?_
    refine ev_iconst k135_10 ?_
    refine ev_ald0 k135_11 ?_
    refine ev_getr k135_12 (by first | assumption | rfl) rfl rfl rfl ?_
    refine ev_gfv (j := 1) k135_15 (by first | assumption | rfl) rfl rfl rfl rfl ((congrFun (hf 11 (by decide) (by decide)) 1).trans c1) ?_
    refine ev_ishl k135_18 ?_
    rw [hB]
    refine ev_jcmp_ge k135_19 (fun h19 => ?_) (fun h19 => absurd h19 (nI_nlt (Nat.le_refl _) (by omega)))
    refine ev_ald0 k135_52 ?_
    refine ev_getr k135_53 (by first | assumption | rfl) rfl rfl rfl ?_
    refine ev_gfv (j := 2) k135_56 (by first | assumption | rfl) rfl rfl rfl rfl hu.2.1 ?_
    refine ev_ri k135_59 rfl ?_
    exact hQ J hf hu.1
  | succ n ih =>
    intro i J hi hu hf
    have hlt : i < B := by omega
    refine ev_ild3 k135_9 ?_
    refine ev_iconst k135_10 ?_
    refine ev_ald0 k135_11 ?_
    refine ev_getr k135_12 (by first | assumption | rfl) rfl rfl rfl ?_
    refine ev_gfv (j := 1) k135_15 (by first | assumption | rfl) rfl rfl rfl rfl ((congrFun (hf 11 (by decide) (by decide)) 1).trans c1) ?_
    refine ev_ishl k135_18 ?_
    rw [hB]
    refine ev_jcmp_ge k135_19 (fun h19 => absurd (nI_lt hlt (by omega)) h19) (fun h19 => ?_)
    refine ev_ild3 k135_22 ?_
    refine ev_cS1i k135_23 cs_198 rfl rfl rfl ?_
    refine sp_bitCount ?_
    refine ev_ild2 k135_26 ?_
    refine ev_icmp_ne k135_27 (fun h27 => ?_) (fun h27 => ?_)
    ·
      refine ev_inc3 k135_46 rfl ?_
      refine ev_goto k135_49 ?_
      rw [nI_1]
      exact ih (i + 1) J (by omega) (unR_no hu h27) hf
    ·
      refine ev_ald0 k135_30 ?_
      refine ev_getr k135_31 (by first | assumption | rfl) rfl rfl rfl ?_
      refine ev_ald0 k135_34 ?_
      refine ev_getr k135_35 (by first | assumption | rfl) rfl rfl rfl ?_
      refine ev_ild1 k135_38 ?_
      refine ev_ild3 k135_39 ?_
      refine ev_cV3i k135_40 cs_195 (by first | assumption | rfl) (by omega) (Nat.le_of_ble_eq_true rfl) rfl rfl rfl ?_
      refine sp_margin hh11 (nc := nc) ((congrFun (hf 11 (by decide) (by decide)) 1).trans c1) n6 (fun c hc => by unfold hK; rw [hf (11 + 1) (by decide) (by decide)]; exact ok2 c hc) ?_
      rw [hw J hf, show hMv S 0 nc (hWt S 0) (nI b) (nI i) = mgS S nc b i from rfl]
      refine ev_cV2v k135_43 cs_223 (by first | assumption | rfl) (by omega) (Nat.le_of_ble_eq_true rfl) rfl rfl rfl ?_
      have hl20 := un_lt (S := S) (nc := nc) (b := b) h20 (show i < 64 by omega) h27
      refine sp_aut (ra := 88) (N := 20) (l := cn (ufB S nc b z) i 0) rfl rfl (by decide) hu.2.1 (by omega) (by decide) ?_
      rw [if_pos hl20, hu.1, cut32]
      skip
      refine ev_inc3 k135_46 rfl ?_
      refine ev_goto k135_49 ?_
      rw [nI_1]
      by_cases ha : amg (J 89) (mgS S nc b i) (cn (ufB S nc b z) i 0) = true
      · rw [if_pos ha]
        exact ih (i + 1) J (by omega) (unR_old hu h27 ha) hf
      · rw [if_neg ha]
        refine ih (i + 1) _ (by omega) (unR_new hu h27 ha) (fun k a b => ?_)
        rw [mm_up_ne _ _ _ _ _ a, mm_up_ne _ _ _ _ _ b]; exact hf k a b
/-- CV.unlikeMargins -/
theorem sp_unl {X : Nat × (Nat → Int32)} {d : Nat} {I : mm_I} {S : mm_I} {nc b B : Nat} {z : Int32} {P : Int32 → mm_I → Prop} (c1 : I 11 1 = nI nc) (n6 : nc ≤ 6) (ok2 : ∀ c, c < nc → I (11 + 1) c = nI (hK I 11 c) ∧ hK I 11 c < 7) (hw : ∀ J, (∀ k, k ≠ 88 → k ≠ 89 → J k = I k) → ∀ b t, hMg J 11 nc b t = hMv S 0 nc (hWt S 0) b t) (hB : (1 : Int32) <<< (nI nc &&& 31) = nI B) (hB64 : B ≤ 64) (h20 : cn (szB z) 64 0 ≤ 20) (h1 : I 88 1 = 32) (hQ : ∀ K, (∀ k, k ≠ 88 → k ≠ 89 → K k = I k) → K 88 1 = 32 → P (nI (unN S nc z B b)) K) : mm_Ev mm_T0 X (d + 20) 135 0 (mm_ent 135 [.ref 0, .int (nI b), .int z]) [] I (mm_pi P) := by
  show mm_Ev mm_T0 X (d + 20) 135 0 [.ref 0, .int (nI b), .int z, .retAddr 0] [] I (mm_pi P)
  have t0 := tCV
  refine ev_ald0 k135_0 ?_
  refine ev_getr k135_1 (by first | assumption | rfl) rfl rfl rfl ?_
  refine ev_cV1v k135_4 cs_188 (by first | assumption | rfl) (by omega) (Nat.le_of_ble_eq_true rfl) rfl rfl rfl ?_
  refine sp_clear (ra := 88) rfl ?_
  refine ev_iconst k135_7 ?_
  refine ev_ist3 k135_8 rfl ?_
  refine lp_unl c1 n6 ok2 hw hB hB64 h20 hQ B 0 _ (by omega) ⟨?_, ?_, fun v => ?_⟩ (fun k a b => mm_up_ne _ _ _ _ _ a)
  · rw [mm_up_at, if_neg (by omega)]; exact h1
  · rw [mm_up_at, if_pos ⟨rfl, rfl⟩]; rfl
  · exact ⟨fun ⟨q, a, _⟩ => absurd a (Nat.not_lt_zero _), fun ⟨q, a, _⟩ => absurd a (Nat.not_lt_zero _)⟩
theorem lm_isF0 {X : Nat × (Nat → Int32)} {d : Nat} {J : mm_I} {b x z g i : Int32} {P : Int32 → mm_I → Prop} (hQ : P 0 J) : mm_Ev mm_T0 X d 210 14 [.ref 91, .int b, .int x, .int z, .int g, .int 0, .int i] [] J (mm_pi P) := by
  refine ev_ild6 k210_14 ?_
  refine ev_ild2 k210_16 ?_
  refine ev_jcmp_ge k210_17 (fun h17 => ?_) (fun h17 => ?_)
  ·
    refine ev_ild5 k210_59 ?_
    refine ev_rz k210_61 rfl (by first | exact bI01 _ | exact Or.inl rfl | exact Or.inr rfl | assumption) ?_
    exact hQ
  ·
    refine ev_ild5 k210_20 ?_
    refine ev_if_eq k210_22 (fun h22 => ?_) (fun h22 => absurd rfl h22)
    refine ev_ild5 k210_59 ?_
    refine ev_rz k210_61 rfl (by first | exact bI01 _ | exact Or.inl rfl | exact Or.inr rfl | assumption) ?_
    exact hQ
theorem lm_isF {X : Nat × (Nat → Int32)} {d : Nat} {I S : mm_I} {nc np b x : Nat} {z : Int32} {P : Int32 → mm_I → Prop} (rm : RM S I nc np) (ok : hOK S 0 nc) (sr : sR S nc np) (tt : TR S I) (hx : x < 64) (hQ : ∀ J, sc I J → P (bI (fnd (ufE S nc b z x) x 0).isNone) J) : ∀ (n i : Nat) (J : mm_I), i + n = x → (sc I J ∧ fnd (ufE S nc b z x) n i = fnd (ufE S nc b z x) x 0) → mm_Ev mm_T0 X (d + 20) 210 14 [.ref 91, .int (nI b), .int (nI x), .int z, .int (mgS S nc b x), .int 1, .int (nI i)] [] J (mm_pi P) := by
  have tm := tM
  have tr := tR
  intro n
  induction n with
  | zero =>
    intro i J hi hv
    have e : i = x := by omega
    subst e
    refine ev_ild6 k210_14 ?_
    refine ev_ild2 k210_16 ?_
    refine ev_jcmp_ge k210_17 (fun h17 => ?_) (fun h17 => absurd h17 (nI_nlt (Nat.le_refl _) (by omega)))
    refine ev_ild5 k210_59 ?_
    refine ev_rz k210_61 rfl (by first | exact bI01 _ | exact Or.inl rfl | exact Or.inr rfl | assumption) ?_
    have w := hQ J hv.1
    rw [← hv.2] at w
    exact w
  | succ n ih =>
    intro i J hi hv
    have hlt : i < x := by omega
    refine ev_ild6 k210_14 ?_
    refine ev_ild2 k210_16 ?_
    refine ev_jcmp_ge k210_17 (fun h17 => absurd (nI_lt hlt (by omega)) h17) (fun h17 => ?_)
    refine ev_ild5 k210_20 ?_
    refine ev_if_eq k210_22 (fun h22 => absurd h22 (by decide)) (fun h22 => ?_)
    refine ev_ild6 k210_25 ?_
    refine ev_cS1i k210_27 cs_228 rfl rfl rfl ?_
    refine sm_bits (k := i) rfl (by omega) ?_
    refine ev_ild3 k210_30 ?_
    refine ev_icmp_ne k210_31 (fun h31 => ?_) (fun h31 => ?_)
    ·
      refine ev_iconst k210_46 ?_
      refine ev_goto k210_47 ?_
      refine ev_ist5 k210_51 rfl ?_
      refine ev_inc6 k210_53 rfl ?_
      refine ev_goto k210_56 ?_
      have e0 : ufE S nc b z x i = false := by unfold ufE; rw [decide_eq_false h31]; rfl
      have e : fnd (ufE S nc b z x) (n + 1) i = fnd (ufE S nc b z x) n (i + 1) := if_neg (by rw [e0]; decide)
      rw [nI_1]
      exact ih (i + 1) J (by omega) ⟨hv.1, e.symm.trans hv.2⟩
    ·
      refine ev_ald0 k210_34 ?_
      refine ev_ild1 k210_35 ?_
      refine ev_ild6 k210_36 ?_
      refine ev_cV3i k210_38 cs_236 (by first | assumption | rfl) (by omega) (Nat.le_of_ble_eq_true rfl) rfl rfl rfl ?_
      refine sm_marginOf (RM_congr (hv.1 92 (by decide) (by decide)) rm) ok sr (TR_congr (hv.1 92 (by decide) (by decide)) tt) (fun K hK => ?_)
      rw [show hMv S 0 nc (hWt S 0) (nI b) (nI i) = mgS S nc b i from rfl]
      refine ev_ild4 k210_41 ?_
      refine ev_icmp_eq k210_43 (fun h43 => ?_) (fun h43 => ?_)
      ·
        refine ev_iconst k210_50 ?_
        refine ev_ist5 k210_51 rfl ?_
        refine ev_inc6 k210_53 rfl ?_
        refine ev_goto k210_56 ?_
        have e0 : ufE S nc b z x i = true := by unfold ufE; rw [decide_eq_true h31, decide_eq_true h43]; rfl
        have e : fnd (ufE S nc b z x) (n + 1) i = some i := if_pos e0
        have w := hQ K (sc_tr hv.1 hK)
        rw [← hv.2, e] at w
        exact lm_isF0 w
      ·
        refine ev_iconst k210_46 ?_
        refine ev_goto k210_47 ?_
        refine ev_ist5 k210_51 rfl ?_
        refine ev_inc6 k210_53 rfl ?_
        refine ev_goto k210_56 ?_
        have e0 : ufE S nc b z x i = false := by unfold ufE; rw [decide_eq_false h43, Bool.and_false]
        have e : fnd (ufE S nc b z x) (n + 1) i = fnd (ufE S nc b z x) n (i + 1) := if_neg (by rw [e0]; decide)
        rw [nI_1]
        exact ih (i + 1) K (by omega) ⟨(sc_tr hv.1 hK), e.symm.trans hv.2⟩
/-- Model.isFirst -/
theorem sm_isFirst {X : Nat × (Nat → Int32)} {d : Nat} {I : mm_I} {S : mm_I} {nc np b x : Nat} {z : Int32} {P : Int32 → mm_I → Prop} (rm : RM S I nc np) (ok : hOK S 0 nc) (sr : sR S nc np) (tt : TR S I) (hx : x < 64) (hQ : ∀ J, sc I J → P (bI (fnd (ufE S nc b z x) x 0).isNone) J) : mm_Ev mm_T0 X (d + 20) 210 0 (mm_ent 210 [.ref 91, .int (nI b), .int (nI x), .int z]) [] I (mm_pi P) := by
  show mm_Ev mm_T0 X (d + 20) 210 0 [.ref 91, .int (nI b), .int (nI x), .int z, .retAddr 0, .retAddr 0, .retAddr 0] [] I (mm_pi P)
  have tm := tM
  have tr := tR
  refine ev_ald0 k210_0 ?_
  refine ev_ild1 k210_1 ?_
  refine ev_ild2 k210_2 ?_
  refine ev_cV3i k210_3 cs_236 (by first | assumption | rfl) (by omega) (Nat.le_of_ble_eq_true rfl) rfl rfl rfl ?_
  refine sm_marginOf rm ok sr tt (fun K0 hK0 => ?_)
  rw [show hMv S 0 nc (hWt S 0) (nI b) (nI x) = mgS S nc b x from rfl]
  refine ev_ist4 k210_6 rfl ?_
  refine ev_iconst k210_8 ?_
  refine ev_ist5 k210_9 rfl ?_
  refine ev_iconst k210_11 ?_
  refine ev_ist6 k210_12 rfl ?_
  exact lm_isF (RM_congr (hK0 92 (by decide) (by decide)) rm) ok sr (TR_congr (hK0 92 (by decide) (by decide)) tt) hx (fun J hJ => hQ J (sc_tr hK0 hJ)) x 0 K0 (by omega) ⟨sc_rf _, rfl⟩
theorem lm_unlike {X : Nat × (Nat → Int32)} {d : Nat} {I S : mm_I} {nc np b B : Nat} {z : Int32} {P : Int32 → mm_I → Prop} (rm : RM S I nc np) (ok : hOK S 0 nc) (sr : sR S nc np) (tt : TR S I) (hB : (1 : Int32) <<< (nI nc &&& 31) = nI B) (hB64 : B ≤ 64) (hQ : ∀ J, sc I J → P (nI (unN S nc z B b)) J) : ∀ (n i : Nat) (J : mm_I) (cnt : Nat), i + n = B → (sc I J ∧ cnt + cn (ufB S nc b z) n i = unN S nc z B b) → mm_Ev mm_T0 X (d + 25) 211 13 [.ref 91, .int (nI b), .int z, .int (nI cnt), .int (nI i)] [] J (mm_pi P) := by
  have tm := tM
  have tr := tR
  intro n
  induction n with
  | zero =>
    intro i J cnt hi hv
    have e : i = B := by omega
    subst e
    refine ev_ild4 k211_13 ?_
    refine ev_iconst k211_15 ?_
    refine ev_ald0 k211_16 ?_
    refine ev_getr k211_17 (by first | assumption | rfl) rfl rfl rfl ?_
    refine ev_iconst k211_20 ?_
    refine ev_ialv (j := 2) k211_21 (by first | assumption | rfl) (by omega) rfl (vp_dec rfl) ((congrFun (hv.1 92 (by decide) (by decide)) 2).trans rm.1.1) ?_
    refine ev_ishl k211_22 ?_
    rw [hB]
    refine ev_jcmp_ge k211_23 (fun h23 => ?_) (fun h23 => absurd h23 (nI_nlt (Nat.le_refl _) (by omega)))
    refine ev_ild3 k211_60 ?_
    refine ev_ri k211_61 rfl ?_
    have w := hQ J hv.1
    rw [← hv.2] at w
    exact w
  | succ n ih =>
    intro i J cnt hi hv
    have hlt : i < B := by omega
    refine ev_ild4 k211_13 ?_
    refine ev_iconst k211_15 ?_
    refine ev_ald0 k211_16 ?_
    refine ev_getr k211_17 (by first | assumption | rfl) rfl rfl rfl ?_
    refine ev_iconst k211_20 ?_
    refine ev_ialv (j := 2) k211_21 (by first | assumption | rfl) (by omega) rfl (vp_dec rfl) ((congrFun (hv.1 92 (by decide) (by decide)) 2).trans rm.1.1) ?_
    refine ev_ishl k211_22 ?_
    rw [hB]
    refine ev_jcmp_ge k211_23 (fun h23 => absurd (nI_lt hlt (by omega)) h23) (fun h23 => ?_)
    refine ev_ild3 k211_26 ?_
    refine ev_ild4 k211_27 ?_
    refine ev_cS1i k211_29 cs_228 rfl rfl rfl ?_
    refine sm_bits (k := i) rfl (by omega) ?_
    refine ev_ild2 k211_32 ?_
    refine ev_icmp_ne k211_33 (fun h33 => ?_) (fun h33 => ?_)
    ·
      refine ev_iconst k211_51 ?_
      refine ev_iadd k211_52 ?_
      refine ev_ist3 k211_53 rfl ?_
      refine ev_inc4 k211_54 rfl ?_
      refine ev_goto k211_57 ?_
      have e0 : ufB S nc b z i = false := by unfold ufB szB; rw [decide_eq_false h33]; rfl
      rw [nI_1]
      rw [Int32.add_zero]
      refine ih (i + 1) J _ (by omega) ⟨hv.1, ?_⟩
      rw [← hv.2]
      show _ = _ + ((if ufB S nc b z i = true then 1 else 0) + cn (ufB S nc b z) n (i + 1))
      rw [if_neg (by rw [e0]; decide)]; omega
    ·
      refine ev_ald0 k211_36 ?_
      refine ev_ild1 k211_37 ?_
      refine ev_ild4 k211_38 ?_
      refine ev_ild2 k211_40 ?_
      refine ev_cV4i k211_41 cs_275 (by first | assumption | rfl) (by omega) (Nat.le_of_ble_eq_true rfl) rfl rfl rfl ?_
      refine sm_isFirst (RM_congr (hv.1 92 (by decide) (by decide)) rm) ok sr (TR_congr (hv.1 92 (by decide) (by decide)) tt) (show i < 64 by omega) (fun K hK => ?_)
      refine ev_ifz_eq k211_44 (fun h44 => ?_) (fun h44 => ?_)
      ·
        refine ev_iconst k211_51 ?_
        refine ev_iadd k211_52 ?_
        refine ev_ist3 k211_53 rfl ?_
        refine ev_inc4 k211_54 rfl ?_
        refine ev_goto k211_57 ?_
        have e0 : ufB S nc b z i = false := by unfold ufB szB; rw [decide_eq_true h33, h44]; rfl
        rw [nI_1]
        rw [Int32.add_zero]
        refine ih (i + 1) K _ (by omega) ⟨(sc_tr hv.1 hK), ?_⟩
        rw [← hv.2]
        show _ = _ + ((if ufB S nc b z i = true then 1 else 0) + cn (ufB S nc b z) n (i + 1))
        rw [if_neg (by rw [e0]; decide)]; omega
      ·
        refine ev_iconst k211_47 ?_
        refine ev_goto k211_48 ?_
        refine ev_iadd k211_52 ?_
        refine ev_ist3 k211_53 rfl ?_
        refine ev_inc4 k211_54 rfl ?_
        refine ev_goto k211_57 ?_
        have e0 : ufB S nc b z i = true := by unfold ufB szB; rw [decide_eq_true h33, h44]; rfl
        rw [nI_1]
        rw [nI_1]
        refine ih (i + 1) K _ (by omega) ⟨(sc_tr hv.1 hK), ?_⟩
        rw [← hv.2]
        show _ = _ + ((if ufB S nc b z i = true then 1 else 0) + cn (ufB S nc b z) n (i + 1))
        rw [if_pos e0]; omega
/-- Model.unlike -/
theorem sm_unlike {X : Nat × (Nat → Int32)} {d : Nat} {I : mm_I} {S : mm_I} {nc np b B : Nat} {P : Int32 → mm_I → Prop} (rm : RM S I nc np) (ok : hOK S 0 nc) (sr : sR S nc np) (tt : TR S I) (hB : (1 : Int32) <<< (nI nc &&& 31) = nI B) (hB64 : B ≤ 64) (hQ : ∀ J, sc I J → P (nI (unN S nc (bc (hTk S 0 np)) B b)) J) : mm_Ev mm_T0 X (d + 25) 211 0 (mm_ent 211 [.ref 91, .int (nI b)]) [] I (mm_pi P) := by
  show mm_Ev mm_T0 X (d + 25) 211 0 [.ref 91, .int (nI b), .retAddr 0, .retAddr 0, .retAddr 0] [] I (mm_pi P)
  have tm := tM
  have tr := tR
  refine ev_ald0 k211_0 ?_
  refine ev_cV1i k211_1 cs_235 (by first | assumption | rfl) (by omega) (Nat.le_of_ble_eq_true rfl) rfl rfl rfl ?_
  refine sm_taken rm sr ?_
  refine ev_cS1i k211_4 cs_228 rfl rfl rfl ?_
  obtain ⟨y, y1, y2, -⟩ := hTk_set rm.1.2.1 (wf_at sr)
  refine sm_bits (k := y) y2 (by omega) ?_
  refine ev_ist2 k211_7 rfl ?_
  refine ev_iconst k211_8 ?_
  refine ev_ist3 k211_9 rfl ?_
  refine ev_iconst k211_10 ?_
  refine ev_ist4 k211_11 rfl ?_
  exact lm_unlike rm ok sr tt hB hB64 hQ B 0 I 0 (by omega) ⟨sc_rf I, by rw [Nat.zero_add]; rfl⟩
def ptS (u : Nat → Nat) (b : Nat) (q : Nat × Nat) : Nat × Nat := if q.2 < u b then (b, u b) else q
def ptV (u : Nat → Nat) (w : Int32) : Int32 := if w = 0 then nI (fo (ptS u) 8 0 (0, 0)).1 else nI (fo (ptS u) 8 0 (0, 0)).2
theorem un_le (S : mm_I) (nc : Nat) (z : Int32) (B b : Nat) : unN S nc z B b ≤ B := cn_le _ _ _
theorem lp_parts {X : Nat × (Nat → Int32)} {d : Nat} {J0 S : mm_I} {nc B : Nat} {z w : Int32} {u : Nat → Nat} {P : Int32 → mm_I → Prop} (c1 : J0 11 1 = nI nc) (n6 : nc ≤ 6) (ok2 : ∀ c, c < nc → J0 (11 + 1) c = nI (hK J0 11 c) ∧ hK J0 11 c < 7) (hw : ∀ J, (∀ k, k ≠ 88 → k ≠ 89 → J k = J0 k) → ∀ b t, hMg J 11 nc b t = hMv S 0 nc (hWt S 0) b t) (hB : (1 : Int32) <<< (nI nc &&& 31) = nI B) (hB64 : B ≤ 64) (h20 : cn (szB z) 64 0 ≤ 20) (hu0 : ∀ b, unN S nc z B b = u b) (hu : ∀ b, u b ≤ 64) (hQ : ∀ K, (∀ k, k ≠ 88 → k ≠ 89 → K k = J0 k) → K 88 1 = 32 → P (ptV u w) K) : ∀ (n i : Nat) (J : mm_I) (q1 : Nat) (q2 : Nat) (v6 : Value), i + n = 8 → q2 ≤ 64 → fo (ptS u) n i (q1, q2) = fo (ptS u) 8 0 (0, 0) → (∀ k, k ≠ 88 → k ≠ 89 → J k = J0 k) → J 88 1 = 32 → mm_Ev mm_T0 X (d + 30) 99 42 [.ref 0, .int w, .int z, .int (nI q1), .int (nI q2), .int (nI i), v6] [] J (mm_pi P) := by
  have t0 := tCV
  intro n
  induction n with
  | zero =>
    intro i J q1 q2 v6 hi hq2 he hf h1
    have e : i = 8 := by omega
    subst e
    refine ev_ild5 k99_42 ?_
    refine ev_bipush k99_44 ?_
    rw [show (8 : Int32) = nI 8 from rfl]
    refine ev_jcmp_ge k99_46 (fun h46 => ?_) (fun h46 => absurd h46 (nI_nlt (Nat.le_refl _) (by omega)))
    refine ev_ild1 k99_78 ?_
    refine ev_if_ne k99_79 (fun h79 => ?_) (fun h79 => ?_)
    ·
      refine ev_ild4 k99_86 ?_
      refine ev_ri k99_88 rfl ?_
      have z : ptV u w = nI q2 := by unfold ptV; rw [if_neg h79, ← he]; rfl
      have zz := hQ J hf h1
      rw [z] at zz
      exact zz
    ·
      refine ev_ild3 k99_82 ?_
      refine ev_goto k99_83 ?_
      refine ev_ri k99_88 rfl ?_
      have z : ptV u w = nI q1 := by unfold ptV; rw [if_pos h79, ← he]; rfl
      have zz := hQ J hf h1
      rw [z] at zz
      exact zz
  | succ n ih =>
    intro i J q1 q2 v6 hi hq2 he hf h1
    have hlt : i < 8 := by omega
    refine ev_ild5 k99_42 ?_
    refine ev_bipush k99_44 ?_
    rw [show (8 : Int32) = nI 8 from rfl]
    refine ev_jcmp_ge k99_46 (fun h46 => absurd (nI_lt hlt (by omega)) h46) (fun h46 => ?_)
    refine ev_ald0 k99_49 ?_
    refine ev_ild5 k99_50 ?_
    refine ev_ild2 k99_52 ?_
    refine ev_cV3i k99_53 cs_208 (by first | assumption | rfl) (by omega) (Nat.le_of_ble_eq_true rfl) rfl rfl rfl ?_
    refine sp_unl (S := S) (B := B) ((congrFun (hf 11 (by decide) (by decide)) 1).trans c1) n6 (fun c hc => by unfold hK; rw [hf (11 + 1) (by decide) (by decide)]; exact ok2 c hc) (fun K hK => hw K (fun k a b => (hK k a b).trans (hf k a b))) hB hB64 h20 h1 (fun K fK h1K => ?_)
    rw [hu0 i]
    refine ev_ist6 k99_56 rfl ?_
    refine ev_ild6 k99_58 ?_
    refine ev_ild4 k99_60 ?_
    refine ev_jcmp_le k99_62 (fun h62 => ?_) (fun h62 => ?_)
    ·
      refine ev_inc5 k99_72 rfl ?_
      refine ev_goto k99_75 ?_
      rw [nI_1]
      have e : ptS u i (q1, q2) = (q1, q2) := if_neg (fun w => h62 ((nI_ltI (show q2 < 2 ^ 31 by omega) (show u i < 2 ^ 31 by have := hu i; omega)).mpr w))
      refine ih (i + 1) K q1 q2 _ (by omega) hq2 ?_ (fun k a b => (fK k a b).trans (hf k a b)) h1K
      rw [← he]
      show _ = fo (ptS u) n (i + 1) (ptS u i (q1, q2))
      rw [e]
    ·
      refine ev_ild6 k99_65 ?_
      refine ev_ist4 k99_67 rfl ?_
      refine ev_ild5 k99_69 ?_
      refine ev_ist3 k99_71 rfl ?_
      refine ev_inc5 k99_72 rfl ?_
      refine ev_goto k99_75 ?_
      rw [nI_1]
      have e : ptS u i (q1, q2) = (i, u i) := if_pos ((nI_ltI (show q2 < 2 ^ 31 by omega) (show u i < 2 ^ 31 by have := hu i; omega)).mp h62)
      refine ih (i + 1) K i (u i) _ (by omega) (by have := hu i; omega) ?_ (fun k a b => (fK k a b).trans (hf k a b)) h1K
      rw [← he]
      show _ = fo (ptS u) n (i + 1) (ptS u i (q1, q2))
      rw [e]
theorem lm_parts {X : Nat × (Nat → Int32)} {d : Nat} {I S : mm_I} {nc np B : Nat} {w : Int32} {u : Nat → Nat} {P : Int32 → mm_I → Prop} (rm : RM S I nc np) (ok : hOK S 0 nc) (sr : sR S nc np) (tt : TR S I) (hB : (1 : Int32) <<< (nI nc &&& 31) = nI B) (hB64 : B ≤ 64) (hu0 : ∀ b, unN S nc (bc (hTk S 0 np)) B b = u b) (hu : ∀ b, u b ≤ 64) (hQ : ∀ J, sc I J → P (ptV u w) J) : ∀ (n i : Nat) (J : mm_I) (q1 : Nat) (q2 : Nat) (v5 : Value), i + n = 8 → q2 ≤ 64 → (sc I J ∧ fo (ptS u) n i (q1, q2) = fo (ptS u) 8 0 (0, 0)) → mm_Ev mm_T0 X (d + 30) 212 23 [.ref 91, .int w, .int (nI q1), .int (nI q2), .int (nI i), v5] [] J (mm_pi P) := by
  have tm := tM
  have tr := tR
  intro n
  induction n with
  | zero =>
    intro i J q1 q2 v5 hi hq2 hv
    have e : i = 8 := by omega
    subst e
    refine ev_ild4 k212_23 ?_
    refine ev_bipush k212_25 ?_
    rw [show (8 : Int32) = nI 8 from rfl]
    refine ev_jcmp_ge k212_27 (fun h27 => ?_) (fun h27 => absurd h27 (nI_nlt (Nat.le_refl _) (by omega)))
    refine ev_ild1 k212_70 ?_
    refine ev_if_ne k212_71 (fun h71 => ?_) (fun h71 => ?_)
    ·
      refine ev_ild3 k212_78 ?_
      refine ev_ri k212_79 rfl ?_
      have he := hv.2
      have z : ptV u w = nI q2 := by unfold ptV; rw [if_neg h71, ← he]; rfl
      have zz := hQ J hv.1
      rw [z] at zz
      exact zz
    ·
      refine ev_ild2 k212_74 ?_
      refine ev_goto k212_75 ?_
      refine ev_ri k212_79 rfl ?_
      have he := hv.2
      have z : ptV u w = nI q1 := by unfold ptV; rw [if_pos h71, ← he]; rfl
      have zz := hQ J hv.1
      rw [z] at zz
      exact zz
  | succ n ih =>
    intro i J q1 q2 v5 hi hq2 hv
    have hlt : i < 8 := by omega
    refine ev_ild4 k212_23 ?_
    refine ev_bipush k212_25 ?_
    rw [show (8 : Int32) = nI 8 from rfl]
    refine ev_jcmp_ge k212_27 (fun h27 => absurd (nI_lt hlt (by omega)) h27) (fun h27 => ?_)
    refine ev_ald0 k212_30 ?_
    refine ev_ild4 k212_31 ?_
    refine ev_cV2i k212_33 cs_276 (by first | assumption | rfl) (by omega) (Nat.le_of_ble_eq_true rfl) rfl rfl rfl ?_
    refine sm_unlike (RM_congr (hv.1 92 (by decide) (by decide)) rm) ok sr (TR_congr (hv.1 92 (by decide) (by decide)) tt) hB hB64 (fun K hK => ?_)
    rw [hu0 i]
    refine ev_ist5 k212_36 rfl ?_
    refine ev_ild5 k212_38 ?_
    refine ev_ild3 k212_40 ?_
    refine ev_jcmp_le k212_41 (fun h41 => ?_) (fun h41 => ?_)
    ·
      refine ev_ild2 k212_49 ?_
      refine ev_ist2 k212_50 rfl ?_
      refine ev_ild5 k212_51 ?_
      refine ev_ild3 k212_53 ?_
      refine ev_jcmp_le k212_54 (fun h54 => ?_) (fun h54 => absurd h54 h41)
      refine ev_ild3 k212_62 ?_
      refine ev_ist3 k212_63 rfl ?_
      refine ev_inc4 k212_64 rfl ?_
      refine ev_goto k212_67 ?_
      rw [nI_1]
      have e : ptS u i (q1, q2) = (q1, q2) := if_neg (fun w => h41 ((nI_ltI (show q2 < 2 ^ 31 by omega) (show u i < 2 ^ 31 by have := hu i; omega)).mpr w))
      refine ih (i + 1) K q1 q2 _ (by omega) hq2 ⟨sc_tr hv.1 hK, ?_⟩
      rw [← hv.2]
      show _ = fo (ptS u) n (i + 1) (ptS u i (q1, q2))
      rw [e]
    ·
      refine ev_ild4 k212_44 ?_
      refine ev_goto k212_46 ?_
      refine ev_ist2 k212_50 rfl ?_
      refine ev_ild5 k212_51 ?_
      refine ev_ild3 k212_53 ?_
      refine ev_jcmp_le k212_54 (fun h54 => absurd h41 h54) (fun h54 => ?_)
      refine ev_ild5 k212_57 ?_
      refine ev_goto k212_59 ?_
      refine ev_ist3 k212_63 rfl ?_
      refine ev_inc4 k212_64 rfl ?_
      refine ev_goto k212_67 ?_
      rw [nI_1]
      have e : ptS u i (q1, q2) = (i, u i) := if_pos ((nI_ltI (show q2 < 2 ^ 31 by omega) (show u i < 2 ^ 31 by have := hu i; omega)).mp h41)
      refine ih (i + 1) K i (u i) _ (by omega) (by have := hu i; omega) ⟨sc_tr hv.1 hK, ?_⟩
      rw [← hv.2]
      show _ = fo (ptS u) n (i + 1) (ptS u i (q1, q2))
      rw [e]
/-- CV.parts -/
theorem op_parts {X : Nat × (Nat → Int32)} {d : Nat} {I : mm_I} {P : Int32 → mm_I → Prop} {a : Int32} (inv : Inv I) (hQ : ∀ v J, mm_Ev mm_T0 X (d + 60) 212 0 (mm_ent 212 [.ref 91, .int a]) [] J (mm_pi fun w K => w = v ∧ Inv K) → P v J) : mm_Ev mm_T0 X (d + 60) 99 0 (mm_ent 99 [.ref 0, .int a]) [] I (mm_pi P) := by
  show mm_Ev mm_T0 X (d + 60) 99 0 [.ref 0, .int a, .retAddr 0, .retAddr 0, .retAddr 0, .retAddr 0, .retAddr 0] [] I (mm_pi P)
  obtain ⟨nc, np, hs⟩ := inv.1
  obtain ⟨c1, n6, p1, p6, rc, rp, rm, ok, sr, tt⟩ := hsF hs
  have t0 := tCV
  have tm := tM
  have tr := tR
  refine ev_ild1 k99_0 ?_
  refine ev_iconst k99_1 ?_
  refine ev_iconst k99_2 ?_
  refine ev_cS3i k99_3 cs_179 rfl rfl rfl ?_
  refine sp_isWithin ?_
  refine ev_ifz_ne k99_6 (fun h6 => ?_) (fun h6 => ?_)
  ·
    refine ev_ald0 k99_16 ?_
    refine ev_getr k99_17 (by first | assumption | rfl) rfl rfl rfl ?_
    refine ev_cV1v k99_20 cs_192 (by first | assumption | rfl) (by omega) (Nat.le_of_ble_eq_true rfl) rfl rfl rfl ?_
    refine sp_weighAll hh11 ok (fun g => ?_)
    have inv2 : Inv (hWI I 11 nc g) := Inv_W inv
    have ok2 : ∀ c, c < nc → hWI I 11 nc g (11 + 1) c = nI (hK (hWI I 11 nc g) 11 c) ∧ hK (hWI I 11 nc g) 11 c < 7 := ok.2.2.1
    refine ev_ald0 k99_23 ?_
    refine ev_getr k99_24 (by first | assumption | rfl) rfl rfl rfl ?_
    refine ev_cV1i k99_27 cs_194 (by first | assumption | rfl) (by omega) (Nat.le_of_ble_eq_true rfl) rfl rfl rfl ?_
    refine sp_taken (I := hWI I 11 nc g) hh11 (np := np) p1 p6 ?_
    refine ev_cS1i k99_30 cs_198 rfl rfl rfl ?_
    refine sp_bitCount ?_
    refine ev_ist2 k99_33 rfl ?_
    refine ev_iconst k99_34 ?_
    refine ev_ist3 k99_35 rfl ?_
    refine ev_iconst k99_36 ?_
    refine ev_ist4 k99_37 rfl ?_
    refine ev_iconst k99_39 ?_
    refine ev_ist5 k99_40 rfl ?_
    obtain ⟨B, hB0, hB64, hB⟩ := shl6 n6
    obtain ⟨y, y1, y2, -⟩ := hTk_set n6 (wf_at sr)
    refine lp_parts (J0 := hWI I 11 nc g) (S := cells I 11) (nc := nc) (B := B) (z := bc (hTk (cells I 11) 0 np)) (w := a) (u := unN (cells I 11) nc (bc (hTk (cells I 11) 0 np)) B) c1 n6 ok2 (fun J hJ b t => ?_) hB hB64 (by rw [y2]; exact sz20 ⟨y, y1⟩) (fun _ => rfl) (fun b => Nat.le_trans (un_le _ _ _ _ _) hB64) (fun K fK h1K => ?_) 8 0 _ 0 0 (.retAddr 0) (by omega) (by omega) rfl (fun _ _ _ => rfl) inv2.2.2.2.2.2.2.1
    · rw [← mgW (I := I) (hb := 11) (nc := nc) (g := g) b t]
      exact (hMg_eq (by rw [hJ 11 (by decide) (by decide)]) (hJ (11 + 1) (by decide) (by decide)) (hJ (11 + 2) (by decide) (by decide)) (hJ (11 + 3) (by decide) (by decide)) (hJ (11 + 4) (by decide) (by decide)) (fun c _ => congrFun (hJ (11 + 5) (by decide) (by decide)) c) b t)
    have invK : Inv K := Inv_88 inv2 fK h1K
    have f92 : K 92 = I 92 := (fK 92 (by decide) (by decide)).trans (hWI_ne (by decide) (by decide))
    refine hQ _ _ ?_
    show mm_Ev mm_T0 X (d + 60) 212 0 [.ref 91, .int _, .retAddr 0, .retAddr 0, .retAddr 0, .retAddr 0] [] _ (mm_pi _)
    refine ev_ild1 k212_0 ?_
    refine ev_iconst k212_1 ?_
    refine ev_iconst k212_2 ?_
    refine ev_cS3i k212_3 cs_224 rfl rfl rfl ?_
    refine sp_in ?_
    refine ev_ifz_ne k212_6 (fun g6 => ?_) (fun g6 => Bool.noConfusion (Eq.trans (Eq.symm h6) g6))
    refine ev_iconst k212_16 ?_
    refine ev_ist2 k212_17 rfl ?_
    refine ev_iconst k212_18 ?_
    refine ev_ist3 k212_19 rfl ?_
    refine ev_iconst k212_20 ?_
    refine ev_ist4 k212_21 rfl ?_
    refine lm_parts (S := cells I 11) (nc := nc) (np := np) (B := B) (w := a) (u := unN (cells I 11) nc (bc (hTk (cells I 11) 0 np)) B) (RM_congr f92 rm) ok sr (TR_congr f92 tt) hB hB64 (fun _ => rfl) (fun b => Nat.le_trans (un_le _ _ _ _ _) hB64) (fun L hL => ?_) 8 0 K 0 0 (.retAddr 0) (by omega) (by omega) ⟨sc_rf _, rfl⟩
    exact ⟨rfl, Inv_sc invK hL⟩
  ·
    refine ev_ald0 k99_9 ?_
    refine ev_ldc k99_10 ?_
    refine ev_cV2i k99_12 cs_174 (by first | assumption | rfl) (by omega) (Nat.le_of_ble_eq_true rfl) rfl rfl rfl ?_
    refine sp_error (k := 1) (by decide) (by decide) (by decide) ?_
    refine ev_ri k99_15 rfl ?_
    refine hQ _ _ ?_
    show mm_Ev mm_T0 X (d + 60) 212 0 [.ref 91, .int _, .retAddr 0, .retAddr 0, .retAddr 0, .retAddr 0] [] _ (mm_pi _)
    refine ev_ild1 k212_0 ?_
    refine ev_iconst k212_1 ?_
    refine ev_iconst k212_2 ?_
    refine ev_cS3i k212_3 cs_224 rfl rfl rfl ?_
    refine sp_in ?_
    refine ev_ifz_ne k212_6 (fun g6 => Bool.noConfusion (Eq.trans (Eq.symm h6) g6)) (fun g6 => ?_)
    refine ev_ald0 k212_9 ?_
    refine ev_ldc k212_10 ?_
    refine ev_cV2i k212_12 cs_238 (by first | assumption | rfl) (by omega) (Nat.le_of_ble_eq_true rfl) rfl rfl rfl ?_
    refine sm_error (k := 1) (by decide) (by decide) ?_
    refine ev_ri k212_15 rfl ?_
    first | exact ⟨rfl, Inv_e rfl rfl inv⟩ | exact ⟨rfl, inv⟩
