/-! moves: which sets can be reached -/
def cd (T U : Nat) : Nat := cnt (T &&& (63 - U))
def nd (T U : Nat) : Nat := if cd T U < cd U T then cd U T else cd T U
theorem mvB : ∀ T U : Fin 64, (if bc (nI T.val &&& (nI U.val ^^^ (-1))) < bc (nI U.val &&& (nI T.val ^^^ (-1))) then bc (nI U.val &&& (nI T.val ^^^ (-1))) else bc (nI T.val &&& (nI U.val ^^^ (-1)))) = nI (nd T.val U.val) := by decide +kernel
theorem bcN : ∀ T : Fin 64, bc (nI T.val) = nI (cnt T.val) ∧ cnt T.val ≤ 6 := by decide +kernel
def b2 (x : Bool) : Nat := if x = true then 1 else 0
def tb (T c : Nat) : Bool := iB (nI T) (nI c)
theorem cntS : ∀ X : Fin 64, cnt X.val = b2 (tb X.val 0) + b2 (tb X.val 1) + b2 (tb X.val 2) + b2 (tb X.val 3) + b2 (tb X.val 4) + b2 (tb X.val 5) := by decide +kernel
theorem tb_cd : ∀ (T U : Fin 64), ∀ c : Fin 6, tb (T.val &&& (63 - U.val)) c.val = (tb T.val c.val && !tb U.val c.val) := by decide +kernel
theorem and_lt64 (T : Fin 64) (x : Nat) : T.val &&& x < 64 := Nat.lt_of_le_of_lt Nat.and_le_left T.isLt
theorem cdS {T U : Nat} (hT : T < 64) (hU : U < 64) : cd T U = b2 (tb T 0 && !tb U 0) + b2 (tb T 1 && !tb U 1) + b2 (tb T 2 && !tb U 2) + b2 (tb T 3 && !tb U 3) + b2 (tb T 4 && !tb U 4) + b2 (tb T 5 && !tb U 5) := by
  have e := cntS ⟨T &&& (63 - U), and_lt64 ⟨T, hT⟩ _⟩
  have t := fun c : Fin 6 => tb_cd ⟨T, hT⟩ ⟨U, hU⟩ c
  have t0 := t 0
  have t1 := t 1
  have t2 := t 2
  have t3 := t 3
  have t4 := t 4
  have t5 := t 5
  dsimp only at e t0 t1 t2 t3 t4 t5
  unfold cd
  rw [e]
  simp only [Fin.isValue, Fin.val_zero, Fin.val_one] at t0 t1
  rw [t0, t1, show tb (T &&& (63 - U)) 2 = _ from t2, show tb (T &&& (63 - U)) 3 = _ from t3, show tb (T &&& (63 - U)) 4 = _ from t4, show tb (T &&& (63 - U)) 5 = _ from t5]
  rfl
theorem b2_tri (x y z : Bool) : b2 (x && !z) ≤ b2 (x && !y) + b2 (y && !z) := by cases x <;> cases y <;> cases z <;> decide
theorem cd_tri {T U V : Nat} (hT : T < 64) (hU : U < 64) (hV : V < 64) : cd T V ≤ cd T U + cd U V := by
  rw [cdS hT hV, cdS hT hU, cdS hU hV]
  have a0 := b2_tri (tb T 0) (tb U 0) (tb V 0)
  have a1 := b2_tri (tb T 1) (tb U 1) (tb V 1)
  have a2 := b2_tri (tb T 2) (tb U 2) (tb V 2)
  have a3 := b2_tri (tb T 3) (tb U 3) (tb V 3)
  have a4 := b2_tri (tb T 4) (tb U 4) (tb V 4)
  have a5 := b2_tri (tb T 5) (tb U 5) (tb V 5)
  omega
theorem nd_le {T U n : Nat} : nd T U ≤ n ↔ cd T U ≤ n ∧ cd U T ≤ n := by
  unfold nd
  split <;> omega
theorem nd_tri {T U V n : Nat} (hT : T < 64) (hU : U < 64) (hV : V < 64) (h1 : nd T U ≤ 1) (h2 : nd U V ≤ n) : nd T V ≤ n + 1 := by
  have a := nd_le.mp h1
  have c := nd_le.mp h2
  have d := cd_tri hT hU hV
  have e := cd_tri hV hU hT
  exact nd_le.mpr ⟨by omega, by omega⟩
theorem nd_self : ∀ T : Fin 64, nd T.val T.val = 0 := by decide +kernel
theorem nd_0 : ∀ T U : Fin 64, nd T.val U.val = 0 → T.val = U.val := by decide +kernel
theorem bits_ext : ∀ T U : Fin 64, (∀ c : Fin 6, tb T.val c.val = tb U.val c.val) → T.val = U.val := by decide +kernel
theorem cnt_1 : ∀ (X : Fin 64) (r : Fin 7), (∀ c : Fin 6, tb X.val c.val = true → c.val = r.val) → cnt X.val ≤ 1 := by decide +kernel
theorem cnt_or : ∀ (s : Fin 64) (j : Fin 6), iB (nI s.val) (nI j.val) = false → cnt (s.val ||| 2 ^ j.val) = cnt s.val + 1 := by decide +kernel
theorem lt_pow : ∀ (s : Fin 64) (n : Fin 7), (∀ c : Fin 6, tb s.val c.val = true → c.val < n.val) → s.val < 2 ^ n.val := by decide +kernel
theorem pow_bit : ∀ (s : Fin 64) (n : Fin 7), s.val < 2 ^ n.val → ∀ c : Fin 6, tb s.val c.val = true → c.val < n.val := by decide +kernel
def lb (X : Nat) : Nat := if X % 2 = 1 then 0 else if X / 2 % 2 = 1 then 1 else if X / 4 % 2 = 1 then 2 else if X / 8 % 2 = 1 then 3 else if X / 16 % 2 = 1 then 4 else if X / 32 % 2 = 1 then 5 else 6
def rO (T U : Nat) : Nat := lb (T &&& (63 - U))
def aO (T U : Nat) : Nat := lb (U &&& (63 - T))
def stp (T U : Nat) : Nat := (if rO T U < 6 then T - 2 ^ rO T U else T) + (if aO T U < 6 then 2 ^ aO T U else 0)
theorem stp_1 : ∀ T U : Fin 64, ¬ nd T.val U.val = 0 → stp T.val U.val < 64 ∧ nd (stp T.val U.val) U.val + 1 = nd T.val U.val ∧ (rO T.val U.val < 6 ∨ aO T.val U.val < 6) ∧ (rO T.val U.val = 6 → cnt T.val < cnt U.val) ∧ rO T.val U.val ≤ 6 ∧ aO T.val U.val ≤ 6 := by decide +kernel
theorem stp_2 : ∀ T U : Fin 64, (rO T.val U.val < 6 → tb T.val (rO T.val U.val) = true) ∧ (aO T.val U.val < 6 → tb T.val (aO T.val U.val) = false ∧ tb U.val (aO T.val U.val) = true) := by decide +kernel
theorem stp_3 : ∀ T U : Fin 64, ¬ nd T.val U.val = 0 → ∀ c : Fin 6, tb (stp T.val U.val) c.val = ((tb T.val c.val && !decide (c.val = rO T.val U.val)) || decide (c.val = aO T.val U.val)) := by decide +kernel
/-- the chairs that are taken, as a number; how many -/
def tkN (S : mm_I) (np : Nat) : Nat := (hTk S 0 np).toNatClampNeg
theorem tkC {S : mm_I} {nc np : Nat} (h6 : nc ≤ 6) (sr : sR S nc np) : tkN S np < 64 ∧ hTk S 0 np = nI (tkN S np) ∧ (∀ c, c < 6 → (tb (tkN S np) c = true ↔ ∃ q, q < np ∧ S 8 q = nI c)) ∧ cnt (tkN S np) ≤ np ∧ ((∀ q, q < np → S 8 q ≠ -1) → cnt (tkN S np) = np) := by
  have key : ∀ (n i s : Nat), i + n = np → s < 64 → (∀ c, c < 6 → (tb s c = true ↔ ∃ q, q < i ∧ S 8 q = nI c)) → cnt s ≤ i → ((∀ q, q < i → S 8 q ≠ -1) → cnt s = i) → ∃ s', s' < 64 ∧ fo (hTs (S 8)) n i (nI s) = nI s' ∧ (∀ c, c < 6 → (tb s' c = true ↔ ∃ q, q < np ∧ S 8 q = nI c)) ∧ cnt s' ≤ np ∧ ((∀ q, q < np → S 8 q ≠ -1) → cnt s' = np) := by
    intro n
    induction n with
    | zero =>
      intro i s hi hs h1 h2 h3
      have e : i = np := by omega
      subst e
      exact ⟨s, hs, rfl, h1, h2, h3⟩
    | succ n ih =>
      intro i s hi hs h1 h2 h3
      show ∃ s', s' < 64 ∧ fo (hTs (S 8)) n (i + 1) (hTs (S 8) i (nI s)) = nI s' ∧ _
      rcases wf_at sr i (by omega) with h | ⟨c, hc, h⟩
      · rw [show hTs (S 8) i (nI s) = nI s from if_pos h]
        refine ih (i + 1) s (by omega) hs (fun c hc => ?_) (by omega) (fun z => absurd h (z i (by omega)))
        rw [h1 c hc]
        refine ⟨fun ⟨q, a, b⟩ => ⟨q, by omega, b⟩, fun ⟨q, a, b⟩ => ⟨q, ?_, b⟩⟩
        have : ¬ q = i := fun w => by rw [w, h] at b; exact m1_ne (show c < 2 ^ 31 by omega) b.symm
        omega
      · have hne : ¬ S 8 i = -1 := by rw [h]; exact m1_ne (by omega)
        obtain ⟨t1, t2, -⟩ := tk_set ⟨s, hs⟩ ⟨c, by omega⟩ ⟨0, by decide⟩
        dsimp only at t1 t2
        have t3 : ∀ c', c' < 6 → iB (nI (s ||| 2 ^ c)) (nI c') = (iB (nI s) (nI c') || decide (c = c')) := fun c' hc' => (tk_set ⟨s, hs⟩ ⟨c, by omega⟩ ⟨c', hc'⟩).2.2
        have hf : iB (nI s) (nI c) = false := by
          cases w : iB (nI s) (nI c) with
          | false => rfl
          | true =>
            obtain ⟨q, a, b⟩ := (h1 c (by omega)).mp w
            have := sr.2.2 q i (by omega) (by omega) (by rw [b, h]) (by rw [b]; exact m1_ne (by omega))
            omega
        have hcn := cnt_or ⟨s, hs⟩ ⟨c, by omega⟩ hf
        dsimp only at hcn
        rw [show hTs (S 8) i (nI s) = nI (s ||| 2 ^ c) from by unfold hTs; rw [if_neg hne, h, t1]]
        refine ih (i + 1) _ (by omega) t2 (fun c' hc' => ?_) (by omega) (fun z => by rw [hcn, h3 (fun q hq => z q (by omega))])
        unfold tb
        rw [t3 c' hc', Bool.or_eq_true, decide_eq_true_eq]
        constructor
        · rintro (w | w)
          · obtain ⟨q, a, b⟩ := (h1 c' hc').mp w
            exact ⟨q, by omega, b⟩
          · exact ⟨i, by omega, by rw [← w]; exact h⟩
        · rintro ⟨q, a, b⟩
          by_cases w : q = i
          · right
            rw [w, h] at b
            exact nI_inj6 (by omega) hc' b
          · left
            exact (h1 c' hc').mpr ⟨q, by omega, b⟩
  have z0 : ∀ p : Fin 6, iB (nI 0) (nI p.val) = false := by decide +kernel
  obtain ⟨s, a1, a2, a3, a4, a5⟩ := key np 0 0 (by omega) (by decide) (fun c hc => ⟨fun w => (by unfold tb at w; rw [z0 ⟨c, hc⟩] at w; cases w), fun ⟨q, a, _⟩ => absurd a (Nat.not_lt_zero _)⟩) (by decide) (fun _ => by decide)
  have e : tkN S np = s := by
    unfold tkN
    rw [show hTk S 0 np = nI s from a2, nI_clamp (by omega)]
  rw [e]
  exact ⟨a1, a2, a3, a4, a5⟩
theorem sR_at {S : mm_I} {nc np p : Nat} {v : Int32} (sr : sR S nc np) (hv : v = -1 ∨ ((∃ c, c < nc ∧ v = nI c) ∧ ∀ q, q < np → q ≠ p → S 8 q ≠ v)) : sR (mm_up S 8 p v) nc np := by
  refine ⟨fun c hc => ?_, fun q hq => ?_, fun q r hq hr => ?_⟩
  · rw [mm_up_ne _ _ _ _ _ (by decide), mm_up_ne _ _ _ _ _ (by decide), mm_up_ne _ _ _ _ _ (by decide), mm_up_ne _ _ _ _ _ (by decide)]; exact sr.1 c hc
  · rw [mm_up_ne _ _ _ _ _ (by decide), mm_up_ne _ _ _ _ _ (by decide)]
    obtain ⟨a, b, a1, b1, a2, b2, a3⟩ := sr.2.1 q hq
    refine ⟨a, b, a1, b1, a2, b2, ?_⟩
    rw [mm_up_at]
    by_cases e : q = p
    · rw [if_pos ⟨rfl, e⟩]; exact hv.imp id (fun z => z.1)
    · rw [if_neg (fun z => e z.2)]; exact a3
  · rw [mm_up_at, mm_up_at]
    by_cases e1 : q = p
    · by_cases e2 : r = p
      · intro _ _; rw [e1, e2]
      · rw [if_pos ⟨rfl, e1⟩, if_neg (fun z => e2 z.2)]
        intro a b
        rcases hv with z | z
        · exact absurd z b
        · exact absurd a.symm (z.2 r hr e2)
    · by_cases e2 : r = p
      · rw [if_neg (fun z => e1 z.2), if_pos ⟨rfl, e2⟩]
        intro a b
        rcases hv with z | z
        · rw [z] at a; exact absurd a b
        · exact absurd a (z.2 q hq e1)
      · rw [if_neg (fun z => e1 z.2), if_neg (fun z => e2 z.2)]; exact sr.2.2 q r hq hr
def cI (i : Nat) : Int32 := nI i + (-1)
theorem cI_0 : cI 0 = -1 := by decide
theorem cI_s (i : Nat) : cI (i + 1) = nI i := pk_m1 i
def al (S : mm_I) (np i : Nat) : Bool := decide (i = 0) || decide (hSt S 0 np (cI i) < 0)
def gB (S : mm_I) (nc : Nat) (b : Int32) (T : Int32) : Bool := decide (0 < hMv S 0 nc (hWt S 0) b T)
theorem gB_at (S : mm_I) (nc p : Nat) (b v T : Int32) : gB (mm_up S 8 p v) nc b T = gB S nc b T := rfl
def cpS (nc np : Nat) (b : Int32) : Nat → mm_I → Bool
  | 0, S => gB S nc b (hTk S 0 np)
  | n + 1, S => (fnd (fun p => (fnd (fun i => al S np i && cpS nc np b n (mm_up S 8 p (cI i))) (nc + 1) 0).isSome) np 0).isSome
theorem al_v {S : mm_I} {nc np p i : Nat} (hp6 : np ≤ 6) (hi : i < nc + 1) (h : al S np i = true) : cI i = -1 ∨ ((∃ c, c < nc ∧ cI i = nI c) ∧ ∀ q, q < np → q ≠ p → S 8 q ≠ cI i) := by
  cases i with
  | zero => exact Or.inl cI_0
  | succ c =>
    right
    rw [cI_s]
    refine ⟨⟨c, by omega, rfl⟩, fun q hq _ => ?_⟩
    unfold al at h
    rw [cI_s] at h
    simp only [Bool.or_eq_true, decide_eq_true_eq] at h
    rcases h with h | h
    · omega
    · exact hSt_non hp6 h q hq
/-- one move changes little -/
theorem nd_mv {S : mm_I} {nc np p i : Nat} (h6 : nc ≤ 6) (hp6 : np ≤ 6) (sr : sR S nc np) (hp : p < np) (hi : i < nc + 1) (ha : al S np i = true) : nd (tkN S np) (tkN (mm_up S 8 p (cI i)) np) ≤ 1 := by
  have sr2 := sR_at sr (al_v (p := p) hp6 hi ha)
  obtain ⟨a1, a2, a3, a4, a5⟩ := tkC h6 sr
  obtain ⟨c1, c2, c3, c4, c5⟩ := tkC h6 sr2
  generalize tkN S np = T at *
  generalize tkN (mm_up S 8 p (cI i)) np = U at *
  obtain ⟨r, hr, er⟩ : ∃ r, r < 7 ∧ ∀ c, c < 6 → S 8 p = nI c → c = r := by
    rcases wf_at sr p hp with h | ⟨c, hc, h⟩
    · exact ⟨6, by decide, fun c hc z => by rw [h] at z; exact absurd z.symm (m1_ne (by omega))⟩
    · exact ⟨c, by omega, fun c' hc' z => by rw [h] at z; exact (nI_inj6 (by omega) hc' z).symm⟩
  obtain ⟨w, hw, ew⟩ : ∃ w, w < 7 ∧ ∀ c, c < 6 → cI i = nI c → c = w := by
    cases i with
    | zero => exact ⟨6, by decide, fun c hc z => by rw [cI_0] at z; exact absurd z.symm (m1_ne (by omega))⟩
    | succ c => exact ⟨c, by omega, fun c' hc' z => by rw [cI_s] at z; exact (nI_inj6 (by omega) hc' z).symm⟩
  refine nd_le.mpr ⟨?_, ?_⟩
  · refine cnt_1 ⟨T &&& (63 - U), and_lt64 ⟨T, a1⟩ _⟩ ⟨r, hr⟩ (fun c hc => ?_)
    dsimp only at hc ⊢
    rw [tb_cd ⟨T, a1⟩ ⟨U, c1⟩ c] at hc
    simp only [Bool.and_eq_true, Bool.not_eq_true'] at hc
    obtain ⟨q, hq, e⟩ := (a3 c.val c.isLt).mp hc.1
    by_cases z : q = p
    · exact er c.val c.isLt (by rw [← z]; exact e)
    · have : tb U c.val = true := (c3 c.val c.isLt).mpr ⟨q, hq, by rw [mm_up_at, if_neg (fun t => z t.2)]; exact e⟩
      rw [this] at hc
      exact absurd hc.2 (by decide)
  · refine cnt_1 ⟨U &&& (63 - T), and_lt64 ⟨U, c1⟩ _⟩ ⟨w, hw⟩ (fun c hc => ?_)
    dsimp only at hc ⊢
    rw [tb_cd ⟨U, c1⟩ ⟨T, a1⟩ c] at hc
    simp only [Bool.and_eq_true, Bool.not_eq_true'] at hc
    obtain ⟨q, hq, e⟩ := (c3 c.val c.isLt).mp hc.1
    rw [mm_up_at] at e
    by_cases z : q = p
    · rw [if_pos ⟨rfl, z⟩] at e
      exact ew c.val c.isLt e
    · rw [if_neg (fun t => z t.2)] at e
      have : tb T c.val = true := (a3 c.val c.isLt).mpr ⟨q, hq, e⟩
      rw [this] at hc
      exact absurd hc.2 (by decide)
theorem tk_pow {S : mm_I} {nc np : Nat} (h6 : nc ≤ 6) (sr : sR S nc np) : tkN S np < 2 ^ nc := by
  obtain ⟨a1, a2, a3, a4, a5⟩ := tkC h6 sr
  refine lt_pow ⟨tkN S np, a1⟩ ⟨nc, by omega⟩ (fun c hc => ?_)
  obtain ⟨q, hq, e⟩ := (a3 c.val c.isLt).mp hc
  rcases wf_at sr q hq with h | ⟨c', hc', h⟩
  · rw [h] at e; exact absurd e.symm (m1_ne (by omega))
  · rw [h] at e
    have := nI_inj6 (by omega) c.isLt e
    dsimp only
    omega
theorem mv_A {nc np : Nat} {b : Int32} (h6 : nc ≤ 6) (hp6 : np ≤ 6) : ∀ (n : Nat) (S : mm_I), sR S nc np → cpS nc np b n S = true → ∃ U, U < 64 ∧ U < 2 ^ nc ∧ nd (tkN S np) U ≤ n ∧ cnt U ≤ np ∧ gB S nc b (nI U) = true := by
  intro n
  induction n with
  | zero =>
    intro S sr h
    obtain ⟨a1, a2, a3, a4, a5⟩ := tkC h6 sr
    refine ⟨tkN S np, a1, tk_pow h6 sr, by rw [nd_self ⟨tkN S np, a1⟩]; exact Nat.le_refl _, a4, ?_⟩
    rw [← a2]; exact h
  | succ n ih =>
    intro S sr h
    obtain ⟨p, hp, h1⟩ := fnd_iff.mp (show (fnd (fun p => (fnd (fun i => al S np i && cpS nc np b n (mm_up S 8 p (cI i))) (nc + 1) 0).isSome) np 0).isSome = true from h)
    obtain ⟨i, hi, h2⟩ := fnd_iff.mp h1
    simp only [Bool.and_eq_true] at h2
    have sr2 := sR_at sr (al_v (p := p) hp6 hi h2.1)
    obtain ⟨U, u1, u2, u3, u4, u5⟩ := ih _ sr2 h2.2
    exact ⟨U, u1, u2, nd_tri (tkC h6 sr).1 (tkC h6 sr2).1 u1 (nd_mv h6 hp6 sr hp hi h2.1) u3, u4, u5⟩
theorem mv_B {nc np : Nat} {b : Int32} (h6 : nc ≤ 6) (hp6 : np ≤ 6) : ∀ (n : Nat) (S : mm_I) (U : Nat), sR S nc np → U < 64 → U < 2 ^ nc → cnt U ≤ np → nd (tkN S np) U = n → gB S nc b (nI U) = true → cpS nc np b n S = true := by
  intro n
  induction n with
  | zero =>
    intro S U sr u1 u2 u3 u4 u5
    obtain ⟨a1, a2, a3, a4, a5⟩ := tkC h6 sr
    have e := nd_0 ⟨tkN S np, a1⟩ ⟨U, u1⟩ u4
    dsimp only at e
    show gB S nc b (hTk S 0 np) = true
    rw [a2, e]; exact u5
  | succ n ih =>
    intro S U sr u1 u2 u3 u4 u5
    obtain ⟨a1, a2, a3, a4, a5⟩ := tkC h6 sr
    have hn0 : ¬ nd (tkN S np) U = 0 := by omega
    obtain ⟨s1, s2, s3, s4, s5, s6⟩ := stp_1 ⟨tkN S np, a1⟩ ⟨U, u1⟩ hn0
    obtain ⟨s7, s8⟩ := stp_2 ⟨tkN S np, a1⟩ ⟨U, u1⟩
    have s9 := stp_3 ⟨tkN S np, a1⟩ ⟨U, u1⟩ hn0
    dsimp only at s1 s2 s3 s4 s5 s6 s7 s8 s9
    generalize rO (tkN S np) U = r at s3 s4 s5 s7 s9
    generalize aO (tkN S np) U = a at s3 s6 s8 s9
    -- who goes, and where to
    obtain ⟨p, hp, hpr⟩ : ∃ p, p < np ∧ ((r < 6 ∧ S 8 p = nI r) ∨ (r = 6 ∧ S 8 p = -1)) := by
      by_cases hr : r < 6
      · obtain ⟨q, hq, e⟩ := (a3 r hr).mp (s7 hr)
        exact ⟨q, hq, Or.inl ⟨hr, e⟩⟩
      · have hr6 : r = 6 := by omega
        have hlt := s4 hr6
        by_cases hex : ∀ q, q < np → S 8 q ≠ -1
        · have := a5 hex; omega
        · have hex2 : ∃ q, q < np ∧ S 8 q = -1 := Decidable.byContradiction (fun z => hex (fun q hq e => z ⟨q, hq, e⟩))
          obtain ⟨q, hq, e⟩ := hex2
          exact ⟨q, hq, Or.inr ⟨hr6, e⟩⟩
    obtain ⟨i, hi, hia, hal⟩ : ∃ i, i < nc + 1 ∧ ((a < 6 ∧ i = a + 1) ∨ (a = 6 ∧ i = 0)) ∧ al S np i = true := by
      by_cases ha : a < 6
      · have h1 := s8 ha
        have hanc := pow_bit ⟨U, u1⟩ ⟨nc, by omega⟩ u2 ⟨a, ha⟩ h1.2
        dsimp only at hanc
        refine ⟨a + 1, by omega, Or.inl ⟨ha, rfl⟩, ?_⟩
        unfold al
        rw [cI_s]
        rcases hSt_spec (S := S) (np := np) (c := nI a) with ⟨e, -⟩ | ⟨q, hq, -, e⟩
        · rw [e]; simp [show (-1 : Int32) < 0 from by decide]
        · have := (a3 a ha).mpr ⟨q, hq, e⟩
          rw [h1.1] at this
          cases this
      · exact ⟨0, by omega, Or.inr ⟨by omega, rfl⟩, rfl⟩
    have sr2 := sR_at sr (al_v (p := p) hp6 hi hal)
    obtain ⟨c1, c2, c3, c4, c5⟩ := tkC h6 sr2
    have hU : tkN (mm_up S 8 p (cI i)) np = stp (tkN S np) U := by
      refine bits_ext ⟨_, c1⟩ ⟨_, s1⟩ (fun c => ?_)
      dsimp only
      rw [s9 c]
      have key : tb (tkN (mm_up S 8 p (cI i)) np) c.val = true ↔ ((tb (tkN S np) c.val && !decide (c.val = r)) || decide (c.val = a)) = true := by
        rw [c3 c.val c.isLt]
        simp only [Bool.or_eq_true, Bool.and_eq_true, Bool.not_eq_true', decide_eq_true_eq, decide_eq_false_iff_not]
        rw [a3 c.val c.isLt]
        constructor
        · rintro ⟨q, hq, e⟩
          rw [mm_up_at] at e
          by_cases z : q = p
          · rw [if_pos ⟨rfl, z⟩] at e
            right
            rcases hia with ⟨x, y⟩ | ⟨x, y⟩
            · rw [y, cI_s] at e; exact (nI_inj6 x c.isLt e).symm
            · rw [y, cI_0] at e; exact absurd e.symm (m1_ne (by omega))
          · rw [if_neg (fun t => z t.2)] at e
            left
            refine ⟨⟨q, hq, e⟩, fun w => ?_⟩
            rcases hpr with ⟨x, y⟩ | ⟨x, y⟩
            · rw [← w] at y
              exact z (sr.2.2 q p hq hp (by rw [e, y]) (by rw [e]; exact m1_ne (by omega)))
            · have := c.isLt; omega
        · rintro (⟨⟨q, hq, e⟩, w⟩ | w)
          · refine ⟨q, hq, ?_⟩
            have z : ¬ q = p := by
              intro z
              rw [z] at e
              rcases hpr with ⟨x, y⟩ | ⟨x, y⟩
              · rw [y] at e; exact w (nI_inj6 x c.isLt e).symm
              · rw [y] at e; exact absurd e.symm (m1_ne (by omega))
            rw [mm_up_at, if_neg (fun t => z t.2)]; exact e
          · refine ⟨p, hp, ?_⟩
            rw [mm_up_at, if_pos ⟨rfl, rfl⟩]
            rcases hia with ⟨x, y⟩ | ⟨x, y⟩
            · rw [y, cI_s, w]
            · have := c.isLt; omega
      cases w1 : tb (tkN (mm_up S 8 p (cI i)) np) c.val with
      | true => exact (key.mp w1).symm
      | false =>
        cases w2 : ((tb (tkN S np) c.val && !decide (c.val = r)) || decide (c.val = a)) with
        | false => rfl
        | true => rw [key.mpr w2] at w1; cases w1
    have ihn := ih (mm_up S 8 p (cI i)) U sr2 u1 u2 u3 (by rw [hU]; omega) u5
    refine fnd_iff.mpr ⟨p, hp, fnd_iff.mpr ⟨i, hi, ?_⟩⟩
    simp only [Bool.and_eq_true]
    exact ⟨hal, ihn⟩
/-- the least of all sets, as the class finds it -/
def mvS (S : mm_I) (nc np T : Nat) (b : Int32) (s l : Nat) : Nat := if cnt s ≤ np ∧ nd T s < l ∧ gB S nc b (nI s) = true then nd T s else l
def mvR (l : Nat) : Option Nat := if 2 < l then none else some l
theorem mvS_f {S : mm_I} {nc np T : Nat} {b : Int32} : ∀ (n i l : Nat), (fo (mvS S nc np T b) n i l ≤ l) ∧ (fo (mvS S nc np T b) n i l = l ∨ ∃ s, i ≤ s ∧ s < i + n ∧ cnt s ≤ np ∧ gB S nc b (nI s) = true ∧ nd T s = fo (mvS S nc np T b) n i l) ∧ ∀ s, i ≤ s → s < i + n → cnt s ≤ np → gB S nc b (nI s) = true → fo (mvS S nc np T b) n i l ≤ nd T s := by
  intro n
  induction n with
  | zero => intro i l; exact ⟨Nat.le_refl _, Or.inl rfl, fun s a c => by omega⟩
  | succ n ih =>
    intro i l
    obtain ⟨h1, h2, h3⟩ := ih (i + 1) (mvS S nc np T b i l)
    have hm : mvS S nc np T b i l ≤ l ∧ (mvS S nc np T b i l = l ∨ (cnt i ≤ np ∧ gB S nc b (nI i) = true ∧ nd T i = mvS S nc np T b i l)) ∧ (cnt i ≤ np → gB S nc b (nI i) = true → mvS S nc np T b i l ≤ nd T i) := by
      unfold mvS
      by_cases z : cnt i ≤ np ∧ nd T i < l ∧ gB S nc b (nI i) = true
      · rw [if_pos z]; exact ⟨by omega, Or.inr ⟨z.1, z.2.2, rfl⟩, fun _ _ => Nat.le_refl _⟩
      · rw [if_neg z]; exact ⟨Nat.le_refl _, Or.inl rfl, fun a c => Nat.le_of_not_lt (fun w => z ⟨a, w, c⟩)⟩
    show fo (mvS S nc np T b) n (i + 1) (mvS S nc np T b i l) ≤ l ∧ _
    refine ⟨by omega, ?_, fun s a c d e => ?_⟩
    · rcases h2 with h2 | ⟨s, a, c, d⟩
      · rcases hm.2.1 with z | ⟨a, c, d⟩
        · left; exact h2.trans z
        · right; exact ⟨i, Nat.le_refl _, by omega, a, c, d.trans h2.symm⟩
      · right; exact ⟨s, by omega, by omega, d⟩
    · by_cases z : s = i
      · subst z
        exact Nat.le_trans h1 (hm.2.2 d e)
      · exact h3 s (by omega) (by omega) d e
theorem mv_eq {S : mm_I} {nc np B : Nat} {b : Int32} (h6 : nc ≤ 6) (hp6 : np ≤ 6) (sr : sR S nc np) (hB : B = 2 ^ nc) : fnd (fun n => cpS nc np b n S) 3 0 = mvR (fo (mvS S nc np (tkN S np) b) B 0 3) := by
  have h64 := pow64 h6
  obtain ⟨h1, h2, h3⟩ := mvS_f (S := S) (nc := nc) (np := np) (T := tkN S np) (b := b) B 0 3
  generalize fo (mvS S nc np (tkN S np) b) B 0 3 = L at h1 h2 h3 ⊢
  have A : ∀ n, cpS nc np b n S = true → L ≤ n := fun n h => by
    obtain ⟨U, u1, u2, u3, u4, u5⟩ := mv_A h6 hp6 n S sr h
    exact Nat.le_trans (h3 U (Nat.zero_le _) (by omega) u4 u5) u3
  have C : L ≤ 2 → cpS nc np b L S = true := fun hL => by
    rcases h2 with h2 | ⟨s, -, a, c, d, e⟩
    · omega
    · exact mv_B h6 hp6 L S s sr (by omega) (by omega) c e d
  cases hf : fnd (fun n => cpS nc np b n S) 3 0 with
  | none =>
    unfold mvR
    by_cases hL : L ≤ 2
    · have := fnd_none hf L (Nat.zero_le _) (by omega)
      rw [C hL] at this
      cases this
    · rw [if_pos (by omega)]
  | some m =>
    obtain ⟨m1, m2, m3⟩ := fnd_some hf
    have hLm := A m m3
    have : L = m := by
      by_cases z : L = m
      · exact z
      · have := fnd_bf hf L (Nat.zero_le _) (by omega)
        rw [C (by omega)] at this
        cases this
    unfold mvR
    rw [if_neg (by omega), this]
