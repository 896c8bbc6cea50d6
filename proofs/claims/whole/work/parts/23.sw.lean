/-! Switches, one key behind the other -/
def swG (K : Nat → Prop) (pc : Nat) (d0 : Int) (ps : List (Int × Int)) (x : Int32) : Prop := K ((pc : Int) + Op.lookupswitch.offset ps d0 x.toInt).toNat
theorem sw_nil {K : Nat → Prop} {pc : Nat} {d0 : Int} {x : Int32} {t : Nat} (ht : ((pc : Int) + d0).toNat = t) (h : K t) : swG K pc d0 [] x := by
  unfold swG
  rw [Op.lookupswitch.offset_nil, ht]
  exact h
theorem sw_cons {K : Nat → Prop} {pc : Nat} {d0 a off : Int} {key x : Int32} {r : List (Int × Int)} {t : Nat} (hk : key.toInt = a) (ht : ((pc : Int) + off).toNat = t) (h1 : x = key → K t) (h2 : ¬ x = key → swG K pc d0 r x) : swG K pc d0 ((a, off) :: r) x := by
  unfold swG at *
  rw [Op.lookupswitch.offset_cons]
  by_cases h : x = key
  · rw [if_pos (by rw [h, hk]), ht]
    exact h1 h
  · rw [if_neg (fun e => h (Int32.toInt_inj.mp (by rw [hk]; exact e.symm)))]
    exact h2 h
def mkp : Int → List Int → List (Int × Int)
  | _, [] => []
  | lo, o :: r => (lo, o) :: mkp (lo + 1) r
theorem mkp_off (d0 k : Int) : ∀ (l : List Int) (lo : Int), Op.lookupswitch.offset (mkp lo l) d0 k = if k < lo ∨ lo + l.length ≤ k then d0 else (l[(k - lo).toNat]?).getD d0 := by
  intro l
  induction l with
  | nil =>
    intro lo
    rw [show mkp lo [] = [] from rfl, Op.lookupswitch.offset_nil]
    simp
  | cons o r ih =>
    intro lo
    rw [show mkp lo (o :: r) = (lo, o) :: mkp (lo + 1) r from rfl, Op.lookupswitch.offset_cons, ih]
    by_cases h : lo = k
    · subst h
      simp
      omega
    · rw [if_neg h]
      by_cases h2 : k < lo + 1 ∨ lo + 1 + (r.length : Int) ≤ k
      · rw [if_pos h2, if_pos (by simp; omega)]
      · rw [if_neg h2, if_neg (by simp; omega)]
        have e : (k - lo).toNat = (k - (lo + 1)).toNat + 1 := by omega
        rw [e]
        simp
theorem mkp_tsw {pc : Nat} {d0 lo hi : Int} {offs : Array Int} {x : Int32} (h : hi - lo + 1 = (offs.size : Int)) : mm_tsw pc d0 lo hi offs x = ((pc : Int) + Op.lookupswitch.offset (mkp lo offs.toList) d0 x.toInt).toNat := by
  rw [mkp_off]
  unfold mm_tsw
  have hl : (offs.toList.length : Int) = offs.size := by simp
  by_cases h1 : x.toInt < lo ∨ hi < x.toInt
  · rw [if_pos h1, if_pos (by omega)]
  · rw [if_neg h1, if_neg (by omega)]
    have hlt : (x.toInt - lo).toNat < offs.size := by omega
    rw [Array.getElem?_toList, Array.getElem?_eq_getElem hlt]
    rfl
section EVS
variable {T : List mm_C} {X : Nat × (Nat → Int32)} {d mid pc nx aux : Nat} {vv : Value} {ls st : List Value} {I : mm_I} {Q : Option Value → mm_I → Prop}
theorem ev_lk {d0 : Int} {ps : Array (Int × Int)} {l : List (Int × Int)} {x : Int32} (h : mm_at mid pc = some (.lookupswitch d0 ps, nx, aux, vv)) (hl : ps.toList = l) (k : swG (fun t => mm_Ev T X d mid t ls st I Q) pc d0 l x) : mm_Ev T X d mid pc ls (.int x :: st) I Q := by
  subst hl
  exact ev_lookup h rfl k
theorem ev_tb {d0 lo hi : Int} {offs : Array Int} {l : List (Int × Int)} {x : Int32} (h : mm_at mid pc = some (.tableswitch d0 lo hi offs, nx, aux, vv)) (hs : hi - lo + 1 = (offs.size : Int)) (hl : mkp lo offs.toList = l) (k : swG (fun t => mm_Ev T X d mid t ls st I Q) pc d0 l x) : mm_Ev T X d mid pc ls (.int x :: st) I Q := by
  subst hl
  exact ev_table h (mkp_tsw hs) k
end EVS
