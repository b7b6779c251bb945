theorem em_le {a b : Int} (ha : 0 ≤ a) (hb : 0 < b) : a % b ≤ a := by
  have h1 := Int.mul_ediv_add_emod a b
  have h2 := Int.mul_nonneg (Int.le_of_lt hb) (Int.ediv_nonneg ha (Int.le_of_lt hb))
  omega
/-- division that rounds down -/
theorem rem_t {x y : Int64} (hy : 0 < y.toInt) : (x - x / y * y).toInt = x.toInt.tmod y.toInt := by
  have h1 : (x / y).toInt = x.toInt.tdiv y.toInt := Int64.toInt_div_of_ne_right x y (fun e => by
    rw [e] at hy
    exact absurd hy (by decide))
  have h2 := Int.mul_tdiv_add_tmod x.toInt y.toInt
  have hx1 := Int64.toInt_lt x
  have hx2 := Int64.le_toInt x
  have h3 : (x / y * y).toInt = x.toInt - x.toInt.tmod y.toInt := by
    rw [Int64.toInt_mul, h1, Int.mul_comm]
    have : y.toInt * x.toInt.tdiv y.toInt = x.toInt - x.toInt.tmod y.toInt := by omega
    rw [this]
    by_cases h : 0 ≤ x.toInt
    · have a1 := Int.tmod_nonneg y.toInt h
      have a2 : x.toInt.tmod y.toInt ≤ x.toInt := by
        rw [Int.tmod_eq_emod_of_nonneg h]
        exact em_le h hy
      exact Int.bmod_eq_of_le (by omega) (by omega)
    · have a1 : x.toInt.tmod y.toInt ≤ 0 := by
        have := Int.tmod_nonneg y.toInt (show 0 ≤ -x.toInt by omega)
        rw [Int.neg_tmod] at this
        omega
      have a2 : x.toInt ≤ x.toInt.tmod y.toInt := by
        have e := Int.neg_tmod x.toInt y.toInt
        rw [Int.tmod_eq_emod_of_nonneg (show 0 ≤ -x.toInt by omega)] at e
        have := em_le (a := -x.toInt) (b := y.toInt) (show 0 ≤ -x.toInt by omega) hy
        omega
      exact Int.bmod_eq_of_le (by omega) (by omega)
  rw [Int64.toInt_sub, h3, show x.toInt - (x.toInt - x.toInt.tmod y.toInt) = x.toInt.tmod y.toInt by omega]
  have b1 := Int.tmod_lt_of_pos x.toInt hy
  have b2 := Int.tmod_lt_of_pos (-x.toInt) hy
  rw [Int.neg_tmod] at b2
  have hy1 := Int64.toInt_lt y
  exact Int.bmod_eq_of_le (by omega) (by omega)
theorem xor_neg {x y : Int64} (hy : 0 < y.toInt) : (x ^^^ y) < 0 ↔ x.toInt < 0 := by
  rw [Int64.lt_iff_toBitVec_slt, Int64.toBitVec_xor]
  show (x.toBitVec ^^^ y.toBitVec).slt 0#64 = true ↔ _
  rw [BitVec.slt_zero_iff_msb_cond, BitVec.msb_xor, BitVec.msb_eq_toInt, BitVec.msb_eq_toInt]
  have e : decide (y.toBitVec.toInt < 0) = false := decide_eq_false (by show ¬ y.toInt < 0; omega)
  rw [e, Bool.xor_false, decide_eq_true_eq]
  exact Iff.rfl
theorem rem_neg {x y : Int64} (hy : 0 < y.toInt) : (x - x / y * y < 0) ↔ (x.toInt < 0 ∧ ¬ x - x / y * y = 0) := by
  rw [Int64.lt_iff_toInt_lt, rem_t hy, ← Int64.toInt_inj, rem_t hy, Int64.toInt_zero]
  constructor
  · intro h
    refine ⟨?_, by omega⟩
    apply Int.not_le.mp
    intro h2
    have := Int.tmod_nonneg y.toInt h2
    omega
  · intro ⟨h1, h2⟩
    have := Int.tmod_nonneg y.toInt (show 0 ≤ -x.toInt by omega)
    rw [Int.neg_tmod] at this
    omega
theorem fdv_eq {x y : Int64} (hy : 0 < y.toInt) : fdv x y = dn x y := by
  unfold fdv dn
  have e : (¬ x / y * y = x) ↔ ¬ x - x / y * y = 0 := by
    constructor
    · intro h h2
      apply h
      grind
    · intro h h2
      exact h (by rw [h2, Int64.sub_self])
  exact ite_congr (propext ((and_congr (xor_neg hy) e).trans (rem_neg hy).symm)) (fun _ => rfl) (fun _ => rfl)
theorem fmd_eq {x y : Int64} (hy : 0 < y.toInt) : fmd x y = x - dn x y * y := by
  unfold fmd dn
  have e := (and_congr (xor_neg (x := x) hy) (Iff.rfl (a := ¬ x - x / y * y = 0))).trans (rem_neg hy).symm
  by_cases h : x - x / y * y < 0
  · rw [if_pos h, if_pos (e.mpr h)]
    grind
  · rw [if_neg h, if_neg (fun h2 => h (e.mp h2))]
section
variable {par : Nat → Int32} {P : Nat → Nat} {na : Nat} {o o2 w s g : Nat → Int64} {u : Int64}
theorem shI_lt (a : Nat) : ∀ {b : Nat}, a ≤ b → ∀ x, x < a → shI par P na o w u g b x = shI par P na o w u g a x
  | 0, h, x, hx => by omega
  | b + 1, h, x, hx => by
    by_cases e : a = b + 1
    · rw [e]
    · rw [shI, pk_uLn (show x ≠ b by omega)]
      exact shI_lt a (by omega) x hx
theorem par_m1 (hP : tr_par par P na) {a : Nat} (ha : a < na) (h5 : a < 5) : par a = -1 := hP.2.2 a ha h5
/-- the sums of the parts -/
theorem pmL_eq (hu : 0 < u.toInt) {q : Int32} {qn : Nat} {p : Int64} (hw : ∀ b, b < na → w b = tr_S P na o2 b) (l0 : Int64) (hl : l0 = sh_m (pt_is par q) (pt_v P na o2 qn) u p 1) : ∀ j, j ≤ na → pmL par w u q l0 j = sh_m (pt_is par q) (pt_v P na o2 qn) u p (j + 1)
  | 0, _ => hl
  | j + 1, hj => by
    rw [pmL, pmL_eq hu hw l0 hl j (by omega), sh_m.eq_2 _ _ _ _ (j + 1), fdv_eq hu, hw j (by omega)]
    show _ = if decide (par j = q) = true then sh_m (pt_is par q) (pt_v P na o2 qn) u p (j + 1) - dn (tr_S P na o2 j) u else sh_m (pt_is par q) (pt_v P na o2 qn) u p (j + 1)
    simp only [decide_eq_true_eq]
theorem pmA_eq (hu : 0 < u.toInt) (hna : na ≤ 24) {q : Int32} {qn a : Nat} {rem : Int64} (ha : a < na) (hw : ∀ b, b < na → w b = tr_S P na o2 b) (b0 : Int32) (hl : b0 = sh_b (pt_is par q) (pt_v P na o2 qn) u rem (nI a) 1) : ∀ j, j ≤ na → pmA par w u q rem a b0 j = sh_b (pt_is par q) (pt_v P na o2 qn) u rem (nI a) (j + 1)
  | 0, _ => hl
  | j + 1, hj => by
    rw [pmA, pmA_eq hu hna ha hw b0 hl j (by omega), sh_b.eq_2 _ _ _ _ _ (j + 1), fmd_eq hu, hw j (by omega)]
    show _ = if decide (par j = q) = true then sh_b (pt_is par q) (pt_v P na o2 qn) u rem (nI a) (j + 1) + b2i (decide (rem < tr_S P na o2 j - dn (tr_S P na o2 j) u * u) || (decide (tr_S P na o2 j - dn (tr_S P na o2 j) u * u = rem) && decide (nI j < nI a))) else sh_b (pt_is par q) (pt_v P na o2 qn) u rem (nI a) (j + 1)
    have hlt : nI j < nI a ↔ j < a := nI_ltI (by omega) (by omega)
    generalize sh_b (pt_is par q) (pt_v P na o2 qn) u rem (nI a) (j + 1) = B
    by_cases h1 : par j = q
    · rw [if_pos (decide_eq_true h1)]
      by_cases h2 : rem < tr_S P na o2 j - dn (tr_S P na o2 j) u * u ∨ (tr_S P na o2 j - dn (tr_S P na o2 j) u * u = rem ∧ j < a)
      · rw [if_pos ⟨h1, h2⟩]
        have : (decide (rem < tr_S P na o2 j - dn (tr_S P na o2 j) u * u) || (decide (tr_S P na o2 j - dn (tr_S P na o2 j) u * u = rem) && decide (nI j < nI a))) = true := by
          simpa [hlt] using h2
        rw [this]; rfl
      · rw [if_neg (fun h => h2 h.2)]
        have : (decide (rem < tr_S P na o2 j - dn (tr_S P na o2 j) u * u) || (decide (tr_S P na o2 j - dn (tr_S P na o2 j) u * u = rem) && decide (nI j < nI a))) = false := by
          simpa [hlt] using h2
        rw [this]
        exact (Int32.add_zero B).symm
    · rw [if_neg (fun h => h1 h.1), if_neg (by rw [decide_eq_true_eq]; exact h1)]
theorem shp_eq (hu : 0 < u.toInt) (hna : na ≤ 24) (hP : tr_par par P na) (hw : ∀ b, b < na → w b = tr_S P na o2 b) (ho : ∀ b, b < na → o b = o2 b) {a : Nat} (ha : a < na) (hs : 5 ≤ a → s (P a) = mo_pr par P na o2 u (P a)) :
    fdv (w a) u + (b2i (pmM par P na o w s u a)).toInt64 = mo_pr par P na o2 u a := by
  have fin : ∀ (b : Bool) (X : Int64), X + (b2i b).toInt64 = if b = true then X + 1 else X := fun b X => by
    cases b
    · exact Int64.add_zero X
    · rfl
  rw [mo_pr_eq hP.1 ha]
  unfold pmM
  by_cases h5 : a < 5
  · rw [if_pos h5, if_neg (by omega), fin, fdv_eq hu, hw a ha, fmd_eq hu, par_m1 hP ha h5]
    unfold sh
    rw [pmL_eq (p := 0) (qn := 0) hu hw 0 (by rw [sh_m]; rfl) na (Nat.le_refl _), pmA_eq (qn := 0) hu hna ha hw 0 (by rw [sh_b]; rfl) na (Nat.le_refl _)]
    simp only [decide_eq_true_eq]
  · have h5' : 5 ≤ a := by omega
    have hPa := hP.1 a h5' ha
    have hp := hP.2.1 a ha h5'
    have hq0 : 0 ≤ nI (P a) := nI_pos' (by omega)
    rw [if_neg h5, if_pos h5', fin, fdv_eq hu, hw a ha, fmd_eq hu, hp, ho (P a) (by omega), hs h5', fdv_eq hu, fmd_eq hu]
    unfold sh
    rw [pmL_eq (p := mo_pr par P na o2 u (P a)) (qn := P a) hu hw _ (by
        rw [sh_m, sh_m]
        show _ = if decide (0 ≤ nI (P a)) = true then _ else _
        rw [if_pos (decide_eq_true hq0)]
        rfl) na (Nat.le_refl _), pmA_eq (qn := P a) hu hna ha hw _ (by
        rw [sh_b, sh_b]
        show _ = if decide (0 ≤ nI (P a)) = true then 0 + b2i (decide (_ < o2 (P a) - dn (o2 (P a)) u * u) || (decide (o2 (P a) - dn (o2 (P a)) u * u = _) && decide ((-1 : Int32) < nI a))) else 0
        have hm1 : (-1 : Int32) < nI a := by
          rw [Int32.lt_iff_toInt_lt, nI_toInt (by omega)]
          have : (-1 : Int32).toInt = -1 := by decide
          omega
        rw [if_pos (decide_eq_true hq0), decide_eq_true hm1, Bool.and_true]
        generalize o2 (P a) - dn (o2 (P a)) u * u = r0
        generalize tr_S P na o2 a - dn (tr_S P na o2 a) u * u = r
        by_cases h : r0 < r
        · rw [if_pos h, decide_eq_false (fun h2 : r < r0 => Int64.lt_irrefl (Int64.lt_trans h h2)), decide_eq_false (fun h2 : r0 = r => Int64.lt_irrefl (h2 ▸ h))]
          rfl
        · rw [if_neg h]
          have : (decide (r < r0) || decide (r0 = r)) = true := by
            by_cases e : r0 = r
            · rw [decide_eq_true e, Bool.or_true]
            · rw [decide_eq_true (Int64.lt_of_le_of_ne (Int64.not_lt.mp h) (fun e2 => e e2.symm)), Bool.true_or]
          rw [this]; rfl) na (Nat.le_refl _)]
    simp only [decide_eq_true_eq]
/-- what is printed is the same -/
theorem print_eq (hu : 0 < u.toInt) (hna : na ≤ 24) (hP : tr_par par P na) (hw : ∀ b, b < na → w b = tr_S P na o2 b) (ho : ∀ b, b < na → o b = o2 b) : ∀ (n a : Nat), a < n → a < na → shI par P na o w u g na a = mo_pr par P na o2 u a
  | 0, _, h, _ => by omega
  | n + 1, a, h, ha => by
    rw [shI_lt (a + 1) (by omega) a (by omega), shI, pk_uLs]
    refine shp_eq hu hna hP hw ho ha (fun h5 => ?_)
    have hPa := hP.1 a h5 ha
    rw [← print_eq hu hna hP hw ho n (P a) (by omega) (by omega)]
    exact (shI_lt a (by omega) (P a) hPa).symm
end
