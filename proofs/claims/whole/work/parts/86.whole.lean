theorem wDn_eq {P : Nat → Nat} {na : Nat} {o : Nat → Int64} (hP : tr_ok P na) : ∀ (i : Nat) (w : Nat → Int64), 5 + i ≤ na → (∀ b, b < na → w b = o b + ms_s (fun j => if 5 + i ≤ j ∧ P j = b then tr_S P na o j else 0) na) → ∀ b, b < na → wDn P i w b = tr_S P na o b
  | 0, w, _, hw, b, hb => by
    rw [wDn, hw b hb, tr_S_eq hP hb]
  | i + 1, w, hi, hw, b, hb => by
    rw [wDn]
    refine wDn_eq hP i _ (by omega) (fun b hb => ?_) b hb
    have hx : w (5 + i) = tr_S P na o (5 + i) := by
      rw [hw (5 + i) (by omega), tr_S_eq hP (by omega)]
      refine congrArg (o (5 + i) + ·) (ms_c (fun j hj => ?_))
      by_cases h : 5 ≤ j ∧ P j = 5 + i
      · have := hP j h.1 hj
        rw [if_pos h, if_pos ⟨by omega, h.2⟩]
      · rw [if_neg h, if_neg (fun h2 => h ⟨by omega, h2.2⟩)]
    have hsum : ms_s (fun j => if 5 + i ≤ j ∧ P j = b then tr_S P na o j else 0) na = ms_s (fun j => if 5 + (i + 1) ≤ j ∧ P j = b then tr_S P na o j else 0) na + (if P (5 + i) = b then tr_S P na o (5 + i) else 0) := by
      have h1 : (if P (5 + i) = b then tr_S P na o (5 + i) else 0) = ms_s (fun j => if j = 5 + i then (if P (5 + i) = b then tr_S P na o (5 + i) else 0) else 0) na := by
        rw [ms_one, if_pos (show 5 + i < na by omega)]
      rw [h1, ← ms_add]
      refine ms_c (fun j _ => ?_)
      by_cases hj : j = 5 + i
      · subst hj
        rw [if_pos rfl, if_neg (show ¬ (5 + (i + 1) ≤ 5 + i ∧ P (5 + i) = b) by omega), Int64.zero_add]
        by_cases hp : P (5 + i) = b
        · rw [if_pos ⟨Nat.le_refl _, hp⟩, if_pos hp]
        · rw [if_neg (fun h => hp h.2), if_neg hp]
      · rw [if_neg hj, Int64.add_zero]
        by_cases hc : 5 + i ≤ j ∧ P j = b
        · rw [if_pos hc, if_pos ⟨by omega, hc.2⟩]
        · rw [if_neg hc, if_neg (fun h => hc ⟨by omega, h.2⟩)]
    rw [hsum, ← Int64.add_assoc, ← hw b hb, hx]
    unfold vp_updL
    by_cases hb2 : b = P (5 + i)
    · rw [if_pos hb2, if_pos hb2.symm, hb2]
    · rw [if_neg hb2, if_neg (fun h => hb2 h.symm), Int64.add_zero]
/-- the class's whole balances are sums over families -/
theorem whole_eq {P : Nat → Nat} {na : Nat} {o w : Nat → Int64} (hP : tr_ok P na) (hna : na ≤ 24) (h5 : 5 ≤ na) {b : Nat} (hb : b < na) : wDn P (na - 5) (flK w o 24) b = tr_S P na o b := by
  refine wDn_eq hP (na - 5) _ (by omega) (fun b hb => ?_) b hb
  rw [ms_0 (fun j hj => if_neg (by omega)), Int64.add_zero]
  unfold flK
  rw [if_pos (by omega)]
