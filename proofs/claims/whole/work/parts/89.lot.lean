/-- lot: the class's and the reference's, from place l on -/
theorem lot_eq {lo lc lq : Nat → Int32} {lo' lc' lq' lk : Nat → Int32} {k64 : Nat → Int64} {a w k : Int32} : ∀ (r l : Nat) (m : Int32), (∀ j, l ≤ j → j < l + r → lo' j = lo j ∧ lc' j = lc j ∧ lq' j = lq j ∧ k64 j = (lk j).toInt64) → lt_lotC lo' lc' lq' lk a w k r l m = lt_lot lo lc lq k64 a w k r l m
  | 0, _, _, _ => rfl
  | r + 1, l, m, h => by
    obtain ⟨h1, h2, h3, h4⟩ := h l (Nat.le_refl _) (by omega)
    have e : lt_is lo' lc' lq' a w l = lt_is lo lc lq a w l := by
      unfold lt_is
      rw [h1, h2, h3]
    rw [lt_lotC, lt_lot, e, h3, h4, lot_eq r (l + 1) m (fun j g1 g2 => h j (by omega) (by omega)), lot_eq r (l + 1) (m + 1) (fun j g1 g2 => h j (by omega) (by omega))]
