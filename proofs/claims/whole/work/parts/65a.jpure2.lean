theorem vlC_le (L : LC) (kd oa cm qt am : Int32) : (vlC L kd oa cm qt am).2.1 ≤ L.1 + 1 := by
  unfold vlC
  split
  · exact Nat.le_refl _
  · split
    · exact Nat.le_succ _
    · exact Nat.le_succ _
section
variable (kd oa cm qt am : Nat → Int32)
/-- m postings from p on, in 32 bits; left: short -/
def bkFC : Nat → Nat → LC × (Nat → Int32) × Int32 × Option Nat → (LC × (Nat → Int32)) ⊕ (LC × (Nat → Int32) × Int32 × Option Nat)
  | _, 0, s => .inr s
  | p, m + 1, s => if vlS s.1 (kd p) (oa p) (cm p) (qt p) = true then .inl (s.1, s.2.1) else
      bkFC (p + 1) m ((vlC s.1 (kd p) (oa p) (cm p) (qt p) (am p)).2, upd s.2.1 p (vlC s.1 (kd p) (oa p) (cm p) (qt p) (am p)).1, s.2.2.1 + (vlC s.1 (kd p) (oa p) (cm p) (qt p) (am p)).1, if kd p = 3 then some p else s.2.2.2)
theorem bkFC_le : ∀ (m p : Nat) (s s' : LC × (Nat → Int32) × Int32 × Option Nat), bkFC kd oa cm qt am p m s = .inr s' → s'.1.1 ≤ s.1.1 + m ∧ (∀ r, s'.2.2.2 = some r → s.2.2.2 = some r ∨ (p ≤ r ∧ r < p + m)) := by
  intro m
  induction m with
  | zero =>
    intro p s s' h
    cases h
    exact ⟨Nat.le_refl _, fun r hr => Or.inl hr⟩
  | succ m ih =>
    intro p s s' h
    rw [bkFC] at h
    split at h
    · cases h
    · obtain ⟨h1, h2⟩ := ih _ _ _ h
      have h3 := vlC_le s.1 (kd p) (oa p) (cm p) (qt p) (am p)
      simp only at h1 h2
      refine ⟨by omega, fun r hr => ?_⟩
      rcases h2 r hr with h4 | h4
      · split at h4
        · cases h4; exact Or.inr ⟨Nat.le_refl _, by omega⟩
        · exact Or.inl h4
      · exact Or.inr ⟨by omega, by omega⟩
theorem bkFC_l : ∀ (m p : Nat) (s : LC × (Nat → Int32) × Int32 × Option Nat) (s' : LC × (Nat → Int32)), bkFC kd oa cm qt am p m s = .inl s' → s'.1.1 ≤ s.1.1 + m := by
  intro m
  induction m with
  | zero => intro p s s' h; cases h
  | succ m ih =>
    intro p s s' h
    rw [bkFC] at h
    split at h
    · cases h; exact Nat.le_add_right _ _
    · have h1 := ih _ _ _ h
      have h3 := vlC_le s.1 (kd p) (oa p) (cm p) (qt p) (am p)
      simp only at h1
      omega
/-- a transaction: the outcome, lots, weights -/
def bkOC (t m : Nat) (L : LC) (wt : Nat → Int32) : Int32 × LC × (Nat → Int32) := match bkFC kd oa cm qt am (6 * t) m (L, wt, 0, none) with
  | .inl s => (2, s.1, s.2)
  | .inr s => match s.2.2.2 with
    | some p => (0, s.1, upd s.2.1 p (-s.2.2.1))
    | none => (if s.2.2.1 = 0 then 0 else 3, s.1, s.2.1)
theorem bkOC_le (t m : Nat) (L : LC) (wt : Nat → Int32) : (bkOC kd oa cm qt am t m L wt).2.1.1 ≤ L.1 + m := by
  unfold bkOC
  cases hb : bkFC kd oa cm qt am (6 * t) m (L, wt, 0, none) with
  | inl s => exact bkFC_l kd oa cm qt am _ _ _ _ hb
  | inr s =>
    obtain ⟨h1, -⟩ := bkFC_le kd oa cm qt am _ _ _ _ hb
    simp only
    split <;> exact h1
/-- all from t on -/
def bkAC (mt : Nat → Nat) (place : Nat) : Nat → Nat → LC → (Nat → Int32) → Int32 × LC × (Nat → Int32)
  | _, 0, L, wt => (0, L, wt)
  | t, m + 1, L, wt => if (bkOC kd oa cm qt am t (mt t) L wt).1 = 0 then bkAC mt place (t + 1) m (bkOC kd oa cm qt am t (mt t) L wt).2.1 (bkOC kd oa cm qt am t (mt t) L wt).2.2
      else (if t = place then (bkOC kd oa cm qt am t (mt t) L wt).1 else 4, (bkOC kd oa cm qt am t (mt t) L wt).2.1, (bkOC kd oa cm qt am t (mt t) L wt).2.2)
end
