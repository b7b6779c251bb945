theorem va_up_a (g : Nat → Option Nat) (i : Nat) (v : Option Nat) : va_up g i v = fun j => if j = i then v else g j := rfl
/-- the transactions with a new one at a place: the first i are copied -/
def cp1 (gx tx : Nat → Option Nat) (i : Nat) : Nat → Option Nat := fun t => if t < i then tx t else gx t
def cp2 (gx tx : Nat → Option Nat) (a r i : Nat) : Nat → Option Nat := fun t => if t < a then tx t else if t = a then some r else if t ≤ i then tx (t - 1) else gx t
theorem cp1_s (gx tx : Nat → Option Nat) (i : Nat) : va_up (cp1 gx tx i) i (tx i) = cp1 gx tx (i + 1) := by
  rw [va_up_a]
  funext j
  unfold cp1
  by_cases h : j = i
  · rw [if_pos h, if_pos (by omega), h]
  · rw [if_neg h]
    by_cases h2 : j < i
    · rw [if_pos h2, if_pos (by omega)]
    · rw [if_neg h2, if_neg (by omega)]
theorem cp2_0 (gx tx : Nat → Option Nat) (a r : Nat) : va_up (cp1 gx tx a) a (some r) = cp2 gx tx a r a := by
  rw [va_up_a]
  funext j
  unfold cp1 cp2
  by_cases h : j = a
  · rw [if_pos h, if_neg (by omega), if_pos h]
  · rw [if_neg h]
    by_cases h2 : j < a
    · rw [if_pos h2, if_pos h2]
    · rw [if_neg h2, if_neg h2, if_neg h, if_neg (by omega)]
theorem cp2_s (gx tx : Nat → Option Nat) (a r i : Nat) (hi : a ≤ i) : va_up (cp2 gx tx a r i) (i + 1) (tx i) = cp2 gx tx a r (i + 1) := by
  rw [va_up_a]
  funext j
  unfold cp2
  by_cases h : j = i + 1
  · rw [if_pos h, if_neg (by omega), if_neg (by omega), if_pos (by omega), h]
    rfl
  · rw [if_neg h]
    by_cases h2 : j < a
    · rw [if_pos h2, if_pos h2]
    · rw [if_neg h2, if_neg h2]
      by_cases h3 : j = a
      · rw [if_pos h3, if_pos h3]
      · rw [if_neg h3, if_neg h3]
        by_cases h4 : j ≤ i
        · rw [if_pos h4, if_pos (by omega)]
        · rw [if_neg h4, if_neg (by omega)]
