/-- days in order -/
def srt (dy : Nat → Int32) (c : Nat) : Prop := ∀ i j, i ≤ j → j < c → dy i ≤ dy j
theorem ld_all {p : Nat → Bool} : ∀ {r i j : Nat}, i ≤ j → j < ld p r i → p j = true
  | 0, i, j, h1, h2 => by simp only [ld] at h2; omega
  | r + 1, i, j, h1, h2 => by
    simp only [ld] at h2
    by_cases h : p i = true
    · rw [if_pos h] at h2
      by_cases e : j = i
      · rw [e]; exact h
      · exact ld_all (by omega) h2
    · rw [if_neg h] at h2
      omega
theorem ld_stop {p : Nat → Bool} : ∀ {r i : Nat}, ld p r i < i + r → ¬ p (ld p r i) = true
  | 0, i, h => by simp only [ld] at h; omega
  | r + 1, i, h => by
    simp only [ld] at h ⊢
    by_cases hp : p i = true
    · rw [if_pos hp] at h ⊢
      exact ld_stop (by omega)
    · rw [if_neg hp]
      exact hp
theorem mo_at_lt {dy : Nat → Int32} {til : Int32} {c t : Nat} (h : t < mo_at dy til c) : dy t ≤ til := by
  have := ld_all (p := fun j => decide (dy j ≤ til)) (r := c) (i := 0) (Nat.zero_le t) h
  simpa using this
theorem mo_at_ge {dy : Nat → Int32} {til : Int32} {c t : Nat} (hs : srt dy c) (h : mo_at dy til c ≤ t) (ht : t < c) : ¬ dy t ≤ til := by
  have h1 : ¬ (decide (dy (mo_at dy til c) ≤ til)) = true := ld_stop (p := fun j => decide (dy j ≤ til)) (r := c) (i := 0) (by have : ld (fun j => decide (dy j ≤ til)) c 0 = mo_at dy til c := rfl; omega)
  intro h2
  exact h1 (decide_eq_true (Int32.le_trans (hs _ _ h ht) h2))
theorem ms_cut {g : Nat → Int64} {e : Nat} : ∀ {c : Nat}, e ≤ c → (∀ t, e ≤ t → t < c → g t = 0) → ms_s g c = ms_s g e
  | 0, h, _ => by
    have : e = 0 := by omega
    rw [this]
  | c + 1, h, hz => by
    by_cases he : e = c + 1
    · rw [he]
    · rw [ms_s, hz c (by omega) (by omega), Int64.add_zero]
      exact ms_cut (by omega) (fun t h1 h2 => hz t h1 (by omega))
/-- a sum over the postings up to a day: the class's and the reference's -/
theorem js_sum {dy : Nat → Int32} {mn : Nat → Nat} {c : Nat} {til : Int32} {g : Nat → Int64} (hs : srt dy c) : js mn g (mo_at dy til c) = mo_sum dy mn c til g := by
  unfold js mo_sum
  rw [ms_cut (mo_at_le dy til c) (fun t h1 h2 => if_neg (mo_at_ge hs h1 h2))]
  exact ms_c (fun t ht => (if_pos (mo_at_lt ht)).symm)
