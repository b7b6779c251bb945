theorem mo_sum_swap {dy : Nat → Int32} {mn : Nat → Nat} {c n : Nat} {til : Int32} {g : Nat → Nat → Int64} : ms_s (fun x => mo_sum dy mn c til (g x)) n = mo_sum dy mn c til (fun p => ms_s (fun x => g x p) n) := by
  unfold mo_sum
  rw [ms_swap]
  refine ms_c (fun t _ => ?_)
  rw [ms_if]
  by_cases h : dy t ≤ til
  · rw [if_pos h, if_pos h, ms_swap]
  · rw [if_neg h, if_neg h]
theorem mo_sum_c {dy : Nat → Int32} {mn : Nat → Nat} {c : Nat} {til : Int32} {g g' : Nat → Int64} (h : ∀ t k, t < c → k < mn t → g (6 * t + k) = g' (6 * t + k)) : mo_sum dy mn c til g = mo_sum dy mn c til g' := by
  unfold mo_sum
  refine ms_c (fun t ht => ?_)
  rw [ms_c (fun k hk => h t k ht hk)]
theorem mo_sum_if {dy : Nat → Int32} {mn : Nat → Nat} {c : Nat} {til : Int32} {g : Nat → Int64} {p : Prop} [Decidable p] : (if p then mo_sum dy mn c til g else 0) = mo_sum dy mn c til (fun q => if p then g q else 0) := by
  by_cases h : p
  · simp only [if_pos h]
  · simp only [if_neg h]
    unfold mo_sum
    symm
    refine ms_0 (fun t _ => ?_)
    split
    · exact ms_0 (fun _ _ => rfl)
    · rfl
/-- a total over an account's family: by postings, and by accounts -/
theorem tot_eq {P ou : Nat → Nat} {na a : Nat} {dy oa : Nat → Int32} {mn : Nat → Nat} {c : Nat} {til : Int32} {v : Nat → Int64} (hna : na ≤ 24) (ho : ∀ t k, t < c → k < mn t → oa (6 * t + k) = nI (ou (6 * t + k)) ∧ ou (6 * t + k) < na) : tr_S P na (fun x => mo_sum dy mn c til (fun p => if oa p = nI x then v p else 0)) a = mo_sum dy mn c til (fun p => if tr P a (ou p) = true then v p else 0) := by
  unfold tr_S
  have e : ∀ x, (if tr P a x = true then mo_sum dy mn c til (fun p => if oa p = nI x then v p else 0) else 0) = mo_sum dy mn c til (fun p => if tr P a x = true then (if oa p = nI x then v p else 0) else 0) := fun x => mo_sum_if
  simp only [e]
  rw [mo_sum_swap]
  refine mo_sum_c (fun t k ht hk => ?_)
  obtain ⟨o1, o2⟩ := ho t k ht hk
  have e2 : ∀ x, x < na → (if tr P a x = true then (if oa (6 * t + k) = nI x then v (6 * t + k) else 0) else 0) = (if x = ou (6 * t + k) then (if tr P a (ou (6 * t + k)) = true then v (6 * t + k) else 0) else 0) := fun x hx => by
    rw [o1]
    by_cases h : x = ou (6 * t + k)
    · subst h
      rw [if_pos rfl, if_pos rfl]
    · rw [if_neg h, if_neg (fun e => h ((nI_eq (show ou (6 * t + k) < 2 ^ 31 by omega) (show x < 2 ^ 31 by omega)).mp e).symm)]
      split <;> rfl
  rw [ms_c e2, ms_one, if_pos o2]
theorem own_sum {dy oa : Nat → Int32} {wt : Nat → Int64} {mn : Nat → Nat} {c : Nat} {acc til : Int32} : mo_own dy oa wt mn c acc til = mo_sum dy mn c til (fun p => if oa p = acc then wt p else 0) := rfl
/-- posted: the class's and the reference's -/
theorem posted_eq {P ou : Nat → Nat} {na a : Nat} {dy oa : Nat → Int32} {mn : Nat → Nat} {c : Nat} {til : Int32} {wt : Nat → Int32} {w64 : Nat → Int64} (hna : na ≤ 24) (hs : srt dy c) (ho : ∀ t k, t < c → k < mn t → oa (6 * t + k) = nI (ou (6 * t + k)) ∧ ou (6 * t + k) < na) (hw : ∀ t k, t < c → k < mn t → w64 (6 * t + k) = (wt (6 * t + k)).toInt64) : js mn (fun p => if tr P a (ou p) = true then (wt p).toInt64 else 0) (mo_at dy til c) = tr_S P na (fun x => mo_own dy oa w64 mn c (nI x) til) a := by
  rw [js_sum hs]
  simp only [own_sum]
  rw [tot_eq hna ho]
  exact mo_sum_c (fun t k ht hk => by rw [hw t k ht hk])
