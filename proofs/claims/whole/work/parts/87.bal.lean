theorem aJ_eq (g0 : Nat → Int64) (ad : Nat → Nat → Int64) {a : Nat} (ha : a < 24) : ∀ i, aJ g0 ad i a = g0 a + ms_s (fun i => ad i a) i
  | 0 => by simp only [aJ, ms_s, Int64.add_zero]
  | i + 1 => by
    show (if a < 24 then aJ g0 ad i a + ad i a else aJ g0 ad i a) = _
    rw [if_pos ha, aJ_eq g0 ad ha i, ms_s, Int64.add_assoc]
theorem mo_cl_le (cd : Nat → Int32) (k : Nat) (til : Int32) : mo_cl cd k til ≤ k := by
  have := ld_le (fun j => decide (cd j ≤ til)) k 0
  unfold mo_cl
  omega
/-- own balances: the class's and the reference's -/
theorem own_eq {ou : Nat → Nat} {na a : Nat} {dy oa cd : Nat → Int32} {mn : Nat → Nat} {c k : Nat} {til : Int32} {wt : Nat → Int32} {w64 og adR : Nat → Int64} {ad : Nat → Nat → Int64} (hna : na ≤ 24) (hs : srt dy c) (ha : a < na) (ho : ∀ t k, t < c → k < mn t → oa (6 * t + k) = nI (ou (6 * t + k)) ∧ ou (6 * t + k) < na) (hw : ∀ t k, t < c → k < mn t → w64 (6 * t + k) = (wt (6 * t + k)).toInt64) (had : ∀ i, i < k → ad i a = adR (24 * i + a)) :
    aJ (sJ (flK og (fun _ => 0) 24) mn ou (fun p => (wt p).toInt64) (mo_at dy til c)) ad (mo_cl cd k til) a = mo_bal dy oa w64 mn c cd adR k til a := by
  rw [aJ_eq _ _ (by omega)]
  unfold mo_bal
  have e1 : sJ (flK og (fun _ => 0) 24) mn ou (fun p => (wt p).toInt64) (mo_at dy til c) a = mo_own dy oa w64 mn c (nI a) til := by
    unfold sJ flK
    rw [if_pos (by omega), Int64.zero_add, js_sum hs, own_sum]
    refine mo_sum_c (fun t k ht hk => ?_)
    obtain ⟨o1, o2⟩ := ho t k ht hk
    rw [o1, hw t k ht hk]
    by_cases h : ou (6 * t + k) = a
    · rw [if_pos h, if_pos (by rw [h])]
    · rw [if_neg h, if_neg (fun e => h ((nI_eq (show ou (6 * t + k) < 2 ^ 31 by omega) (show a < 2 ^ 31 by omega)).mp e))]
  rw [e1]
  refine congrArg (mo_own dy oa w64 mn c (nI a) til + ·) (ms_c (fun i hi => had i ?_))
  have := mo_cl_le cd k til
  omega
