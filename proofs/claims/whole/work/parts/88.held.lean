theorem ms_to32 (g : Nat → Int64) : ∀ n, (ms_s g n).toInt32 = is_s (fun i => (g i).toInt32) n
  | 0 => rfl
  | n + 1 => by rw [ms_s, is_s, Int64.toInt32_add, ms_to32 g n]
theorem is_c {f g : Nat → Int32} : ∀ {n : Nat}, (∀ i, i < n → f i = g i) → is_s f n = is_s g n
  | 0, _ => rfl
  | n + 1, h => by rw [is_s, is_s, h n (Nat.lt_succ_self _), is_c (fun i hi => h i (by omega))]
theorem js_to32 (mn : Nat → Nat) (g : Nat → Int64) (e : Nat) : (js mn g e).toInt32 = js32 mn (fun p => (g p).toInt32) e := by
  unfold js js32
  rw [ms_to32]
  exact is_c (fun t _ => ms_to32 _ _)
/-- held: the class's and the reference's; only acquiring and releasing postings have a commodity -/
theorem held_eq {P ou : Nat → Nat} {na a : Nat} {dy oa kd cm qt : Nat → Int32} {mn : Nat → Nat} {c : Nat} {til w : Int32} (hna : na ≤ 24) (hs : srt dy c) (ho : ∀ t k, t < c → k < mn t → oa (6 * t + k) = nI (ou (6 * t + k)) ∧ ou (6 * t + k) < na) (hkd : ∀ t k, t < c → k < mn t → cm (6 * t + k) = w → kd (6 * t + k) = 1 ∨ kd (6 * t + k) = 2) :
    js32 mn (fun p => if cm p = w ∧ tr P a (ou p) = true then chg kd qt p else 0) (mo_at dy til c) = (tr_S P na (fun x => mo_sum dy mn c til (mo_gu kd oa cm qt (nI x) w)) a).toInt32 := by
  have e1 : ∀ x, mo_sum dy mn c til (mo_gu kd oa cm qt (nI x) w) = mo_sum dy mn c til (fun p => if oa p = nI x then (if cm p = w then (chg kd qt p).toInt64 else 0) else 0) := fun x => by
    refine mo_sum_c (fun t k ht hk => ?_)
    unfold mo_gu chg
    by_cases h1 : oa (6 * t + k) = nI x
    · by_cases h2 : cm (6 * t + k) = w
      · have h3 := hkd t k ht hk h2
        rw [if_pos ⟨h3, h1, h2⟩, if_pos h1, if_pos h2]
        rcases h3 with h3 | h3
        · rw [if_pos h3, if_neg (by rw [h3]; decide)]
        · rw [if_neg (by rw [h3]; decide), if_pos h3]
      · rw [if_neg (fun h => h2 h.2.2), if_pos h1, if_neg h2]
    · rw [if_neg (fun h => h1 h.2.1), if_neg h1]
  simp only [e1]
  rw [tot_eq hna ho, ← js_sum hs, js_to32]
  unfold js32
  refine is_c (fun t _ => is_c (fun k _ => ?_))
  show (if cm (6 * t + k) = w ∧ tr P a (ou (6 * t + k)) = true then chg kd qt (6 * t + k) else 0) = (if tr P a (ou (6 * t + k)) = true then if cm (6 * t + k) = w then (chg kd qt (6 * t + k)).toInt64 else 0 else 0).toInt32
  by_cases h1 : tr P a (ou (6 * t + k)) = true
  · by_cases h2 : cm (6 * t + k) = w
    · rw [if_pos ⟨h2, h1⟩, if_pos h1, if_pos h2, Int32.toInt32_toInt64]
    · rw [if_neg (fun h => h2 h.1), if_pos h1, if_neg h2]
      rfl
  · rw [if_neg (fun h => h1 h.2), if_neg h1]
    rfl
