section
variable {po pd pv : Nat → Int32} {w til x y z : Int32}
/-- each commodity and day stands once -/
def pdis (po pd : Nat → Int32) (k : Nat) : Prop := ∀ i j, i < k → j < k → po i = po j → pd i = pd j → i = j
theorem pb_some : ∀ {k b : Nat}, pb po pd w til k = some b → po b = w ∧ pd b ≤ til ∧ ∀ i, i < k → po i = w → pd i ≤ til → pd i ≤ pd b
  | 0, b, h => by cases h
  | k + 1, b, h => by
    rw [pb] at h
    split at h
    · next hc =>
      cases h
      refine ⟨hc.1, hc.2.1, fun i hi h1 h2 => ?_⟩
      by_cases e : i = k
      · rw [e]; exact Int32.le_refl _
      · have h3 := hc.2.2
        cases hb : pb po pd w til k with
        | none =>
          exfalso
          exact pb_none hb i (by omega) h1 h2
        | some d =>
          rw [hb] at h3
          have h4 : pd d < pd k := of_decide_eq_true h3
          exact Int32.le_trans ((pb_some hb).2.2 i (by omega) h1 h2) (Int32.le_of_lt h4)
    · next hc =>
      obtain ⟨a1, a2, a3⟩ := pb_some h
      refine ⟨a1, a2, fun i hi h1 h2 => ?_⟩
      by_cases e : i = k
      · subst e
        apply Int32.not_lt.mp
        intro h5
        exact hc ⟨h1, h2, by rw [h]; exact decide_eq_true h5⟩
      · exact a3 i (by omega) h1 h2
where
  pb_none : ∀ {k : Nat}, pb po pd w til k = none → ∀ i, i < k → po i = w → ¬ pd i ≤ til
  | 0, _, i, hi, _ => by omega
  | k + 1, h, i, hi, h1 => by
    rw [pb] at h
    split at h
    · cases h
    · next hc =>
      intro h2
      by_cases e : i = k
      · subst e
        exact hc ⟨h1, h2, by rw [h]; rfl⟩
      · exact pb_none h i (by omega) h1 h2
theorem pb_c {po' pd' : Nat → Int32} : ∀ {k : Nat}, (∀ i, i < k → po' i = po i ∧ pd' i = pd i) → pb po' pd' w til k = pb po pd w til k
  | 0, _ => rfl
  | k + 1, h => by
    rw [pb, pb, pb_c (fun i hi => h i (by omega)), (h k (by omega)).1, (h k (by omega)).2]
    have : pb_n pd' (pb po pd w til k) k = pb_n pd (pb po pd w til k) k := by
      cases hb : pb po pd w til k with
      | none => rfl
      | some b =>
        have hb2 := pb_lt hb
        show decide (pd' b < pd' k) = decide (pd b < pd k)
        rw [(h b (by omega)).2, (h k (by omega)).2]
    rw [this]
theorem fx_lt {k : Nat} (h : mo_fx po pd x y k < k) : po (mo_fx po pd x y k) = x ∧ pd (mo_fx po pd x y k) = y := by
  have := ld_stop (p := fun j => decide (¬ (po j = x ∧ pd j = y))) (r := k) (i := 0) (by rw [Nat.zero_add]; exact h)
  apply Classical.byContradiction
  intro h2
  exact this (decide_eq_true h2)
theorem fx_k {k : Nat} (h : ¬ mo_fx po pd x y k < k) : mo_fx po pd x y k = k ∧ ∀ i, i < k → ¬ (po i = x ∧ pd i = y) := by
  have h1 := mo_fx_le po pd x y k
  have e : mo_fx po pd x y k = k := by omega
  refine ⟨e, fun i hi => ?_⟩
  exact of_decide_eq_true (ld_all (p := fun j => decide (¬ (po j = x ∧ pd j = y))) (r := k) (i := 0) (j := i) (by omega) (by
    show i < mo_fx po pd x y k
    omega))
/-- a price of the day itself is found where the reference finds it -/
theorem price_in {k : Nat} (hd : pdis po pd k) (h : mo_fx po pd x y k < k) : pb po pd x y k = some (mo_fx po pd x y k) := by
  obtain ⟨h1, h2⟩ := fx_lt h
  cases hb : pb po pd x y k with
  | none => exact absurd (Int32.le_of_eq h2) (pb_some.pb_none hb _ h h1)
  | some b =>
    obtain ⟨a1, a2, a3⟩ := pb_some hb
    have a4 := a3 _ h h1 (Int32.le_of_eq h2)
    rw [h2] at a4
    have := hd b _ (pb_lt hb) h (a1.trans h1.symm) ((Int32.le_antisymm a2 a4).trans h2.symm)
    rw [this]
theorem price_out {k : Nat} (h : ¬ mo_fx po pd x y k < k) : ∀ b, pb po pd x y k = some b → ¬ pd b = y := fun b hb h2 => (fx_k h).2 b (pb_lt hb) ⟨(pb_some hb).1, h2⟩
theorem pdis_s {k : Nat} (hd : pdis po pd k) (h : ¬ mo_fx po pd x y k < k) : pdis (upd po k x) (upd pd k y) (k + 1) := by
  obtain ⟨_, h2⟩ := fx_k h
  have e : ∀ (g : Nat → Int32) (v : Int32) (i : Nat), upd g k v i = if i = k then v else g i := fun _ _ _ => rfl
  intro i j hi hj h3 h4
  rw [e, e] at h3 h4
  by_cases i1 : i = k
  · by_cases j1 : j = k
    · omega
    · rw [if_pos i1, if_neg j1] at h3 h4
      exact absurd ⟨h3.symm, h4.symm⟩ (h2 j (by omega))
  · by_cases j1 : j = k
    · rw [if_neg i1, if_pos j1] at h3 h4
      exact absurd ⟨h3, h4⟩ (h2 i (by omega))
    · rw [if_neg i1, if_neg j1] at h3 h4
      exact hd i j (by omega) (by omega) h3 h4
/-- a price of a later day changes nothing that held before it -/
theorem price_new {k : Nat} (h : til < y) : mo_price (upd po k x) (upd pd k y) (upd pv k z) (k + 1) w til = mo_price po pd pv k w til := by
  have e : pb (upd po k x) (upd pd k y) w til (k + 1) = pb po pd w til k := by
    rw [pb, if_neg]
    · exact pb_c (fun i hi => ⟨pk_un (by omega), pk_un (by omega)⟩)
    · rw [pk_us, pk_us]
      intro ⟨_, h2, _⟩
      exact Int32.lt_irrefl (Int32.lt_of_lt_of_le h h2)
  unfold mo_price
  rw [e]
  cases hb : pb po pd w til k with
  | none => rfl
  | some b => exact pk_un (by have := pb_lt hb; omega)
theorem price_over {k e : Nat} (h : til < y) (he : pd e = y) : mo_price po pd (upd pv e z) k w til = mo_price po pd pv k w til := by
  unfold mo_price
  cases hb : pb po pd w til k with
  | none => rfl
  | some b =>
    refine pk_un (fun e2 => ?_)
    have := (pb_some hb).2.1
    rw [e2, he] at this
    exact Int32.lt_irrefl (Int32.lt_of_lt_of_le h this)
/-- prices as the document allows them -/
def pr_ok (po pv : Nat → Int32) (k : Nat) : Prop := ∀ i, i < k → 1 ≤ po i ∧ 0 ≤ pv i
theorem price_m1 {k : Nat} (h : pr_ok po pv k) : mo_price po pd pv k w til < 0 ↔ mo_price po pd pv k w til = -1 := by
  unfold mo_price
  cases hb : pb po pd w til k with
  | none => exact ⟨fun _ => rfl, fun _ => show (-1 : Int32) < 0 by decide⟩
  | some b =>
    have h1 := (h b (pb_lt hb)).2
    constructor
    · intro h2
      exact absurd (Int32.lt_of_lt_of_le h2 h1) Int32.lt_irrefl
    · intro h2
      dsimp only at h2
      rw [h2] at h1
      exact absurd h1 (by decide)
theorem price_0 {k : Nat} (h : pr_ok po pv k) : mo_price po pd pv k 0 til = -1 := by
  unfold mo_price
  cases hb : pb po pd 0 til k with
  | none => rfl
  | some b =>
    have h1 := (h b (pb_lt hb)).1
    rw [(pb_some hb).1] at h1
    exact absurd h1 (by decide)
end
section
variable {dy : Nat → Int32} {dd til : Int32} {c a : Nat}
theorem mo_at_u {e : Nat} (he : e ≤ c) (h1 : ∀ t, t < e → dy t ≤ til) (h2 : e < c → ¬ dy e ≤ til) : mo_at dy til c = e := by
  have h3 := mo_at_le dy til c
  rcases Nat.lt_trichotomy (mo_at dy til c) e with h | h | h
  · exfalso
    have := ld_stop (p := fun j => decide (dy j ≤ til)) (r := c) (i := 0) (by show mo_at dy til c < 0 + c; omega)
    exact this (decide_eq_true (h1 _ h))
  · exact h
  · exact absurd (mo_at_lt h) (h2 (by omega))
theorem mo_at_stop (h : mo_at dy til c < c) : ¬ dy (mo_at dy til c) ≤ til := fun h1 => by
  have := ld_stop (p := fun j => decide (dy j ≤ til)) (r := c) (i := 0) (by show mo_at dy til c < 0 + c; omega)
  exact this (decide_eq_true h1)
theorem in1_lt {g : Nat → Int32} {v : Int32} {t : Nat} (h : t < a) : upd (ins1 g a c) a v t = g t := by
  rw [pk_un (by omega)]
  exact if_neg (by omega)
theorem in1_eq {g : Nat → Int32} {v : Int32} : upd (ins1 g a c) a v a = v := pk_us
theorem in1_gt {g : Nat → Int32} {v : Int32} {t : Nat} (h : a < t) (h2 : t ≤ c) : upd (ins1 g a c) a v t = g (t - 1) := by
  rw [pk_un (by omega)]
  exact if_pos ⟨by omega, h2⟩
theorem in6_lt {g v : Nat → Int32} {m t k : Nat} (h : t < a) (hk : k < 6) : wr6 (ins6 g a c) a m v (6 * t + k) = g (6 * t + k) := by
  unfold wr6 ins6
  rw [if_neg (by omega), if_neg (by omega)]
theorem in6_eq {g v : Nat → Int32} {m k : Nat} (hk : k < m) : wr6 (ins6 g a c) a m v (6 * a + k) = v k := by
  unfold wr6
  rw [if_pos ⟨by omega, by omega⟩, show 6 * a + k - 6 * a = k by omega]
theorem in6_gt {g v : Nat → Int32} {m t k : Nat} (h : a < t) (h2 : t ≤ c) (hk : k < 6) (hm : m ≤ 6) : wr6 (ins6 g a c) a m v (6 * t + k) = g (6 * (t - 1) + k) := by
  unfold wr6 ins6
  rw [if_neg (by omega), if_pos ⟨by omega, by omega⟩, show 6 * t + k - 6 = 6 * (t - 1) + k by omega]
theorem de1 {g : Nat → Int32} {v : Int32} {t : Nat} (h : t < c) : del1 (upd (ins1 g a c) a v) a c t = g t := by
  unfold del1
  by_cases h1 : a ≤ t
  · rw [if_pos ⟨h1, h⟩, in1_gt (by omega) (by omega), Nat.add_sub_cancel]
  · rw [if_neg (fun h2 => h1 h2.1), in1_lt (by omega)]
theorem de6 {g v : Nat → Int32} {m t k : Nat} (h : t < c) (hk : k < 6) (hm : m ≤ 6) : del6 (wr6 (ins6 g a c) a m v) a c (6 * t + k) = g (6 * t + k) := by
  unfold del6
  by_cases h1 : a ≤ t
  · rw [if_pos ⟨by omega, by omega⟩, show 6 * t + k + 6 = 6 * (t + 1) + k by omega, in6_gt (by omega) (by omega) hk hm, Nat.add_sub_cancel]
  · rw [if_neg (fun h2 => h1 (by omega)), in6_lt (by omega) hk]
theorem ins_srt (hs : srt dy c) (ea : mo_at dy dd c = a) : srt (upd (ins1 dy a c) a dd) (c + 1) := by
  have hac : a ≤ c := ea ▸ mo_at_le dy dd c
  intro i j hij hj
  have lo : ∀ t, t < a → dy t ≤ dd := fun t ht => mo_at_lt (by rw [ea]; exact ht)
  have hi : ∀ t, a ≤ t → t < c → dd ≤ dy t := fun t h1 h2 => by
    have := mo_at_ge hs (by rw [ea]; exact h1) h2
    exact Int32.le_of_lt (Int32.not_le.mp this)
  rcases Nat.lt_trichotomy i a with h1 | h1 | h1 <;> rcases Nat.lt_trichotomy j a with h2 | h2 | h2 <;> try omega
  · rw [in1_lt h1, in1_lt h2]; exact hs i j hij (by omega)
  · rw [in1_lt h1, h2, in1_eq]; exact lo i h1
  · rw [in1_lt h1, in1_gt h2 (by omega)]; exact hs i (j - 1) (by omega) (by omega)
  · rw [h1, h2]; exact Int32.le_refl _
  · rw [h1, in1_eq, in1_gt h2 (by omega)]; exact hi (j - 1) (by omega) (by omega)
  · rw [in1_gt h1 (by omega), in1_gt h2 (by omega)]; exact hs (i - 1) (j - 1) (by omega) (by omega)
theorem ins_at (hs : srt dy c) (ea : mo_at dy dd c = a) (h : til < dd) : mo_at (upd (ins1 dy a c) a dd) til (c + 1) = mo_at dy til c ∧ mo_at dy til c ≤ a := by
  have hac : a ≤ c := ea ▸ mo_at_le dy dd c
  have h1 : mo_at dy til c ≤ a := by
    apply Nat.not_lt.mp
    intro h2
    have h3 := mo_at_lt h2
    have h4 := mo_at_le dy til c
    exact mo_at_ge hs (by rw [ea]; exact Nat.le_refl a) (show a < c by omega) (Int32.le_trans h3 (Int32.le_of_lt h))
  refine ⟨mo_at_u (by omega) (fun t ht => ?_) (fun h5 => ?_), h1⟩
  · rw [in1_lt (by omega)]; exact mo_at_lt ht
  · by_cases e : mo_at dy til c = a
    · rw [e, in1_eq]
      exact Int32.not_le.mpr h
    · rw [in1_lt (by omega)]
      exact mo_at_stop (by omega)
/-- the number of postings of the new journal -/
def inN (mn : Nat → Nat) (a m : Nat) : Nat → Nat := fun t => if t < a then mn t else if t = a then m else mn (t - 1)
theorem inN_lt {mn : Nat → Nat} {m t : Nat} (h : t < a) : inN mn a m t = mn t := if_pos h
theorem inN_eq {mn : Nat → Nat} {m : Nat} : inN mn a m a = m := by unfold inN; rw [if_neg (by omega), if_pos rfl]
theorem inN_gt {mn : Nat → Nat} {m t : Nat} (h : a < t) : inN mn a m t = mn (t - 1) := by unfold inN; rw [if_neg (by omega), if_neg (by omega)]
theorem ms_js {mn mn2 : Nat → Nat} {g g2 : Nat → Int64} {e : Nat} (hm : ∀ t, t < e → mn2 t = mn t) (hg : ∀ t k, t < e → k < mn t → g2 (6 * t + k) = g (6 * t + k)) : js mn2 g2 e = js mn g e := by
  unfold js
  refine ms_c (fun t ht => ?_)
  rw [hm t ht]
  exact ms_c (fun k hk => hg t k ht hk)
/-- what is before the draft's day sums up as it did -/
theorem ins_sum {mn : Nat → Nat} {m : Nat} {g g2 : Nat → Int64} (hs : srt dy c) (ea : mo_at dy dd c = a) (h : til < dd) (hg : ∀ t k, t < a → k < mn t → g2 (6 * t + k) = g (6 * t + k)) :
    mo_sum (upd (ins1 dy a c) a dd) (inN mn a m) (c + 1) til g2 = mo_sum dy mn c til g := by
  obtain ⟨h1, h2⟩ := ins_at hs ea h
  rw [← js_sum (ins_srt hs ea), ← js_sum hs, h1]
  exact ms_js (fun t ht => inN_lt (by omega)) (fun t k ht hk => hg t k (by omega) hk)
end
