/-- the lots and weights are those of a booking of the journal -/
def BOK (kd oa cm qt am : Nat → Int32) (mn : Nat → Nat) (c : Nat) (L : LC) (wt : Nat → Int32) : Prop :=
  ∃ (kd0 oa0 cm0 qt0 am0 : Nat → Int32) (mn0 : Nat → Nat) (pl : Nat) (L0 : (Nat → Int32) × (Nat → Int32) × (Nat → Int32) × (Nat → Int32)) (w0 : Nat → Int32),
    bkAC kd0 oa0 cm0 qt0 am0 mn0 pl 0 c (0, L0) w0 = (0, L, wt) ∧ (∀ j, j < c → mn0 j = mn j) ∧ (∀ j k, j < c → k < mn j → dA kd0 oa0 cm0 qt0 am0 kd oa cm qt am (6 * j + k))
theorem dA_refl (kd oa cm qt am : Nat → Int32) (p : Nat) : dA kd oa cm qt am kd oa cm qt am p := ⟨rfl, rfl, rfl, rfl, rfl⟩
theorem BOK_c {kd oa cm qt am kd2 oa2 cm2 qt2 am2 : Nat → Int32} {mn mn2 : Nat → Nat} {c : Nat} {L : LC} {wt : Nat → Int32} (h : BOK kd oa cm qt am mn c L wt) (hm : ∀ j, j < c → mn2 j = mn j) (hd : ∀ j k, j < c → k < mn j → dA kd oa cm qt am kd2 oa2 cm2 qt2 am2 (6 * j + k)) : BOK kd2 oa2 cm2 qt2 am2 mn2 c L wt := by
  obtain ⟨kd0, oa0, cm0, qt0, am0, mn0, pl, L0, w0, h1, h2, h3⟩ := h
  refine ⟨kd0, oa0, cm0, qt0, am0, mn0, pl, L0, w0, h1, fun j hj => by rw [hm j hj, h2 j hj], fun j k hj hk => ?_⟩
  rw [hm j hj] at hk
  obtain ⟨a1, a2, a3, a4, a5⟩ := h3 j k hj hk
  obtain ⟨b1, b2, b3, b4, b5⟩ := hd j k hj hk
  exact ⟨b1.trans a1, b2.trans a2, b3.trans a3, b4.trans a4, b5.trans a5⟩
theorem nI_m1e {x : Nat} (hx : x ≤ 81) : ¬ nI x = -1 := fun e => by
  have h1 := congrArg Int32.toInt e
  rw [nI_toInt (by omega)] at h1
  have h2 : (-1 : Int32).toInt = -1 := by decide
  omega
theorem n2e (x : Nat) : (2 : Int32) * nI x = nI (2 * x) := pk_mul 2 x
theorem t64_inj {x y : Int32} (h : x.toInt64 = y.toInt64) : x = y := by
  have := congrArg Int64.toInt h
  rw [Int32.toInt_toInt64, Int32.toInt_toInt64] at this
  exact Int32.toInt.inj this
theorem ite_0 {p : Prop} [Decidable p] {x : Int32} (h : (if p then x else 4) = 0) (hx : ¬ x = 0) : False := by
  split at h
  · exact hx h
  · exact absurd h (by decide)
section
variable {kd oa cm qt am kd2 oa2 cm2 qt2 am2 : Nat → Int32} {mn mn2 : Nat → Nat} {c : Nat} {L : LC} {wt : Nat → Int32}
theorem bk_C {kd' oa' cm' qt' am' : Nat → Int32} {mt mt' : Nat → Nat} {place m t : Nat} {L : LC} {wt : Nat → Int32} {L' : LT} {wt' : Nat → Int64} (hL : LTR L L' (6 * t)) (hT : t + m ≤ 40)
    (hm : ∀ j, t ≤ j → j < t + m → mt' j = mt j ∧ mt j ≤ 6) (hd : ∀ j k, t ≤ j → j < t + m → k < mt j → dA kd oa cm qt am kd' oa' cm' qt' am' (6 * j + k) ∧ pk_ok (kd (6 * j + k)) (qt (6 * j + k)) (am (6 * j + k)))
    (h0 : (bkAC kd oa cm qt am mt place t m L wt).1 = 0 ∨ (bkA kd' oa' cm' qt' am' mt' t m L' wt').1 = -1) :
    (bkAC kd oa cm qt am mt place t m L wt).1 = 0 ∧ (bkA kd' oa' cm' qt' am' mt' t m L' wt').1 = -1 ∧ LTR (bkAC kd oa cm qt am mt place t m L wt).2.1 (bkA kd' oa' cm' qt' am' mt' t m L' wt').2.2.1 (6 * (t + m)) ∧
      (∀ j k, t ≤ j → j < t + m → k < mt j → (bkA kd' oa' cm' qt' am' mt' t m L' wt').2.2.2 (6 * j + k) = ((bkAC kd oa cm qt am mt place t m L wt).2.2 (6 * j + k)).toInt64) ∧
      (∀ x, x < 6 * t → (bkAC kd oa cm qt am mt place t m L wt).2.2 x = wt x ∧ (bkA kd' oa' cm' qt' am' mt' t m L' wt').2.2.2 x = wt' x) := by
  rcases bk_eq (place := place) m t L wt L' wt' hL hT hm hd with h | ⟨j, j1, j2, ⟨h1, h2⟩ | ⟨h1, h2⟩⟩
  · exact h
  · exfalso
    rcases h0 with h0 | h0
    · exact ite_0 (h2.symm.trans h0) (by decide)
    · rw [h0, n2e] at h1
      exact nI_m1e (show 2 * j ≤ 81 by omega) h1.symm
  · exfalso
    rcases h0 with h0 | h0
    · exact ite_0 (h2.symm.trans h0) (by decide)
    · rw [h0, n2e, nI_1] at h1
      exact nI_m1e (show 2 * j + 1 ≤ 81 by omega) h1.symm
/-- booked again, the reference has what the class has -/
theorem rebook (hB : BOK kd oa cm qt am mn c L wt) (hc : c ≤ 40) (hm : ∀ j, j < c → mn2 j = mn j ∧ mn j ≤ 6) (hd : ∀ j k, j < c → k < mn j → dA kd oa cm qt am kd2 oa2 cm2 qt2 am2 (6 * j + k) ∧ pk_ok (kd (6 * j + k)) (qt (6 * j + k)) (am (6 * j + k)))
    (x : (Nat → Int32) × (Nat → Int32) × (Nat → Int32) × (Nat → Int64)) (w : Nat → Int64) :
    (bkA kd2 oa2 cm2 qt2 am2 mn2 0 c (0, x) w).1 = -1 ∧ LTR L (bkA kd2 oa2 cm2 qt2 am2 mn2 0 c (0, x) w).2.2.1 (6 * c) ∧ ∀ j k, j < c → k < mn j → (bkA kd2 oa2 cm2 qt2 am2 mn2 0 c (0, x) w).2.2.2 (6 * j + k) = (wt (6 * j + k)).toInt64 := by
  obtain ⟨kd0, oa0, cm0, qt0, am0, mn0, pl, L0, w0, h1, h2, h3⟩ := hB
  obtain ⟨g1, g2, g3, g4, g5⟩ := bk_C (kd := kd0) (oa := oa0) (cm := cm0) (qt := qt0) (am := am0) (kd' := kd2) (oa' := oa2) (cm' := cm2) (qt' := qt2) (am' := am2) (mt := mn0) (mt' := mn2) (place := pl) (m := c) (t := 0) (wt := w0) (wt' := w) (LTR_0 L0 x) (by omega)
    (fun j _ hj => by
      have hj : j < c := by omega
      rw [(hm j hj).1, h2 j hj]
      exact ⟨rfl, (hm j hj).2⟩)
    (fun j k _ hj hk => by
      have hj : j < c := by omega
      rw [h2 j hj] at hk
      obtain ⟨a1, a2, a3, a4, a5⟩ := h3 j k hj hk
      obtain ⟨⟨b1, b2, b3, b4, b5⟩, ok⟩ := hd j k hj hk
      refine ⟨⟨b1.trans a1, b2.trans a2, b3.trans a3, b4.trans a4, b5.trans a5⟩, ?_⟩
      rw [← a1, ← a4, ← a5]
      exact ok) (.inl (by rw [h1]))
  rw [h1] at g3 g4
  rw [Nat.zero_add] at g3
  refine ⟨g2, g3, fun j k hj hk => g4 j k (by omega) (by omega) (by rw [h2 j hj]; exact hk)⟩
theorem cmC_e {j a : Nat} (hj : j < 40) (ha : a ≤ j) : cmC (2 * nI j) a = if j = a then 2 else 4 := by
  have e1 : nI (2 * j) / 2 = nI j := by
    have := pk_div (a := 2 * j) (d := 2) (by omega) (by omega) (by omega)
    rw [show 2 * j / 2 = j by omega] at this
    exact this
  unfold cmC
  rw [n2e, if_pos (nI_pos' (by omega)), e1]
  rw [show nI j * 2 = nI (2 * j) from by rw [Int32.mul_comm]; exact n2e j, Int32.sub_self, if_pos rfl]
  by_cases h : j = a
  · rw [if_pos h, if_pos ((nI_leI (by omega) (by omega)).mpr (by omega))]
  · rw [if_neg h, if_neg (fun h2 => h (by have := (nI_leI (show j < 2 ^ 31 by omega) (show a < 2 ^ 31 by omega)).mp h2; omega))]
theorem cmC_o {j a : Nat} (hj : j < 40) (ha : a ≤ j) : cmC (2 * nI j + 1) a = if j = a then 3 else 4 := by
  have e1 : nI (2 * j + 1) / 2 = nI j := by
    have := pk_div (a := 2 * j + 1) (d := 2) (by omega) (by omega) (by omega)
    rw [show (2 * j + 1) / 2 = j by omega] at this
    exact this
  unfold cmC
  rw [n2e, nI_1, if_pos (nI_pos' (by omega)), e1]
  rw [show nI j * 2 = nI (2 * j) from by rw [Int32.mul_comm]; exact n2e j, pk_sub (by omega), show 2 * j + 1 - 2 * j = 1 by omega, if_neg (nI_ne0 (by omega) (by omega))]
  by_cases h : j = a
  · rw [if_pos h, if_pos ((nI_leI (by omega) (by omega)).mpr (by omega))]
  · rw [if_neg h, if_neg (fun h2 => h (by have := (nI_leI (show j < 2 ^ 31 by omega) (show a < 2 ^ 31 by omega)).mp h2; omega))]
/-- a draft tried in its place: both say the same, and what is before it keeps its weights -/
theorem commit_eq {a : Nat} (hB : BOK kd oa cm qt am mn c L wt) (hc : c < 40) (ha : a ≤ c) (hmn : ∀ j, j < c → mn j ≤ 6) (hok : ∀ j k, j < c → k < mn j → pk_ok (kd (6 * j + k)) (qt (6 * j + k)) (am (6 * j + k)))
    (hm : ∀ j, j < a → mn2 j = mn j) (hd : ∀ j k, j < a → k < mn j → dA kd oa cm qt am kd2 oa2 cm2 qt2 am2 (6 * j + k))
    (hm2 : ∀ j, j < c + 1 → mn2 j ≤ 6) (hok2 : ∀ j k, j < c + 1 → k < mn2 j → pk_ok (kd2 (6 * j + k)) (qt2 (6 * j + k)) (am2 (6 * j + k)))
    (y : (Nat → Int32) × (Nat → Int32) × (Nat → Int32) × (Nat → Int32)) (v : Nat → Int32) (x : (Nat → Int32) × (Nat → Int32) × (Nat → Int32) × (Nat → Int64)) (w : Nat → Int64) :
    ((bkAC kd2 oa2 cm2 qt2 am2 mn2 a 0 (c + 1) (0, y) v).1 = 0 ∧ (bkA kd2 oa2 cm2 qt2 am2 mn2 0 (c + 1) (0, x) w).1 = -1 ∧ LTR (bkAC kd2 oa2 cm2 qt2 am2 mn2 a 0 (c + 1) (0, y) v).2.1 (bkA kd2 oa2 cm2 qt2 am2 mn2 0 (c + 1) (0, x) w).2.2.1 (6 * (c + 1)) ∧
      (∀ j k, j < c + 1 → k < mn2 j → (bkA kd2 oa2 cm2 qt2 am2 mn2 0 (c + 1) (0, x) w).2.2.2 (6 * j + k) = ((bkAC kd2 oa2 cm2 qt2 am2 mn2 a 0 (c + 1) (0, y) v).2.2 (6 * j + k)).toInt64) ∧
      (∀ j k, j < a → k < mn j → (bkAC kd2 oa2 cm2 qt2 am2 mn2 a 0 (c + 1) (0, y) v).2.2 (6 * j + k) = wt (6 * j + k))) ∨
    (¬ (bkAC kd2 oa2 cm2 qt2 am2 mn2 a 0 (c + 1) (0, y) v).1 = 0 ∧ (bkAC kd2 oa2 cm2 qt2 am2 mn2 a 0 (c + 1) (0, y) v).1 = cmC (bkA kd2 oa2 cm2 qt2 am2 mn2 0 (c + 1) (0, x) w).1 a) := by
  obtain ⟨kd0, oa0, cm0, qt0, am0, mn0, pl, L0, w0, h1, h2, h3⟩ := hB
  have h1' := h1
  rw [show c = a + (c - a) by omega, bkAC_add] at h1'
  have p0 : (bkAC kd0 oa0 cm0 qt0 am0 mn0 pl 0 a (0, L0) w0).1 = 0 := by
    by_cases h : (bkAC kd0 oa0 cm0 qt0 am0 mn0 pl 0 a (0, L0) w0).1 = 0
    · exact h
    · rw [if_neg h] at h1'
      rw [h1']
  rw [if_pos p0, Nat.zero_add] at h1'
  have ok0 : ∀ j k, j < c → k < mn0 j → pk_ok (kd0 (6 * j + k)) (qt0 (6 * j + k)) (am0 (6 * j + k)) := fun j k hj hk => by
    rw [h2 j hj] at hk
    obtain ⟨a1, a2, a3, a4, a5⟩ := h3 j k hj hk
    rw [← a1, ← a4, ← a5]
    exact hok j k hj hk
  have m06 : ∀ j, j < a → mn0 j ≤ 6 := fun j hj => by
    rw [h2 j (by omega), ← hm j hj]; exact hm2 j (by omega)
  -- the old first ones against the reference's new first ones
  obtain ⟨e1, e2, e3, e4, e5⟩ := bk_C (kd := kd0) (oa := oa0) (cm := cm0) (qt := qt0) (am := am0) (kd' := kd2) (oa' := oa2) (cm' := cm2) (qt' := qt2) (am' := am2) (mt := mn0) (mt' := mn2) (place := pl) (m := a) (t := 0) (wt := w0) (wt' := w) (LTR_0 L0 x) (by omega)
    (fun j _ hj => by
      have hj : j < a := by omega
      exact ⟨by rw [hm j hj, h2 j (by omega)], m06 j hj⟩)
    (fun j k _ hj hk => by
      have hj : j < a := by omega
      refine ⟨?_, ok0 j k (by omega) hk⟩
      rw [h2 j (by omega)] at hk
      obtain ⟨a1, a2, a3, a4, a5⟩ := h3 j k (by omega) hk
      obtain ⟨b1, b2, b3, b4, b5⟩ := hd j k hj hk
      exact ⟨b1.trans a1, b2.trans a2, b3.trans a3, b4.trans a4, b5.trans a5⟩) (.inl p0)
  -- the class's new first ones
  obtain ⟨f1, f2, f3, f4, f5⟩ := bk_C (kd := kd2) (oa := oa2) (cm := cm2) (qt := qt2) (am := am2) (kd' := kd2) (oa' := oa2) (cm' := cm2) (qt' := qt2) (am' := am2) (mt := mn2) (mt' := mn2) (place := a) (m := a) (t := 0) (wt := v) (wt' := w) (LTR_0 y x) (by omega)
    (fun j _ hj => ⟨rfl, hm2 j (by omega)⟩) (fun j k _ hj hk => ⟨dA_refl _ _ _ _ _ _, hok2 j k (by omega) hk⟩) (.inr e2)
  rw [Nat.zero_add] at e3 f3
  -- the weights that the old booking had below a
  have old : ∀ z, z < 6 * a → wt z = (bkAC kd0 oa0 cm0 qt0 am0 mn0 pl 0 a (0, L0) w0).2.2 z := by
    obtain ⟨_, _, _, _, o5⟩ := bk_C (kd := kd0) (oa := oa0) (cm := cm0) (qt := qt0) (am := am0) (kd' := kd0) (oa' := oa0) (cm' := cm0) (qt' := qt0) (am' := am0) (mt := mn0) (mt' := mn0) (place := pl) (m := c - a) (t := a) (wt := (bkAC kd0 oa0 cm0 qt0 am0 mn0 pl 0 a (0, L0) w0).2.2) (wt' := w) e3 (by omega)
      (fun j _ hj => ⟨rfl, by rw [h2 j (by omega)]; exact hmn j (by omega)⟩) (fun j k _ hj hk => ⟨dA_refl _ _ _ _ _ _, ok0 j k (by omega) hk⟩) (.inl (by rw [h1']))
    intro z hz
    have := (o5 z hz).1
    rw [h1'] at this
    exact this
  have sC : bkAC kd2 oa2 cm2 qt2 am2 mn2 a 0 (c + 1) (0, y) v = bkAC kd2 oa2 cm2 qt2 am2 mn2 a a (c + 1 - a) (bkAC kd2 oa2 cm2 qt2 am2 mn2 a 0 a (0, y) v).2.1 (bkAC kd2 oa2 cm2 qt2 am2 mn2 a 0 a (0, y) v).2.2 := by
    conv => lhs; rw [show c + 1 = a + (c + 1 - a) by omega, bkAC_add, if_pos f1, Nat.zero_add]
  have sR : bkA kd2 oa2 cm2 qt2 am2 mn2 0 (c + 1) (0, x) w = bkA kd2 oa2 cm2 qt2 am2 mn2 a (c + 1 - a) (bkA kd2 oa2 cm2 qt2 am2 mn2 0 a (0, x) w).2.2.1 (bkA kd2 oa2 cm2 qt2 am2 mn2 0 a (0, x) w).2.2.2 := by
    conv => lhs; rw [show c + 1 = a + (c + 1 - a) by omega, bkA_add _ _ _ _ _ (by omega), if_pos f2, Nat.zero_add]
  rw [sC, sR]
  rcases bk_eq (kd := kd2) (oa := oa2) (cm := cm2) (qt := qt2) (am := am2) (kd' := kd2) (oa' := oa2) (cm' := cm2) (qt' := qt2) (am' := am2) (mt := mn2) (mt' := mn2) (place := a) (c + 1 - a) a _ (bkAC kd2 oa2 cm2 qt2 am2 mn2 a 0 a (0, y) v).2.2 _ (bkA kd2 oa2 cm2 qt2 am2 mn2 0 a (0, x) w).2.2.2 f3 (by omega)
    (fun j _ hj => ⟨rfl, hm2 j (by omega)⟩) (fun j k _ hj hk => ⟨dA_refl _ _ _ _ _ _, hok2 j k (by omega) hk⟩) with ⟨g1, g2, g3, g4, g5⟩ | ⟨j, j1, j2, g⟩
  · left
    refine ⟨g1, g2, by rw [show a + (c + 1 - a) = c + 1 by omega] at g3; exact g3, fun j k hj hk => ?_, fun j k hj hk => ?_⟩
    · by_cases e : j < a
      · obtain ⟨b1, b2⟩ := g5 (6 * j + k) (by have := hm2 j hj; omega)
        rw [b1, b2]
        exact f4 j k (by omega) (by omega) hk
      · exact g4 j k (by omega) (by omega) hk
    · have hk6 : k < 6 := by have := hmn j (by omega); omega
      obtain ⟨b1, b2⟩ := g5 (6 * j + k) (by omega)
      rw [b1, old _ (by omega)]
      apply t64_inj
      rw [← f4 j k (by omega) (by omega) (by rw [hm j hj]; exact hk), e4 j k (by omega) (by omega) (by rw [h2 j (by omega)]; exact hk)]
  · right
    rcases g with ⟨g1, g2⟩ | ⟨g1, g2⟩
    · rw [g1, g2, cmC_e (by omega) j1]
      exact ⟨fun h => ite_0 h (by decide), rfl⟩
    · rw [g1, g2, cmC_o (by omega) j1]
      exact ⟨fun h => ite_0 h (by decide), rfl⟩
end
