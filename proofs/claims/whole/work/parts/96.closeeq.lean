/-- the commodity of a posting -/
def cm_ok (kd cm : Int32) : Prop := ((kd = 1 ∨ kd = 2) ∧ 1 ≤ cm ∧ cm ≤ 4) ∨ (¬ (kd = 1 ∨ kd = 2) ∧ cm = 0)
theorem cm_in {x : Int32} (h1 : 1 ≤ x) (h2 : x ≤ 4) : x = 1 ∨ x = 2 ∨ x = 3 ∨ x = 4 := by
  rw [Int32.le_iff_toInt_le] at h1 h2
  have e1 : (1 : Int32).toInt = 1 := by decide
  have e4 : (4 : Int32).toInt = 4 := by decide
  rw [e1] at h1
  rw [e4] at h2
  have : x.toInt = 1 ∨ x.toInt = 2 ∨ x.toInt = 3 ∨ x.toInt = 4 := by omega
  rcases this with h | h | h | h
  · exact .inl (Int32.toInt.inj h)
  · exact .inr (.inl (Int32.toInt.inj h))
  · exact .inr (.inr (.inl (Int32.toInt.inj h)))
  · exact .inr (.inr (.inr (Int32.toInt.inj h)))
section
variable {dy kd oa cm qt po pd pv : Nat → Int32} {wt : Nat → Int32} {w64 : Nat → Int64} {mn ou : Nat → Nat} {c kp na : Nat} {til : Int32}
/-- the value that a posting adds to its account's adjustments -/
def aV (kd cm qt po pd pv wt : Nat → Int32) (kp : Nat) (til : Int32) (p : Nat) : Int64 := if mo_price po pd pv kp (cm p) til = -1 then 0 else (chg kd qt p).toInt64 * (mo_price po pd pv kp (cm p) til).toInt64 - (wt p).toInt64
def aH (kd oa cm qt po pd pv : Nat → Int32) (w64 : Nat → Int64) (kp : Nat) (til acc w : Int32) (p : Nat) : Int64 := if mo_price po pd pv kp w til < 0 then 0 else mo_gu kd oa cm qt acc w p * (mo_price po pd pv kp w til).toInt64 - mo_gs kd oa cm w64 acc w p
theorem adj_sum {acc w : Int32} : mo_adj dy kd oa cm qt po pd pv w64 mn c kp acc w til = mo_sum dy mn c til (aH kd oa cm qt po pd pv w64 kp til acc w) := by
  unfold mo_adj aH
  by_cases h : mo_price po pd pv kp w til < 0
  · rw [if_pos h]
    unfold mo_sum
    symm
    refine ms_0 (fun t _ => ?_)
    split
    · exact ms_0 (fun k _ => rfl)
    · rfl
  · rw [if_neg h]
    simp only [if_neg h]
    unfold mo_sum
    rw [← ms_mul, ← ms_sub]
    refine ms_c (fun t _ => ?_)
    by_cases h2 : dy t ≤ til
    · simp only [if_pos h2]
      rw [← ms_mul, ← ms_sub]
    · simp only [if_neg h2]
      rw [Int64.zero_mul, Int64.sub_self]
theorem aH_0 {acc w : Int32} {p : Nat} (h : ¬ ((kd p = 1 ∨ kd p = 2) ∧ oa p = acc ∧ cm p = w)) : aH kd oa cm qt po pd pv w64 kp til acc w p = 0 := by
  unfold aH mo_gu mo_gs
  rw [if_neg h, if_neg h]
  split
  · rfl
  · rw [Int64.zero_mul, Int64.sub_self]
theorem aH_1 {acc : Int32} {p : Nat} (hpr : pr_ok po pv kp) (h1 : kd p = 1 ∨ kd p = 2) (h2 : oa p = acc) (hw : w64 p = (wt p).toInt64) : aH kd oa cm qt po pd pv w64 kp til acc (cm p) p = aV kd cm qt po pd pv wt kp til p := by
  unfold aH aV mo_gu mo_gs chg
  have hh : (kd p = 1 ∨ kd p = 2) ∧ oa p = acc ∧ cm p = cm p := ⟨h1, h2, rfl⟩
  rw [if_pos hh, if_pos hh, hw]
  have e := price_m1 (pd := pd) (w := cm p) (til := til) hpr
  by_cases h : mo_price po pd pv kp (cm p) til = -1
  · rw [if_pos h, if_pos (e.mpr h)]
  · rw [if_neg h, if_neg (fun h3 => h (e.mp h3))]
    rcases h1 with h1 | h1
    · rw [if_pos h1, if_neg (by rw [h1]; decide)]
    · rw [if_neg (by rw [h1]; decide), if_pos h1]
def S4 (F : Int32 → Int64) : Int64 := F 1 + F 2 + F 3 + F 4
theorem adj_pt {a p : Nat} (hpr : pr_ok po pv kp) (hc : cm_ok (kd p) (cm p)) (ho : oa p = nI a ↔ ou p = a) (hw : w64 p = (wt p).toInt64) :
    S4 (fun w => aH kd oa cm qt po pd pv w64 kp til (nI a) w p) = if ou p = a then aV kd cm qt po pd pv wt kp til p else 0 := by
  unfold S4
  dsimp only
  have z : ∀ w, ¬ cm p = w → aH kd oa cm qt po pd pv w64 kp til (nI a) w p = 0 := fun w h => aH_0 (fun h2 => h h2.2.2)
  rcases hc with ⟨k1, c1, c2⟩ | ⟨k1, c1⟩
  · by_cases h : ou p = a
    · rw [if_pos h, ← aH_1 (acc := nI a) hpr k1 (ho.mpr h) hw]
      rcases cm_in c1 c2 with e | e | e | e <;> rw [e]
      · rw [z 2 (by rw [e]; decide), z 3 (by rw [e]; decide), z 4 (by rw [e]; decide), Int64.add_zero, Int64.add_zero, Int64.add_zero]
      · rw [z 1 (by rw [e]; decide), z 3 (by rw [e]; decide), z 4 (by rw [e]; decide), Int64.add_zero, Int64.add_zero, Int64.zero_add]
      · rw [z 1 (by rw [e]; decide), z 2 (by rw [e]; decide), z 4 (by rw [e]; decide), Int64.add_zero, Int64.add_zero, Int64.zero_add]
      · rw [z 1 (by rw [e]; decide), z 2 (by rw [e]; decide), z 3 (by rw [e]; decide), Int64.add_zero, Int64.add_zero, Int64.zero_add]
    · rw [if_neg h]
      have y : ∀ w, aH kd oa cm qt po pd pv w64 kp til (nI a) w p = 0 := fun w => aH_0 (fun h2 => h (ho.mp h2.2.1))
      rw [y, y, y, y]
      rfl
  · have y : ∀ w, aH kd oa cm qt po pd pv w64 kp til (nI a) w p = 0 := fun w => aH_0 (fun h2 => k1 h2.1)
    rw [y, y, y, y]
    split
    · unfold aV
      rw [c1, price_0 hpr, if_pos rfl]
      rfl
    · rfl
theorem S4_sum {g : Int32 → Nat → Int64} : S4 (fun w => mo_sum dy mn c til (g w)) = mo_sum dy mn c til (fun p => S4 (fun w => g w p)) := by
  have e : ∀ f1 f2 : Nat → Int64, mo_sum dy mn c til f1 + mo_sum dy mn c til f2 = mo_sum dy mn c til (fun p => f1 p + f2 p) := fun f1 f2 => by
    unfold mo_sum
    rw [← ms_add]
    refine ms_c (fun t _ => ?_)
    by_cases h2 : dy t ≤ til
    · simp only [if_pos h2]
      rw [← ms_add]
    · simp only [if_neg h2]
      exact Int64.add_zero 0
  unfold S4
  dsimp only
  rw [e, e, e]
/-- the adjustments of an account: the class's sum over the postings is the reference's over the commodities -/
theorem adj_eq {a : Nat} (ha : a < 24) (hna : na ≤ 24) (hs : srt dy c) (hpr : pr_ok po pv kp) (ho : ∀ t k, t < c → k < mn t → oa (6 * t + k) = nI (ou (6 * t + k)) ∧ ou (6 * t + k) < na) (hw : ∀ t k, t < c → k < mn t → w64 (6 * t + k) = (wt (6 * t + k)).toInt64) (hc : ∀ t k, t < c → k < mn t → cm_ok (kd (6 * t + k)) (cm (6 * t + k))) :
    sJ (fun _ => 0) mn ou (aV kd cm qt po pd pv wt kp til) (mo_at dy til c) a = S4 (fun w => mo_adj dy kd oa cm qt po pd pv w64 mn c kp (nI a) w til) := by
  have e : (fun w => mo_adj dy kd oa cm qt po pd pv w64 mn c kp (nI a) w til) = fun w => mo_sum dy mn c til (aH kd oa cm qt po pd pv w64 kp til (nI a) w) := funext fun w => adj_sum
  rw [e, S4_sum]
  unfold sJ
  rw [js_sum hs, Int64.zero_add]
  refine mo_sum_c (fun t k ht hk => ?_)
  obtain ⟨h1, h2⟩ := ho t k ht hk
  exact (adj_pt hpr (hc t k ht hk) (by rw [h1]; exact nI_eq (by omega) (by omega)) (hw t k ht hk)).symm
/-- they stay when the journal and the prices stay up to the day -/
theorem adj_c {dy2 kd2 oa2 cm2 qt2 po2 pd2 pv2 : Nat → Int32} {w2 : Nat → Int64} {mn2 : Nat → Nat} {c2 kp2 : Nat} {acc : Int32} (hp : ∀ w, mo_price po2 pd2 pv2 kp2 w til = mo_price po pd pv kp w til) (hsum : ∀ g2 g : Nat → Int64, (∀ p, (kd2 p = kd p ∧ oa2 p = oa p ∧ cm2 p = cm p ∧ qt2 p = qt p ∧ w2 p = w64 p) → g2 p = g p) → mo_sum dy2 mn2 c2 til g2 = mo_sum dy mn c til g) (w : Int32) :
    mo_adj dy2 kd2 oa2 cm2 qt2 po2 pd2 pv2 w2 mn2 c2 kp2 acc w til = mo_adj dy kd oa cm qt po pd pv w64 mn c kp acc w til := by
  rw [adj_sum, adj_sum]
  refine hsum _ _ (fun p ⟨h1, h2, h3, h4, h5⟩ => ?_)
  unfold aH mo_gu mo_gs
  rw [hp, h1, h2, h3, h4, h5]
end
/-- the first step of a closing -/
theorem cl1_f (g : Nat → Int64) (k a : Nat) (D : Int64) : cl1 g k a D = fun j => g j + (if j = 24 * k + a then D else 0) - (if j = 24 * k + 5 then D else 0) := by
  funext j
  unfold cl1 vp_updL
  by_cases h1 : j = 24 * k + 5
  · rw [if_pos h1, if_pos h1]
    by_cases h2 : 24 * k + 5 = 24 * k + a
    · rw [if_pos h2, if_pos (h1.trans h2), h1, ← h2]
    · rw [if_neg h2, if_neg (fun h => h2 (h1.symm.trans h)), h1, Int64.add_zero]
  · rw [if_neg h1, if_neg h1, Int64.sub_zero]
    by_cases h2 : j = 24 * k + a
    · rw [if_pos h2, if_pos h2, h2]
    · rw [if_neg h2, if_neg h2, Int64.add_zero]
theorem rv1_f (A lj : Nat → Int64) (a : Nat) (D : Nat → Int64) : rv1 A lj a D = fun j => D j + (if j = a then A a - lj a else 0) - (if j = 5 then A a - lj a else 0) := by
  funext j
  unfold rv1 vp_updL
  by_cases h1 : j = 5
  · rw [if_pos h1, if_pos h1]
    by_cases h2 : 5 = a
    · rw [if_pos h2, if_pos (h1.trans h2), h1, ← h2]
    · rw [if_neg h2, if_neg (fun h => h2 (h1.symm.trans h)), h1, Int64.add_zero]
  · rw [if_neg h1, if_neg h1, Int64.sub_zero]
    by_cases h2 : j = a
    · rw [if_pos h2, if_pos h2, h2]
    · rw [if_neg h2, if_neg h2, Int64.add_zero]
theorem clW_f (D : Nat → Nat → Int64) (k a : Nat) (g : Nat → Int64) : clW D k a g 4 = fun j => g j + (if j = 24 * k + a then D a 1 + D a 2 + D a 3 + D a 4 else 0) - (if j = 24 * k + 5 then D a 1 + D a 2 + D a 3 + D a 4 else 0) := by
  show cl1 (cl1 (cl1 (cl1 g k a (D a 1)) k a (D a 2)) k a (D a 3)) k a (D a 4) = _
  rw [cl1_f, cl1_f, cl1_f, cl1_f]
  funext j
  dsimp only
  by_cases h1 : j = 24 * k + a
  · simp only [if_pos h1]
    by_cases h2 : j = 24 * k + 5
    · simp only [if_pos h2]
      grind
    · simp only [if_neg h2]
      grind
  · simp only [if_neg h1]
    by_cases h2 : j = 24 * k + 5
    · simp only [if_pos h2]
      grind
    · simp only [if_neg h2]
      grind
theorem clZ_f {g : Nat → Int64} {k : Nat} : ∀ n, (∀ j, j < n → clZ g k n (24 * k + j) = 0) ∧ ∀ i, i < 24 * k → clZ g k n i = g i
  | 0 => ⟨fun j h => by omega, fun _ _ => rfl⟩
  | n + 1 => by
    obtain ⟨h1, h2⟩ := clZ_f (g := g) (k := k) n
    refine ⟨fun j hj => ?_, fun i hi => ?_⟩
    · rw [clZ]
      by_cases e : j = n
      · rw [e, pk_uLs]
      · rw [pk_uLn (by omega)]; exact h1 j (by omega)
    · rw [clZ, pk_uLn (by omega)]; exact h2 i hi
theorem clA_eq {D : Nat → Nat → Int64} {k : Nat} {g : Nat → Int64} {A lj D0 : Nat → Int64} (h0 : ∀ j, j < 24 → g (24 * k + j) = D0 j) (hD : ∀ a, a < 24 → D a 1 + D a 2 + D a 3 + D a 4 = A a - lj a) :
    ∀ a, a ≤ 24 → (∀ j, j < 24 → clA D k g a (24 * k + j) = rvI A lj D0 a j) ∧ ∀ i, i < 24 * k → clA D k g a i = g i
  | 0, _ => ⟨h0, fun _ _ => rfl⟩
  | a + 1, ha => by
    obtain ⟨h1, h2⟩ := clA_eq h0 hD a (by omega)
    refine ⟨fun j hj => ?_, fun i hi => ?_⟩
    · rw [clA, rvI, clW_f, rv1_f]
      dsimp only
      rw [h1 j hj, hD a (by omega)]
      by_cases e1 : j = a
      · by_cases e2 : j = 5
        · rw [if_pos e1, if_pos e2, if_pos (by omega), if_pos (by omega)]
        · rw [if_pos e1, if_neg e2, if_pos (by omega), if_neg (by omega)]
      · by_cases e2 : j = 5
        · rw [if_neg e1, if_pos e2, if_neg (by omega), if_pos (by omega)]
        · rw [if_neg e1, if_neg e2, if_neg (by omega), if_neg (by omega)]
    · rw [clA, clW_f]
      dsimp only
      rw [if_neg (by omega), if_neg (by omega), Int64.add_zero, Int64.sub_zero]
      exact h2 i hi
/-- the second step of a closing -/
theorem tf_eq {rt : Nat → Nat} {ki : Nat → Int32} {ow o : Nat → Int64} {k na : Nat} {ad1 adR D0 : Nat → Int64} (hna : na ≤ 24) (hk : ∀ a, a < na → ki a = nI (rt a) ∧ rt a < 5) (h0 : ∀ j, j < 24 → ad1 (24 * k + j) = D0 j) (hlow : ∀ i, i < 24 * k → ad1 i = adR i) (ho : ∀ a, a < na → o a = ow a + ms_s (fun j => adR (24 * j + a)) k) :
    ∀ a, a ≤ na → (∀ j, j < 24 → (tfI rt ow k ad1 a).2 (24 * k + j) = (crI ki o (D0, 0) a).1 j) ∧ (∀ i, i < 24 * k → (tfI rt ow k ad1 a).2 i = adR i) ∧ -(tfI rt ow k ad1 a).1 = (crI ki o (D0, 0) a).2
  | 0, _ => ⟨h0, hlow, show -(0 : Int64) = 0 by decide⟩
  | a + 1, ha => by
    obtain ⟨h1, h2, h3⟩ := tf_eq hna hk h0 hlow ho a (by omega)
    rw [tfI, crI]
    generalize tfI rt ow k ad1 a = S at h1 h2 h3 ⊢
    generalize crI ki o (D0, 0) a = T at h1 h3 ⊢
    obtain ⟨S1, S2⟩ := S
    obtain ⟨T1, T2⟩ := T
    dsimp only at h1 h2 h3
    unfold tf1 cr1
    obtain ⟨k1, k2⟩ := hk a (by omega)
    by_cases h : rt a < 3
    · rw [if_pos h, if_neg]
      · exact ⟨h1, h2, h3⟩
      · rw [k1]
        intro hh
        have n3 : nI (rt a) = nI 3 ∨ nI (rt a) = nI 4 := hh
        rw [nI_eq (by omega) (by omega), nI_eq (by omega) (by omega)] at n3
        omega
    · rw [if_neg h, if_pos]
      · dsimp only
        have es : ow a + ms_s (fun j => S2 (24 * j + a)) (k + 1) = o a + T1 a := by
          rw [ms_s, ms_c (g := fun j => adR (24 * j + a)) (fun j hj => h2 _ (by omega)), h1 a (by omega), ho a (by omega), Int64.add_assoc]
        rw [es, h1 a (by omega)]
        have u : ∀ (G : Nat → Int64) (i j : Nat) (v : Int64), vp_updL G i v j = if j = i then v else G j := fun _ _ _ _ => rfl
        refine ⟨fun j hj => ?_, fun i hi => ?_, ?_⟩
        · rw [u, u, u, u, u, u]
          by_cases e6 : j = 6
          · rw [if_pos (show 24 * k + j = 24 * k + 6 by omega), if_pos e6]
            by_cases ea : (6 : Nat) = a
            · rw [if_pos (show 24 * k + 6 = 24 * k + a by omega), if_pos ea]
            · rw [if_neg (show ¬ 24 * k + 6 = 24 * k + a by omega), if_neg ea, h1 6 (by omega)]
          · rw [if_neg (show ¬ 24 * k + j = 24 * k + 6 by omega), if_neg e6]
            by_cases ea : j = a
            · rw [if_pos (show 24 * k + j = 24 * k + a by omega), if_pos ea]
            · rw [if_neg (show ¬ 24 * k + j = 24 * k + a by omega), if_neg ea]
              exact h1 j hj
        · rw [pk_uLn (by omega), pk_uLn (by omega)]
          exact h2 i hi
        · rw [← h3]
          grind
      · rw [k1]
        have : rt a = 3 ∨ rt a = 4 := by omega
        rcases this with e | e
        · exact .inl (by rw [e]; rfl)
        · exact .inr (by rw [e]; rfl)
