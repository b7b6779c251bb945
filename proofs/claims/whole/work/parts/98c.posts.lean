section
variable {n : Nat} {f : Nat → va_E}
theorem up5_lo {g : Nat → Int32} {p j : Nat} {a b c d e : Int32} (h : j < p) : up5 g p a b c d e j = g j := by
  unfold up5
  rw [pk_un (by omega), pk_un (by omega), pk_un (by omega), pk_un (by omega), pk_un (by omega)]
theorem up5_0 {g : Nat → Int32} {p : Nat} {a b c d e : Int32} : up5 g p a b c d e p = a := by
  unfold up5
  rw [pk_un (by omega), pk_un (by omega), pk_un (by omega), pk_un (by omega), pk_us]
theorem up5_1 {g : Nat → Int32} {p : Nat} {a b c d e : Int32} : up5 g p a b c d e (p + 1) = b := by
  unfold up5
  rw [pk_un (by omega), pk_un (by omega), pk_un (by omega), pk_us]
theorem up5_2 {g : Nat → Int32} {p : Nat} {a b c d e : Int32} : up5 g p a b c d e (p + 2) = c := by
  unfold up5
  rw [pk_un (by omega), pk_un (by omega), pk_us]
theorem up5_3 {g : Nat → Int32} {p : Nat} {a b c d e : Int32} : up5 g p a b c d e (p + 3) = d := by
  unfold up5
  rw [pk_un (by omega), pk_us]
theorem up5_4 {g : Nat → Int32} {p : Nat} {a b c d e : Int32} : up5 g p a b c d e (p + 4) = e := by
  unfold up5
  rw [pk_us]
/-- one posting more: the class's cells -/
theorem post_C {jo nd na : Nat} {par us ki : Nat → Int32} {kp : Nat} {po pd pv : Nat → Int32} {kc : Nat} {ko ky kv : Nat → Int32} {k : Nat} {cd : Nat → Int32} {aj ad : Nat → Nat → Int64} {gn : Nat → Int64} {c : Nat} {mn : Nat → Nat} {dy kd oa cm qt am wt : Nat → Int32} {L : LC} {dd : Int32} {m : Nat} {dt : Nat → Int32} {px : Nat → Option Nat} {v0 v1 v2 v3 v4 : Int32} (h : CI n f jo nd na par us ki kp po pd pv kc ko ky kv k cd aj ad gn c mn dy kd oa cm qt am wt L true dd m dt) (hpx : f (nd + 1) = .inl (4, 6, .inr (.inr (.inr (.inr px))))) (hq : ∀ i, i < m → ∃ q, px i = some q ∧ nd + 2 ≤ q ∧ q < n ∧ f q = .inr (7, [.int (dt (5 * i)), .int (dt (5 * i + 1)), .int (dt (5 * i + 2)), .int (dt (5 * i + 3)), .int (dt (5 * i + 4))])) (hn2 : nd + 1 < n) :
    CI (n + 1) (jm_up (jm_up (jm_up f n (.inr (7, [.int v0, .int v1, .int v2, .int v3, .int v4]))) (nd + 1) (.inl (4, 6, .inr (.inr (.inr (.inr (va_up px m (some n)))))))) nd (.inr (10, [.int dd, .ref (nd + 1), .int (nI (m + 1))]))) jo nd na par us ki kp po pd pv kc ko ky kv k cd aj ad gn c mn dy kd oa cm qt am wt L true dd (m + 1) (up5 dt (5 * m) v0 v1 v2 v3 v4) := by
  generalize ef : jm_up (jm_up (jm_up f n (.inr (7, [.int v0, .int v1, .int v2, .int v3, .int v4]))) (nd + 1) (.inl (4, 6, .inr (.inr (.inr (.inr (va_up px m (some n)))))))) nd (.inr (10, [.int dd, .ref (nd + 1), .int (nI (m + 1))])) = f1
  obtain ⟨⟨b1, b2, b3, b4⟩, b5, b6, b7, b8, b9, b10, b11, b12, b13⟩ := h
  have e1 : ∀ j, j ≠ n ∧ j ≠ nd + 1 ∧ j ≠ nd → f1 j = f j := fun j hj => by
    rw [← ef, jm_up_n _ _ hj.2.2, jm_up_n _ _ hj.2.1, jm_up_n _ _ hj.1]
  have g0 : f1 nd = .inr (10, [.int dd, .ref (nd + 1), .int (nI (m + 1))]) := by
    rw [← ef, jm_up_s]
  have g1 : f1 (nd + 1) = .inl (4, 6, .inr (.inr (.inr (.inr (va_up px m (some n)))))) := by
    rw [← ef, jm_up_n _ _ (by omega), jm_up_s]
  have g2 : f1 n = .inr (7, [.int v0, .int v1, .int v2, .int v3, .int v4]) := by
    rw [← ef, jm_up_n _ _ (by omega), jm_up_n _ _ (by omega), jm_up_s]
  refine ⟨⟨b1, by omega, ?_, b4⟩, c0_fr (e1 0 (by omega)) b5, cA_fr (fun j _ _ => e1 j (by omega)) b6, cP_fr (fun j _ _ => e1 j (by omega)) b7, cK_fr (fun j _ _ => e1 j (by omega)) b8, cC_fr (e1 13 (by omega)) (e1 14 (by omega)) (Nat.le_refl nd) (fun j h1 _ => e1 j (by omega)) b9, cS_fr (fun j _ _ => e1 j (by omega)) b10, cJ_fr b4 (fun j _ _ => e1 j (by omega)) (Nat.le_refl nd) (fun j h1 _ => e1 j (by omega)) b11, cT_fr b4 (fun j _ _ => e1 j (by omega)) b12, fun _ => ⟨by omega, g0, _, g1, ?_⟩⟩
  · intro j h1 h2
    by_cases q1 : j = n
    · rw [q1, g2]; exact Nat.le_of_ble_eq_true rfl
    · by_cases q2 : j = nd + 1
      · rw [q2, g1]; exact Nat.le_of_ble_eq_true rfl
      · by_cases q3 : j = nd
        · rw [q3, g0]; exact Nat.le_of_ble_eq_true rfl
        · rw [e1 j ⟨q1, q2, q3⟩]; exact b3 j h1 (by omega)
  · intro i hi
    by_cases q1 : i = m
    · subst q1
      refine ⟨n, if_pos rfl, by omega, by omega, ?_⟩
      rw [g2, up5_0, up5_1, up5_2, up5_3, up5_4]
    · obtain ⟨q, c1, c2, c3, c4⟩ := hq i (by omega)
      refine ⟨q, (if_neg q1).trans c1, c2, by omega, ?_⟩
      rw [e1 q (by omega), c4, up5_lo (by omega), up5_lo (by omega), up5_lo (by omega), up5_lo (by omega), up5_lo (by omega)]
theorem post_q {na k c m : Nat} {cd dt : Nat → Int32} {dd v0 v1 v2 v3 v4 : Int32} (h : qD na k cd c true dd m dt) (hm : m < 6) (hp : pst na v0 v1 v2 v3 v4) : qD na k cd c true dd (m + 1) (up5 dt (5 * m) v0 v1 v2 v3 v4) := by
  obtain ⟨h1, h2⟩ := h
  obtain ⟨h3, h4, h5⟩ := h2 rfl
  refine ⟨by omega, fun _ => ⟨h3, h4, fun i hi => ?_⟩⟩
  by_cases q1 : i = m
  · rw [q1, up5_0, up5_1, up5_2, up5_3, up5_4]; exact hp
  · rw [up5_lo (by omega), up5_lo (by omega), up5_lo (by omega), up5_lo (by omega), up5_lo (by omega)]; exact h5 i (by omega)
theorem can_iff {na m : Nat} {us : Nat → Int32} {dd x : Int32} (hm : m ≤ 6) : mo_can na us (b2i true) dd m x ↔ (¬ m = 6 ∧ 0 ≤ x ∧ x < nI na ∧ us x.toNatClampNeg ≤ dd) := by
  have e : nI m < 6 ↔ ¬ m = 6 := by
    have := nI_ltI (a := m) (b := 6) (by omega) (by omega)
    constructor
    · intro h h2
      have := this.mp h
      omega
    · intro h
      exact this.mpr (by omega)
  constructor
  · intro ⟨_, h2, h3, h4⟩
    exact ⟨e.mp h2, h3.1, h3.2, h4⟩
  · intro ⟨h1, h2, h3, h4⟩
    exact ⟨by decide, e.mpr h1, ⟨h2, h3⟩, h4⟩
theorem hold_iff {na m : Nat} {par us ki : Nat → Int32} {P : Nat → Nat} {dd x y z : Int32} (hm : m ≤ 6) (hA : qA na par ki P) : mo_hold P na us (b2i true) dd m x y z ↔ (decide (¬ m = 6 ∧ 0 ≤ x ∧ x < nI na ∧ us x.toNatClampNeg ≤ dd) && decide (ki x.toNatClampNeg = 0 ∧ (1 ≤ y ∧ y ≤ 4) ∧ 1 ≤ z ∧ z ≤ 1000)) = true := by
  unfold mo_hold
  rw [can_iff hm, Bool.and_eq_true, decide_eq_true_eq, decide_eq_true_eq]
  have e : (0 ≤ x ∧ x < nI na) → (ki x.toNatClampNeg = 0 ↔ tr_root P x.toNatClampNeg = 0) := fun hx => by
    obtain ⟨a, ha, rfl⟩ := ix_of hA.2.2.1 hx
    have ha24 := hA.2.2.1
    rw [nI_clamp (by omega), hA.2.2.2 a ha]
    have hr : tr_root P a < 2 ^ 31 := by
      have := tr_root_lt hA.1.1 (a + 1) a (by omega) ha
      omega
    exact nI_eq (b := 0) hr (by omega)
  constructor
  · intro ⟨h1, h2, h3, h4, h5, h6⟩
    exact ⟨h1, (e ⟨h1.2.1, h1.2.2.1⟩).mpr h2, ⟨h3, h4⟩, h5, h6⟩
  · intro ⟨h1, h2, h3, h5, h6⟩
    exact ⟨h1, (e ⟨h1.2.1, h1.2.2.1⟩).mp h2, h3.1, h3.2, h5, h6⟩
theorem le_t {x y : Int32} (h : x ≤ y) : x.toInt ≤ y.toInt := Int32.le_iff_toInt_le.mp h
theorem hrR_iff {kd : Nat → Int32} : ∀ {r i : Nat}, hrR kd i r = true ↔ ∃ j, i ≤ j ∧ j < i + r ∧ kd j = 3
  | 0, i => by
    constructor
    · intro h; cases h
    · intro ⟨j, h1, h2, _⟩; omega
  | r + 1, i => by
    rw [hrR, Bool.or_eq_true, decide_eq_true_eq, hrR_iff]
    constructor
    · rintro (h | ⟨j, h1, h2, h3⟩)
      · exact ⟨i, by omega, by omega, h⟩
      · exact ⟨j, by omega, by omega, h3⟩
    · intro ⟨j, h1, h2, h3⟩
      by_cases e : j = i
      · exact .inl (e ▸ h3)
      · exact .inr ⟨j, by omega, by omega, h3⟩
theorem op_money (h : inv n f) (x y : Int32) : OpI 3 88 [.int x, .int y] n f := by
  have hI := h
  obtain ⟨jo, nd, na, par, us, ki, P, kp, po, pd, pv, kc, ko, ky, kv, ka, k, cd, aj, ad, gn, c, mn, dy, kd, oa, cm, qt, am, wt, L, dr, dd, m, dt, hC, hR, hPI⟩ := h
  have hCC := hC
  have hRR := hR
  obtain ⟨⟨hnd, hndn, hdy, hjo⟩, h0, ⟨x1, x2, x3, x4⟩, ⟨x5, x6, x7, x8⟩, ⟨x9, x10, x11, x12⟩, ⟨x13, cx, x14, hcl⟩, ⟨x15, og, wg, sg, x16, x17, x18⟩, ⟨tx, hJS, hjr⟩, hT, hDr⟩ := hC
  have hJS2 := hJS
  obtain ⟨j0, j1, j2, j3, j4, j5, j6, j7⟩ := hJS
  obtain ⟨fs, xf, ma, w64, lo, lc, lq, lk, pr, adR, pa, r35, hs, hsc, ⟨a36, a37, a38, a39, a40, a41, a42, a43, a44, a45, a46, a47, a48, a49, a50, a51, a52, a53, a54, a55, a56, a57, a58, a59, a60⟩, hma, hw, hsm, hpr, had⟩ := hR
  have hsc2 := hsc
  obtain ⟨s0, s3, s12, s13, s14, s16, s21, s22, s26, s30⟩ := hsc
  have hPI2 := hPI
  obtain ⟨hqA, hqP, hqK, hqC, hqJ, hqD, hX⟩ := hPI
  have hqA2 := hqA
  have hqP2 := hqP
  have hqK2 := hqK
  have hqC2 := hqC
  have hqJ2 := hqJ
  have hqD2 := hqD
  obtain ⟨hP, hna7, hna, hki⟩ := hqA
  obtain ⟨hkp, hdis, hprok⟩ := hqP
  obtain ⟨hkc, hka⟩ := hqK
  obtain ⟨hk, hcd⟩ := hqC
  obtain ⟨hc, hmn, hsr, hps, hbk, hL⟩ := hqJ
  obtain ⟨hm, hdr⟩ := hqD
  have hn : 61 ≤ n := by omega
  have ho : ∀ t k, t < c → k < mn t → oa (6 * t + k) = nI ((fun p => (oa p).toNatClampNeg) (6 * t + k)) ∧ (fun p => (oa p).toNatClampNeg) (6 * t + k) < na := fun t k h1 h2 => pst_ou hna (hps t k h1 h2)
  have hjrn : jr n f tx c mn dy kd oa cm qt am := jr_mono hndn (fun _ _ _ => rfl) hjr
  have hcln : cls n f cx k cd aj ad gn := cls_mono hndn (fun _ _ _ => rfl) hcl
  have hm41 : ∀ t, t < c → ma t = nI (mn t) ∧ mn t ≤ 6 := fun t ht => ⟨hma t ht, hmn t ht⟩
  cases dr with
  | false =>
    exact ⟨9, _, n, f, n, f, c_B_money_no (d := 6) hn h0 (b := false) (c_B_canPost_null 6 hn h0) (fun h => by cases h.1), c_M_money_no 6 hn r35 hs s0 a37 hna s12 s13 s14 (fun h => h.1.1 rfl), by omega, ⟨by omega, fs, r35⟩, hI⟩
  | true =>
    obtain ⟨d1, d2, px, d3, d4⟩ := hDr rfl
    have hcp0 := c_B_canPost (x := x) 6 hn h0 (by omega) d2 hm x1 x4 hna
    have hcp := hcp0
    by_cases hx : (¬ m = 6 ∧ 0 ≤ x ∧ x < nI na ∧ us x.toNatClampNeg ≤ dd) ∧ ¬ y = 0 ∧ -1000000 ≤ y ∧ y ≤ 1000000
    · rw [decide_eq_true hx.1] at hcp
      have hb := c_B_money (d := 6) hn h0 hnd (by omega) d2 (by omega) d1 d3 (show m < 6 by have := hx.1.1; omega) (by omega) hcp hx.2.1 hx.2.2
      have hC1 := post_C (v0 := 0) (v1 := x) (v2 := 0) (v3 := 0) (v4 := y) hCC d3 d4 d1
      generalize ef : jm_up (jm_up (jm_up f n (.inr (7, [.int 0, .int x, .int 0, .int 0, .int y]))) (nd + 1) (.inl (4, 6, .inr (.inr (.inr (.inr (va_up px m (some n)))))))) nd (.inr (10, [.int dd, .ref (nd + 1), .int (nI (m + 1))])) = f1 at hb hC1
      have e1 : ∀ j, j < 61 → f1 j = f j := fun j hj => by
        rw [← ef, jm_up_n _ _ (by omega), jm_up_n _ _ (by omega), jm_up_n _ _ (by omega)]
      have hr := c_M_money 6 (show 61 ≤ n + 1 by omega) ((e1 35 (by omega)).trans r35) hs s0 ((e1 37 (by omega)).trans a37) hna s12 s13 s14 ((e1 46 (by omega)).trans a46) hm ((can_iff hm).mpr hx.1) hx.2.1 hx.2.2.1 hx.2.2.2
      obtain ⟨a, ha, hxa⟩ := ix_of hna ⟨hx.1.2.1, hx.1.2.2.1⟩
      refine ⟨9, _, n + 1, f1, n + 1, _, hb, hr, by omega, ⟨by omega, fs, (e1 35 (by omega)).trans r35⟩, jo, nd, na, par, us, ki, P, kp, po, pd, pv, kc, ko, ky, kv, ka, k, cd, aj, ad, gn, c, mn, dy, kd, oa, cm, qt, am, wt, L, true, dd, m + 1, up5 dt (5 * m) 0 x 0 0 y, CI_fr (fun j hj => by unfold mo_posted; rw [jm_up_n _ _ (by omega), jm_up_n _ _ (by omega)]) hC1, ?_, hqA2, hqP2, hqK2, hqC2, hqJ2, post_q hqD2 (show m < 6 by have := hx.1.1; omega) ⟨⟨a, ha, hxa⟩, .inl ⟨rfl, le_t hx.2.2.1, le_t hx.2.2.2⟩, .inr ⟨by decide, rfl⟩⟩, hX⟩
      exact ⟨_, xf, ma, w64, lo, lc, lq, lk, pr, adR, pa, rfl, mo_st_set hs (by decide), sc_14 hs hsc2 (m + 1), ⟨(e1 36 (by omega)).trans a36, (e1 37 (by omega)).trans a37, (e1 38 (by omega)).trans a38, (e1 39 (by omega)).trans a39, (e1 40 (by omega)).trans a40, (e1 41 (by omega)).trans a41, (e1 42 (by omega)).trans a42, (e1 43 (by omega)).trans a43, (e1 44 (by omega)).trans a44, (e1 45 (by omega)).trans a45, rfl, (e1 47 (by omega)).trans a47, (e1 48 (by omega)).trans a48, (e1 49 (by omega)).trans a49, (e1 50 (by omega)).trans a50, (e1 51 (by omega)).trans a51, (e1 52 (by omega)).trans a52, (e1 53 (by omega)).trans a53, (e1 54 (by omega)).trans a54, (e1 55 (by omega)).trans a55, (e1 56 (by omega)).trans a56, (e1 57 (by omega)).trans a57, (e1 58 (by omega)).trans a58, (e1 59 (by omega)).trans a59, (e1 60 (by omega)).trans a60⟩, hma, hw, hsm, hpr, had⟩
    · exact ⟨9, _, n, f, n, f, c_B_money_no (d := 6) hn h0 hcp (fun h => hx ⟨of_decide_eq_true h.1, h.2⟩), c_M_money_no 6 hn r35 hs s0 a37 hna s12 s13 s14 (fun h => hx ⟨(can_iff hm).mp h.1, h.2⟩), by omega, ⟨by omega, fs, r35⟩, hI⟩
theorem op_acquire (h : inv n f) (x y z w : Int32) : OpI 4 90 [.int x, .int y, .int z, .int w] n f := by
  have hI := h
  obtain ⟨jo, nd, na, par, us, ki, P, kp, po, pd, pv, kc, ko, ky, kv, ka, k, cd, aj, ad, gn, c, mn, dy, kd, oa, cm, qt, am, wt, L, dr, dd, m, dt, hC, hR, hPI⟩ := h
  have hCC := hC
  have hRR := hR
  obtain ⟨⟨hnd, hndn, hdy, hjo⟩, h0, ⟨x1, x2, x3, x4⟩, ⟨x5, x6, x7, x8⟩, ⟨x9, x10, x11, x12⟩, ⟨x13, cx, x14, hcl⟩, ⟨x15, og, wg, sg, x16, x17, x18⟩, ⟨tx, hJS, hjr⟩, hT, hDr⟩ := hC
  have hJS2 := hJS
  obtain ⟨j0, j1, j2, j3, j4, j5, j6, j7⟩ := hJS
  obtain ⟨fs, xf, ma, w64, lo, lc, lq, lk, pr, adR, pa, r35, hs, hsc, ⟨a36, a37, a38, a39, a40, a41, a42, a43, a44, a45, a46, a47, a48, a49, a50, a51, a52, a53, a54, a55, a56, a57, a58, a59, a60⟩, hma, hw, hsm, hpr, had⟩ := hR
  have hsc2 := hsc
  obtain ⟨s0, s3, s12, s13, s14, s16, s21, s22, s26, s30⟩ := hsc
  have hPI2 := hPI
  obtain ⟨hqA, hqP, hqK, hqC, hqJ, hqD, hX⟩ := hPI
  have hqA2 := hqA
  have hqP2 := hqP
  have hqK2 := hqK
  have hqC2 := hqC
  have hqJ2 := hqJ
  have hqD2 := hqD
  obtain ⟨hP, hna7, hna, hki⟩ := hqA
  obtain ⟨hkp, hdis, hprok⟩ := hqP
  obtain ⟨hkc, hka⟩ := hqK
  obtain ⟨hk, hcd⟩ := hqC
  obtain ⟨hc, hmn, hsr, hps, hbk, hL⟩ := hqJ
  obtain ⟨hm, hdr⟩ := hqD
  have hn : 61 ≤ n := by omega
  have ho : ∀ t k, t < c → k < mn t → oa (6 * t + k) = nI ((fun p => (oa p).toNatClampNeg) (6 * t + k)) ∧ (fun p => (oa p).toNatClampNeg) (6 * t + k) < na := fun t k h1 h2 => pst_ou hna (hps t k h1 h2)
  have hjrn : jr n f tx c mn dy kd oa cm qt am := jr_mono hndn (fun _ _ _ => rfl) hjr
  have hcln : cls n f cx k cd aj ad gn := cls_mono hndn (fun _ _ _ => rfl) hcl
  have hm41 : ∀ t, t < c → ma t = nI (mn t) ∧ mn t ≤ 6 := fun t ht => ⟨hma t ht, hmn t ht⟩
  cases dr with
  | false =>
    exact ⟨9, _, n, f, n, f, c_B_acquire_no (d := 5) hn h0 (b := false) (c_B_canPostLots (d := 5) (b := false) hn h0 x1 x3 hna (c_B_canPost_null 5 hn h0) (fun h => by cases h)) (fun h => by cases h.1), c_M_acquire_no 5 hn r35 hs s0 a36 hP a37 hna s12 s13 s14 (fun h => h.1.1.1 rfl), by omega, ⟨by omega, fs, r35⟩, hI⟩
  | true =>
    obtain ⟨d1, d2, px, d3, d4⟩ := hDr rfl
    have hcp0 := c_B_canPost (x := x) 5 hn h0 (by omega) d2 hm x1 x4 hna
    have hcp := c_B_canPostLots (d := 5) (x := x) (y := y) (z := z) hn h0 x1 x3 hna hcp0 (fun hb => ⟨(of_decide_eq_true hb).2.1, (of_decide_eq_true hb).2.2.1⟩)
    by_cases hx : (decide (¬ m = 6 ∧ 0 ≤ x ∧ x < nI na ∧ us x.toNatClampNeg ≤ dd) && decide (ki x.toNatClampNeg = 0 ∧ (1 ≤ y ∧ y ≤ 4) ∧ 1 ≤ z ∧ z ≤ 1000)) = true ∧ 0 ≤ w ∧ w ≤ 1000000
    · rw [hx.1] at hcp
      have hh := (hold_iff hm hqA2).mpr hx.1
      have hc1 := (can_iff hm).mp hh.1
      have hb := c_B_acquire (d := 5) hn h0 hnd (by omega) d2 (by omega) d1 d3 (show m < 6 by have := hc1.1; omega) (by omega) hcp hx.2
      have hC1 := post_C (v0 := 1) (v1 := x) (v2 := y) (v3 := z) (v4 := w) hCC d3 d4 d1
      generalize ef : jm_up (jm_up (jm_up f n (.inr (7, [.int 1, .int x, .int y, .int z, .int w]))) (nd + 1) (.inl (4, 6, .inr (.inr (.inr (.inr (va_up px m (some n)))))))) nd (.inr (10, [.int dd, .ref (nd + 1), .int (nI (m + 1))])) = f1 at hb hC1
      have e1 : ∀ j, j < 61 → f1 j = f j := fun j hj => by
        rw [← ef, jm_up_n _ _ (by omega), jm_up_n _ _ (by omega), jm_up_n _ _ (by omega)]
      have hr := c_M_acquire 5 (show 61 ≤ n + 1 by omega) ((e1 35 (by omega)).trans r35) hs s0 ((e1 36 (by omega)).trans a36) hP ((e1 37 (by omega)).trans a37) hna s12 s13 s14 ((e1 46 (by omega)).trans a46) hm hh hx.2.1 hx.2.2
      obtain ⟨a, ha, hxa⟩ := ix_of hna ⟨hc1.2.1, hc1.2.2.1⟩
      refine ⟨9, _, n + 1, f1, n + 1, _, hb, hr, by omega, ⟨by omega, fs, (e1 35 (by omega)).trans r35⟩, jo, nd, na, par, us, ki, P, kp, po, pd, pv, kc, ko, ky, kv, ka, k, cd, aj, ad, gn, c, mn, dy, kd, oa, cm, qt, am, wt, L, true, dd, m + 1, up5 dt (5 * m) 1 x y z w, CI_fr (fun j hj => by unfold mo_posted; rw [jm_up_n _ _ (by omega), jm_up_n _ _ (by omega)]) hC1, ?_, hqA2, hqP2, hqK2, hqC2, hqJ2, post_q hqD2 (show m < 6 by have := hc1.1; omega) ⟨⟨a, ha, hxa⟩, .inr (.inl ⟨rfl, le_t hh.2.2.2.2.1, le_t hh.2.2.2.2.2, le_t hx.2.1, le_t hx.2.2⟩), .inl ⟨.inl rfl, hh.2.2.1, hh.2.2.2.1⟩⟩, hX⟩
      exact ⟨_, xf, ma, w64, lo, lc, lq, lk, pr, adR, pa, rfl, mo_st_set hs (by decide), sc_14 hs hsc2 (m + 1), ⟨(e1 36 (by omega)).trans a36, (e1 37 (by omega)).trans a37, (e1 38 (by omega)).trans a38, (e1 39 (by omega)).trans a39, (e1 40 (by omega)).trans a40, (e1 41 (by omega)).trans a41, (e1 42 (by omega)).trans a42, (e1 43 (by omega)).trans a43, (e1 44 (by omega)).trans a44, (e1 45 (by omega)).trans a45, rfl, (e1 47 (by omega)).trans a47, (e1 48 (by omega)).trans a48, (e1 49 (by omega)).trans a49, (e1 50 (by omega)).trans a50, (e1 51 (by omega)).trans a51, (e1 52 (by omega)).trans a52, (e1 53 (by omega)).trans a53, (e1 54 (by omega)).trans a54, (e1 55 (by omega)).trans a55, (e1 56 (by omega)).trans a56, (e1 57 (by omega)).trans a57, (e1 58 (by omega)).trans a58, (e1 59 (by omega)).trans a59, (e1 60 (by omega)).trans a60⟩, hma, hw, hsm, hpr, had⟩
    · exact ⟨9, _, n, f, n, f, c_B_acquire_no (d := 5) hn h0 hcp hx, c_M_acquire_no 5 hn r35 hs s0 a36 hP a37 hna s12 s13 s14 (fun h => hx ⟨(hold_iff hm hqA2).mp h.1, h.2⟩), by omega, ⟨by omega, fs, r35⟩, hI⟩
theorem op_release (h : inv n f) (x y z w : Int32) : OpI 5 91 [.int x, .int y, .int z, .int w] n f := by
  have hI := h
  obtain ⟨jo, nd, na, par, us, ki, P, kp, po, pd, pv, kc, ko, ky, kv, ka, k, cd, aj, ad, gn, c, mn, dy, kd, oa, cm, qt, am, wt, L, dr, dd, m, dt, hC, hR, hPI⟩ := h
  have hCC := hC
  have hRR := hR
  obtain ⟨⟨hnd, hndn, hdy, hjo⟩, h0, ⟨x1, x2, x3, x4⟩, ⟨x5, x6, x7, x8⟩, ⟨x9, x10, x11, x12⟩, ⟨x13, cx, x14, hcl⟩, ⟨x15, og, wg, sg, x16, x17, x18⟩, ⟨tx, hJS, hjr⟩, hT, hDr⟩ := hC
  have hJS2 := hJS
  obtain ⟨j0, j1, j2, j3, j4, j5, j6, j7⟩ := hJS
  obtain ⟨fs, xf, ma, w64, lo, lc, lq, lk, pr, adR, pa, r35, hs, hsc, ⟨a36, a37, a38, a39, a40, a41, a42, a43, a44, a45, a46, a47, a48, a49, a50, a51, a52, a53, a54, a55, a56, a57, a58, a59, a60⟩, hma, hw, hsm, hpr, had⟩ := hR
  have hsc2 := hsc
  obtain ⟨s0, s3, s12, s13, s14, s16, s21, s22, s26, s30⟩ := hsc
  have hPI2 := hPI
  obtain ⟨hqA, hqP, hqK, hqC, hqJ, hqD, hX⟩ := hPI
  have hqA2 := hqA
  have hqP2 := hqP
  have hqK2 := hqK
  have hqC2 := hqC
  have hqJ2 := hqJ
  have hqD2 := hqD
  obtain ⟨hP, hna7, hna, hki⟩ := hqA
  obtain ⟨hkp, hdis, hprok⟩ := hqP
  obtain ⟨hkc, hka⟩ := hqK
  obtain ⟨hk, hcd⟩ := hqC
  obtain ⟨hc, hmn, hsr, hps, hbk, hL⟩ := hqJ
  obtain ⟨hm, hdr⟩ := hqD
  have hn : 61 ≤ n := by omega
  have ho : ∀ t k, t < c → k < mn t → oa (6 * t + k) = nI ((fun p => (oa p).toNatClampNeg) (6 * t + k)) ∧ (fun p => (oa p).toNatClampNeg) (6 * t + k) < na := fun t k h1 h2 => pst_ou hna (hps t k h1 h2)
  have hjrn : jr n f tx c mn dy kd oa cm qt am := jr_mono hndn (fun _ _ _ => rfl) hjr
  have hcln : cls n f cx k cd aj ad gn := cls_mono hndn (fun _ _ _ => rfl) hcl
  have hm41 : ∀ t, t < c → ma t = nI (mn t) ∧ mn t ≤ 6 := fun t ht => ⟨hma t ht, hmn t ht⟩
  cases dr with
  | false =>
    exact ⟨9, _, n, f, n, f, c_B_release_no (d := 5) hn h0 (b := false) (c_B_canPostLots (d := 5) (b := false) hn h0 x1 x3 hna (c_B_canPost_null 5 hn h0) (fun h => by cases h)) (fun h => by cases h.1), c_M_release_no 5 hn r35 hs s0 a36 hP a37 hna s12 s13 s14 (fun h => h.1.1.1 rfl), by omega, ⟨by omega, fs, r35⟩, hI⟩
  | true =>
    obtain ⟨d1, d2, px, d3, d4⟩ := hDr rfl
    have hcp0 := c_B_canPost (x := x) 5 hn h0 (by omega) d2 hm x1 x4 hna
    have hcp := c_B_canPostLots (d := 5) (x := x) (y := y) (z := z) hn h0 x1 x3 hna hcp0 (fun hb => ⟨(of_decide_eq_true hb).2.1, (of_decide_eq_true hb).2.2.1⟩)
    by_cases hx : (decide (¬ m = 6 ∧ 0 ≤ x ∧ x < nI na ∧ us x.toNatClampNeg ≤ dd) && decide (ki x.toNatClampNeg = 0 ∧ (1 ≤ y ∧ y ≤ 4) ∧ 1 ≤ z ∧ z ≤ 1000)) = true ∧ 0 ≤ w ∧ w ≤ 2
    · rw [hx.1] at hcp
      have hh := (hold_iff hm hqA2).mpr hx.1
      have hc1 := (can_iff hm).mp hh.1
      have hb := c_B_release (d := 5) hn h0 hnd (by omega) d2 (by omega) d1 d3 (show m < 6 by have := hc1.1; omega) (by omega) hcp hx.2
      have hC1 := post_C (v0 := 2) (v1 := x) (v2 := y) (v3 := z) (v4 := w) hCC d3 d4 d1
      generalize ef : jm_up (jm_up (jm_up f n (.inr (7, [.int 2, .int x, .int y, .int z, .int w]))) (nd + 1) (.inl (4, 6, .inr (.inr (.inr (.inr (va_up px m (some n)))))))) nd (.inr (10, [.int dd, .ref (nd + 1), .int (nI (m + 1))])) = f1 at hb hC1
      have e1 : ∀ j, j < 61 → f1 j = f j := fun j hj => by
        rw [← ef, jm_up_n _ _ (by omega), jm_up_n _ _ (by omega), jm_up_n _ _ (by omega)]
      have hr := c_M_release 5 (show 61 ≤ n + 1 by omega) ((e1 35 (by omega)).trans r35) hs s0 ((e1 36 (by omega)).trans a36) hP ((e1 37 (by omega)).trans a37) hna s12 s13 s14 ((e1 46 (by omega)).trans a46) hm hh hx.2.1 hx.2.2
      obtain ⟨a, ha, hxa⟩ := ix_of hna ⟨hc1.2.1, hc1.2.2.1⟩
      refine ⟨9, _, n + 1, f1, n + 1, _, hb, hr, by omega, ⟨by omega, fs, (e1 35 (by omega)).trans r35⟩, jo, nd, na, par, us, ki, P, kp, po, pd, pv, kc, ko, ky, kv, ka, k, cd, aj, ad, gn, c, mn, dy, kd, oa, cm, qt, am, wt, L, true, dd, m + 1, up5 dt (5 * m) 2 x y z w, CI_fr (fun j hj => by unfold mo_posted; rw [jm_up_n _ _ (by omega), jm_up_n _ _ (by omega)]) hC1, ?_, hqA2, hqP2, hqK2, hqC2, hqJ2, post_q hqD2 (show m < 6 by have := hc1.1; omega) ⟨⟨a, ha, hxa⟩, .inr (.inr (.inl ⟨rfl, le_t hh.2.2.2.2.1, le_t hh.2.2.2.2.2⟩)), .inl ⟨.inr rfl, hh.2.2.1, hh.2.2.2.1⟩⟩, hX⟩
      exact ⟨_, xf, ma, w64, lo, lc, lq, lk, pr, adR, pa, rfl, mo_st_set hs (by decide), sc_14 hs hsc2 (m + 1), ⟨(e1 36 (by omega)).trans a36, (e1 37 (by omega)).trans a37, (e1 38 (by omega)).trans a38, (e1 39 (by omega)).trans a39, (e1 40 (by omega)).trans a40, (e1 41 (by omega)).trans a41, (e1 42 (by omega)).trans a42, (e1 43 (by omega)).trans a43, (e1 44 (by omega)).trans a44, (e1 45 (by omega)).trans a45, rfl, (e1 47 (by omega)).trans a47, (e1 48 (by omega)).trans a48, (e1 49 (by omega)).trans a49, (e1 50 (by omega)).trans a50, (e1 51 (by omega)).trans a51, (e1 52 (by omega)).trans a52, (e1 53 (by omega)).trans a53, (e1 54 (by omega)).trans a54, (e1 55 (by omega)).trans a55, (e1 56 (by omega)).trans a56, (e1 57 (by omega)).trans a57, (e1 58 (by omega)).trans a58, (e1 59 (by omega)).trans a59, (e1 60 (by omega)).trans a60⟩, hma, hw, hsm, hpr, had⟩
    · exact ⟨9, _, n, f, n, f, c_B_release_no (d := 5) hn h0 hcp hx, c_M_release_no 5 hn r35 hs s0 a36 hP a37 hna s12 s13 s14 (fun h => hx ⟨(hold_iff hm hqA2).mp h.1, h.2⟩), by omega, ⟨by omega, fs, r35⟩, hI⟩
theorem op_rest (h : inv n f) (x : Int32) : OpI 6 92 [.int x] n f := by
  have hI := h
  obtain ⟨jo, nd, na, par, us, ki, P, kp, po, pd, pv, kc, ko, ky, kv, ka, k, cd, aj, ad, gn, c, mn, dy, kd, oa, cm, qt, am, wt, L, dr, dd, m, dt, hC, hR, hPI⟩ := h
  have hCC := hC
  have hRR := hR
  obtain ⟨⟨hnd, hndn, hdy, hjo⟩, h0, ⟨x1, x2, x3, x4⟩, ⟨x5, x6, x7, x8⟩, ⟨x9, x10, x11, x12⟩, ⟨x13, cx, x14, hcl⟩, ⟨x15, og, wg, sg, x16, x17, x18⟩, ⟨tx, hJS, hjr⟩, hT, hDr⟩ := hC
  have hJS2 := hJS
  obtain ⟨j0, j1, j2, j3, j4, j5, j6, j7⟩ := hJS
  obtain ⟨fs, xf, ma, w64, lo, lc, lq, lk, pr, adR, pa, r35, hs, hsc, ⟨a36, a37, a38, a39, a40, a41, a42, a43, a44, a45, a46, a47, a48, a49, a50, a51, a52, a53, a54, a55, a56, a57, a58, a59, a60⟩, hma, hw, hsm, hpr, had⟩ := hR
  have hsc2 := hsc
  obtain ⟨s0, s3, s12, s13, s14, s16, s21, s22, s26, s30⟩ := hsc
  have hPI2 := hPI
  obtain ⟨hqA, hqP, hqK, hqC, hqJ, hqD, hX⟩ := hPI
  have hqA2 := hqA
  have hqP2 := hqP
  have hqK2 := hqK
  have hqC2 := hqC
  have hqJ2 := hqJ
  have hqD2 := hqD
  obtain ⟨hP, hna7, hna, hki⟩ := hqA
  obtain ⟨hkp, hdis, hprok⟩ := hqP
  obtain ⟨hkc, hka⟩ := hqK
  obtain ⟨hk, hcd⟩ := hqC
  obtain ⟨hc, hmn, hsr, hps, hbk, hL⟩ := hqJ
  obtain ⟨hm, hdr⟩ := hqD
  have hn : 61 ≤ n := by omega
  have ho : ∀ t k, t < c → k < mn t → oa (6 * t + k) = nI ((fun p => (oa p).toNatClampNeg) (6 * t + k)) ∧ (fun p => (oa p).toNatClampNeg) (6 * t + k) < na := fun t k h1 h2 => pst_ou hna (hps t k h1 h2)
  have hjrn : jr n f tx c mn dy kd oa cm qt am := jr_mono hndn (fun _ _ _ => rfl) hjr
  have hcln : cls n f cx k cd aj ad gn := cls_mono hndn (fun _ _ _ => rfl) hcl
  have hm41 : ∀ t, t < c → ma t = nI (mn t) ∧ mn t ≤ 6 := fun t ht => ⟨hma t ht, hmn t ht⟩
  cases dr with
  | false =>
    exact ⟨9, _, n, f, n, f, c_B_rest_no1 (d := 6) hn h0 (c_B_canPost_null 6 hn h0), c_M_rest_no 6 hn r35 hs s0 a37 hna s12 s13 s14 a46 hm (fun h => h.1.1 rfl), by omega, ⟨by omega, fs, r35⟩, hI⟩
  | true =>
    obtain ⟨d1, d2, px, d3, d4⟩ := hDr rfl
    have htx := drf_tx hnd hm ⟨d1, d2, px, d3, d4⟩
    have hcp := c_B_canPost (x := x) 6 hn h0 (by omega) d2 hm x1 x4 hna
    by_cases hx : ¬ m = 6 ∧ 0 ≤ x ∧ x < nI na ∧ us x.toNatClampNeg ≤ dd
    · rw [decide_eq_true hx] at hcp
      cases hh : hrR (fun i => dt (5 * i)) 0 m with
      | true =>
        obtain ⟨j, _, q2, q3⟩ := hrR_iff.mp hh
        exact ⟨9, _, n, f, n, f, c_B_rest_no2 (d := 6) hn h0 htx hcp hh, c_M_rest_no 6 hn r35 hs s0 a37 hna s12 s13 s14 a46 hm (fun h => h.2 j (by omega) q3), by omega, ⟨by omega, fs, r35⟩, hI⟩
      | false =>
        have hb := c_B_rest (d := 6) hn h0 htx hnd (by omega) d2 (by omega) d1 d3 (by omega) (by omega) hcp hh
        have hC1 := post_C (v0 := 3) (v1 := x) (v2 := 0) (v3 := 0) (v4 := 0) hCC d3 d4 d1
        generalize ef : jm_up (jm_up (jm_up f n (.inr (7, [.int 3, .int x, .int 0, .int 0, .int 0]))) (nd + 1) (.inl (4, 6, .inr (.inr (.inr (.inr (va_up px m (some n)))))))) nd (.inr (10, [.int dd, .ref (nd + 1), .int (nI (m + 1))])) = f1 at hb hC1
        have e1 : ∀ j, j < 61 → f1 j = f j := fun j hj => by
          rw [← ef, jm_up_n _ _ (by omega), jm_up_n _ _ (by omega), jm_up_n _ _ (by omega)]
        have hr := c_M_rest (x := x) 6 (show 61 ≤ n + 1 by omega) ((e1 35 (by omega)).trans r35) hs s0 ((e1 37 (by omega)).trans a37) hna s12 s13 s14 ((e1 46 (by omega)).trans a46) hm ((can_iff hm).mpr hx) (fun i hi h3 => by
          have := (hrR_iff (kd := fun i => dt (5 * i)) (r := m) (i := 0)).mpr ⟨i, Nat.zero_le i, by omega, h3⟩
          rw [hh] at this
          cases this)
        obtain ⟨a, ha, hxa⟩ := ix_of hna ⟨hx.2.1, hx.2.2.1⟩
        refine ⟨9, _, n + 1, f1, n + 1, _, hb, hr, by omega, ⟨by omega, fs, (e1 35 (by omega)).trans r35⟩, jo, nd, na, par, us, ki, P, kp, po, pd, pv, kc, ko, ky, kv, ka, k, cd, aj, ad, gn, c, mn, dy, kd, oa, cm, qt, am, wt, L, true, dd, m + 1, up5 dt (5 * m) 3 x 0 0 0, CI_fr (fun j hj => by unfold mo_posted; rw [jm_up_n _ _ (by omega), jm_up_n _ _ (by omega)]) hC1, ?_, hqA2, hqP2, hqK2, hqC2, hqJ2, post_q hqD2 (by omega) ⟨⟨a, ha, hxa⟩, .inr (.inr (.inr ⟨rfl, rfl⟩)), .inr ⟨by decide, rfl⟩⟩, hX⟩
        exact ⟨_, xf, ma, w64, lo, lc, lq, lk, pr, adR, pa, rfl, mo_st_set hs (by decide), sc_14 hs hsc2 (m + 1), ⟨(e1 36 (by omega)).trans a36, (e1 37 (by omega)).trans a37, (e1 38 (by omega)).trans a38, (e1 39 (by omega)).trans a39, (e1 40 (by omega)).trans a40, (e1 41 (by omega)).trans a41, (e1 42 (by omega)).trans a42, (e1 43 (by omega)).trans a43, (e1 44 (by omega)).trans a44, (e1 45 (by omega)).trans a45, rfl, (e1 47 (by omega)).trans a47, (e1 48 (by omega)).trans a48, (e1 49 (by omega)).trans a49, (e1 50 (by omega)).trans a50, (e1 51 (by omega)).trans a51, (e1 52 (by omega)).trans a52, (e1 53 (by omega)).trans a53, (e1 54 (by omega)).trans a54, (e1 55 (by omega)).trans a55, (e1 56 (by omega)).trans a56, (e1 57 (by omega)).trans a57, (e1 58 (by omega)).trans a58, (e1 59 (by omega)).trans a59, (e1 60 (by omega)).trans a60⟩, hma, hw, hsm, hpr, had⟩
    · rw [decide_eq_false hx] at hcp
      exact ⟨9, _, n, f, n, f, c_B_rest_no1 (d := 6) hn h0 hcp, c_M_rest_no 6 hn r35 hs s0 a37 hna s12 s13 s14 a46 hm (fun h => hx ((can_iff hm).mp h.1)), by omega, ⟨by omega, fs, r35⟩, hI⟩
end
