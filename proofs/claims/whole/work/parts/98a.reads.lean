section
variable {n : Nat} {f : Nat → va_E}
theorem op_count (h : inv n f) : OpI 9 98 [] n f := by
  have hI := h
  obtain ⟨jo, nd, na, par, us, ki, P, kp, po, pd, pv, kc, ko, ky, kv, ka, k, cd, aj, ad, gn, c, mn, dy, kd, oa, cm, qt, am, wt, L, dr, dd, m, dt, hC, hR, hPI⟩ := h
  have hCC := hC
  have hRR := hR
  obtain ⟨⟨hnd, hndn, hdy, hjo⟩, h0, ⟨x1, x2, x3, x4⟩, ⟨x5, x6, x7, x8⟩, ⟨x9, x10, x11, x12⟩, ⟨x13, cx, x14, hcl⟩, ⟨x15, og, wg, sg, x16, x17, x18⟩, ⟨tx, hJS, hjr⟩, hT, hDr⟩ := hC
  have hJS2 := hJS
  obtain ⟨j0, j1, j2, j3, j4, j5, j6, j7⟩ := hJS
  obtain ⟨fs, xf, ma, w64, lo, lc, lq, lk, pr, adR, pa, r35, hs, hsc, ⟨a36, a37, a38, a39, a40, a41, a42, a43, a44, a45, a46, a47, a48, a49, a50, a51, a52, a53, a54, a55, a56, a57, a58, a59, a60⟩, hma, hw, hsm, hpr, had⟩ := hR
  have hsc2 := hsc
  obtain ⟨s0, s3, s12, s13, s14, s16, s21, s22, s26, s30⟩ := hsc
  have hPI2 := hPI
  obtain ⟨hqA, hqP, hqK, hqC, hqJ, hqD, hX⟩ := hPI
  have hqA2 := hqA
  have hqP2 := hqP
  have hqK2 := hqK
  have hqC2 := hqC
  have hqJ2 := hqJ
  have hqD2 := hqD
  obtain ⟨hP, hna7, hna, hki⟩ := hqA
  obtain ⟨hkp, hdis, hprok⟩ := hqP
  obtain ⟨hkc, hka⟩ := hqK
  obtain ⟨hk, hcd⟩ := hqC
  obtain ⟨hc, hmn, hsr, hps, hbk, hL⟩ := hqJ
  obtain ⟨hm, hdr⟩ := hqD
  have hn : 61 ≤ n := by omega
  have ho : ∀ t k, t < c → k < mn t → oa (6 * t + k) = nI ((fun p => (oa p).toNatClampNeg) (6 * t + k)) ∧ (fun p => (oa p).toNatClampNeg) (6 * t + k) < na := fun t k h1 h2 => pst_ou hna (hps t k h1 h2)
  have hjrn : jr n f tx c mn dy kd oa cm qt am := jr_mono hndn (fun _ _ _ => rfl) hjr
  have hcln : cls n f cx k cd aj ad gn := cls_mono hndn (fun _ _ _ => rfl) hcl
  have hm41 : ∀ t, t < c → ma t = nI (mn t) ∧ mn t ≤ 6 := fun t ht => ⟨hma t ht, hmn t ht⟩
  exact ⟨9, _, n, f, n, f, c_B_count (d := 8) hn h0 (by omega) j0, c_M_count 8 hn r35 s3, by omega, ⟨by omega, fs, r35⟩, hI⟩
theorem op_weight (h : inv n f) (x y : Int32) : OpI 10 99 [.int x, .int y] n f := by
  have hI := h
  obtain ⟨jo, nd, na, par, us, ki, P, kp, po, pd, pv, kc, ko, ky, kv, ka, k, cd, aj, ad, gn, c, mn, dy, kd, oa, cm, qt, am, wt, L, dr, dd, m, dt, hC, hR, hPI⟩ := h
  have hCC := hC
  have hRR := hR
  obtain ⟨⟨hnd, hndn, hdy, hjo⟩, h0, ⟨x1, x2, x3, x4⟩, ⟨x5, x6, x7, x8⟩, ⟨x9, x10, x11, x12⟩, ⟨x13, cx, x14, hcl⟩, ⟨x15, og, wg, sg, x16, x17, x18⟩, ⟨tx, hJS, hjr⟩, hT, hDr⟩ := hC
  have hJS2 := hJS
  obtain ⟨j0, j1, j2, j3, j4, j5, j6, j7⟩ := hJS
  obtain ⟨fs, xf, ma, w64, lo, lc, lq, lk, pr, adR, pa, r35, hs, hsc, ⟨a36, a37, a38, a39, a40, a41, a42, a43, a44, a45, a46, a47, a48, a49, a50, a51, a52, a53, a54, a55, a56, a57, a58, a59, a60⟩, hma, hw, hsm, hpr, had⟩ := hR
  have hsc2 := hsc
  obtain ⟨s0, s3, s12, s13, s14, s16, s21, s22, s26, s30⟩ := hsc
  have hPI2 := hPI
  obtain ⟨hqA, hqP, hqK, hqC, hqJ, hqD, hX⟩ := hPI
  have hqA2 := hqA
  have hqP2 := hqP
  have hqK2 := hqK
  have hqC2 := hqC
  have hqJ2 := hqJ
  have hqD2 := hqD
  obtain ⟨hP, hna7, hna, hki⟩ := hqA
  obtain ⟨hkp, hdis, hprok⟩ := hqP
  obtain ⟨hkc, hka⟩ := hqK
  obtain ⟨hk, hcd⟩ := hqC
  obtain ⟨hc, hmn, hsr, hps, hbk, hL⟩ := hqJ
  obtain ⟨hm, hdr⟩ := hqD
  have hn : 61 ≤ n := by omega
  have ho : ∀ t k, t < c → k < mn t → oa (6 * t + k) = nI ((fun p => (oa p).toNatClampNeg) (6 * t + k)) ∧ (fun p => (oa p).toNatClampNeg) (6 * t + k) < na := fun t k h1 h2 => pst_ou hna (hps t k h1 h2)
  have hjrn : jr n f tx c mn dy kd oa cm qt am := jr_mono hndn (fun _ _ _ => rfl) hjr
  have hcln : cls n f cx k cd aj ad gn := cls_mono hndn (fun _ _ _ => rfl) hcl
  have hm41 : ∀ t, t < c → ma t = nI (mn t) ∧ mn t ≤ 6 := fun t ht => ⟨hma t ht, hmn t ht⟩
  by_cases hx : ∃ t k, t < c ∧ k < mn t ∧ x = nI t ∧ y = nI k
  · obtain ⟨t, i, h1, h2, rfl, rfl⟩ := hx
    have hr := c_M_weight 8 hn r35 hs s3 a39 a45 (by omega) hm41 h1 h2
    rw [hw t i h1 h2, Int32.toInt32_toInt64] at hr
    exact ⟨9, _, n, f, n, f, c_B_weight (d := 7) hn h0 (by omega) (by omega) (by omega) j0 j1 j2 hjrn hc h1 h2, hr, by omega, ⟨by omega, fs, r35⟩, hI⟩
  · exact ⟨9, _, n, f, n, f, c_B_weight_no (d := 7) hn h0 (by omega) (by omega) j0 j1 hjrn hc hx, c_M_weight_no 8 hn r35 hs s3 a39 (by omega) hm41 (fun t i h1 h2 h3 => hx ⟨t, i, h1, h2, h3.1, h3.2⟩), by omega, ⟨by omega, fs, r35⟩, hI⟩
theorem op_priceOn (h : inv n f) (x y : Int32) : OpI 12 112 [.int x, .int y] n f := by
  have hI := h
  obtain ⟨jo, nd, na, par, us, ki, P, kp, po, pd, pv, kc, ko, ky, kv, ka, k, cd, aj, ad, gn, c, mn, dy, kd, oa, cm, qt, am, wt, L, dr, dd, m, dt, hC, hR, hPI⟩ := h
  have hCC := hC
  have hRR := hR
  obtain ⟨⟨hnd, hndn, hdy, hjo⟩, h0, ⟨x1, x2, x3, x4⟩, ⟨x5, x6, x7, x8⟩, ⟨x9, x10, x11, x12⟩, ⟨x13, cx, x14, hcl⟩, ⟨x15, og, wg, sg, x16, x17, x18⟩, ⟨tx, hJS, hjr⟩, hT, hDr⟩ := hC
  have hJS2 := hJS
  obtain ⟨j0, j1, j2, j3, j4, j5, j6, j7⟩ := hJS
  obtain ⟨fs, xf, ma, w64, lo, lc, lq, lk, pr, adR, pa, r35, hs, hsc, ⟨a36, a37, a38, a39, a40, a41, a42, a43, a44, a45, a46, a47, a48, a49, a50, a51, a52, a53, a54, a55, a56, a57, a58, a59, a60⟩, hma, hw, hsm, hpr, had⟩ := hR
  have hsc2 := hsc
  obtain ⟨s0, s3, s12, s13, s14, s16, s21, s22, s26, s30⟩ := hsc
  have hPI2 := hPI
  obtain ⟨hqA, hqP, hqK, hqC, hqJ, hqD, hX⟩ := hPI
  have hqA2 := hqA
  have hqP2 := hqP
  have hqK2 := hqK
  have hqC2 := hqC
  have hqJ2 := hqJ
  have hqD2 := hqD
  obtain ⟨hP, hna7, hna, hki⟩ := hqA
  obtain ⟨hkp, hdis, hprok⟩ := hqP
  obtain ⟨hkc, hka⟩ := hqK
  obtain ⟨hk, hcd⟩ := hqC
  obtain ⟨hc, hmn, hsr, hps, hbk, hL⟩ := hqJ
  obtain ⟨hm, hdr⟩ := hqD
  have hn : 61 ≤ n := by omega
  have ho : ∀ t k, t < c → k < mn t → oa (6 * t + k) = nI ((fun p => (oa p).toNatClampNeg) (6 * t + k)) ∧ (fun p => (oa p).toNatClampNeg) (6 * t + k) < na := fun t k h1 h2 => pst_ou hna (hps t k h1 h2)
  have hjrn : jr n f tx c mn dy kd oa cm qt am := jr_mono hndn (fun _ _ _ => rfl) hjr
  have hcln : cls n f cx k cd aj ad gn := cls_mono hndn (fun _ _ _ => rfl) hcl
  have hm41 : ∀ t, t < c → ma t = nI (mn t) ∧ mn t ≤ 6 := fun t ht => ⟨hma t ht, hmn t ht⟩
  exact ⟨9, _, n, f, n, f, c_B_priceOn (d := 6) hn h0 x5 x6 x7 x8 hkp, c_M_priceOn 8 hn r35 hs s26 a54 a55 a56 hkp, by omega, ⟨by omega, fs, r35⟩, hI⟩
theorem op_profit (h : inv n f) (x : Int32) : OpL 16 118 [.int x] n f := by
  have hI := h
  obtain ⟨jo, nd, na, par, us, ki, P, kp, po, pd, pv, kc, ko, ky, kv, ka, k, cd, aj, ad, gn, c, mn, dy, kd, oa, cm, qt, am, wt, L, dr, dd, m, dt, hC, hR, hPI⟩ := h
  have hCC := hC
  have hRR := hR
  obtain ⟨⟨hnd, hndn, hdy, hjo⟩, h0, ⟨x1, x2, x3, x4⟩, ⟨x5, x6, x7, x8⟩, ⟨x9, x10, x11, x12⟩, ⟨x13, cx, x14, hcl⟩, ⟨x15, og, wg, sg, x16, x17, x18⟩, ⟨tx, hJS, hjr⟩, hT, hDr⟩ := hC
  have hJS2 := hJS
  obtain ⟨j0, j1, j2, j3, j4, j5, j6, j7⟩ := hJS
  obtain ⟨fs, xf, ma, w64, lo, lc, lq, lk, pr, adR, pa, r35, hs, hsc, ⟨a36, a37, a38, a39, a40, a41, a42, a43, a44, a45, a46, a47, a48, a49, a50, a51, a52, a53, a54, a55, a56, a57, a58, a59, a60⟩, hma, hw, hsm, hpr, had⟩ := hR
  have hsc2 := hsc
  obtain ⟨s0, s3, s12, s13, s14, s16, s21, s22, s26, s30⟩ := hsc
  have hPI2 := hPI
  obtain ⟨hqA, hqP, hqK, hqC, hqJ, hqD, hX⟩ := hPI
  have hqA2 := hqA
  have hqP2 := hqP
  have hqK2 := hqK
  have hqC2 := hqC
  have hqJ2 := hqJ
  have hqD2 := hqD
  obtain ⟨hP, hna7, hna, hki⟩ := hqA
  obtain ⟨hkp, hdis, hprok⟩ := hqP
  obtain ⟨hkc, hka⟩ := hqK
  obtain ⟨hk, hcd⟩ := hqC
  obtain ⟨hc, hmn, hsr, hps, hbk, hL⟩ := hqJ
  obtain ⟨hm, hdr⟩ := hqD
  have hn : 61 ≤ n := by omega
  have ho : ∀ t k, t < c → k < mn t → oa (6 * t + k) = nI ((fun p => (oa p).toNatClampNeg) (6 * t + k)) ∧ (fun p => (oa p).toNatClampNeg) (6 * t + k) < na := fun t k h1 h2 => pst_ou hna (hps t k h1 h2)
  have hjrn : jr n f tx c mn dy kd oa cm qt am := jr_mono hndn (fun _ _ _ => rfl) hjr
  have hcln : cls n f cx k cd aj ad gn := cls_mono hndn (fun _ _ _ => rfl) hcl
  have hm41 : ∀ t, t < c → ma t = nI (mn t) ∧ mn t ≤ 6 := fun t ht => ⟨hma t ht, hmn t ht⟩
  by_cases hx : 0 ≤ x ∧ x < nI k
  · obtain ⟨i, hi, rfl⟩ := ix_ofN (by omega) hx
    have hr := c_M_profit 8 hn r35 hs s30 a58 hk hi
    rw [hpr i hi] at hr
    exact ⟨9, _, n, f, n, f, c_B_profit (d := 7) hn h0 x13 x14 hcln hk hi, hr, by omega, ⟨by omega, fs, r35⟩, hI⟩
  · exact ⟨9, _, n, f, n, f, c_B_profit_no (d := 7) hn h0 x13 hk hx, c_M_profit_no 8 hn r35 s30 hx, by omega, ⟨by omega, fs, r35⟩, hI⟩
theorem op_quantity (h : inv n f) (x y z : Int32) : OpI 18 109 [.int x, .int y, .int z] n f := by
  have hI := h
  obtain ⟨jo, nd, na, par, us, ki, P, kp, po, pd, pv, kc, ko, ky, kv, ka, k, cd, aj, ad, gn, c, mn, dy, kd, oa, cm, qt, am, wt, L, dr, dd, m, dt, hC, hR, hPI⟩ := h
  have hCC := hC
  have hRR := hR
  obtain ⟨⟨hnd, hndn, hdy, hjo⟩, h0, ⟨x1, x2, x3, x4⟩, ⟨x5, x6, x7, x8⟩, ⟨x9, x10, x11, x12⟩, ⟨x13, cx, x14, hcl⟩, ⟨x15, og, wg, sg, x16, x17, x18⟩, ⟨tx, hJS, hjr⟩, hT, hDr⟩ := hC
  have hJS2 := hJS
  obtain ⟨j0, j1, j2, j3, j4, j5, j6, j7⟩ := hJS
  obtain ⟨fs, xf, ma, w64, lo, lc, lq, lk, pr, adR, pa, r35, hs, hsc, ⟨a36, a37, a38, a39, a40, a41, a42, a43, a44, a45, a46, a47, a48, a49, a50, a51, a52, a53, a54, a55, a56, a57, a58, a59, a60⟩, hma, hw, hsm, hpr, had⟩ := hR
  have hsc2 := hsc
  obtain ⟨s0, s3, s12, s13, s14, s16, s21, s22, s26, s30⟩ := hsc
  have hPI2 := hPI
  obtain ⟨hqA, hqP, hqK, hqC, hqJ, hqD, hX⟩ := hPI
  have hqA2 := hqA
  have hqP2 := hqP
  have hqK2 := hqK
  have hqC2 := hqC
  have hqJ2 := hqJ
  have hqD2 := hqD
  obtain ⟨hP, hna7, hna, hki⟩ := hqA
  obtain ⟨hkp, hdis, hprok⟩ := hqP
  obtain ⟨hkc, hka⟩ := hqK
  obtain ⟨hk, hcd⟩ := hqC
  obtain ⟨hc, hmn, hsr, hps, hbk, hL⟩ := hqJ
  obtain ⟨hm, hdr⟩ := hqD
  have hn : 61 ≤ n := by omega
  have ho : ∀ t k, t < c → k < mn t → oa (6 * t + k) = nI ((fun p => (oa p).toNatClampNeg) (6 * t + k)) ∧ (fun p => (oa p).toNatClampNeg) (6 * t + k) < na := fun t k h1 h2 => pst_ou hna (hps t k h1 h2)
  have hjrn : jr n f tx c mn dy kd oa cm qt am := jr_mono hndn (fun _ _ _ => rfl) hjr
  have hcln : cls n f cx k cd aj ad gn := cls_mono hndn (fun _ _ _ => rfl) hcl
  have hm41 : ∀ t, t < c → ma t = nI (mn t) ∧ mn t ≤ 6 := fun t ht => ⟨hma t ht, hmn t ht⟩
  by_cases hx : (0 ≤ x ∧ x < nI na) ∧ 1 ≤ y ∧ y ≤ 4
  · obtain ⟨a, ha, rfl⟩ := ix_of hna hx.1
    have hr := c_M_quantity (w := y) (til := z) 7 hn r35 hs s0 a36 hP hna s3 a38 a39 a40 a41 a42 a43 a45 (by omega) hm41 ha hx.2.1 hx.2.2
    rw [← held_eq (ou := fun p => (oa p).toNatClampNeg) hna hsr ho (fun t i h1 h2 h3 => by
      rcases (hps t i h1 h2).2.2 with h4 | h4
      · exact h4.1
      · exfalso
        have h5 := hx.2.1
        rw [← h3, h4.2] at h5
        exact absurd h5 (by decide))] at hr
    exact ⟨9, _, n, f, n, f, c_B_quantity (d := 6) (ou := fun p => (oa p).toNatClampNeg) hn h0 (by omega) (by omega) j0 j1 hjrn hc x1 x2 hP hna ha ho hx.2, hr, by omega, ⟨by omega, fs, r35⟩, hI⟩
  · exact ⟨9, _, n, f, n, f, c_B_quantity_no (d := 6) hn h0 x1 hx, c_M_quantity_no 7 hn r35 s0 hx, by omega, ⟨by omega, fs, r35⟩, hI⟩
theorem lo_id_19 {N : Nat} {lo lc lq lk : Nat → Int32} (h22 : f 22 = .inr (6, [.ref 23, .ref 24, .ref 25, .ref 26, .int (nI N)])) (h23 : f 23 = .inl (0, 240, .inl lo)) (h24 : f 24 = .inl (0, 240, .inl lc)) (h25 : f 25 = .inl (0, 240, .inl lq)) (h26 : f 26 = .inl (0, 240, .inl lk)) : lo_hp_19 f N lo lc lq lk = f := by
  funext j
  rw [lo_a_19]
  by_cases e1 : j = 22
  · rw [if_pos e1, e1, h22]
  · rw [if_neg e1]
    by_cases e2 : j = 23
    · rw [if_pos e2, e2, h23]
    · rw [if_neg e2]
      by_cases e3 : j = 24
      · rw [if_pos e3, e3, h24]
      · rw [if_neg e3]
        by_cases e4 : j = 25
        · rw [if_pos e4, e4, h25]
        · rw [if_neg e4]
          by_cases e5 : j = 26
          · rw [if_pos e5, e5, h26]
          · rw [if_neg e5]
theorem lo_id_27 {N : Nat} {lo lc lq lk : Nat → Int32} (h22 : f 30 = .inr (6, [.ref 31, .ref 32, .ref 33, .ref 34, .int (nI N)])) (h23 : f 31 = .inl (0, 240, .inl lo)) (h24 : f 32 = .inl (0, 240, .inl lc)) (h25 : f 33 = .inl (0, 240, .inl lq)) (h26 : f 34 = .inl (0, 240, .inl lk)) : lo_hp_27 f N lo lc lq lk = f := by
  funext j
  rw [lo_a_27]
  by_cases e1 : j = 30
  · rw [if_pos e1, e1, h22]
  · rw [if_neg e1]
    by_cases e2 : j = 31
    · rw [if_pos e2, e2, h23]
    · rw [if_neg e2]
      by_cases e3 : j = 32
      · rw [if_pos e3, e3, h24]
      · rw [if_neg e3]
        by_cases e4 : j = 33
        · rw [if_pos e4, e4, h25]
        · rw [if_neg e4]
          by_cases e5 : j = 34
          · rw [if_pos e5, e5, h26]
          · rw [if_neg e5]
theorem op_lot (h : inv n f) (x y z : Int32) : OpL 19 105 [.int x, .int y, .int z] n f := by
  have hI := h
  obtain ⟨jo, nd, na, par, us, ki, P, kp, po, pd, pv, kc, ko, ky, kv, ka, k, cd, aj, ad, gn, c, mn, dy, kd, oa, cm, qt, am, wt, L, dr, dd, m, dt, hC, hR, hPI⟩ := h
  have hCC := hC
  have hRR := hR
  obtain ⟨⟨hnd, hndn, hdy, hjo⟩, h0, ⟨x1, x2, x3, x4⟩, ⟨x5, x6, x7, x8⟩, ⟨x9, x10, x11, x12⟩, ⟨x13, cx, x14, hcl⟩, ⟨x15, og, wg, sg, x16, x17, x18⟩, ⟨tx, hJS, hjr⟩, hT, hDr⟩ := hC
  have hJS2 := hJS
  obtain ⟨j0, j1, j2, j3, j4, j5, j6, j7⟩ := hJS
  obtain ⟨fs, xf, ma, w64, lo, lc, lq, lk, pr, adR, pa, r35, hs, hsc, ⟨a36, a37, a38, a39, a40, a41, a42, a43, a44, a45, a46, a47, a48, a49, a50, a51, a52, a53, a54, a55, a56, a57, a58, a59, a60⟩, hma, hw, hsm, hpr, had⟩ := hR
  have hsc2 := hsc
  obtain ⟨s0, s3, s12, s13, s14, s16, s21, s22, s26, s30⟩ := hsc
  have hPI2 := hPI
  obtain ⟨hqA, hqP, hqK, hqC, hqJ, hqD, hX⟩ := hPI
  have hqA2 := hqA
  have hqP2 := hqP
  have hqK2 := hqK
  have hqC2 := hqC
  have hqJ2 := hqJ
  have hqD2 := hqD
  obtain ⟨hP, hna7, hna, hki⟩ := hqA
  obtain ⟨hkp, hdis, hprok⟩ := hqP
  obtain ⟨hkc, hka⟩ := hqK
  obtain ⟨hk, hcd⟩ := hqC
  obtain ⟨hc, hmn, hsr, hps, hbk, hL⟩ := hqJ
  obtain ⟨hm, hdr⟩ := hqD
  have hn : 61 ≤ n := by omega
  have ho : ∀ t k, t < c → k < mn t → oa (6 * t + k) = nI ((fun p => (oa p).toNatClampNeg) (6 * t + k)) ∧ (fun p => (oa p).toNatClampNeg) (6 * t + k) < na := fun t k h1 h2 => pst_ou hna (hps t k h1 h2)
  have hjrn : jr n f tx c mn dy kd oa cm qt am := jr_mono hndn (fun _ _ _ => rfl) hjr
  have hcln : cls n f cx k cd aj ad gn := cls_mono hndn (fun _ _ _ => rfl) hcl
  have hm41 : ∀ t, t < c → ma t = nI (mn t) ∧ mn t ≤ 6 := fun t ht => ⟨hma t ht, hmn t ht⟩
  have hr := c_M_lot (acc := x) (w := y) (k := z) 7 hn r35 hs s16 a47 a48 a49 a50 (by omega)
  rw [← lot_eq (lo' := L.2.1) (lc' := L.2.2.1) (lq' := L.2.2.2.1) (lk := L.2.2.2.2) L.1 0 0 (fun j _ hj => by
    obtain ⟨b1, b2, b3, b4⟩ := hsm j (by omega)
    exact ⟨b1.symm, b2.symm, b3.symm, b4⟩)] at hr
  rcases hjo with rfl | rfl
  · have hb := c_B_lot_19 (d := 6) (x := x) (y := y) (z := z) (lo := L.2.1) (lc := L.2.2.1) (lq := L.2.2.2.1) (lk := L.2.2.2.2) hn h0 j0 hL
    rw [lo_id_19 j3 j4 j5 j6 j7] at hb
    exact ⟨9, _, n, f, n, f, hb, hr, by omega, ⟨by omega, fs, r35⟩, hI⟩
  · have hb := c_B_lot_27 (d := 6) (x := x) (y := y) (z := z) (lo := L.2.1) (lc := L.2.2.1) (lq := L.2.2.2.1) (lk := L.2.2.2.2) hn h0 j0 hL
    rw [lo_id_27 j3 j4 j5 j6 j7] at hb
    exact ⟨9, _, n, f, n, f, hb, hr, by omega, ⟨by omega, fs, r35⟩, hI⟩
theorem tr_S_c {P : Nat → Nat} {na b : Nat} {o o2 : Nat → Int64} (h : ∀ x, x < na → o x = o2 x) : tr_S P na o b = tr_S P na o2 b := by
  unfold tr_S
  exact ms_c (fun x hx => by rw [h x hx])
theorem op_balance (h : inv n f) (x y : Int32) : OpL 17 120 [.int x, .int y] n f := by
  have hI := h
  obtain ⟨jo, nd, na, par, us, ki, P, kp, po, pd, pv, kc, ko, ky, kv, ka, k, cd, aj, ad, gn, c, mn, dy, kd, oa, cm, qt, am, wt, L, dr, dd, m, dt, hC, hR, hPI⟩ := h
  have hCC := hC
  have hRR := hR
  obtain ⟨⟨hnd, hndn, hdy, hjo⟩, h0, ⟨x1, x2, x3, x4⟩, ⟨x5, x6, x7, x8⟩, ⟨x9, x10, x11, x12⟩, ⟨x13, cx, x14, hcl⟩, ⟨x15, og, wg, sg, x16, x17, x18⟩, ⟨tx, hJS, hjr⟩, hT, hDr⟩ := hC
  have hJS2 := hJS
  obtain ⟨j0, j1, j2, j3, j4, j5, j6, j7⟩ := hJS
  obtain ⟨fs, xf, ma, w64, lo, lc, lq, lk, pr, adR, pa, r35, hs, hsc, ⟨a36, a37, a38, a39, a40, a41, a42, a43, a44, a45, a46, a47, a48, a49, a50, a51, a52, a53, a54, a55, a56, a57, a58, a59, a60⟩, hma, hw, hsm, hpr, had⟩ := hR
  have hsc2 := hsc
  obtain ⟨s0, s3, s12, s13, s14, s16, s21, s22, s26, s30⟩ := hsc
  have hPI2 := hPI
  obtain ⟨hqA, hqP, hqK, hqC, hqJ, hqD, hX⟩ := hPI
  have hqA2 := hqA
  have hqP2 := hqP
  have hqK2 := hqK
  have hqC2 := hqC
  have hqJ2 := hqJ
  have hqD2 := hqD
  obtain ⟨hP, hna7, hna, hki⟩ := hqA
  obtain ⟨hkp, hdis, hprok⟩ := hqP
  obtain ⟨hkc, hka⟩ := hqK
  obtain ⟨hk, hcd⟩ := hqC
  obtain ⟨hc, hmn, hsr, hps, hbk, hL⟩ := hqJ
  obtain ⟨hm, hdr⟩ := hqD
  have hn : 61 ≤ n := by omega
  have ho : ∀ t k, t < c → k < mn t → oa (6 * t + k) = nI ((fun p => (oa p).toNatClampNeg) (6 * t + k)) ∧ (fun p => (oa p).toNatClampNeg) (6 * t + k) < na := fun t k h1 h2 => pst_ou hna (hps t k h1 h2)
  have hjrn : jr n f tx c mn dy kd oa cm qt am := jr_mono hndn (fun _ _ _ => rfl) hjr
  have hcln : cls n f cx k cd aj ad gn := cls_mono hndn (fun _ _ _ => rfl) hcl
  have hm41 : ∀ t, t < c → ma t = nI (mn t) ∧ mn t ≤ 6 := fun t ht => ⟨hma t ht, hmn t ht⟩
  by_cases hx : 0 ≤ x ∧ x < nI na
  · obtain ⟨a, ha, rfl⟩ := ix_of hna hx
    have hb := c_B_balance (d := 5) (ou := fun p => (oa p).toNatClampNeg) (til := y) hn h0 x15 x16 x17 x1 x2 hP hna (by omega) (by omega) (by omega) (by omega) (by omega) (by omega) (by omega) j0 j1 j2 hjrn hc ho x13 x14 hcln hk rfl ha
    generalize eo : aJ (sJ (flK og (fun _ => 0) 24) mn (fun p => (oa p).toNatClampNeg) (fun p => (wt p).toInt64) (mo_at dy y c)) ad (mo_cl cd k y) = o at hb
    generalize ef : jm_up (jm_up f 16 (.inl (1, 24, .inr (.inl o)))) 17 (.inl (1, 24, .inr (.inl (wDn P (na - 5) (flK wg o 24))))) = f1 at hb
    rw [whole_eq hP.1 hna (by omega) ha, tr_S_c (o2 := mo_bal dy oa w64 mn c cd adR k y) (fun b hb => by
      rw [← eo]
      exact own_eq (ou := fun p => (oa p).toNatClampNeg) hna hsr hb ho hw (fun i hi => (had i b hi (by omega)).symm))] at hb
    have e1 : ∀ j, j < 15 ∨ 18 < j → f1 j = f j := fun j hj => by
      rw [← ef, jm_up_n _ _ (by omega), jm_up_n _ _ (by omega)]
    have hr := c_M_balance (til := y) 6 hn ((e1 35 (by omega)).trans r35) hs s0 ((e1 36 (by omega)).trans a36) hP hna s3 ((e1 38 (by omega)).trans a38) ((e1 39 (by omega)).trans a39) ((e1 41 (by omega)).trans a41) ((e1 45 (by omega)).trans a45) (by omega) hm41 s30 ((e1 57 (by omega)).trans a57) hk ((e1 59 (by omega)).trans a59) ha
    refine ⟨9, _, n, f1, n, f1, hb, hr, by omega, ⟨by omega, fs, (e1 35 (by omega)).trans r35⟩, jo, nd, na, par, us, ki, P, kp, po, pd, pv, kc, ko, ky, kv, ka, k, cd, aj, ad, gn, c, mn, dy, kd, oa, cm, qt, am, wt, L, dr, dd, m, dt, ?_, RI_fr (fun j h1 _ => e1 j (by omega)) hRR, hPI2⟩
    obtain ⟨⟨b1, b2, b3, b4⟩, b5, b6, b7, b8, b9, b10, b11, b12, b13⟩ := hCC
    refine ⟨⟨b1, b2, dyb_fr (fun j h1 _ => e1 j (by omega)) b3, b4⟩, c0_fr (e1 0 (by omega)) b5, cA_fr (fun j _ _ => e1 j (by omega)) b6, cP_fr (fun j _ _ => e1 j (by omega)) b7, cK_fr (fun j _ _ => e1 j (by omega)) b8, cC_fr (e1 13 (by omega)) (e1 14 (by omega)) (Nat.le_refl nd) (fun j h1 _ => e1 j (by omega)) b9, ?_, cJ_fr b4 (fun j _ _ => e1 j (by omega)) (Nat.le_refl nd) (fun j h1 _ => e1 j (by omega)) b11, cT_fr b4 (fun j _ _ => e1 j (by omega)) b12, fun hd => drf_fr (Nat.le_refl n) (fun j h1 _ => e1 j (by omega)) (b13 hd)⟩
    rw [← ef]
    exact ⟨x15, _, _, _, rfl, rfl, x18⟩
  · exact ⟨9, _, n, f, n, f, c_B_balance_no (d := 7) hn h0 x1 hx, c_M_balance0 6 hn r35 s0 hna hx, by omega, ⟨by omega, fs, r35⟩, hI⟩
theorem op_printed (h : inv n f) (x y z : Int32) : OpL 20 125 [.int x, .int y, .int z] n f := by
  have hI := h
  obtain ⟨jo, nd, na, par, us, ki, P, kp, po, pd, pv, kc, ko, ky, kv, ka, k, cd, aj, ad, gn, c, mn, dy, kd, oa, cm, qt, am, wt, L, dr, dd, m, dt, hC, hR, hPI⟩ := h
  have hCC := hC
  have hRR := hR
  obtain ⟨⟨hnd, hndn, hdy, hjo⟩, h0, ⟨x1, x2, x3, x4⟩, ⟨x5, x6, x7, x8⟩, ⟨x9, x10, x11, x12⟩, ⟨x13, cx, x14, hcl⟩, ⟨x15, og, wg, sg, x16, x17, x18⟩, ⟨tx, hJS, hjr⟩, hT, hDr⟩ := hC
  have hJS2 := hJS
  obtain ⟨j0, j1, j2, j3, j4, j5, j6, j7⟩ := hJS
  obtain ⟨fs, xf, ma, w64, lo, lc, lq, lk, pr, adR, pa, r35, hs, hsc, ⟨a36, a37, a38, a39, a40, a41, a42, a43, a44, a45, a46, a47, a48, a49, a50, a51, a52, a53, a54, a55, a56, a57, a58, a59, a60⟩, hma, hw, hsm, hpr, had⟩ := hR
  have hsc2 := hsc
  obtain ⟨s0, s3, s12, s13, s14, s16, s21, s22, s26, s30⟩ := hsc
  have hPI2 := hPI
  obtain ⟨hqA, hqP, hqK, hqC, hqJ, hqD, hX⟩ := hPI
  have hqA2 := hqA
  have hqP2 := hqP
  have hqK2 := hqK
  have hqC2 := hqC
  have hqJ2 := hqJ
  have hqD2 := hqD
  obtain ⟨hP, hna7, hna, hki⟩ := hqA
  obtain ⟨hkp, hdis, hprok⟩ := hqP
  obtain ⟨hkc, hka⟩ := hqK
  obtain ⟨hk, hcd⟩ := hqC
  obtain ⟨hc, hmn, hsr, hps, hbk, hL⟩ := hqJ
  obtain ⟨hm, hdr⟩ := hqD
  have hn : 61 ≤ n := by omega
  have ho : ∀ t k, t < c → k < mn t → oa (6 * t + k) = nI ((fun p => (oa p).toNatClampNeg) (6 * t + k)) ∧ (fun p => (oa p).toNatClampNeg) (6 * t + k) < na := fun t k h1 h2 => pst_ou hna (hps t k h1 h2)
  have hjrn : jr n f tx c mn dy kd oa cm qt am := jr_mono hndn (fun _ _ _ => rfl) hjr
  have hcln : cls n f cx k cd aj ad gn := cls_mono hndn (fun _ _ _ => rfl) hcl
  have hm41 : ∀ t, t < c → ma t = nI (mn t) ∧ mn t ≤ 6 := fun t ht => ⟨hma t ht, hmn t ht⟩
  by_cases hx : (0 ≤ x ∧ x < nI na) ∧ 1 ≤ z ∧ z ≤ 1000000
  · obtain ⟨a, ha, rfl⟩ := ix_of hna hx.1
    have hz1 : 0 < z.toInt64.toInt := by
      have h1 := hx.2.1
      rw [Int32.le_iff_toInt_le] at h1
      have h2 : (1 : Int32).toInt = 1 := by decide
      rw [Int32.toInt_toInt64]
      omega
    have hz0 : ¬ z.toInt64 = 0 := fun e => by
      rw [e] at hz1
      exact absurd hz1 (by decide)
    have hb := c_B_printed (d := 5) (ou := fun p => (oa p).toNatClampNeg) (til := y) (u := z) hn h0 x15 x16 x17 x1 x2 hP hna (by omega) (by omega) (by omega) (by omega) (by omega) (by omega) (by omega) j0 j1 j2 hjrn hc ho x13 x14 hcln hk rfl x18 ha hx.2 hz0
    generalize eo : aJ (sJ (flK og (fun _ => 0) 24) mn (fun p => (oa p).toNatClampNeg) (fun p => (wt p).toInt64) (mo_at dy y c)) ad (mo_cl cd k y) = o at hb
    have eq1 : ∀ b, b < na → o b = mo_bal dy oa w64 mn c cd adR k y b := fun b hb => by
      rw [← eo]
      exact own_eq (ou := fun p => (oa p).toNatClampNeg) hna hsr hb ho hw (fun i hi => (had i b hi (by omega)).symm)
    have eq2 : ∀ b, b < na → wDn P (na - 5) (flK wg o 24) b = tr_S P na (mo_bal dy oa w64 mn c cd adR k y) b := fun b hb => by
      rw [whole_eq hP.1 hna (by omega) hb]
      exact tr_S_c eq1
    generalize wDn P (na - 5) (flK wg o 24) = W at hb eq2
    rw [print_eq hz1 hna hP eq2 eq1 (a + 1) a (by omega) ha] at hb
    generalize ef : jm_up (jm_up (jm_up f 16 (.inl (1, 24, .inr (.inl o)))) 17 (.inl (1, 24, .inr (.inl W)))) 18 (.inl (1, 24, .inr (.inl (shI par P na o W z.toInt64 sg na)))) = f1 at hb
    have e1 : ∀ j, j < 15 ∨ 18 < j → f1 j = f j := fun j hj => by
      rw [← ef, jm_up_n _ _ (by omega), jm_up_n _ _ (by omega), jm_up_n _ _ (by omega)]
    obtain ⟨pa2, hr⟩ := c_M_printed (til := y) (u := z) (x := a) 3 (f := f1) (fs := fs) (na := na) (par := par) (P := P) (c := c) (dy := dy) (ma := ma) (oa := oa) (wt := w64) (mn := mn) (k := k) (cd := cd) (ad := adR) ⟨hn, (e1 35 (by omega)).trans r35, hs, s0, (e1 36 (by omega)).trans a36, hP, hna, s3, (e1 38 (by omega)).trans a38, (e1 39 (by omega)).trans a39, (e1 41 (by omega)).trans a41, (e1 45 (by omega)).trans a45, by omega, hm41, s30, (e1 57 (by omega)).trans a57, hk, (e1 59 (by omega)).trans a59⟩ ((e1 60 (by omega)).trans a60) ha hz0 hx.2.1 hx.2.2
    have hC1 : CI n f1 jo nd na par us ki kp po pd pv kc ko ky kv k cd aj ad gn c mn dy kd oa cm qt am wt L dr dd m dt := by
      obtain ⟨⟨b1, b2, b3, b4⟩, b5, b6, b7, b8, b9, b10, b11, b12, b13⟩ := hCC
      refine ⟨⟨b1, b2, dyb_fr (fun j h1 _ => e1 j (by omega)) b3, b4⟩, c0_fr (e1 0 (by omega)) b5, cA_fr (fun j _ _ => e1 j (by omega)) b6, cP_fr (fun j _ _ => e1 j (by omega)) b7, cK_fr (fun j _ _ => e1 j (by omega)) b8, cC_fr (e1 13 (by omega)) (e1 14 (by omega)) (Nat.le_refl nd) (fun j h1 _ => e1 j (by omega)) b9, ?_, cJ_fr b4 (fun j _ _ => e1 j (by omega)) (Nat.le_refl nd) (fun j h1 _ => e1 j (by omega)) b11, cT_fr b4 (fun j _ _ => e1 j (by omega)) b12, fun hd => drf_fr (Nat.le_refl n) (fun j h1 _ => e1 j (by omega)) (b13 hd)⟩
      rw [← ef]
      exact ⟨x15, _, _, _, rfl, rfl, rfl⟩
    refine ⟨9, _, n, f1, n, _, hb, hr, by omega, ⟨by omega, fs, (e1 35 (by omega)).trans r35⟩, jo, nd, na, par, us, ki, P, kp, po, pd, pv, kc, ko, ky, kv, ka, k, cd, aj, ad, gn, c, mn, dy, kd, oa, cm, qt, am, wt, L, dr, dd, m, dt, CI_fr (fun j hj => jm_up_n _ _ (by omega)) hC1, ?_, hPI2⟩
    obtain ⟨fs, xf, ma, w64, lo, lc, lq, lk, pr, adR, pa, r35, hs, hsc, ⟨a36, a37, a38, a39, a40, a41, a42, a43, a44, a45, a46, a47, a48, a49, a50, a51, a52, a53, a54, a55, a56, a57, a58, a59, a60⟩, hma, hw, hsm, hpr, had⟩ := RI_fr (f2 := f1) (fun j h1 _ => e1 j (by omega)) hRR
    exact ⟨fs, xf, ma, w64, lo, lc, lq, lk, pr, adR, pa2, r35, hs, hsc, ⟨a36, a37, a38, a39, a40, a41, a42, a43, a44, a45, a46, a47, a48, a49, a50, a51, a52, a53, a54, a55, a56, a57, a58, a59, rfl⟩, hma, hw, hsm, hpr, had⟩
  · exact ⟨9, _, n, f, n, f, c_B_printed_no (d := 7) hn h0 x1 hx, c_M_printed_no 3 hn r35 s0 hx, by omega, ⟨by omega, fs, r35⟩, hI⟩
end
