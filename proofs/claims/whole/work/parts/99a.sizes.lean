section
variable {n : Nat} {f : Nat → va_E}
theorem inv_s1 (h : inv n f) : 61 ≤ n ∧ ∀ j, j < n → jm_s1 (f j) ≤ 246 := by
  have hI := h
  obtain ⟨jo, nd, na, par, us, ki, P, kp, po, pd, pv, kc, ko, ky, kv, ka, k, cd, aj, ad, gn, c, mn, dy, kd, oa, cm, qt, am, wt, L, dr, dd, m, dt, hC, hR, hPI⟩ := h
  have hCC := hC
  have hRR := hR
  obtain ⟨⟨hnd, hndn, hdy, hjo⟩, h0, ⟨x1, x2, x3, x4⟩, ⟨x5, x6, x7, x8⟩, ⟨x9, x10, x11, x12⟩, ⟨x13, cx, x14, hcl⟩, ⟨x15, og, wg, sg, x16, x17, x18⟩, ⟨tx, hJS, hjr⟩, hT, hDr⟩ := hC
  have hJS2 := hJS
  obtain ⟨j0, j1, j2, j3, j4, j5, j6, j7⟩ := hJS
  obtain ⟨fs, xf, ma, w64, lo, lc, lq, lk, pr, adR, pa, r35, hs, hsc, ⟨a36, a37, a38, a39, a40, a41, a42, a43, a44, a45, a46, a47, a48, a49, a50, a51, a52, a53, a54, a55, a56, a57, a58, a59, a60⟩, hma, hw, hsm, hpr, had⟩ := hR
  have hsc2 := hsc
  obtain ⟨s0, s3, s12, s13, s14, s16, s21, s22, s26, s30⟩ := hsc
  have hPI2 := hPI
  obtain ⟨hqA, hqP, hqK, hqC, hqJ, hqD, hX⟩ := hPI
  have hqA2 := hqA
  have hqP2 := hqP
  have hqK2 := hqK
  have hqC2 := hqC
  have hqJ2 := hqJ
  have hqD2 := hqD
  obtain ⟨hP, hna7, hna, hki⟩ := hqA
  obtain ⟨hkp, hdis, hprok⟩ := hqP
  obtain ⟨hkc, hka⟩ := hqK
  obtain ⟨hk, hcd⟩ := hqC
  obtain ⟨hc, hmn, hsr, hps, hbk, hL⟩ := hqJ
  obtain ⟨hm, hdr⟩ := hqD
  have hn : 61 ≤ n := by omega
  have ho : ∀ t k, t < c → k < mn t → oa (6 * t + k) = nI ((fun p => (oa p).toNatClampNeg) (6 * t + k)) ∧ (fun p => (oa p).toNatClampNeg) (6 * t + k) < na := fun t k h1 h2 => pst_ou hna (hps t k h1 h2)
  have hjrn : jr n f tx c mn dy kd oa cm qt am := jr_mono hndn (fun _ _ _ => rfl) hjr
  have hcln : cls n f cx k cd aj ad gn := cls_mono hndn (fun _ _ _ => rfl) hcl
  have hm41 : ∀ t, t < c → ma t = nI (mn t) ∧ mn t ≤ 6 := fun t ht => ⟨hma t ht, hmn t ht⟩
  have hlen := mo_st_len hs
  refine ⟨hn, fun j hj => ?_⟩
  by_cases h61 : 61 ≤ j
  · exact Nat.le_trans (hdy j h61 hj) (Nat.le_of_ble_eq_true rfl)
  obtain ⟨c0, gx, w0, L0, t0, t1, t2, t3, t4, t5, t6, t7⟩ := hT
  have key : ∀ i, i < 61 → jm_s1 (f i) ≤ 246 := by
    intro i hi
    by_cases ha : i < 19
    · clear hj
      have hq : i = 0 ∨ i = 1 ∨ i = 2 ∨ i = 3 ∨ i = 4 ∨ i = 5 ∨ i = 6 ∨ i = 7 ∨ i = 8 ∨ i = 9 ∨ i = 10 ∨ i = 11 ∨ i = 12 ∨ i = 13 ∨ i = 14 ∨ i = 15 ∨ i = 16 ∨ i = 17 ∨ i = 18 := by omega
      rcases hq with rfl | rfl | rfl | rfl | rfl | rfl | rfl | rfl | rfl | rfl | rfl | rfl | rfl | rfl | rfl | rfl | rfl | rfl | rfl
      · rw [show f 0 = _ from h0]; exact Nat.le_of_ble_eq_true rfl
      · rw [show f 1 = _ from x1]; exact Nat.le_of_ble_eq_true rfl
      · rw [show f 2 = _ from x2]; exact Nat.le_of_ble_eq_true rfl
      · rw [show f 3 = _ from x3]; exact Nat.le_of_ble_eq_true rfl
      · rw [show f 4 = _ from x4]; exact Nat.le_of_ble_eq_true rfl
      · rw [show f 5 = _ from x5]; exact Nat.le_of_ble_eq_true rfl
      · rw [show f 6 = _ from x6]; exact Nat.le_of_ble_eq_true rfl
      · rw [show f 7 = _ from x7]; exact Nat.le_of_ble_eq_true rfl
      · rw [show f 8 = _ from x8]; exact Nat.le_of_ble_eq_true rfl
      · rw [show f 9 = _ from x9]; exact Nat.le_of_ble_eq_true rfl
      · rw [show f 10 = _ from x10]; exact Nat.le_of_ble_eq_true rfl
      · rw [show f 11 = _ from x11]; exact Nat.le_of_ble_eq_true rfl
      · rw [show f 12 = _ from x12]; exact Nat.le_of_ble_eq_true rfl
      · rw [show f 13 = _ from x13]; exact Nat.le_of_ble_eq_true rfl
      · rw [show f 14 = _ from x14]; exact Nat.le_of_ble_eq_true rfl
      · rw [show f 15 = _ from x15]; exact Nat.le_of_ble_eq_true rfl
      · rw [show f 16 = _ from x16]; exact Nat.le_of_ble_eq_true rfl
      · rw [show f 17 = _ from x17]; exact Nat.le_of_ble_eq_true rfl
      · rw [show f 18 = _ from x18]; exact Nat.le_of_ble_eq_true rfl
    · by_cases hb : i < 35
      · rcases hjo with rfl | rfl
        · clear hj
          have hq : i = 19 ∨ i = 20 ∨ i = 21 ∨ i = 22 ∨ i = 23 ∨ i = 24 ∨ i = 25 ∨ i = 26 ∨ i = 27 ∨ i = 28 ∨ i = 29 ∨ i = 30 ∨ i = 31 ∨ i = 32 ∨ i = 33 ∨ i = 34 := by omega
          rcases hq with rfl | rfl | rfl | rfl | rfl | rfl | rfl | rfl | rfl | rfl | rfl | rfl | rfl | rfl | rfl | rfl
          · rw [show f 19 = _ from j0]; exact Nat.le_of_ble_eq_true rfl
          · rw [show f 20 = _ from j1]; exact Nat.le_of_ble_eq_true rfl
          · rw [show f 21 = _ from j2]; exact Nat.le_of_ble_eq_true rfl
          · rw [show f 22 = _ from j3]; exact Nat.le_of_ble_eq_true rfl
          · rw [show f 23 = _ from j4]; exact Nat.le_of_ble_eq_true rfl
          · rw [show f 24 = _ from j5]; exact Nat.le_of_ble_eq_true rfl
          · rw [show f 25 = _ from j6]; exact Nat.le_of_ble_eq_true rfl
          · rw [show f 26 = _ from j7]; exact Nat.le_of_ble_eq_true rfl
          · rw [show f 27 = _ from t0]; exact Nat.le_of_ble_eq_true rfl
          · rw [show f 28 = _ from t1]; exact Nat.le_of_ble_eq_true rfl
          · rw [show f 29 = _ from t2]; exact Nat.le_of_ble_eq_true rfl
          · rw [show f 30 = _ from t3]; exact Nat.le_of_ble_eq_true rfl
          · rw [show f 31 = _ from t4]; exact Nat.le_of_ble_eq_true rfl
          · rw [show f 32 = _ from t5]; exact Nat.le_of_ble_eq_true rfl
          · rw [show f 33 = _ from t6]; exact Nat.le_of_ble_eq_true rfl
          · rw [show f 34 = _ from t7]; exact Nat.le_of_ble_eq_true rfl
        · clear hj
          have hq : i = 19 ∨ i = 20 ∨ i = 21 ∨ i = 22 ∨ i = 23 ∨ i = 24 ∨ i = 25 ∨ i = 26 ∨ i = 27 ∨ i = 28 ∨ i = 29 ∨ i = 30 ∨ i = 31 ∨ i = 32 ∨ i = 33 ∨ i = 34 := by omega
          rcases hq with rfl | rfl | rfl | rfl | rfl | rfl | rfl | rfl | rfl | rfl | rfl | rfl | rfl | rfl | rfl | rfl
          · rw [show f 19 = _ from t0]; exact Nat.le_of_ble_eq_true rfl
          · rw [show f 20 = _ from t1]; exact Nat.le_of_ble_eq_true rfl
          · rw [show f 21 = _ from t2]; exact Nat.le_of_ble_eq_true rfl
          · rw [show f 22 = _ from t3]; exact Nat.le_of_ble_eq_true rfl
          · rw [show f 23 = _ from t4]; exact Nat.le_of_ble_eq_true rfl
          · rw [show f 24 = _ from t5]; exact Nat.le_of_ble_eq_true rfl
          · rw [show f 25 = _ from t6]; exact Nat.le_of_ble_eq_true rfl
          · rw [show f 26 = _ from t7]; exact Nat.le_of_ble_eq_true rfl
          · rw [show f 27 = _ from j0]; exact Nat.le_of_ble_eq_true rfl
          · rw [show f 28 = _ from j1]; exact Nat.le_of_ble_eq_true rfl
          · rw [show f 29 = _ from j2]; exact Nat.le_of_ble_eq_true rfl
          · rw [show f 30 = _ from j3]; exact Nat.le_of_ble_eq_true rfl
          · rw [show f 31 = _ from j4]; exact Nat.le_of_ble_eq_true rfl
          · rw [show f 32 = _ from j5]; exact Nat.le_of_ble_eq_true rfl
          · rw [show f 33 = _ from j6]; exact Nat.le_of_ble_eq_true rfl
          · rw [show f 34 = _ from j7]; exact Nat.le_of_ble_eq_true rfl
      · clear hj
        have hq : i = 35 ∨ i = 36 ∨ i = 37 ∨ i = 38 ∨ i = 39 ∨ i = 40 ∨ i = 41 ∨ i = 42 ∨ i = 43 ∨ i = 44 ∨ i = 45 ∨ i = 46 ∨ i = 47 ∨ i = 48 ∨ i = 49 ∨ i = 50 ∨ i = 51 ∨ i = 52 ∨ i = 53 ∨ i = 54 ∨ i = 55 ∨ i = 56 ∨ i = 57 ∨ i = 58 ∨ i = 59 ∨ i = 60 := by omega
        rcases hq with rfl | rfl | rfl | rfl | rfl | rfl | rfl | rfl | rfl | rfl | rfl | rfl | rfl | rfl | rfl | rfl | rfl | rfl | rfl | rfl | rfl | rfl | rfl | rfl | rfl | rfl
        · rw [r35]; show fs.length ≤ 246; omega
        · rw [show f 36 = _ from a36]; exact Nat.le_of_ble_eq_true rfl
        · rw [show f 37 = _ from a37]; exact Nat.le_of_ble_eq_true rfl
        · rw [show f 38 = _ from a38]; exact Nat.le_of_ble_eq_true rfl
        · rw [show f 39 = _ from a39]; exact Nat.le_of_ble_eq_true rfl
        · rw [show f 40 = _ from a40]; exact Nat.le_of_ble_eq_true rfl
        · rw [show f 41 = _ from a41]; exact Nat.le_of_ble_eq_true rfl
        · rw [show f 42 = _ from a42]; exact Nat.le_of_ble_eq_true rfl
        · rw [show f 43 = _ from a43]; exact Nat.le_of_ble_eq_true rfl
        · rw [show f 44 = _ from a44]; exact Nat.le_of_ble_eq_true rfl
        · rw [show f 45 = _ from a45]; exact Nat.le_of_ble_eq_true rfl
        · rw [show f 46 = _ from a46]; exact Nat.le_of_ble_eq_true rfl
        · rw [show f 47 = _ from a47]; exact Nat.le_of_ble_eq_true rfl
        · rw [show f 48 = _ from a48]; exact Nat.le_of_ble_eq_true rfl
        · rw [show f 49 = _ from a49]; exact Nat.le_of_ble_eq_true rfl
        · rw [show f 50 = _ from a50]; exact Nat.le_of_ble_eq_true rfl
        · rw [show f 51 = _ from a51]; exact Nat.le_of_ble_eq_true rfl
        · rw [show f 52 = _ from a52]; exact Nat.le_of_ble_eq_true rfl
        · rw [show f 53 = _ from a53]; exact Nat.le_of_ble_eq_true rfl
        · rw [show f 54 = _ from a54]; exact Nat.le_of_ble_eq_true rfl
        · rw [show f 55 = _ from a55]; exact Nat.le_of_ble_eq_true rfl
        · rw [show f 56 = _ from a56]; exact Nat.le_of_ble_eq_true rfl
        · rw [show f 57 = _ from a57]; exact Nat.le_of_ble_eq_true rfl
        · rw [show f 58 = _ from a58]; exact Nat.le_of_ble_eq_true rfl
        · rw [show f 59 = _ from a59]; exact Nat.le_of_ble_eq_true rfl
        · rw [show f 60 = _ from a60]; exact Nat.le_of_ble_eq_true rfl
  exact key j (by omega)
theorem inv_sl (h : inv n f) : jm_sl (n, f) ≤ 246 * n := jm_sm_le (inv_s1 h).2
end
