section
variable {n : Nat} {f : Nat → va_E}
theorem upd_id {g : Nat → Int32} {e : Nat} {v : Int32} (h : g e = v) : upd g e v = g := by
  funext j
  show (if j = e then v else g j) = g j
  by_cases h2 : j = e
  · rw [if_pos h2, h2, h]
  · rw [if_neg h2]
theorem lc_le {cd : Nat → Int32} {k i : Nat} (h : qC k cd) (hi : i < k) : cd i ≤ mo_lc cd k := by
  unfold mo_lc
  rw [if_neg (by omega)]
  by_cases e : i = k - 1
  · rw [e]; exact Int32.le_refl _
  · exact Int32.le_of_lt (h.2 i (k - 1) (by omega) (by omega))
theorem nI_e {a b : Nat} (ha : a < 2 ^ 31) (hb : b < 2 ^ 31) (h : a ≠ b) : ¬ nI a = nI b := fun e => h ((nI_eq ha hb).mp e)
/-- one account more -/
def Pn (P : Nat → Nat) (na a : Nat) : Nat → Nat := fun j => if j = na then a else P j
theorem Pn_n {P : Nat → Nat} {na a : Nat} : Pn P na a na = a := if_pos rfl
theorem Pn_o {P : Nat → Nat} {na a j : Nat} (h : j ≠ na) : Pn P na a j = P j := if_neg h
theorem Pn_ok {P : Nat → Nat} {na a : Nat} (hp : tr_ok P na) (ha : a < na) : tr_ok (Pn P na a) (na + 1) := fun j h5 hj => by
  by_cases e : j = na
  · rw [e, Pn_n]; exact ha
  · rw [Pn_o e]; exact hp j h5 (by omega)
theorem Pn_root {P : Nat → Nat} {na a : Nat} (hp : tr_ok P na) (ha : a < na) : ∀ (m j : Nat), j < m → j < na → tr_root (Pn P na a) j = tr_root P j
  | 0, _, h, _ => by omega
  | m + 1, j, h, hj => by
    rw [tr_root_eq (Pn_ok hp ha) (show j < na + 1 by omega), tr_root_eq hp hj, Pn_o (show j ≠ na by omega)]
    by_cases h5 : 5 ≤ j
    · have := hp j h5 hj
      rw [if_pos h5, if_pos h5, Pn_root hp ha m (P j) (by omega) (by omega)]
    · rw [if_neg h5, if_neg h5]
theorem qA_s {na a : Nat} {par ki : Nat → Int32} {P : Nat → Nat} (h : qA na par ki P) (ha : a < na) (h24 : na < 24) : qA (na + 1) (upd par na (nI a)) (upd ki na (ki a)) (Pn P na a) := by
  obtain ⟨⟨h1, h2, h3⟩, h4, h5, h6⟩ := h
  refine ⟨⟨Pn_ok h1 ha, fun j hj h5j => ?_, fun j hj h5j => ?_⟩, by omega, by omega, fun j hj => ?_⟩
  · by_cases e : j = na
    · rw [e, pk_us, Pn_n]
    · rw [pk_un e, Pn_o e]; exact h2 j (by omega) h5j
  · rw [pk_un (by omega)]; exact h3 j (by omega) h5j
  · by_cases e : j = na
    · rw [e, pk_us, tr_root_eq (Pn_ok h1 ha) (show na < na + 1 by omega), if_pos (by omega), Pn_n, Pn_root h1 ha (a + 1) a (by omega) ha]
      exact h6 a ha
    · rw [pk_un e, Pn_root h1 ha (j + 1) j (by omega) (by omega)]
      exact h6 j (by omega)
theorem op_open (h : inv n f) (x y : Int32) : OpI 1 83 [.int x, .int y] n f := by
  have hI := h
  obtain ⟨jo, nd, na, par, us, ki, P, kp, po, pd, pv, kc, ko, ky, kv, ka, k, cd, aj, ad, gn, c, mn, dy, kd, oa, cm, qt, am, wt, L, dr, dd, m, dt, hC, hR, hPI⟩ := h
  have hCC := hC
  have hRR := hR
  obtain ⟨⟨hnd, hndn, hdy, hjo⟩, h0, ⟨x1, x2, x3, x4⟩, ⟨x5, x6, x7, x8⟩, ⟨x9, x10, x11, x12⟩, ⟨x13, cx, x14, hcl⟩, ⟨x15, og, wg, sg, x16, x17, x18⟩, ⟨tx, hJS, hjr⟩, hT, hDr⟩ := hC
  have hJS2 := hJS
  obtain ⟨j0, j1, j2, j3, j4, j5, j6, j7⟩ := hJS
  obtain ⟨fs, xf, ma, w64, lo, lc, lq, lk, pr, adR, pa, r35, hs, hsc, ⟨a36, a37, a38, a39, a40, a41, a42, a43, a44, a45, a46, a47, a48, a49, a50, a51, a52, a53, a54, a55, a56, a57, a58, a59, a60⟩, hma, hw, hsm, hpr, had⟩ := hR
  have hsc2 := hsc
  obtain ⟨s0, s3, s12, s13, s14, s16, s21, s22, s26, s30⟩ := hsc
  have hPI2 := hPI
  obtain ⟨hqA, hqP, hqK, hqC, hqJ, hqD, hX⟩ := hPI
  have hqA2 := hqA
  have hqP2 := hqP
  have hqK2 := hqK
  have hqC2 := hqC
  have hqJ2 := hqJ
  have hqD2 := hqD
  obtain ⟨hP, hna7, hna, hki⟩ := hqA
  obtain ⟨hkp, hdis, hprok⟩ := hqP
  obtain ⟨hkc, hka⟩ := hqK
  obtain ⟨hk, hcd⟩ := hqC
  obtain ⟨hc, hmn, hsr, hps, hbk, hL⟩ := hqJ
  obtain ⟨hm, hdr⟩ := hqD
  have hn : 61 ≤ n := by omega
  have ho : ∀ t k, t < c → k < mn t → oa (6 * t + k) = nI ((fun p => (oa p).toNatClampNeg) (6 * t + k)) ∧ (fun p => (oa p).toNatClampNeg) (6 * t + k) < na := fun t k h1 h2 => pst_ou hna (hps t k h1 h2)
  have hjrn : jr n f tx c mn dy kd oa cm qt am := jr_mono hndn (fun _ _ _ => rfl) hjr
  have hcln : cls n f cx k cd aj ad gn := cls_mono hndn (fun _ _ _ => rfl) hcl
  have hm41 : ∀ t, t < c → ma t = nI (mn t) ∧ mn t ≤ 6 := fun t ht => ⟨hma t ht, hmn t ht⟩
  by_cases hx : (0 ≤ x ∧ x < nI na) ∧ (0 ≤ y ∧ y ≤ 9999) ∧ na < 24
  · obtain ⟨a, ha, rfl⟩ := ix_of hna hx.1
    have hb := c_B_open (d := 6) hn h0 x1 x2 x3 x4 hx.2.2 ha hx.2.1
    generalize ef : jm_up (jm_up (jm_up (jm_up f 2 (.inl (0, 24, .inl (upd par na (nI a))))) 3 (.inl (0, 24, .inl (upd ki na (ki a))))) 4 (.inl (0, 24, .inl (upd us na y)))) 1 (.inr (1, [.ref 2, .ref 3, .ref 4, .int (nI (na + 1))])) = f1 at hb
    have e1 : ∀ j, j < 1 ∨ 4 < j → f1 j = f j := fun j hj => by
      rw [← ef, jm_up_n _ _ (by omega), jm_up_n _ _ (by omega), jm_up_n _ _ (by omega), jm_up_n _ _ (by omega)]
    have hr := c_M_open 7 hn ((e1 35 (by omega)).trans r35) hs s0 ((e1 36 (by omega)).trans a36) ((e1 37 (by omega)).trans a37) hx.2.2 hx.1 hx.2.1.1 hx.2.1.2
    have hC1 : CI n f1 jo nd (na + 1) (upd par na (nI a)) (upd us na y) (upd ki na (ki a)) kp po pd pv kc ko ky kv k cd aj ad gn c mn dy kd oa cm qt am wt L dr dd m dt := by
      obtain ⟨⟨b1, b2, b3, b4⟩, b5, b6, b7, b8, b9, b10, b11, b12, b13⟩ := hCC
      refine ⟨⟨b1, b2, dyb_fr (fun j h1 _ => e1 j (by omega)) b3, b4⟩, c0_fr (e1 0 (by omega)) b5, ?_, cP_fr (fun j _ _ => e1 j (by omega)) b7, cK_fr (fun j _ _ => e1 j (by omega)) b8, cC_fr (e1 13 (by omega)) (e1 14 (by omega)) (Nat.le_refl nd) (fun j h1 _ => e1 j (by omega)) b9, cS_fr (fun j _ _ => e1 j (by omega)) b10, cJ_fr b4 (fun j _ _ => e1 j (by omega)) (Nat.le_refl nd) (fun j h1 _ => e1 j (by omega)) b11, cT_fr b4 (fun j _ _ => e1 j (by omega)) b12, fun hd => drf_fr (Nat.le_refl n) (fun j h1 _ => e1 j (by omega)) (b13 hd)⟩
      rw [← ef]
      exact ⟨rfl, rfl, rfl, rfl⟩
    refine ⟨9, _, n, f1, n, _, hb, hr, by omega, ⟨by omega, fs, (e1 35 (by omega)).trans r35⟩, jo, nd, na + 1, upd par na (nI a), upd us na y, upd ki na (ki a), Pn P na a, kp, po, pd, pv, kc, ko, ky, kv, ka, k, cd, aj, ad, gn, c, mn, dy, kd, oa, cm, qt, am, wt, L, dr, dd, m, dt, CI_fr (fun j hj => by rw [jm_up_n _ _ (by omega), jm_up_n _ _ (by omega), jm_up_n _ _ (by omega)]) hC1, ?_, qA_s hqA2 ha hx.2.2, hqP2, ⟨hkc, fun i hi => ⟨(hka i hi).1, by have := (hka i hi).2; omega⟩⟩, hqC2, ⟨hc, hmn, hsr, fun t i h1 h2 => pst_up (by omega) (hps t i h1 h2), hbk, hL⟩, ⟨hm, fun hd => ⟨(hdr hd).1, (hdr hd).2.1, fun i hi => pst_up (by omega) ((hdr hd).2.2 i hi)⟩⟩, hX⟩
    exact ⟨_, xf, ma, w64, lo, lc, lq, lk, pr, adR, pa, rfl, mo_st_set hs (by decide), sc_0 hs hsc2 (na + 1), ⟨rfl, rfl, (e1 38 (by omega)).trans a38, (e1 39 (by omega)).trans a39, (e1 40 (by omega)).trans a40, (e1 41 (by omega)).trans a41, (e1 42 (by omega)).trans a42, (e1 43 (by omega)).trans a43, (e1 44 (by omega)).trans a44, (e1 45 (by omega)).trans a45, (e1 46 (by omega)).trans a46, (e1 47 (by omega)).trans a47, (e1 48 (by omega)).trans a48, (e1 49 (by omega)).trans a49, (e1 50 (by omega)).trans a50, (e1 51 (by omega)).trans a51, (e1 52 (by omega)).trans a52, (e1 53 (by omega)).trans a53, (e1 54 (by omega)).trans a54, (e1 55 (by omega)).trans a55, (e1 56 (by omega)).trans a56, (e1 57 (by omega)).trans a57, (e1 58 (by omega)).trans a58, (e1 59 (by omega)).trans a59, (e1 60 (by omega)).trans a60⟩, hma, hw, hsm, hpr, had⟩
  · refine ⟨9, _, n, f, n, f, c_B_open_no (d := 6) hn h0 x1 hna hx, c_M_open_no 7 hn r35 s0 (fun h => hx ⟨h.1, ⟨h.2.1, h.2.2.1⟩, ?_⟩), by omega, ⟨by omega, fs, r35⟩, hI⟩
    have : na ≠ 24 := fun e => h.2.2.2 (by rw [e]; rfl)
    omega
theorem op_begin (h : inv n f) (x : Int32) : OpI 2 85 [.int x] n f := by
  have hI := h
  obtain ⟨jo, nd, na, par, us, ki, P, kp, po, pd, pv, kc, ko, ky, kv, ka, k, cd, aj, ad, gn, c, mn, dy, kd, oa, cm, qt, am, wt, L, dr, dd, m, dt, hC, hR, hPI⟩ := h
  have hCC := hC
  have hRR := hR
  obtain ⟨⟨hnd, hndn, hdy, hjo⟩, h0, ⟨x1, x2, x3, x4⟩, ⟨x5, x6, x7, x8⟩, ⟨x9, x10, x11, x12⟩, ⟨x13, cx, x14, hcl⟩, ⟨x15, og, wg, sg, x16, x17, x18⟩, ⟨tx, hJS, hjr⟩, hT, hDr⟩ := hC
  have hJS2 := hJS
  obtain ⟨j0, j1, j2, j3, j4, j5, j6, j7⟩ := hJS
  obtain ⟨fs, xf, ma, w64, lo, lc, lq, lk, pr, adR, pa, r35, hs, hsc, ⟨a36, a37, a38, a39, a40, a41, a42, a43, a44, a45, a46, a47, a48, a49, a50, a51, a52, a53, a54, a55, a56, a57, a58, a59, a60⟩, hma, hw, hsm, hpr, had⟩ := hR
  have hsc2 := hsc
  obtain ⟨s0, s3, s12, s13, s14, s16, s21, s22, s26, s30⟩ := hsc
  have hPI2 := hPI
  obtain ⟨hqA, hqP, hqK, hqC, hqJ, hqD, hX⟩ := hPI
  have hqA2 := hqA
  have hqP2 := hqP
  have hqK2 := hqK
  have hqC2 := hqC
  have hqJ2 := hqJ
  have hqD2 := hqD
  obtain ⟨hP, hna7, hna, hki⟩ := hqA
  obtain ⟨hkp, hdis, hprok⟩ := hqP
  obtain ⟨hkc, hka⟩ := hqK
  obtain ⟨hk, hcd⟩ := hqC
  obtain ⟨hc, hmn, hsr, hps, hbk, hL⟩ := hqJ
  obtain ⟨hm, hdr⟩ := hqD
  have hn : 61 ≤ n := by omega
  have ho : ∀ t k, t < c → k < mn t → oa (6 * t + k) = nI ((fun p => (oa p).toNatClampNeg) (6 * t + k)) ∧ (fun p => (oa p).toNatClampNeg) (6 * t + k) < na := fun t k h1 h2 => pst_ou hna (hps t k h1 h2)
  have hjrn : jr n f tx c mn dy kd oa cm qt am := jr_mono hndn (fun _ _ _ => rfl) hjr
  have hcln : cls n f cx k cd aj ad gn := cls_mono hndn (fun _ _ _ => rfl) hcl
  have hm41 : ∀ t, t < c → ma t = nI (mn t) ∧ mn t ≤ 6 := fun t ht => ⟨hma t ht, hmn t ht⟩
  cases dr with
  | true =>
    exact ⟨9, _, n, f, n, f, c_B_begin_d (d := 5) hn h0, c_M_begin_no 7 hn r35 hs s3 s12 s30 a57 hk (fun h => absurd h.1 (by decide)), by omega, ⟨by omega, fs, r35⟩, hI⟩
  | false =>
    by_cases hx : (0 ≤ x ∧ x ≤ 9999 ∧ mo_lc cd k < x) ∧ c < 40
    · have hb := c_B_begin (d := 5) hn h0 (by omega) j0 hx.2 x13 x14 hcln hk hx.1
      generalize ef : jm_up (jm_up (jm_up f (n + 1) (.inl (4, 6, .inr (.inr (.inr (.inr (fun _ => none))))))) n (.inr (10, [.int x, .ref (n + 1), .int 0]))) 0 (.inr (0, [.ref 1, .ref 5, .ref 9, .ref 13, .ref 15, .ref jo, .ref (46 - jo), .ref n])) = f1 at hb
      have e1 : ∀ j, 0 < j ∧ j < n → f1 j = f j := fun j hj => by
        rw [← ef, jm_up_n _ _ (by omega), jm_up_n _ _ (by omega), jm_up_n _ _ (by omega)]
      have en : f1 n = .inr (10, [.int x, .ref (n + 1), .int 0]) := by
        rw [← ef, jm_up_n _ _ (by omega), jm_up_s]
      have en1 : f1 (n + 1) = .inl (4, 6, .inr (.inr (.inr (.inr (fun _ => none))))) := by
        rw [← ef, jm_up_n _ _ (by omega), jm_up_n _ _ (by omega), jm_up_s]
      have hr := c_M_begin (x := x) 7 (show 61 ≤ n + 2 by omega) ((e1 35 (by omega)).trans r35) hs s3 s12 s30 ((e1 57 (by omega)).trans a57) hk hx.1.1 hx.1.2.1 hx.1.2.2 (nI_e (by omega) (show 40 < 2 ^ 31 by decide) (show c ≠ 40 by omega))
      have hC1 : CI (n + 2) f1 jo n na par us ki kp po pd pv kc ko ky kv k cd aj ad gn c mn dy kd oa cm qt am wt L true x 0 dt := by
        obtain ⟨⟨b1, b2, b3, b4⟩, b5, b6, b7, b8, b9, b10, b11, b12, b13⟩ := hCC
        refine ⟨⟨by omega, by omega, ?_, b4⟩, ?_, cA_fr (fun j _ _ => e1 j (by omega)) b6, cP_fr (fun j _ _ => e1 j (by omega)) b7, cK_fr (fun j _ _ => e1 j (by omega)) b8, cC_fr (e1 13 (by omega)) (e1 14 (by omega)) b2 (fun j h1 _ => e1 j (by omega)) b9, cS_fr (fun j _ _ => e1 j (by omega)) b10, cJ_fr b4 (fun j _ _ => e1 j (by omega)) b2 (fun j h1 _ => e1 j (by omega)) b11, cT_fr b4 (fun j _ _ => e1 j (by omega)) b12, fun _ => ⟨by omega, by rw [en, nI_0], _, en1, fun i hi => absurd hi (Nat.not_lt_zero i)⟩⟩
        · intro j h1 h2
          by_cases q1 : j = n
          · rw [q1, en]; exact Nat.le_of_ble_eq_true rfl
          · by_cases q2 : j = n + 1
            · rw [q2, en1]; exact Nat.le_of_ble_eq_true rfl
            · rw [e1 j (by omega)]; exact b3 j h1 (by omega)
        · rw [← ef]
          exact rfl
      refine ⟨9, _, n + 2, f1, n + 2, _, hb, hr, by omega, ⟨by omega, fs, (e1 35 (by omega)).trans r35⟩, jo, n, na, par, us, ki, P, kp, po, pd, pv, kc, ko, ky, kv, ka, k, cd, aj, ad, gn, c, mn, dy, kd, oa, cm, qt, am, wt, L, true, x, 0, dt, CI_fr (fun j hj => jm_up_n _ _ (by omega)) hC1, ?_, hqA2, hqP2, hqK2, hqC2, hqJ2, ⟨by omega, fun _ => ⟨hx.2, hx.1.2.2, fun i hi => absurd hi (Nat.not_lt_zero i)⟩⟩, hX⟩
      exact ⟨_, xf, ma, w64, lo, lc, lq, lk, pr, adR, pa, rfl, mo_st_set (mo_st_set (mo_st_set hs (by decide)) (by decide)) (by decide), sc_14 (mo_st_set (mo_st_set hs (by decide)) (by decide)) (sc_13 (mo_st_set hs (by decide)) (sc_12 hs hsc2 true) x) 0, ⟨(e1 36 (by omega)).trans a36, (e1 37 (by omega)).trans a37, (e1 38 (by omega)).trans a38, (e1 39 (by omega)).trans a39, (e1 40 (by omega)).trans a40, (e1 41 (by omega)).trans a41, (e1 42 (by omega)).trans a42, (e1 43 (by omega)).trans a43, (e1 44 (by omega)).trans a44, (e1 45 (by omega)).trans a45, (e1 46 (by omega)).trans a46, (e1 47 (by omega)).trans a47, (e1 48 (by omega)).trans a48, (e1 49 (by omega)).trans a49, (e1 50 (by omega)).trans a50, (e1 51 (by omega)).trans a51, (e1 52 (by omega)).trans a52, (e1 53 (by omega)).trans a53, (e1 54 (by omega)).trans a54, (e1 55 (by omega)).trans a55, (e1 56 (by omega)).trans a56, (e1 57 (by omega)).trans a57, (e1 58 (by omega)).trans a58, (e1 59 (by omega)).trans a59, (e1 60 (by omega)).trans a60⟩, hma, hw, hsm, hpr, had⟩
    · refine ⟨9, _, n, f, n, f, c_B_begin_no (d := 5) hn h0 (by omega) j0 hc x13 x14 hcln hk hx, c_M_begin_no 7 hn r35 hs s3 s12 s30 a57 hk (fun h => hx ⟨⟨h.2.1, h.2.2.1, h.2.2.2.1⟩, ?_⟩), by omega, ⟨by omega, fs, r35⟩, hI⟩
      have : c ≠ 40 := fun e => h.2.2.2.2 (by rw [e]; rfl)
      omega
theorem op_drop (h : inv n f) : OpI 8 93 [] n f := by
  have hI := h
  obtain ⟨jo, nd, na, par, us, ki, P, kp, po, pd, pv, kc, ko, ky, kv, ka, k, cd, aj, ad, gn, c, mn, dy, kd, oa, cm, qt, am, wt, L, dr, dd, m, dt, hC, hR, hPI⟩ := h
  have hCC := hC
  have hRR := hR
  obtain ⟨⟨hnd, hndn, hdy, hjo⟩, h0, ⟨x1, x2, x3, x4⟩, ⟨x5, x6, x7, x8⟩, ⟨x9, x10, x11, x12⟩, ⟨x13, cx, x14, hcl⟩, ⟨x15, og, wg, sg, x16, x17, x18⟩, ⟨tx, hJS, hjr⟩, hT, hDr⟩ := hC
  have hJS2 := hJS
  obtain ⟨j0, j1, j2, j3, j4, j5, j6, j7⟩ := hJS
  obtain ⟨fs, xf, ma, w64, lo, lc, lq, lk, pr, adR, pa, r35, hs, hsc, ⟨a36, a37, a38, a39, a40, a41, a42, a43, a44, a45, a46, a47, a48, a49, a50, a51, a52, a53, a54, a55, a56, a57, a58, a59, a60⟩, hma, hw, hsm, hpr, had⟩ := hR
  have hsc2 := hsc
  obtain ⟨s0, s3, s12, s13, s14, s16, s21, s22, s26, s30⟩ := hsc
  have hPI2 := hPI
  obtain ⟨hqA, hqP, hqK, hqC, hqJ, hqD, hX⟩ := hPI
  have hqA2 := hqA
  have hqP2 := hqP
  have hqK2 := hqK
  have hqC2 := hqC
  have hqJ2 := hqJ
  have hqD2 := hqD
  obtain ⟨hP, hna7, hna, hki⟩ := hqA
  obtain ⟨hkp, hdis, hprok⟩ := hqP
  obtain ⟨hkc, hka⟩ := hqK
  obtain ⟨hk, hcd⟩ := hqC
  obtain ⟨hc, hmn, hsr, hps, hbk, hL⟩ := hqJ
  obtain ⟨hm, hdr⟩ := hqD
  have hn : 61 ≤ n := by omega
  have ho : ∀ t k, t < c → k < mn t → oa (6 * t + k) = nI ((fun p => (oa p).toNatClampNeg) (6 * t + k)) ∧ (fun p => (oa p).toNatClampNeg) (6 * t + k) < na := fun t k h1 h2 => pst_ou hna (hps t k h1 h2)
  have hjrn : jr n f tx c mn dy kd oa cm qt am := jr_mono hndn (fun _ _ _ => rfl) hjr
  have hcln : cls n f cx k cd aj ad gn := cls_mono hndn (fun _ _ _ => rfl) hcl
  have hm41 : ∀ t, t < c → ma t = nI (mn t) ∧ mn t ≤ 6 := fun t ht => ⟨hma t ht, hmn t ht⟩
  cases dr with
  | true =>
    have hb := c_B_drop (d := 8) hn h0
    generalize ef : jm_up f 0 (.inr (0, [.ref 1, .ref 5, .ref 9, .ref 13, .ref 15, .ref jo, .ref (46 - jo), .null])) = f1 at hb
    have e1 : ∀ j, 0 < j → f1 j = f j := fun j hj => by
      rw [← ef, jm_up_n _ _ (by omega)]
    have hr := c_M_drop 8 hn ((e1 35 (by omega)).trans r35) hs s12 (.inr rfl)
    have hC1 : CI n f1 jo nd na par us ki kp po pd pv kc ko ky kv k cd aj ad gn c mn dy kd oa cm qt am wt L false dd m dt := by
      obtain ⟨⟨b1, b2, b3, b4⟩, b5, b6, b7, b8, b9, b10, b11, b12, b13⟩ := hCC
      refine ⟨⟨b1, b2, dyb_fr (fun j h1 _ => e1 j (by omega)) b3, b4⟩, ?_, cA_fr (fun j _ _ => e1 j (by omega)) b6, cP_fr (fun j _ _ => e1 j (by omega)) b7, cK_fr (fun j _ _ => e1 j (by omega)) b8, cC_fr (e1 13 (by omega)) (e1 14 (by omega)) (Nat.le_refl nd) (fun j h1 _ => e1 j (by omega)) b9, cS_fr (fun j _ _ => e1 j (by omega)) b10, cJ_fr b4 (fun j _ _ => e1 j (by omega)) (Nat.le_refl nd) (fun j h1 _ => e1 j (by omega)) b11, cT_fr b4 (fun j _ _ => e1 j (by omega)) b12, fun hd => by cases hd⟩
      rw [← ef]
      exact rfl
    refine ⟨9, _, n, f1, n, _, hb, hr, by omega, ⟨by omega, fs, (e1 35 (by omega)).trans r35⟩, jo, nd, na, par, us, ki, P, kp, po, pd, pv, kc, ko, ky, kv, ka, k, cd, aj, ad, gn, c, mn, dy, kd, oa, cm, qt, am, wt, L, false, dd, m, dt, CI_fr (fun j hj => jm_up_n _ _ (by omega)) hC1, ?_, hqA2, hqP2, hqK2, hqC2, hqJ2, ⟨hm, fun hd => by cases hd⟩, hX⟩
    exact ⟨_, xf, ma, w64, lo, lc, lq, lk, pr, adR, pa, rfl, mo_st_set hs (by decide), sc_12 hs hsc2 false, ⟨(e1 36 (by omega)).trans a36, (e1 37 (by omega)).trans a37, (e1 38 (by omega)).trans a38, (e1 39 (by omega)).trans a39, (e1 40 (by omega)).trans a40, (e1 41 (by omega)).trans a41, (e1 42 (by omega)).trans a42, (e1 43 (by omega)).trans a43, (e1 44 (by omega)).trans a44, (e1 45 (by omega)).trans a45, (e1 46 (by omega)).trans a46, (e1 47 (by omega)).trans a47, (e1 48 (by omega)).trans a48, (e1 49 (by omega)).trans a49, (e1 50 (by omega)).trans a50, (e1 51 (by omega)).trans a51, (e1 52 (by omega)).trans a52, (e1 53 (by omega)).trans a53, (e1 54 (by omega)).trans a54, (e1 55 (by omega)).trans a55, (e1 56 (by omega)).trans a56, (e1 57 (by omega)).trans a57, (e1 58 (by omega)).trans a58, (e1 59 (by omega)).trans a59, (e1 60 (by omega)).trans a60⟩, hma, hw, hsm, hpr, had⟩
  | false =>
    have hr := c_M_drop 8 hn r35 hs s12 (.inl rfl)
    have e1 : ∀ j, 0 < j → f j = f j := fun j _ => rfl
    refine ⟨9, _, n, f, n, _, c_B_drop_no (d := 8) hn h0, hr, by omega, ⟨by omega, fs, (e1 35 (by omega)).trans r35⟩, jo, nd, na, par, us, ki, P, kp, po, pd, pv, kc, ko, ky, kv, ka, k, cd, aj, ad, gn, c, mn, dy, kd, oa, cm, qt, am, wt, L, false, dd, m, dt, CI_fr (fun j hj => jm_up_n _ _ (by omega)) hCC, ?_, hPI2⟩
    exact ⟨_, xf, ma, w64, lo, lc, lq, lk, pr, adR, pa, rfl, mo_st_set hs (by decide), sc_12 hs hsc2 false, ⟨(e1 36 (by omega)).trans a36, (e1 37 (by omega)).trans a37, (e1 38 (by omega)).trans a38, (e1 39 (by omega)).trans a39, (e1 40 (by omega)).trans a40, (e1 41 (by omega)).trans a41, (e1 42 (by omega)).trans a42, (e1 43 (by omega)).trans a43, (e1 44 (by omega)).trans a44, (e1 45 (by omega)).trans a45, (e1 46 (by omega)).trans a46, (e1 47 (by omega)).trans a47, (e1 48 (by omega)).trans a48, (e1 49 (by omega)).trans a49, (e1 50 (by omega)).trans a50, (e1 51 (by omega)).trans a51, (e1 52 (by omega)).trans a52, (e1 53 (by omega)).trans a53, (e1 54 (by omega)).trans a54, (e1 55 (by omega)).trans a55, (e1 56 (by omega)).trans a56, (e1 57 (by omega)).trans a57, (e1 58 (by omega)).trans a58, (e1 59 (by omega)).trans a59, (e1 60 (by omega)).trans a60⟩, hma, hw, hsm, hpr, had⟩
theorem op_reopen (h : inv n f) : OpI 15 117 [] n f := by
  have hI := h
  obtain ⟨jo, nd, na, par, us, ki, P, kp, po, pd, pv, kc, ko, ky, kv, ka, k, cd, aj, ad, gn, c, mn, dy, kd, oa, cm, qt, am, wt, L, dr, dd, m, dt, hC, hR, hPI⟩ := h
  have hCC := hC
  have hRR := hR
  obtain ⟨⟨hnd, hndn, hdy, hjo⟩, h0, ⟨x1, x2, x3, x4⟩, ⟨x5, x6, x7, x8⟩, ⟨x9, x10, x11, x12⟩, ⟨x13, cx, x14, hcl⟩, ⟨x15, og, wg, sg, x16, x17, x18⟩, ⟨tx, hJS, hjr⟩, hT, hDr⟩ := hC
  have hJS2 := hJS
  obtain ⟨j0, j1, j2, j3, j4, j5, j6, j7⟩ := hJS
  obtain ⟨fs, xf, ma, w64, lo, lc, lq, lk, pr, adR, pa, r35, hs, hsc, ⟨a36, a37, a38, a39, a40, a41, a42, a43, a44, a45, a46, a47, a48, a49, a50, a51, a52, a53, a54, a55, a56, a57, a58, a59, a60⟩, hma, hw, hsm, hpr, had⟩ := hR
  have hsc2 := hsc
  obtain ⟨s0, s3, s12, s13, s14, s16, s21, s22, s26, s30⟩ := hsc
  have hPI2 := hPI
  obtain ⟨hqA, hqP, hqK, hqC, hqJ, hqD, hX⟩ := hPI
  have hqA2 := hqA
  have hqP2 := hqP
  have hqK2 := hqK
  have hqC2 := hqC
  have hqJ2 := hqJ
  have hqD2 := hqD
  obtain ⟨hP, hna7, hna, hki⟩ := hqA
  obtain ⟨hkp, hdis, hprok⟩ := hqP
  obtain ⟨hkc, hka⟩ := hqK
  obtain ⟨hk, hcd⟩ := hqC
  obtain ⟨hc, hmn, hsr, hps, hbk, hL⟩ := hqJ
  obtain ⟨hm, hdr⟩ := hqD
  have hn : 61 ≤ n := by omega
  have ho : ∀ t k, t < c → k < mn t → oa (6 * t + k) = nI ((fun p => (oa p).toNatClampNeg) (6 * t + k)) ∧ (fun p => (oa p).toNatClampNeg) (6 * t + k) < na := fun t k h1 h2 => pst_ou hna (hps t k h1 h2)
  have hjrn : jr n f tx c mn dy kd oa cm qt am := jr_mono hndn (fun _ _ _ => rfl) hjr
  have hcln : cls n f cx k cd aj ad gn := cls_mono hndn (fun _ _ _ => rfl) hcl
  have hm41 : ∀ t, t < c → ma t = nI (mn t) ∧ mn t ≤ 6 := fun t ht => ⟨hma t ht, hmn t ht⟩
  cases dr with
  | true =>
    exact ⟨9, _, n, f, n, f, c_B_reopen_no (d := 7) hn h0, c_M_reopen_no 8 hn r35 s12 s30 hk (fun h => absurd h.1 (by decide)), by omega, ⟨by omega, fs, r35⟩, hI⟩
  | false =>
    cases k with
    | zero => exact ⟨9, _, n, f, n, f, c_B_reopen_0 (d := 7) hn h0 (by rw [x13, nI_0]), c_M_reopen_no 8 hn r35 s12 s30 hk (fun h => h.2 rfl), by omega, ⟨by omega, fs, r35⟩, hI⟩
    | succ k =>
      have hb := c_B_reopen (d := 7) hn h0 x13 x14 (by omega)
      generalize ef : jm_up (jm_up f 13 (.inr (4, [.ref 14, .int (nI k)]))) 14 (.inl (2, 8, .inr (.inr (.inr (.inr (va_up cx k none)))))) = f1 at hb
      have e1 : ∀ j, j < 13 ∨ 14 < j → f1 j = f j := fun j hj => by
        rw [← ef, jm_up_n _ _ (by omega), jm_up_n _ _ (by omega)]
      have hr := c_M_reopen 8 hn ((e1 35 (by omega)).trans r35) hs s12 s30 (by omega)
      have hC1 : CI n f1 jo nd na par us ki kp po pd pv kc ko ky kv k cd aj ad gn c mn dy kd oa cm qt am wt L false dd m dt := by
        obtain ⟨⟨b1, b2, b3, b4⟩, b5, b6, b7, b8, b9, b10, b11, b12, b13⟩ := hCC
        refine ⟨⟨b1, b2, dyb_fr (fun j h1 _ => e1 j (by omega)) b3, b4⟩, c0_fr (e1 0 (by omega)) b5, cA_fr (fun j _ _ => e1 j (by omega)) b6, cP_fr (fun j _ _ => e1 j (by omega)) b7, cK_fr (fun j _ _ => e1 j (by omega)) b8, ?_, cS_fr (fun j _ _ => e1 j (by omega)) b10, cJ_fr b4 (fun j _ _ => e1 j (by omega)) (Nat.le_refl nd) (fun j h1 _ => e1 j (by omega)) b11, cT_fr b4 (fun j _ _ => e1 j (by omega)) b12, fun hd => by cases hd⟩
        have hcl1 : cls nd f1 cx (k + 1) cd aj ad gn := cls_mono (Nat.le_refl nd) (fun j h1 _ => e1 j (by omega)) hcl
        refine ⟨by rw [← ef]; rfl, va_up cx k none, by rw [← ef]; rfl, fun i hi => ?_⟩
        obtain ⟨r, pa1, pb1, c1, c2⟩ := hcl1 i (by omega)
        exact ⟨r, pa1, pb1, (if_neg (show ¬ i = k by omega)).trans c1, c2⟩
      refine ⟨9, _, n, f1, n, _, hb, hr, by omega, ⟨by omega, fs, (e1 35 (by omega)).trans r35⟩, jo, nd, na, par, us, ki, P, kp, po, pd, pv, kc, ko, ky, kv, ka, k, cd, aj, ad, gn, c, mn, dy, kd, oa, cm, qt, am, wt, L, false, dd, m, dt, CI_fr (fun j hj => jm_up_n _ _ (by omega)) hC1, ?_, hqA2, hqP2, hqK2, ⟨by omega, fun i j h1 h2 => hcd i j h1 (by omega)⟩, hqJ2, ⟨hm, fun hd => by cases hd⟩, fun i a hi ha => hX i a (by omega) ha⟩
      exact ⟨_, xf, ma, w64, lo, lc, lq, lk, pr, adR, pa, rfl, mo_st_set hs (by decide), sc_30 hs hsc2 k, ⟨(e1 36 (by omega)).trans a36, (e1 37 (by omega)).trans a37, (e1 38 (by omega)).trans a38, (e1 39 (by omega)).trans a39, (e1 40 (by omega)).trans a40, (e1 41 (by omega)).trans a41, (e1 42 (by omega)).trans a42, (e1 43 (by omega)).trans a43, (e1 44 (by omega)).trans a44, (e1 45 (by omega)).trans a45, (e1 46 (by omega)).trans a46, (e1 47 (by omega)).trans a47, (e1 48 (by omega)).trans a48, (e1 49 (by omega)).trans a49, (e1 50 (by omega)).trans a50, (e1 51 (by omega)).trans a51, (e1 52 (by omega)).trans a52, (e1 53 (by omega)).trans a53, (e1 54 (by omega)).trans a54, (e1 55 (by omega)).trans a55, (e1 56 (by omega)).trans a56, (e1 57 (by omega)).trans a57, (e1 58 (by omega)).trans a58, (e1 59 (by omega)).trans a59, (e1 60 (by omega)).trans a60⟩, hma, hw, hsm, fun i hi => hpr i (by omega), fun i a hi ha => had i a (by omega) ha⟩
theorem op_check (h : inv n f) (x y z : Int32) : OpI 13 110 [.int x, .int y, .int z] n f := by
  have hI := h
  obtain ⟨jo, nd, na, par, us, ki, P, kp, po, pd, pv, kc, ko, ky, kv, ka, k, cd, aj, ad, gn, c, mn, dy, kd, oa, cm, qt, am, wt, L, dr, dd, m, dt, hC, hR, hPI⟩ := h
  have hCC := hC
  have hRR := hR
  obtain ⟨⟨hnd, hndn, hdy, hjo⟩, h0, ⟨x1, x2, x3, x4⟩, ⟨x5, x6, x7, x8⟩, ⟨x9, x10, x11, x12⟩, ⟨x13, cx, x14, hcl⟩, ⟨x15, og, wg, sg, x16, x17, x18⟩, ⟨tx, hJS, hjr⟩, hT, hDr⟩ := hC
  have hJS2 := hJS
  obtain ⟨j0, j1, j2, j3, j4, j5, j6, j7⟩ := hJS
  obtain ⟨fs, xf, ma, w64, lo, lc, lq, lk, pr, adR, pa, r35, hs, hsc, ⟨a36, a37, a38, a39, a40, a41, a42, a43, a44, a45, a46, a47, a48, a49, a50, a51, a52, a53, a54, a55, a56, a57, a58, a59, a60⟩, hma, hw, hsm, hpr, had⟩ := hR
  have hsc2 := hsc
  obtain ⟨s0, s3, s12, s13, s14, s16, s21, s22, s26, s30⟩ := hsc
  have hPI2 := hPI
  obtain ⟨hqA, hqP, hqK, hqC, hqJ, hqD, hX⟩ := hPI
  have hqA2 := hqA
  have hqP2 := hqP
  have hqK2 := hqK
  have hqC2 := hqC
  have hqJ2 := hqJ
  have hqD2 := hqD
  obtain ⟨hP, hna7, hna, hki⟩ := hqA
  obtain ⟨hkp, hdis, hprok⟩ := hqP
  obtain ⟨hkc, hka⟩ := hqK
  obtain ⟨hk, hcd⟩ := hqC
  obtain ⟨hc, hmn, hsr, hps, hbk, hL⟩ := hqJ
  obtain ⟨hm, hdr⟩ := hqD
  have hn : 61 ≤ n := by omega
  have ho : ∀ t k, t < c → k < mn t → oa (6 * t + k) = nI ((fun p => (oa p).toNatClampNeg) (6 * t + k)) ∧ (fun p => (oa p).toNatClampNeg) (6 * t + k) < na := fun t k h1 h2 => pst_ou hna (hps t k h1 h2)
  have hjrn : jr n f tx c mn dy kd oa cm qt am := jr_mono hndn (fun _ _ _ => rfl) hjr
  have hcln : cls n f cx k cd aj ad gn := cls_mono hndn (fun _ _ _ => rfl) hcl
  have hm41 : ∀ t, t < c → ma t = nI (mn t) ∧ mn t ≤ 6 := fun t ht => ⟨hma t ht, hmn t ht⟩
  have k10 : kc < 10 ↔ ¬ nI kc = 10 := by
    constructor
    · intro h1
      exact nI_e (a := kc) (b := 10) (by omega) (by decide) (show kc ≠ 10 by omega)
    · intro h1
      have : kc ≠ 10 := fun e => h1 (by rw [e]; rfl)
      omega
  by_cases hx : (0 ≤ x ∧ x < nI na) ∧ (0 ≤ y ∧ y ≤ 9999) ∧ kc < 10
  · obtain ⟨a, ha, rfl⟩ := ix_of hna hx.1
    have ev := posted_eq (P := P) (a := a) (til := y) (ou := fun p => (oa p).toNatClampNeg) hna hsr ho hw
    by_cases hv : js mn (fun p => if tr P a ((fun p => (oa p).toNatClampNeg) p) = true then (wt p).toInt64 else 0) (mo_at dy y c) = z.toInt64
    · have hb := c_B_check (d := 6) (ou := fun p => (oa p).toNatClampNeg) hn h0 x9 x10 x11 x12 hx.2.2 (by omega) (by omega) (by omega) j0 j1 j2 hjrn hc x1 x2 hP hna ho ha hx.2.1 hv
      generalize ef : jm_up (jm_up (jm_up (jm_up f 10 (.inl (0, 10, .inl (upd ko kc (nI a))))) 11 (.inl (0, 10, .inl (upd ky kc y)))) 12 (.inl (0, 10, .inl (upd kv kc z)))) 9 (.inr (2, [.ref 10, .ref 11, .ref 12, .int (nI (kc + 1))])) = f1 at hb
      have e1 : ∀ j, j < 9 ∨ 12 < j → f1 j = f j := fun j hj => by
        rw [← ef, jm_up_n _ _ (by omega), jm_up_n _ _ (by omega), jm_up_n _ _ (by omega), jm_up_n _ _ (by omega)]
      have hr := c_M_check (a := a) (y := y) (z := z) 6 hn ((e1 35 (by omega)).trans r35) hs s0 ((e1 36 (by omega)).trans a36) hP hna s3 ((e1 38 (by omega)).trans a38) ((e1 39 (by omega)).trans a39) ((e1 41 (by omega)).trans a41) ((e1 45 (by omega)).trans a45) (by omega) hm41 s22 ((e1 51 (by omega)).trans a51) ((e1 52 (by omega)).trans a52) ((e1 53 (by omega)).trans a53) hx.2.2 ha hx.2.1.1 hx.2.1.2 (ev.symm.trans hv)
      have hC1 : CI n f1 jo nd na par us ki kp po pd pv (kc + 1) (upd ko kc (nI a)) (upd ky kc y) (upd kv kc z) k cd aj ad gn c mn dy kd oa cm qt am wt L dr dd m dt := by
        obtain ⟨⟨b1, b2, b3, b4⟩, b5, b6, b7, b8, b9, b10, b11, b12, b13⟩ := hCC
        refine ⟨⟨b1, b2, dyb_fr (fun j h1 _ => e1 j (by omega)) b3, b4⟩, c0_fr (e1 0 (by omega)) b5, cA_fr (fun j _ _ => e1 j (by omega)) b6, cP_fr (fun j _ _ => e1 j (by omega)) b7, ?_, cC_fr (e1 13 (by omega)) (e1 14 (by omega)) (Nat.le_refl nd) (fun j h1 _ => e1 j (by omega)) b9, cS_fr (fun j _ _ => e1 j (by omega)) b10, cJ_fr b4 (fun j _ _ => e1 j (by omega)) (Nat.le_refl nd) (fun j h1 _ => e1 j (by omega)) b11, cT_fr b4 (fun j _ _ => e1 j (by omega)) b12, fun hd => drf_fr (Nat.le_refl n) (fun j h1 _ => e1 j (by omega)) (b13 hd)⟩
        rw [← ef]
        exact ⟨rfl, rfl, rfl, rfl⟩
      refine ⟨9, _, n, f1, n, _, hb, hr, by omega, ⟨by omega, fs, (e1 35 (by omega)).trans r35⟩, jo, nd, na, par, us, ki, P, kp, po, pd, pv, kc + 1, upd ko kc (nI a), upd ky kc y, upd kv kc z, Pn ka kc a, k, cd, aj, ad, gn, c, mn, dy, kd, oa, cm, qt, am, wt, L, dr, dd, m, dt, CI_fr (fun j hj => by rw [jm_up_n _ _ (by omega), jm_up_n _ _ (by omega), jm_up_n _ _ (by omega), jm_up_n _ _ (by omega)]) hC1, ?_, hqA2, hqP2, ⟨by omega, fun i hi => ?_⟩, hqC2, hqJ2, hqD2, hX⟩
      · exact ⟨_, xf, ma, w64, lo, lc, lq, lk, pr, adR, pa, rfl, mo_st_set hs (by decide), sc_22 hs hsc2 (kc + 1), ⟨(e1 36 (by omega)).trans a36, (e1 37 (by omega)).trans a37, (e1 38 (by omega)).trans a38, (e1 39 (by omega)).trans a39, (e1 40 (by omega)).trans a40, (e1 41 (by omega)).trans a41, (e1 42 (by omega)).trans a42, (e1 43 (by omega)).trans a43, (e1 44 (by omega)).trans a44, (e1 45 (by omega)).trans a45, (e1 46 (by omega)).trans a46, (e1 47 (by omega)).trans a47, (e1 48 (by omega)).trans a48, (e1 49 (by omega)).trans a49, (e1 50 (by omega)).trans a50, rfl, rfl, rfl, (e1 54 (by omega)).trans a54, (e1 55 (by omega)).trans a55, (e1 56 (by omega)).trans a56, (e1 57 (by omega)).trans a57, (e1 58 (by omega)).trans a58, (e1 59 (by omega)).trans a59, (e1 60 (by omega)).trans a60⟩, hma, hw, hsm, hpr, had⟩
      · by_cases e : i = kc
        · rw [e, pk_us, Pn_n]; exact ⟨rfl, ha⟩
        · rw [pk_un e, Pn_o e]; exact hka i (by omega)
    · refine ⟨9, _, n, f, n, f, c_B_check_no2 (d := 6) (ou := fun p => (oa p).toNatClampNeg) hn h0 x9 x10 x11 x12 hx.2.2 (by omega) (by omega) (by omega) j0 j1 j2 hjrn hc x1 x2 hP hna ho ha hx.2.1 hv, c_M_check_no (a := 0) 6 hn r35 hs s0 a36 hP hna s3 a38 a39 a41 a45 (by omega) hm41 s22 (fun h => hv (ev.trans ?_)), by omega, ⟨by omega, fs, r35⟩, hI⟩
      have h5 := h.2.2.2.2
      rw [nI_clamp (by omega)] at h5
      exact h5
  · exact ⟨9, _, n, f, n, f, c_B_check_no1 (d := 6) hn h0 x1 x9 hkc hx, c_M_check_no (a := 0) 6 hn r35 hs s0 a36 hP hna s3 a38 a39 a41 a45 (by omega) hm41 s22 (fun h => hx ⟨h.1, ⟨h.2.1, h.2.2.1⟩, k10.mpr h.2.2.2.1⟩), by omega, ⟨by omega, fs, r35⟩, hI⟩
theorem op_price (h : inv n f) (x y z : Int32) : OpI 11 111 [.int x, .int y, .int z] n f := by
  have hI := h
  obtain ⟨jo, nd, na, par, us, ki, P, kp, po, pd, pv, kc, ko, ky, kv, ka, k, cd, aj, ad, gn, c, mn, dy, kd, oa, cm, qt, am, wt, L, dr, dd, m, dt, hC, hR, hPI⟩ := h
  have hCC := hC
  have hRR := hR
  obtain ⟨⟨hnd, hndn, hdy, hjo⟩, h0, ⟨x1, x2, x3, x4⟩, ⟨x5, x6, x7, x8⟩, ⟨x9, x10, x11, x12⟩, ⟨x13, cx, x14, hcl⟩, ⟨x15, og, wg, sg, x16, x17, x18⟩, ⟨tx, hJS, hjr⟩, hT, hDr⟩ := hC
  have hJS2 := hJS
  obtain ⟨j0, j1, j2, j3, j4, j5, j6, j7⟩ := hJS
  obtain ⟨fs, xf, ma, w64, lo, lc, lq, lk, pr, adR, pa, r35, hs, hsc, ⟨a36, a37, a38, a39, a40, a41, a42, a43, a44, a45, a46, a47, a48, a49, a50, a51, a52, a53, a54, a55, a56, a57, a58, a59, a60⟩, hma, hw, hsm, hpr, had⟩ := hR
  have hsc2 := hsc
  obtain ⟨s0, s3, s12, s13, s14, s16, s21, s22, s26, s30⟩ := hsc
  have hPI2 := hPI
  obtain ⟨hqA, hqP, hqK, hqC, hqJ, hqD, hX⟩ := hPI
  have hqA2 := hqA
  have hqP2 := hqP
  have hqK2 := hqK
  have hqC2 := hqC
  have hqJ2 := hqJ
  have hqD2 := hqD
  obtain ⟨hP, hna7, hna, hki⟩ := hqA
  obtain ⟨hkp, hdis, hprok⟩ := hqP
  obtain ⟨hkc, hka⟩ := hqK
  obtain ⟨hk, hcd⟩ := hqC
  obtain ⟨hc, hmn, hsr, hps, hbk, hL⟩ := hqJ
  obtain ⟨hm, hdr⟩ := hqD
  have hn : 61 ≤ n := by omega
  have ho : ∀ t k, t < c → k < mn t → oa (6 * t + k) = nI ((fun p => (oa p).toNatClampNeg) (6 * t + k)) ∧ (fun p => (oa p).toNatClampNeg) (6 * t + k) < na := fun t k h1 h2 => pst_ou hna (hps t k h1 h2)
  have hjrn : jr n f tx c mn dy kd oa cm qt am := jr_mono hndn (fun _ _ _ => rfl) hjr
  have hcln : cls n f cx k cd aj ad gn := cls_mono hndn (fun _ _ _ => rfl) hcl
  have hm41 : ∀ t, t < c → ma t = nI (mn t) ∧ mn t ≤ 6 := fun t ht => ⟨hma t ht, hmn t ht⟩
  by_cases hx : mo_pok (mo_lc cd k) x y z
  · have hcy : ∀ i, i < k → cd i < y := fun i hi => Int32.lt_of_le_of_lt (lc_le hqC2 hi) hx.2.2.2.2.1
    have same : ∀ (til : Int32) (g2 g : Nat → Int64), (∀ p, (kd p = kd p ∧ oa p = oa p ∧ cm p = cm p ∧ qt p = qt p ∧ (wt p).toInt64 = (wt p).toInt64) → g2 p = g p) → mo_sum dy mn c til g2 = mo_sum dy mn c til g := fun til g2 g hg => mo_sum_c (fun t i _ _ => hg _ ⟨rfl, rfl, rfl, rfl, rfl⟩)
    by_cases hf : mo_fx po pd x y kp < kp
    · have hb := c_B_price (d := 5) hn h0 x13 x14 hcln hk hx (b := true) x5 (c_Pr_put_over (d := 6) (z := z) hn x5 x6 x7 x8 hkp (price_in hdis hf) (fx_lt hf).2)
      have hpd := (fx_lt hf).2
      have hr0 : ∀ f1 : Nat → va_E, (∀ j, j < 5 ∨ 8 < j → f1 j = f j) → _ := fun f1 e1 => c_M_price (x := x) (y := y) (z := z) (f := f1) 7 hn ((e1 35 (by omega)).trans r35) hs s26 ((e1 54 (by omega)).trans a54) ((e1 55 (by omega)).trans a55) ((e1 56 (by omega)).trans a56) hkp s30 ((e1 57 (by omega)).trans a57) hk hx (by omega)
      generalize ee : mo_fx po pd x y kp = e at hb hf hpd
      generalize ef : jm_up f 8 (.inl (0, 30, .inl (upd pv e z))) = f1 at hb
      have e1 : ∀ j, j < 5 ∨ 8 < j → f1 j = f j := fun j hj => by
        rw [← ef, jm_up_n _ _ (by omega)]
      have hr := hr0 f1 e1
      have hpo : po e = x := by
        rw [← ee] at hf ⊢
        exact (fx_lt hf).1
      rw [ee, upd_id hpo, upd_id hpd, if_neg (show ¬ e = kp by omega)] at hr
      have hC1 : CI n f1 jo nd na par us ki kp po pd (upd pv e z) kc ko ky kv k cd aj ad gn c mn dy kd oa cm qt am wt L dr dd m dt := by
        obtain ⟨⟨b1, b2, b3, b4⟩, b5, b6, b7, b8, b9, b10, b11, b12, b13⟩ := hCC
        refine ⟨⟨b1, b2, dyb_fr (fun j h1 _ => e1 j (by omega)) b3, b4⟩, c0_fr (e1 0 (by omega)) b5, cA_fr (fun j _ _ => e1 j (by omega)) b6, ?_, cK_fr (fun j _ _ => e1 j (by omega)) b8, cC_fr (e1 13 (by omega)) (e1 14 (by omega)) (Nat.le_refl nd) (fun j h1 _ => e1 j (by omega)) b9, cS_fr (fun j _ _ => e1 j (by omega)) b10, cJ_fr b4 (fun j _ _ => e1 j (by omega)) (Nat.le_refl nd) (fun j h1 _ => e1 j (by omega)) b11, cT_fr b4 (fun j _ _ => e1 j (by omega)) b12, fun hd => drf_fr (Nat.le_refl n) (fun j h1 _ => e1 j (by omega)) (b13 hd)⟩
        rw [← ef]
        exact ⟨x5, x6, x7, rfl⟩
      refine ⟨9, _, n, f1, n, _, hb, hr, by omega, ⟨by omega, fs, (e1 35 (by omega)).trans r35⟩, jo, nd, na, par, us, ki, P, kp, po, pd, upd pv e z, kc, ko, ky, kv, ka, k, cd, aj, ad, gn, c, mn, dy, kd, oa, cm, qt, am, wt, L, dr, dd, m, dt, CI_fr (fun j hj => by rw [jm_up_n _ _ (by omega), jm_up_n _ _ (by omega), jm_up_n _ _ (by omega), jm_up_n _ _ (by omega)]) hC1, ?_, hqA2, ⟨hkp, hdis, fun i hi => ?_⟩, hqK2, hqC2, hqJ2, hqD2, fun i a hi ha => ?_⟩
      · exact ⟨_, xf, ma, w64, lo, lc, lq, lk, pr, adR, pa, rfl, mo_st_set hs (by decide), sc_26 hs hsc2 kp, ⟨(e1 36 (by omega)).trans a36, (e1 37 (by omega)).trans a37, (e1 38 (by omega)).trans a38, (e1 39 (by omega)).trans a39, (e1 40 (by omega)).trans a40, (e1 41 (by omega)).trans a41, (e1 42 (by omega)).trans a42, (e1 43 (by omega)).trans a43, (e1 44 (by omega)).trans a44, (e1 45 (by omega)).trans a45, (e1 46 (by omega)).trans a46, (e1 47 (by omega)).trans a47, (e1 48 (by omega)).trans a48, (e1 49 (by omega)).trans a49, (e1 50 (by omega)).trans a50, (e1 51 (by omega)).trans a51, (e1 52 (by omega)).trans a52, (e1 53 (by omega)).trans a53, rfl, rfl, rfl, (e1 57 (by omega)).trans a57, (e1 58 (by omega)).trans a58, (e1 59 (by omega)).trans a59, (e1 60 (by omega)).trans a60⟩, hma, hw, hsm, hpr, had⟩
      · by_cases q : i = e
        · rw [q, pk_us, hpo]; exact ⟨hx.1, hx.2.2.2.2.2.1⟩
        · rw [pk_un q]; exact hprok i hi
      · rw [hX i a hi ha]
        exact congrArg S4 (funext fun w => (adj_c (fun w => price_over (hcy i hi) hpd) (same _) w).symm)
    · obtain ⟨hfe, _⟩ := fx_k hf
      have hout := price_out hf
      by_cases h30 : kp < 30
      · have hb := c_B_price (d := 5) hn h0 x13 x14 hcln hk hx (b := true) x5 (c_Pr_put_new (d := 6) (z := z) hn x5 x6 x7 x8 h30 hout)
        generalize ef : jm_up (jm_up (jm_up (jm_up f 6 (.inl (0, 30, .inl (upd po kp x)))) 7 (.inl (0, 30, .inl (upd pd kp y)))) 5 (.inr (8, [.ref 6, .ref 7, .ref 8, .int (nI (kp + 1))]))) 8 (.inl (0, 30, .inl (upd pv kp z))) = f1 at hb
        have e1 : ∀ j, j < 5 ∨ 8 < j → f1 j = f j := fun j hj => by
          rw [← ef, jm_up_n _ _ (by omega), jm_up_n _ _ (by omega), jm_up_n _ _ (by omega), jm_up_n _ _ (by omega)]
        have hr := c_M_price (x := x) (y := y) (z := z) 7 hn ((e1 35 (by omega)).trans r35) hs s26 ((e1 54 (by omega)).trans a54) ((e1 55 (by omega)).trans a55) ((e1 56 (by omega)).trans a56) hkp s30 ((e1 57 (by omega)).trans a57) hk hx (by omega)
        rw [hfe, if_pos rfl] at hr
        have hC1 : CI n f1 jo nd na par us ki (kp + 1) (upd po kp x) (upd pd kp y) (upd pv kp z) kc ko ky kv k cd aj ad gn c mn dy kd oa cm qt am wt L dr dd m dt := by
          obtain ⟨⟨b1, b2, b3, b4⟩, b5, b6, b7, b8, b9, b10, b11, b12, b13⟩ := hCC
          refine ⟨⟨b1, b2, dyb_fr (fun j h1 _ => e1 j (by omega)) b3, b4⟩, c0_fr (e1 0 (by omega)) b5, cA_fr (fun j _ _ => e1 j (by omega)) b6, ?_, cK_fr (fun j _ _ => e1 j (by omega)) b8, cC_fr (e1 13 (by omega)) (e1 14 (by omega)) (Nat.le_refl nd) (fun j h1 _ => e1 j (by omega)) b9, cS_fr (fun j _ _ => e1 j (by omega)) b10, cJ_fr b4 (fun j _ _ => e1 j (by omega)) (Nat.le_refl nd) (fun j h1 _ => e1 j (by omega)) b11, cT_fr b4 (fun j _ _ => e1 j (by omega)) b12, fun hd => drf_fr (Nat.le_refl n) (fun j h1 _ => e1 j (by omega)) (b13 hd)⟩
          rw [← ef]
          exact ⟨rfl, rfl, rfl, rfl⟩
        refine ⟨9, _, n, f1, n, _, hb, hr, by omega, ⟨by omega, fs, (e1 35 (by omega)).trans r35⟩, jo, nd, na, par, us, ki, P, kp + 1, upd po kp x, upd pd kp y, upd pv kp z, kc, ko, ky, kv, ka, k, cd, aj, ad, gn, c, mn, dy, kd, oa, cm, qt, am, wt, L, dr, dd, m, dt, CI_fr (fun j hj => by rw [jm_up_n _ _ (by omega), jm_up_n _ _ (by omega), jm_up_n _ _ (by omega), jm_up_n _ _ (by omega)]) hC1, ?_, hqA2, ⟨by omega, pdis_s hdis hf, fun i hi => ?_⟩, hqK2, hqC2, hqJ2, hqD2, fun i a hi ha => ?_⟩
        · exact ⟨_, xf, ma, w64, lo, lc, lq, lk, pr, adR, pa, rfl, mo_st_set hs (by decide), sc_26 hs hsc2 (kp + 1), ⟨(e1 36 (by omega)).trans a36, (e1 37 (by omega)).trans a37, (e1 38 (by omega)).trans a38, (e1 39 (by omega)).trans a39, (e1 40 (by omega)).trans a40, (e1 41 (by omega)).trans a41, (e1 42 (by omega)).trans a42, (e1 43 (by omega)).trans a43, (e1 44 (by omega)).trans a44, (e1 45 (by omega)).trans a45, (e1 46 (by omega)).trans a46, (e1 47 (by omega)).trans a47, (e1 48 (by omega)).trans a48, (e1 49 (by omega)).trans a49, (e1 50 (by omega)).trans a50, (e1 51 (by omega)).trans a51, (e1 52 (by omega)).trans a52, (e1 53 (by omega)).trans a53, rfl, rfl, rfl, (e1 57 (by omega)).trans a57, (e1 58 (by omega)).trans a58, (e1 59 (by omega)).trans a59, (e1 60 (by omega)).trans a60⟩, hma, hw, hsm, hpr, had⟩
        · by_cases q : i = kp
          · rw [q, pk_us, pk_us]; exact ⟨hx.1, hx.2.2.2.2.2.1⟩
          · rw [pk_un q, pk_un q]; exact hprok i (by omega)
        · rw [hX i a hi ha]
          exact congrArg S4 (funext fun w => (adj_c (fun w => price_new (hcy i hi)) (same _) w).symm)
      · have h30' : kp = 30 := by omega
        exact ⟨9, _, n, f, n, f, c_B_price (d := 5) hn h0 x13 x14 hcln hk hx (b := false) x5 (c_Pr_put_no (d := 6) (z := z) hn x5 x6 x7 h30' hout), c_M_price_no 7 hn r35 hs s26 a54 a55 hkp s30 a57 hk (fun h => h.2 (hfe.trans h30')), by omega, ⟨by omega, fs, r35⟩, hI⟩
  · exact ⟨9, _, n, f, n, f, c_B_price_no (d := 5) hn h0 x13 x14 hcln hk hx, c_M_price_no 7 hn r35 hs s26 a54 a55 hkp s30 a57 hk (fun h => hx h.1), by omega, ⟨by omega, fs, r35⟩, hI⟩
end
