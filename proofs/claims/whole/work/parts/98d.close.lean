section
variable {n : Nat} {f : Nat → va_E}
theorem adj_w {dy kd oa cm qt po pd pv : Nat → Int32} {w1 w2 : Nat → Int64} {mn : Nat → Nat} {c kp : Nat} {acc w til : Int32} (h : ∀ t k, t < c → k < mn t → w2 (6 * t + k) = w1 (6 * t + k)) : mo_adj dy kd oa cm qt po pd pv w2 mn c kp acc w til = mo_adj dy kd oa cm qt po pd pv w1 mn c kp acc w til := by
  rw [adj_sum, adj_sum]
  refine mo_sum_c (fun t i h1 h2 => ?_)
  unfold aH mo_gs
  rw [h t i h1 h2]
theorem cl_all {cd : Nat → Int32} {k : Nat} {x : Int32} (h : ∀ i, i < k → cd i ≤ x) : mo_cl cd k x = k := mo_at_u (dy := cd) (til := x) (c := k) (Nat.le_refl k) h (fun h1 => absurd h1 (Nat.lt_irrefl k))
theorem clD_sum {dy kd oa cm qt po pd pv cd : Nat → Int32} {w64 : Nat → Int64} {mn : Nat → Nat} {c kp k a : Nat} {x : Int32} {A B : Int64} (hA : A = S4 (fun w => mo_adj dy kd oa cm qt po pd pv w64 mn c kp (nI a) w x)) (hB : B = if k = 0 then 0 else S4 (fun w => mo_adj dy kd oa cm qt po pd pv w64 mn c kp (nI a) w (cd (k - 1)))) :
    clD dy kd oa cm qt po pd pv cd w64 mn c kp k x a 1 + clD dy kd oa cm qt po pd pv cd w64 mn c kp k x a 2 + clD dy kd oa cm qt po pd pv cd w64 mn c kp k x a 3 + clD dy kd oa cm qt po pd pv cd w64 mn c kp k x a 4 = A - B := by
  have e1 : nI 1 = 1 := rfl
  have e2 : nI 2 = 2 := rfl
  have e3 : nI 3 = 3 := rfl
  have e4 : nI 4 = 4 := rfl
  unfold clD
  rw [hA, hB, e1, e2, e3, e4]
  unfold S4
  dsimp only
  by_cases hk : k = 0
  · simp only [if_pos hk]
    grind
  · simp only [if_neg hk]
    grind
theorem op_close (h : inv n f) (x : Int32) : OpI 14 114 [.int x] n f := by
  have hI := h
  obtain ⟨jo, nd, na, par, us, ki, P, kp, po, pd, pv, kc, ko, ky, kv, ka, k, cd, aj, ad, gn, c, mn, dy, kd, oa, cm, qt, am, wt, L, dr, dd, m, dt, hC, hR, hPI⟩ := h
  have hCC := hC
  have hRR := hR
  obtain ⟨⟨hnd, hndn, hdy, hjo⟩, h0, ⟨x1, x2, x3, x4⟩, ⟨x5, x6, x7, x8⟩, ⟨x9, x10, x11, x12⟩, ⟨x13, cx, x14, hcl⟩, ⟨x15, og, wg, sg, x16, x17, x18⟩, ⟨tx, hJS, hjr⟩, hT, hDr⟩ := hC
  have hJS2 := hJS
  obtain ⟨j0, j1, j2, j3, j4, j5, j6, j7⟩ := hJS
  obtain ⟨fs, xf, ma, w64, lo, lc, lq, lk, pr, adR, pa, r35, hs, hsc, ⟨a36, a37, a38, a39, a40, a41, a42, a43, a44, a45, a46, a47, a48, a49, a50, a51, a52, a53, a54, a55, a56, a57, a58, a59, a60⟩, hma, hw, hsm, hpr, had⟩ := hR
  have hsc2 := hsc
  obtain ⟨s0, s3, s12, s13, s14, s16, s21, s22, s26, s30⟩ := hsc
  have hPI2 := hPI
  obtain ⟨hqA, hqP, hqK, hqC, hqJ, hqD, hX⟩ := hPI
  have hqA2 := hqA
  have hqP2 := hqP
  have hqK2 := hqK
  have hqC2 := hqC
  have hqJ2 := hqJ
  have hqD2 := hqD
  obtain ⟨hP, hna7, hna, hki⟩ := hqA
  obtain ⟨hkp, hdis, hprok⟩ := hqP
  obtain ⟨hkc, hka⟩ := hqK
  obtain ⟨hk, hcd⟩ := hqC
  obtain ⟨hc, hmn, hsr, hps, hbk, hL⟩ := hqJ
  obtain ⟨hm, hdr⟩ := hqD
  have hn : 61 ≤ n := by omega
  have ho : ∀ t k, t < c → k < mn t → oa (6 * t + k) = nI ((fun p => (oa p).toNatClampNeg) (6 * t + k)) ∧ (fun p => (oa p).toNatClampNeg) (6 * t + k) < na := fun t k h1 h2 => pst_ou hna (hps t k h1 h2)
  have hjrn : jr n f tx c mn dy kd oa cm qt am := jr_mono hndn (fun _ _ _ => rfl) hjr
  have hcln : cls n f cx k cd aj ad gn := cls_mono hndn (fun _ _ _ => rfl) hcl
  have hm41 : ∀ t, t < c → ma t = nI (mn t) ∧ mn t ≤ 6 := fun t ht => ⟨hma t ht, hmn t ht⟩
  cases dr with
  | true =>
    exact ⟨9, _, n, f, n, f, c_B_close_d (d := 8) hn h0, c_M_close_no 7 hn r35 hs s12 s30 a57 hk (fun h => absurd h.1 (by decide)), by omega, ⟨by omega, fs, r35⟩, hI⟩
  | false =>
    by_cases hx : (0 ≤ x ∧ x ≤ 9999 ∧ mo_lc cd k < x) ∧ k < 8
    · have hcx : ∀ i, i < k → cd i < x := fun i hi => Int32.lt_of_le_of_lt (lc_le hqC2 hi) hx.1.2.2
      generalize eA : sJ (fun _ => 0) mn (fun p => (oa p).toNatClampNeg) (aV kd cm qt po pd pv wt kp x) (mo_at dy x c) = A
      generalize eo : aJ (sJ (flK og (fun _ => 0) 24) mn (fun p => (oa p).toNatClampNeg) (fun p => (wt p).toInt64) (mo_at dy x c)) ad (mo_cl cd k x) = o
      have hcm : ∀ t i, t < c → i < mn t → cm_ok (kd (6 * t + i)) (cm (6 * t + i)) := fun t i h1 h2 => (hps t i h1 h2).2.2
      have hA64 : ∀ a, a < 24 → A a = S4 (fun w => mo_adj dy kd oa cm qt po pd pv w64 mn c kp (nI a) w x) := fun a ha => by
        rw [← eA]
        exact adj_eq ha hna hsr hprok ho hw hcm
      have hA32 : ∀ a, a < 24 → A a = S4 (fun w => mo_adj dy kd oa cm qt po pd pv (fun p => (wt p).toInt64) mn c kp (nI a) w x) := fun a ha => by
        rw [← eA]
        exact adj_eq ha hna hsr hprok ho (fun _ _ _ _ => rfl) hcm
      have hlj : ∀ a, a < 24 → (if k = 0 then 0 else aj (k - 1) a) = if k = 0 then 0 else S4 (fun w => mo_adj dy kd oa cm qt po pd pv w64 mn c kp (nI a) w (cd (k - 1))) := fun a ha => by
        by_cases e : k = 0
        · rw [if_pos e, if_pos e]
        · rw [if_neg e, if_neg e, hX (k - 1) a (by omega) ha]
          exact congrArg S4 (funext fun w => adj_w (fun t i h1 h2 => (hw t i h1 h2).symm))
      have hoo : ∀ a, a < na → o a = mo_own dy oa w64 mn c (nI a) x + ms_s (fun j => adR (24 * j + a)) k := fun a ha => by
        rw [← eo, own_eq (ou := fun p => (oa p).toNatClampNeg) hna hsr ha ho hw (fun i hi => (had i a hi (by omega)).symm)]
        unfold mo_bal
        rw [cl_all (fun i hi => Int32.le_of_lt (hcx i hi))]
      have hb := c_B_close (d := 4) (ou := fun p => (oa p).toNatClampNeg) (dd := x) (A' := A) (D := (crI ki o (rvI A (fun a => if k = 0 then 0 else aj (k - 1) a) (fun _ => 0) na, 0) na).1) (g := (crI ki o (rvI A (fun a => if k = 0 then 0 else aj (k - 1) a) (fun _ => 0) na, 0) na).2) hn h0 x15 x16 x17 x1 x2 x3 hP hna (by omega) (by omega) (by omega) (by omega) (by omega) (by omega) (by omega) j0 j1 j2 hjrn hc ho x13 x14 hcln hx.2 eo hx.1 x5 x6 x7 x8 hkp eA rfl
      obtain ⟨z1, z2⟩ := clZ_f (g := adR) (k := k) 24
      obtain ⟨y1, y2⟩ := clA_eq (D := clD dy kd oa cm qt po pd pv cd w64 mn c kp k x) (k := k) (g := clZ adR k 24) (A := A) (lj := fun a => if k = 0 then 0 else aj (k - 1) a) (D0 := fun _ => 0) z1 (fun a ha => clD_sum (hA64 a ha) (hlj a ha)) na hna
      obtain ⟨t1, t2, t3⟩ := tf_eq (rt := tr_root P) (ki := ki) (ow := fun a => mo_own dy oa w64 mn c (nI a) x) (o := o) (k := k) (na := na) (ad1 := clA (clD dy kd oa cm qt po pd pv cd w64 mn c kp k x) k (clZ adR k 24) na) (adR := adR) (D0 := rvI A (fun a => if k = 0 then 0 else aj (k - 1) a) (fun _ => 0) na) hna (fun a ha => ⟨hki a ha, tr_root_lt hP.1 (a + 1) a (by omega) ha⟩) y1 (fun i hi => (y2 i hi).trans (z2 i hi)) hoo na (Nat.le_refl na)
      generalize crI ki o (rvI A (fun a => if k = 0 then 0 else aj (k - 1) a) (fun _ => 0) na, 0) na = Dg at hb t1 t3
      obtain ⟨D, g⟩ := Dg
      dsimp only at hb t1 t3
      generalize ew : wDn P (na - 5) (flK wg o 24) = W at hb
      generalize ef : jm_up (jm_up (clo n (jm_up (jm_up f 16 (.inl (1, 24, .inr (.inl o)))) 17 (.inl (1, 24, .inr (.inl W)))) x A D g) 14 (.inl (2, 8, .inr (.inr (.inr (.inr (va_up cx k (some n)))))))) 13 (.inr (4, [.ref 14, .int (nI (k + 1))])) = f1 at hb
      have e1 : ∀ j, (j < 13 ∨ 18 ≤ j) ∧ j < n → f1 j = f j := fun j hj => by
        rw [← ef, jm_up_n _ _ (by omega), jm_up_n _ _ (by omega), clo_o (by omega), jm_up_n _ _ (by omega), jm_up_n _ _ (by omega)]
      have f13 : f1 13 = .inr (4, [.ref 14, .int (nI (k + 1))]) := by rw [← ef, jm_up_s]
      have f14 : f1 14 = .inl (2, 8, .inr (.inr (.inr (.inr (va_up cx k (some n)))))) := by rw [← ef, jm_up_n _ _ (by omega), jm_up_s]
      have f15 : f1 15 = .inr (9, [.ref 16, .ref 17, .ref 18]) := by
        rw [← ef, jm_up_n _ _ (by omega), jm_up_n _ _ (by omega), clo_o (by omega), jm_up_n _ _ (by omega), jm_up_n _ _ (by omega), x15]
      have f16 : f1 16 = .inl (1, 24, .inr (.inl o)) := by
        rw [← ef, jm_up_n _ _ (by omega), jm_up_n _ _ (by omega), clo_o (by omega), jm_up_n _ _ (by omega), jm_up_s]
      have f17 : f1 17 = .inl (1, 24, .inr (.inl W)) := by
        rw [← ef, jm_up_n _ _ (by omega), jm_up_n _ _ (by omega), clo_o (by omega), jm_up_s]
      have fn0 : f1 n = .inr (3, [.int x, .ref (n + 1), .ref (n + 2), .long g]) := by
        rw [← ef, jm_up_n _ _ (by omega), jm_up_n _ _ (by omega), clo_0]
      have fn1 : f1 (n + 1) = .inl (1, 24, .inr (.inl A)) := by
        rw [← ef, jm_up_n _ _ (by omega), jm_up_n _ _ (by omega), clo_1]
      have fn2 : f1 (n + 2) = .inl (1, 24, .inr (.inl D)) := by
        rw [← ef, jm_up_n _ _ (by omega), jm_up_n _ _ (by omega), clo_2]
      have hr := c_M_close (x := x) 6 (show 61 ≤ n + 3 by omega) ((e1 35 (by omega)).trans r35) hs s0 ((e1 36 (by omega)).trans a36) hP hna s3 ((e1 38 (by omega)).trans a38) ((e1 39 (by omega)).trans a39) ((e1 40 (by omega)).trans a40) ((e1 41 (by omega)).trans a41) ((e1 42 (by omega)).trans a42) ((e1 43 (by omega)).trans a43) ((e1 45 (by omega)).trans a45) (by omega) hm41 s26 ((e1 54 (by omega)).trans a54) ((e1 55 (by omega)).trans a55) ((e1 56 (by omega)).trans a56) hkp s12 s30 ((e1 57 (by omega)).trans a57) ((e1 58 (by omega)).trans a58) ((e1 59 (by omega)).trans a59) hx.2 hx.1.1 hx.1.2.1 hx.1.2.2 rfl
      generalize tfI (tr_root P) (fun a => mo_own dy oa w64 mn c (nI a) x) k (clA (clD dy kd oa cm qt po pd pv cd w64 mn c kp k x) k (clZ adR k 24) na) na = TF at hr t1 t2 t3
      have hC1 : CI (n + 3) f1 jo (n + 3) na par us ki kp po pd pv kc ko ky kv (k + 1) (upd cd k x) (fun i => if i = k then A else aj i) (fun i => if i = k then D else ad i) (vp_updL gn k g) c mn dy kd oa cm qt am wt L false dd m dt := by
        obtain ⟨⟨b1, b2, b3, b4⟩, b5, b6, b7, b8, b9, b10, b11, b12, b13⟩ := hCC
        refine ⟨⟨by omega, Nat.le_refl _, ?_, b4⟩, c0_fr (e1 0 (by omega)) b5, cA_fr (fun j _ _ => e1 j (by omega)) b6, cP_fr (fun j _ _ => e1 j (by omega)) b7, cK_fr (fun j _ _ => e1 j (by omega)) b8, ⟨f13, _, f14, ?_⟩, ⟨f15, _, _, _, f16, f17, (e1 18 (by omega)).trans x18⟩, cJ_fr b4 (fun j _ _ => e1 j (by omega)) (by omega) (fun j h1 _ => e1 j (by omega)) b11, cT_fr b4 (fun j _ _ => e1 j (by omega)) b12, fun hd => by cases hd⟩
        · intro j h1 h2
          by_cases q1 : j = n
          · rw [q1, fn0]; exact Nat.le_of_ble_eq_true rfl
          · by_cases q2 : j = n + 1
            · rw [q2, fn1]; exact Nat.le_of_ble_eq_true rfl
            · by_cases q3 : j = n + 2
              · rw [q3, fn2]; exact Nat.le_of_ble_eq_true rfl
              · rw [e1 j (by omega)]; exact b3 j h1 (by omega)
        · intro i hi
          by_cases q1 : i = k
          · subst q1
            refine ⟨n, n + 1, n + 2, if_pos rfl, hn, Nat.lt_of_lt_of_le (Nat.lt_succ_self n) (Nat.le_add_right (n + 1) 2), ?_, Nat.le_succ_of_le hn, Nat.lt_succ_of_lt (Nat.lt_succ_self (n + 1)), ?_, Nat.le_succ_of_le (Nat.le_succ_of_le hn), Nat.lt_succ_self (n + 2), ?_⟩
            · rw [pk_us, pk_uLs]; exact fn0
            · show f1 (n + 1) = .inl (1, 24, .inr (.inl (if i = i then A else aj i)))
              rw [if_pos rfl]; exact fn1
            · show f1 (n + 2) = .inl (1, 24, .inr (.inl (if i = i then D else ad i)))
              rw [if_pos rfl]; exact fn2
          · obtain ⟨r, pa1, pb1, c1, c2, c3, c4, c5, c6, c7, c8, c9, c10⟩ := hcl i (by omega)
            have up : ∀ z : Nat, z < nd → z < n + 3 := fun z hz => by omega
            have lw : ∀ z : Nat, 61 ≤ z → z < nd → f1 z = f z := fun z h1 h2 => e1 z (by omega)
            refine ⟨r, pa1, pb1, (if_neg q1).trans c1, c2, up r c3, ?_, c5, up pa1 c6, ?_, c8, up pb1 c9, ?_⟩
            · rw [lw r c2 c3, c4, pk_un q1, pk_uLn q1]
            · show f1 pa1 = .inl (1, 24, .inr (.inl (if i = k then A else aj i)))
              rw [lw pa1 c5 c6, c7, if_neg q1]
            · show f1 pb1 = .inl (1, 24, .inr (.inl (if i = k then D else ad i)))
              rw [lw pb1 c8 c9, c10, if_neg q1]
      refine ⟨9, _, n + 3, f1, n + 3, _, hb, hr, by omega, ⟨by omega, fs, (e1 35 (by omega)).trans r35⟩, jo, n + 3, na, par, us, ki, P, kp, po, pd, pv, kc, ko, ky, kv, ka, k + 1, upd cd k x, fun i => if i = k then A else aj i, fun i => if i = k then D else ad i, vp_updL gn k g, c, mn, dy, kd, oa, cm, qt, am, wt, L, false, dd, m, dt, CI_fr (fun j hj => by rw [jm_up_n _ _ (by omega), jm_up_n _ _ (by omega), jm_up_n _ _ (by omega), jm_up_n _ _ (by omega)]) hC1, ?_, hqA2, hqP2, hqK2, ⟨by omega, fun i j h1 h2 => ?_⟩, hqJ2, ⟨hm, fun hd => by cases hd⟩, fun i a hi ha => ?_⟩
      · refine ⟨_, xf, ma, w64, lo, lc, lq, lk, vp_updL pr k (-TF.1), TF.2, pa, rfl, mo_st_set hs (by decide), sc_30 hs hsc2 (k + 1), ⟨(e1 36 (by omega)).trans a36, (e1 37 (by omega)).trans a37, (e1 38 (by omega)).trans a38, (e1 39 (by omega)).trans a39, (e1 40 (by omega)).trans a40, (e1 41 (by omega)).trans a41, (e1 42 (by omega)).trans a42, (e1 43 (by omega)).trans a43, (e1 44 (by omega)).trans a44, (e1 45 (by omega)).trans a45, (e1 46 (by omega)).trans a46, (e1 47 (by omega)).trans a47, (e1 48 (by omega)).trans a48, (e1 49 (by omega)).trans a49, (e1 50 (by omega)).trans a50, (e1 51 (by omega)).trans a51, (e1 52 (by omega)).trans a52, (e1 53 (by omega)).trans a53, (e1 54 (by omega)).trans a54, (e1 55 (by omega)).trans a55, (e1 56 (by omega)).trans a56, rfl, rfl, rfl, (e1 60 (by omega)).trans a60⟩, hma, hw, hsm, fun i hi => ?_, fun i a hi ha => ?_⟩
        · by_cases q1 : i = k
          · rw [q1, pk_uLs, pk_uLs]; exact t3
          · rw [pk_uLn q1, pk_uLn q1]; exact hpr i (by omega)
        · by_cases q1 : i = k
          · subst q1
            dsimp only
            rw [if_pos rfl]; exact t1 a ha
          · dsimp only
            rw [if_neg q1, t2 _ (by omega)]; exact had i a (by omega) ha
      · by_cases q1 : j = k
        · rw [q1, pk_us, pk_un (by omega)]; exact hcx i (by omega)
        · rw [pk_un (by omega), pk_un (by omega)]; exact hcd i j h1 (by omega)
      · by_cases q1 : i = k
        · subst q1
          dsimp only
          rw [if_pos rfl, pk_us]
          exact hA32 a ha
        · dsimp only
          rw [if_neg q1, pk_un q1]
          exact hX i a (by omega) ha
    · refine ⟨9, _, n, f, n, f, c_B_close_no (d := 5) hn h0 x13 x14 hcln hk hx, c_M_close_no 7 hn r35 hs s12 s30 a57 hk (fun h => hx ⟨⟨h.2.1, h.2.2.1, h.2.2.2.1⟩, ?_⟩), by omega, ⟨by omega, fs, r35⟩, hI⟩
      have := h.2.2.2.2
      omega
end
