section
variable {n : Nat} {f : Nat → va_E}
theorem txo_c {r m b b2 : Nat} {dd : Int32} {kd oa cm qt am kd2 oa2 cm2 qt2 am2 : Nat → Int32} (h : txo n f r dd m kd oa cm qt am b) (hd : ∀ k, k < m → kd2 (b2 + k) = kd (b + k) ∧ oa2 (b2 + k) = oa (b + k) ∧ cm2 (b2 + k) = cm (b + k) ∧ qt2 (b2 + k) = qt (b + k) ∧ am2 (b2 + k) = am (b + k)) : txo n f r dd m kd2 oa2 cm2 qt2 am2 b2 := by
  obtain ⟨p, px, h1, h2, h3, h4, h5, h6, h7, h8⟩ := h
  refine ⟨p, px, h1, h2, h3, h4, h5, h6, h7, fun k hk => ?_⟩
  obtain ⟨q, g1, g2, g3, g4⟩ := h8 k hk
  obtain ⟨d1, d2, d3, d4, d5⟩ := hd k hk
  exact ⟨q, g1, g2, g3, by rw [d1, d2, d3, d4, d5]; exact g4⟩
theorem jr_c {tx : Nat → Option Nat} {c : Nat} {mn : Nat → Nat} {dy kd oa cm qt am dy2 kd2 oa2 cm2 qt2 am2 : Nat → Int32} (h : jr n f tx c mn dy kd oa cm qt am) (h1 : ∀ t, t < c → dy2 t = dy t) (h2 : ∀ t k, t < c → k < mn t → dA kd oa cm qt am kd2 oa2 cm2 qt2 am2 (6 * t + k)) : jr n f tx c mn dy2 kd2 oa2 cm2 qt2 am2 := fun t ht => by
  obtain ⟨r, g1, g2⟩ := h t ht
  refine ⟨r, g1, ?_⟩
  rw [h1 t ht]
  exact txo_c g2 (fun k hk => h2 t k ht hk)
/-- the new journal -/
theorem jr_ins {tx gx : Nat → Option Nat} {c a r m : Nat} {mn : Nat → Nat} {dy kd oa cm qt am dt : Nat → Int32} {dd : Int32} (h : jr n f tx c mn dy kd oa cm qt am) (hmn : ∀ t, t < c → mn t ≤ 6) (hac : a ≤ c) (hm : m ≤ 6) (ht : txo n f r dd m (fun i => dt (5 * i)) (fun i => dt (5 * i + 1)) (fun i => dt (5 * i + 2)) (fun i => dt (5 * i + 3)) (fun i => dt (5 * i + 4)) 0) :
    jr n f (cp2 gx tx a r c) (c + 1) (inN mn a m) (upd (ins1 dy a c) a dd) (wr6 (ins6 kd a c) a m (fun k => dt (5 * k))) (wr6 (ins6 oa a c) a m (fun k => dt (5 * k + 1))) (wr6 (ins6 cm a c) a m (fun k => dt (5 * k + 2))) (wr6 (ins6 qt a c) a m (fun k => dt (5 * k + 3))) (wr6 (ins6 am a c) a m (fun k => dt (5 * k + 4))) := fun t htc => by
  rcases Nat.lt_trichotomy t a with q | q | q
  · obtain ⟨r1, g1, g2⟩ := h t (by omega)
    refine ⟨r1, (if_pos q).trans g1, ?_⟩
    rw [in1_lt q, inN_lt q]
    have := hmn t (by omega)
    exact txo_c g2 (fun k hk => ⟨in6_lt q (by omega), in6_lt q (by omega), in6_lt q (by omega), in6_lt q (by omega), in6_lt q (by omega)⟩)
  · subst q
    refine ⟨r, ?_, ?_⟩
    · unfold cp2
      rw [if_neg (by omega), if_pos rfl]
    · rw [in1_eq, inN_eq]
      refine txo_c ht (fun k hk => ?_)
      rw [in6_eq hk, in6_eq hk, in6_eq hk, in6_eq hk, in6_eq hk, Nat.zero_add]
      exact ⟨rfl, rfl, rfl, rfl, rfl⟩
  · obtain ⟨r1, g1, g2⟩ := h (t - 1) (by omega)
    refine ⟨r1, ?_, ?_⟩
    · unfold cp2
      rw [if_neg (by omega), if_neg (by omega), if_pos (by omega)]
      exact g1
    · rw [in1_gt q (by omega), inN_gt q]
      have := hmn (t - 1) (by omega)
      exact txo_c g2 (fun k hk => ⟨in6_gt q (by omega) (by omega) hm, in6_gt q (by omega) (by omega) hm, in6_gt q (by omega) (by omega) hm, in6_gt q (by omega) (by omega) hm, in6_gt q (by omega) (by omega) hm⟩)
/-- its postings are such as the document allows -/
theorem pst_ins {na c a m : Nat} {mn : Nat → Nat} {kd oa cm qt am dt : Nat → Int32} (h : ∀ t k, t < c → k < mn t → pst na (kd (6 * t + k)) (oa (6 * t + k)) (cm (6 * t + k)) (qt (6 * t + k)) (am (6 * t + k))) (hmn : ∀ t, t < c → mn t ≤ 6) (hac : a ≤ c) (hm : m ≤ 6) (hd : ∀ i, i < m → pst na (dt (5 * i)) (dt (5 * i + 1)) (dt (5 * i + 2)) (dt (5 * i + 3)) (dt (5 * i + 4))) :
    ∀ t k, t < c + 1 → k < inN mn a m t → pst na (wr6 (ins6 kd a c) a m (fun k => dt (5 * k)) (6 * t + k)) (wr6 (ins6 oa a c) a m (fun k => dt (5 * k + 1)) (6 * t + k)) (wr6 (ins6 cm a c) a m (fun k => dt (5 * k + 2)) (6 * t + k)) (wr6 (ins6 qt a c) a m (fun k => dt (5 * k + 3)) (6 * t + k)) (wr6 (ins6 am a c) a m (fun k => dt (5 * k + 4)) (6 * t + k)) := fun t k htc hk => by
  rcases Nat.lt_trichotomy t a with q | q | q
  · rw [inN_lt q] at hk
    have := hmn t (by omega)
    rw [in6_lt q (by omega), in6_lt q (by omega), in6_lt q (by omega), in6_lt q (by omega), in6_lt q (by omega)]
    exact h t k (by omega) hk
  · subst q
    rw [inN_eq] at hk
    rw [in6_eq hk, in6_eq hk, in6_eq hk, in6_eq hk, in6_eq hk]
    exact hd k hk
  · rw [inN_gt q] at hk
    have := hmn (t - 1) (by omega)
    rw [in6_gt q (by omega) (by omega) hm, in6_gt q (by omega) (by omega) hm, in6_gt q (by omega) (by omega) hm, in6_gt q (by omega) (by omega) hm, in6_gt q (by omega) (by omega) hm]
    exact h (t - 1) k (by omega) hk
theorem inN_6 {mn : Nat → Nat} {c a m : Nat} (hmn : ∀ t, t < c → mn t ≤ 6) (hac : a ≤ c) (hm : m ≤ 6) : ∀ t, t < c + 1 → inN mn a m t ≤ 6 := fun t ht => by
  rcases Nat.lt_trichotomy t a with q | q | q
  · rw [inN_lt q]; exact hmn t (by omega)
  · rw [q, inN_eq]; exact hm
  · rw [inN_gt q]; exact hmn (t - 1) (by omega)
theorem ma_ins {ma : Nat → Int32} {mn : Nat → Nat} {c a m : Nat} (h : ∀ t, t < c → ma t = nI (mn t)) (hac : a ≤ c) : ∀ t, t < c + 1 → upd (ins1 ma a c) a (nI m) t = nI (inN mn a m t) := fun t ht => by
  rcases Nat.lt_trichotomy t a with q | q | q
  · rw [in1_lt q, inN_lt q]; exact h t (by omega)
  · rw [q, in1_eq, inN_eq]
  · rw [in1_gt q (by omega), inN_gt q]; exact h (t - 1) (by omega)
theorem mo_sum_d {dy dy2 : Nat → Int32} {mn : Nat → Nat} {c : Nat} {til : Int32} {g g2 : Nat → Int64} (h1 : ∀ t, t < c → dy2 t = dy t) (h2 : ∀ t k, t < c → k < mn t → g2 (6 * t + k) = g (6 * t + k)) : mo_sum dy2 mn c til g2 = mo_sum dy mn c til g := by
  unfold mo_sum
  refine ms_c (fun t ht => ?_)
  rw [h1 t ht, ms_c (fun k hk => h2 t k ht hk)]
theorem cmC_m1 (a : Nat) : cmC (-1) a = 0 := by
  unfold cmC
  exact if_neg (by decide)
theorem ckR_4 {ok : Nat → Bool} : ∀ {r i : Nat}, ¬ ckR ok i r 0 = 0 → ckR ok i r 0 = 4
  | 0, i, h => absurd rfl h
  | r + 1, i, h => by
    rw [ckR, if_pos rfl] at h ⊢
    by_cases q : ok i = true
    · rw [if_pos q] at h ⊢
      exact ckR_4 h
    · rw [if_neg q] at h ⊢
      exact ckR_n (by decide)
theorem ckA_c {ok ok2 : Nat → Bool} : ∀ {r i : Nat}, (∀ j, i ≤ j → j < i + r → ok j = ok2 j) → ckA ok i r = ckA ok2 i r
  | 0, _, _ => rfl
  | r + 1, i, h => by
    rw [ckA, ckA, h i (by omega) (by omega), ckA_c (fun j h1 h2 => h j (by omega) (by omega))]
/-- the same checks hold -/
theorem ck_eq {ok : Nat → Bool} {r : Nat} : (ckA ok 0 r = true → ckR ok 0 r 0 = 0) ∧ (ckA ok 0 r = false → ckR ok 0 r 0 = 4) := by
  constructor
  · intro h
    exact ckR_z.mpr (ckA_iff.mp h)
  · intro h
    refine ckR_4 (fun h2 => ?_)
    have := ckA_iff.mpr (ckR_z.mp h2)
    rw [h] at this
    cases this
theorem jb_id_19 {c : Nat} {tx : Nat → Option Nat} {wt : Nat → Int32} {L : LC} (h : jS 19 f c tx wt L) : jb_hp_19 f c tx wt L = f := by
  obtain ⟨h0, h1, h2, h3, h4, h5, h6, h7⟩ := h
  funext j
  rw [jb_a_19]
  by_cases e3 : j = 22
  · rw [if_pos e3, e3]; exact h3.symm
  · rw [if_neg e3]
    by_cases e4 : j = 23
    · rw [if_pos e4, e4]; exact h4.symm
    · rw [if_neg e4]
      by_cases e5 : j = 24
      · rw [if_pos e5, e5]; exact h5.symm
      · rw [if_neg e5]
        by_cases e6 : j = 25
        · rw [if_pos e6, e6]; exact h6.symm
        · rw [if_neg e6]
          by_cases e7 : j = 26
          · rw [if_pos e7, e7]; exact h7.symm
          · rw [if_neg e7]
            by_cases e0 : j = 19
            · rw [if_pos e0, e0]; exact h0.symm
            · rw [if_neg e0]
              by_cases e1 : j = 20
              · rw [if_pos e1, e1]; exact h1.symm
              · rw [if_neg e1]
                by_cases e2 : j = 21
                · rw [if_pos e2, e2]; exact h2.symm
                · rw [if_neg e2]
theorem jb_S_19 {c : Nat} {tx : Nat → Option Nat} {wt : Nat → Int32} {L : LC} : jS 19 (jb_hp_19 f c tx wt L) c tx wt L := ⟨rfl, rfl, rfl, rfl, rfl, rfl, rfl, rfl⟩
theorem jb_n_19 {c : Nat} {tx : Nat → Option Nat} {wt : Nat → Int32} {L : LC} {j : Nat} (h : j < 19 ∨ 26 < j) : jb_hp_19 f c tx wt L j = f j := by
  rw [jb_a_19, if_neg (by omega), if_neg (by omega), if_neg (by omega), if_neg (by omega), if_neg (by omega), if_neg (by omega), if_neg (by omega), if_neg (by omega)]
theorem op_commit_19 {nd : Nat} {na : Nat} {par : Nat → Int32} {us : Nat → Int32} {ki : Nat → Int32} {P : Nat → Nat} {kp : Nat} {po : Nat → Int32} {pd : Nat → Int32} {pv : Nat → Int32} {kc : Nat} {ko : Nat → Int32} {ky : Nat → Int32} {kv : Nat → Int32} {ka : Nat → Nat} {k : Nat} {cd : Nat → Int32} {aj : Nat → Nat → Int64} {ad : Nat → Nat → Int64} {gn : Nat → Int64} {c : Nat} {mn : Nat → Nat} {dy : Nat → Int32} {kd : Nat → Int32} {oa : Nat → Int32} {cm : Nat → Int32} {qt : Nat → Int32} {am : Nat → Int32} {wt : Nat → Int32} {L : LC} {dr : Bool} {dd : Int32} {m : Nat} {dt : Nat → Int32} (h : inv n f) (hC : CI n f 27 nd na par us ki kp po pd pv kc ko ky kv k cd aj ad gn c mn dy kd oa cm qt am wt L dr dd m dt) (hR : RI f na par us kp po pd pv kc ko ky kv k cd ad gn c mn dy kd oa cm qt am wt L dr dd m dt) (hPI : PI na par us ki P kp po pd pv kc ko ky kv ka k cd aj ad gn c mn dy kd oa cm qt am wt L dr dd m dt) : OpI 7 97 [] n f := by
  have hjo : 27 = 19 ∨ 27 = 27 := by decide
  have hI := h
  have hCC := hC
  have hRR := hR
  obtain ⟨⟨hnd, hndn, hdy, _⟩, h0, ⟨x1, x2, x3, x4⟩, ⟨x5, x6, x7, x8⟩, ⟨x9, x10, x11, x12⟩, ⟨x13, cx, x14, hcl⟩, ⟨x15, og, wg, sg, x16, x17, x18⟩, ⟨tx, hJS, hjr⟩, hT, hDr⟩ := hC
  have hJS2 := hJS
  obtain ⟨j0, j1, j2, j3, j4, j5, j6, j7⟩ := hJS
  obtain ⟨fs, xf, ma, w64, lo, lc, lq, lk, pr, adR, pa, r35, hs, hsc, ⟨a36, a37, a38, a39, a40, a41, a42, a43, a44, a45, a46, a47, a48, a49, a50, a51, a52, a53, a54, a55, a56, a57, a58, a59, a60⟩, hma, hw, hsm, hpr, had⟩ := hR
  have hsc2 := hsc
  obtain ⟨s0, s3, s12, s13, s14, s16, s21, s22, s26, s30⟩ := hsc
  have hPI2 := hPI
  obtain ⟨hqA, hqP, hqK, hqC, hqJ, hqD, hX⟩ := hPI
  have hqA2 := hqA
  have hqP2 := hqP
  have hqK2 := hqK
  have hqC2 := hqC
  have hqJ2 := hqJ
  have hqD2 := hqD
  obtain ⟨hP, hna7, hna, hki⟩ := hqA
  obtain ⟨hkp, hdis, hprok⟩ := hqP
  obtain ⟨hkc, hka⟩ := hqK
  obtain ⟨hk, hcd⟩ := hqC
  obtain ⟨hc, hmn, hsr, hps, hbk, hL⟩ := hqJ
  obtain ⟨hm, hdr⟩ := hqD
  have hn : 61 ≤ n := by omega
  have ho : ∀ t k, t < c → k < mn t → oa (6 * t + k) = nI ((fun p => (oa p).toNatClampNeg) (6 * t + k)) ∧ (fun p => (oa p).toNatClampNeg) (6 * t + k) < na := fun t k h1 h2 => pst_ou hna (hps t k h1 h2)
  have hjrn : jr n f tx c mn dy kd oa cm qt am := jr_mono hndn (fun _ _ _ => rfl) hjr
  have hcln : cls n f cx k cd aj ad gn := cls_mono hndn (fun _ _ _ => rfl) hcl
  have hm41 : ∀ t, t < c → ma t = nI (mn t) ∧ mn t ≤ 6 := fun t ht => ⟨hma t ht, hmn t ht⟩
  cases dr with
  | false =>
    exact ⟨9, _, n, f, n, f, c_B_commit_null_19 (d := 8) hn h0, c_M_commit_none (d := 8) hn r35 s12, by omega, ⟨by omega, fs, r35⟩, hI⟩
  | true =>
    obtain ⟨hc40, hlc, hdp⟩ := hdr rfl
    have htx := drf_tx hnd hm (hDr rfl)
    obtain ⟨c0, gx, w0, L0, hTS⟩ := hT
    have hTS : jS 19 f c0 gx w0 L0 := hTS
    generalize ea : mo_at dy dd c = a
    have hac : a ≤ c := ea ▸ mo_at_le dy dd c
    have hr' := jr_ins (gx := gx) hjrn hmn hac hm htx
    have hps' := pst_ins hps hmn hac hm hdp
    have hmn' := inN_6 hmn hac hm
    have hma' := ma_ins (m := m) hma hac
    have hsr' := ins_srt hsr ea
    have hd0 : ∀ t k, t < a → k < mn t → dA kd oa cm qt am (wr6 (ins6 kd a c) a m (fun k => dt (5 * k))) (wr6 (ins6 oa a c) a m (fun k => dt (5 * k + 1))) (wr6 (ins6 cm a c) a m (fun k => dt (5 * k + 2))) (wr6 (ins6 qt a c) a m (fun k => dt (5 * k + 3))) (wr6 (ins6 am a c) a m (fun k => dt (5 * k + 4))) (6 * t + k) := fun t k h1 h2 => by
      have := hmn t (by omega)
      exact ⟨in6_lt h1 (by omega), in6_lt h1 (by omega), in6_lt h1 (by omega), in6_lt h1 (by omega), in6_lt h1 (by omega)⟩
    have hd6 : ∀ t k, t < c → k < mn t → dA kd oa cm qt am (del6 (wr6 (ins6 kd a c) a m (fun k => dt (5 * k))) a c) (del6 (wr6 (ins6 oa a c) a m (fun k => dt (5 * k + 1))) a c) (del6 (wr6 (ins6 cm a c) a m (fun k => dt (5 * k + 2))) a c) (del6 (wr6 (ins6 qt a c) a m (fun k => dt (5 * k + 3))) a c) (del6 (wr6 (ins6 am a c) a m (fun k => dt (5 * k + 4))) a c) (6 * t + k) := fun t k h1 h2 => by
      have := hmn t h1
      exact ⟨de6 h1 (by omega) hm, de6 h1 (by omega) hm, de6 h1 (by omega) hm, de6 h1 (by omega) hm, de6 h1 (by omega) hm⟩
    have hdy1 : ∀ t, t < c → del1 (upd (ins1 dy a c) a dd) a c t = dy t := fun t ht => de1 ht
    have hma1 : ∀ t, t < c → del1 (upd (ins1 ma a c) a (nI m)) a c t = nI (mn t) ∧ mn t ≤ 6 := fun t ht => ⟨(de1 ht).trans (hma t ht), hmn t ht⟩
    have hsum : ∀ (til : Int32), til < dd → ∀ g2 g : Nat → Int64, (∀ t k, t < a → k < mn t → g2 (6 * t + k) = g (6 * t + k)) → mo_sum (upd (ins1 dy a c) a dd) (inN mn a m) (c + 1) til g2 = mo_sum dy mn c til g := fun til hl g2 g hg => ins_sum hsr ea hl hg
    have hcmp := commit_eq (mn2 := inN mn a m) hbk hc40 hac hmn (fun t k h1 h2 => (hps t k h1 h2).2.1) (fun t h1 => inN_lt h1) hd0 hmn' (fun t k h1 h2 => (hps' t k h1 h2).2.1) L0.2 w0 (lo, lc, lq, lk) w64
    generalize edy : upd (ins1 dy a c) a dd = dy' at hr' hsr' hdy1 hsum
    generalize ema : upd (ins1 ma a c) a (nI m) = ma' at hma' hma1
    generalize ekd : wr6 (ins6 kd a c) a m (fun k => dt (5 * k)) = kd' at hr' hps' hd0 hd6 hcmp
    generalize eoa : wr6 (ins6 oa a c) a m (fun k => dt (5 * k + 1)) = oa' at hr' hps' hd0 hd6 hcmp
    generalize ecm : wr6 (ins6 cm a c) a m (fun k => dt (5 * k + 2)) = cm' at hr' hps' hd0 hd6 hcmp
    generalize eqt : wr6 (ins6 qt a c) a m (fun k => dt (5 * k + 3)) = qt' at hr' hps' hd0 hd6 hcmp
    generalize eam : wr6 (ins6 am a c) a m (fun k => dt (5 * k + 4)) = am' at hr' hps' hd0 hd6 hcmp
    generalize emn : inN mn a m = mn' at hr' hps' hmn' hma' hsum hcmp
    have ho' : ∀ t k, t < c + 1 → k < mn' t → oa' (6 * t + k) = nI ((fun p => (oa' p).toNatClampNeg) (6 * t + k)) ∧ (fun p => (oa' p).toNatClampNeg) (6 * t + k) < na := fun t k h1 h2 => pst_ou hna (hps' t k h1 h2)
    have hmb : ∀ t, t < c + 1 → ma' t = nI (mn' t) ∧ mn' t ≤ 6 := fun t ht => ⟨hma' t ht, hmn' t ht⟩
    have hb := c_B_commit_19 (d := 2) (ou := fun p => (oa' p).toNatClampNeg) (c0 := c0) (gx := gx) (wt := w0) (L := L0) hn h0 j0 j1 hjrn hc40 htx ea hr' rfl x9 x10 x11 x12 hkc hka x1 x2 hP hna ho' rfl
    rw [jb_id_19 hTS] at hb
    generalize eR : bkAC kd' oa' cm' qt' am' mn' a 0 (c + 1) (0, L0.2) w0 = R at hb hcmp
    generalize eRR : bkA kd' oa' cm' qt' am' mn' 0 (c + 1) (0, lo, lc, lq, lk) w64 = RR at hcmp
    generalize eck : ckA (fun i => decide (js mn' (fun p => if tr P (ka i) ((fun p => (oa' p).toNatClampNeg) p) = true then (R.2.2 p).toInt64 else 0) (mo_at dy' (ky i) (c + 1)) = (kv i).toInt64)) 0 kc = ck at hb
    by_cases hok : R.1 = 0 ∧ ck = true
    · -- done
      rw [if_pos hok.1, if_pos hok.2, if_pos hok] at hb
      rcases hcmp with ⟨m1, m2, m3, m4, m5⟩ | ⟨m1, m2⟩
      · have hr0 : ckR (fun i => decide (tr_S P na (fun x => mo_own dy' oa' RR.2.2.2 mn' (c + 1) (nI x) (ky i)) (ka i) = (kv i).toInt64)) 0 kc (cmC RR.1 a) = 0 := by
          rw [m2, cmC_m1]
          refine ck_eq.1 ?_
          rw [← hok.2, ← eck]
          refine ckA_c (fun i _ hi => ?_)
          dsimp only
          rw [posted_eq (P := P) (a := ka i) (til := ky i) (ou := fun p => (oa' p).toNatClampNeg) hna hsr' ho' m4]
        generalize ef : jm_up (jb_hp_19 f (c + 1) (cp2 gx tx a nd c) R.2.2 R.2.1) 0 (.inr (0, [.ref 1, .ref 5, .ref 9, .ref 13, .ref 15, .ref 19, .ref 27, .null])) = f1 at hb
        have e1 : ∀ j, 0 < j ∧ (j < 19 ∨ 26 < j) → f1 j = f j := fun j hj => by
          rw [← ef, jm_up_n _ _ (by omega), jb_n_19 hj.2]
        have hr := c_M_commit_ok (d := 3) (L := (L.1, lo, lc, lq, lk)) (f := f1) hn ((e1 35 (by omega)).trans r35) hs s12 (by decide) s0 ((e1 36 (by omega)).trans a36) hP hna s3 s13 s14 ((e1 46 (by omega)).trans a46) hm (by omega) ((e1 38 (by omega)).trans a38) ((e1 39 (by omega)).trans a39) ((e1 40 (by omega)).trans a40) ((e1 41 (by omega)).trans a41) ((e1 42 (by omega)).trans a42) ((e1 43 (by omega)).trans a43) ((e1 44 (by omega)).trans a44) ((e1 45 (by omega)).trans a45) s16 s21 ((e1 47 (by omega)).trans a47) ((e1 48 (by omega)).trans a48) ((e1 49 (by omega)).trans a49) ((e1 50 (by omega)).trans a50) s22 ((e1 51 (by omega)).trans a51) ((e1 52 (by omega)).trans a52) ((e1 53 (by omega)).trans a53) hkc hka ea edy ema ekd eoa ecm eqt eam hmb eRR hr0 rfl
        have hC1 : CI n f1 19 n na par us ki kp po pd pv kc ko ky kv k cd aj ad gn (c + 1) mn' dy' kd' oa' cm' qt' am' R.2.2 R.2.1 false dd m dt := by
          obtain ⟨⟨b1, b2, b3, b4⟩, b5, b6, b7, b8, b9, b10, b11, b12, b13⟩ := hCC
          refine ⟨⟨hn, Nat.le_refl n, dyb_fr (fun j h1 _ => e1 j (by omega)) b3, by decide⟩, ?_, cA_fr (fun j _ _ => e1 j (by omega)) b6, cP_fr (fun j _ _ => e1 j (by omega)) b7, cK_fr (fun j _ _ => e1 j (by omega)) b8, cC_fr (e1 13 (by omega)) (e1 14 (by omega)) b2 (fun j h1 _ => e1 j (by omega)) b9, cS_fr (fun j _ _ => e1 j (by omega)) b10, ⟨cp2 gx tx a nd c, jS_fr (f := jb_hp_19 f (c + 1) (cp2 gx tx a nd c) R.2.2 R.2.1) (fun j h1 h2 => by rw [← ef, jm_up_n _ _ (by omega)]) jb_S_19, jr_mono (Nat.le_refl n) (fun j h1 _ => e1 j (by omega)) hr'⟩, ⟨c, tx, wt, L, jS_fr (jo := 27) (fun j h1 h2 => e1 j (by omega)) hJS2⟩, fun hd => by cases hd⟩
          rw [← ef]
          exact rfl
        refine ⟨9, _, n, f1, n, _, hb, hr, by omega, ⟨by omega, fs, (e1 35 (by omega)).trans r35⟩, 19, n, na, par, us, ki, P, kp, po, pd, pv, kc, ko, ky, kv, ka, k, cd, aj, ad, gn, c + 1, mn', dy', kd', oa', cm', qt', am', R.2.2, R.2.1, false, dd, m, dt, CI_fr (fun j hj => ?_) hC1, ?_, hqA2, hqP2, hqK2, hqC2, ⟨by omega, hmn', hsr', hps', ⟨kd', oa', cm', qt', am', mn', a, L0.2, w0, ?_, fun _ _ => rfl, fun _ _ _ _ => dA_refl _ _ _ _ _ _⟩, ?_⟩, ⟨hm, fun hd => by cases hd⟩, fun i b hi hb => ?_⟩
        · rw [mbL_a, mo_hp_a, if_neg (by omega), if_neg (by omega), if_neg (by omega), if_neg (by omega), if_neg (by omega), if_neg (by omega), if_neg (by omega), if_neg (by omega), if_neg (by omega), if_neg (by omega), if_neg (by omega), if_neg (by omega), if_neg (by omega)]
        · exact ⟨_, RR.2.1, ma', RR.2.2.2, RR.2.2.1.2.1, RR.2.2.1.2.2.1, RR.2.2.1.2.2.2.1, RR.2.2.1.2.2.2.2, pr, adR, pa, rfl, mbf_st (mo_st_set (mo_st_set hs (by decide)) (by decide)) _ _, sc_N (sc_mbf (mo_st_set (mo_st_set hs (by decide)) (by decide)) (sc_12 (mo_st_set hs (by decide)) (sc_3 hs hsc2 (c + 1)) false) RR.2.2.1.1 RR.2.1) m3.1, ⟨(e1 36 (by omega)).trans a36, (e1 37 (by omega)).trans a37, rfl, rfl, rfl, rfl, rfl, rfl, rfl, rfl, (e1 46 (by omega)).trans a46, rfl, rfl, rfl, rfl, (e1 51 (by omega)).trans a51, (e1 52 (by omega)).trans a52, (e1 53 (by omega)).trans a53, (e1 54 (by omega)).trans a54, (e1 55 (by omega)).trans a55, (e1 56 (by omega)).trans a56, (e1 57 (by omega)).trans a57, (e1 58 (by omega)).trans a58, (e1 59 (by omega)).trans a59, (e1 60 (by omega)).trans a60⟩, hma', m4, m3.2.2.1, hpr, had⟩
        · rw [eR, ← m1]
        · have := m3.2.1
          omega
        · rw [hX i b hi hb]
          have hl : cd i < dd := Int32.lt_of_le_of_lt (lc_le hqC2 hi) hlc
          refine congrArg S4 (funext fun w => (adj_c (fun _ => rfl) (fun g2 g hg => hsum _ hl g2 g (fun t q h1 h2 => hg _ ?_)) w).symm)
          obtain ⟨q1, q2, q3, q4, q5⟩ := hd0 t q h1 h2
          exact ⟨q1, q2, q3, q4, by show (R.2.2 (6 * t + q)).toInt64 = (wt (6 * t + q)).toInt64; rw [m5 t q h1 h2]⟩
      · exact absurd hok.1 m1
    · -- refused
      rw [if_neg hok] at hb
      have hval : ∃ r, ¬ r = 0 ∧ (if R.1 = 0 then (if ck = true then 0 else 4) else R.1) = r ∧ ckR (fun i => decide (tr_S P na (fun x => mo_own dy' oa' RR.2.2.2 mn' (c + 1) (nI x) (ky i)) (ka i) = (kv i).toInt64)) 0 kc (cmC RR.1 a) = r := by
        rcases hcmp with ⟨m1, m2, m3, m4, m5⟩ | ⟨m1, m2⟩
        · have hck : ck = false := by
            cases ck with
            | true => exact absurd ⟨m1, rfl⟩ hok
            | false => rfl
          refine ⟨4, by decide, ?_, ?_⟩
          · rw [if_pos m1, hck]; rfl
          · rw [m2, cmC_m1]
            refine ck_eq.2 ?_
            rw [← hck, ← eck]
            refine ckA_c (fun i _ hi => ?_)
            dsimp only
            rw [posted_eq (P := P) (a := ka i) (til := ky i) (ou := fun p => (oa' p).toNatClampNeg) hna hsr' ho' m4]
        · exact ⟨R.1, m1, if_neg m1, by rw [← m2]; exact ckR_n m1⟩
      obtain ⟨r, hr1, hr2, hr3⟩ := hval
      rw [hr2] at hb
      generalize ef : jb_hp_19 f (c + 1) (cp2 gx tx a nd c) R.2.2 R.2.1 = f1 at hb
      have e1 : ∀ j, (j < 19 ∨ 26 < j) → f1 j = f j := fun j hj => by
        rw [← ef, jb_n_19 hj]
      have hr := c_M_commit_no (d := 3) (L := (L.1, lo, lc, lq, lk)) (f := f1) hn ((e1 35 (by omega)).trans r35) hs s12 (by decide) s0 ((e1 36 (by omega)).trans a36) hP hna s3 s13 s14 ((e1 46 (by omega)).trans a46) hm (by omega) ((e1 38 (by omega)).trans a38) ((e1 39 (by omega)).trans a39) ((e1 40 (by omega)).trans a40) ((e1 41 (by omega)).trans a41) ((e1 42 (by omega)).trans a42) ((e1 43 (by omega)).trans a43) ((e1 44 (by omega)).trans a44) ((e1 45 (by omega)).trans a45) s16 s21 ((e1 47 (by omega)).trans a47) ((e1 48 (by omega)).trans a48) ((e1 49 (by omega)).trans a49) ((e1 50 (by omega)).trans a50) s22 ((e1 51 (by omega)).trans a51) ((e1 52 (by omega)).trans a52) ((e1 53 (by omega)).trans a53) hkc hka ea edy ema ekd eoa ecm eqt eam hmb eRR hr3 hr1 hac hma1 rfl
      obtain ⟨u1, u2, u3⟩ := rebook hbk hc (fun t ht => ⟨rfl, hmn t ht⟩) (fun t q h1 h2 => ⟨hd6 t q h1 h2, (hps t q h1 h2).2.1⟩) RR.2.2.1.2 RR.2.2.2
      generalize bkA (del6 kd' a c) (del6 oa' a c) (del6 cm' a c) (del6 qt' a c) (del6 am' a c) mn 0 c (0, RR.2.2.1.2) RR.2.2.2 = R2 at hr u1 u2 u3
      have hC1 : CI n f1 27 nd na par us ki kp po pd pv kc ko ky kv k cd aj ad gn c mn (del1 dy' a c) (del6 kd' a c) (del6 oa' a c) (del6 cm' a c) (del6 qt' a c) (del6 am' a c) wt L true dd m dt := by
        obtain ⟨⟨b1, b2, b3, b4⟩, b5, b6, b7, b8, b9, b10, b11, b12, b13⟩ := hCC
        exact ⟨⟨b1, b2, dyb_fr (fun j h1 _ => e1 j (by omega)) b3, b4⟩, c0_fr (e1 0 (by omega)) b5, cA_fr (fun j _ _ => e1 j (by omega)) b6, cP_fr (fun j _ _ => e1 j (by omega)) b7, cK_fr (fun j _ _ => e1 j (by omega)) b8, cC_fr (e1 13 (by omega)) (e1 14 (by omega)) (Nat.le_refl nd) (fun j h1 _ => e1 j (by omega)) b9, cS_fr (fun j _ _ => e1 j (by omega)) b10, ⟨tx, jS_fr (jo := 27) (fun j h1 h2 => e1 j (by omega)) hJS2, jr_c (jr_mono (Nat.le_refl nd) (fun j h1 _ => e1 j (by omega)) hjr) hdy1 hd6⟩, ⟨c + 1, cp2 gx tx a nd c, R.2.2, R.2.1, by rw [← ef]; exact jb_S_19⟩, fun hd => drf_fr (Nat.le_refl n) (fun j h1 _ => e1 j (by omega)) (b13 hd)⟩
      refine ⟨9, _, n, f1, n, _, hb, hr, by omega, ⟨by omega, fs, (e1 35 (by omega)).trans r35⟩, 27, nd, na, par, us, ki, P, kp, po, pd, pv, kc, ko, ky, kv, ka, k, cd, aj, ad, gn, c, mn, del1 dy' a c, del6 kd' a c, del6 oa' a c, del6 cm' a c, del6 qt' a c, del6 am' a c, wt, L, true, dd, m, dt, CI_fr (fun j hj => ?_) hC1, ?_, hqA2, hqP2, hqK2, hqC2, ⟨hc, hmn, fun i j h1 h2 => ?_, fun t q h1 h2 => ?_, BOK_c hbk (fun _ _ => rfl) hd6, hL⟩, hqD2, fun i b hi hb => ?_⟩
      · rw [mbL_a, mo_hp_a, if_neg (by omega), if_neg (by omega), if_neg (by omega), if_neg (by omega), if_neg (by omega), if_neg (by omega), if_neg (by omega), if_neg (by omega), if_neg (by omega), if_neg (by omega), if_neg (by omega), if_neg (by omega), if_neg (by omega)]
      · exact ⟨_, R2.2.1, del1 ma' a c, R2.2.2.2, R2.2.2.1.2.1, R2.2.2.1.2.2.1, R2.2.2.1.2.2.2.1, R2.2.2.1.2.2.2.2, pr, adR, pa, rfl, mbf_st hs _ _, sc_N (sc_mbf hs hsc2 R2.2.2.1.1 R2.2.1) u2.1, ⟨(e1 36 (by omega)).trans a36, (e1 37 (by omega)).trans a37, rfl, rfl, rfl, rfl, rfl, rfl, rfl, rfl, (e1 46 (by omega)).trans a46, rfl, rfl, rfl, rfl, (e1 51 (by omega)).trans a51, (e1 52 (by omega)).trans a52, (e1 53 (by omega)).trans a53, (e1 54 (by omega)).trans a54, (e1 55 (by omega)).trans a55, (e1 56 (by omega)).trans a56, (e1 57 (by omega)).trans a57, (e1 58 (by omega)).trans a58, (e1 59 (by omega)).trans a59, (e1 60 (by omega)).trans a60⟩, fun t ht => (hma1 t ht).1, u3, u2.2.2.1, hpr, had⟩
      · rw [hdy1 i (by omega), hdy1 j h2]; exact hsr i j h1 h2
      · obtain ⟨q1, q2, q3, q4, q5⟩ := hd6 t q h1 h2
        rw [q1, q2, q3, q4, q5]
        exact hps t q h1 h2
      · rw [hX i b hi hb]
        refine congrArg S4 (funext fun w => (adj_c (fun _ => rfl) (fun g2 g hg => mo_sum_d hdy1 (fun t q h1 h2 => hg _ ?_)) w).symm)
        obtain ⟨q1, q2, q3, q4, q5⟩ := hd6 t q h1 h2
        exact ⟨q1, q2, q3, q4, rfl⟩
theorem jb_id_27 {c : Nat} {tx : Nat → Option Nat} {wt : Nat → Int32} {L : LC} (h : jS 27 f c tx wt L) : jb_hp_27 f c tx wt L = f := by
  obtain ⟨h0, h1, h2, h3, h4, h5, h6, h7⟩ := h
  funext j
  rw [jb_a_27]
  by_cases e3 : j = 30
  · rw [if_pos e3, e3]; exact h3.symm
  · rw [if_neg e3]
    by_cases e4 : j = 31
    · rw [if_pos e4, e4]; exact h4.symm
    · rw [if_neg e4]
      by_cases e5 : j = 32
      · rw [if_pos e5, e5]; exact h5.symm
      · rw [if_neg e5]
        by_cases e6 : j = 33
        · rw [if_pos e6, e6]; exact h6.symm
        · rw [if_neg e6]
          by_cases e7 : j = 34
          · rw [if_pos e7, e7]; exact h7.symm
          · rw [if_neg e7]
            by_cases e0 : j = 27
            · rw [if_pos e0, e0]; exact h0.symm
            · rw [if_neg e0]
              by_cases e1 : j = 28
              · rw [if_pos e1, e1]; exact h1.symm
              · rw [if_neg e1]
                by_cases e2 : j = 29
                · rw [if_pos e2, e2]; exact h2.symm
                · rw [if_neg e2]
theorem jb_S_27 {c : Nat} {tx : Nat → Option Nat} {wt : Nat → Int32} {L : LC} : jS 27 (jb_hp_27 f c tx wt L) c tx wt L := ⟨rfl, rfl, rfl, rfl, rfl, rfl, rfl, rfl⟩
theorem jb_n_27 {c : Nat} {tx : Nat → Option Nat} {wt : Nat → Int32} {L : LC} {j : Nat} (h : j < 27 ∨ 34 < j) : jb_hp_27 f c tx wt L j = f j := by
  rw [jb_a_27, if_neg (by omega), if_neg (by omega), if_neg (by omega), if_neg (by omega), if_neg (by omega), if_neg (by omega), if_neg (by omega), if_neg (by omega)]
theorem op_commit_27 {nd : Nat} {na : Nat} {par : Nat → Int32} {us : Nat → Int32} {ki : Nat → Int32} {P : Nat → Nat} {kp : Nat} {po : Nat → Int32} {pd : Nat → Int32} {pv : Nat → Int32} {kc : Nat} {ko : Nat → Int32} {ky : Nat → Int32} {kv : Nat → Int32} {ka : Nat → Nat} {k : Nat} {cd : Nat → Int32} {aj : Nat → Nat → Int64} {ad : Nat → Nat → Int64} {gn : Nat → Int64} {c : Nat} {mn : Nat → Nat} {dy : Nat → Int32} {kd : Nat → Int32} {oa : Nat → Int32} {cm : Nat → Int32} {qt : Nat → Int32} {am : Nat → Int32} {wt : Nat → Int32} {L : LC} {dr : Bool} {dd : Int32} {m : Nat} {dt : Nat → Int32} (h : inv n f) (hC : CI n f 19 nd na par us ki kp po pd pv kc ko ky kv k cd aj ad gn c mn dy kd oa cm qt am wt L dr dd m dt) (hR : RI f na par us kp po pd pv kc ko ky kv k cd ad gn c mn dy kd oa cm qt am wt L dr dd m dt) (hPI : PI na par us ki P kp po pd pv kc ko ky kv ka k cd aj ad gn c mn dy kd oa cm qt am wt L dr dd m dt) : OpI 7 97 [] n f := by
  have hjo : 19 = 19 ∨ 19 = 27 := by decide
  have hI := h
  have hCC := hC
  have hRR := hR
  obtain ⟨⟨hnd, hndn, hdy, _⟩, h0, ⟨x1, x2, x3, x4⟩, ⟨x5, x6, x7, x8⟩, ⟨x9, x10, x11, x12⟩, ⟨x13, cx, x14, hcl⟩, ⟨x15, og, wg, sg, x16, x17, x18⟩, ⟨tx, hJS, hjr⟩, hT, hDr⟩ := hC
  have hJS2 := hJS
  obtain ⟨j0, j1, j2, j3, j4, j5, j6, j7⟩ := hJS
  obtain ⟨fs, xf, ma, w64, lo, lc, lq, lk, pr, adR, pa, r35, hs, hsc, ⟨a36, a37, a38, a39, a40, a41, a42, a43, a44, a45, a46, a47, a48, a49, a50, a51, a52, a53, a54, a55, a56, a57, a58, a59, a60⟩, hma, hw, hsm, hpr, had⟩ := hR
  have hsc2 := hsc
  obtain ⟨s0, s3, s12, s13, s14, s16, s21, s22, s26, s30⟩ := hsc
  have hPI2 := hPI
  obtain ⟨hqA, hqP, hqK, hqC, hqJ, hqD, hX⟩ := hPI
  have hqA2 := hqA
  have hqP2 := hqP
  have hqK2 := hqK
  have hqC2 := hqC
  have hqJ2 := hqJ
  have hqD2 := hqD
  obtain ⟨hP, hna7, hna, hki⟩ := hqA
  obtain ⟨hkp, hdis, hprok⟩ := hqP
  obtain ⟨hkc, hka⟩ := hqK
  obtain ⟨hk, hcd⟩ := hqC
  obtain ⟨hc, hmn, hsr, hps, hbk, hL⟩ := hqJ
  obtain ⟨hm, hdr⟩ := hqD
  have hn : 61 ≤ n := by omega
  have ho : ∀ t k, t < c → k < mn t → oa (6 * t + k) = nI ((fun p => (oa p).toNatClampNeg) (6 * t + k)) ∧ (fun p => (oa p).toNatClampNeg) (6 * t + k) < na := fun t k h1 h2 => pst_ou hna (hps t k h1 h2)
  have hjrn : jr n f tx c mn dy kd oa cm qt am := jr_mono hndn (fun _ _ _ => rfl) hjr
  have hcln : cls n f cx k cd aj ad gn := cls_mono hndn (fun _ _ _ => rfl) hcl
  have hm41 : ∀ t, t < c → ma t = nI (mn t) ∧ mn t ≤ 6 := fun t ht => ⟨hma t ht, hmn t ht⟩
  cases dr with
  | false =>
    exact ⟨9, _, n, f, n, f, c_B_commit_null_27 (d := 8) hn h0, c_M_commit_none (d := 8) hn r35 s12, by omega, ⟨by omega, fs, r35⟩, hI⟩
  | true =>
    obtain ⟨hc40, hlc, hdp⟩ := hdr rfl
    have htx := drf_tx hnd hm (hDr rfl)
    obtain ⟨c0, gx, w0, L0, hTS⟩ := hT
    have hTS : jS 27 f c0 gx w0 L0 := hTS
    generalize ea : mo_at dy dd c = a
    have hac : a ≤ c := ea ▸ mo_at_le dy dd c
    have hr' := jr_ins (gx := gx) hjrn hmn hac hm htx
    have hps' := pst_ins hps hmn hac hm hdp
    have hmn' := inN_6 hmn hac hm
    have hma' := ma_ins (m := m) hma hac
    have hsr' := ins_srt hsr ea
    have hd0 : ∀ t k, t < a → k < mn t → dA kd oa cm qt am (wr6 (ins6 kd a c) a m (fun k => dt (5 * k))) (wr6 (ins6 oa a c) a m (fun k => dt (5 * k + 1))) (wr6 (ins6 cm a c) a m (fun k => dt (5 * k + 2))) (wr6 (ins6 qt a c) a m (fun k => dt (5 * k + 3))) (wr6 (ins6 am a c) a m (fun k => dt (5 * k + 4))) (6 * t + k) := fun t k h1 h2 => by
      have := hmn t (by omega)
      exact ⟨in6_lt h1 (by omega), in6_lt h1 (by omega), in6_lt h1 (by omega), in6_lt h1 (by omega), in6_lt h1 (by omega)⟩
    have hd6 : ∀ t k, t < c → k < mn t → dA kd oa cm qt am (del6 (wr6 (ins6 kd a c) a m (fun k => dt (5 * k))) a c) (del6 (wr6 (ins6 oa a c) a m (fun k => dt (5 * k + 1))) a c) (del6 (wr6 (ins6 cm a c) a m (fun k => dt (5 * k + 2))) a c) (del6 (wr6 (ins6 qt a c) a m (fun k => dt (5 * k + 3))) a c) (del6 (wr6 (ins6 am a c) a m (fun k => dt (5 * k + 4))) a c) (6 * t + k) := fun t k h1 h2 => by
      have := hmn t h1
      exact ⟨de6 h1 (by omega) hm, de6 h1 (by omega) hm, de6 h1 (by omega) hm, de6 h1 (by omega) hm, de6 h1 (by omega) hm⟩
    have hdy1 : ∀ t, t < c → del1 (upd (ins1 dy a c) a dd) a c t = dy t := fun t ht => de1 ht
    have hma1 : ∀ t, t < c → del1 (upd (ins1 ma a c) a (nI m)) a c t = nI (mn t) ∧ mn t ≤ 6 := fun t ht => ⟨(de1 ht).trans (hma t ht), hmn t ht⟩
    have hsum : ∀ (til : Int32), til < dd → ∀ g2 g : Nat → Int64, (∀ t k, t < a → k < mn t → g2 (6 * t + k) = g (6 * t + k)) → mo_sum (upd (ins1 dy a c) a dd) (inN mn a m) (c + 1) til g2 = mo_sum dy mn c til g := fun til hl g2 g hg => ins_sum hsr ea hl hg
    have hcmp := commit_eq (mn2 := inN mn a m) hbk hc40 hac hmn (fun t k h1 h2 => (hps t k h1 h2).2.1) (fun t h1 => inN_lt h1) hd0 hmn' (fun t k h1 h2 => (hps' t k h1 h2).2.1) L0.2 w0 (lo, lc, lq, lk) w64
    generalize edy : upd (ins1 dy a c) a dd = dy' at hr' hsr' hdy1 hsum
    generalize ema : upd (ins1 ma a c) a (nI m) = ma' at hma' hma1
    generalize ekd : wr6 (ins6 kd a c) a m (fun k => dt (5 * k)) = kd' at hr' hps' hd0 hd6 hcmp
    generalize eoa : wr6 (ins6 oa a c) a m (fun k => dt (5 * k + 1)) = oa' at hr' hps' hd0 hd6 hcmp
    generalize ecm : wr6 (ins6 cm a c) a m (fun k => dt (5 * k + 2)) = cm' at hr' hps' hd0 hd6 hcmp
    generalize eqt : wr6 (ins6 qt a c) a m (fun k => dt (5 * k + 3)) = qt' at hr' hps' hd0 hd6 hcmp
    generalize eam : wr6 (ins6 am a c) a m (fun k => dt (5 * k + 4)) = am' at hr' hps' hd0 hd6 hcmp
    generalize emn : inN mn a m = mn' at hr' hps' hmn' hma' hsum hcmp
    have ho' : ∀ t k, t < c + 1 → k < mn' t → oa' (6 * t + k) = nI ((fun p => (oa' p).toNatClampNeg) (6 * t + k)) ∧ (fun p => (oa' p).toNatClampNeg) (6 * t + k) < na := fun t k h1 h2 => pst_ou hna (hps' t k h1 h2)
    have hmb : ∀ t, t < c + 1 → ma' t = nI (mn' t) ∧ mn' t ≤ 6 := fun t ht => ⟨hma' t ht, hmn' t ht⟩
    have hb := c_B_commit_27 (d := 2) (ou := fun p => (oa' p).toNatClampNeg) (c0 := c0) (gx := gx) (wt := w0) (L := L0) hn h0 j0 j1 hjrn hc40 htx ea hr' rfl x9 x10 x11 x12 hkc hka x1 x2 hP hna ho' rfl
    rw [jb_id_27 hTS] at hb
    generalize eR : bkAC kd' oa' cm' qt' am' mn' a 0 (c + 1) (0, L0.2) w0 = R at hb hcmp
    generalize eRR : bkA kd' oa' cm' qt' am' mn' 0 (c + 1) (0, lo, lc, lq, lk) w64 = RR at hcmp
    generalize eck : ckA (fun i => decide (js mn' (fun p => if tr P (ka i) ((fun p => (oa' p).toNatClampNeg) p) = true then (R.2.2 p).toInt64 else 0) (mo_at dy' (ky i) (c + 1)) = (kv i).toInt64)) 0 kc = ck at hb
    by_cases hok : R.1 = 0 ∧ ck = true
    · -- done
      rw [if_pos hok.1, if_pos hok.2, if_pos hok] at hb
      rcases hcmp with ⟨m1, m2, m3, m4, m5⟩ | ⟨m1, m2⟩
      · have hr0 : ckR (fun i => decide (tr_S P na (fun x => mo_own dy' oa' RR.2.2.2 mn' (c + 1) (nI x) (ky i)) (ka i) = (kv i).toInt64)) 0 kc (cmC RR.1 a) = 0 := by
          rw [m2, cmC_m1]
          refine ck_eq.1 ?_
          rw [← hok.2, ← eck]
          refine ckA_c (fun i _ hi => ?_)
          dsimp only
          rw [posted_eq (P := P) (a := ka i) (til := ky i) (ou := fun p => (oa' p).toNatClampNeg) hna hsr' ho' m4]
        generalize ef : jm_up (jb_hp_27 f (c + 1) (cp2 gx tx a nd c) R.2.2 R.2.1) 0 (.inr (0, [.ref 1, .ref 5, .ref 9, .ref 13, .ref 15, .ref 27, .ref 19, .null])) = f1 at hb
        have e1 : ∀ j, 0 < j ∧ (j < 27 ∨ 34 < j) → f1 j = f j := fun j hj => by
          rw [← ef, jm_up_n _ _ (by omega), jb_n_27 hj.2]
        have hr := c_M_commit_ok (d := 3) (L := (L.1, lo, lc, lq, lk)) (f := f1) hn ((e1 35 (by omega)).trans r35) hs s12 (by decide) s0 ((e1 36 (by omega)).trans a36) hP hna s3 s13 s14 ((e1 46 (by omega)).trans a46) hm (by omega) ((e1 38 (by omega)).trans a38) ((e1 39 (by omega)).trans a39) ((e1 40 (by omega)).trans a40) ((e1 41 (by omega)).trans a41) ((e1 42 (by omega)).trans a42) ((e1 43 (by omega)).trans a43) ((e1 44 (by omega)).trans a44) ((e1 45 (by omega)).trans a45) s16 s21 ((e1 47 (by omega)).trans a47) ((e1 48 (by omega)).trans a48) ((e1 49 (by omega)).trans a49) ((e1 50 (by omega)).trans a50) s22 ((e1 51 (by omega)).trans a51) ((e1 52 (by omega)).trans a52) ((e1 53 (by omega)).trans a53) hkc hka ea edy ema ekd eoa ecm eqt eam hmb eRR hr0 rfl
        have hC1 : CI n f1 27 n na par us ki kp po pd pv kc ko ky kv k cd aj ad gn (c + 1) mn' dy' kd' oa' cm' qt' am' R.2.2 R.2.1 false dd m dt := by
          obtain ⟨⟨b1, b2, b3, b4⟩, b5, b6, b7, b8, b9, b10, b11, b12, b13⟩ := hCC
          refine ⟨⟨hn, Nat.le_refl n, dyb_fr (fun j h1 _ => e1 j (by omega)) b3, by decide⟩, ?_, cA_fr (fun j _ _ => e1 j (by omega)) b6, cP_fr (fun j _ _ => e1 j (by omega)) b7, cK_fr (fun j _ _ => e1 j (by omega)) b8, cC_fr (e1 13 (by omega)) (e1 14 (by omega)) b2 (fun j h1 _ => e1 j (by omega)) b9, cS_fr (fun j _ _ => e1 j (by omega)) b10, ⟨cp2 gx tx a nd c, jS_fr (f := jb_hp_27 f (c + 1) (cp2 gx tx a nd c) R.2.2 R.2.1) (fun j h1 h2 => by rw [← ef, jm_up_n _ _ (by omega)]) jb_S_27, jr_mono (Nat.le_refl n) (fun j h1 _ => e1 j (by omega)) hr'⟩, ⟨c, tx, wt, L, jS_fr (jo := 19) (fun j h1 h2 => e1 j (by omega)) hJS2⟩, fun hd => by cases hd⟩
          rw [← ef]
          exact rfl
        refine ⟨9, _, n, f1, n, _, hb, hr, by omega, ⟨by omega, fs, (e1 35 (by omega)).trans r35⟩, 27, n, na, par, us, ki, P, kp, po, pd, pv, kc, ko, ky, kv, ka, k, cd, aj, ad, gn, c + 1, mn', dy', kd', oa', cm', qt', am', R.2.2, R.2.1, false, dd, m, dt, CI_fr (fun j hj => ?_) hC1, ?_, hqA2, hqP2, hqK2, hqC2, ⟨by omega, hmn', hsr', hps', ⟨kd', oa', cm', qt', am', mn', a, L0.2, w0, ?_, fun _ _ => rfl, fun _ _ _ _ => dA_refl _ _ _ _ _ _⟩, ?_⟩, ⟨hm, fun hd => by cases hd⟩, fun i b hi hb => ?_⟩
        · rw [mbL_a, mo_hp_a, if_neg (by omega), if_neg (by omega), if_neg (by omega), if_neg (by omega), if_neg (by omega), if_neg (by omega), if_neg (by omega), if_neg (by omega), if_neg (by omega), if_neg (by omega), if_neg (by omega), if_neg (by omega), if_neg (by omega)]
        · exact ⟨_, RR.2.1, ma', RR.2.2.2, RR.2.2.1.2.1, RR.2.2.1.2.2.1, RR.2.2.1.2.2.2.1, RR.2.2.1.2.2.2.2, pr, adR, pa, rfl, mbf_st (mo_st_set (mo_st_set hs (by decide)) (by decide)) _ _, sc_N (sc_mbf (mo_st_set (mo_st_set hs (by decide)) (by decide)) (sc_12 (mo_st_set hs (by decide)) (sc_3 hs hsc2 (c + 1)) false) RR.2.2.1.1 RR.2.1) m3.1, ⟨(e1 36 (by omega)).trans a36, (e1 37 (by omega)).trans a37, rfl, rfl, rfl, rfl, rfl, rfl, rfl, rfl, (e1 46 (by omega)).trans a46, rfl, rfl, rfl, rfl, (e1 51 (by omega)).trans a51, (e1 52 (by omega)).trans a52, (e1 53 (by omega)).trans a53, (e1 54 (by omega)).trans a54, (e1 55 (by omega)).trans a55, (e1 56 (by omega)).trans a56, (e1 57 (by omega)).trans a57, (e1 58 (by omega)).trans a58, (e1 59 (by omega)).trans a59, (e1 60 (by omega)).trans a60⟩, hma', m4, m3.2.2.1, hpr, had⟩
        · rw [eR, ← m1]
        · have := m3.2.1
          omega
        · rw [hX i b hi hb]
          have hl : cd i < dd := Int32.lt_of_le_of_lt (lc_le hqC2 hi) hlc
          refine congrArg S4 (funext fun w => (adj_c (fun _ => rfl) (fun g2 g hg => hsum _ hl g2 g (fun t q h1 h2 => hg _ ?_)) w).symm)
          obtain ⟨q1, q2, q3, q4, q5⟩ := hd0 t q h1 h2
          exact ⟨q1, q2, q3, q4, by show (R.2.2 (6 * t + q)).toInt64 = (wt (6 * t + q)).toInt64; rw [m5 t q h1 h2]⟩
      · exact absurd hok.1 m1
    · -- refused
      rw [if_neg hok] at hb
      have hval : ∃ r, ¬ r = 0 ∧ (if R.1 = 0 then (if ck = true then 0 else 4) else R.1) = r ∧ ckR (fun i => decide (tr_S P na (fun x => mo_own dy' oa' RR.2.2.2 mn' (c + 1) (nI x) (ky i)) (ka i) = (kv i).toInt64)) 0 kc (cmC RR.1 a) = r := by
        rcases hcmp with ⟨m1, m2, m3, m4, m5⟩ | ⟨m1, m2⟩
        · have hck : ck = false := by
            cases ck with
            | true => exact absurd ⟨m1, rfl⟩ hok
            | false => rfl
          refine ⟨4, by decide, ?_, ?_⟩
          · rw [if_pos m1, hck]; rfl
          · rw [m2, cmC_m1]
            refine ck_eq.2 ?_
            rw [← hck, ← eck]
            refine ckA_c (fun i _ hi => ?_)
            dsimp only
            rw [posted_eq (P := P) (a := ka i) (til := ky i) (ou := fun p => (oa' p).toNatClampNeg) hna hsr' ho' m4]
        · exact ⟨R.1, m1, if_neg m1, by rw [← m2]; exact ckR_n m1⟩
      obtain ⟨r, hr1, hr2, hr3⟩ := hval
      rw [hr2] at hb
      generalize ef : jb_hp_27 f (c + 1) (cp2 gx tx a nd c) R.2.2 R.2.1 = f1 at hb
      have e1 : ∀ j, (j < 27 ∨ 34 < j) → f1 j = f j := fun j hj => by
        rw [← ef, jb_n_27 hj]
      have hr := c_M_commit_no (d := 3) (L := (L.1, lo, lc, lq, lk)) (f := f1) hn ((e1 35 (by omega)).trans r35) hs s12 (by decide) s0 ((e1 36 (by omega)).trans a36) hP hna s3 s13 s14 ((e1 46 (by omega)).trans a46) hm (by omega) ((e1 38 (by omega)).trans a38) ((e1 39 (by omega)).trans a39) ((e1 40 (by omega)).trans a40) ((e1 41 (by omega)).trans a41) ((e1 42 (by omega)).trans a42) ((e1 43 (by omega)).trans a43) ((e1 44 (by omega)).trans a44) ((e1 45 (by omega)).trans a45) s16 s21 ((e1 47 (by omega)).trans a47) ((e1 48 (by omega)).trans a48) ((e1 49 (by omega)).trans a49) ((e1 50 (by omega)).trans a50) s22 ((e1 51 (by omega)).trans a51) ((e1 52 (by omega)).trans a52) ((e1 53 (by omega)).trans a53) hkc hka ea edy ema ekd eoa ecm eqt eam hmb eRR hr3 hr1 hac hma1 rfl
      obtain ⟨u1, u2, u3⟩ := rebook hbk hc (fun t ht => ⟨rfl, hmn t ht⟩) (fun t q h1 h2 => ⟨hd6 t q h1 h2, (hps t q h1 h2).2.1⟩) RR.2.2.1.2 RR.2.2.2
      generalize bkA (del6 kd' a c) (del6 oa' a c) (del6 cm' a c) (del6 qt' a c) (del6 am' a c) mn 0 c (0, RR.2.2.1.2) RR.2.2.2 = R2 at hr u1 u2 u3
      have hC1 : CI n f1 19 nd na par us ki kp po pd pv kc ko ky kv k cd aj ad gn c mn (del1 dy' a c) (del6 kd' a c) (del6 oa' a c) (del6 cm' a c) (del6 qt' a c) (del6 am' a c) wt L true dd m dt := by
        obtain ⟨⟨b1, b2, b3, b4⟩, b5, b6, b7, b8, b9, b10, b11, b12, b13⟩ := hCC
        exact ⟨⟨b1, b2, dyb_fr (fun j h1 _ => e1 j (by omega)) b3, b4⟩, c0_fr (e1 0 (by omega)) b5, cA_fr (fun j _ _ => e1 j (by omega)) b6, cP_fr (fun j _ _ => e1 j (by omega)) b7, cK_fr (fun j _ _ => e1 j (by omega)) b8, cC_fr (e1 13 (by omega)) (e1 14 (by omega)) (Nat.le_refl nd) (fun j h1 _ => e1 j (by omega)) b9, cS_fr (fun j _ _ => e1 j (by omega)) b10, ⟨tx, jS_fr (jo := 19) (fun j h1 h2 => e1 j (by omega)) hJS2, jr_c (jr_mono (Nat.le_refl nd) (fun j h1 _ => e1 j (by omega)) hjr) hdy1 hd6⟩, ⟨c + 1, cp2 gx tx a nd c, R.2.2, R.2.1, by rw [← ef]; exact jb_S_27⟩, fun hd => drf_fr (Nat.le_refl n) (fun j h1 _ => e1 j (by omega)) (b13 hd)⟩
      refine ⟨9, _, n, f1, n, _, hb, hr, by omega, ⟨by omega, fs, (e1 35 (by omega)).trans r35⟩, 19, nd, na, par, us, ki, P, kp, po, pd, pv, kc, ko, ky, kv, ka, k, cd, aj, ad, gn, c, mn, del1 dy' a c, del6 kd' a c, del6 oa' a c, del6 cm' a c, del6 qt' a c, del6 am' a c, wt, L, true, dd, m, dt, CI_fr (fun j hj => ?_) hC1, ?_, hqA2, hqP2, hqK2, hqC2, ⟨hc, hmn, fun i j h1 h2 => ?_, fun t q h1 h2 => ?_, BOK_c hbk (fun _ _ => rfl) hd6, hL⟩, hqD2, fun i b hi hb => ?_⟩
      · rw [mbL_a, mo_hp_a, if_neg (by omega), if_neg (by omega), if_neg (by omega), if_neg (by omega), if_neg (by omega), if_neg (by omega), if_neg (by omega), if_neg (by omega), if_neg (by omega), if_neg (by omega), if_neg (by omega), if_neg (by omega), if_neg (by omega)]
      · exact ⟨_, R2.2.1, del1 ma' a c, R2.2.2.2, R2.2.2.1.2.1, R2.2.2.1.2.2.1, R2.2.2.1.2.2.2.1, R2.2.2.1.2.2.2.2, pr, adR, pa, rfl, mbf_st hs _ _, sc_N (sc_mbf hs hsc2 R2.2.2.1.1 R2.2.1) u2.1, ⟨(e1 36 (by omega)).trans a36, (e1 37 (by omega)).trans a37, rfl, rfl, rfl, rfl, rfl, rfl, rfl, rfl, (e1 46 (by omega)).trans a46, rfl, rfl, rfl, rfl, (e1 51 (by omega)).trans a51, (e1 52 (by omega)).trans a52, (e1 53 (by omega)).trans a53, (e1 54 (by omega)).trans a54, (e1 55 (by omega)).trans a55, (e1 56 (by omega)).trans a56, (e1 57 (by omega)).trans a57, (e1 58 (by omega)).trans a58, (e1 59 (by omega)).trans a59, (e1 60 (by omega)).trans a60⟩, fun t ht => (hma1 t ht).1, u3, u2.2.2.1, hpr, had⟩
      · rw [hdy1 i (by omega), hdy1 j h2]; exact hsr i j h1 h2
      · obtain ⟨q1, q2, q3, q4, q5⟩ := hd6 t q h1 h2
        rw [q1, q2, q3, q4, q5]
        exact hps t q h1 h2
      · rw [hX i b hi hb]
        refine congrArg S4 (funext fun w => (adj_c (fun _ => rfl) (fun g2 g hg => mo_sum_d hdy1 (fun t q h1 h2 => hg _ ?_)) w).symm)
        obtain ⟨q1, q2, q3, q4, q5⟩ := hd6 t q h1 h2
        exact ⟨q1, q2, q3, q4, rfl⟩
theorem op_commit (h : inv n f) : OpI 7 97 [] n f := by
  have h2 := h
  obtain ⟨jo, nd, na, par, us, ki, P, kp, po, pd, pv, kc, ko, ky, kv, ka, k, cd, aj, ad, gn, c, mn, dy, kd, oa, cm, qt, am, wt, L, dr, dd, m, dt, hC, hR, hPI⟩ := h
  rcases hC.1.2.2.2 with rfl | rfl
  · exact op_commit_27 h2 hC hR hPI
  · exact op_commit_19 h2 hC hR hPI
end
