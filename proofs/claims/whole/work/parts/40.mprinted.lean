/-- the accounts above an account -/
def tr_c (P : Nat → Nat) (x : Nat) : Nat → Nat
  | 0 => x
  | g + 1 => P (tr_c P x g)
theorem tr_c_s (P : Nat → Nat) (x : Nat) : ∀ g, tr_c P x (g + 1) = tr_c P (P x) g
  | 0 => rfl
  | g + 1 => by
    show P (tr_c P x (g + 1)) = P (tr_c P (P x) g)
    rw [tr_c_s P x g]
theorem tr_dep {P : Nat → Nat} {n : Nat} (hp : tr_ok P n) : ∀ (k x : Nat), x < k → x < n → ∃ D, tr_c P x D < 5 ∧ (∀ i, i < D → 5 ≤ tr_c P x i) ∧ (∀ i, i ≤ D → tr_c P x i + i ≤ x)
  | 0, _, h, _ => by omega
  | k + 1, x, h, hx => by
    by_cases h5 : 5 ≤ x
    · have h6 := hp x h5 hx
      obtain ⟨D, d1, d2, d3⟩ := tr_dep hp k (P x) (by omega) (by omega)
      refine ⟨D + 1, by rw [tr_c_s]; exact d1, fun i hi => ?_, fun i hi => ?_⟩
      · cases i with
        | zero => exact h5
        | succ i => rw [tr_c_s]; exact d2 i (by omega)
      · cases i with
        | zero => exact Nat.le_refl _
        | succ i =>
          rw [tr_c_s]
          have := d3 i (by omega)
          omega
    · exact ⟨0, by show x < 5; omega, fun i hi => by omega, fun i hi => by
        have : i = 0 := by omega
        subst this
        exact Nat.le_refl _⟩
/-- what is printed for an account -/
def mo_prF (par : Nat → Int32) (P : Nat → Nat) (na : Nat) (o : Nat → Int64) (u64 : Int64) : Nat → Nat → Int64
  | 0, _ => 0
  | k + 1, x => if 5 ≤ x then sh par P na o (P x) (nI (P x)) (mo_prF par P na o u64 k (P x)) x u64 else sh par P na o 0 (-1) 0 x u64
def mo_pr (par : Nat → Int32) (P : Nat → Nat) (na : Nat) (o : Nat → Int64) (u64 : Int64) (x : Nat) : Int64 := mo_prF par P na o u64 (x + 1) x
theorem mo_prF_fuel {par : Nat → Int32} {P : Nat → Nat} {na n : Nat} {o : Nat → Int64} {u64 : Int64} (hp : tr_ok P n) : ∀ (f g x : Nat), x < n → x < f → x < g → mo_prF par P na o u64 f x = mo_prF par P na o u64 g x
  | 0, _, _, _, h, _ => by omega
  | _, 0, _, _, _, h => by omega
  | f + 1, g + 1, x, hx, h1, h2 => by
    simp only [mo_prF]
    by_cases h5 : 5 ≤ x
    · have := hp x h5 hx
      rw [if_pos h5, if_pos h5, mo_prF_fuel hp f g (P x) (by omega) (by omega) (by omega)]
    · rw [if_neg h5, if_neg h5]
theorem mo_pr_eq {par : Nat → Int32} {P : Nat → Nat} {na n x : Nat} {o : Nat → Int64} {u64 : Int64} (hp : tr_ok P n) (hx : x < n) : mo_pr par P na o u64 x = if 5 ≤ x then sh par P na o (P x) (nI (P x)) (mo_pr par P na o u64 (P x)) x u64 else sh par P na o 0 (-1) 0 x u64 := by
  unfold mo_pr
  conv => lhs; unfold mo_prF
  by_cases h5 : 5 ≤ x
  · have := hp x h5 hx
    rw [if_pos h5, if_pos h5, mo_prF_fuel hp x (P x + 1) (P x) (by omega) (by omega) (by omega)]
  · rw [if_neg h5, if_neg h5]
theorem yI_m1 : ∀ k, nI k + -1 = yI k
  | 0 => by decide
  | k + 1 => pk_m1 k
section
variable {C : jm_C} {Q : jm_Q} {n : Nat} {f : Nat → va_E} {fs : List Value} {na : Nat} {par : Nat → Int32} {P : Nat → Nat} {c : Nat} {dy ma oa : Nat → Int32} {wt : Nat → Int64} {mn : Nat → Nat} {k : Nat} {cd : Nat → Int32} {ad : Nat → Int64} {til u : Int32}
theorem mo_rd_60 {x : va_E} (hR : mo_rd n f fs na par P c dy ma oa wt mn k cd ad) : mo_rd n (jm_up f 60 x) fs na par P c dy ma oa wt mn k cd ad := by
  obtain ⟨hn, hc, hs, h0, h36, hP, hna, h3, h38, h39, h41, h45, hc41, hm, h30, h57, hk, h59⟩ := hR
  exact ⟨hn, hc, hs, h0, h36, hP, hna, h3, h38, h39, h41, h45, hc41, hm, h30, h57, hk, h59⟩
theorem w_path {x D : Nat} (hR : mo_rd n f fs na par P c dy ma oa wt mn k cd ad) (hx : x < na) (d1 : tr_c P x D < 5) (d2 : ∀ i, i < D → 5 ≤ tr_c P x i) (d3 : ∀ i, i ≤ D → tr_c P x i + i ≤ x)
    (fin : ∀ lv pa, (∀ i, i ≤ D → pa i = nI (tr_c P x i)) → lv 0 = some (.ref 35) → lv 2 = some (.int til) → lv 3 = some (.int u) → lv 4 = some (.int (nI (D + 1))) → jm_wp C 125 Q (69, lv, [], (n, jm_up f 60 (.inl (0, 24, .inl pa))))) :
    ∀ (r g : Nat) (pa : Nat → Int32) (lv : jm_L), g + r = D → (∀ i, i < g → pa i = nI (tr_c P x i)) → lv 0 = some (.ref 35) → lv 2 = some (.int til) → lv 3 = some (.int u) → lv 4 = some (.int (nI g)) → lv 5 = some (.int (nI (tr_c P x g))) → lv 6 = some (.int (nI g)) → jm_wp C 125 Q (30, lv, [], (n, jm_up f 60 (.inl (0, 24, .inl pa)))) := by
  obtain ⟨hn, hc, hs, h0, h36, hP, hna, h3, h38, h39, h41, h45, hc41, hm, h30, h57, hk, h59⟩ := hR
  obtain ⟨s1, s2, s4, s5, s6, s7, s8, s9, s10, s11, s15, s17, s18, s19, s20, s23, s24, s25, s27, s28, s29, s31, s32, s33, s34, sl⟩ := hs
  have h24 : ∀ j, j < 24 → ¬ (24 : Int32) ≤ nI j := fun j hj => nI_ge hj (by decide)
  intro r
  induction r with
  | zero =>
    intro g pa lv hg hpa l0 l2 l3 l4 l5 l6
    have hgD : g = D := by omega
    subst hgD
    have hb := d3 g (by omega)
    rw [w_M_printed_30]
    simp only [w_M_printed_32, w_M_printed_34, w_M_printed_37, w_M_printed_39, w_M_printed_42, w_M_printed_43, w_M_printed_46, w_M_printed_48, w_M_printed_50, w_M_printed_51, w_M_printed_54, w_M_printed_55, w_M_printed_58, w_M_printed_60, w_M_printed_61, w_M_printed_63, w_M_printed_66, l0, l4, l5, l6, hc, s1, s34, h36, h24 g (by omega), nI_pos (show tr_c P x g < 2 ^ 31 by omega), show 35 < n by omega, show 36 < n by omega, show 60 < n by omega, nI_clamp (show g < 2 ^ 31 by omega), vp_in_nI (show g < 24 by omega) (by decide), nI_clamp (show tr_c P x g < 2 ^ 31 by omega), vp_in_nI (show tr_c P x g < 24 by omega) (by decide), hP.2.2 (tr_c P x g) (by omega) d1, jx_i_s, jx_l_s, jx_a_s, jx_a_n, jx_c_s, jx_v_s, jx_g_s, jx_p_s, jx_ia_s, jx_la_s, jx_aa_s, jx_is_s, jx_ls_s, jx_sn_s, jx_sr_s, jx_n_s, va_rf_s, va_rf_n, jm_ok, jm_up_a, jm_up_up, Bool.or_true, Bool.true_or, Option.some.injEq, Value.int.injEq, Value.long.injEq, Value.ref.injEq, Sum.inr.injEq, Sum.inl.injEq, Prod.mk.injEq, List.getElem?_cons_zero, List.getElem?_cons_succ, List.length_cons, List.length_nil, List.set_cons_zero, List.set_cons_succ, jm_rf, Value.category, and_true, true_and, and_self, and_assoc, jm_p1, jm_p2, jm_k2, Nat.reduceAdd, Nat.reduceEqDiff, Nat.reduceBEq, Bool.and_false, Bool.false_and, Bool.and_true, Bool.true_and, Bool.false_eq_true, ↓reduceIte, reduceCtorEq, zero_ne_one, one_ne_zero, Nat.zero_add, beq_self_eq_true, not_true_eq_false, not_false_eq_true, jz_1, jz_0, Option.toList_some, Option.toList_none, List.cons_append, List.nil_append, implies_true, false_implies, true_implies, not_true_eq_false, not_false_eq_true, Classical.not_not]
    rw [w_M_printed_30]
    simp only [w_M_printed_32, w_M_printed_34, w_M_printed_37, w_M_printed_39, nI_1, m1_neg, jx_i_s, jx_l_s, jx_a_s, jx_a_n, jx_c_s, jx_v_s, jx_g_s, jx_p_s, jx_ia_s, jx_la_s, jx_aa_s, jx_is_s, jx_ls_s, jx_sn_s, jx_sr_s, jx_n_s, va_rf_s, va_rf_n, jm_ok, jm_up_a, jm_up_up, Bool.or_true, Bool.true_or, Option.some.injEq, Value.int.injEq, Value.long.injEq, Value.ref.injEq, Sum.inr.injEq, Sum.inl.injEq, Prod.mk.injEq, List.getElem?_cons_zero, List.getElem?_cons_succ, List.length_cons, List.length_nil, List.set_cons_zero, List.set_cons_succ, jm_rf, Value.category, and_true, true_and, and_self, and_assoc, jm_p1, jm_p2, jm_k2, Nat.reduceAdd, Nat.reduceEqDiff, Nat.reduceBEq, Bool.and_false, Bool.false_and, Bool.and_true, Bool.true_and, Bool.false_eq_true, ↓reduceIte, reduceCtorEq, zero_ne_one, one_ne_zero, Nat.zero_add, beq_self_eq_true, not_true_eq_false, not_false_eq_true, jz_1, jz_0, Option.toList_some, Option.toList_none, List.cons_append, List.nil_append, implies_true, false_implies, true_implies, not_true_eq_false, not_false_eq_true, Classical.not_not]
    have G := fin (jm_p1 (jm_p1 (jm_p1 lv 4 (.int (nI (g + 1)))) 5 (.int (-1))) 6 (.int (nI (g + 1)))) (upd pa g (nI (tr_c P x g))) (fun i hi => by
      by_cases hi2 : i = g
      · rw [hi2]; exact pk_us
      · rw [pk_un hi2]; exact hpa i (by omega)) (by simp [jm_p1, jm_p2, jm_k2, Value.category, l0]) (by simp [jm_p1, jm_p2, jm_k2, Value.category, l2]) (by simp [jm_p1, jm_p2, jm_k2, Value.category, l3]) (by simp [jm_p1, jm_p2, jm_k2, Value.category])
    exact ⟨fun _ => G, fun _ => G⟩
  | succ r ih =>
    intro g pa lv hg hpa l0 l2 l3 l4 l5 l6
    have hb := d3 g (by omega)
    have h5 := d2 g (by omega)
    rw [w_M_printed_30]
    simp only [w_M_printed_32, w_M_printed_34, w_M_printed_37, w_M_printed_39, w_M_printed_42, w_M_printed_43, w_M_printed_46, w_M_printed_48, w_M_printed_50, w_M_printed_51, w_M_printed_54, w_M_printed_55, w_M_printed_58, w_M_printed_60, w_M_printed_61, w_M_printed_63, w_M_printed_66, l0, l4, l5, l6, hc, s1, s34, h36, h24 g (by omega), nI_pos (show tr_c P x g < 2 ^ 31 by omega), show 35 < n by omega, show 36 < n by omega, show 60 < n by omega, nI_clamp (show g < 2 ^ 31 by omega), vp_in_nI (show g < 24 by omega) (by decide), nI_clamp (show tr_c P x g < 2 ^ 31 by omega), vp_in_nI (show tr_c P x g < 24 by omega) (by decide), hP.2.1 (tr_c P x g) (by omega) h5, jx_i_s, jx_l_s, jx_a_s, jx_a_n, jx_c_s, jx_v_s, jx_g_s, jx_p_s, jx_ia_s, jx_la_s, jx_aa_s, jx_is_s, jx_ls_s, jx_sn_s, jx_sr_s, jx_n_s, va_rf_s, va_rf_n, jm_ok, jm_up_a, jm_up_up, Bool.or_true, Bool.true_or, Option.some.injEq, Value.int.injEq, Value.long.injEq, Value.ref.injEq, Sum.inr.injEq, Sum.inl.injEq, Prod.mk.injEq, List.getElem?_cons_zero, List.getElem?_cons_succ, List.length_cons, List.length_nil, List.set_cons_zero, List.set_cons_succ, jm_rf, Value.category, and_true, true_and, and_self, and_assoc, jm_p1, jm_p2, jm_k2, Nat.reduceAdd, Nat.reduceEqDiff, Nat.reduceBEq, Bool.and_false, Bool.false_and, Bool.and_true, Bool.true_and, Bool.false_eq_true, ↓reduceIte, reduceCtorEq, zero_ne_one, one_ne_zero, Nat.zero_add, beq_self_eq_true, not_true_eq_false, not_false_eq_true, jz_1, jz_0, Option.toList_some, Option.toList_none, List.cons_append, List.nil_append, implies_true, false_implies, true_implies, not_true_eq_false, not_false_eq_true, Classical.not_not]
    refine ih (g + 1) (upd pa g (nI (tr_c P x g))) _ (by omega) (fun i hi => ?_) (by simp [jm_p1, jm_p2, jm_k2, Value.category, l0]) (by simp [jm_p1, jm_p2, jm_k2, Value.category, l2]) (by simp [jm_p1, jm_p2, jm_k2, Value.category, l3]) (by simp [jm_p1, jm_p2, jm_k2, Value.category, nI_1]) (by simp [jm_p1, jm_p2, jm_k2, Value.category, tr_c]) (by simp [jm_p1, jm_p2, jm_k2, Value.category, nI_1])
    by_cases hi2 : i = g
    · rw [hi2]; exact pk_us
    · rw [pk_un hi2]; exact hpa i (by omega)
theorem w_prints {d x D : Nat} {pa : Nat → Int32} (hR : mo_rd n f fs na par P c dy ma oa wt mn k cd ad) (h60 : f 60 = .inl (0, 24, .inl pa)) (hu : ¬ u.toInt64 = 0) (hx : x < na) (d1 : tr_c P x D < 5) (d2 : ∀ i, i < D → 5 ≤ tr_c P x i) (d3 : ∀ i, i ≤ D → tr_c P x i + i ≤ x) (hpa : ∀ i, i ≤ D → pa i = nI (tr_c P x i))
    (hq : Q (some (.long (mo_pr par P na (mo_bal dy oa wt mn c cd ad k til) u.toInt64 x))) (n, f)) :
    ∀ (j : Nat) (p : Int64) (qi : Int32) (lv : jm_L), (j = D + 1 ∧ p = 0 ∧ qi = -1) ∨ (j ≤ D ∧ p = mo_pr par P na (mo_bal dy oa wt mn c cd ad k til) u.toInt64 (tr_c P x j) ∧ qi = nI (tr_c P x j)) → lv 0 = some (.ref 35) → lv 2 = some (.int til) → lv 3 = some (.int u) → lv 6 = some (.long p) → lv 8 = some (.int qi) → lv 9 = some (.int (yI j)) → jm_wp (jm_call (d + 5)) 125 Q (81, lv, [], (n, f)) := by
  have hR' := hR
  obtain ⟨hn, hc, hs, h0, h36, hP, hna, h3, h38, h39, h41, h45, hc41, hm, h30, h57, hk, h59⟩ := hR
  obtain ⟨s1, s2, s4, s5, s6, s7, s8, s9, s10, s11, s15, s17, s18, s19, s20, s23, s24, s25, s27, s28, s29, s31, s32, s33, s34, sl⟩ := hs
  intro j
  induction j with
  | zero =>
    rintro p qi lv (⟨h, -, -⟩ | ⟨-, rfl, -⟩) l0 l2 l3 l6 l8 l9
    · omega
    · simp only [yI] at l9
      rw [w_M_printed_81]
      simp only [w_M_printed_83, w_M_printed_120, w_M_printed_122, l6, l9, m1_neg, jx_i_s, jx_l_s, jx_a_s, jx_a_n, jx_c_s, jx_v_s, jx_g_s, jx_p_s, jx_ia_s, jx_la_s, jx_aa_s, jx_is_s, jx_ls_s, jx_sn_s, jx_sr_s, jx_n_s, va_rf_s, va_rf_n, jm_ok, jm_up_a, jm_up_up, Bool.or_true, Bool.true_or, Option.some.injEq, Value.int.injEq, Value.long.injEq, Value.ref.injEq, Sum.inr.injEq, Sum.inl.injEq, Prod.mk.injEq, List.getElem?_cons_zero, List.getElem?_cons_succ, List.length_cons, List.length_nil, List.set_cons_zero, List.set_cons_succ, jm_rf, Value.category, and_true, true_and, and_self, and_assoc, jm_p1, jm_p2, jm_k2, Nat.reduceAdd, Nat.reduceEqDiff, Nat.reduceBEq, Bool.and_false, Bool.false_and, Bool.and_true, Bool.true_and, Bool.false_eq_true, ↓reduceIte, reduceCtorEq, zero_ne_one, one_ne_zero, Nat.zero_add, beq_self_eq_true, not_true_eq_false, not_false_eq_true, jz_1, jz_0, Option.toList_some, Option.toList_none, List.cons_append, List.nil_append, implies_true, false_implies, true_implies, not_true_eq_false, not_false_eq_true, Classical.not_not]
      exact hq
  | succ j ih =>
    intro p qi lv hpq l0 l2 l3 l6 l8 l9
    have hjD : j ≤ D := by rcases hpq with h | h <;> omega
    have hb := d3 j hjD
    simp only [yI] at l9
    rw [w_M_printed_81]
    simp only [w_M_printed_83, w_M_printed_86, w_M_printed_87, w_M_printed_89, w_M_printed_91, w_M_printed_92, w_M_printed_95, w_M_printed_97, w_M_printed_98, w_M_printed_99, l0, l2, l3, l6, l8, l9, hc, s34, h60, nI_pos (show j < 2 ^ 31 by omega), show 35 < n by omega, show 60 < n by omega, nI_clamp (show j < 2 ^ 31 by omega), vp_in_nI (show j < 24 by omega) (by decide), hpa j hjD, jx_i_s, jx_l_s, jx_a_s, jx_a_n, jx_c_s, jx_v_s, jx_g_s, jx_p_s, jx_ia_s, jx_la_s, jx_aa_s, jx_is_s, jx_ls_s, jx_sn_s, jx_sr_s, jx_n_s, va_rf_s, va_rf_n, jm_ok, jm_up_a, jm_up_up, Bool.or_true, Bool.true_or, Option.some.injEq, Value.int.injEq, Value.long.injEq, Value.ref.injEq, Sum.inr.injEq, Sum.inl.injEq, Prod.mk.injEq, List.getElem?_cons_zero, List.getElem?_cons_succ, List.length_cons, List.length_nil, List.set_cons_zero, List.set_cons_succ, jm_rf, Value.category, and_true, true_and, and_self, and_assoc, jm_p1, jm_p2, jm_k2, Nat.reduceAdd, Nat.reduceEqDiff, Nat.reduceBEq, Bool.and_false, Bool.false_and, Bool.and_true, Bool.true_and, Bool.false_eq_true, ↓reduceIte, reduceCtorEq, zero_ne_one, one_ne_zero, Nat.zero_add, beq_self_eq_true, not_true_eq_false, not_false_eq_true, jz_1, jz_0, Option.toList_some, Option.toList_none, List.cons_append, List.nil_append, implies_true, false_implies, true_implies, not_true_eq_false, not_false_eq_true, Classical.not_not]
    have e := mo_pr_eq (par := par) (na := na) (o := mo_bal dy oa wt mn c cd ad k til) (u64 := u.toInt64) hP.1 (show tr_c P x j < na by omega)
    have go : ∀ (q : Nat), (0 ≤ qi → qi = nI q ∧ q < 24) → sh par P na (mo_bal dy oa wt mn c cd ad k til) q qi p (tr_c P x j) u.toInt64 = mo_pr par P na (mo_bal dy oa wt mn c cd ad k til) u.toInt64 (tr_c P x j) → jm_wp (jm_call (d + 5)) 125 Q (100, lv, [.int u, .int til, .int (nI (tr_c P x j)), .long p, .int qi, .ref 35], (n, f)) := by
      intro q hqi es
      refine w_M_printed_100 (c_M_share d (q := q) hR' hu (show tr_c P x j < na by omega) hqi) hc (show 35 < n by omega) (Nat.le_of_ble_eq_true rfl) ?_
      rw [es]
      simp only [w_M_printed_103, w_M_printed_105, w_M_printed_106, w_M_printed_109, w_M_printed_111, w_M_printed_112, w_M_printed_114, w_M_printed_117, l0, l9, hc, s34, h60, show 35 < n by omega, show 60 < n by omega, nI_clamp (show j < 2 ^ 31 by omega), vp_in_nI (show j < 24 by omega) (by decide), hpa j hjD, jx_i_s, jx_l_s, jx_a_s, jx_a_n, jx_c_s, jx_v_s, jx_g_s, jx_p_s, jx_ia_s, jx_la_s, jx_aa_s, jx_is_s, jx_ls_s, jx_sn_s, jx_sr_s, jx_n_s, va_rf_s, va_rf_n, jm_ok, jm_up_a, jm_up_up, Bool.or_true, Bool.true_or, Option.some.injEq, Value.int.injEq, Value.long.injEq, Value.ref.injEq, Sum.inr.injEq, Sum.inl.injEq, Prod.mk.injEq, List.getElem?_cons_zero, List.getElem?_cons_succ, List.length_cons, List.length_nil, List.set_cons_zero, List.set_cons_succ, jm_rf, Value.category, and_true, true_and, and_self, and_assoc, jm_p1, jm_p2, jm_k2, Nat.reduceAdd, Nat.reduceEqDiff, Nat.reduceBEq, Bool.and_false, Bool.false_and, Bool.and_true, Bool.true_and, Bool.false_eq_true, ↓reduceIte, reduceCtorEq, zero_ne_one, one_ne_zero, Nat.zero_add, beq_self_eq_true, not_true_eq_false, not_false_eq_true, jz_1, jz_0, Option.toList_some, Option.toList_none, List.cons_append, List.nil_append, implies_true, false_implies, true_implies, not_true_eq_false, not_false_eq_true, Classical.not_not]
      exact ih _ _ _ (Or.inr ⟨hjD, rfl, rfl⟩) (by simp [jm_p1, jm_p2, jm_k2, Value.category, l0]) (by simp [jm_p1, jm_p2, jm_k2, Value.category, l2]) (by simp [jm_p1, jm_p2, jm_k2, Value.category, l3]) (by simp [jm_p1, jm_p2, jm_k2, Value.category]) (by simp [jm_p1, jm_p2, jm_k2, Value.category]) (by simp [jm_p1, jm_p2, jm_k2, Value.category, yI_m1])
    rcases hpq with ⟨hj, rfl, rfl⟩ | ⟨hj, rfl, rfl⟩
    · have : j = D := by omega
      subst this
      refine go 0 (fun h => absurd h (by decide)) ?_
      rw [e, if_neg (by omega)]
    · have h5 := d2 j (by omega)
      refine go (tr_c P x (j + 1)) (fun _ => ⟨rfl, by have := d3 (j + 1) hj; omega⟩) ?_
      rw [e, if_pos h5]
      rfl
/-- printed -/
theorem c_M_printed (d : Nat) {x : Nat} {pa : Nat → Int32} (hR : mo_rd n f fs na par P c dy ma oa wt mn k cd ad) (h60 : f 60 = .inl (0, 24, .inl pa)) (hx : x < na) (hu : ¬ u.toInt64 = 0) (hu1 : 1 ≤ u) (hu2 : u ≤ 1000000) : ∃ pa', jm_call (d + 6) 125 [.ref 35, .int (nI x), .int til, .int u] (n, f) (some (.long (mo_pr par P na (mo_bal dy oa wt mn c cd ad k til) u.toInt64 x))) (n, jm_up f 60 (.inl (0, 24, .inl pa'))) := by
  have hR' := hR
  obtain ⟨hn, hc, hs, h0, h36, hP, hna, h3, h38, h39, h41, h45, hc41, hm, h30, h57, hk, h59⟩ := hR
  obtain ⟨D, d1, d2, d3⟩ := tr_dep hP.1 (x + 1) x (by omega) hx
  have hxx : 0 ≤ nI x ∧ nI x < nI na := ⟨nI_pos' (by omega), nI_lt hx (by omega)⟩
  have e0 : f = jm_up f 60 (.inl (0, 24, .inl pa)) := by
    funext j
    unfold jm_up
    by_cases h : j = 60
    · rw [if_pos h, h, h60]
    · rw [if_neg h]
  have key := jm_call_of (d := d + 5) (y := 125) (vs := [.ref 35, .int (nI x), .int til, .int u]) (h := (n, f)) (Q := fun r t => ∃ pa', r = some (.long (mo_pr par P na (mo_bal dy oa wt mn c cd ad k til) u.toInt64 x)) ∧ t = (n, jm_up f 60 (.inl (0, 24, .inl pa')))) (Nat.le_of_ble_eq_true rfl) ?_
  · obtain ⟨r, t, h1, pa', rfl, rfl⟩ := key
    exact ⟨pa', h1⟩
  have l0 : (jm_a0 (lv_args 0 [.ref 35, .int (nI x), .int til, .int u])) 0 = some (.ref 35) := rfl
  have l1 : (jm_a0 (lv_args 0 [.ref 35, .int (nI x), .int til, .int u])) 1 = some (.int (nI x)) := rfl
  have l2 : (jm_a0 (lv_args 0 [.ref 35, .int (nI x), .int til, .int u])) 2 = some (.int til) := rfl
  have l3 : (jm_a0 (lv_args 0 [.ref 35, .int (nI x), .int til, .int u])) 3 = some (.int u) := rfl
  generalize jm_a0 (lv_args 0 [.ref 35, .int (nI x), .int til, .int u]) = lv at l0 l1 l2 l3 ⊢
  simp only [w_M_printed_0, w_M_printed_1, l0, l1, jx_i_s, jx_l_s, jx_a_s, jx_a_n, jx_c_s, jx_v_s, jx_g_s, jx_p_s, jx_ia_s, jx_la_s, jx_aa_s, jx_is_s, jx_ls_s, jx_sn_s, jx_sr_s, jx_n_s, va_rf_s, va_rf_n, jm_ok, jm_up_a, jm_up_up, Bool.or_true, Bool.true_or, Option.some.injEq, Value.int.injEq, Value.long.injEq, Value.ref.injEq, Sum.inr.injEq, Sum.inl.injEq, Prod.mk.injEq, List.getElem?_cons_zero, List.getElem?_cons_succ, List.length_cons, List.length_nil, List.set_cons_zero, List.set_cons_succ, jm_rf, Value.category, and_true, true_and, and_self, and_assoc, jm_p1, jm_p2, jm_k2, Nat.reduceAdd, Nat.reduceEqDiff, Nat.reduceBEq, Bool.and_false, Bool.false_and, Bool.and_true, Bool.true_and, Bool.false_eq_true, ↓reduceIte, reduceCtorEq, zero_ne_one, one_ne_zero, Nat.zero_add, beq_self_eq_true, not_true_eq_false, not_false_eq_true, jz_1, jz_0, Option.toList_some, Option.toList_none, List.cons_append, List.nil_append, implies_true, false_implies, true_implies, not_true_eq_false, not_false_eq_true, Classical.not_not]
  refine w_M_printed_2 (c_M_isAccount (d + 4) hn hc h0) hc (show 35 < n by omega) (Nat.le_of_ble_eq_true rfl) ?_
  simp only [w_M_printed_5, w_M_printed_8, w_M_printed_9, w_M_printed_10, w_M_printed_13, w_M_printed_14, w_M_printed_16, w_M_printed_19, w_M_printed_20, w_M_printed_21, w_M_printed_22, w_M_printed_24, w_M_printed_25, w_M_printed_27, w_M_printed_28, l1, l3, b2i_eq0, hxx, decide_true, Int32.not_lt.mpr hu1, hu2, jx_i_s, jx_l_s, jx_a_s, jx_a_n, jx_c_s, jx_v_s, jx_g_s, jx_p_s, jx_ia_s, jx_la_s, jx_aa_s, jx_is_s, jx_ls_s, jx_sn_s, jx_sr_s, jx_n_s, va_rf_s, va_rf_n, jm_ok, jm_up_a, jm_up_up, Bool.or_true, Bool.true_or, Option.some.injEq, Value.int.injEq, Value.long.injEq, Value.ref.injEq, Sum.inr.injEq, Sum.inl.injEq, Prod.mk.injEq, List.getElem?_cons_zero, List.getElem?_cons_succ, List.length_cons, List.length_nil, List.set_cons_zero, List.set_cons_succ, jm_rf, Value.category, and_true, true_and, and_self, and_assoc, jm_p1, jm_p2, jm_k2, Nat.reduceAdd, Nat.reduceEqDiff, Nat.reduceBEq, Bool.and_false, Bool.false_and, Bool.and_true, Bool.true_and, Bool.false_eq_true, ↓reduceIte, reduceCtorEq, zero_ne_one, one_ne_zero, Nat.zero_add, beq_self_eq_true, not_true_eq_false, not_false_eq_true, jz_1, jz_0, Option.toList_some, Option.toList_none, List.cons_append, List.nil_append, implies_true, false_implies, true_implies, not_true_eq_false, not_false_eq_true, Classical.not_not]
  conv =>
    arg 4
    rw [e0]
  refine w_path (x := x) (D := D) (til := til) (u := u) hR' hx d1 d2 d3 ?_ D 0 pa _ (by omega) (fun i hi => by omega) (by simp [jm_p1, jm_p2, jm_k2, Value.category, l0]) (by simp [jm_p1, jm_p2, jm_k2, Value.category, l2]) (by simp [jm_p1, jm_p2, jm_k2, Value.category, l3]) (by simp [jm_p1, jm_p2, jm_k2, Value.category, nI]) (by simp [jm_p1, jm_p2, jm_k2, Value.category, l1, tr_c]) (by simp [jm_p1, jm_p2, jm_k2, Value.category, nI])
  intro lv pa hpa l0 l2 l3 l4
  simp only [w_M_printed_69, w_M_printed_70, w_M_printed_72, w_M_printed_73, w_M_printed_75, w_M_printed_77, w_M_printed_78, w_M_printed_79, l4, nI_pred, jx_i_s, jx_l_s, jx_a_s, jx_a_n, jx_c_s, jx_v_s, jx_g_s, jx_p_s, jx_ia_s, jx_la_s, jx_aa_s, jx_is_s, jx_ls_s, jx_sn_s, jx_sr_s, jx_n_s, va_rf_s, va_rf_n, jm_ok, jm_up_a, jm_up_up, Bool.or_true, Bool.true_or, Option.some.injEq, Value.int.injEq, Value.long.injEq, Value.ref.injEq, Sum.inr.injEq, Sum.inl.injEq, Prod.mk.injEq, List.getElem?_cons_zero, List.getElem?_cons_succ, List.length_cons, List.length_nil, List.set_cons_zero, List.set_cons_succ, jm_rf, Value.category, and_true, true_and, and_self, and_assoc, jm_p1, jm_p2, jm_k2, Nat.reduceAdd, Nat.reduceEqDiff, Nat.reduceBEq, Bool.and_false, Bool.false_and, Bool.and_true, Bool.true_and, Bool.false_eq_true, ↓reduceIte, reduceCtorEq, zero_ne_one, one_ne_zero, Nat.zero_add, beq_self_eq_true, not_true_eq_false, not_false_eq_true, jz_1, jz_0, Option.toList_some, Option.toList_none, List.cons_append, List.nil_append, implies_true, false_implies, true_implies, not_true_eq_false, not_false_eq_true, Classical.not_not]
  refine w_prints (x := x) (D := D) (pa := pa) (mo_rd_60 hR') rfl hu hx d1 d2 d3 hpa ⟨pa, rfl, rfl⟩ (D + 1) 0 (-1) _ (Or.inl ⟨rfl, rfl, rfl⟩) (by simp [jm_p1, jm_p2, jm_k2, Value.category, l0]) (by simp [jm_p1, jm_p2, jm_k2, Value.category, l2]) (by simp [jm_p1, jm_p2, jm_k2, Value.category, l3]) (by simp [jm_p1, jm_p2, jm_k2, Value.category]) (by simp [jm_p1, jm_p2, jm_k2, Value.category]) (by simp [jm_p1, jm_p2, jm_k2, Value.category, yI])
theorem c_M_printed_no (d : Nat) {x : Int32} (hn : 61 ≤ n) (hc : f 35 = .inr (11, fs)) (h0 : fs[0]? = some (.int (nI na))) (ho : ¬ ((0 ≤ x ∧ x < nI na) ∧ 1 ≤ u ∧ u ≤ 1000000)) : jm_call (d + 6) 125 [.ref 35, .int x, .int til, .int u] (n, f) (some (.long 0)) (n, f) := by
  refine ⟨Nat.le_of_ble_eq_true rfl, ?_⟩
  have l0 : (jm_a0 (lv_args 0 [.ref 35, .int x, .int til, .int u])) 0 = some (.ref 35) := rfl
  have l1 : (jm_a0 (lv_args 0 [.ref 35, .int x, .int til, .int u])) 1 = some (.int x) := rfl
  have l2 : (jm_a0 (lv_args 0 [.ref 35, .int x, .int til, .int u])) 2 = some (.int til) := rfl
  have l3 : (jm_a0 (lv_args 0 [.ref 35, .int x, .int til, .int u])) 3 = some (.int u) := rfl
  generalize jm_a0 (lv_args 0 [.ref 35, .int x, .int til, .int u]) = lv at l0 l1 l2 l3 ⊢
  simp only [w_M_printed_0, w_M_printed_1, l0, l1, jx_i_s, jx_l_s, jx_a_s, jx_a_n, jx_c_s, jx_v_s, jx_g_s, jx_p_s, jx_ia_s, jx_la_s, jx_aa_s, jx_is_s, jx_ls_s, jx_sn_s, jx_sr_s, jx_n_s, va_rf_s, va_rf_n, jm_ok, jm_up_a, jm_up_up, Bool.or_true, Bool.true_or, Option.some.injEq, Value.int.injEq, Value.long.injEq, Value.ref.injEq, Sum.inr.injEq, Sum.inl.injEq, Prod.mk.injEq, List.getElem?_cons_zero, List.getElem?_cons_succ, List.length_cons, List.length_nil, List.set_cons_zero, List.set_cons_succ, jm_rf, Value.category, and_true, true_and, and_self, and_assoc, jm_p1, jm_p2, jm_k2, Nat.reduceAdd, Nat.reduceEqDiff, Nat.reduceBEq, Bool.and_false, Bool.false_and, Bool.and_true, Bool.true_and, Bool.false_eq_true, ↓reduceIte, reduceCtorEq, zero_ne_one, one_ne_zero, Nat.zero_add, beq_self_eq_true, not_true_eq_false, not_false_eq_true, jz_1, jz_0, Option.toList_some, Option.toList_none, List.cons_append, List.nil_append, implies_true, false_implies, true_implies, not_true_eq_false, not_false_eq_true, Classical.not_not]
  refine w_M_printed_2 (c_M_isAccount (d + 4) hn hc h0) hc (show 35 < n by omega) (Nat.le_of_ble_eq_true rfl) ?_
  by_cases hx : 0 ≤ x ∧ x < nI na
  · simp only [w_M_printed_5, w_M_printed_8, w_M_printed_9, w_M_printed_10, w_M_printed_13, w_M_printed_14, w_M_printed_16, w_M_printed_19, w_M_printed_20, l3, b2i_eq0, hx, decide_true, jx_i_s, jx_l_s, jx_a_s, jx_a_n, jx_c_s, jx_v_s, jx_g_s, jx_p_s, jx_ia_s, jx_la_s, jx_aa_s, jx_is_s, jx_ls_s, jx_sn_s, jx_sr_s, jx_n_s, va_rf_s, va_rf_n, jm_ok, jm_up_a, jm_up_up, Bool.or_true, Bool.true_or, Option.some.injEq, Value.int.injEq, Value.long.injEq, Value.ref.injEq, Sum.inr.injEq, Sum.inl.injEq, Prod.mk.injEq, List.getElem?_cons_zero, List.getElem?_cons_succ, List.length_cons, List.length_nil, List.set_cons_zero, List.set_cons_succ, jm_rf, Value.category, and_true, true_and, and_self, and_assoc, jm_p1, jm_p2, jm_k2, Nat.reduceAdd, Nat.reduceEqDiff, Nat.reduceBEq, Bool.and_false, Bool.false_and, Bool.and_true, Bool.true_and, Bool.false_eq_true, ↓reduceIte, reduceCtorEq, zero_ne_one, one_ne_zero, Nat.zero_add, beq_self_eq_true, not_true_eq_false, not_false_eq_true, jz_1, jz_0, Option.toList_some, Option.toList_none, List.cons_append, List.nil_append, implies_true, false_implies, true_implies, not_true_eq_false, not_false_eq_true, Classical.not_not]
    intro h1 h2
    exact absurd ⟨hx, Int32.not_lt.mp h1, h2⟩ ho
  · simp only [w_M_printed_5, w_M_printed_19, w_M_printed_20, b2i_eq0, hx, decide_false, jx_i_s, jx_l_s, jx_a_s, jx_a_n, jx_c_s, jx_v_s, jx_g_s, jx_p_s, jx_ia_s, jx_la_s, jx_aa_s, jx_is_s, jx_ls_s, jx_sn_s, jx_sr_s, jx_n_s, va_rf_s, va_rf_n, jm_ok, jm_up_a, jm_up_up, Bool.or_true, Bool.true_or, Option.some.injEq, Value.int.injEq, Value.long.injEq, Value.ref.injEq, Sum.inr.injEq, Sum.inl.injEq, Prod.mk.injEq, List.getElem?_cons_zero, List.getElem?_cons_succ, List.length_cons, List.length_nil, List.set_cons_zero, List.set_cons_succ, jm_rf, Value.category, and_true, true_and, and_self, and_assoc, jm_p1, jm_p2, jm_k2, Nat.reduceAdd, Nat.reduceEqDiff, Nat.reduceBEq, Bool.and_false, Bool.false_and, Bool.and_true, Bool.true_and, Bool.false_eq_true, ↓reduceIte, reduceCtorEq, zero_ne_one, one_ne_zero, Nat.zero_add, beq_self_eq_true, not_true_eq_false, not_false_eq_true, jz_1, jz_0, Option.toList_some, Option.toList_none, List.cons_append, List.nil_append, implies_true, false_implies, true_implies, not_true_eq_false, not_false_eq_true, Classical.not_not]
end
