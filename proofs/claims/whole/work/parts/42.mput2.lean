theorem yI_lt {j a : Nat} (hj : j < 2 ^ 31) (ha : a < 2 ^ 31) : yI j < nI a ↔ j ≤ a := by
  cases j with
  | zero =>
    refine ⟨fun _ => Nat.zero_le _, fun _ => ?_⟩
    show (-1 : Int32) < nI a
    rw [Int32.lt_iff_toInt_lt, nI_toInt ha]
    have h2 : (-1 : Int32).toInt = -1 := by decide
    omega
  | succ j =>
    show nI j < nI a ↔ _
    rw [nI_ltI (by omega) ha]
    exact Iff.rfl
theorem yI_c : ∀ c, nI c - 1 = yI c
  | 0 => by decide
  | c + 1 => nI_pred c
section
variable {C : jm_C} {Q : jm_Q} {n c : Nat} {f : Nat → va_E} {fs : List Value} {dy ma kd oa cm qt am dt : Nat → Int32} {dd : Int32}
def mo_at (dy : Nat → Int32) (dd : Int32) (c : Nat) : Nat := ld (fun j => decide (dy j ≤ dd)) c 0
theorem mo_at_le (dy : Nat → Int32) (dd : Int32) (c : Nat) : mo_at dy dd c ≤ c := by
  have := ld_le (fun j => decide (dy j ≤ dd)) c 0
  unfold mo_at
  omega
theorem w_put1 (hn : 61 ≤ n) (hc : f 35 = .inr (11, fs)) (hs : mo_st fs) (h3 : fs[3]? = some (.int (nI c))) (h13 : fs[13]? = some (.int dd)) (hc40 : c ≤ 40)
    (fin : ∀ lv, lv 0 = some (.ref 35) → lv 1 = some (.int (nI (mo_at dy dd c))) → jm_wp C 95 Q (29, lv, [], (n, mo_hp f dy ma kd oa cm qt am))) :
    ∀ (r j : Nat) (lv : jm_L), j + r = c → mo_at dy dd c = ld (fun j => decide (dy j ≤ dd)) r j → lv 0 = some (.ref 35) → lv 1 = some (.int (nI j)) → jm_wp C 95 Q (2, lv, [], (n, mo_hp f dy ma kd oa cm qt am)) := by
  obtain ⟨s1, s2, s4, s5, s6, s7, s8, s9, s10, s11, s15, s17, s18, s19, s20, s23, s24, s25, s27, s28, s29, s31, s32, s33, s34, sl⟩ := hs
  intro r
  induction r with
  | zero =>
    intro j lv hj e l0 l1
    rw [w_M_put_2]
    simp only [w_M_put_3, w_M_put_4, w_M_put_7, l0, l1, mo_hp_a, hc, h3, show 35 < n by omega, nI_leI (show c < 2 ^ 31 by omega) (show j < 2 ^ 31 by omega), show c ≤ j by omega, jx_i_s, jx_l_s, jx_a_s, jx_a_n, jx_c_s, jx_v_s, jx_g_s, jx_p_s, jx_ia_s, jx_la_s, jx_aa_s, jx_is_s, jx_ls_s, jx_sn_s, jx_sr_s, jx_n_s, va_rf_s, va_rf_n, jm_ok, jm_up_a, jm_up_up, Bool.or_true, Bool.true_or, Option.some.injEq, Value.int.injEq, Value.long.injEq, Value.ref.injEq, Sum.inr.injEq, Sum.inl.injEq, Prod.mk.injEq, List.getElem?_cons_zero, List.getElem?_cons_succ, List.length_cons, List.length_nil, List.set_cons_zero, List.set_cons_succ, jm_rf, Value.category, and_true, true_and, and_self, and_assoc, jm_p1, jm_p2, jm_k2, Nat.reduceAdd, Nat.reduceEqDiff, Nat.reduceBEq, Bool.and_false, Bool.false_and, Bool.and_true, Bool.true_and, Bool.false_eq_true, ↓reduceIte, reduceCtorEq, zero_ne_one, one_ne_zero, Nat.zero_add, beq_self_eq_true, not_true_eq_false, not_false_eq_true, jz_1, jz_0, Option.toList_some, Option.toList_none, List.cons_append, List.nil_append, implies_true, false_implies, true_implies, not_true_eq_false, not_false_eq_true, Classical.not_not]
    exact fin lv l0 (by rw [e]; exact l1)
  | succ r ih =>
    intro j lv hj e l0 l1
    rw [w_M_put_2]
    simp only [w_M_put_3, w_M_put_4, w_M_put_7, w_M_put_10, w_M_put_11, w_M_put_14, w_M_put_15, w_M_put_16, w_M_put_17, w_M_put_20, w_M_put_23, w_M_put_26, l0, l1, mo_hp_a, hc, h3, h13, s4, show 35 < n by omega, show 38 < n by omega, nI_leI (show c < 2 ^ 31 by omega) (show j < 2 ^ 31 by omega), show ¬ c ≤ j by omega, nI_clamp (show j < 2 ^ 31 by omega), vp_in_nI (show j < 41 by omega) (by decide), jx_i_s, jx_l_s, jx_a_s, jx_a_n, jx_c_s, jx_v_s, jx_g_s, jx_p_s, jx_ia_s, jx_la_s, jx_aa_s, jx_is_s, jx_ls_s, jx_sn_s, jx_sr_s, jx_n_s, va_rf_s, va_rf_n, jm_ok, jm_up_a, jm_up_up, Bool.or_true, Bool.true_or, Option.some.injEq, Value.int.injEq, Value.long.injEq, Value.ref.injEq, Sum.inr.injEq, Sum.inl.injEq, Prod.mk.injEq, List.getElem?_cons_zero, List.getElem?_cons_succ, List.length_cons, List.length_nil, List.set_cons_zero, List.set_cons_succ, jm_rf, Value.category, and_true, true_and, and_self, and_assoc, jm_p1, jm_p2, jm_k2, Nat.reduceAdd, Nat.reduceEqDiff, Nat.reduceBEq, Bool.and_false, Bool.false_and, Bool.and_true, Bool.true_and, Bool.false_eq_true, ↓reduceIte, reduceCtorEq, zero_ne_one, one_ne_zero, Nat.zero_add, beq_self_eq_true, not_true_eq_false, not_false_eq_true, jz_1, jz_0, Option.toList_some, Option.toList_none, List.cons_append, List.nil_append, implies_true, false_implies, true_implies, not_true_eq_false, not_false_eq_true, Classical.not_not]
    simp only [ld, decide_eq_true_eq] at e
    refine ⟨fun hlt => ?_, fun hle => ?_⟩
    · rw [if_neg (Int32.not_le.mpr hlt)] at e
      exact fin lv l0 (by rw [e]; exact l1)
    · rw [if_pos (Int32.not_lt.mp hle)] at e
      exact ih (j + 1) _ (by omega) e (by simp [jm_p1, jm_p2, jm_k2, Value.category, l0]) (by simp [jm_p1, jm_p2, jm_k2, Value.category, nI_1])
theorem w_put2 {d a : Nat} (hn : 61 ≤ n) (hc : f 35 = .inr (11, fs)) (hs : mo_st fs) (hc40 : c ≤ 40) (hac : a ≤ c)
    (fin : ∀ lv, lv 0 = some (.ref 35) → lv 1 = some (.int (nI a)) → jm_wp (jm_call (d + 1)) 95 Q (55, lv, [], (n, mo_hp f (ins1 dy a c) (ins1 ma a c) (ins6 kd a c) (ins6 oa a c) (ins6 cm a c) (ins6 qt a c) (ins6 am a c)))) :
    ∀ (r j : Nat) (lv : jm_L), a + r = j → j ≤ c → lv 0 = some (.ref 35) → lv 1 = some (.int (nI a)) → lv 2 = some (.int (yI j)) → jm_wp (jm_call (d + 1)) 95 Q (36, lv, [], (n, mo_hp f (ins1 dy j c) (ins1 ma j c) (ins6 kd j c) (ins6 oa j c) (ins6 cm j c) (ins6 qt j c) (ins6 am j c))) := by
  intro r
  induction r with
  | zero =>
    intro j lv hj hjc l0 l1 l2
    have : j = a := by omega
    subst this
    rw [w_M_put_36]
    simp only [w_M_put_37, w_M_put_38, l1, l2, yI_lt (show j < 2 ^ 31 by omega) (show j < 2 ^ 31 by omega), Nat.le_refl, jx_i_s, jx_l_s, jx_a_s, jx_a_n, jx_c_s, jx_v_s, jx_g_s, jx_p_s, jx_ia_s, jx_la_s, jx_aa_s, jx_is_s, jx_ls_s, jx_sn_s, jx_sr_s, jx_n_s, va_rf_s, va_rf_n, jm_ok, jm_up_a, jm_up_up, Bool.or_true, Bool.true_or, Option.some.injEq, Value.int.injEq, Value.long.injEq, Value.ref.injEq, Sum.inr.injEq, Sum.inl.injEq, Prod.mk.injEq, List.getElem?_cons_zero, List.getElem?_cons_succ, List.length_cons, List.length_nil, List.set_cons_zero, List.set_cons_succ, jm_rf, Value.category, and_true, true_and, and_self, and_assoc, jm_p1, jm_p2, jm_k2, Nat.reduceAdd, Nat.reduceEqDiff, Nat.reduceBEq, Bool.and_false, Bool.false_and, Bool.and_true, Bool.true_and, Bool.false_eq_true, ↓reduceIte, reduceCtorEq, zero_ne_one, one_ne_zero, Nat.zero_add, beq_self_eq_true, not_true_eq_false, not_false_eq_true, jz_1, jz_0, Option.toList_some, Option.toList_none, List.cons_append, List.nil_append, implies_true, false_implies, true_implies, not_true_eq_false, not_false_eq_true, Classical.not_not]
    exact fin lv l0 l1
  | succ r ih =>
    intro j lv hj hjc l0 l1 l2
    obtain ⟨t, rfl⟩ : ∃ t, j = t + 1 := ⟨j - 1, by omega⟩
    have hlt : ¬ yI (t + 1) < nI a := fun h => by
      have := (yI_lt (show t + 1 < 2 ^ 31 by omega) (show a < 2 ^ 31 by omega)).mp h
      omega
    rw [w_M_put_36]
    simp only [w_M_put_37, w_M_put_38, w_M_put_41, w_M_put_42, w_M_put_43, w_M_put_44, w_M_put_45, l0, l1, l2, hlt, yI_s, nI_1, jx_i_s, jx_l_s, jx_a_s, jx_a_n, jx_c_s, jx_v_s, jx_g_s, jx_p_s, jx_ia_s, jx_la_s, jx_aa_s, jx_is_s, jx_ls_s, jx_sn_s, jx_sr_s, jx_n_s, va_rf_s, va_rf_n, jm_ok, jm_up_a, jm_up_up, Bool.or_true, Bool.true_or, Option.some.injEq, Value.int.injEq, Value.long.injEq, Value.ref.injEq, Sum.inr.injEq, Sum.inl.injEq, Prod.mk.injEq, List.getElem?_cons_zero, List.getElem?_cons_succ, List.length_cons, List.length_nil, List.set_cons_zero, List.set_cons_succ, jm_rf, Value.category, and_true, true_and, and_self, and_assoc, jm_p1, jm_p2, jm_k2, Nat.reduceAdd, Nat.reduceEqDiff, Nat.reduceBEq, Bool.and_false, Bool.false_and, Bool.and_true, Bool.true_and, Bool.false_eq_true, ↓reduceIte, reduceCtorEq, zero_ne_one, one_ne_zero, Nat.zero_add, beq_self_eq_true, not_true_eq_false, not_false_eq_true, jz_1, jz_0, Option.toList_some, Option.toList_none, List.cons_append, List.nil_append, implies_true, false_implies, true_implies, not_true_eq_false, not_false_eq_true, Classical.not_not]
    have hlt2 : ¬ nI t < nI a := hlt
    simp only [hlt2, jx_i_s, jx_l_s, jx_a_s, jx_a_n, jx_c_s, jx_v_s, jx_g_s, jx_p_s, jx_ia_s, jx_la_s, jx_aa_s, jx_is_s, jx_ls_s, jx_sn_s, jx_sr_s, jx_n_s, va_rf_s, va_rf_n, jm_ok, jm_up_a, jm_up_up, Bool.or_true, Bool.true_or, Option.some.injEq, Value.int.injEq, Value.long.injEq, Value.ref.injEq, Sum.inr.injEq, Sum.inl.injEq, Prod.mk.injEq, List.getElem?_cons_zero, List.getElem?_cons_succ, List.length_cons, List.length_nil, List.set_cons_zero, List.set_cons_succ, jm_rf, Value.category, and_true, true_and, and_self, and_assoc, jm_p1, jm_p2, jm_k2, Nat.reduceAdd, Nat.reduceEqDiff, Nat.reduceBEq, Bool.and_false, Bool.false_and, Bool.and_true, Bool.true_and, Bool.false_eq_true, ↓reduceIte, reduceCtorEq, zero_ne_one, one_ne_zero, Nat.zero_add, beq_self_eq_true, not_true_eq_false, not_false_eq_true, jz_1, jz_0, Option.toList_some, Option.toList_none, List.cons_append, List.nil_append, implies_true, false_implies, true_implies, not_true_eq_false, not_false_eq_true, Classical.not_not]
    refine w_M_put_46 (c_M_move d (t := t) (s := t + 1) hn hc hs (by omega) (by omega) (by omega)) (fs := fs) (by simp only [mo_hp_a]; exact hc) (show 35 < n by omega) (Nat.le_of_ble_eq_true rfl) ?_
    rw [ins6_s (by omega), ins6_s (by omega), ins6_s (by omega), ins6_s (by omega), ins6_s (by omega), ins1_s (by omega), ins1_s (by omega)]
    rw [yI_s] at l2
    simp only [w_M_put_49, w_M_put_52, l2, yI_m1, jx_i_s, jx_l_s, jx_a_s, jx_a_n, jx_c_s, jx_v_s, jx_g_s, jx_p_s, jx_ia_s, jx_la_s, jx_aa_s, jx_is_s, jx_ls_s, jx_sn_s, jx_sr_s, jx_n_s, va_rf_s, va_rf_n, jm_ok, jm_up_a, jm_up_up, Bool.or_true, Bool.true_or, Option.some.injEq, Value.int.injEq, Value.long.injEq, Value.ref.injEq, Sum.inr.injEq, Sum.inl.injEq, Prod.mk.injEq, List.getElem?_cons_zero, List.getElem?_cons_succ, List.length_cons, List.length_nil, List.set_cons_zero, List.set_cons_succ, jm_rf, Value.category, and_true, true_and, and_self, and_assoc, jm_p1, jm_p2, jm_k2, Nat.reduceAdd, Nat.reduceEqDiff, Nat.reduceBEq, Bool.and_false, Bool.false_and, Bool.and_true, Bool.true_and, Bool.false_eq_true, ↓reduceIte, reduceCtorEq, zero_ne_one, one_ne_zero, Nat.zero_add, beq_self_eq_true, not_true_eq_false, not_false_eq_true, jz_1, jz_0, Option.toList_some, Option.toList_none, List.cons_append, List.nil_append, implies_true, false_implies, true_implies, not_true_eq_false, not_false_eq_true, Classical.not_not]
    exact ih t _ (by omega) (by omega) (by simp [jm_p1, jm_p2, jm_k2, Value.category, l0]) (by simp [jm_p1, jm_p2, jm_k2, Value.category, l1]) (by simp [jm_p1, jm_p2, jm_k2, Value.category])
theorem w_put3 {a m : Nat} (hn : 61 ≤ n) (hc : f 35 = .inr (11, fs)) (hs : mo_st fs) (h14 : fs[14]? = some (.int (nI m))) (h46 : f 46 = .inl (0, 30, .inl dt)) (hm6 : m ≤ 6) (ha : a ≤ 40)
    (hq : Q (some (.int (nI a))) (n, mo_hp f dy ma (wr6 kd a m (fun k => dt (5 * k))) (wr6 oa a m (fun k => dt (5 * k + 1))) (wr6 cm a m (fun k => dt (5 * k + 2))) (wr6 qt a m (fun k => dt (5 * k + 3))) (wr6 am a m (fun k => dt (5 * k + 4))))) :
    ∀ (k : Nat) (lv : jm_L) (h : jm_H), k ≤ m → (h = (n, mo_hp f dy ma (wr6 kd a k (fun k => dt (5 * k))) (wr6 oa a k (fun k => dt (5 * k + 1))) (wr6 cm a k (fun k => dt (5 * k + 2))) (wr6 qt a k (fun k => dt (5 * k + 3))) (wr6 am a k (fun k => dt (5 * k + 4)))) ∧ lv 0 = some (.ref 35) ∧ lv 1 = some (.int (nI a)) ∧ lv 2 = some (.int (nI k))) → jm_wp C 95 Q (87, lv, [], h) := by
  obtain ⟨s1, s2, s4, s5, s6, s7, s8, s9, s10, s11, s15, s17, s18, s19, s20, s23, s24, s25, s27, s28, s29, s31, s32, s33, s34, sl⟩ := hs
  refine jm_for (fun k lv h => h = (n, mo_hp f dy ma (wr6 kd a k (fun k => dt (5 * k))) (wr6 oa a k (fun k => dt (5 * k + 1))) (wr6 cm a k (fun k => dt (5 * k + 2))) (wr6 qt a k (fun k => dt (5 * k + 3))) (wr6 am a k (fun k => dt (5 * k + 4)))) ∧ lv 0 = some (.ref 35) ∧ lv 1 = some (.int (nI a)) ∧ lv 2 = some (.int (nI k))) ?_ ?_
  · rintro k lv h hk ⟨rfl, l0, l1, l2⟩ ih
    have e0 := wr6_s kd a k (fun k => dt (5 * k))
    have e1 := wr6_s oa a k (fun k => dt (5 * k + 1))
    have e2 := wr6_s cm a k (fun k => dt (5 * k + 2))
    have e3 := wr6_s qt a k (fun k => dt (5 * k + 3))
    have e4 := wr6_s am a k (fun k => dt (5 * k + 4))
    rw [w_M_put_87]
    simp only [w_M_put_88, w_M_put_89, w_M_put_92, w_M_put_95, w_M_put_96, w_M_put_99, w_M_put_101, w_M_put_102, w_M_put_103, w_M_put_104, w_M_put_105, w_M_put_106, w_M_put_109, w_M_put_110, w_M_put_111, w_M_put_112, w_M_put_113, w_M_put_114, w_M_put_115, w_M_put_118, w_M_put_120, w_M_put_121, w_M_put_122, w_M_put_123, w_M_put_124, w_M_put_125, w_M_put_128, w_M_put_129, w_M_put_130, w_M_put_131, w_M_put_132, w_M_put_133, w_M_put_134, w_M_put_135, w_M_put_136, w_M_put_139, w_M_put_141, w_M_put_142, w_M_put_143, w_M_put_144, w_M_put_145, w_M_put_146, w_M_put_149, w_M_put_150, w_M_put_151, w_M_put_152, w_M_put_153, w_M_put_154, w_M_put_155, w_M_put_156, w_M_put_157, w_M_put_160, w_M_put_162, w_M_put_163, w_M_put_164, w_M_put_165, w_M_put_166, w_M_put_167, w_M_put_170, w_M_put_171, w_M_put_172, w_M_put_173, w_M_put_174, w_M_put_175, w_M_put_176, w_M_put_177, w_M_put_178, w_M_put_181, w_M_put_183, w_M_put_184, w_M_put_185, w_M_put_186, w_M_put_187, w_M_put_188, w_M_put_191, w_M_put_192, w_M_put_193, w_M_put_194, w_M_put_195, w_M_put_196, w_M_put_197, w_M_put_198, w_M_put_201, l0, l1, l2, mo_hp_a, hc, h14, s6, s7, s8, s9, s10, s15, h46, n6, n5, nI_a1, nI_a2, nI_a3, nI_a4, nI_leI (show m < 2 ^ 31 by omega) (show k < 2 ^ 31 by omega), show ¬ m ≤ k by omega, show 35 < n by omega, show 40 < n by omega, show 41 < n by omega, show 42 < n by omega, show 43 < n by omega, show 44 < n by omega, show 46 < n by omega, nI_clamp (show 6 * a + k < 2 ^ 31 by omega), vp_in_nI (show 6 * a + k < 246 by omega) (by decide), nI_clamp (show 5 * k < 2 ^ 31 by omega), nI_clamp (show 5 * k + 1 < 2 ^ 31 by omega), nI_clamp (show 5 * k + 2 < 2 ^ 31 by omega), nI_clamp (show 5 * k + 3 < 2 ^ 31 by omega), nI_clamp (show 5 * k + 4 < 2 ^ 31 by omega), vp_in_nI (show 5 * k < 30 by omega) (by decide), vp_in_nI (show 5 * k + 1 < 30 by omega) (by decide), vp_in_nI (show 5 * k + 2 < 30 by omega) (by decide), vp_in_nI (show 5 * k + 3 < 30 by omega) (by decide), vp_in_nI (show 5 * k + 4 < 30 by omega) (by decide), mo_hp_40, mo_hp_41, mo_hp_42, mo_hp_43, mo_hp_44, e0, e1, e2, e3, e4, jx_i_s, jx_l_s, jx_a_s, jx_a_n, jx_c_s, jx_v_s, jx_g_s, jx_p_s, jx_ia_s, jx_la_s, jx_aa_s, jx_is_s, jx_ls_s, jx_sn_s, jx_sr_s, jx_n_s, va_rf_s, va_rf_n, jm_ok, jm_up_a, jm_up_up, Bool.or_true, Bool.true_or, Option.some.injEq, Value.int.injEq, Value.long.injEq, Value.ref.injEq, Sum.inr.injEq, Sum.inl.injEq, Prod.mk.injEq, List.getElem?_cons_zero, List.getElem?_cons_succ, List.length_cons, List.length_nil, List.set_cons_zero, List.set_cons_succ, jm_rf, Value.category, and_true, true_and, and_self, and_assoc, jm_p1, jm_p2, jm_k2, Nat.reduceAdd, Nat.reduceEqDiff, Nat.reduceBEq, Bool.and_false, Bool.false_and, Bool.and_true, Bool.true_and, Bool.false_eq_true, ↓reduceIte, reduceCtorEq, zero_ne_one, one_ne_zero, Nat.zero_add, beq_self_eq_true, not_true_eq_false, not_false_eq_true, jz_1, jz_0, Option.toList_some, Option.toList_none, List.cons_append, List.nil_append, implies_true, false_implies, true_implies, not_true_eq_false, not_false_eq_true, Classical.not_not]
    exact ih _ _ ⟨rfl, (by simp [jm_p1, jm_p2, jm_k2, Value.category, l0]), (by simp [jm_p1, jm_p2, jm_k2, Value.category, l1]), (by simp [jm_p1, jm_p2, jm_k2, Value.category])⟩
  · rintro lv h ⟨rfl, l0, l1, l2⟩
    rw [w_M_put_87]
    simp only [w_M_put_88, w_M_put_89, w_M_put_92, w_M_put_204, w_M_put_205, l0, l1, l2, mo_hp_a, hc, h14, show 35 < n by omega, nI_leI (show m < 2 ^ 31 by omega) (show m < 2 ^ 31 by omega), Nat.le_refl, jx_i_s, jx_l_s, jx_a_s, jx_a_n, jx_c_s, jx_v_s, jx_g_s, jx_p_s, jx_ia_s, jx_la_s, jx_aa_s, jx_is_s, jx_ls_s, jx_sn_s, jx_sr_s, jx_n_s, va_rf_s, va_rf_n, jm_ok, jm_up_a, jm_up_up, Bool.or_true, Bool.true_or, Option.some.injEq, Value.int.injEq, Value.long.injEq, Value.ref.injEq, Sum.inr.injEq, Sum.inl.injEq, Prod.mk.injEq, List.getElem?_cons_zero, List.getElem?_cons_succ, List.length_cons, List.length_nil, List.set_cons_zero, List.set_cons_succ, jm_rf, Value.category, and_true, true_and, and_self, and_assoc, jm_p1, jm_p2, jm_k2, Nat.reduceAdd, Nat.reduceEqDiff, Nat.reduceBEq, Bool.and_false, Bool.false_and, Bool.and_true, Bool.true_and, Bool.false_eq_true, ↓reduceIte, reduceCtorEq, zero_ne_one, one_ne_zero, Nat.zero_add, beq_self_eq_true, not_true_eq_false, not_false_eq_true, jz_1, jz_0, Option.toList_some, Option.toList_none, List.cons_append, List.nil_append, implies_true, false_implies, true_implies, not_true_eq_false, not_false_eq_true, Classical.not_not]
    exact hq
/-- put -/
theorem c_M_put (d : Nat) {m : Nat} (hn : 61 ≤ n) (hc : f 35 = .inr (11, fs)) (hs : mo_st fs) (h3 : fs[3]? = some (.int (nI c))) (h13 : fs[13]? = some (.int dd)) (h14 : fs[14]? = some (.int (nI m))) (h46 : f 46 = .inl (0, 30, .inl dt)) (hm6 : m ≤ 6) (hc40 : c ≤ 40) : jm_call (d + 2) 95 [.ref 35] (n, mo_hp f dy ma kd oa cm qt am) (some (.int (nI (mo_at dy dd c)))) (n, mo_hp (jm_up f 35 (.inr (11, fs.set 3 (.int (nI (c + 1)))))) (upd (ins1 dy (mo_at dy dd c) c) (mo_at dy dd c) dd) (upd (ins1 ma (mo_at dy dd c) c) (mo_at dy dd c) (nI m)) (wr6 (ins6 kd (mo_at dy dd c) c) (mo_at dy dd c) m (fun k => dt (5 * k))) (wr6 (ins6 oa (mo_at dy dd c) c) (mo_at dy dd c) m (fun k => dt (5 * k + 1))) (wr6 (ins6 cm (mo_at dy dd c) c) (mo_at dy dd c) m (fun k => dt (5 * k + 2))) (wr6 (ins6 qt (mo_at dy dd c) c) (mo_at dy dd c) m (fun k => dt (5 * k + 3))) (wr6 (ins6 am (mo_at dy dd c) c) (mo_at dy dd c) m (fun k => dt (5 * k + 4)))) := by
  refine ⟨Nat.le_of_ble_eq_true rfl, ?_⟩
  have l0 : (jm_a0 (lv_args 0 [.ref 35])) 0 = some (.ref 35) := rfl
  generalize jm_a0 (lv_args 0 [.ref 35]) = lv at l0 ⊢
  have hac := mo_at_le dy dd c
  simp only [w_M_put_0, w_M_put_1, jx_i_s, jx_l_s, jx_a_s, jx_a_n, jx_c_s, jx_v_s, jx_g_s, jx_p_s, jx_ia_s, jx_la_s, jx_aa_s, jx_is_s, jx_ls_s, jx_sn_s, jx_sr_s, jx_n_s, va_rf_s, va_rf_n, jm_ok, jm_up_a, jm_up_up, Bool.or_true, Bool.true_or, Option.some.injEq, Value.int.injEq, Value.long.injEq, Value.ref.injEq, Sum.inr.injEq, Sum.inl.injEq, Prod.mk.injEq, List.getElem?_cons_zero, List.getElem?_cons_succ, List.length_cons, List.length_nil, List.set_cons_zero, List.set_cons_succ, jm_rf, Value.category, and_true, true_and, and_self, and_assoc, jm_p1, jm_p2, jm_k2, Nat.reduceAdd, Nat.reduceEqDiff, Nat.reduceBEq, Bool.and_false, Bool.false_and, Bool.and_true, Bool.true_and, Bool.false_eq_true, ↓reduceIte, reduceCtorEq, zero_ne_one, one_ne_zero, Nat.zero_add, beq_self_eq_true, not_true_eq_false, not_false_eq_true, jz_1, jz_0, Option.toList_some, Option.toList_none, List.cons_append, List.nil_append, implies_true, false_implies, true_implies, not_true_eq_false, not_false_eq_true, Classical.not_not]
  refine w_put1 hn hc hs h3 h13 hc40 ?_ c 0 _ (by omega) rfl (by simp [jm_p1, jm_p2, jm_k2, Value.category, l0]) (by simp [jm_p1, jm_p2, jm_k2, Value.category, nI])
  intro lv l0 l1
  generalize mo_at dy dd c = a at *
  simp only [w_M_put_29, w_M_put_30, w_M_put_33, w_M_put_34, w_M_put_35, l0, mo_hp_a, hc, h3, yI_c, show 35 < n by omega, jx_i_s, jx_l_s, jx_a_s, jx_a_n, jx_c_s, jx_v_s, jx_g_s, jx_p_s, jx_ia_s, jx_la_s, jx_aa_s, jx_is_s, jx_ls_s, jx_sn_s, jx_sr_s, jx_n_s, va_rf_s, va_rf_n, jm_ok, jm_up_a, jm_up_up, Bool.or_true, Bool.true_or, Option.some.injEq, Value.int.injEq, Value.long.injEq, Value.ref.injEq, Sum.inr.injEq, Sum.inl.injEq, Prod.mk.injEq, List.getElem?_cons_zero, List.getElem?_cons_succ, List.length_cons, List.length_nil, List.set_cons_zero, List.set_cons_succ, jm_rf, Value.category, and_true, true_and, and_self, and_assoc, jm_p1, jm_p2, jm_k2, Nat.reduceAdd, Nat.reduceEqDiff, Nat.reduceBEq, Bool.and_false, Bool.false_and, Bool.and_true, Bool.true_and, Bool.false_eq_true, ↓reduceIte, reduceCtorEq, zero_ne_one, one_ne_zero, Nat.zero_add, beq_self_eq_true, not_true_eq_false, not_false_eq_true, jz_1, jz_0, Option.toList_some, Option.toList_none, List.cons_append, List.nil_append, implies_true, false_implies, true_implies, not_true_eq_false, not_false_eq_true, Classical.not_not]
  have E : mo_hp f dy ma kd oa cm qt am = mo_hp f (ins1 dy c c) (ins1 ma c c) (ins6 kd c c) (ins6 oa c c) (ins6 cm c c) (ins6 qt c c) (ins6 am c c) := by
    simp only [ins1_c, ins6_c]
  rw [E]
  refine w_put2 hn hc hs hc40 hac ?_ (c - a) c _ (by omega) (Nat.le_refl _) (by simp [jm_p1, jm_p2, jm_k2, Value.category, l0]) (by simp [jm_p1, jm_p2, jm_k2, Value.category, l1]) (by simp [jm_p1, jm_p2, jm_k2, Value.category])
  intro lv l0 l1
  have hs' := mo_st_set (k := 3) (v := .int (nI (c + 1))) hs (by decide)
  have h14' : (fs.set 3 (.int (nI (c + 1))))[14]? = some (.int (nI m)) := (List.getElem?_set_ne (by decide)).trans h14
  have h13' : (fs.set 3 (.int (nI (c + 1))))[13]? = some (.int dd) := (List.getElem?_set_ne (by decide)).trans h13
  have hc' : (jm_up f 35 (.inr (11, fs.set 3 (.int (nI (c + 1)))))) 35 = .inr (11, fs.set 3 (.int (nI (c + 1)))) := jm_up_s _ _ _
  have h46' : (jm_up f 35 (.inr (11, fs.set 3 (.int (nI (c + 1)))))) 46 = .inl (0, 30, .inl dt) := by rw [jm_up_n _ _ (by decide)]; exact h46
  have hs2 := hs'
  generalize hfs : fs.set 3 (.int (nI (c + 1))) = fs' at *
  obtain ⟨s1, s2, s4, s5, s6, s7, s8, s9, s10, s11, s15, s17, s18, s19, s20, s23, s24, s25, s27, s28, s29, s31, s32, s33, s34, sl⟩ := hs
  simp only [w_M_put_55, w_M_put_56, w_M_put_57, w_M_put_60, w_M_put_61, w_M_put_62, l0, mo_hp_a, hc, h3, sl, nI_1, mo_hp_35, hfs, show 35 < n by omega, Nat.reduceLT, jx_i_s, jx_l_s, jx_a_s, jx_a_n, jx_c_s, jx_v_s, jx_g_s, jx_p_s, jx_ia_s, jx_la_s, jx_aa_s, jx_is_s, jx_ls_s, jx_sn_s, jx_sr_s, jx_n_s, va_rf_s, va_rf_n, jm_ok, jm_up_a, jm_up_up, Bool.or_true, Bool.true_or, Option.some.injEq, Value.int.injEq, Value.long.injEq, Value.ref.injEq, Sum.inr.injEq, Sum.inl.injEq, Prod.mk.injEq, List.getElem?_cons_zero, List.getElem?_cons_succ, List.length_cons, List.length_nil, List.set_cons_zero, List.set_cons_succ, jm_rf, Value.category, and_true, true_and, and_self, and_assoc, jm_p1, jm_p2, jm_k2, Nat.reduceAdd, Nat.reduceEqDiff, Nat.reduceBEq, Bool.and_false, Bool.false_and, Bool.and_true, Bool.true_and, Bool.false_eq_true, ↓reduceIte, reduceCtorEq, zero_ne_one, one_ne_zero, Nat.zero_add, beq_self_eq_true, not_true_eq_false, not_false_eq_true, jz_1, jz_0, Option.toList_some, Option.toList_none, List.cons_append, List.nil_append, implies_true, false_implies, true_implies, not_true_eq_false, not_false_eq_true, Classical.not_not]
  generalize jm_up f 35 (.inr (11, fs')) = f' at *
  clear sl
  obtain ⟨s1, s2, s4, s5, s6, s7, s8, s9, s10, s11, s15, s17, s18, s19, s20, s23, s24, s25, s27, s28, s29, s31, s32, s33, s34, sl⟩ := hs2
  simp only [w_M_put_65, w_M_put_66, w_M_put_69, w_M_put_70, w_M_put_71, w_M_put_74, w_M_put_75, w_M_put_76, w_M_put_79, w_M_put_80, w_M_put_81, w_M_put_84, w_M_put_85, w_M_put_86, l0, l1, mo_hp_a, hc', h13', h14', s4, s5, mo_hp_38, mo_hp_39, show 35 < n by omega, show 38 < n by omega, show 39 < n by omega, nI_clamp (show a < 2 ^ 31 by omega), vp_in_nI (show a < 41 by omega) (by decide), jx_i_s, jx_l_s, jx_a_s, jx_a_n, jx_c_s, jx_v_s, jx_g_s, jx_p_s, jx_ia_s, jx_la_s, jx_aa_s, jx_is_s, jx_ls_s, jx_sn_s, jx_sr_s, jx_n_s, va_rf_s, va_rf_n, jm_ok, jm_up_a, jm_up_up, Bool.or_true, Bool.true_or, Option.some.injEq, Value.int.injEq, Value.long.injEq, Value.ref.injEq, Sum.inr.injEq, Sum.inl.injEq, Prod.mk.injEq, List.getElem?_cons_zero, List.getElem?_cons_succ, List.length_cons, List.length_nil, List.set_cons_zero, List.set_cons_succ, jm_rf, Value.category, and_true, true_and, and_self, and_assoc, jm_p1, jm_p2, jm_k2, Nat.reduceAdd, Nat.reduceEqDiff, Nat.reduceBEq, Bool.and_false, Bool.false_and, Bool.and_true, Bool.true_and, Bool.false_eq_true, ↓reduceIte, reduceCtorEq, zero_ne_one, one_ne_zero, Nat.zero_add, beq_self_eq_true, not_true_eq_false, not_false_eq_true, jz_1, jz_0, Option.toList_some, Option.toList_none, List.cons_append, List.nil_append, implies_true, false_implies, true_implies, not_true_eq_false, not_false_eq_true, Classical.not_not]
  exact w_put3 hn hc' hs' h14' h46' hm6 (by omega) ⟨rfl, rfl⟩ 0 _ _ (by omega) ⟨by simp only [wr6_0], (by simp [jm_p1, jm_p2, jm_k2, Value.category, l0]), (by simp [jm_p1, jm_p2, jm_k2, Value.category, l1]), (by simp [jm_p1, jm_p2, jm_k2, Value.category, nI])⟩
/-- blocks from a on to c, moved down by one -/
def del6 (g : Nat → Int32) (a c : Nat) : Nat → Int32 := fun p => if 6 * a ≤ p ∧ p < 6 * c then g (p + 6) else g p
def del1 (g : Nat → Int32) (a c : Nat) : Nat → Int32 := fun t => if a ≤ t ∧ t < c then g (t + 1) else g t
theorem del6_a (g : Nat → Int32) (a : Nat) : del6 g a a = g := by
  funext p
  unfold del6
  rw [if_neg (by omega)]
theorem del1_a (g : Nat → Int32) (a : Nat) : del1 g a a = g := by
  funext p
  unfold del1
  rw [if_neg (by omega)]
theorem del6_s {g : Nat → Int32} {a t : Nat} (ht : a ≤ t) : mvk (del6 g a t) (t + 1) t 6 = del6 g a (t + 1) := by
  funext p
  unfold mvk
  by_cases h : 6 * t ≤ p ∧ p < 6 * t + 6
  · rw [if_pos h]
    unfold del6
    rw [if_neg (by omega), if_pos (by omega)]
    congr 1
    omega
  · rw [if_neg h]
    unfold del6
    by_cases h2 : 6 * a ≤ p ∧ p < 6 * t
    · rw [if_pos h2, if_pos (by omega)]
    · rw [if_neg h2, if_neg (by omega)]
theorem del1_s {g : Nat → Int32} {a t : Nat} (ht : a ≤ t) : upd (del1 g a t) t (del1 g a t (t + 1)) = del1 g a (t + 1) := by
  funext p
  by_cases h : p = t
  · subst h
    rw [pk_us]
    unfold del1
    rw [if_neg (by omega), if_pos (by omega)]
  · rw [pk_un h]
    unfold del1
    by_cases h2 : a ≤ p ∧ p < t
    · rw [if_pos h2, if_pos (by omega)]
    · rw [if_neg h2, if_neg (by omega)]
/-- cut -/
theorem w_cut {d a : Nat} (hn : 61 ≤ n) (hc : f 35 = .inr (11, fs)) (hs : mo_st fs) (h3 : fs[3]? = some (.int (nI (c + 1)))) (hc40 : c ≤ 40)
    (hq : Q none (n, mo_hp (jm_up f 35 (.inr (11, fs.set 3 (.int (nI c))))) (del1 dy a c) (del1 ma a c) (del6 kd a c) (del6 oa a c) (del6 cm a c) (del6 qt a c) (del6 am a c))) :
    ∀ (r t : Nat) (lv : jm_L), t + r = c → a ≤ t → lv 0 = some (.ref 35) → lv 2 = some (.int (nI t)) → jm_wp (jm_call (d + 1)) 96 Q (2, lv, [], (n, mo_hp f (del1 dy a t) (del1 ma a t) (del6 kd a t) (del6 oa a t) (del6 cm a t) (del6 qt a t) (del6 am a t))) := by
  intro r
  induction r with
  | zero =>
    intro t lv ht hat l0 l2
    have : t = c := by omega
    subst this
    obtain ⟨s1, s2, s4, s5, s6, s7, s8, s9, s10, s11, s15, s17, s18, s19, s20, s23, s24, s25, s27, s28, s29, s31, s32, s33, s34, sl⟩ := hs
    rw [w_M_cut_2]
    simp only [w_M_cut_3, w_M_cut_4, w_M_cut_7, w_M_cut_8, w_M_cut_9, w_M_cut_26, w_M_cut_27, w_M_cut_28, w_M_cut_31, w_M_cut_32, w_M_cut_33, w_M_cut_36, l0, l2, mo_hp_a, hc, h3, sl, nI_pred, mo_hp_35, show 35 < n by omega, Int32.le_refl, Nat.reduceLT, jx_i_s, jx_l_s, jx_a_s, jx_a_n, jx_c_s, jx_v_s, jx_g_s, jx_p_s, jx_ia_s, jx_la_s, jx_aa_s, jx_is_s, jx_ls_s, jx_sn_s, jx_sr_s, jx_n_s, va_rf_s, va_rf_n, jm_ok, jm_up_a, jm_up_up, Bool.or_true, Bool.true_or, Option.some.injEq, Value.int.injEq, Value.long.injEq, Value.ref.injEq, Sum.inr.injEq, Sum.inl.injEq, Prod.mk.injEq, List.getElem?_cons_zero, List.getElem?_cons_succ, List.length_cons, List.length_nil, List.set_cons_zero, List.set_cons_succ, jm_rf, Value.category, and_true, true_and, and_self, and_assoc, jm_p1, jm_p2, jm_k2, Nat.reduceAdd, Nat.reduceEqDiff, Nat.reduceBEq, Bool.and_false, Bool.false_and, Bool.and_true, Bool.true_and, Bool.false_eq_true, ↓reduceIte, reduceCtorEq, zero_ne_one, one_ne_zero, Nat.zero_add, beq_self_eq_true, not_true_eq_false, not_false_eq_true, jz_1, jz_0, Option.toList_some, Option.toList_none, List.cons_append, List.nil_append, implies_true, false_implies, true_implies, not_true_eq_false, not_false_eq_true, Classical.not_not]
    exact hq
  | succ r ih =>
    intro t lv ht hat l0 l2
    rw [w_M_cut_2]
    simp only [w_M_cut_3, w_M_cut_4, w_M_cut_7, w_M_cut_8, w_M_cut_9, w_M_cut_12, w_M_cut_13, w_M_cut_14, w_M_cut_15, w_M_cut_16, l0, l2, mo_hp_a, hc, h3, nI_pred, nI_1, show 35 < n by omega, nI_leI (show c < 2 ^ 31 by omega) (show t < 2 ^ 31 by omega), show ¬ c ≤ t by omega, jx_i_s, jx_l_s, jx_a_s, jx_a_n, jx_c_s, jx_v_s, jx_g_s, jx_p_s, jx_ia_s, jx_la_s, jx_aa_s, jx_is_s, jx_ls_s, jx_sn_s, jx_sr_s, jx_n_s, va_rf_s, va_rf_n, jm_ok, jm_up_a, jm_up_up, Bool.or_true, Bool.true_or, Option.some.injEq, Value.int.injEq, Value.long.injEq, Value.ref.injEq, Sum.inr.injEq, Sum.inl.injEq, Prod.mk.injEq, List.getElem?_cons_zero, List.getElem?_cons_succ, List.length_cons, List.length_nil, List.set_cons_zero, List.set_cons_succ, jm_rf, Value.category, and_true, true_and, and_self, and_assoc, jm_p1, jm_p2, jm_k2, Nat.reduceAdd, Nat.reduceEqDiff, Nat.reduceBEq, Bool.and_false, Bool.false_and, Bool.and_true, Bool.true_and, Bool.false_eq_true, ↓reduceIte, reduceCtorEq, zero_ne_one, one_ne_zero, Nat.zero_add, beq_self_eq_true, not_true_eq_false, not_false_eq_true, jz_1, jz_0, Option.toList_some, Option.toList_none, List.cons_append, List.nil_append, implies_true, false_implies, true_implies, not_true_eq_false, not_false_eq_true, Classical.not_not]
    refine w_M_cut_17 (c_M_move d (t := t + 1) (s := t) hn hc hs (by omega) (by omega) (by omega)) (fs := fs) (by simp only [mo_hp_a]; exact hc) (show 35 < n by omega) (Nat.le_of_ble_eq_true rfl) ?_
    rw [del6_s hat, del6_s hat, del6_s hat, del6_s hat, del6_s hat, del1_s hat, del1_s hat]
    simp only [w_M_cut_20, w_M_cut_23, l2, nI_1, jx_i_s, jx_l_s, jx_a_s, jx_a_n, jx_c_s, jx_v_s, jx_g_s, jx_p_s, jx_ia_s, jx_la_s, jx_aa_s, jx_is_s, jx_ls_s, jx_sn_s, jx_sr_s, jx_n_s, va_rf_s, va_rf_n, jm_ok, jm_up_a, jm_up_up, Bool.or_true, Bool.true_or, Option.some.injEq, Value.int.injEq, Value.long.injEq, Value.ref.injEq, Sum.inr.injEq, Sum.inl.injEq, Prod.mk.injEq, List.getElem?_cons_zero, List.getElem?_cons_succ, List.length_cons, List.length_nil, List.set_cons_zero, List.set_cons_succ, jm_rf, Value.category, and_true, true_and, and_self, and_assoc, jm_p1, jm_p2, jm_k2, Nat.reduceAdd, Nat.reduceEqDiff, Nat.reduceBEq, Bool.and_false, Bool.false_and, Bool.and_true, Bool.true_and, Bool.false_eq_true, ↓reduceIte, reduceCtorEq, zero_ne_one, one_ne_zero, Nat.zero_add, beq_self_eq_true, not_true_eq_false, not_false_eq_true, jz_1, jz_0, Option.toList_some, Option.toList_none, List.cons_append, List.nil_append, implies_true, false_implies, true_implies, not_true_eq_false, not_false_eq_true, Classical.not_not]
    exact ih (t + 1) _ (by omega) (by omega) (by simp [jm_p1, jm_p2, jm_k2, Value.category, l0]) (by simp [jm_p1, jm_p2, jm_k2, Value.category])
theorem c_M_cut (d : Nat) {a : Nat} (hn : 61 ≤ n) (hc : f 35 = .inr (11, fs)) (hs : mo_st fs) (h3 : fs[3]? = some (.int (nI (c + 1)))) (hc40 : c ≤ 40) (hac : a ≤ c) : jm_call (d + 2) 96 [.ref 35, .int (nI a)] (n, mo_hp f dy ma kd oa cm qt am) none (n, mo_hp (jm_up f 35 (.inr (11, fs.set 3 (.int (nI c))))) (del1 dy a c) (del1 ma a c) (del6 kd a c) (del6 oa a c) (del6 cm a c) (del6 qt a c) (del6 am a c)) := by
  refine ⟨Nat.le_of_ble_eq_true rfl, ?_⟩
  have l0 : (jm_a0 (lv_args 0 [.ref 35, .int (nI a)])) 0 = some (.ref 35) := rfl
  have l1 : (jm_a0 (lv_args 0 [.ref 35, .int (nI a)])) 1 = some (.int (nI a)) := rfl
  generalize jm_a0 (lv_args 0 [.ref 35, .int (nI a)]) = lv at l0 l1 ⊢
  simp only [w_M_cut_0, w_M_cut_1, l1, jx_i_s, jx_l_s, jx_a_s, jx_a_n, jx_c_s, jx_v_s, jx_g_s, jx_p_s, jx_ia_s, jx_la_s, jx_aa_s, jx_is_s, jx_ls_s, jx_sn_s, jx_sr_s, jx_n_s, va_rf_s, va_rf_n, jm_ok, jm_up_a, jm_up_up, Bool.or_true, Bool.true_or, Option.some.injEq, Value.int.injEq, Value.long.injEq, Value.ref.injEq, Sum.inr.injEq, Sum.inl.injEq, Prod.mk.injEq, List.getElem?_cons_zero, List.getElem?_cons_succ, List.length_cons, List.length_nil, List.set_cons_zero, List.set_cons_succ, jm_rf, Value.category, and_true, true_and, and_self, and_assoc, jm_p1, jm_p2, jm_k2, Nat.reduceAdd, Nat.reduceEqDiff, Nat.reduceBEq, Bool.and_false, Bool.false_and, Bool.and_true, Bool.true_and, Bool.false_eq_true, ↓reduceIte, reduceCtorEq, zero_ne_one, one_ne_zero, Nat.zero_add, beq_self_eq_true, not_true_eq_false, not_false_eq_true, jz_1, jz_0, Option.toList_some, Option.toList_none, List.cons_append, List.nil_append, implies_true, false_implies, true_implies, not_true_eq_false, not_false_eq_true, Classical.not_not]
  have E : mo_hp f dy ma kd oa cm qt am = mo_hp f (del1 dy a a) (del1 ma a a) (del6 kd a a) (del6 oa a a) (del6 cm a a) (del6 qt a a) (del6 am a a) := by
    simp only [del1_a, del6_a]
  rw [E]
  exact w_cut hn hc hs h3 hc40 ⟨rfl, rfl⟩ (c - a) a _ (by omega) (Nat.le_refl _) (by simp [jm_p1, jm_p2, jm_k2, Value.category, l0]) (by simp [jm_p1, jm_p2, jm_k2, Value.category])
end
