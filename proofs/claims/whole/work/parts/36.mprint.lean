theorem lg_ge {x y : Int64} : 0 ≤ lg_cmp x y ↔ ¬ x < y := by
  unfold lg_cmp
  by_cases h1 : y < x
  · have : ¬ x < y := Int64.not_lt.mpr (Int64.le_of_lt h1)
    simp [h1, this]
  · by_cases h2 : x = y
    · subst h2
      simp [h1]
    · have : x < y := Int64.lt_of_le_of_ne (Int64.not_lt.mp h1) h2
      simp [h1, h2, this]
theorem lg_gt {x y : Int64} : 0 < lg_cmp x y ↔ y < x := by
  unfold lg_cmp
  by_cases h1 : y < x
  · simp [h1]
  · by_cases h2 : x = y
    · simp [h2]
    · simp [h1, h2]
theorem lg_eq {x y : Int64} : lg_cmp x y = 0 ↔ x = y := by
  unfold lg_cmp
  by_cases h1 : y < x
  · have : ¬ x = y := fun h => by subst h; exact Int64.lt_irrefl h1
    simp [h1, this]
  · by_cases h2 : x = y
    · simp [h2]
    · simp [h1, h2]
/-- rounding down -/
def dn (b v : Int64) : Int64 := if b - b / v * v < 0 then b / v - 1 else b / v
/-- what a reading method of the reference finds -/
def mo_rd (n : Nat) (f : Nat → va_E) (fs : List Value) (na : Nat) (par : Nat → Int32) (P : Nat → Nat) (c : Nat) (dy ma oa : Nat → Int32) (wt : Nat → Int64) (mn : Nat → Nat) (k : Nat) (cd : Nat → Int32) (ad : Nat → Int64) : Prop :=
  61 ≤ n ∧ f 35 = .inr (11, fs) ∧ mo_st fs ∧ fs[0]? = some (.int (nI na)) ∧ f 36 = .inl (0, 24, .inl par) ∧ tr_par par P na ∧ na ≤ 24 ∧ fs[3]? = some (.int (nI c)) ∧ f 38 = .inl (0, 41, .inl dy) ∧ f 39 = .inl (0, 41, .inl ma) ∧ f 41 = .inl (0, 246, .inl oa) ∧ f 45 = .inl (1, 246, .inr (.inl wt)) ∧ c ≤ 41 ∧ (∀ t, t < c → ma t = nI (mn t) ∧ mn t ≤ 6) ∧ fs[30]? = some (.int (nI k)) ∧ f 57 = .inl (0, 8, .inl cd) ∧ k ≤ 8 ∧ f 59 = .inl (1, 192, .inr (.inl ad))
section
variable {C : jm_C} {Q : jm_Q} {n : Nat} {f : Nat → va_E} {fs : List Value} {na : Nat} {par : Nat → Int32} {P : Nat → Nat} {c : Nat} {dy ma oa : Nat → Int32} {wt : Nat → Int64} {mn : Nat → Nat} {k : Nat} {cd : Nat → Int32} {ad : Nat → Int64} {til u : Int32}
theorem c_M_down (d : Nat) {h : jm_H} {b : Int64} (hu : ¬ u.toInt64 = 0) : jm_call (d + 1) 121 [.long b, .int u] h (some (.long (dn b u.toInt64))) h := by
  refine ⟨Nat.le_of_ble_eq_true rfl, ?_⟩
  have l0 : (jm_a0 (lv_args 0 [.long b, .int u])) 0 = some (.long b) := rfl
  have l2 : (jm_a0 (lv_args 0 [.long b, .int u])) 2 = some (.int u) := rfl
  generalize jm_a0 (lv_args 0 [.long b, .int u]) = lv at l0 l2 ⊢
  simp only [w_M_down_0, w_M_down_1, w_M_down_2, w_M_down_3, w_M_down_4, w_M_down_5, w_M_down_6, w_M_down_9, w_M_down_10, w_M_down_11, w_M_down_12, w_M_down_13, w_M_down_14, w_M_down_15, w_M_down_18, w_M_down_19, w_M_down_20, w_M_down_21, w_M_down_22, l0, l2, hu, lg_ge, dn, jx_i_s, jx_l_s, jx_a_s, jx_a_n, jx_c_s, jx_v_s, jx_g_s, jx_p_s, jx_ia_s, jx_la_s, jx_aa_s, jx_is_s, jx_ls_s, jx_sn_s, jx_sr_s, jx_n_s, va_rf_s, va_rf_n, jm_ok, jm_up_a, jm_up_up, Bool.or_true, Bool.true_or, Option.some.injEq, Value.int.injEq, Value.long.injEq, Value.ref.injEq, Sum.inr.injEq, Sum.inl.injEq, Prod.mk.injEq, List.getElem?_cons_zero, List.getElem?_cons_succ, List.length_cons, List.length_nil, List.set_cons_zero, List.set_cons_succ, jm_rf, Value.category, and_true, true_and, and_self, and_assoc, jm_p1, jm_p2, jm_k2, Nat.reduceAdd, Nat.reduceEqDiff, Nat.reduceBEq, Bool.and_false, Bool.false_and, Bool.and_true, Bool.true_and, Bool.false_eq_true, ↓reduceIte, reduceCtorEq, zero_ne_one, one_ne_zero, Nat.zero_add, beq_self_eq_true, not_true_eq_false, not_false_eq_true, jz_1, jz_0, Option.toList_some, Option.toList_none, List.cons_append, List.nil_append, implies_true, false_implies, true_implies, not_true_eq_false, not_false_eq_true, Classical.not_not]
  refine ⟨fun h => ?_, fun h => ?_⟩
  · rw [if_neg h]
  · rw [if_pos h]
/-- place j of the parts of an account q: 0 is its own, j + 1 is account j -/
def yI : Nat → Int32
  | 0 => -1
  | j + 1 => nI j
theorem yI_s (j : Nat) : yI (j + 1) = nI j := rfl
theorem yI_1 : ∀ j, yI j + 1 = nI j
  | 0 => by decide
  | j + 1 => by simp [yI, nI_1]
def pt_is (par : Nat → Int32) (q : Int32) : Nat → Bool
  | 0 => decide (0 ≤ q)
  | j + 1 => decide (par j = q)
theorem c_M_isPart (d : Nat) {q : Int32} (hR : mo_rd n f fs na par P c dy ma oa wt mn k cd ad) : ∀ {j : Nat}, j ≤ na → jm_call (d + 1) 122 [.ref 35, .int q, .int (yI j)] (n, f) (some (.int (b2i (pt_is par q j)))) (n, f)
  | 0, _ => by
    refine ⟨Nat.le_of_ble_eq_true rfl, ?_⟩
    have l0 : (jm_a0 (lv_args 0 [.ref 35, .int q, .int (yI 0)])) 0 = some (.ref 35) := rfl
    have l1 : (jm_a0 (lv_args 0 [.ref 35, .int q, .int (yI 0)])) 1 = some (.int q) := rfl
    have l2 : (jm_a0 (lv_args 0 [.ref 35, .int q, .int (yI 0)])) 2 = some (.int (yI 0)) := rfl
    generalize jm_a0 (lv_args 0 [.ref 35, .int q, .int (yI 0)]) = lv at l0 l1 l2 ⊢
    simp only [yI] at l2
    simp only [w_M_isPart_0, w_M_isPart_1, w_M_isPart_4, w_M_isPart_5, w_M_isPart_8, w_M_isPart_9, w_M_isPart_12, w_M_isPart_13, w_M_isPart_31, l1, l2, show ¬ (0 : Int32) ≤ -1 by decide, b2i, pt_is, decide_eq_true_eq, jx_i_s, jx_l_s, jx_a_s, jx_a_n, jx_c_s, jx_v_s, jx_g_s, jx_p_s, jx_ia_s, jx_la_s, jx_aa_s, jx_is_s, jx_ls_s, jx_sn_s, jx_sr_s, jx_n_s, va_rf_s, va_rf_n, jm_ok, jm_up_a, jm_up_up, Bool.or_true, Bool.true_or, Option.some.injEq, Value.int.injEq, Value.long.injEq, Value.ref.injEq, Sum.inr.injEq, Sum.inl.injEq, Prod.mk.injEq, List.getElem?_cons_zero, List.getElem?_cons_succ, List.length_cons, List.length_nil, List.set_cons_zero, List.set_cons_succ, jm_rf, Value.category, and_true, true_and, and_self, and_assoc, jm_p1, jm_p2, jm_k2, Nat.reduceAdd, Nat.reduceEqDiff, Nat.reduceBEq, Bool.and_false, Bool.false_and, Bool.and_true, Bool.true_and, Bool.false_eq_true, ↓reduceIte, reduceCtorEq, zero_ne_one, one_ne_zero, Nat.zero_add, beq_self_eq_true, not_true_eq_false, not_false_eq_true, jz_1, jz_0, Option.toList_some, Option.toList_none, List.cons_append, List.nil_append, implies_true, false_implies, true_implies, not_true_eq_false, not_false_eq_true, Classical.not_not]
    grind
  | j + 1, hj => by
    obtain ⟨hn, hc, hs, h0, h36, hP, hna, h3, h38, h39, h41, h45, hc41, hm, h30, h57, hk, h59⟩ := hR
    refine ⟨Nat.le_of_ble_eq_true rfl, ?_⟩
    have l0 : (jm_a0 (lv_args 0 [.ref 35, .int q, .int (yI (j + 1))])) 0 = some (.ref 35) := rfl
    have l1 : (jm_a0 (lv_args 0 [.ref 35, .int q, .int (yI (j + 1))])) 1 = some (.int q) := rfl
    have l2 : (jm_a0 (lv_args 0 [.ref 35, .int q, .int (yI (j + 1))])) 2 = some (.int (yI (j + 1))) := rfl
    generalize jm_a0 (lv_args 0 [.ref 35, .int q, .int (yI (j + 1))]) = lv at l0 l1 l2 ⊢
    obtain ⟨s1, s2, s4, s5, s6, s7, s8, s9, s10, s11, s15, s17, s18, s19, s20, s23, s24, s25, s27, s28, s29, s31, s32, s33, s34, sl⟩ := hs
    simp only [yI] at l2
    simp only [w_M_isPart_0, w_M_isPart_1, w_M_isPart_16, w_M_isPart_17, w_M_isPart_20, w_M_isPart_21, w_M_isPart_22, w_M_isPart_23, w_M_isPart_26, w_M_isPart_27, w_M_isPart_30, w_M_isPart_31, l0, l1, l2, hc, s1, h36, show 35 < n by omega, show 36 < n by omega, nI_pos' (show j < 2 ^ 31 by omega), nI_clamp (show j < 2 ^ 31 by omega), vp_in_nI (show j < 24 by omega) (by decide), b2i, pt_is, decide_eq_true_eq, jx_i_s, jx_l_s, jx_a_s, jx_a_n, jx_c_s, jx_v_s, jx_g_s, jx_p_s, jx_ia_s, jx_la_s, jx_aa_s, jx_is_s, jx_ls_s, jx_sn_s, jx_sr_s, jx_n_s, va_rf_s, va_rf_n, jm_ok, jm_up_a, jm_up_up, Bool.or_true, Bool.true_or, Option.some.injEq, Value.int.injEq, Value.long.injEq, Value.ref.injEq, Sum.inr.injEq, Sum.inl.injEq, Prod.mk.injEq, List.getElem?_cons_zero, List.getElem?_cons_succ, List.length_cons, List.length_nil, List.set_cons_zero, List.set_cons_succ, jm_rf, Value.category, and_true, true_and, and_self, and_assoc, jm_p1, jm_p2, jm_k2, Nat.reduceAdd, Nat.reduceEqDiff, Nat.reduceBEq, Bool.and_false, Bool.false_and, Bool.and_true, Bool.true_and, Bool.false_eq_true, ↓reduceIte, reduceCtorEq, zero_ne_one, one_ne_zero, Nat.zero_add, beq_self_eq_true, not_true_eq_false, not_false_eq_true, jz_1, jz_0, Option.toList_some, Option.toList_none, List.cons_append, List.nil_append, implies_true, false_implies, true_implies, not_true_eq_false, not_false_eq_true, Classical.not_not]
    grind
/-- the parts' balances -/
def pt_v (P : Nat → Nat) (na : Nat) (o : Nat → Int64) (q : Nat) : Nat → Int64
  | 0 => o q
  | j + 1 => tr_S P na o j
theorem c_M_part (d : Nat) {q : Nat} {qi : Int32} (hR : mo_rd n f fs na par P c dy ma oa wt mn k cd ad) : ∀ {j : Nat}, j ≤ na → (j = 0 → qi = nI q ∧ q < 24) → jm_call (d + 4) 123 [.ref 35, .int qi, .int (yI j), .int til] (n, f) (some (.long (pt_v P na (mo_bal dy oa wt mn c cd ad k til) q j))) (n, f)
  | 0, _, hq => by
    obtain ⟨hn, hc, hs, h0, h36, hP, hna, h3, h38, h39, h41, h45, hc41, hm, h30, h57, hk, h59⟩ := hR
    obtain ⟨rfl, hq2⟩ := hq rfl
    refine ⟨Nat.le_of_ble_eq_true rfl, ?_⟩
    have l0 : (jm_a0 (lv_args 0 [.ref 35, .int (nI q), .int (yI 0), .int til])) 0 = some (.ref 35) := rfl
    have l1 : (jm_a0 (lv_args 0 [.ref 35, .int (nI q), .int (yI 0), .int til])) 1 = some (.int (nI q)) := rfl
    have l2 : (jm_a0 (lv_args 0 [.ref 35, .int (nI q), .int (yI 0), .int til])) 2 = some (.int (yI 0)) := rfl
    have l3 : (jm_a0 (lv_args 0 [.ref 35, .int (nI q), .int (yI 0), .int til])) 3 = some (.int til) := rfl
    generalize jm_a0 (lv_args 0 [.ref 35, .int (nI q), .int (yI 0), .int til]) = lv at l0 l1 l2 l3 ⊢
    simp only [yI] at l2
    simp only [w_M_part_0, w_M_part_1, w_M_part_4, w_M_part_5, w_M_part_6, l0, l1, l2, l3, show ¬ (0 : Int32) ≤ -1 by decide, jx_i_s, jx_l_s, jx_a_s, jx_a_n, jx_c_s, jx_v_s, jx_g_s, jx_p_s, jx_ia_s, jx_la_s, jx_aa_s, jx_is_s, jx_ls_s, jx_sn_s, jx_sr_s, jx_n_s, va_rf_s, va_rf_n, jm_ok, jm_up_a, jm_up_up, Bool.or_true, Bool.true_or, Option.some.injEq, Value.int.injEq, Value.long.injEq, Value.ref.injEq, Sum.inr.injEq, Sum.inl.injEq, Prod.mk.injEq, List.getElem?_cons_zero, List.getElem?_cons_succ, List.length_cons, List.length_nil, List.set_cons_zero, List.set_cons_succ, jm_rf, Value.category, and_true, true_and, and_self, and_assoc, jm_p1, jm_p2, jm_k2, Nat.reduceAdd, Nat.reduceEqDiff, Nat.reduceBEq, Bool.and_false, Bool.false_and, Bool.and_true, Bool.true_and, Bool.false_eq_true, ↓reduceIte, reduceCtorEq, zero_ne_one, one_ne_zero, Nat.zero_add, beq_self_eq_true, not_true_eq_false, not_false_eq_true, jz_1, jz_0, Option.toList_some, Option.toList_none, List.cons_append, List.nil_append, implies_true, false_implies, true_implies, not_true_eq_false, not_false_eq_true, Classical.not_not]
    refine w_M_part_7 (c_M_ownBalance (d + 1) hn hc hs h3 h38 h39 h41 h45 hc41 hm h30 h57 hk h59 hq2) hc (show 35 < n by omega) (Nat.le_of_ble_eq_true rfl) ?_
    simp only [w_M_part_10, w_M_part_19, pt_v, jx_i_s, jx_l_s, jx_a_s, jx_a_n, jx_c_s, jx_v_s, jx_g_s, jx_p_s, jx_ia_s, jx_la_s, jx_aa_s, jx_is_s, jx_ls_s, jx_sn_s, jx_sr_s, jx_n_s, va_rf_s, va_rf_n, jm_ok, jm_up_a, jm_up_up, Bool.or_true, Bool.true_or, Option.some.injEq, Value.int.injEq, Value.long.injEq, Value.ref.injEq, Sum.inr.injEq, Sum.inl.injEq, Prod.mk.injEq, List.getElem?_cons_zero, List.getElem?_cons_succ, List.length_cons, List.length_nil, List.set_cons_zero, List.set_cons_succ, jm_rf, Value.category, and_true, true_and, and_self, and_assoc, jm_p1, jm_p2, jm_k2, Nat.reduceAdd, Nat.reduceEqDiff, Nat.reduceBEq, Bool.and_false, Bool.false_and, Bool.and_true, Bool.true_and, Bool.false_eq_true, ↓reduceIte, reduceCtorEq, zero_ne_one, one_ne_zero, Nat.zero_add, beq_self_eq_true, not_true_eq_false, not_false_eq_true, jz_1, jz_0, Option.toList_some, Option.toList_none, List.cons_append, List.nil_append, implies_true, false_implies, true_implies, not_true_eq_false, not_false_eq_true, Classical.not_not]
  | j + 1, hj, _ => by
    obtain ⟨hn, hc, hs, h0, h36, hP, hna, h3, h38, h39, h41, h45, hc41, hm, h30, h57, hk, h59⟩ := hR
    refine ⟨Nat.le_of_ble_eq_true rfl, ?_⟩
    have l0 : (jm_a0 (lv_args 0 [.ref 35, .int qi, .int (yI (j + 1)), .int til])) 0 = some (.ref 35) := rfl
    have l1 : (jm_a0 (lv_args 0 [.ref 35, .int qi, .int (yI (j + 1)), .int til])) 1 = some (.int qi) := rfl
    have l2 : (jm_a0 (lv_args 0 [.ref 35, .int qi, .int (yI (j + 1)), .int til])) 2 = some (.int (yI (j + 1))) := rfl
    have l3 : (jm_a0 (lv_args 0 [.ref 35, .int qi, .int (yI (j + 1)), .int til])) 3 = some (.int til) := rfl
    generalize jm_a0 (lv_args 0 [.ref 35, .int qi, .int (yI (j + 1)), .int til]) = lv at l0 l1 l2 l3 ⊢
    simp only [yI] at l2
    simp only [w_M_part_0, w_M_part_1, w_M_part_13, w_M_part_14, w_M_part_15, l0, l1, l2, l3, nI_pos' (show j < 2 ^ 31 by omega), jx_i_s, jx_l_s, jx_a_s, jx_a_n, jx_c_s, jx_v_s, jx_g_s, jx_p_s, jx_ia_s, jx_la_s, jx_aa_s, jx_is_s, jx_ls_s, jx_sn_s, jx_sr_s, jx_n_s, va_rf_s, va_rf_n, jm_ok, jm_up_a, jm_up_up, Bool.or_true, Bool.true_or, Option.some.injEq, Value.int.injEq, Value.long.injEq, Value.ref.injEq, Sum.inr.injEq, Sum.inl.injEq, Prod.mk.injEq, List.getElem?_cons_zero, List.getElem?_cons_succ, List.length_cons, List.length_nil, List.set_cons_zero, List.set_cons_succ, jm_rf, Value.category, and_true, true_and, and_self, and_assoc, jm_p1, jm_p2, jm_k2, Nat.reduceAdd, Nat.reduceEqDiff, Nat.reduceBEq, Bool.and_false, Bool.false_and, Bool.and_true, Bool.true_and, Bool.false_eq_true, ↓reduceIte, reduceCtorEq, zero_ne_one, one_ne_zero, Nat.zero_add, beq_self_eq_true, not_true_eq_false, not_false_eq_true, jz_1, jz_0, Option.toList_some, Option.toList_none, List.cons_append, List.nil_append, implies_true, false_implies, true_implies, not_true_eq_false, not_false_eq_true, Classical.not_not]
    refine w_M_part_16 (c_M_balance d hn hc hs h0 h36 hP hna h3 h38 h39 h41 h45 hc41 hm h30 h57 hk h59 (by omega)) hc (show 35 < n by omega) (Nat.le_of_ble_eq_true rfl) ?_
    simp only [w_M_part_19, pt_v, jx_i_s, jx_l_s, jx_a_s, jx_a_n, jx_c_s, jx_v_s, jx_g_s, jx_p_s, jx_ia_s, jx_la_s, jx_aa_s, jx_is_s, jx_ls_s, jx_sn_s, jx_sr_s, jx_n_s, va_rf_s, va_rf_n, jm_ok, jm_up_a, jm_up_up, Bool.or_true, Bool.true_or, Option.some.injEq, Value.int.injEq, Value.long.injEq, Value.ref.injEq, Sum.inr.injEq, Sum.inl.injEq, Prod.mk.injEq, List.getElem?_cons_zero, List.getElem?_cons_succ, List.length_cons, List.length_nil, List.set_cons_zero, List.set_cons_succ, jm_rf, Value.category, and_true, true_and, and_self, and_assoc, jm_p1, jm_p2, jm_k2, Nat.reduceAdd, Nat.reduceEqDiff, Nat.reduceBEq, Bool.and_false, Bool.false_and, Bool.and_true, Bool.true_and, Bool.false_eq_true, ↓reduceIte, reduceCtorEq, zero_ne_one, one_ne_zero, Nat.zero_add, beq_self_eq_true, not_true_eq_false, not_false_eq_true, jz_1, jz_0, Option.toList_some, Option.toList_none, List.cons_append, List.nil_append, implies_true, false_implies, true_implies, not_true_eq_false, not_false_eq_true, Classical.not_not]
/-- what is left to give, and how many go first -/
def sh_m (is : Nat → Bool) (v : Nat → Int64) (u64 p : Int64) : Nat → Int64
  | 0 => p
  | j + 1 => if is j = true then sh_m is v u64 p j - dn (v j) u64 else sh_m is v u64 p j
def sh_t (v : Nat → Int64) (u64 r : Int64) (x : Int32) (j : Nat) : Bool := decide (r < v j - dn (v j) u64 * u64) || (decide (v j - dn (v j) u64 * u64 = r) && decide (yI j < x))
def sh_b (is : Nat → Bool) (v : Nat → Int64) (u64 r : Int64) (x : Int32) : Nat → Int32
  | 0 => 0
  | j + 1 => if is j = true then sh_b is v u64 r x j + b2i (sh_t v u64 r x j) else sh_b is v u64 r x j
def sh (par : Nat → Int32) (P : Nat → Nat) (na : Nat) (o : Nat → Int64) (q : Nat) (qi : Int32) (p : Int64) (x : Nat) (u64 : Int64) : Int64 :=
  if (sh_b (pt_is par qi) (pt_v P na o q) u64 (tr_S P na o x - dn (tr_S P na o x) u64 * u64) (nI x) (na + 1)).toInt64 < sh_m (pt_is par qi) (pt_v P na o q) u64 p (na + 1) then dn (tr_S P na o x) u64 + 1 else dn (tr_S P na o x) u64
theorem w_share {d q x : Nat} {qi : Int32} {p : Int64} (hR : mo_rd n f fs na par P c dy ma oa wt mn k cd ad) (hu : ¬ u.toInt64 = 0) (hx : x < na) (hq : 0 ≤ qi → qi = nI q ∧ q < 24)
    (o : Nat → Int64) (ho : o = mo_bal dy oa wt mn c cd ad k til) (r : Int64) (hr : r = tr_S P na o x - dn (tr_S P na o x) u.toInt64 * u.toInt64) (lw : Int64)
    (fin : ∀ lv, lv 9 = some (.long lw) → lv 13 = some (.long (sh_m (pt_is par qi) (pt_v P na o q) u.toInt64 p (na + 1))) → lv 15 = some (.int (sh_b (pt_is par qi) (pt_v P na o q) u.toInt64 r (nI x) (na + 1))) → jm_wp (jm_call (d + 4)) 124 Q (136, lv, [], (n, f))) :
    ∀ (j : Nat) (lv : jm_L) (h : jm_H), j ≤ na + 1 → (h = (n, f) ∧ lv 0 = some (.ref 35) ∧ lv 1 = some (.int qi) ∧ lv 4 = some (.int (nI x)) ∧ lv 5 = some (.int til) ∧ lv 6 = some (.int u) ∧ lv 9 = some (.long lw) ∧ lv 11 = some (.long r) ∧ lv 13 = some (.long (sh_m (pt_is par qi) (pt_v P na o q) u.toInt64 p j)) ∧ lv 15 = some (.int (sh_b (pt_is par qi) (pt_v P na o q) u.toInt64 r (nI x) j)) ∧ lv 16 = some (.int (yI j))) → jm_wp (jm_call (d + 4)) 124 Q (40, lv, [], h) := by
  have hR' := hR
  obtain ⟨hn, hc, hs, h0, h36, hP, hna, h3, h38, h39, h41, h45, hc41, hm, h30, h57, hk, h59⟩ := hR
  refine jm_for (fun j lv h => h = (n, f) ∧ lv 0 = some (.ref 35) ∧ lv 1 = some (.int qi) ∧ lv 4 = some (.int (nI x)) ∧ lv 5 = some (.int til) ∧ lv 6 = some (.int u) ∧ lv 9 = some (.long lw) ∧ lv 11 = some (.long r) ∧ lv 13 = some (.long (sh_m (pt_is par qi) (pt_v P na o q) u.toInt64 p j)) ∧ lv 15 = some (.int (sh_b (pt_is par qi) (pt_v P na o q) u.toInt64 r (nI x) j)) ∧ lv 16 = some (.int (yI j))) ?_ ?_
  · rintro j lv h hj ⟨rfl, l0, l1, l4, l5, l6, l9, l11, l13, l15, l16⟩ ih
    have hlt : ¬ nI na ≤ yI j := by
      cases j with
      | zero => exact nI_m1nle (show na < 2 ^ 31 by omega)
      | succ j => exact nI_ge (show j < na by omega) (by omega)
    rw [w_M_share_40]
    simp only [w_M_share_42, w_M_share_43, w_M_share_46, w_M_share_49, w_M_share_50, w_M_share_51, l0, l1, l16, hc, h0, hlt, show 35 < n by omega, jx_i_s, jx_l_s, jx_a_s, jx_a_n, jx_c_s, jx_v_s, jx_g_s, jx_p_s, jx_ia_s, jx_la_s, jx_aa_s, jx_is_s, jx_ls_s, jx_sn_s, jx_sr_s, jx_n_s, va_rf_s, va_rf_n, jm_ok, jm_up_a, jm_up_up, Bool.or_true, Bool.true_or, Option.some.injEq, Value.int.injEq, Value.long.injEq, Value.ref.injEq, Sum.inr.injEq, Sum.inl.injEq, Prod.mk.injEq, List.getElem?_cons_zero, List.getElem?_cons_succ, List.length_cons, List.length_nil, List.set_cons_zero, List.set_cons_succ, jm_rf, Value.category, and_true, true_and, and_self, and_assoc, jm_p1, jm_p2, jm_k2, Nat.reduceAdd, Nat.reduceEqDiff, Nat.reduceBEq, Bool.and_false, Bool.false_and, Bool.and_true, Bool.true_and, Bool.false_eq_true, ↓reduceIte, reduceCtorEq, zero_ne_one, one_ne_zero, Nat.zero_add, beq_self_eq_true, not_true_eq_false, not_false_eq_true, jz_1, jz_0, Option.toList_some, Option.toList_none, List.cons_append, List.nil_append, implies_true, false_implies, true_implies, not_true_eq_false, not_false_eq_true, Classical.not_not]
    refine w_M_share_53 (c_M_isPart (d + 3) hR' (by omega)) hc (show 35 < n by omega) (Nat.le_of_ble_eq_true rfl) ?_
    simp only [w_M_share_56, w_M_share_59, w_M_share_60, w_M_share_61, w_M_share_63, w_M_share_130, w_M_share_133, l0, l1, l5, l16, b2i_eq0, jx_i_s, jx_l_s, jx_a_s, jx_a_n, jx_c_s, jx_v_s, jx_g_s, jx_p_s, jx_ia_s, jx_la_s, jx_aa_s, jx_is_s, jx_ls_s, jx_sn_s, jx_sr_s, jx_n_s, va_rf_s, va_rf_n, jm_ok, jm_up_a, jm_up_up, Bool.or_true, Bool.true_or, Option.some.injEq, Value.int.injEq, Value.long.injEq, Value.ref.injEq, Sum.inr.injEq, Sum.inl.injEq, Prod.mk.injEq, List.getElem?_cons_zero, List.getElem?_cons_succ, List.length_cons, List.length_nil, List.set_cons_zero, List.set_cons_succ, jm_rf, Value.category, and_true, true_and, and_self, and_assoc, jm_p1, jm_p2, jm_k2, Nat.reduceAdd, Nat.reduceEqDiff, Nat.reduceBEq, Bool.and_false, Bool.false_and, Bool.and_true, Bool.true_and, Bool.false_eq_true, ↓reduceIte, reduceCtorEq, zero_ne_one, one_ne_zero, Nat.zero_add, beq_self_eq_true, not_true_eq_false, not_false_eq_true, jz_1, jz_0, Option.toList_some, Option.toList_none, List.cons_append, List.nil_append, implies_true, false_implies, true_implies, not_true_eq_false, not_false_eq_true, Classical.not_not]
    have em : sh_m (pt_is par qi) (pt_v P na o q) u.toInt64 p (j + 1) = if pt_is par qi j = true then sh_m (pt_is par qi) (pt_v P na o q) u.toInt64 p j - dn (pt_v P na o q j) u.toInt64 else sh_m (pt_is par qi) (pt_v P na o q) u.toInt64 p j := rfl
    have eb : sh_b (pt_is par qi) (pt_v P na o q) u.toInt64 r (nI x) (j + 1) = if pt_is par qi j = true then sh_b (pt_is par qi) (pt_v P na o q) u.toInt64 r (nI x) j + b2i (sh_t (pt_v P na o q) u.toInt64 r (nI x) j) else sh_b (pt_is par qi) (pt_v P na o q) u.toInt64 r (nI x) j := rfl
    refine ⟨fun hi => ?_, fun hi => ?_⟩
    · rw [if_neg (by rw [hi]; decide)] at em eb
      exact ih _ _ ⟨rfl, (by simp [jm_p1, jm_p2, jm_k2, Value.category, l0]), (by simp [jm_p1, jm_p2, jm_k2, Value.category, l1]), (by simp [jm_p1, jm_p2, jm_k2, Value.category, l4]), (by simp [jm_p1, jm_p2, jm_k2, Value.category, l5]), (by simp [jm_p1, jm_p2, jm_k2, Value.category, l6]), (by simp [jm_p1, jm_p2, jm_k2, Value.category, l9]), (by simp [jm_p1, jm_p2, jm_k2, Value.category, l11]), (by simp [jm_p1, jm_p2, jm_k2, Value.category, l13, em]), (by simp [jm_p1, jm_p2, jm_k2, Value.category, l15, eb]), (by simp [jm_p1, jm_p2, jm_k2, Value.category, yI_1, yI_s])⟩
    · have hi : pt_is par qi j = true := by simpa using hi
      rw [if_pos hi] at em eb
      refine w_M_share_65 (c_M_part d (q := q) hR' (by omega) (fun h0 => hq (by subst h0; simpa [pt_is] using hi))) hc (show 35 < n by omega) (Nat.le_of_ble_eq_true rfl) ?_
      rw [← ho]
      simp only [w_M_share_68, w_M_share_70, w_M_share_72, l6, jx_i_s, jx_l_s, jx_a_s, jx_a_n, jx_c_s, jx_v_s, jx_g_s, jx_p_s, jx_ia_s, jx_la_s, jx_aa_s, jx_is_s, jx_ls_s, jx_sn_s, jx_sr_s, jx_n_s, va_rf_s, va_rf_n, jm_ok, jm_up_a, jm_up_up, Bool.or_true, Bool.true_or, Option.some.injEq, Value.int.injEq, Value.long.injEq, Value.ref.injEq, Sum.inr.injEq, Sum.inl.injEq, Prod.mk.injEq, List.getElem?_cons_zero, List.getElem?_cons_succ, List.length_cons, List.length_nil, List.set_cons_zero, List.set_cons_succ, jm_rf, Value.category, and_true, true_and, and_self, and_assoc, jm_p1, jm_p2, jm_k2, Nat.reduceAdd, Nat.reduceEqDiff, Nat.reduceBEq, Bool.and_false, Bool.false_and, Bool.and_true, Bool.true_and, Bool.false_eq_true, ↓reduceIte, reduceCtorEq, zero_ne_one, one_ne_zero, Nat.zero_add, beq_self_eq_true, not_true_eq_false, not_false_eq_true, jz_1, jz_0, Option.toList_some, Option.toList_none, List.cons_append, List.nil_append, implies_true, false_implies, true_implies, not_true_eq_false, not_false_eq_true, Classical.not_not]
      refine w_M_share_74 (c_M_down (d + 3) hu) (Nat.le_of_ble_eq_true rfl) ?_
      simp only [w_M_share_77, w_M_share_79, w_M_share_81, w_M_share_83, w_M_share_84, w_M_share_86, w_M_share_88, w_M_share_90, w_M_share_92, w_M_share_93, w_M_share_94, w_M_share_95, w_M_share_97, w_M_share_99, w_M_share_101, w_M_share_103, w_M_share_104, w_M_share_107, w_M_share_109, w_M_share_111, w_M_share_112, w_M_share_115, w_M_share_117, w_M_share_119, w_M_share_122, w_M_share_123, w_M_share_126, w_M_share_127, w_M_share_128, w_M_share_130, w_M_share_133, l4, l6, l11, l13, l15, l16, lg_gt, lg_eq, jx_i_s, jx_l_s, jx_a_s, jx_a_n, jx_c_s, jx_v_s, jx_g_s, jx_p_s, jx_ia_s, jx_la_s, jx_aa_s, jx_is_s, jx_ls_s, jx_sn_s, jx_sr_s, jx_n_s, va_rf_s, va_rf_n, jm_ok, jm_up_a, jm_up_up, Bool.or_true, Bool.true_or, Option.some.injEq, Value.int.injEq, Value.long.injEq, Value.ref.injEq, Sum.inr.injEq, Sum.inl.injEq, Prod.mk.injEq, List.getElem?_cons_zero, List.getElem?_cons_succ, List.length_cons, List.length_nil, List.set_cons_zero, List.set_cons_succ, jm_rf, Value.category, and_true, true_and, and_self, and_assoc, jm_p1, jm_p2, jm_k2, Nat.reduceAdd, Nat.reduceEqDiff, Nat.reduceBEq, Bool.and_false, Bool.false_and, Bool.and_true, Bool.true_and, Bool.false_eq_true, ↓reduceIte, reduceCtorEq, zero_ne_one, one_ne_zero, Nat.zero_add, beq_self_eq_true, not_true_eq_false, not_false_eq_true, jz_1, jz_0, Option.toList_some, Option.toList_none, List.cons_append, List.nil_append, implies_true, false_implies, true_implies, not_true_eq_false, not_false_eq_true, Classical.not_not]
      have go : ∀ z : Int32, z = b2i (sh_t (pt_v P na o q) u.toInt64 r (nI x) j) → jm_wp (jm_call (d + 4)) 124 Q (40, jm_p1 (jm_p1 (jm_p2 (jm_p2 (jm_p2 (jm_p2 lv 17 (.long (pt_v P na o q j))) 19 (.long (dn (pt_v P na o q j) u.toInt64))) 13 (.long (sh_m (pt_is par qi) (pt_v P na o q) u.toInt64 p j - dn (pt_v P na o q j) u.toInt64))) 21 (.long (pt_v P na o q j - dn (pt_v P na o q j) u.toInt64 * u.toInt64))) 15 (.int (sh_b (pt_is par qi) (pt_v P na o q) u.toInt64 r (nI x) j + z))) 16 (.int (yI j + 1)), [], (n, f)) := by
        intro z hz
        rw [hz]
        exact ih _ _ ⟨rfl, (by simp [jm_p1, jm_p2, jm_k2, Value.category, l0]), (by simp [jm_p1, jm_p2, jm_k2, Value.category, l1]), (by simp [jm_p1, jm_p2, jm_k2, Value.category, l4]), (by simp [jm_p1, jm_p2, jm_k2, Value.category, l5]), (by simp [jm_p1, jm_p2, jm_k2, Value.category, l6]), (by simp [jm_p1, jm_p2, jm_k2, Value.category, l9]), (by simp [jm_p1, jm_p2, jm_k2, Value.category, l11]), (by simp [jm_p1, jm_p2, jm_k2, Value.category, em]), (by simp [jm_p1, jm_p2, jm_k2, Value.category, eb]), (by simp [jm_p1, jm_p2, jm_k2, Value.category, yI_1, yI_s])⟩
      refine ⟨fun a => go 1 ?_, fun a => ⟨fun e => go 0 ?_, fun e => ⟨fun g => go 0 ?_, fun g => go 1 ?_⟩⟩⟩
      · simp [sh_t, a, b2i]
      · simp [sh_t, a, e, b2i]
      · have : sh_t (pt_v P na o q) u.toInt64 r (nI x) j = false := by simp only [sh_t, e, Int64.lt_irrefl, Int32.not_lt.mpr g, decide_false, Bool.and_false, Bool.or_false]
        rw [this]
        rfl
      · have : sh_t (pt_v P na o q) u.toInt64 r (nI x) j = true := by simp only [sh_t, e, Int32.not_le.mp g, decide_true, Bool.and_true, Bool.or_true]
        rw [this]
        rfl
  · rintro lv h ⟨rfl, l0, l1, l4, l5, l6, l9, l11, l13, l15, l16⟩
    rw [w_M_share_40]
    simp only [w_M_share_42, w_M_share_43, w_M_share_46, l0, l16, hc, h0, yI, nI_leI (show na < 2 ^ 31 by omega) (show na < 2 ^ 31 by omega), Nat.le_refl, show 35 < n by omega, jx_i_s, jx_l_s, jx_a_s, jx_a_n, jx_c_s, jx_v_s, jx_g_s, jx_p_s, jx_ia_s, jx_la_s, jx_aa_s, jx_is_s, jx_ls_s, jx_sn_s, jx_sr_s, jx_n_s, va_rf_s, va_rf_n, jm_ok, jm_up_a, jm_up_up, Bool.or_true, Bool.true_or, Option.some.injEq, Value.int.injEq, Value.long.injEq, Value.ref.injEq, Sum.inr.injEq, Sum.inl.injEq, Prod.mk.injEq, List.getElem?_cons_zero, List.getElem?_cons_succ, List.length_cons, List.length_nil, List.set_cons_zero, List.set_cons_succ, jm_rf, Value.category, and_true, true_and, and_self, and_assoc, jm_p1, jm_p2, jm_k2, Nat.reduceAdd, Nat.reduceEqDiff, Nat.reduceBEq, Bool.and_false, Bool.false_and, Bool.and_true, Bool.true_and, Bool.false_eq_true, ↓reduceIte, reduceCtorEq, zero_ne_one, one_ne_zero, Nat.zero_add, beq_self_eq_true, not_true_eq_false, not_false_eq_true, jz_1, jz_0, Option.toList_some, Option.toList_none, List.cons_append, List.nil_append, implies_true, false_implies, true_implies, not_true_eq_false, not_false_eq_true, Classical.not_not]
    exact fin lv l9 l13 l15
theorem c_M_share (d : Nat) {q x : Nat} {qi : Int32} {p : Int64} (hR : mo_rd n f fs na par P c dy ma oa wt mn k cd ad) (hu : ¬ u.toInt64 = 0) (hx : x < na) (hq : 0 ≤ qi → qi = nI q ∧ q < 24) : jm_call (d + 5) 124 [.ref 35, .int qi, .long p, .int (nI x), .int til, .int u] (n, f) (some (.long (sh par P na (mo_bal dy oa wt mn c cd ad k til) q qi p x u.toInt64))) (n, f) := by
  have hR' := hR
  obtain ⟨hn, hc, hs, h0, h36, hP, hna, h3, h38, h39, h41, h45, hc41, hm, h30, h57, hk, h59⟩ := hR
  refine ⟨Nat.le_of_ble_eq_true rfl, ?_⟩
  have l0 : (jm_a0 (lv_args 0 [.ref 35, .int qi, .long p, .int (nI x), .int til, .int u])) 0 = some (.ref 35) := rfl
  have l1 : (jm_a0 (lv_args 0 [.ref 35, .int qi, .long p, .int (nI x), .int til, .int u])) 1 = some (.int qi) := rfl
  have l2 : (jm_a0 (lv_args 0 [.ref 35, .int qi, .long p, .int (nI x), .int til, .int u])) 2 = some (.long p) := rfl
  have l4 : (jm_a0 (lv_args 0 [.ref 35, .int qi, .long p, .int (nI x), .int til, .int u])) 4 = some (.int (nI x)) := rfl
  have l5 : (jm_a0 (lv_args 0 [.ref 35, .int qi, .long p, .int (nI x), .int til, .int u])) 5 = some (.int til) := rfl
  have l6 : (jm_a0 (lv_args 0 [.ref 35, .int qi, .long p, .int (nI x), .int til, .int u])) 6 = some (.int u) := rfl
  generalize jm_a0 (lv_args 0 [.ref 35, .int qi, .long p, .int (nI x), .int til, .int u]) = lv at l0 l1 l2 l4 l5 l6 ⊢
  simp only [w_M_share_0, w_M_share_1, w_M_share_2, w_M_share_4, l0, l1, l4, l5, jx_i_s, jx_l_s, jx_a_s, jx_a_n, jx_c_s, jx_v_s, jx_g_s, jx_p_s, jx_ia_s, jx_la_s, jx_aa_s, jx_is_s, jx_ls_s, jx_sn_s, jx_sr_s, jx_n_s, va_rf_s, va_rf_n, jm_ok, jm_up_a, jm_up_up, Bool.or_true, Bool.true_or, Option.some.injEq, Value.int.injEq, Value.long.injEq, Value.ref.injEq, Sum.inr.injEq, Sum.inl.injEq, Prod.mk.injEq, List.getElem?_cons_zero, List.getElem?_cons_succ, List.length_cons, List.length_nil, List.set_cons_zero, List.set_cons_succ, jm_rf, Value.category, and_true, true_and, and_self, and_assoc, jm_p1, jm_p2, jm_k2, Nat.reduceAdd, Nat.reduceEqDiff, Nat.reduceBEq, Bool.and_false, Bool.false_and, Bool.and_true, Bool.true_and, Bool.false_eq_true, ↓reduceIte, reduceCtorEq, zero_ne_one, one_ne_zero, Nat.zero_add, beq_self_eq_true, not_true_eq_false, not_false_eq_true, jz_1, jz_0, Option.toList_some, Option.toList_none, List.cons_append, List.nil_append, implies_true, false_implies, true_implies, not_true_eq_false, not_false_eq_true, Classical.not_not]
  refine w_M_share_6 (c_M_part d (q := q) (j := x + 1) hR' (by omega) (fun h => by omega)) hc (show 35 < n by omega) (Nat.le_of_ble_eq_true rfl) ?_
  simp only [w_M_share_9, w_M_share_11, w_M_share_13, l6, jx_i_s, jx_l_s, jx_a_s, jx_a_n, jx_c_s, jx_v_s, jx_g_s, jx_p_s, jx_ia_s, jx_la_s, jx_aa_s, jx_is_s, jx_ls_s, jx_sn_s, jx_sr_s, jx_n_s, va_rf_s, va_rf_n, jm_ok, jm_up_a, jm_up_up, Bool.or_true, Bool.true_or, Option.some.injEq, Value.int.injEq, Value.long.injEq, Value.ref.injEq, Sum.inr.injEq, Sum.inl.injEq, Prod.mk.injEq, List.getElem?_cons_zero, List.getElem?_cons_succ, List.length_cons, List.length_nil, List.set_cons_zero, List.set_cons_succ, jm_rf, Value.category, and_true, true_and, and_self, and_assoc, jm_p1, jm_p2, jm_k2, Nat.reduceAdd, Nat.reduceEqDiff, Nat.reduceBEq, Bool.and_false, Bool.false_and, Bool.and_true, Bool.true_and, Bool.false_eq_true, ↓reduceIte, reduceCtorEq, zero_ne_one, one_ne_zero, Nat.zero_add, beq_self_eq_true, not_true_eq_false, not_false_eq_true, jz_1, jz_0, Option.toList_some, Option.toList_none, List.cons_append, List.nil_append, implies_true, false_implies, true_implies, not_true_eq_false, not_false_eq_true, Classical.not_not]
  refine w_M_share_15 (c_M_down (d + 3) hu) (Nat.le_of_ble_eq_true rfl) ?_
  simp only [w_M_share_18, w_M_share_20, w_M_share_22, w_M_share_24, w_M_share_26, w_M_share_27, w_M_share_28, w_M_share_29, w_M_share_31, w_M_share_32, w_M_share_34, w_M_share_35, w_M_share_37, w_M_share_38, l2, l6, jx_i_s, jx_l_s, jx_a_s, jx_a_n, jx_c_s, jx_v_s, jx_g_s, jx_p_s, jx_ia_s, jx_la_s, jx_aa_s, jx_is_s, jx_ls_s, jx_sn_s, jx_sr_s, jx_n_s, va_rf_s, va_rf_n, jm_ok, jm_up_a, jm_up_up, Bool.or_true, Bool.true_or, Option.some.injEq, Value.int.injEq, Value.long.injEq, Value.ref.injEq, Sum.inr.injEq, Sum.inl.injEq, Prod.mk.injEq, List.getElem?_cons_zero, List.getElem?_cons_succ, List.length_cons, List.length_nil, List.set_cons_zero, List.set_cons_succ, jm_rf, Value.category, and_true, true_and, and_self, and_assoc, jm_p1, jm_p2, jm_k2, Nat.reduceAdd, Nat.reduceEqDiff, Nat.reduceBEq, Bool.and_false, Bool.false_and, Bool.and_true, Bool.true_and, Bool.false_eq_true, ↓reduceIte, reduceCtorEq, zero_ne_one, one_ne_zero, Nat.zero_add, beq_self_eq_true, not_true_eq_false, not_false_eq_true, jz_1, jz_0, Option.toList_some, Option.toList_none, List.cons_append, List.nil_append, implies_true, false_implies, true_implies, not_true_eq_false, not_false_eq_true, Classical.not_not]
  refine w_share (q := q) (qi := qi) (p := p) (x := x) (til := til) (u := u) hR' hu hx hq _ rfl _ rfl (dn (pt_v P na (mo_bal dy oa wt mn c cd ad k til) q (x + 1)) u.toInt64) ?_ 0 _ _ (by omega) ⟨rfl, (by simp [jm_p1, jm_p2, jm_k2, Value.category, l0]), (by simp [jm_p1, jm_p2, jm_k2, Value.category, l1]), (by simp [jm_p1, jm_p2, jm_k2, Value.category, l4]), (by simp [jm_p1, jm_p2, jm_k2, Value.category, l5]), (by simp [jm_p1, jm_p2, jm_k2, Value.category, l6]), (by simp [jm_p1, jm_p2, jm_k2, Value.category]), (by simp [jm_p1, jm_p2, jm_k2, Value.category, pt_v]), (by simp [jm_p1, jm_p2, jm_k2, Value.category, sh_m]), (by simp [jm_p1, jm_p2, jm_k2, Value.category, sh_b]), (by simp [jm_p1, jm_p2, jm_k2, Value.category, yI])⟩
  intro lv l9 l13 l15
  simp only [w_M_share_136, w_M_share_138, w_M_share_139, w_M_share_141, w_M_share_142, w_M_share_145, w_M_share_147, w_M_share_148, w_M_share_149, w_M_share_152, w_M_share_154, l9, l13, l15, lg_ge, sh, jx_i_s, jx_l_s, jx_a_s, jx_a_n, jx_c_s, jx_v_s, jx_g_s, jx_p_s, jx_ia_s, jx_la_s, jx_aa_s, jx_is_s, jx_ls_s, jx_sn_s, jx_sr_s, jx_n_s, va_rf_s, va_rf_n, jm_ok, jm_up_a, jm_up_up, Bool.or_true, Bool.true_or, Option.some.injEq, Value.int.injEq, Value.long.injEq, Value.ref.injEq, Sum.inr.injEq, Sum.inl.injEq, Prod.mk.injEq, List.getElem?_cons_zero, List.getElem?_cons_succ, List.length_cons, List.length_nil, List.set_cons_zero, List.set_cons_succ, jm_rf, Value.category, and_true, true_and, and_self, and_assoc, jm_p1, jm_p2, jm_k2, Nat.reduceAdd, Nat.reduceEqDiff, Nat.reduceBEq, Bool.and_false, Bool.false_and, Bool.and_true, Bool.true_and, Bool.false_eq_true, ↓reduceIte, reduceCtorEq, zero_ne_one, one_ne_zero, Nat.zero_add, beq_self_eq_true, not_true_eq_false, not_false_eq_true, jz_1, jz_0, Option.toList_some, Option.toList_none, List.cons_append, List.nil_append, implies_true, false_implies, true_implies, not_true_eq_false, not_false_eq_true, Classical.not_not]
  refine ⟨fun h => ?_, fun h => ?_⟩
  · rw [if_neg h]
    rfl
  · rw [if_pos h]
    rfl
end
