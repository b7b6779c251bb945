section
variable {C : jm_C} {Q : jm_Q} {f : Nat → va_E}
/-- the class's heap at the start -/
def b_start (t f : Nat → va_E) : Prop := (∀ j, 34 < j → t j = f j) ∧ t 0 = .inr (0, [.ref 1, .ref 5, .ref 9, .ref 13, .ref 15, .ref 19, .ref 27, .null]) ∧ t 1 = .inr (1, [.ref 2, .ref 3, .ref 4, .int (nI 7)]) ∧ t 2 = .inl (0, 24, .inl (upd (upd (ac_P 5) 5 3) 6 2)) ∧ t 3 = .inl (0, 24, .inl (upd (upd (ac_K 5) 5 3) 6 2)) ∧ t 4 = .inl (0, 24, .inl (fun _ => 0)) ∧ t 5 = .inr (8, [.ref 6, .ref 7, .ref 8, .int 0]) ∧ t 6 = .inl (0, 30, .inl (fun _ => 0)) ∧ t 7 = .inl (0, 30, .inl (fun _ => 0)) ∧ t 8 = .inl (0, 30, .inl (fun _ => 0)) ∧ t 9 = .inr (2, [.ref 10, .ref 11, .ref 12, .int 0]) ∧ t 10 = .inl (0, 10, .inl (fun _ => 0)) ∧ t 11 = .inl (0, 10, .inl (fun _ => 0)) ∧ t 12 = .inl (0, 10, .inl (fun _ => 0)) ∧ t 13 = .inr (4, [.ref 14, .int 0]) ∧ t 14 = .inl (2, 8, .inr (.inr (.inr (.inr (fun _ => none))))) ∧ t 15 = .inr (9, [.ref 16, .ref 17, .ref 18]) ∧ t 16 = .inl (1, 24, .inr (.inl (fun _ => 0))) ∧ t 17 = .inl (1, 24, .inr (.inl (fun _ => 0))) ∧ t 18 = .inl (1, 24, .inr (.inl (fun _ => 0))) ∧ t 19 = .inr (5, [.ref 20, .ref 21, .ref 22, .int 0]) ∧ t 20 = .inl (3, 40, .inr (.inr (.inr (.inr (fun _ => none))))) ∧ t 21 = .inl (0, 240, .inl (fun _ => 0)) ∧ t 22 = .inr (6, [.ref 23, .ref 24, .ref 25, .ref 26, .int 0]) ∧ t 23 = .inl (0, 240, .inl (fun _ => 0)) ∧ t 24 = .inl (0, 240, .inl (fun _ => 0)) ∧ t 25 = .inl (0, 240, .inl (fun _ => 0)) ∧ t 26 = .inl (0, 240, .inl (fun _ => 0)) ∧ t 27 = .inr (5, [.ref 28, .ref 29, .ref 30, .int 0]) ∧ t 28 = .inl (3, 40, .inr (.inr (.inr (.inr (fun _ => none))))) ∧ t 29 = .inl (0, 240, .inl (fun _ => 0)) ∧ t 30 = .inr (6, [.ref 31, .ref 32, .ref 33, .ref 34, .int 0]) ∧ t 31 = .inl (0, 240, .inl (fun _ => 0)) ∧ t 32 = .inl (0, 240, .inl (fun _ => 0)) ∧ t 33 = .inl (0, 240, .inl (fun _ => 0)) ∧ t 34 = .inl (0, 240, .inl (fun _ => 0))
theorem c_B_init (d : Nat) (hc : f 0 = .inr (0, [.null, .null, .null, .null, .null, .null, .null, .null])) : ∃ t, jm_call (d + 4) 0 [.ref 0] (1, f) none (35, t) ∧ b_start t f := by
  have H : ∃ r t, jm_call (d + 4) 0 [.ref 0] (1, f) r t ∧ (r = none ∧ t.1 = 35 ∧ b_start t.2 f) := by
    refine jm_call_of (Nat.le_of_ble_eq_true rfl) ?_
    have l0 : (jm_a0 (lv_args 0 [.ref 0])) 0 = some (.ref 0) := rfl
    generalize jm_a0 (lv_args 0 [.ref 0]) = lv at l0 ⊢
    rw [w_B_init_0]
    simp only [l0, jx_i_s, jx_l_s, jx_a_s, jx_a_n, jx_c_s, jx_v_s, jx_g_s, jx_p_s, jx_ia_s, jx_la_s, jx_aa_s, jx_is_s, jx_ls_s, jx_sn_s, jx_sr_s, jx_n_s, va_rf_s, va_rf_n, jm_ok, jm_up_a, jm_up_up, Bool.or_true, Bool.true_or, Option.some.injEq, Value.int.injEq, Value.long.injEq, Value.ref.injEq, Sum.inr.injEq, Sum.inl.injEq, Prod.mk.injEq, List.getElem?_cons_zero, List.getElem?_cons_succ, List.length_cons, List.length_nil, List.set_cons_zero, List.set_cons_succ, jm_rf, Value.category, and_true, true_and, and_self, and_assoc, jm_p1, jm_p2, jm_k2, Nat.reduceAdd, Nat.reduceEqDiff, Nat.reduceBEq, Bool.and_false, Bool.false_and, Bool.and_true, Bool.true_and, Bool.false_eq_true, ↓reduceIte, reduceCtorEq, zero_ne_one, one_ne_zero, Nat.zero_add, beq_self_eq_true, not_true_eq_false, not_false_eq_true, jz_1, jz_0, Option.toList_some, Option.toList_none, List.cons_append, List.nil_append, implies_true, false_implies, true_implies, not_true_eq_false, not_false_eq_true, Classical.not_not]
    refine w_B_init_1 (Nat.le_of_ble_eq_true rfl) ?_
    have z0 := hc
    have zo : ∀ j, 0 < j → f j = f j := fun _ _ => rfl
    simp only [w_B_init_4, w_B_init_5, w_B_init_8, l0, Nat.reduceLT, jx_i_s, jx_l_s, jx_a_s, jx_a_n, jx_c_s, jx_v_s, jx_g_s, jx_p_s, jx_ia_s, jx_la_s, jx_aa_s, jx_is_s, jx_ls_s, jx_sn_s, jx_sr_s, jx_n_s, va_rf_s, va_rf_n, jm_ok, jm_up_a, jm_up_up, Bool.or_true, Bool.true_or, Option.some.injEq, Value.int.injEq, Value.long.injEq, Value.ref.injEq, Sum.inr.injEq, Sum.inl.injEq, Prod.mk.injEq, List.getElem?_cons_zero, List.getElem?_cons_succ, List.length_cons, List.length_nil, List.set_cons_zero, List.set_cons_succ, jm_rf, Value.category, and_true, true_and, and_self, and_assoc, jm_p1, jm_p2, jm_k2, Nat.reduceAdd, Nat.reduceEqDiff, Nat.reduceBEq, Bool.and_false, Bool.false_and, Bool.and_true, Bool.true_and, Bool.false_eq_true, ↓reduceIte, reduceCtorEq, zero_ne_one, one_ne_zero, Nat.zero_add, beq_self_eq_true, not_true_eq_false, not_false_eq_true, jz_1, jz_0, Option.toList_some, Option.toList_none, List.cons_append, List.nil_append, implies_true, false_implies, true_implies, not_true_eq_false, not_false_eq_true, Classical.not_not]
    generalize hS : jm_up f 1 (.inr (1, [.null, .null, .null, .int 0])) = S0
    have y1 : S0 1 = .inr (1, [.null, .null, .null, .int 0]) := by rw [← hS]; exact jm_up_s _ _ _
    have yo : ∀ j, j ≠ 1 → S0 j = f j := fun j hj => by rw [← hS]; exact jm_up_n _ _ hj
    clear hS
    have ht := c_Ac_init (d + 1) (f := S0) y1
    generalize hT : ac_hp S0 (upd (upd (ac_P 5) 5 3) 6 2) (upd (upd (ac_K 5) 5 3) 6 2) (fun _ => 0) 7 = T0 at ht
    have q1 : T0 1 = .inr (1, [.ref 2, .ref 3, .ref 4, .int (nI 7)]) := by rw [← hT]; rfl
    have q2 : T0 2 = .inl (0, 24, .inl (upd (upd (ac_P 5) 5 3) 6 2)) := by rw [← hT]; rfl
    have q3 : T0 3 = .inl (0, 24, .inl (upd (upd (ac_K 5) 5 3) 6 2)) := by rw [← hT]; rfl
    have q4 : T0 4 = .inl (0, 24, .inl (fun _ => 0)) := by rw [← hT]; rfl
    have to : ∀ j, j < 1 ∨ 4 < j → T0 j = S0 j := fun j hj => by rw [← hT]; unfold ac_hp; rw [if_neg (by omega), if_neg (by omega), if_neg (by omega), if_neg (by omega)]
    clear hT
    refine w_B_init_9 ht (Nat.le_of_ble_eq_true rfl) ?_
    have x0 : T0 0 = .inr (0, [.null, .null, .null, .null, .null, .null, .null, .null]) := (to 0 (by decide)).trans ((yo 0 (by decide)).trans z0)
    simp only [w_B_init_12, x0, Nat.reduceLT, jx_i_s, jx_l_s, jx_a_s, jx_a_n, jx_c_s, jx_v_s, jx_g_s, jx_p_s, jx_ia_s, jx_la_s, jx_aa_s, jx_is_s, jx_ls_s, jx_sn_s, jx_sr_s, jx_n_s, va_rf_s, va_rf_n, jm_ok, jm_up_a, jm_up_up, Bool.or_true, Bool.true_or, Option.some.injEq, Value.int.injEq, Value.long.injEq, Value.ref.injEq, Sum.inr.injEq, Sum.inl.injEq, Prod.mk.injEq, List.getElem?_cons_zero, List.getElem?_cons_succ, List.length_cons, List.length_nil, List.set_cons_zero, List.set_cons_succ, jm_rf, Value.category, and_true, true_and, and_self, and_assoc, jm_p1, jm_p2, jm_k2, Nat.reduceAdd, Nat.reduceEqDiff, Nat.reduceBEq, Bool.and_false, Bool.false_and, Bool.and_true, Bool.true_and, Bool.false_eq_true, ↓reduceIte, reduceCtorEq, zero_ne_one, one_ne_zero, Nat.zero_add, beq_self_eq_true, not_true_eq_false, not_false_eq_true, jz_1, jz_0, Option.toList_some, Option.toList_none, List.cons_append, List.nil_append, implies_true, false_implies, true_implies, not_true_eq_false, not_false_eq_true, Classical.not_not]
    generalize hU : jm_up T0 0 (.inr (0, [.ref 1, .null, .null, .null, .null, .null, .null, .null])) = U0
    have z1 : U0 1 = .inr (1, [.ref 2, .ref 3, .ref 4, .int (nI 7)]) := (show U0 1 = T0 1 by rw [← hU]; exact jm_up_n _ _ (by decide)).trans q1
    have z2 : U0 2 = .inl (0, 24, .inl (upd (upd (ac_P 5) 5 3) 6 2)) := (show U0 2 = T0 2 by rw [← hU]; exact jm_up_n _ _ (by decide)).trans q2
    have z3 : U0 3 = .inl (0, 24, .inl (upd (upd (ac_K 5) 5 3) 6 2)) := (show U0 3 = T0 3 by rw [← hU]; exact jm_up_n _ _ (by decide)).trans q3
    have z4 : U0 4 = .inl (0, 24, .inl (fun _ => 0)) := (show U0 4 = T0 4 by rw [← hU]; exact jm_up_n _ _ (by decide)).trans q4
    have z0 : U0 0 = .inr (0, [.ref 1, .null, .null, .null, .null, .null, .null, .null]) := by rw [← hU]; exact jm_up_s _ _ _
    have zo : ∀ j, 4 < j → U0 j = f j := fun j hj => (show U0 j = T0 j by rw [← hU]; exact jm_up_n _ _ (by omega)).trans ((to j (by omega)).trans ((yo j (by omega)).trans (zo j (by omega))))
    clear hU ht to yo x0
    simp only [w_B_init_15, w_B_init_16, w_B_init_19, l0, Nat.reduceLT, jx_i_s, jx_l_s, jx_a_s, jx_a_n, jx_c_s, jx_v_s, jx_g_s, jx_p_s, jx_ia_s, jx_la_s, jx_aa_s, jx_is_s, jx_ls_s, jx_sn_s, jx_sr_s, jx_n_s, va_rf_s, va_rf_n, jm_ok, jm_up_a, jm_up_up, Bool.or_true, Bool.true_or, Option.some.injEq, Value.int.injEq, Value.long.injEq, Value.ref.injEq, Sum.inr.injEq, Sum.inl.injEq, Prod.mk.injEq, List.getElem?_cons_zero, List.getElem?_cons_succ, List.length_cons, List.length_nil, List.set_cons_zero, List.set_cons_succ, jm_rf, Value.category, and_true, true_and, and_self, and_assoc, jm_p1, jm_p2, jm_k2, Nat.reduceAdd, Nat.reduceEqDiff, Nat.reduceBEq, Bool.and_false, Bool.false_and, Bool.and_true, Bool.true_and, Bool.false_eq_true, ↓reduceIte, reduceCtorEq, zero_ne_one, one_ne_zero, Nat.zero_add, beq_self_eq_true, not_true_eq_false, not_false_eq_true, jz_1, jz_0, Option.toList_some, Option.toList_none, List.cons_append, List.nil_append, implies_true, false_implies, true_implies, not_true_eq_false, not_false_eq_true, Classical.not_not]
    generalize hS : jm_up U0 5 (.inr (8, [.null, .null, .null, .int 0])) = S1
    have y5 : S1 5 = .inr (8, [.null, .null, .null, .int 0]) := by rw [← hS]; exact jm_up_s _ _ _
    have yo : ∀ j, j ≠ 5 → S1 j = U0 j := fun j hj => by rw [← hS]; exact jm_up_n _ _ hj
    clear hS
    obtain ⟨T1, ht, to, q5, q6, q7, q8⟩ := c_Pr_init (d + 2) (f := S1) y5
    refine w_B_init_20 ht (Nat.le_of_ble_eq_true rfl) ?_
    have x0 : T1 0 = .inr (0, [.ref 1, .null, .null, .null, .null, .null, .null, .null]) := (to 0 (by decide)).trans ((yo 0 (by decide)).trans z0)
    simp only [w_B_init_23, x0, Nat.reduceLT, jx_i_s, jx_l_s, jx_a_s, jx_a_n, jx_c_s, jx_v_s, jx_g_s, jx_p_s, jx_ia_s, jx_la_s, jx_aa_s, jx_is_s, jx_ls_s, jx_sn_s, jx_sr_s, jx_n_s, va_rf_s, va_rf_n, jm_ok, jm_up_a, jm_up_up, Bool.or_true, Bool.true_or, Option.some.injEq, Value.int.injEq, Value.long.injEq, Value.ref.injEq, Sum.inr.injEq, Sum.inl.injEq, Prod.mk.injEq, List.getElem?_cons_zero, List.getElem?_cons_succ, List.length_cons, List.length_nil, List.set_cons_zero, List.set_cons_succ, jm_rf, Value.category, and_true, true_and, and_self, and_assoc, jm_p1, jm_p2, jm_k2, Nat.reduceAdd, Nat.reduceEqDiff, Nat.reduceBEq, Bool.and_false, Bool.false_and, Bool.and_true, Bool.true_and, Bool.false_eq_true, ↓reduceIte, reduceCtorEq, zero_ne_one, one_ne_zero, Nat.zero_add, beq_self_eq_true, not_true_eq_false, not_false_eq_true, jz_1, jz_0, Option.toList_some, Option.toList_none, List.cons_append, List.nil_append, implies_true, false_implies, true_implies, not_true_eq_false, not_false_eq_true, Classical.not_not]
    generalize hU : jm_up T1 0 (.inr (0, [.ref 1, .ref 5, .null, .null, .null, .null, .null, .null])) = U1
    have z1 := (show U1 1 = T1 1 by rw [← hU]; exact jm_up_n _ _ (by decide)).trans ((to 1 (by decide)).trans ((yo 1 (by decide)).trans z1))
    have z2 := (show U1 2 = T1 2 by rw [← hU]; exact jm_up_n _ _ (by decide)).trans ((to 2 (by decide)).trans ((yo 2 (by decide)).trans z2))
    have z3 := (show U1 3 = T1 3 by rw [← hU]; exact jm_up_n _ _ (by decide)).trans ((to 3 (by decide)).trans ((yo 3 (by decide)).trans z3))
    have z4 := (show U1 4 = T1 4 by rw [← hU]; exact jm_up_n _ _ (by decide)).trans ((to 4 (by decide)).trans ((yo 4 (by decide)).trans z4))
    have z5 : U1 5 = .inr (8, [.ref 6, .ref 7, .ref 8, .int 0]) := (show U1 5 = T1 5 by rw [← hU]; exact jm_up_n _ _ (by decide)).trans q5
    have z6 : U1 6 = .inl (0, 30, .inl (fun _ => 0)) := (show U1 6 = T1 6 by rw [← hU]; exact jm_up_n _ _ (by decide)).trans q6
    have z7 : U1 7 = .inl (0, 30, .inl (fun _ => 0)) := (show U1 7 = T1 7 by rw [← hU]; exact jm_up_n _ _ (by decide)).trans q7
    have z8 : U1 8 = .inl (0, 30, .inl (fun _ => 0)) := (show U1 8 = T1 8 by rw [← hU]; exact jm_up_n _ _ (by decide)).trans q8
    have z0 : U1 0 = .inr (0, [.ref 1, .ref 5, .null, .null, .null, .null, .null, .null]) := by rw [← hU]; exact jm_up_s _ _ _
    have zo : ∀ j, 8 < j → U1 j = f j := fun j hj => (show U1 j = T1 j by rw [← hU]; exact jm_up_n _ _ (by omega)).trans ((to j (by omega)).trans ((yo j (by omega)).trans (zo j (by omega))))
    clear hU ht to yo x0
    simp only [w_B_init_26, w_B_init_27, w_B_init_30, l0, Nat.reduceLT, jx_i_s, jx_l_s, jx_a_s, jx_a_n, jx_c_s, jx_v_s, jx_g_s, jx_p_s, jx_ia_s, jx_la_s, jx_aa_s, jx_is_s, jx_ls_s, jx_sn_s, jx_sr_s, jx_n_s, va_rf_s, va_rf_n, jm_ok, jm_up_a, jm_up_up, Bool.or_true, Bool.true_or, Option.some.injEq, Value.int.injEq, Value.long.injEq, Value.ref.injEq, Sum.inr.injEq, Sum.inl.injEq, Prod.mk.injEq, List.getElem?_cons_zero, List.getElem?_cons_succ, List.length_cons, List.length_nil, List.set_cons_zero, List.set_cons_succ, jm_rf, Value.category, and_true, true_and, and_self, and_assoc, jm_p1, jm_p2, jm_k2, Nat.reduceAdd, Nat.reduceEqDiff, Nat.reduceBEq, Bool.and_false, Bool.false_and, Bool.and_true, Bool.true_and, Bool.false_eq_true, ↓reduceIte, reduceCtorEq, zero_ne_one, one_ne_zero, Nat.zero_add, beq_self_eq_true, not_true_eq_false, not_false_eq_true, jz_1, jz_0, Option.toList_some, Option.toList_none, List.cons_append, List.nil_append, implies_true, false_implies, true_implies, not_true_eq_false, not_false_eq_true, Classical.not_not]
    generalize hS : jm_up U1 9 (.inr (2, [.null, .null, .null, .int 0])) = S2
    have y9 : S2 9 = .inr (2, [.null, .null, .null, .int 0]) := by rw [← hS]; exact jm_up_s _ _ _
    have yo : ∀ j, j ≠ 9 → S2 j = U1 j := fun j hj => by rw [← hS]; exact jm_up_n _ _ hj
    clear hS
    obtain ⟨T2, ht, to, q9, q10, q11, q12⟩ := c_Ch_init (d + 2) (f := S2) y9
    refine w_B_init_31 ht (Nat.le_of_ble_eq_true rfl) ?_
    have x0 : T2 0 = .inr (0, [.ref 1, .ref 5, .null, .null, .null, .null, .null, .null]) := (to 0 (by decide)).trans ((yo 0 (by decide)).trans z0)
    simp only [w_B_init_34, x0, Nat.reduceLT, jx_i_s, jx_l_s, jx_a_s, jx_a_n, jx_c_s, jx_v_s, jx_g_s, jx_p_s, jx_ia_s, jx_la_s, jx_aa_s, jx_is_s, jx_ls_s, jx_sn_s, jx_sr_s, jx_n_s, va_rf_s, va_rf_n, jm_ok, jm_up_a, jm_up_up, Bool.or_true, Bool.true_or, Option.some.injEq, Value.int.injEq, Value.long.injEq, Value.ref.injEq, Sum.inr.injEq, Sum.inl.injEq, Prod.mk.injEq, List.getElem?_cons_zero, List.getElem?_cons_succ, List.length_cons, List.length_nil, List.set_cons_zero, List.set_cons_succ, jm_rf, Value.category, and_true, true_and, and_self, and_assoc, jm_p1, jm_p2, jm_k2, Nat.reduceAdd, Nat.reduceEqDiff, Nat.reduceBEq, Bool.and_false, Bool.false_and, Bool.and_true, Bool.true_and, Bool.false_eq_true, ↓reduceIte, reduceCtorEq, zero_ne_one, one_ne_zero, Nat.zero_add, beq_self_eq_true, not_true_eq_false, not_false_eq_true, jz_1, jz_0, Option.toList_some, Option.toList_none, List.cons_append, List.nil_append, implies_true, false_implies, true_implies, not_true_eq_false, not_false_eq_true, Classical.not_not]
    generalize hU : jm_up T2 0 (.inr (0, [.ref 1, .ref 5, .ref 9, .null, .null, .null, .null, .null])) = U2
    have z1 := (show U2 1 = T2 1 by rw [← hU]; exact jm_up_n _ _ (by decide)).trans ((to 1 (by decide)).trans ((yo 1 (by decide)).trans z1))
    have z2 := (show U2 2 = T2 2 by rw [← hU]; exact jm_up_n _ _ (by decide)).trans ((to 2 (by decide)).trans ((yo 2 (by decide)).trans z2))
    have z3 := (show U2 3 = T2 3 by rw [← hU]; exact jm_up_n _ _ (by decide)).trans ((to 3 (by decide)).trans ((yo 3 (by decide)).trans z3))
    have z4 := (show U2 4 = T2 4 by rw [← hU]; exact jm_up_n _ _ (by decide)).trans ((to 4 (by decide)).trans ((yo 4 (by decide)).trans z4))
    have z5 := (show U2 5 = T2 5 by rw [← hU]; exact jm_up_n _ _ (by decide)).trans ((to 5 (by decide)).trans ((yo 5 (by decide)).trans z5))
    have z6 := (show U2 6 = T2 6 by rw [← hU]; exact jm_up_n _ _ (by decide)).trans ((to 6 (by decide)).trans ((yo 6 (by decide)).trans z6))
    have z7 := (show U2 7 = T2 7 by rw [← hU]; exact jm_up_n _ _ (by decide)).trans ((to 7 (by decide)).trans ((yo 7 (by decide)).trans z7))
    have z8 := (show U2 8 = T2 8 by rw [← hU]; exact jm_up_n _ _ (by decide)).trans ((to 8 (by decide)).trans ((yo 8 (by decide)).trans z8))
    have z9 : U2 9 = .inr (2, [.ref 10, .ref 11, .ref 12, .int 0]) := (show U2 9 = T2 9 by rw [← hU]; exact jm_up_n _ _ (by decide)).trans q9
    have z10 : U2 10 = .inl (0, 10, .inl (fun _ => 0)) := (show U2 10 = T2 10 by rw [← hU]; exact jm_up_n _ _ (by decide)).trans q10
    have z11 : U2 11 = .inl (0, 10, .inl (fun _ => 0)) := (show U2 11 = T2 11 by rw [← hU]; exact jm_up_n _ _ (by decide)).trans q11
    have z12 : U2 12 = .inl (0, 10, .inl (fun _ => 0)) := (show U2 12 = T2 12 by rw [← hU]; exact jm_up_n _ _ (by decide)).trans q12
    have z0 : U2 0 = .inr (0, [.ref 1, .ref 5, .ref 9, .null, .null, .null, .null, .null]) := by rw [← hU]; exact jm_up_s _ _ _
    have zo : ∀ j, 12 < j → U2 j = f j := fun j hj => (show U2 j = T2 j by rw [← hU]; exact jm_up_n _ _ (by omega)).trans ((to j (by omega)).trans ((yo j (by omega)).trans (zo j (by omega))))
    clear hU ht to yo x0
    simp only [w_B_init_37, w_B_init_38, w_B_init_41, l0, Nat.reduceLT, jx_i_s, jx_l_s, jx_a_s, jx_a_n, jx_c_s, jx_v_s, jx_g_s, jx_p_s, jx_ia_s, jx_la_s, jx_aa_s, jx_is_s, jx_ls_s, jx_sn_s, jx_sr_s, jx_n_s, va_rf_s, va_rf_n, jm_ok, jm_up_a, jm_up_up, Bool.or_true, Bool.true_or, Option.some.injEq, Value.int.injEq, Value.long.injEq, Value.ref.injEq, Sum.inr.injEq, Sum.inl.injEq, Prod.mk.injEq, List.getElem?_cons_zero, List.getElem?_cons_succ, List.length_cons, List.length_nil, List.set_cons_zero, List.set_cons_succ, jm_rf, Value.category, and_true, true_and, and_self, and_assoc, jm_p1, jm_p2, jm_k2, Nat.reduceAdd, Nat.reduceEqDiff, Nat.reduceBEq, Bool.and_false, Bool.false_and, Bool.and_true, Bool.true_and, Bool.false_eq_true, ↓reduceIte, reduceCtorEq, zero_ne_one, one_ne_zero, Nat.zero_add, beq_self_eq_true, not_true_eq_false, not_false_eq_true, jz_1, jz_0, Option.toList_some, Option.toList_none, List.cons_append, List.nil_append, implies_true, false_implies, true_implies, not_true_eq_false, not_false_eq_true, Classical.not_not]
    generalize hS : jm_up U2 13 (.inr (4, [.null, .int 0])) = S3
    have y13 : S3 13 = .inr (4, [.null, .int 0]) := by rw [← hS]; exact jm_up_s _ _ _
    have yo : ∀ j, j ≠ 13 → S3 j = U2 j := fun j hj => by rw [← hS]; exact jm_up_n _ _ hj
    clear hS
    obtain ⟨T3, ht, to, q13, q14⟩ := c_Cs_init (d + 2) (f := S3) y13
    refine w_B_init_42 ht (Nat.le_of_ble_eq_true rfl) ?_
    have x0 : T3 0 = .inr (0, [.ref 1, .ref 5, .ref 9, .null, .null, .null, .null, .null]) := (to 0 (by decide)).trans ((yo 0 (by decide)).trans z0)
    simp only [w_B_init_45, x0, Nat.reduceLT, jx_i_s, jx_l_s, jx_a_s, jx_a_n, jx_c_s, jx_v_s, jx_g_s, jx_p_s, jx_ia_s, jx_la_s, jx_aa_s, jx_is_s, jx_ls_s, jx_sn_s, jx_sr_s, jx_n_s, va_rf_s, va_rf_n, jm_ok, jm_up_a, jm_up_up, Bool.or_true, Bool.true_or, Option.some.injEq, Value.int.injEq, Value.long.injEq, Value.ref.injEq, Sum.inr.injEq, Sum.inl.injEq, Prod.mk.injEq, List.getElem?_cons_zero, List.getElem?_cons_succ, List.length_cons, List.length_nil, List.set_cons_zero, List.set_cons_succ, jm_rf, Value.category, and_true, true_and, and_self, and_assoc, jm_p1, jm_p2, jm_k2, Nat.reduceAdd, Nat.reduceEqDiff, Nat.reduceBEq, Bool.and_false, Bool.false_and, Bool.and_true, Bool.true_and, Bool.false_eq_true, ↓reduceIte, reduceCtorEq, zero_ne_one, one_ne_zero, Nat.zero_add, beq_self_eq_true, not_true_eq_false, not_false_eq_true, jz_1, jz_0, Option.toList_some, Option.toList_none, List.cons_append, List.nil_append, implies_true, false_implies, true_implies, not_true_eq_false, not_false_eq_true, Classical.not_not]
    generalize hU : jm_up T3 0 (.inr (0, [.ref 1, .ref 5, .ref 9, .ref 13, .null, .null, .null, .null])) = U3
    have z1 := (show U3 1 = T3 1 by rw [← hU]; exact jm_up_n _ _ (by decide)).trans ((to 1 (by decide)).trans ((yo 1 (by decide)).trans z1))
    have z2 := (show U3 2 = T3 2 by rw [← hU]; exact jm_up_n _ _ (by decide)).trans ((to 2 (by decide)).trans ((yo 2 (by decide)).trans z2))
    have z3 := (show U3 3 = T3 3 by rw [← hU]; exact jm_up_n _ _ (by decide)).trans ((to 3 (by decide)).trans ((yo 3 (by decide)).trans z3))
    have z4 := (show U3 4 = T3 4 by rw [← hU]; exact jm_up_n _ _ (by decide)).trans ((to 4 (by decide)).trans ((yo 4 (by decide)).trans z4))
    have z5 := (show U3 5 = T3 5 by rw [← hU]; exact jm_up_n _ _ (by decide)).trans ((to 5 (by decide)).trans ((yo 5 (by decide)).trans z5))
    have z6 := (show U3 6 = T3 6 by rw [← hU]; exact jm_up_n _ _ (by decide)).trans ((to 6 (by decide)).trans ((yo 6 (by decide)).trans z6))
    have z7 := (show U3 7 = T3 7 by rw [← hU]; exact jm_up_n _ _ (by decide)).trans ((to 7 (by decide)).trans ((yo 7 (by decide)).trans z7))
    have z8 := (show U3 8 = T3 8 by rw [← hU]; exact jm_up_n _ _ (by decide)).trans ((to 8 (by decide)).trans ((yo 8 (by decide)).trans z8))
    have z9 := (show U3 9 = T3 9 by rw [← hU]; exact jm_up_n _ _ (by decide)).trans ((to 9 (by decide)).trans ((yo 9 (by decide)).trans z9))
    have z10 := (show U3 10 = T3 10 by rw [← hU]; exact jm_up_n _ _ (by decide)).trans ((to 10 (by decide)).trans ((yo 10 (by decide)).trans z10))
    have z11 := (show U3 11 = T3 11 by rw [← hU]; exact jm_up_n _ _ (by decide)).trans ((to 11 (by decide)).trans ((yo 11 (by decide)).trans z11))
    have z12 := (show U3 12 = T3 12 by rw [← hU]; exact jm_up_n _ _ (by decide)).trans ((to 12 (by decide)).trans ((yo 12 (by decide)).trans z12))
    have z13 : U3 13 = .inr (4, [.ref 14, .int 0]) := (show U3 13 = T3 13 by rw [← hU]; exact jm_up_n _ _ (by decide)).trans q13
    have z14 : U3 14 = .inl (2, 8, .inr (.inr (.inr (.inr (fun _ => none))))) := (show U3 14 = T3 14 by rw [← hU]; exact jm_up_n _ _ (by decide)).trans q14
    have z0 : U3 0 = .inr (0, [.ref 1, .ref 5, .ref 9, .ref 13, .null, .null, .null, .null]) := by rw [← hU]; exact jm_up_s _ _ _
    have zo : ∀ j, 14 < j → U3 j = f j := fun j hj => (show U3 j = T3 j by rw [← hU]; exact jm_up_n _ _ (by omega)).trans ((to j (by omega)).trans ((yo j (by omega)).trans (zo j (by omega))))
    clear hU ht to yo x0
    simp only [w_B_init_48, w_B_init_49, w_B_init_52, l0, Nat.reduceLT, jx_i_s, jx_l_s, jx_a_s, jx_a_n, jx_c_s, jx_v_s, jx_g_s, jx_p_s, jx_ia_s, jx_la_s, jx_aa_s, jx_is_s, jx_ls_s, jx_sn_s, jx_sr_s, jx_n_s, va_rf_s, va_rf_n, jm_ok, jm_up_a, jm_up_up, Bool.or_true, Bool.true_or, Option.some.injEq, Value.int.injEq, Value.long.injEq, Value.ref.injEq, Sum.inr.injEq, Sum.inl.injEq, Prod.mk.injEq, List.getElem?_cons_zero, List.getElem?_cons_succ, List.length_cons, List.length_nil, List.set_cons_zero, List.set_cons_succ, jm_rf, Value.category, and_true, true_and, and_self, and_assoc, jm_p1, jm_p2, jm_k2, Nat.reduceAdd, Nat.reduceEqDiff, Nat.reduceBEq, Bool.and_false, Bool.false_and, Bool.and_true, Bool.true_and, Bool.false_eq_true, ↓reduceIte, reduceCtorEq, zero_ne_one, one_ne_zero, Nat.zero_add, beq_self_eq_true, not_true_eq_false, not_false_eq_true, jz_1, jz_0, Option.toList_some, Option.toList_none, List.cons_append, List.nil_append, implies_true, false_implies, true_implies, not_true_eq_false, not_false_eq_true, Classical.not_not]
    generalize hS : jm_up U3 15 (.inr (9, [.null, .null, .null])) = S4
    have y15 : S4 15 = .inr (9, [.null, .null, .null]) := by rw [← hS]; exact jm_up_s _ _ _
    have yo : ∀ j, j ≠ 15 → S4 j = U3 j := fun j hj => by rw [← hS]; exact jm_up_n _ _ hj
    clear hS
    obtain ⟨T4, ht, to, q15, q16, q17, q18⟩ := c_St_init (d + 2) (f := S4) y15
    refine w_B_init_53 ht (Nat.le_of_ble_eq_true rfl) ?_
    have x0 : T4 0 = .inr (0, [.ref 1, .ref 5, .ref 9, .ref 13, .null, .null, .null, .null]) := (to 0 (by decide)).trans ((yo 0 (by decide)).trans z0)
    simp only [w_B_init_56, x0, Nat.reduceLT, jx_i_s, jx_l_s, jx_a_s, jx_a_n, jx_c_s, jx_v_s, jx_g_s, jx_p_s, jx_ia_s, jx_la_s, jx_aa_s, jx_is_s, jx_ls_s, jx_sn_s, jx_sr_s, jx_n_s, va_rf_s, va_rf_n, jm_ok, jm_up_a, jm_up_up, Bool.or_true, Bool.true_or, Option.some.injEq, Value.int.injEq, Value.long.injEq, Value.ref.injEq, Sum.inr.injEq, Sum.inl.injEq, Prod.mk.injEq, List.getElem?_cons_zero, List.getElem?_cons_succ, List.length_cons, List.length_nil, List.set_cons_zero, List.set_cons_succ, jm_rf, Value.category, and_true, true_and, and_self, and_assoc, jm_p1, jm_p2, jm_k2, Nat.reduceAdd, Nat.reduceEqDiff, Nat.reduceBEq, Bool.and_false, Bool.false_and, Bool.and_true, Bool.true_and, Bool.false_eq_true, ↓reduceIte, reduceCtorEq, zero_ne_one, one_ne_zero, Nat.zero_add, beq_self_eq_true, not_true_eq_false, not_false_eq_true, jz_1, jz_0, Option.toList_some, Option.toList_none, List.cons_append, List.nil_append, implies_true, false_implies, true_implies, not_true_eq_false, not_false_eq_true, Classical.not_not]
    generalize hU : jm_up T4 0 (.inr (0, [.ref 1, .ref 5, .ref 9, .ref 13, .ref 15, .null, .null, .null])) = U4
    have z1 := (show U4 1 = T4 1 by rw [← hU]; exact jm_up_n _ _ (by decide)).trans ((to 1 (by decide)).trans ((yo 1 (by decide)).trans z1))
    have z2 := (show U4 2 = T4 2 by rw [← hU]; exact jm_up_n _ _ (by decide)).trans ((to 2 (by decide)).trans ((yo 2 (by decide)).trans z2))
    have z3 := (show U4 3 = T4 3 by rw [← hU]; exact jm_up_n _ _ (by decide)).trans ((to 3 (by decide)).trans ((yo 3 (by decide)).trans z3))
    have z4 := (show U4 4 = T4 4 by rw [← hU]; exact jm_up_n _ _ (by decide)).trans ((to 4 (by decide)).trans ((yo 4 (by decide)).trans z4))
    have z5 := (show U4 5 = T4 5 by rw [← hU]; exact jm_up_n _ _ (by decide)).trans ((to 5 (by decide)).trans ((yo 5 (by decide)).trans z5))
    have z6 := (show U4 6 = T4 6 by rw [← hU]; exact jm_up_n _ _ (by decide)).trans ((to 6 (by decide)).trans ((yo 6 (by decide)).trans z6))
    have z7 := (show U4 7 = T4 7 by rw [← hU]; exact jm_up_n _ _ (by decide)).trans ((to 7 (by decide)).trans ((yo 7 (by decide)).trans z7))
    have z8 := (show U4 8 = T4 8 by rw [← hU]; exact jm_up_n _ _ (by decide)).trans ((to 8 (by decide)).trans ((yo 8 (by decide)).trans z8))
    have z9 := (show U4 9 = T4 9 by rw [← hU]; exact jm_up_n _ _ (by decide)).trans ((to 9 (by decide)).trans ((yo 9 (by decide)).trans z9))
    have z10 := (show U4 10 = T4 10 by rw [← hU]; exact jm_up_n _ _ (by decide)).trans ((to 10 (by decide)).trans ((yo 10 (by decide)).trans z10))
    have z11 := (show U4 11 = T4 11 by rw [← hU]; exact jm_up_n _ _ (by decide)).trans ((to 11 (by decide)).trans ((yo 11 (by decide)).trans z11))
    have z12 := (show U4 12 = T4 12 by rw [← hU]; exact jm_up_n _ _ (by decide)).trans ((to 12 (by decide)).trans ((yo 12 (by decide)).trans z12))
    have z13 := (show U4 13 = T4 13 by rw [← hU]; exact jm_up_n _ _ (by decide)).trans ((to 13 (by decide)).trans ((yo 13 (by decide)).trans z13))
    have z14 := (show U4 14 = T4 14 by rw [← hU]; exact jm_up_n _ _ (by decide)).trans ((to 14 (by decide)).trans ((yo 14 (by decide)).trans z14))
    have z15 : U4 15 = .inr (9, [.ref 16, .ref 17, .ref 18]) := (show U4 15 = T4 15 by rw [← hU]; exact jm_up_n _ _ (by decide)).trans q15
    have z16 : U4 16 = .inl (1, 24, .inr (.inl (fun _ => 0))) := (show U4 16 = T4 16 by rw [← hU]; exact jm_up_n _ _ (by decide)).trans q16
    have z17 : U4 17 = .inl (1, 24, .inr (.inl (fun _ => 0))) := (show U4 17 = T4 17 by rw [← hU]; exact jm_up_n _ _ (by decide)).trans q17
    have z18 : U4 18 = .inl (1, 24, .inr (.inl (fun _ => 0))) := (show U4 18 = T4 18 by rw [← hU]; exact jm_up_n _ _ (by decide)).trans q18
    have z0 : U4 0 = .inr (0, [.ref 1, .ref 5, .ref 9, .ref 13, .ref 15, .null, .null, .null]) := by rw [← hU]; exact jm_up_s _ _ _
    have zo : ∀ j, 18 < j → U4 j = f j := fun j hj => (show U4 j = T4 j by rw [← hU]; exact jm_up_n _ _ (by omega)).trans ((to j (by omega)).trans ((yo j (by omega)).trans (zo j (by omega))))
    clear hU ht to yo x0
    simp only [w_B_init_59, w_B_init_60, w_B_init_63, l0, Nat.reduceLT, jx_i_s, jx_l_s, jx_a_s, jx_a_n, jx_c_s, jx_v_s, jx_g_s, jx_p_s, jx_ia_s, jx_la_s, jx_aa_s, jx_is_s, jx_ls_s, jx_sn_s, jx_sr_s, jx_n_s, va_rf_s, va_rf_n, jm_ok, jm_up_a, jm_up_up, Bool.or_true, Bool.true_or, Option.some.injEq, Value.int.injEq, Value.long.injEq, Value.ref.injEq, Sum.inr.injEq, Sum.inl.injEq, Prod.mk.injEq, List.getElem?_cons_zero, List.getElem?_cons_succ, List.length_cons, List.length_nil, List.set_cons_zero, List.set_cons_succ, jm_rf, Value.category, and_true, true_and, and_self, and_assoc, jm_p1, jm_p2, jm_k2, Nat.reduceAdd, Nat.reduceEqDiff, Nat.reduceBEq, Bool.and_false, Bool.false_and, Bool.and_true, Bool.true_and, Bool.false_eq_true, ↓reduceIte, reduceCtorEq, zero_ne_one, one_ne_zero, Nat.zero_add, beq_self_eq_true, not_true_eq_false, not_false_eq_true, jz_1, jz_0, Option.toList_some, Option.toList_none, List.cons_append, List.nil_append, implies_true, false_implies, true_implies, not_true_eq_false, not_false_eq_true, Classical.not_not]
    generalize hS : jm_up U4 19 (.inr (5, [.null, .null, .null, .int 0])) = S5
    have y19 : S5 19 = .inr (5, [.null, .null, .null, .int 0]) := by rw [← hS]; exact jm_up_s _ _ _
    have yo : ∀ j, j ≠ 19 → S5 j = U4 j := fun j hj => by rw [← hS]; exact jm_up_n _ _ hj
    clear hS
    obtain ⟨T5, ht, to, q19, q20, q21, q22, q23, q24, q25, q26⟩ := c_Jo_init_19 (d + 1) (f := S5) y19
    refine w_B_init_64 ht (Nat.le_of_ble_eq_true rfl) ?_
    have x0 : T5 0 = .inr (0, [.ref 1, .ref 5, .ref 9, .ref 13, .ref 15, .null, .null, .null]) := (to 0 (by decide)).trans ((yo 0 (by decide)).trans z0)
    simp only [w_B_init_67, x0, Nat.reduceLT, jx_i_s, jx_l_s, jx_a_s, jx_a_n, jx_c_s, jx_v_s, jx_g_s, jx_p_s, jx_ia_s, jx_la_s, jx_aa_s, jx_is_s, jx_ls_s, jx_sn_s, jx_sr_s, jx_n_s, va_rf_s, va_rf_n, jm_ok, jm_up_a, jm_up_up, Bool.or_true, Bool.true_or, Option.some.injEq, Value.int.injEq, Value.long.injEq, Value.ref.injEq, Sum.inr.injEq, Sum.inl.injEq, Prod.mk.injEq, List.getElem?_cons_zero, List.getElem?_cons_succ, List.length_cons, List.length_nil, List.set_cons_zero, List.set_cons_succ, jm_rf, Value.category, and_true, true_and, and_self, and_assoc, jm_p1, jm_p2, jm_k2, Nat.reduceAdd, Nat.reduceEqDiff, Nat.reduceBEq, Bool.and_false, Bool.false_and, Bool.and_true, Bool.true_and, Bool.false_eq_true, ↓reduceIte, reduceCtorEq, zero_ne_one, one_ne_zero, Nat.zero_add, beq_self_eq_true, not_true_eq_false, not_false_eq_true, jz_1, jz_0, Option.toList_some, Option.toList_none, List.cons_append, List.nil_append, implies_true, false_implies, true_implies, not_true_eq_false, not_false_eq_true, Classical.not_not]
    generalize hU : jm_up T5 0 (.inr (0, [.ref 1, .ref 5, .ref 9, .ref 13, .ref 15, .ref 19, .null, .null])) = U5
    have z1 := (show U5 1 = T5 1 by rw [← hU]; exact jm_up_n _ _ (by decide)).trans ((to 1 (by decide)).trans ((yo 1 (by decide)).trans z1))
    have z2 := (show U5 2 = T5 2 by rw [← hU]; exact jm_up_n _ _ (by decide)).trans ((to 2 (by decide)).trans ((yo 2 (by decide)).trans z2))
    have z3 := (show U5 3 = T5 3 by rw [← hU]; exact jm_up_n _ _ (by decide)).trans ((to 3 (by decide)).trans ((yo 3 (by decide)).trans z3))
    have z4 := (show U5 4 = T5 4 by rw [← hU]; exact jm_up_n _ _ (by decide)).trans ((to 4 (by decide)).trans ((yo 4 (by decide)).trans z4))
    have z5 := (show U5 5 = T5 5 by rw [← hU]; exact jm_up_n _ _ (by decide)).trans ((to 5 (by decide)).trans ((yo 5 (by decide)).trans z5))
    have z6 := (show U5 6 = T5 6 by rw [← hU]; exact jm_up_n _ _ (by decide)).trans ((to 6 (by decide)).trans ((yo 6 (by decide)).trans z6))
    have z7 := (show U5 7 = T5 7 by rw [← hU]; exact jm_up_n _ _ (by decide)).trans ((to 7 (by decide)).trans ((yo 7 (by decide)).trans z7))
    have z8 := (show U5 8 = T5 8 by rw [← hU]; exact jm_up_n _ _ (by decide)).trans ((to 8 (by decide)).trans ((yo 8 (by decide)).trans z8))
    have z9 := (show U5 9 = T5 9 by rw [← hU]; exact jm_up_n _ _ (by decide)).trans ((to 9 (by decide)).trans ((yo 9 (by decide)).trans z9))
    have z10 := (show U5 10 = T5 10 by rw [← hU]; exact jm_up_n _ _ (by decide)).trans ((to 10 (by decide)).trans ((yo 10 (by decide)).trans z10))
    have z11 := (show U5 11 = T5 11 by rw [← hU]; exact jm_up_n _ _ (by decide)).trans ((to 11 (by decide)).trans ((yo 11 (by decide)).trans z11))
    have z12 := (show U5 12 = T5 12 by rw [← hU]; exact jm_up_n _ _ (by decide)).trans ((to 12 (by decide)).trans ((yo 12 (by decide)).trans z12))
    have z13 := (show U5 13 = T5 13 by rw [← hU]; exact jm_up_n _ _ (by decide)).trans ((to 13 (by decide)).trans ((yo 13 (by decide)).trans z13))
    have z14 := (show U5 14 = T5 14 by rw [← hU]; exact jm_up_n _ _ (by decide)).trans ((to 14 (by decide)).trans ((yo 14 (by decide)).trans z14))
    have z15 := (show U5 15 = T5 15 by rw [← hU]; exact jm_up_n _ _ (by decide)).trans ((to 15 (by decide)).trans ((yo 15 (by decide)).trans z15))
    have z16 := (show U5 16 = T5 16 by rw [← hU]; exact jm_up_n _ _ (by decide)).trans ((to 16 (by decide)).trans ((yo 16 (by decide)).trans z16))
    have z17 := (show U5 17 = T5 17 by rw [← hU]; exact jm_up_n _ _ (by decide)).trans ((to 17 (by decide)).trans ((yo 17 (by decide)).trans z17))
    have z18 := (show U5 18 = T5 18 by rw [← hU]; exact jm_up_n _ _ (by decide)).trans ((to 18 (by decide)).trans ((yo 18 (by decide)).trans z18))
    have z19 : U5 19 = .inr (5, [.ref 20, .ref 21, .ref 22, .int 0]) := (show U5 19 = T5 19 by rw [← hU]; exact jm_up_n _ _ (by decide)).trans q19
    have z20 : U5 20 = .inl (3, 40, .inr (.inr (.inr (.inr (fun _ => none))))) := (show U5 20 = T5 20 by rw [← hU]; exact jm_up_n _ _ (by decide)).trans q20
    have z21 : U5 21 = .inl (0, 240, .inl (fun _ => 0)) := (show U5 21 = T5 21 by rw [← hU]; exact jm_up_n _ _ (by decide)).trans q21
    have z22 : U5 22 = .inr (6, [.ref 23, .ref 24, .ref 25, .ref 26, .int 0]) := (show U5 22 = T5 22 by rw [← hU]; exact jm_up_n _ _ (by decide)).trans q22
    have z23 : U5 23 = .inl (0, 240, .inl (fun _ => 0)) := (show U5 23 = T5 23 by rw [← hU]; exact jm_up_n _ _ (by decide)).trans q23
    have z24 : U5 24 = .inl (0, 240, .inl (fun _ => 0)) := (show U5 24 = T5 24 by rw [← hU]; exact jm_up_n _ _ (by decide)).trans q24
    have z25 : U5 25 = .inl (0, 240, .inl (fun _ => 0)) := (show U5 25 = T5 25 by rw [← hU]; exact jm_up_n _ _ (by decide)).trans q25
    have z26 : U5 26 = .inl (0, 240, .inl (fun _ => 0)) := (show U5 26 = T5 26 by rw [← hU]; exact jm_up_n _ _ (by decide)).trans q26
    have z0 : U5 0 = .inr (0, [.ref 1, .ref 5, .ref 9, .ref 13, .ref 15, .ref 19, .null, .null]) := by rw [← hU]; exact jm_up_s _ _ _
    have zo : ∀ j, 26 < j → U5 j = f j := fun j hj => (show U5 j = T5 j by rw [← hU]; exact jm_up_n _ _ (by omega)).trans ((to j (by omega)).trans ((yo j (by omega)).trans (zo j (by omega))))
    clear hU ht to yo x0
    simp only [w_B_init_70, w_B_init_71, w_B_init_74, l0, Nat.reduceLT, jx_i_s, jx_l_s, jx_a_s, jx_a_n, jx_c_s, jx_v_s, jx_g_s, jx_p_s, jx_ia_s, jx_la_s, jx_aa_s, jx_is_s, jx_ls_s, jx_sn_s, jx_sr_s, jx_n_s, va_rf_s, va_rf_n, jm_ok, jm_up_a, jm_up_up, Bool.or_true, Bool.true_or, Option.some.injEq, Value.int.injEq, Value.long.injEq, Value.ref.injEq, Sum.inr.injEq, Sum.inl.injEq, Prod.mk.injEq, List.getElem?_cons_zero, List.getElem?_cons_succ, List.length_cons, List.length_nil, List.set_cons_zero, List.set_cons_succ, jm_rf, Value.category, and_true, true_and, and_self, and_assoc, jm_p1, jm_p2, jm_k2, Nat.reduceAdd, Nat.reduceEqDiff, Nat.reduceBEq, Bool.and_false, Bool.false_and, Bool.and_true, Bool.true_and, Bool.false_eq_true, ↓reduceIte, reduceCtorEq, zero_ne_one, one_ne_zero, Nat.zero_add, beq_self_eq_true, not_true_eq_false, not_false_eq_true, jz_1, jz_0, Option.toList_some, Option.toList_none, List.cons_append, List.nil_append, implies_true, false_implies, true_implies, not_true_eq_false, not_false_eq_true, Classical.not_not]
    generalize hS : jm_up U5 27 (.inr (5, [.null, .null, .null, .int 0])) = S6
    have y27 : S6 27 = .inr (5, [.null, .null, .null, .int 0]) := by rw [← hS]; exact jm_up_s _ _ _
    have yo : ∀ j, j ≠ 27 → S6 j = U5 j := fun j hj => by rw [← hS]; exact jm_up_n _ _ hj
    clear hS
    obtain ⟨T6, ht, to, q27, q28, q29, q30, q31, q32, q33, q34⟩ := c_Jo_init_27 (d + 1) (f := S6) y27
    refine w_B_init_75 ht (Nat.le_of_ble_eq_true rfl) ?_
    have x0 : T6 0 = .inr (0, [.ref 1, .ref 5, .ref 9, .ref 13, .ref 15, .ref 19, .null, .null]) := (to 0 (by decide)).trans ((yo 0 (by decide)).trans z0)
    simp only [w_B_init_78, x0, Nat.reduceLT, jx_i_s, jx_l_s, jx_a_s, jx_a_n, jx_c_s, jx_v_s, jx_g_s, jx_p_s, jx_ia_s, jx_la_s, jx_aa_s, jx_is_s, jx_ls_s, jx_sn_s, jx_sr_s, jx_n_s, va_rf_s, va_rf_n, jm_ok, jm_up_a, jm_up_up, Bool.or_true, Bool.true_or, Option.some.injEq, Value.int.injEq, Value.long.injEq, Value.ref.injEq, Sum.inr.injEq, Sum.inl.injEq, Prod.mk.injEq, List.getElem?_cons_zero, List.getElem?_cons_succ, List.length_cons, List.length_nil, List.set_cons_zero, List.set_cons_succ, jm_rf, Value.category, and_true, true_and, and_self, and_assoc, jm_p1, jm_p2, jm_k2, Nat.reduceAdd, Nat.reduceEqDiff, Nat.reduceBEq, Bool.and_false, Bool.false_and, Bool.and_true, Bool.true_and, Bool.false_eq_true, ↓reduceIte, reduceCtorEq, zero_ne_one, one_ne_zero, Nat.zero_add, beq_self_eq_true, not_true_eq_false, not_false_eq_true, jz_1, jz_0, Option.toList_some, Option.toList_none, List.cons_append, List.nil_append, implies_true, false_implies, true_implies, not_true_eq_false, not_false_eq_true, Classical.not_not]
    generalize hU : jm_up T6 0 (.inr (0, [.ref 1, .ref 5, .ref 9, .ref 13, .ref 15, .ref 19, .ref 27, .null])) = U6
    have z1 := (show U6 1 = T6 1 by rw [← hU]; exact jm_up_n _ _ (by decide)).trans ((to 1 (by decide)).trans ((yo 1 (by decide)).trans z1))
    have z2 := (show U6 2 = T6 2 by rw [← hU]; exact jm_up_n _ _ (by decide)).trans ((to 2 (by decide)).trans ((yo 2 (by decide)).trans z2))
    have z3 := (show U6 3 = T6 3 by rw [← hU]; exact jm_up_n _ _ (by decide)).trans ((to 3 (by decide)).trans ((yo 3 (by decide)).trans z3))
    have z4 := (show U6 4 = T6 4 by rw [← hU]; exact jm_up_n _ _ (by decide)).trans ((to 4 (by decide)).trans ((yo 4 (by decide)).trans z4))
    have z5 := (show U6 5 = T6 5 by rw [← hU]; exact jm_up_n _ _ (by decide)).trans ((to 5 (by decide)).trans ((yo 5 (by decide)).trans z5))
    have z6 := (show U6 6 = T6 6 by rw [← hU]; exact jm_up_n _ _ (by decide)).trans ((to 6 (by decide)).trans ((yo 6 (by decide)).trans z6))
    have z7 := (show U6 7 = T6 7 by rw [← hU]; exact jm_up_n _ _ (by decide)).trans ((to 7 (by decide)).trans ((yo 7 (by decide)).trans z7))
    have z8 := (show U6 8 = T6 8 by rw [← hU]; exact jm_up_n _ _ (by decide)).trans ((to 8 (by decide)).trans ((yo 8 (by decide)).trans z8))
    have z9 := (show U6 9 = T6 9 by rw [← hU]; exact jm_up_n _ _ (by decide)).trans ((to 9 (by decide)).trans ((yo 9 (by decide)).trans z9))
    have z10 := (show U6 10 = T6 10 by rw [← hU]; exact jm_up_n _ _ (by decide)).trans ((to 10 (by decide)).trans ((yo 10 (by decide)).trans z10))
    have z11 := (show U6 11 = T6 11 by rw [← hU]; exact jm_up_n _ _ (by decide)).trans ((to 11 (by decide)).trans ((yo 11 (by decide)).trans z11))
    have z12 := (show U6 12 = T6 12 by rw [← hU]; exact jm_up_n _ _ (by decide)).trans ((to 12 (by decide)).trans ((yo 12 (by decide)).trans z12))
    have z13 := (show U6 13 = T6 13 by rw [← hU]; exact jm_up_n _ _ (by decide)).trans ((to 13 (by decide)).trans ((yo 13 (by decide)).trans z13))
    have z14 := (show U6 14 = T6 14 by rw [← hU]; exact jm_up_n _ _ (by decide)).trans ((to 14 (by decide)).trans ((yo 14 (by decide)).trans z14))
    have z15 := (show U6 15 = T6 15 by rw [← hU]; exact jm_up_n _ _ (by decide)).trans ((to 15 (by decide)).trans ((yo 15 (by decide)).trans z15))
    have z16 := (show U6 16 = T6 16 by rw [← hU]; exact jm_up_n _ _ (by decide)).trans ((to 16 (by decide)).trans ((yo 16 (by decide)).trans z16))
    have z17 := (show U6 17 = T6 17 by rw [← hU]; exact jm_up_n _ _ (by decide)).trans ((to 17 (by decide)).trans ((yo 17 (by decide)).trans z17))
    have z18 := (show U6 18 = T6 18 by rw [← hU]; exact jm_up_n _ _ (by decide)).trans ((to 18 (by decide)).trans ((yo 18 (by decide)).trans z18))
    have z19 := (show U6 19 = T6 19 by rw [← hU]; exact jm_up_n _ _ (by decide)).trans ((to 19 (by decide)).trans ((yo 19 (by decide)).trans z19))
    have z20 := (show U6 20 = T6 20 by rw [← hU]; exact jm_up_n _ _ (by decide)).trans ((to 20 (by decide)).trans ((yo 20 (by decide)).trans z20))
    have z21 := (show U6 21 = T6 21 by rw [← hU]; exact jm_up_n _ _ (by decide)).trans ((to 21 (by decide)).trans ((yo 21 (by decide)).trans z21))
    have z22 := (show U6 22 = T6 22 by rw [← hU]; exact jm_up_n _ _ (by decide)).trans ((to 22 (by decide)).trans ((yo 22 (by decide)).trans z22))
    have z23 := (show U6 23 = T6 23 by rw [← hU]; exact jm_up_n _ _ (by decide)).trans ((to 23 (by decide)).trans ((yo 23 (by decide)).trans z23))
    have z24 := (show U6 24 = T6 24 by rw [← hU]; exact jm_up_n _ _ (by decide)).trans ((to 24 (by decide)).trans ((yo 24 (by decide)).trans z24))
    have z25 := (show U6 25 = T6 25 by rw [← hU]; exact jm_up_n _ _ (by decide)).trans ((to 25 (by decide)).trans ((yo 25 (by decide)).trans z25))
    have z26 := (show U6 26 = T6 26 by rw [← hU]; exact jm_up_n _ _ (by decide)).trans ((to 26 (by decide)).trans ((yo 26 (by decide)).trans z26))
    have z27 : U6 27 = .inr (5, [.ref 28, .ref 29, .ref 30, .int 0]) := (show U6 27 = T6 27 by rw [← hU]; exact jm_up_n _ _ (by decide)).trans q27
    have z28 : U6 28 = .inl (3, 40, .inr (.inr (.inr (.inr (fun _ => none))))) := (show U6 28 = T6 28 by rw [← hU]; exact jm_up_n _ _ (by decide)).trans q28
    have z29 : U6 29 = .inl (0, 240, .inl (fun _ => 0)) := (show U6 29 = T6 29 by rw [← hU]; exact jm_up_n _ _ (by decide)).trans q29
    have z30 : U6 30 = .inr (6, [.ref 31, .ref 32, .ref 33, .ref 34, .int 0]) := (show U6 30 = T6 30 by rw [← hU]; exact jm_up_n _ _ (by decide)).trans q30
    have z31 : U6 31 = .inl (0, 240, .inl (fun _ => 0)) := (show U6 31 = T6 31 by rw [← hU]; exact jm_up_n _ _ (by decide)).trans q31
    have z32 : U6 32 = .inl (0, 240, .inl (fun _ => 0)) := (show U6 32 = T6 32 by rw [← hU]; exact jm_up_n _ _ (by decide)).trans q32
    have z33 : U6 33 = .inl (0, 240, .inl (fun _ => 0)) := (show U6 33 = T6 33 by rw [← hU]; exact jm_up_n _ _ (by decide)).trans q33
    have z34 : U6 34 = .inl (0, 240, .inl (fun _ => 0)) := (show U6 34 = T6 34 by rw [← hU]; exact jm_up_n _ _ (by decide)).trans q34
    have z0 : U6 0 = .inr (0, [.ref 1, .ref 5, .ref 9, .ref 13, .ref 15, .ref 19, .ref 27, .null]) := by rw [← hU]; exact jm_up_s _ _ _
    have zo : ∀ j, 34 < j → U6 j = f j := fun j hj => (show U6 j = T6 j by rw [← hU]; exact jm_up_n _ _ (by omega)).trans ((to j (by omega)).trans ((yo j (by omega)).trans (zo j (by omega))))
    clear hU ht to yo x0
    simp only [w_B_init_81, w_B_init_82, w_B_init_83, w_B_init_86, l0, z0, Nat.reduceLT, jx_i_s, jx_l_s, jx_a_s, jx_a_n, jx_c_s, jx_v_s, jx_g_s, jx_p_s, jx_ia_s, jx_la_s, jx_aa_s, jx_is_s, jx_ls_s, jx_sn_s, jx_sr_s, jx_n_s, va_rf_s, va_rf_n, jm_ok, jm_up_a, jm_up_up, Bool.or_true, Bool.true_or, Option.some.injEq, Value.int.injEq, Value.long.injEq, Value.ref.injEq, Sum.inr.injEq, Sum.inl.injEq, Prod.mk.injEq, List.getElem?_cons_zero, List.getElem?_cons_succ, List.length_cons, List.length_nil, List.set_cons_zero, List.set_cons_succ, jm_rf, Value.category, and_true, true_and, and_self, and_assoc, jm_p1, jm_p2, jm_k2, Nat.reduceAdd, Nat.reduceEqDiff, Nat.reduceBEq, Bool.and_false, Bool.false_and, Bool.and_true, Bool.true_and, Bool.false_eq_true, ↓reduceIte, reduceCtorEq, zero_ne_one, one_ne_zero, Nat.zero_add, beq_self_eq_true, not_true_eq_false, not_false_eq_true, jz_1, jz_0, Option.toList_some, Option.toList_none, List.cons_append, List.nil_append, implies_true, false_implies, true_implies, not_true_eq_false, not_false_eq_true, Classical.not_not]
    have e0 : jm_up U6 0 (.inr (0, [.ref 1, .ref 5, .ref 9, .ref 13, .ref 15, .ref 19, .ref 27, .null])) = U6 := up_id z0
    rw [e0]
    exact ⟨zo, z0, z1, z2, z3, z4, z5, z6, z7, z8, z9, z10, z11, z12, z13, z14, z15, z16, z17, z18, z19, z20, z21, z22, z23, z24, z25, z26, z27, z28, z29, z30, z31, z32, z33, z34⟩
  obtain ⟨r, ⟨n', t⟩, h1, rfl, rfl, h2⟩ := H
  exact ⟨t, h1, h2⟩
end
