/-- a closing in the making, at n0 -/
def clo (n0 : Nat) (f : Nat → va_E) (dd : Int32) (A D : Nat → Int64) (g : Int64) : Nat → va_E := fun j => if j = n0 then .inr (3, [.int dd, .ref (n0 + 1), .ref (n0 + 2), .long g]) else if j = n0 + 1 then .inl (1, 24, .inr (.inl A)) else if j = n0 + 2 then .inl (1, 24, .inr (.inl D)) else f j
def rv1 (A lj : Nat → Int64) (a : Nat) (D : Nat → Int64) : Nat → Int64 := vp_updL (vp_updL D a (D a + (A a - lj a))) 5 (vp_updL D a (D a + (A a - lj a)) 5 - (A a - lj a))
def rvI (A lj : Nat → Int64) (D : Nat → Int64) : Nat → (Nat → Int64)
  | 0 => D
  | a + 1 => rv1 A lj a (rvI A lj D a)
section
variable {C : jm_C} {Q : jm_Q} {n0 k na jo tr0 d ta wa la c a kp : Nat} {f : Nat → va_E} {kd oa cm qt am par dy wt po pd pv cd : Nat → Int32} {tx cx : Nat → Option Nat} {mn P ou : Nat → Nat} {aj ad : Nat → Nat → Int64} {gn A D : Nat → Int64} {dd : Int32} {g : Int64} {dr : Value}
theorem clo_0 : clo n0 f dd A D g n0 = .inr (3, [.int dd, .ref (n0 + 1), .ref (n0 + 2), .long g]) := if_pos rfl
theorem clo_1 : clo n0 f dd A D g (n0 + 1) = .inl (1, 24, .inr (.inl A)) := by
  unfold clo
  rw [if_neg (by omega), if_pos rfl]
theorem clo_2 : clo n0 f dd A D g (n0 + 2) = .inl (1, 24, .inr (.inl D)) := by
  unfold clo
  rw [if_neg (by omega), if_neg (by omega), if_pos rfl]
theorem clo_o {j : Nat} (h : j < n0) : clo n0 f dd A D g j = f j := by
  unfold clo
  rw [if_neg (by omega), if_neg (by omega), if_neg (by omega)]
theorem clo_u1 (X : Nat → Int64) : jm_up (clo n0 f dd A D g) (n0 + 1) (.inl (1, 24, .inr (.inl X))) = clo n0 f dd X D g := by
  funext j
  rw [jm_up_a]
  unfold clo
  by_cases h : j = n0 + 1
  · rw [if_pos h, if_neg (by omega), if_pos h]
  · simp only [if_neg h]
theorem clo_u2 (X : Nat → Int64) : jm_up (clo n0 f dd A D g) (n0 + 2) (.inl (1, 24, .inr (.inl X))) = clo n0 f dd A X g := by
  funext j
  rw [jm_up_a]
  unfold clo
  by_cases h : j = n0 + 2
  · rw [if_pos h, if_neg (by omega), if_neg (by omega), if_pos h]
  · simp only [if_neg h]
theorem clo_u0 (x : Int64) : jm_up (clo n0 f dd A D g) n0 (.inr (3, [.int dd, .ref (n0 + 1), .ref (n0 + 2), .long x])) = clo n0 f dd A D x := by
  funext j
  rw [jm_up_a]
  unfold clo
  by_cases h : j = n0
  · rw [if_pos h, if_pos h]
  · simp only [if_neg h]
theorem w_revalue (hn : 61 ≤ n0) (h0 : f 0 = .inr (0, [.ref 1, .ref 5, .ref 9, .ref 13, .ref 15, .ref jo, .ref tr0, dr])) (hc1 : f 1 = .inr (1, [.ref 2, .ref 3, .ref 4, .int (nI na)])) (hna : na ≤ 24) (h13 : f 13 = .inr (4, [.ref 14, .int (nI k)])) (h14 : f 14 = .inl (2, 8, .inr (.inr (.inr (.inr cx))))) (hcl : cls n0 f cx k cd aj ad gn) (hk : k ≤ 8)
    (hq : Q none (n0 + 3, clo n0 f dd A (rvI A (fun a => if k = 0 then 0 else aj (k - 1) a) D na) g)) :
    ∀ (a : Nat) (lv : jm_L) (h : jm_H), a ≤ na → (h = (n0 + 3, clo n0 f dd A (rvI A (fun a => if k = 0 then 0 else aj (k - 1) a) D a) g) ∧ lv 0 = some (.ref 0) ∧ lv 1 = some (.ref n0) ∧ lv 2 = some (.int (nI a))) → jm_wp (jm_call (d + 1)) 27 Q (21, lv, [], h) := by
  have q0 : ∀ X, clo n0 f dd A X g 0 = .inr (0, [.ref 1, .ref 5, .ref 9, .ref 13, .ref 15, .ref jo, .ref tr0, dr]) := fun X => (clo_o (by omega)).trans h0
  have q1 : ∀ X, clo n0 f dd A X g 1 = .inr (1, [.ref 2, .ref 3, .ref 4, .int (nI na)]) := fun X => (clo_o (by omega)).trans hc1
  have q13 : ∀ X, clo n0 f dd A X g 13 = .inr (4, [.ref 14, .int (nI k)]) := fun X => (clo_o (by omega)).trans h13
  have q14 : ∀ X, clo n0 f dd A X g 14 = .inl (2, 8, .inr (.inr (.inr (.inr cx)))) := fun X => (clo_o (by omega)).trans h14
  have qc : ∀ X, cls (n0 + 3) (clo n0 f dd A X g) cx k cd aj ad gn := fun X => cls_mono (by omega) (fun j h1 h2 => clo_o h2) hcl
  refine jm_for (fun a lv h => h = (n0 + 3, clo n0 f dd A (rvI A (fun a => if k = 0 then 0 else aj (k - 1) a) D a) g) ∧ lv 0 = some (.ref 0) ∧ lv 1 = some (.ref n0) ∧ lv 2 = some (.int (nI a))) ?_ ?_
  · rintro a lv h ha ⟨rfl, l0, l1, l2⟩ ih
    rw [rvI, rv1] at ih
    generalize rvI A (fun a => if k = 0 then 0 else aj (k - 1) a) D a = X at *
    rw [w_B_revalue_21]
    simp only [w_B_revalue_22, w_B_revalue_23, w_B_revalue_26, w_B_revalue_29, w_B_revalue_32, w_B_revalue_33, w_B_revalue_36, w_B_revalue_37, w_B_revalue_38, w_B_revalue_39, w_B_revalue_42, l0, l1, l2, q0, q1, clo_0, clo_1, show 0 < n0 + 3 by omega, show 1 < n0 + 3 by omega, show n0 < n0 + 3 by omega, show n0 + 1 < n0 + 3 by omega, nI_leI (show na < 2 ^ 31 by omega) (show a < 2 ^ 31 by omega), show ¬ na ≤ a by omega, nI_clamp (show a < 2 ^ 31 by omega), vp_in_nI (show a < 24 by omega) (by decide), jx_i_s, jx_l_s, jx_a_s, jx_a_n, jx_c_s, jx_v_s, jx_g_s, jx_p_s, jx_ia_s, jx_la_s, jx_aa_s, jx_is_s, jx_ls_s, jx_sn_s, jx_sr_s, jx_n_s, va_rf_s, va_rf_n, jm_ok, jm_up_a, jm_up_up, Bool.or_true, Bool.true_or, Option.some.injEq, Value.int.injEq, Value.long.injEq, Value.ref.injEq, Sum.inr.injEq, Sum.inl.injEq, Prod.mk.injEq, List.getElem?_cons_zero, List.getElem?_cons_succ, List.length_cons, List.length_nil, List.set_cons_zero, List.set_cons_succ, jm_rf, Value.category, and_true, true_and, and_self, and_assoc, jm_p1, jm_p2, jm_k2, Nat.reduceAdd, Nat.reduceEqDiff, Nat.reduceBEq, Bool.and_false, Bool.false_and, Bool.and_true, Bool.true_and, Bool.false_eq_true, ↓reduceIte, reduceCtorEq, zero_ne_one, one_ne_zero, Nat.zero_add, beq_self_eq_true, not_true_eq_false, not_false_eq_true, jz_1, jz_0, Option.toList_some, Option.toList_none, List.cons_append, List.nil_append, implies_true, false_implies, true_implies, not_true_eq_false, not_false_eq_true, Classical.not_not]
    refine w_B_revalue_43 (c_Cs_latestAdjustment d (by omega) (q13 X) (q14 X) (qc X) hk (show a < 24 by omega)) (q13 X) (show 13 < n0 + 3 by omega) (Nat.le_of_ble_eq_true rfl) ?_
    simp only [w_B_revalue_46, w_B_revalue_47, w_B_revalue_48, w_B_revalue_49, w_B_revalue_52, w_B_revalue_53, w_B_revalue_54, w_B_revalue_55, w_B_revalue_56, w_B_revalue_57, w_B_revalue_58, w_B_revalue_59, w_B_revalue_62, w_B_revalue_63, w_B_revalue_64, w_B_revalue_65, w_B_revalue_66, w_B_revalue_67, w_B_revalue_68, w_B_revalue_71, l1, l2, clo_0, clo_2, clo_u2, show (5 : Int32) = nI 5 from rfl, show n0 < n0 + 3 by omega, show n0 + 2 < n0 + 3 by omega, nI_clamp (show a < 2 ^ 31 by omega), vp_in_nI (show a < 24 by omega) (by decide), nI_clamp (show 5 < 2 ^ 31 by omega), vp_in_nI (show 5 < 24 by omega) (by decide), jx_i_s, jx_l_s, jx_a_s, jx_a_n, jx_c_s, jx_v_s, jx_g_s, jx_p_s, jx_ia_s, jx_la_s, jx_aa_s, jx_is_s, jx_ls_s, jx_sn_s, jx_sr_s, jx_n_s, va_rf_s, va_rf_n, jm_ok, jm_up_a, jm_up_up, Bool.or_true, Bool.true_or, Option.some.injEq, Value.int.injEq, Value.long.injEq, Value.ref.injEq, Sum.inr.injEq, Sum.inl.injEq, Prod.mk.injEq, List.getElem?_cons_zero, List.getElem?_cons_succ, List.length_cons, List.length_nil, List.set_cons_zero, List.set_cons_succ, jm_rf, Value.category, and_true, true_and, and_self, and_assoc, jm_p1, jm_p2, jm_k2, Nat.reduceAdd, Nat.reduceEqDiff, Nat.reduceBEq, Bool.and_false, Bool.false_and, Bool.and_true, Bool.true_and, Bool.false_eq_true, ↓reduceIte, reduceCtorEq, zero_ne_one, one_ne_zero, Nat.zero_add, beq_self_eq_true, not_true_eq_false, not_false_eq_true, jz_1, jz_0, Option.toList_some, Option.toList_none, List.cons_append, List.nil_append, implies_true, false_implies, true_implies, not_true_eq_false, not_false_eq_true, Classical.not_not]
    exact ih _ _ ⟨rfl, (by simp [jm_p1, jm_p2, jm_k2, Value.category, l0]), (by simp [jm_p1, jm_p2, jm_k2, Value.category, l1]), (by simp [jm_p1, jm_p2, jm_k2, Value.category, nI_1])⟩
  · rintro lv h ⟨rfl, l0, l1, l2⟩
    rw [w_B_revalue_21]
    simp only [w_B_revalue_22, w_B_revalue_23, w_B_revalue_26, w_B_revalue_29, w_B_revalue_74, l0, l2, q0, q1, show 0 < n0 + 3 by omega, show 1 < n0 + 3 by omega, nI_leI (show na < 2 ^ 31 by omega) (show na < 2 ^ 31 by omega), Nat.le_refl, jx_i_s, jx_l_s, jx_a_s, jx_a_n, jx_c_s, jx_v_s, jx_g_s, jx_p_s, jx_ia_s, jx_la_s, jx_aa_s, jx_is_s, jx_ls_s, jx_sn_s, jx_sr_s, jx_n_s, va_rf_s, va_rf_n, jm_ok, jm_up_a, jm_up_up, Bool.or_true, Bool.true_or, Option.some.injEq, Value.int.injEq, Value.long.injEq, Value.ref.injEq, Sum.inr.injEq, Sum.inl.injEq, Prod.mk.injEq, List.getElem?_cons_zero, List.getElem?_cons_succ, List.length_cons, List.length_nil, List.set_cons_zero, List.set_cons_succ, jm_rf, Value.category, and_true, true_and, and_self, and_assoc, jm_p1, jm_p2, jm_k2, Nat.reduceAdd, Nat.reduceEqDiff, Nat.reduceBEq, Bool.and_false, Bool.false_and, Bool.and_true, Bool.true_and, Bool.false_eq_true, ↓reduceIte, reduceCtorEq, zero_ne_one, one_ne_zero, Nat.zero_add, beq_self_eq_true, not_true_eq_false, not_false_eq_true, jz_1, jz_0, Option.toList_some, Option.toList_none, List.cons_append, List.nil_append, implies_true, false_implies, true_implies, not_true_eq_false, not_false_eq_true, Classical.not_not]
    exact hq
end
