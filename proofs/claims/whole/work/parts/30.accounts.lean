theorem jm_up_up (f : Nat → va_E) (i : Nat) (x y : va_E) : jm_up (jm_up f i x) i y = jm_up f i y := by
  funext j
  unfold jm_up
  by_cases h : j = i <;> simp [h]
theorem jm_up_a (f : Nat → va_E) (i j : Nat) (x : va_E) : jm_up f i x j = if j = i then x else f j := rfl
theorem jz_1 : narrow .boolean (.int 1) = .int 1 := rfl
theorem jz_0 : narrow .boolean (.int 0) = .int 0 := rfl
theorem zero_ne_one : ¬ (0 : Nat) = 1 := by decide
theorem one_ne_zero : ¬ (1 : Nat) = 0 := by decide
/-- a truth value as an int -/
def b2i (b : Bool) : Int32 := if b = true then 1 else 0
theorem b2i_t : b2i true = 1 := rfl
theorem b2i_f : b2i false = 0 := rfl
theorem b2i_n (b : Bool) : narrow .boolean (.int (b2i b)) = .int (b2i b) := by cases b <;> rfl
theorem nI_m1 {a : Nat} (h : a < 2 ^ 31) : ¬ (-1 : Int32) = nI a := fun e => by
  have h1 := congrArg Int32.toInt e
  rw [nI_toInt h] at h1
  have h2 : (-1 : Int32).toInt = -1 := by decide
  omega
theorem nI_m1le {a : Nat} (h : a < 2 ^ 31) : (-1 : Int32) ≤ nI a := by
  rw [Int32.le_iff_toInt_le, nI_toInt h]
  have h2 : (-1 : Int32).toInt = -1 := by decide
  omega
theorem nI_m1nle {a : Nat} (h : a < 2 ^ 31) : ¬ nI a ≤ (-1 : Int32) := by
  rw [Int32.le_iff_toInt_le, nI_toInt h]
  have h2 : (-1 : Int32).toInt = -1 := by decide
  omega
theorem m1_neg : (-1 : Int32) < 0 := by decide
/-- Accounts.has -/
theorem c_Ac_has (d : Nat) {n a : Nat} {f : Nat → va_E} {x sz : Int32} {p k u : Value} (ha : a < n) (hc : f a = .inr (1, [p, k, u, .int sz])) : jm_call (d + 1) 31 [.ref a, .int x] (n, f) (some (.int (b2i (decide (0 ≤ x ∧ x < sz))))) (n, f) := by
  refine ⟨Nat.le_of_ble_eq_true rfl, ?_⟩
  have h0 : (jm_a0 (lv_args 0 [.ref a, .int x])) 0 = some (.ref a) := rfl
  have h1 : (jm_a0 (lv_args 0 [.ref a, .int x])) 1 = some (.int x) := rfl
  generalize jm_a0 (lv_args 0 [.ref a, .int x]) = lv at h0 h1 ⊢
  simp only [w_Ac_has_0, w_Ac_has_1, w_Ac_has_2, w_Ac_has_5, w_Ac_has_6, w_Ac_has_7, w_Ac_has_10, w_Ac_has_13, w_Ac_has_14, w_Ac_has_17, w_Ac_has_18, h0, h1, hc, ha, b2i, decide_eq_true_eq, jx_i_s, jx_l_s, jx_a_s, jx_a_n, jx_c_s, jx_v_s, jx_g_s, jx_p_s, jx_ia_s, jx_la_s, jx_aa_s, jx_is_s, jx_ls_s, jx_sn_s, jx_sr_s, jx_n_s, va_rf_s, va_rf_n, jm_ok, jm_up_a, jm_up_up, Bool.or_true, Bool.true_or, Option.some.injEq, Value.int.injEq, Value.long.injEq, Value.ref.injEq, Sum.inr.injEq, Sum.inl.injEq, Prod.mk.injEq, List.getElem?_cons_zero, List.getElem?_cons_succ, List.length_cons, List.length_nil, List.set_cons_zero, List.set_cons_succ, jm_rf, Value.category, and_true, true_and, and_self, and_assoc, jm_p1, jm_p2, jm_k2, Nat.reduceAdd, Nat.reduceEqDiff, Nat.reduceBEq, Bool.and_false, Bool.false_and, Bool.and_true, Bool.true_and, Bool.false_eq_true, ↓reduceIte, reduceCtorEq, zero_ne_one, one_ne_zero, Nat.zero_add, beq_self_eq_true, not_true_eq_false, not_false_eq_true, jz_1, jz_0, Option.toList_some, Option.toList_none, List.cons_append, List.nil_append]
  grind
/-- the parents: accounts 0 to 4 have none, the others one before them -/
def tr_par (par : Nat → Int32) (P : Nat → Nat) (n : Nat) : Prop := tr_ok P n ∧ (∀ j, j < n → 5 ≤ j → par j = nI (P j)) ∧ (∀ j, j < n → j < 5 → par j = -1)
theorem w_isUnder_loop {C : jm_C} {Q : jm_Q} {n a p na N top : Nat} {f : Nat → va_E} {fs : List Value} {par : Nat → Int32} {P : Nat → Nat} (ha : a < n) (hc : f a = .inr (1, .ref p :: fs)) (hp : p < n) (hcp : f p = .inl (0, 24, .inl par)) (hP : tr_par par P na) (hna : na ≤ 24) (hN : N < na) (ht : top < na) :
    ∀ (k x i : Nat) (lv : jm_L), x < k → x + i ≤ N → lv 0 = some (.ref a) → lv 2 = some (.int (nI top)) → lv 3 = some (.int (nI x)) → lv 4 = some (.int (nI i)) → Q (some (.int (b2i (tr P top x)))) (n, f) → jm_wp C 32 Q (5, lv, [], (n, f))
  | 0, _, _, _, h, _, _, _, _, _, _ => by omega
  | k + 1, x, i, lv, hk, hi, h0, h2, h3, h4, hq => by
    have hb : vp_in (nI x) 24 := vp_in_nI (by omega) (by decide)
    have hxt : nI x = nI top ↔ x = top := nI_eq (by omega) (by omega)
    have hle : nI x ≤ nI top ↔ x ≤ top := nI_leI (by omega) (by omega)
    have h24 : ∀ j, j < 24 → ¬ (24 : Int32) ≤ nI j := fun j hj => nI_ge hj (by decide)
    rw [w_Ac_isUnder_5]
    simp only [w_Ac_isUnder_0, w_Ac_isUnder_1, w_Ac_isUnder_2, w_Ac_isUnder_3, w_Ac_isUnder_7, w_Ac_isUnder_9, w_Ac_isUnder_12, w_Ac_isUnder_13, w_Ac_isUnder_14, w_Ac_isUnder_17, w_Ac_isUnder_18, w_Ac_isUnder_21, w_Ac_isUnder_22, w_Ac_isUnder_23, w_Ac_isUnder_24, w_Ac_isUnder_27, w_Ac_isUnder_30, w_Ac_isUnder_31, w_Ac_isUnder_32, w_Ac_isUnder_35, w_Ac_isUnder_36, w_Ac_isUnder_39, w_Ac_isUnder_40, h0, h2, h3, h4, hc, ha, hp, hcp, hb, nI_clamp (show x < 2 ^ 31 by omega), hxt, hle, h24 i (by omega), jx_i_s, jx_l_s, jx_a_s, jx_a_n, jx_c_s, jx_v_s, jx_g_s, jx_p_s, jx_ia_s, jx_la_s, jx_aa_s, jx_is_s, jx_ls_s, jx_sn_s, jx_sr_s, jx_n_s, va_rf_s, va_rf_n, jm_ok, jm_up_a, jm_up_up, Bool.or_true, Bool.true_or, Option.some.injEq, Value.int.injEq, Value.long.injEq, Value.ref.injEq, Sum.inr.injEq, Sum.inl.injEq, Prod.mk.injEq, List.getElem?_cons_zero, List.getElem?_cons_succ, List.length_cons, List.length_nil, List.set_cons_zero, List.set_cons_succ, jm_rf, Value.category, and_true, true_and, and_self, and_assoc, jm_p1, jm_p2, jm_k2, Nat.reduceAdd, Nat.reduceEqDiff, Nat.reduceBEq, Bool.and_false, Bool.false_and, Bool.and_true, Bool.true_and, Bool.false_eq_true, ↓reduceIte, reduceCtorEq, zero_ne_one, one_ne_zero, Nat.zero_add, beq_self_eq_true, not_true_eq_false, not_false_eq_true, jz_1, jz_0, Option.toList_some, Option.toList_none, List.cons_append, List.nil_append]
    refine ⟨fun h => h.elim, fun _ => ⟨fun h => ?_, fun h => ?_⟩⟩
    · refine ⟨fun h1 => ?_, fun h1 => ?_⟩
      · have e : tr P top x = false := by
          by_cases ht' : tr P top x = true
          · have := tr_le hP.1 (x + 1) x (by omega) (by omega) ht'
            omega
          · simpa using ht'
        rw [e] at hq
        exact hq
      · have e : x = top := by omega
        rw [e, tr_self] at hq
        exact hq
    · by_cases h5 : 5 ≤ x
      · have hpx := hP.1 x h5 (by omega)
        rw [hP.2.1 x (by omega) h5]
        refine w_isUnder_loop ha hc hp hcp hP hna hN ht k (P x) (i + 1) _ (by omega) (by omega) (by simp [jm_p1, jm_k2, h0]) (by simp [jm_p1, jm_k2, h2, Value.category]) (by simp [jm_p1, jm_k2, Value.category]) (by simp [jm_p1, jm_k2, nI_1]) ?_
        have e : tr P top x = tr P top (P x) := by
          rw [tr_eq hP.1 (show x < na by omega)]
          have : ¬ x = top := by omega
          simp [this, h5]
        rw [← e]
        exact hq
      · rw [hP.2.2 x (by omega) (by omega)]
        have e : tr P top x = false := by
          rw [tr_eq hP.1 (show x < na by omega)]
          have : ¬ x = top := by omega
          simp [this, h5]
        rw [e] at hq
        rw [w_Ac_isUnder_5]
        simp only [w_Ac_isUnder_0, w_Ac_isUnder_1, w_Ac_isUnder_2, w_Ac_isUnder_3, w_Ac_isUnder_7, w_Ac_isUnder_9, w_Ac_isUnder_12, w_Ac_isUnder_13, w_Ac_isUnder_14, w_Ac_isUnder_17, w_Ac_isUnder_18, w_Ac_isUnder_21, w_Ac_isUnder_22, w_Ac_isUnder_23, w_Ac_isUnder_24, w_Ac_isUnder_27, w_Ac_isUnder_30, w_Ac_isUnder_31, w_Ac_isUnder_32, w_Ac_isUnder_35, w_Ac_isUnder_36, w_Ac_isUnder_39, w_Ac_isUnder_40, h0, h2, h3, h4, nI_1, h24 (i + 1) (by omega), nI_m1 (show top < 2 ^ 31 by omega), nI_m1le (show top < 2 ^ 31 by omega), jx_i_s, jx_l_s, jx_a_s, jx_a_n, jx_c_s, jx_v_s, jx_g_s, jx_p_s, jx_ia_s, jx_la_s, jx_aa_s, jx_is_s, jx_ls_s, jx_sn_s, jx_sr_s, jx_n_s, va_rf_s, va_rf_n, jm_ok, jm_up_a, jm_up_up, Bool.or_true, Bool.true_or, Option.some.injEq, Value.int.injEq, Value.long.injEq, Value.ref.injEq, Sum.inr.injEq, Sum.inl.injEq, Prod.mk.injEq, List.getElem?_cons_zero, List.getElem?_cons_succ, List.length_cons, List.length_nil, List.set_cons_zero, List.set_cons_succ, jm_rf, Value.category, and_true, true_and, and_self, and_assoc, jm_p1, jm_p2, jm_k2, Nat.reduceAdd, Nat.reduceEqDiff, Nat.reduceBEq, Bool.and_false, Bool.false_and, Bool.and_true, Bool.true_and, Bool.false_eq_true, ↓reduceIte, reduceCtorEq, zero_ne_one, one_ne_zero, Nat.zero_add, beq_self_eq_true, not_true_eq_false, not_false_eq_true, jz_1, jz_0, Option.toList_some, Option.toList_none, List.cons_append, List.nil_append]
        exact ⟨fun h => h.elim, fun _ => ⟨fun _ => ⟨fun _ => hq, fun h => h.elim⟩, fun h => h.elim⟩⟩
/-- Accounts.isUnder -/
theorem c_Ac_isUnder (d : Nat) {n a p na x top : Nat} {f : Nat → va_E} {fs : List Value} {par : Nat → Int32} {P : Nat → Nat} (ha : a < n) (hc : f a = .inr (1, .ref p :: fs)) (hp : p < n) (hcp : f p = .inl (0, 24, .inl par)) (hP : tr_par par P na) (hna : na ≤ 24) (hx : x < na) (ht : top < na) : jm_call (d + 1) 32 [.ref a, .int (nI x), .int (nI top)] (n, f) (some (.int (b2i (tr P top x)))) (n, f) := by
  refine ⟨Nat.le_of_ble_eq_true rfl, ?_⟩
  have h0 : (jm_a0 (lv_args 0 [.ref a, .int (nI x), .int (nI top)])) 0 = some (.ref a) := rfl
  have h1 : (jm_a0 (lv_args 0 [.ref a, .int (nI x), .int (nI top)])) 1 = some (.int (nI x)) := rfl
  have h2 : (jm_a0 (lv_args 0 [.ref a, .int (nI x), .int (nI top)])) 2 = some (.int (nI top)) := rfl
  generalize jm_a0 (lv_args 0 [.ref a, .int (nI x), .int (nI top)]) = lv at h0 h1 h2 ⊢
  simp only [w_Ac_isUnder_0, w_Ac_isUnder_1, w_Ac_isUnder_2, w_Ac_isUnder_3, h0, h1, h2, jx_i_s, jx_l_s, jx_a_s, jx_a_n, jx_c_s, jx_v_s, jx_g_s, jx_p_s, jx_ia_s, jx_la_s, jx_aa_s, jx_is_s, jx_ls_s, jx_sn_s, jx_sr_s, jx_n_s, va_rf_s, va_rf_n, jm_ok, jm_up_a, jm_up_up, Bool.or_true, Bool.true_or, Option.some.injEq, Value.int.injEq, Value.long.injEq, Value.ref.injEq, Sum.inr.injEq, Sum.inl.injEq, Prod.mk.injEq, List.getElem?_cons_zero, List.getElem?_cons_succ, List.length_cons, List.length_nil, List.set_cons_zero, List.set_cons_succ, jm_rf, Value.category, and_true, true_and, and_self, and_assoc, jm_p1, jm_p2, jm_k2, Nat.reduceAdd, Nat.reduceEqDiff, Nat.reduceBEq, Bool.and_false, Bool.false_and, Bool.and_true, Bool.true_and, Bool.false_eq_true, ↓reduceIte, reduceCtorEq, zero_ne_one, one_ne_zero, Nat.zero_add, beq_self_eq_true, not_true_eq_false, not_false_eq_true, jz_1, jz_0, Option.toList_some, Option.toList_none, List.cons_append, List.nil_append]
  exact w_isUnder_loop ha hc hp hcp hP hna hx ht (x + 1) x 0 _ (by omega) (by omega) (by simp [jm_p1, jm_k2, h0]) (by simp [jm_p1, jm_k2, h2, Value.category]) (by simp [jm_p1, jm_k2, Value.category]) (by simp [jm_p1, jm_k2, nI]) ⟨rfl, rfl⟩
/-- the root of an account -/
def tr_r (P : Nat → Nat) : Nat → Nat → Nat
  | 0, x => x
  | f + 1, x => if 5 ≤ x then tr_r P f (P x) else x
def tr_root (P : Nat → Nat) (x : Nat) : Nat := tr_r P (x + 1) x
theorem tr_r_fuel {P : Nat → Nat} {n : Nat} (hp : tr_ok P n) : ∀ (f g x : Nat), x < n → x < f → x < g → tr_r P f x = tr_r P g x
  | 0, _, _, _, h, _ => by omega
  | _, 0, _, _, _, h => by omega
  | f + 1, g + 1, x, hx, h1, h2 => by
    simp only [tr_r]
    by_cases h5 : 5 ≤ x
    · have := hp x h5 hx
      rw [if_pos h5, if_pos h5, tr_r_fuel hp f g (P x) (by omega) (by omega) (by omega)]
    · rw [if_neg h5, if_neg h5]
theorem tr_root_eq {P : Nat → Nat} {n x : Nat} (hp : tr_ok P n) (hx : x < n) : tr_root P x = if 5 ≤ x then tr_root P (P x) else x := by
  unfold tr_root
  conv => lhs; unfold tr_r
  by_cases h5 : 5 ≤ x
  · have := hp x h5 hx
    rw [if_pos h5, if_pos h5, tr_r_fuel hp x (P x + 1) (P x) (by omega) (by omega) (by omega)]
  · rw [if_neg h5, if_neg h5]
theorem tr_root_lt {P : Nat → Nat} {n : Nat} (hp : tr_ok P n) : ∀ (k x : Nat), x < k → x < n → tr_root P x < 5
  | 0, _, h, _ => by omega
  | k + 1, x, h, hx => by
    rw [tr_root_eq hp hx]
    by_cases h5 : 5 ≤ x
    · have := hp x h5 hx
      rw [if_pos h5]
      exact tr_root_lt hp k (P x) (by omega) (by omega)
    · rw [if_neg h5]
      omega
theorem w_rootOf_loop {C : jm_C} {Q : jm_Q} {n na N : Nat} {f : Nat → va_E} {fs : List Value} {par : Nat → Int32} {P : Nat → Nat} (hn : 61 ≤ n) (hc : f 35 = .inr (11, fs)) (hf : fs[1]? = some (.ref 36)) (hcp : f 36 = .inl (0, 24, .inl par)) (hP : tr_par par P na) (hna : na ≤ 24) (hN : N < na) :
    ∀ (k x i : Nat) (lv : jm_L), x < k → x + i ≤ N → lv 0 = some (.ref 35) → lv 2 = some (.int (nI x)) → lv 3 = some (.int (nI i)) → Q (some (.int (nI (tr_root P x)))) (n, f) → jm_wp C 81 Q (4, lv, [], (n, f))
  | 0, _, _, _, h, _, _, _, _, _ => by omega
  | k + 1, x, i, lv, hk, hi, h0, h2, h3, hq => by
    have hb : vp_in (nI x) 24 := vp_in_nI (by omega) (by decide)
    have h24 : ∀ j, j < 24 → ¬ (24 : Int32) ≤ nI j := fun j hj => nI_ge hj (by decide)
    rw [w_M_rootOf_4]
    simp only [w_M_rootOf_0, w_M_rootOf_1, w_M_rootOf_2, w_M_rootOf_3, w_M_rootOf_5, w_M_rootOf_7, w_M_rootOf_10, w_M_rootOf_11, w_M_rootOf_14, w_M_rootOf_15, w_M_rootOf_16, w_M_rootOf_19, w_M_rootOf_20, w_M_rootOf_23, w_M_rootOf_24, w_M_rootOf_25, w_M_rootOf_26, w_M_rootOf_29, w_M_rootOf_32, w_M_rootOf_33, h0, h2, h3, hc, hf, hcp, hb, nI_clamp (show x < 2 ^ 31 by omega), show 35 < n by omega, show 36 < n by omega, h24 i (by omega), jx_i_s, jx_l_s, jx_a_s, jx_a_n, jx_c_s, jx_v_s, jx_g_s, jx_p_s, jx_ia_s, jx_la_s, jx_aa_s, jx_is_s, jx_ls_s, jx_sn_s, jx_sr_s, jx_n_s, va_rf_s, va_rf_n, jm_ok, jm_up_a, jm_up_up, Bool.or_true, Bool.true_or, Option.some.injEq, Value.int.injEq, Value.long.injEq, Value.ref.injEq, Sum.inr.injEq, Sum.inl.injEq, Prod.mk.injEq, List.getElem?_cons_zero, List.getElem?_cons_succ, List.length_cons, List.length_nil, List.set_cons_zero, List.set_cons_succ, jm_rf, Value.category, and_true, true_and, and_self, and_assoc, jm_p1, jm_p2, jm_k2, Nat.reduceAdd, Nat.reduceEqDiff, Nat.reduceBEq, Bool.and_false, Bool.false_and, Bool.and_true, Bool.true_and, Bool.false_eq_true, ↓reduceIte, reduceCtorEq, zero_ne_one, one_ne_zero, Nat.zero_add, beq_self_eq_true, not_true_eq_false, not_false_eq_true, jz_1, jz_0, Option.toList_some, Option.toList_none, List.cons_append, List.nil_append]
    refine ⟨fun h => h.elim, fun _ => ?_⟩
    rw [tr_root_eq hP.1 (show x < na by omega)] at hq
    by_cases h5 : 5 ≤ x
    · have hpx := hP.1 x h5 (by omega)
      rw [hP.2.1 x (by omega) h5]
      rw [if_pos h5] at hq
      refine ⟨fun h => absurd h (nI_pos (by omega)), fun _ => ?_⟩
      exact w_rootOf_loop hn hc hf hcp hP hna hN k (P x) (i + 1) _ (by omega) (by omega) (by simp [jm_p1, jm_k2, h0]) (by simp [jm_p1, jm_k2, Value.category]) (by simp [jm_p1, jm_k2, nI_1]) hq
    · rw [hP.2.2 x (by omega) (by omega)]
      rw [if_neg h5] at hq
      exact ⟨fun _ => hq, fun h => absurd m1_neg h⟩
/-- rootOf -/
theorem c_M_rootOf (d : Nat) {n na x : Nat} {f : Nat → va_E} {fs : List Value} {par : Nat → Int32} {P : Nat → Nat} (hn : 61 ≤ n) (hc : f 35 = .inr (11, fs)) (hf : fs[1]? = some (.ref 36)) (hcp : f 36 = .inl (0, 24, .inl par)) (hP : tr_par par P na) (hna : na ≤ 24) (hx : x < na) : jm_call (d + 1) 81 [.ref 35, .int (nI x)] (n, f) (some (.int (nI (tr_root P x)))) (n, f) := by
  refine ⟨Nat.le_of_ble_eq_true rfl, ?_⟩
  have h0 : (jm_a0 (lv_args 0 [.ref 35, .int (nI x)])) 0 = some (.ref 35) := rfl
  have h1 : (jm_a0 (lv_args 0 [.ref 35, .int (nI x)])) 1 = some (.int (nI x)) := rfl
  generalize jm_a0 (lv_args 0 [.ref 35, .int (nI x)]) = lv at h0 h1 ⊢
  simp only [w_M_rootOf_0, w_M_rootOf_1, w_M_rootOf_2, w_M_rootOf_3, h0, h1, jx_i_s, jx_l_s, jx_a_s, jx_a_n, jx_c_s, jx_v_s, jx_g_s, jx_p_s, jx_ia_s, jx_la_s, jx_aa_s, jx_is_s, jx_ls_s, jx_sn_s, jx_sr_s, jx_n_s, va_rf_s, va_rf_n, jm_ok, jm_up_a, jm_up_up, Bool.or_true, Bool.true_or, Option.some.injEq, Value.int.injEq, Value.long.injEq, Value.ref.injEq, Sum.inr.injEq, Sum.inl.injEq, Prod.mk.injEq, List.getElem?_cons_zero, List.getElem?_cons_succ, List.length_cons, List.length_nil, List.set_cons_zero, List.set_cons_succ, jm_rf, Value.category, and_true, true_and, and_self, and_assoc, jm_p1, jm_p2, jm_k2, Nat.reduceAdd, Nat.reduceEqDiff, Nat.reduceBEq, Bool.and_false, Bool.false_and, Bool.and_true, Bool.true_and, Bool.false_eq_true, ↓reduceIte, reduceCtorEq, zero_ne_one, one_ne_zero, Nat.zero_add, beq_self_eq_true, not_true_eq_false, not_false_eq_true, jz_1, jz_0, Option.toList_some, Option.toList_none, List.cons_append, List.nil_append]
  exact w_rootOf_loop hn hc hf hcp hP hna hx (x + 1) x 0 _ (by omega) (by omega) (by simp [jm_p1, jm_k2, h0]) (by simp [jm_p1, jm_k2, Value.category]) (by simp [jm_p1, jm_k2, nI]) ⟨rfl, rfl⟩
theorem w_inside_loop {C : jm_C} {Q : jm_Q} {n na N top : Nat} {f : Nat → va_E} {fs : List Value} {par : Nat → Int32} {P : Nat → Nat} (hn : 61 ≤ n) (hc : f 35 = .inr (11, fs)) (hf : fs[1]? = some (.ref 36)) (hcp : f 36 = .inl (0, 24, .inl par)) (hP : tr_par par P na) (hna : na ≤ 24) (hN : N < na) (ht : top < na) :
    ∀ (k x i : Nat) (lv : jm_L), x < k → x + i ≤ N → lv 0 = some (.ref 35) → lv 1 = some (.int (nI top)) → lv 3 = some (.int (nI x)) → lv 4 = some (.int (nI i)) → Q (some (.int (b2i (tr P top x)))) (n, f) → jm_wp C 82 Q (5, lv, [], (n, f))
  | 0, _, _, _, h, _, _, _, _, _, _ => by omega
  | k + 1, x, i, lv, hk, hi, h0, h1, h3, h4, hq => by
    have hb : vp_in (nI x) 24 := vp_in_nI (by omega) (by decide)
    have hxt : nI x = nI top ↔ x = top := nI_eq (by omega) (by omega)
    have h24 : ∀ j, j < 24 → ¬ (24 : Int32) ≤ nI j := fun j hj => nI_ge hj (by decide)
    rw [w_M_inside_5]
    simp only [w_M_inside_0, w_M_inside_1, w_M_inside_2, w_M_inside_3, w_M_inside_7, w_M_inside_9, w_M_inside_12, w_M_inside_13, w_M_inside_16, w_M_inside_17, w_M_inside_18, w_M_inside_21, w_M_inside_22, w_M_inside_23, w_M_inside_24, w_M_inside_27, w_M_inside_28, w_M_inside_29, w_M_inside_30, w_M_inside_33, w_M_inside_36, w_M_inside_37, h0, h1, h3, h4, hc, hf, hcp, hb, nI_clamp (show x < 2 ^ 31 by omega), hxt, h24 i (by omega), nI_pos (show x < 2 ^ 31 by omega), show 35 < n by omega, show 36 < n by omega, jx_i_s, jx_l_s, jx_a_s, jx_a_n, jx_c_s, jx_v_s, jx_g_s, jx_p_s, jx_ia_s, jx_la_s, jx_aa_s, jx_is_s, jx_ls_s, jx_sn_s, jx_sr_s, jx_n_s, va_rf_s, va_rf_n, jm_ok, jm_up_a, jm_up_up, Bool.or_true, Bool.true_or, Option.some.injEq, Value.int.injEq, Value.long.injEq, Value.ref.injEq, Sum.inr.injEq, Sum.inl.injEq, Prod.mk.injEq, List.getElem?_cons_zero, List.getElem?_cons_succ, List.length_cons, List.length_nil, List.set_cons_zero, List.set_cons_succ, jm_rf, Value.category, and_true, true_and, and_self, and_assoc, jm_p1, jm_p2, jm_k2, Nat.reduceAdd, Nat.reduceEqDiff, Nat.reduceBEq, Bool.and_false, Bool.false_and, Bool.and_true, Bool.true_and, Bool.false_eq_true, ↓reduceIte, reduceCtorEq, zero_ne_one, one_ne_zero, Nat.zero_add, beq_self_eq_true, not_true_eq_false, not_false_eq_true, jz_1, jz_0, Option.toList_some, Option.toList_none, List.cons_append, List.nil_append]
    refine ⟨fun h => h.elim, fun _ => ⟨fun h => h.elim, fun _ => ⟨fun h => ?_, fun h => ?_⟩⟩⟩
    · rw [tr_eq hP.1 (show x < na by omega)] at hq
      by_cases h5 : 5 ≤ x
      · have hpx := hP.1 x h5 (by omega)
        rw [hP.2.1 x (by omega) h5]
        refine w_inside_loop hn hc hf hcp hP hna hN ht k (P x) (i + 1) _ (by omega) (by omega) (by simp [jm_p1, jm_k2, h0]) (by simp [jm_p1, jm_k2, h1, Value.category]) (by simp [jm_p1, jm_k2, Value.category]) (by simp [jm_p1, jm_k2, nI_1]) ?_
        have e : (x == top || decide (5 ≤ x) && tr P top (P x)) = tr P top (P x) := by simp [h, h5]
        rw [e] at hq
        exact hq
      · rw [hP.2.2 x (by omega) (by omega)]
        have e : (x == top || decide (5 ≤ x) && tr P top (P x)) = false := by simp [h, h5]
        rw [e] at hq
        rw [w_M_inside_5]
        simp only [w_M_inside_0, w_M_inside_1, w_M_inside_2, w_M_inside_3, w_M_inside_7, w_M_inside_9, w_M_inside_12, w_M_inside_13, w_M_inside_16, w_M_inside_17, w_M_inside_18, w_M_inside_21, w_M_inside_22, w_M_inside_23, w_M_inside_24, w_M_inside_27, w_M_inside_28, w_M_inside_29, w_M_inside_30, w_M_inside_33, w_M_inside_36, w_M_inside_37, h0, h1, h3, h4, nI_1, m1_neg, jx_i_s, jx_l_s, jx_a_s, jx_a_n, jx_c_s, jx_v_s, jx_g_s, jx_p_s, jx_ia_s, jx_la_s, jx_aa_s, jx_is_s, jx_ls_s, jx_sn_s, jx_sr_s, jx_n_s, va_rf_s, va_rf_n, jm_ok, jm_up_a, jm_up_up, Bool.or_true, Bool.true_or, Option.some.injEq, Value.int.injEq, Value.long.injEq, Value.ref.injEq, Sum.inr.injEq, Sum.inl.injEq, Prod.mk.injEq, List.getElem?_cons_zero, List.getElem?_cons_succ, List.length_cons, List.length_nil, List.set_cons_zero, List.set_cons_succ, jm_rf, Value.category, and_true, true_and, and_self, and_assoc, jm_p1, jm_p2, jm_k2, Nat.reduceAdd, Nat.reduceEqDiff, Nat.reduceBEq, Bool.and_false, Bool.false_and, Bool.and_true, Bool.true_and, Bool.false_eq_true, ↓reduceIte, reduceCtorEq, zero_ne_one, one_ne_zero, Nat.zero_add, beq_self_eq_true, not_true_eq_false, not_false_eq_true, jz_1, jz_0, Option.toList_some, Option.toList_none, List.cons_append, List.nil_append]
        exact ⟨fun _ => hq, fun _ => ⟨fun _ => hq, fun h => h.elim⟩⟩
    · have e : x = top := Decidable.of_not_not h
      rw [e, tr_self] at hq
      exact hq
/-- inside -/
theorem c_M_inside (d : Nat) {n na x top : Nat} {f : Nat → va_E} {fs : List Value} {par : Nat → Int32} {P : Nat → Nat} (hn : 61 ≤ n) (hc : f 35 = .inr (11, fs)) (hf : fs[1]? = some (.ref 36)) (hcp : f 36 = .inl (0, 24, .inl par)) (hP : tr_par par P na) (hna : na ≤ 24) (hx : x < na) (ht : top < na) : jm_call (d + 1) 82 [.ref 35, .int (nI top), .int (nI x)] (n, f) (some (.int (b2i (tr P top x)))) (n, f) := by
  refine ⟨Nat.le_of_ble_eq_true rfl, ?_⟩
  have h0 : (jm_a0 (lv_args 0 [.ref 35, .int (nI top), .int (nI x)])) 0 = some (.ref 35) := rfl
  have h1 : (jm_a0 (lv_args 0 [.ref 35, .int (nI top), .int (nI x)])) 1 = some (.int (nI top)) := rfl
  have h2 : (jm_a0 (lv_args 0 [.ref 35, .int (nI top), .int (nI x)])) 2 = some (.int (nI x)) := rfl
  generalize jm_a0 (lv_args 0 [.ref 35, .int (nI top), .int (nI x)]) = lv at h0 h1 h2 ⊢
  simp only [w_M_inside_0, w_M_inside_1, w_M_inside_2, w_M_inside_3, h0, h1, h2, jx_i_s, jx_l_s, jx_a_s, jx_a_n, jx_c_s, jx_v_s, jx_g_s, jx_p_s, jx_ia_s, jx_la_s, jx_aa_s, jx_is_s, jx_ls_s, jx_sn_s, jx_sr_s, jx_n_s, va_rf_s, va_rf_n, jm_ok, jm_up_a, jm_up_up, Bool.or_true, Bool.true_or, Option.some.injEq, Value.int.injEq, Value.long.injEq, Value.ref.injEq, Sum.inr.injEq, Sum.inl.injEq, Prod.mk.injEq, List.getElem?_cons_zero, List.getElem?_cons_succ, List.length_cons, List.length_nil, List.set_cons_zero, List.set_cons_succ, jm_rf, Value.category, and_true, true_and, and_self, and_assoc, jm_p1, jm_p2, jm_k2, Nat.reduceAdd, Nat.reduceEqDiff, Nat.reduceBEq, Bool.and_false, Bool.false_and, Bool.and_true, Bool.true_and, Bool.false_eq_true, ↓reduceIte, reduceCtorEq, zero_ne_one, one_ne_zero, Nat.zero_add, beq_self_eq_true, not_true_eq_false, not_false_eq_true, jz_1, jz_0, Option.toList_some, Option.toList_none, List.cons_append, List.nil_append]
  exact w_inside_loop hn hc hf hcp hP hna hx ht (x + 1) x 0 _ (by omega) (by omega) (by simp [jm_p1, jm_k2, h0]) (by simp [jm_p1, jm_k2, h1, Value.category]) (by simp [jm_p1, jm_k2, Value.category]) (by simp [jm_p1, jm_k2, nI]) ⟨rfl, rfl⟩
