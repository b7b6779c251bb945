/-- the object with so many lots, and whether a lot is lacking -/
def mbf (fs : List Value) (N : Nat) (x : Int32) : List Value := (fs.set 16 (.int (nI N))).set 21 (.int x)
theorem mbf_ne {fs : List Value} {N : Nat} {x : Int32} {k : Nat} (h1 : 16 ≠ k) (h2 : 21 ≠ k) : (mbf fs N x)[k]? = fs[k]? := by
  unfold mbf
  rw [List.getElem?_set_ne h2, List.getElem?_set_ne h1]
theorem mbf_st {fs : List Value} (hs : mo_st fs) (N : Nat) (x : Int32) : mo_st (mbf fs N x) := mo_st_set (mo_st_set hs (by decide)) (by decide)
theorem mo_st_len {fs : List Value} (hs : mo_st fs) : fs.length = 35 := by
  obtain ⟨s1, s2, s4, s5, s6, s7, s8, s9, s10, s11, s15, s17, s18, s19, s20, s23, s24, s25, s27, s28, s29, s31, s32, s33, s34, sl⟩ := hs
  exact sl
theorem mbf_16 {fs : List Value} (hs : mo_st fs) (N : Nat) (x : Int32) : (mbf fs N x)[16]? = some (.int (nI N)) := by
  unfold mbf
  rw [List.getElem?_set_ne (by decide), List.getElem?_set_self (by rw [mo_st_len hs]; decide)]
theorem mbf_21 {fs : List Value} (hs : mo_st fs) (N : Nat) (x : Int32) : (mbf fs N x)[21]? = some (.int x) := by
  unfold mbf
  rw [List.getElem?_set_self (by rw [List.length_set, mo_st_len hs]; decide)]
theorem mbf_s16 (fs : List Value) (N M : Nat) (x : Int32) : (mbf fs N x).set 16 (.int (nI M)) = mbf fs M x := by
  unfold mbf
  rw [List.set_comm _ _ (by decide), List.set_set]
theorem mbf_s21 (fs : List Value) (N : Nat) (x y : Int32) : (mbf fs N x).set 21 (.int y) = mbf fs N y := by
  unfold mbf
  rw [List.set_set]
def tkR (lo lc lq : Nat → Int32) (lk : Nat → Int64) (a w u how : Int32) (N : Nat) : Option (Int64 × (Nat → Int32) × (Nat → Int64)) :=
  if u ≤ suM lo lc lq a w N then some (tkI lo lc a w how N (u, 0, if how = 2 then (mgI lo lc a w lq lk N).2 else (lq, lk)) N).2 else none
section
variable {C : jm_C} {Q : jm_Q} {n N : Nat} {f : Nat → va_E} {fs : List Value} {wt : Nat → Int64} {lo lc lq : Nat → Int32} {lk : Nat → Int64} {a w u how x : Int32}
theorem c_M_taken_no (d : Nat) (hn : 61 ≤ n) (hs : mo_st fs) (hN : N ≤ 246) (ho : ¬ u ≤ suM lo lc lq a w N) : jm_call (d + 2) 103 [.ref 35, .int a, .int w, .int u, .int how] (n, mb_hp f (mbf fs N x) wt lo lc lq lk) (some (.long 0)) (n, mb_hp f (mbf fs N 1) wt lo lc lq lk) := by
  refine ⟨Nat.le_of_ble_eq_true rfl, ?_⟩
  have l0 : (jm_a0 (lv_args 0 [.ref 35, .int a, .int w, .int u, .int how])) 0 = some (.ref 35) := rfl
  have l1 : (jm_a0 (lv_args 0 [.ref 35, .int a, .int w, .int u, .int how])) 1 = some (.int a) := rfl
  have l2 : (jm_a0 (lv_args 0 [.ref 35, .int a, .int w, .int u, .int how])) 2 = some (.int w) := rfl
  have l3 : (jm_a0 (lv_args 0 [.ref 35, .int a, .int w, .int u, .int how])) 3 = some (.int u) := rfl
  have l4 : (jm_a0 (lv_args 0 [.ref 35, .int a, .int w, .int u, .int how])) 4 = some (.int how) := rfl
  generalize jm_a0 (lv_args 0 [.ref 35, .int a, .int w, .int u, .int how]) = lv at l0 l1 l2 l3 l4 ⊢
  simp only [w_M_taken_0, w_M_taken_1, w_M_taken_3, w_M_taken_4, jx_i_s, jx_l_s, jx_a_s, jx_a_n, jx_c_s, jx_v_s, jx_g_s, jx_p_s, jx_ia_s, jx_la_s, jx_aa_s, jx_is_s, jx_ls_s, jx_sn_s, jx_sr_s, jx_n_s, va_rf_s, va_rf_n, jm_ok, jm_up_a, jm_up_up, Bool.or_true, Bool.true_or, Option.some.injEq, Value.int.injEq, Value.long.injEq, Value.ref.injEq, Sum.inr.injEq, Sum.inl.injEq, Prod.mk.injEq, List.getElem?_cons_zero, List.getElem?_cons_succ, List.length_cons, List.length_nil, List.set_cons_zero, List.set_cons_succ, jm_rf, Value.category, and_true, true_and, and_self, and_assoc, jm_p1, jm_p2, jm_k2, Nat.reduceAdd, Nat.reduceEqDiff, Nat.reduceBEq, Bool.and_false, Bool.false_and, Bool.and_true, Bool.true_and, Bool.false_eq_true, ↓reduceIte, reduceCtorEq, zero_ne_one, one_ne_zero, Nat.zero_add, beq_self_eq_true, not_true_eq_false, not_false_eq_true, jz_1, jz_0, Option.toList_some, Option.toList_none, List.cons_append, List.nil_append, implies_true, false_implies, true_implies, not_true_eq_false, not_false_eq_true, Classical.not_not]
  refine w_take1 (a := a) (w := w) (u := u) (how := how) hn (mbf_st hs N x) (mbf_16 hs N x) hN ?_ 0 _ _ (by omega) ⟨rfl, (by simp [jm_p1, jm_p2, jm_k2, Value.category, l0]), (by simp [jm_p1, jm_p2, jm_k2, Value.category, l1]), (by simp [jm_p1, jm_p2, jm_k2, Value.category, l2]), (by simp [jm_p1, jm_p2, jm_k2, Value.category, l3]), (by simp [jm_p1, jm_p2, jm_k2, Value.category, l4]), (by simp [jm_p1, jm_p2, jm_k2, Value.category, suM]), (by simp [jm_p1, jm_p2, jm_k2, Value.category, nI])⟩
  intro lv l0 l1 l2 l3 l4 l5
  simp only [w_M_taken_48, w_M_taken_50, w_M_taken_51, w_M_taken_54, w_M_taken_55, w_M_taken_56, w_M_taken_59, w_M_taken_60, l0, l3, l5, mb_hp_a, ho, mo_st_len (mbf_st hs N x), mbf_s21, mb_35, show 35 < n by omega, Nat.reduceLT, jx_i_s, jx_l_s, jx_a_s, jx_a_n, jx_c_s, jx_v_s, jx_g_s, jx_p_s, jx_ia_s, jx_la_s, jx_aa_s, jx_is_s, jx_ls_s, jx_sn_s, jx_sr_s, jx_n_s, va_rf_s, va_rf_n, jm_ok, jm_up_a, jm_up_up, Bool.or_true, Bool.true_or, Option.some.injEq, Value.int.injEq, Value.long.injEq, Value.ref.injEq, Sum.inr.injEq, Sum.inl.injEq, Prod.mk.injEq, List.getElem?_cons_zero, List.getElem?_cons_succ, List.length_cons, List.length_nil, List.set_cons_zero, List.set_cons_succ, jm_rf, Value.category, and_true, true_and, and_self, and_assoc, jm_p1, jm_p2, jm_k2, Nat.reduceAdd, Nat.reduceEqDiff, Nat.reduceBEq, Bool.and_false, Bool.false_and, Bool.and_true, Bool.true_and, Bool.false_eq_true, ↓reduceIte, reduceCtorEq, zero_ne_one, one_ne_zero, Nat.zero_add, beq_self_eq_true, not_true_eq_false, not_false_eq_true, jz_1, jz_0, Option.toList_some, Option.toList_none, List.cons_append, List.nil_append, implies_true, false_implies, true_implies, not_true_eq_false, not_false_eq_true, Classical.not_not]
theorem c_M_taken (d : Nat) {co : Int64} {q2 : Nat → Int32} {k2 : Nat → Int64} (hn : 61 ≤ n) (hs : mo_st fs) (hN : N ≤ 246) (ho : tkR lo lc lq lk a w u how N = some (co, q2, k2)) : jm_call (d + 3) 103 [.ref 35, .int a, .int w, .int u, .int how] (n, mb_hp f (mbf fs N x) wt lo lc lq lk) (some (.long co)) (n, mb_hp f (mbf fs N x) wt lo lc q2 k2) := by
  refine ⟨Nat.le_of_ble_eq_true rfl, ?_⟩
  have l0 : (jm_a0 (lv_args 0 [.ref 35, .int a, .int w, .int u, .int how])) 0 = some (.ref 35) := rfl
  have l1 : (jm_a0 (lv_args 0 [.ref 35, .int a, .int w, .int u, .int how])) 1 = some (.int a) := rfl
  have l2 : (jm_a0 (lv_args 0 [.ref 35, .int a, .int w, .int u, .int how])) 2 = some (.int w) := rfl
  have l3 : (jm_a0 (lv_args 0 [.ref 35, .int a, .int w, .int u, .int how])) 3 = some (.int u) := rfl
  have l4 : (jm_a0 (lv_args 0 [.ref 35, .int a, .int w, .int u, .int how])) 4 = some (.int how) := rfl
  generalize jm_a0 (lv_args 0 [.ref 35, .int a, .int w, .int u, .int how]) = lv at l0 l1 l2 l3 l4 ⊢
  unfold tkR at ho
  split at ho
  · rename_i hu
    simp only [w_M_taken_0, w_M_taken_1, w_M_taken_3, w_M_taken_4, jx_i_s, jx_l_s, jx_a_s, jx_a_n, jx_c_s, jx_v_s, jx_g_s, jx_p_s, jx_ia_s, jx_la_s, jx_aa_s, jx_is_s, jx_ls_s, jx_sn_s, jx_sr_s, jx_n_s, va_rf_s, va_rf_n, jm_ok, jm_up_a, jm_up_up, Bool.or_true, Bool.true_or, Option.some.injEq, Value.int.injEq, Value.long.injEq, Value.ref.injEq, Sum.inr.injEq, Sum.inl.injEq, Prod.mk.injEq, List.getElem?_cons_zero, List.getElem?_cons_succ, List.length_cons, List.length_nil, List.set_cons_zero, List.set_cons_succ, jm_rf, Value.category, and_true, true_and, and_self, and_assoc, jm_p1, jm_p2, jm_k2, Nat.reduceAdd, Nat.reduceEqDiff, Nat.reduceBEq, Bool.and_false, Bool.false_and, Bool.and_true, Bool.true_and, Bool.false_eq_true, ↓reduceIte, reduceCtorEq, zero_ne_one, one_ne_zero, Nat.zero_add, beq_self_eq_true, not_true_eq_false, not_false_eq_true, jz_1, jz_0, Option.toList_some, Option.toList_none, List.cons_append, List.nil_append, implies_true, false_implies, true_implies, not_true_eq_false, not_false_eq_true, Classical.not_not]
    refine w_take1 (a := a) (w := w) (u := u) (how := how) hn (mbf_st hs N x) (mbf_16 hs N x) hN ?_ 0 _ _ (by omega) ⟨rfl, (by simp [jm_p1, jm_p2, jm_k2, Value.category, l0]), (by simp [jm_p1, jm_p2, jm_k2, Value.category, l1]), (by simp [jm_p1, jm_p2, jm_k2, Value.category, l2]), (by simp [jm_p1, jm_p2, jm_k2, Value.category, l3]), (by simp [jm_p1, jm_p2, jm_k2, Value.category, l4]), (by simp [jm_p1, jm_p2, jm_k2, Value.category, suM]), (by simp [jm_p1, jm_p2, jm_k2, Value.category, nI])⟩
    intro lv l0 l1 l2 l3 l4 l5
    simp only [w_M_taken_48, w_M_taken_50, w_M_taken_51, w_M_taken_61, w_M_taken_63, w_M_taken_64, w_M_taken_67, w_M_taken_68, w_M_taken_69, l0, l1, l2, l3, l4, l5, hu, jx_i_s, jx_l_s, jx_a_s, jx_a_n, jx_c_s, jx_v_s, jx_g_s, jx_p_s, jx_ia_s, jx_la_s, jx_aa_s, jx_is_s, jx_ls_s, jx_sn_s, jx_sr_s, jx_n_s, va_rf_s, va_rf_n, jm_ok, jm_up_a, jm_up_up, Bool.or_true, Bool.true_or, Option.some.injEq, Value.int.injEq, Value.long.injEq, Value.ref.injEq, Sum.inr.injEq, Sum.inl.injEq, Prod.mk.injEq, List.getElem?_cons_zero, List.getElem?_cons_succ, List.length_cons, List.length_nil, List.set_cons_zero, List.set_cons_succ, jm_rf, Value.category, and_true, true_and, and_self, and_assoc, jm_p1, jm_p2, jm_k2, Nat.reduceAdd, Nat.reduceEqDiff, Nat.reduceBEq, Bool.and_false, Bool.false_and, Bool.and_true, Bool.true_and, Bool.false_eq_true, ↓reduceIte, reduceCtorEq, zero_ne_one, one_ne_zero, Nat.zero_add, beq_self_eq_true, not_true_eq_false, not_false_eq_true, jz_1, jz_0, Option.toList_some, Option.toList_none, List.cons_append, List.nil_append, implies_true, false_implies, true_implies, not_true_eq_false, not_false_eq_true, Classical.not_not]
    have ho := Option.some.inj ho
    refine ⟨fun h2 => ?_, fun h2 => ?_⟩
    · rw [if_neg h2] at ho
      simp only [w_M_taken_73, w_M_taken_74, w_M_taken_76, w_M_taken_77, w_M_taken_79, w_M_taken_80, l3, jx_i_s, jx_l_s, jx_a_s, jx_a_n, jx_c_s, jx_v_s, jx_g_s, jx_p_s, jx_ia_s, jx_la_s, jx_aa_s, jx_is_s, jx_ls_s, jx_sn_s, jx_sr_s, jx_n_s, va_rf_s, va_rf_n, jm_ok, jm_up_a, jm_up_up, Bool.or_true, Bool.true_or, Option.some.injEq, Value.int.injEq, Value.long.injEq, Value.ref.injEq, Sum.inr.injEq, Sum.inl.injEq, Prod.mk.injEq, List.getElem?_cons_zero, List.getElem?_cons_succ, List.length_cons, List.length_nil, List.set_cons_zero, List.set_cons_succ, jm_rf, Value.category, and_true, true_and, and_self, and_assoc, jm_p1, jm_p2, jm_k2, Nat.reduceAdd, Nat.reduceEqDiff, Nat.reduceBEq, Bool.and_false, Bool.false_and, Bool.and_true, Bool.true_and, Bool.false_eq_true, ↓reduceIte, reduceCtorEq, zero_ne_one, one_ne_zero, Nat.zero_add, beq_self_eq_true, not_true_eq_false, not_false_eq_true, jz_1, jz_0, Option.toList_some, Option.toList_none, List.cons_append, List.nil_append, implies_true, false_implies, true_implies, not_true_eq_false, not_false_eq_true, Classical.not_not]
      refine w_take2 (a := a) (w := w) (how := how) (s0 := (u, 0, lq, lk)) hn (mbf_st hs N x) (mbf_16 hs N x) hN ⟨by rw [ho], by rw [ho]⟩ 0 _ _ (by omega) ⟨rfl, (by simp [jm_p1, jm_p2, jm_k2, Value.category, l0]), (by simp [jm_p1, jm_p2, jm_k2, Value.category, l1]), (by simp [jm_p1, jm_p2, jm_k2, Value.category, l2]), (by simp [jm_p1, jm_p2, jm_k2, Value.category, l4]), (by simp [jm_p1, jm_p2, jm_k2, Value.category, tkI]), (by simp [jm_p1, jm_p2, jm_k2, Value.category, tkI]), (by simp [jm_p1, jm_p2, jm_k2, Value.category, nI])⟩
    · rw [if_pos h2] at ho
      refine w_M_taken_70 (c_M_merge d hn (mbf_st hs N x) (mbf_16 hs N x) hN) (fs := mbf fs N x) (by simp only [mb_hp_a]; rfl) (show 35 < n by omega) (Nat.le_of_ble_eq_true rfl) ?_
      simp only [w_M_taken_73, w_M_taken_74, w_M_taken_76, w_M_taken_77, w_M_taken_79, w_M_taken_80, l3, jx_i_s, jx_l_s, jx_a_s, jx_a_n, jx_c_s, jx_v_s, jx_g_s, jx_p_s, jx_ia_s, jx_la_s, jx_aa_s, jx_is_s, jx_ls_s, jx_sn_s, jx_sr_s, jx_n_s, va_rf_s, va_rf_n, jm_ok, jm_up_a, jm_up_up, Bool.or_true, Bool.true_or, Option.some.injEq, Value.int.injEq, Value.long.injEq, Value.ref.injEq, Sum.inr.injEq, Sum.inl.injEq, Prod.mk.injEq, List.getElem?_cons_zero, List.getElem?_cons_succ, List.length_cons, List.length_nil, List.set_cons_zero, List.set_cons_succ, jm_rf, Value.category, and_true, true_and, and_self, and_assoc, jm_p1, jm_p2, jm_k2, Nat.reduceAdd, Nat.reduceEqDiff, Nat.reduceBEq, Bool.and_false, Bool.false_and, Bool.and_true, Bool.true_and, Bool.false_eq_true, ↓reduceIte, reduceCtorEq, zero_ne_one, one_ne_zero, Nat.zero_add, beq_self_eq_true, not_true_eq_false, not_false_eq_true, jz_1, jz_0, Option.toList_some, Option.toList_none, List.cons_append, List.nil_append, implies_true, false_implies, true_implies, not_true_eq_false, not_false_eq_true, Classical.not_not]
      refine w_take2 (a := a) (w := w) (how := how) (s0 := (u, 0, (mgI lo lc a w lq lk N).2)) hn (mbf_st hs N x) (mbf_16 hs N x) hN ⟨by rw [ho], by rw [ho]⟩ 0 _ _ (by omega) ⟨rfl, (by simp [jm_p1, jm_p2, jm_k2, Value.category, l0]), (by simp [jm_p1, jm_p2, jm_k2, Value.category, l1]), (by simp [jm_p1, jm_p2, jm_k2, Value.category, l2]), (by simp [jm_p1, jm_p2, jm_k2, Value.category, l4]), (by simp [jm_p1, jm_p2, jm_k2, Value.category, tkI]), (by simp [jm_p1, jm_p2, jm_k2, Value.category, tkI]), (by simp [jm_p1, jm_p2, jm_k2, Value.category, nI])⟩
  · cases ho
end
/-- lots: how many, accounts, commodities, quantities, costs -/
abbrev LT : Type := Nat × (Nat → Int32) × (Nat → Int32) × (Nat → Int32) × (Nat → Int64)
/-- a posting's worth, and the lots behind it; none: a lot is lacking -/
def vlM (L : LT) (kd oa cm qt am : Int32) : Option (Int64 × LT) :=
  if kd = 0 then some (am.toInt64, L)
  else if kd = 1 then some (am.toInt64, (L.1 + 1, upd L.2.1 L.1 oa, upd L.2.2.1 L.1 cm, upd L.2.2.2.1 L.1 qt, vp_updL L.2.2.2.2 L.1 am.toInt64))
  else if kd = 2 then (match tkR L.2.1 L.2.2.1 L.2.2.2.1 L.2.2.2.2 oa cm qt am L.1 with
    | none => none
    | some (co, q2, k2) => some (-co, (L.1, L.2.1, L.2.2.1, q2, k2)))
  else some (0, L)
theorem vlM_le {L L' : LT} {kd oa cm qt am : Int32} {v : Int64} (h : vlM L kd oa cm qt am = some (v, L')) : L'.1 ≤ L.1 + 1 := by
  unfold vlM at h
  split at h
  · cases h; omega
  · split at h
    · cases h; exact Nat.le_refl _
    · split at h
      · split at h
        · cases h
        · cases h; exact Nat.le_succ _
      · cases h; omega
section
variable {C : jm_C} {Q : jm_Q} {n p : Nat} {f : Nat → va_E} {fs : List Value} {wt : Nat → Int64} {L : LT} {kd oa cm qt am : Nat → Int32} {x : Int32}
/-- the heap with lots L -/
def mbL (f : Nat → va_E) (fs : List Value) (x : Int32) (wt : Nat → Int64) (L : LT) : Nat → va_E := mb_hp f (mbf fs L.1 x) wt L.2.1 L.2.2.1 L.2.2.2.1 L.2.2.2.2
theorem c_M_value (d : Nat) {v : Int64} {L' : LT} (hn : 61 ≤ n) (hs : mo_st fs) (h40 : f 40 = .inl (0, 246, .inl kd)) (h41 : f 41 = .inl (0, 246, .inl oa)) (h42 : f 42 = .inl (0, 246, .inl cm)) (h43 : f 43 = .inl (0, 246, .inl qt)) (h44 : f 44 = .inl (0, 246, .inl am)) (hp : p < 246) (hL : L.1 < 246) (hv : vlM L (kd p) (oa p) (cm p) (qt p) (am p) = some (v, L')) : jm_call (d + 4) 101 [.ref 35, .int (nI p)] (n, mbL f fs x wt L) (some (.long v)) (n, mbL f fs x wt L') := by
  refine ⟨Nat.le_of_ble_eq_true rfl, ?_⟩
  have l0 : (jm_a0 (lv_args 0 [.ref 35, .int (nI p)])) 0 = some (.ref 35) := rfl
  have l1 : (jm_a0 (lv_args 0 [.ref 35, .int (nI p)])) 1 = some (.int (nI p)) := rfl
  generalize jm_a0 (lv_args 0 [.ref 35, .int (nI p)]) = lv at l0 l1 ⊢
  obtain ⟨N, lo, lc, lq, lk⟩ := L
  have hs0 := hs
  have hs := mbf_st hs0 N x
  obtain ⟨s1, s2, s4, s5, s6, s7, s8, s9, s10, s11, s15, s17, s18, s19, s20, s23, s24, s25, s27, s28, s29, s31, s32, s33, s34, sl⟩ := hs
  simp only at hL
  unfold vlM at hv
  simp only [mbL]
  split at hv
  · rename_i hk
    cases hv
    simp only [w_M_value_0, w_M_value_1, w_M_value_4, w_M_value_5, w_M_value_6, w_M_value_9, w_M_value_10, w_M_value_13, w_M_value_14, w_M_value_15, w_M_value_16, l0, l1, mb_hp_a, s6, s10, h40, h44, hk, show 35 < n by omega, show 40 < n by omega, show 44 < n by omega, nI_clamp (show p < 2 ^ 31 by omega), vp_in_nI hp (by decide), jx_i_s, jx_l_s, jx_a_s, jx_a_n, jx_c_s, jx_v_s, jx_g_s, jx_p_s, jx_ia_s, jx_la_s, jx_aa_s, jx_is_s, jx_ls_s, jx_sn_s, jx_sr_s, jx_n_s, va_rf_s, va_rf_n, jm_ok, jm_up_a, jm_up_up, Bool.or_true, Bool.true_or, Option.some.injEq, Value.int.injEq, Value.long.injEq, Value.ref.injEq, Sum.inr.injEq, Sum.inl.injEq, Prod.mk.injEq, List.getElem?_cons_zero, List.getElem?_cons_succ, List.length_cons, List.length_nil, List.set_cons_zero, List.set_cons_succ, jm_rf, Value.category, and_true, true_and, and_self, and_assoc, jm_p1, jm_p2, jm_k2, Nat.reduceAdd, Nat.reduceEqDiff, Nat.reduceBEq, Bool.and_false, Bool.false_and, Bool.and_true, Bool.true_and, Bool.false_eq_true, ↓reduceIte, reduceCtorEq, zero_ne_one, one_ne_zero, Nat.zero_add, beq_self_eq_true, not_true_eq_false, not_false_eq_true, jz_1, jz_0, Option.toList_some, Option.toList_none, List.cons_append, List.nil_append, implies_true, false_implies, true_implies, not_true_eq_false, not_false_eq_true, Classical.not_not]
  · rename_i hk0
    split at hv
    · rename_i hk
      cases hv
      have e10 : ¬ (1 : Int32) = 0 := by decide
      have t10 : (mbf fs (N + 1) x)[10]? = some (.ref 44) := by
        rw [mbf_ne (by decide) (by decide), ← mbf_ne (N := N) (x := x) (by decide) (by decide)]
        exact s10
      simp only [w_M_value_0, w_M_value_1, w_M_value_4, w_M_value_5, w_M_value_6, w_M_value_17, w_M_value_18, w_M_value_21, w_M_value_22, w_M_value_23, w_M_value_24, w_M_value_27, w_M_value_28, w_M_value_31, w_M_value_32, w_M_value_35, w_M_value_36, w_M_value_39, w_M_value_40, w_M_value_41, w_M_value_42, w_M_value_43, w_M_value_46, w_M_value_47, w_M_value_50, w_M_value_51, w_M_value_54, w_M_value_55, w_M_value_56, w_M_value_57, w_M_value_58, w_M_value_61, w_M_value_62, w_M_value_65, w_M_value_66, w_M_value_69, w_M_value_70, w_M_value_71, w_M_value_72, w_M_value_73, w_M_value_76, w_M_value_77, w_M_value_80, w_M_value_81, w_M_value_84, w_M_value_85, w_M_value_86, w_M_value_87, w_M_value_88, w_M_value_89, w_M_value_90, w_M_value_93, w_M_value_94, w_M_value_95, w_M_value_98, w_M_value_99, w_M_value_102, w_M_value_103, w_M_value_104, w_M_value_105, l0, l1, mb_hp_a, s6, s7, s8, s9, s10, s17, s18, s19, s20, t10, h40, h41, h42, h43, h44, hk, e10, mbf_16 hs0 N x, mbf_s16, mb_35, mb_47, mb_48, mb_49, mb_50, sl, nI_1, show 35 < n by omega, show 40 < n by omega, show 41 < n by omega, show 42 < n by omega, show 43 < n by omega, show 44 < n by omega, show 47 < n by omega, show 48 < n by omega, show 49 < n by omega, show 50 < n by omega, nI_clamp (show p < 2 ^ 31 by omega), vp_in_nI hp (by decide), nI_clamp (show N < 2 ^ 31 by omega), vp_in_nI hL (by decide), Nat.reduceLT, jx_i_s, jx_l_s, jx_a_s, jx_a_n, jx_c_s, jx_v_s, jx_g_s, jx_p_s, jx_ia_s, jx_la_s, jx_aa_s, jx_is_s, jx_ls_s, jx_sn_s, jx_sr_s, jx_n_s, va_rf_s, va_rf_n, jm_ok, jm_up_a, jm_up_up, Bool.or_true, Bool.true_or, Option.some.injEq, Value.int.injEq, Value.long.injEq, Value.ref.injEq, Sum.inr.injEq, Sum.inl.injEq, Prod.mk.injEq, List.getElem?_cons_zero, List.getElem?_cons_succ, List.length_cons, List.length_nil, List.set_cons_zero, List.set_cons_succ, jm_rf, Value.category, and_true, true_and, and_self, and_assoc, jm_p1, jm_p2, jm_k2, Nat.reduceAdd, Nat.reduceEqDiff, Nat.reduceBEq, Bool.and_false, Bool.false_and, Bool.and_true, Bool.true_and, Bool.false_eq_true, ↓reduceIte, reduceCtorEq, zero_ne_one, one_ne_zero, Nat.zero_add, beq_self_eq_true, not_true_eq_false, not_false_eq_true, jz_1, jz_0, Option.toList_some, Option.toList_none, List.cons_append, List.nil_append, implies_true, false_implies, true_implies, not_true_eq_false, not_false_eq_true, Classical.not_not]
    · rename_i hk1
      split at hv
      · rename_i hk
        have e20 : ¬ (2 : Int32) = 0 := by decide
        have e21 : ¬ (2 : Int32) = 1 := by decide
        simp only at hv
        simp only [w_M_value_0, w_M_value_1, w_M_value_4, w_M_value_5, w_M_value_6, w_M_value_17, w_M_value_18, w_M_value_21, w_M_value_22, w_M_value_23, w_M_value_24, w_M_value_106, w_M_value_107, w_M_value_110, w_M_value_111, w_M_value_112, w_M_value_113, w_M_value_116, w_M_value_117, w_M_value_118, w_M_value_121, w_M_value_122, w_M_value_123, w_M_value_124, w_M_value_127, w_M_value_128, w_M_value_129, w_M_value_130, w_M_value_133, w_M_value_134, w_M_value_135, w_M_value_136, w_M_value_139, w_M_value_140, l0, l1, mb_hp_a, s6, s7, s8, s9, s10, h40, h41, h42, h43, h44, hk, e20, e21, show 35 < n by omega, show 40 < n by omega, show 41 < n by omega, show 42 < n by omega, show 43 < n by omega, show 44 < n by omega, nI_clamp (show p < 2 ^ 31 by omega), vp_in_nI hp (by decide), jx_i_s, jx_l_s, jx_a_s, jx_a_n, jx_c_s, jx_v_s, jx_g_s, jx_p_s, jx_ia_s, jx_la_s, jx_aa_s, jx_is_s, jx_ls_s, jx_sn_s, jx_sr_s, jx_n_s, va_rf_s, va_rf_n, jm_ok, jm_up_a, jm_up_up, Bool.or_true, Bool.true_or, Option.some.injEq, Value.int.injEq, Value.long.injEq, Value.ref.injEq, Sum.inr.injEq, Sum.inl.injEq, Prod.mk.injEq, List.getElem?_cons_zero, List.getElem?_cons_succ, List.length_cons, List.length_nil, List.set_cons_zero, List.set_cons_succ, jm_rf, Value.category, and_true, true_and, and_self, and_assoc, jm_p1, jm_p2, jm_k2, Nat.reduceAdd, Nat.reduceEqDiff, Nat.reduceBEq, Bool.and_false, Bool.false_and, Bool.and_true, Bool.true_and, Bool.false_eq_true, ↓reduceIte, reduceCtorEq, zero_ne_one, one_ne_zero, Nat.zero_add, beq_self_eq_true, not_true_eq_false, not_false_eq_true, jz_1, jz_0, Option.toList_some, Option.toList_none, List.cons_append, List.nil_append, implies_true, false_implies, true_implies, not_true_eq_false, not_false_eq_true, Classical.not_not]
        split at hv
        · cases hv
        · rename_i co q2 k2 ht
          cases hv
          refine w_M_value_141 (c_M_taken d hn hs0 (by omega) ht) (fs := mbf fs N x) (by simp only [mb_hp_a]; rfl) (show 35 < n by omega) (Nat.le_of_ble_eq_true rfl) ?_
          simp only [w_M_value_144, w_M_value_145, w_M_value_149, jx_i_s, jx_l_s, jx_a_s, jx_a_n, jx_c_s, jx_v_s, jx_g_s, jx_p_s, jx_ia_s, jx_la_s, jx_aa_s, jx_is_s, jx_ls_s, jx_sn_s, jx_sr_s, jx_n_s, va_rf_s, va_rf_n, jm_ok, jm_up_a, jm_up_up, Bool.or_true, Bool.true_or, Option.some.injEq, Value.int.injEq, Value.long.injEq, Value.ref.injEq, Sum.inr.injEq, Sum.inl.injEq, Prod.mk.injEq, List.getElem?_cons_zero, List.getElem?_cons_succ, List.length_cons, List.length_nil, List.set_cons_zero, List.set_cons_succ, jm_rf, Value.category, and_true, true_and, and_self, and_assoc, jm_p1, jm_p2, jm_k2, Nat.reduceAdd, Nat.reduceEqDiff, Nat.reduceBEq, Bool.and_false, Bool.false_and, Bool.and_true, Bool.true_and, Bool.false_eq_true, ↓reduceIte, reduceCtorEq, zero_ne_one, one_ne_zero, Nat.zero_add, beq_self_eq_true, not_true_eq_false, not_false_eq_true, jz_1, jz_0, Option.toList_some, Option.toList_none, List.cons_append, List.nil_append, implies_true, false_implies, true_implies, not_true_eq_false, not_false_eq_true, Classical.not_not]
      · rename_i hk2
        cases hv
        simp only [w_M_value_0, w_M_value_1, w_M_value_4, w_M_value_5, w_M_value_6, w_M_value_17, w_M_value_18, w_M_value_21, w_M_value_22, w_M_value_23, w_M_value_24, w_M_value_106, w_M_value_107, w_M_value_110, w_M_value_111, w_M_value_112, w_M_value_113, w_M_value_148, w_M_value_149, l0, l1, mb_hp_a, s6, h40, hk0, hk1, hk2, show 35 < n by omega, show 40 < n by omega, nI_clamp (show p < 2 ^ 31 by omega), vp_in_nI hp (by decide), jx_i_s, jx_l_s, jx_a_s, jx_a_n, jx_c_s, jx_v_s, jx_g_s, jx_p_s, jx_ia_s, jx_la_s, jx_aa_s, jx_is_s, jx_ls_s, jx_sn_s, jx_sr_s, jx_n_s, va_rf_s, va_rf_n, jm_ok, jm_up_a, jm_up_up, Bool.or_true, Bool.true_or, Option.some.injEq, Value.int.injEq, Value.long.injEq, Value.ref.injEq, Sum.inr.injEq, Sum.inl.injEq, Prod.mk.injEq, List.getElem?_cons_zero, List.getElem?_cons_succ, List.length_cons, List.length_nil, List.set_cons_zero, List.set_cons_succ, jm_rf, Value.category, and_true, true_and, and_self, and_assoc, jm_p1, jm_p2, jm_k2, Nat.reduceAdd, Nat.reduceEqDiff, Nat.reduceBEq, Bool.and_false, Bool.false_and, Bool.and_true, Bool.true_and, Bool.false_eq_true, ↓reduceIte, reduceCtorEq, zero_ne_one, one_ne_zero, Nat.zero_add, beq_self_eq_true, not_true_eq_false, not_false_eq_true, jz_1, jz_0, Option.toList_some, Option.toList_none, List.cons_append, List.nil_append, implies_true, false_implies, true_implies, not_true_eq_false, not_false_eq_true, Classical.not_not]
theorem c_M_value_no (d : Nat) (hn : 61 ≤ n) (hs : mo_st fs) (h40 : f 40 = .inl (0, 246, .inl kd)) (h41 : f 41 = .inl (0, 246, .inl oa)) (h42 : f 42 = .inl (0, 246, .inl cm)) (h43 : f 43 = .inl (0, 246, .inl qt)) (h44 : f 44 = .inl (0, 246, .inl am)) (hp : p < 246) (hL : L.1 < 246) (hv : vlM L (kd p) (oa p) (cm p) (qt p) (am p) = none) : jm_call (d + 4) 101 [.ref 35, .int (nI p)] (n, mbL f fs x wt L) (some (.long 0)) (n, mbL f fs 1 wt L) := by
  refine ⟨Nat.le_of_ble_eq_true rfl, ?_⟩
  have l0 : (jm_a0 (lv_args 0 [.ref 35, .int (nI p)])) 0 = some (.ref 35) := rfl
  have l1 : (jm_a0 (lv_args 0 [.ref 35, .int (nI p)])) 1 = some (.int (nI p)) := rfl
  generalize jm_a0 (lv_args 0 [.ref 35, .int (nI p)]) = lv at l0 l1 ⊢
  obtain ⟨N, lo, lc, lq, lk⟩ := L
  have hs0 := hs
  have hs := mbf_st hs0 N x
  obtain ⟨s1, s2, s4, s5, s6, s7, s8, s9, s10, s11, s15, s17, s18, s19, s20, s23, s24, s25, s27, s28, s29, s31, s32, s33, s34, sl⟩ := hs
  simp only at hL
  unfold vlM at hv
  simp only [mbL]
  split at hv
  · cases hv
  · split at hv
    · cases hv
    · split at hv
      · rename_i hk
        have e20 : ¬ (2 : Int32) = 0 := by decide
        have e21 : ¬ (2 : Int32) = 1 := by decide
        simp only at hv
        simp only [w_M_value_0, w_M_value_1, w_M_value_4, w_M_value_5, w_M_value_6, w_M_value_17, w_M_value_18, w_M_value_21, w_M_value_22, w_M_value_23, w_M_value_24, w_M_value_106, w_M_value_107, w_M_value_110, w_M_value_111, w_M_value_112, w_M_value_113, w_M_value_116, w_M_value_117, w_M_value_118, w_M_value_121, w_M_value_122, w_M_value_123, w_M_value_124, w_M_value_127, w_M_value_128, w_M_value_129, w_M_value_130, w_M_value_133, w_M_value_134, w_M_value_135, w_M_value_136, w_M_value_139, w_M_value_140, l0, l1, mb_hp_a, s6, s7, s8, s9, s10, h40, h41, h42, h43, h44, hk, e20, e21, show 35 < n by omega, show 40 < n by omega, show 41 < n by omega, show 42 < n by omega, show 43 < n by omega, show 44 < n by omega, nI_clamp (show p < 2 ^ 31 by omega), vp_in_nI hp (by decide), jx_i_s, jx_l_s, jx_a_s, jx_a_n, jx_c_s, jx_v_s, jx_g_s, jx_p_s, jx_ia_s, jx_la_s, jx_aa_s, jx_is_s, jx_ls_s, jx_sn_s, jx_sr_s, jx_n_s, va_rf_s, va_rf_n, jm_ok, jm_up_a, jm_up_up, Bool.or_true, Bool.true_or, Option.some.injEq, Value.int.injEq, Value.long.injEq, Value.ref.injEq, Sum.inr.injEq, Sum.inl.injEq, Prod.mk.injEq, List.getElem?_cons_zero, List.getElem?_cons_succ, List.length_cons, List.length_nil, List.set_cons_zero, List.set_cons_succ, jm_rf, Value.category, and_true, true_and, and_self, and_assoc, jm_p1, jm_p2, jm_k2, Nat.reduceAdd, Nat.reduceEqDiff, Nat.reduceBEq, Bool.and_false, Bool.false_and, Bool.and_true, Bool.true_and, Bool.false_eq_true, ↓reduceIte, reduceCtorEq, zero_ne_one, one_ne_zero, Nat.zero_add, beq_self_eq_true, not_true_eq_false, not_false_eq_true, jz_1, jz_0, Option.toList_some, Option.toList_none, List.cons_append, List.nil_append, implies_true, false_implies, true_implies, not_true_eq_false, not_false_eq_true, Classical.not_not]
        split at hv
        · rename_i ht
          have hu : ¬ qt p ≤ suM lo lc lq (oa p) (cm p) N := by
            unfold tkR at ht
            split at ht
            · cases ht
            · assumption
          refine w_M_value_141 (c_M_taken_no (d + 1) hn hs0 (by omega) hu) (fs := mbf fs N x) (by simp only [mb_hp_a]; rfl) (show 35 < n by omega) (Nat.le_of_ble_eq_true rfl) ?_
          simp only [w_M_value_144, w_M_value_145, w_M_value_149, show -(0 : Int64) = 0 by decide, jx_i_s, jx_l_s, jx_a_s, jx_a_n, jx_c_s, jx_v_s, jx_g_s, jx_p_s, jx_ia_s, jx_la_s, jx_aa_s, jx_is_s, jx_ls_s, jx_sn_s, jx_sr_s, jx_n_s, va_rf_s, va_rf_n, jm_ok, jm_up_a, jm_up_up, Bool.or_true, Bool.true_or, Option.some.injEq, Value.int.injEq, Value.long.injEq, Value.ref.injEq, Sum.inr.injEq, Sum.inl.injEq, Prod.mk.injEq, List.getElem?_cons_zero, List.getElem?_cons_succ, List.length_cons, List.length_nil, List.set_cons_zero, List.set_cons_succ, jm_rf, Value.category, and_true, true_and, and_self, and_assoc, jm_p1, jm_p2, jm_k2, Nat.reduceAdd, Nat.reduceEqDiff, Nat.reduceBEq, Bool.and_false, Bool.false_and, Bool.and_true, Bool.true_and, Bool.false_eq_true, ↓reduceIte, reduceCtorEq, zero_ne_one, one_ne_zero, Nat.zero_add, beq_self_eq_true, not_true_eq_false, not_false_eq_true, jz_1, jz_0, Option.toList_some, Option.toList_none, List.cons_append, List.nil_append, implies_true, false_implies, true_implies, not_true_eq_false, not_false_eq_true, Classical.not_not]
        · cases hv
      · cases hv
end
