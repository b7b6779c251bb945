theorem mbf_3 (fs : List Value) (N : Nat) (x : Int32) : (mbf fs N x)[3]? = fs[3]? := mbf_ne (by decide) (by decide)
theorem mbf_5 (fs : List Value) (N : Nat) (x : Int32) : (mbf fs N x)[5]? = fs[5]? := mbf_ne (by decide) (by decide)
theorem mbf_6 (fs : List Value) (N : Nat) (x : Int32) : (mbf fs N x)[6]? = fs[6]? := mbf_ne (by decide) (by decide)
theorem mbf_11 (fs : List Value) (N : Nat) (x : Int32) : (mbf fs N x)[11]? = fs[11]? := mbf_ne (by decide) (by decide)
section
variable (kd oa cm qt am : Nat → Int32)
/-- m postings from p on: lots, weights, sum, the rest's place; left: a lot is lacking -/
def bkF : Nat → Nat → LT × (Nat → Int64) × Int64 × Option Nat → (LT × (Nat → Int64)) ⊕ (LT × (Nat → Int64) × Int64 × Option Nat)
  | _, 0, s => .inr s
  | p, m + 1, s => match vlM s.1 (kd p) (oa p) (cm p) (qt p) (am p) with
    | none => .inl (s.1, vp_updL s.2.1 p 0)
    | some (v, L) => bkF (p + 1) m (L, vp_updL s.2.1 p v, s.2.2.1 + v, if kd p = 3 then some p else s.2.2.2)
theorem bkF_z (p : Nat) (s : LT × (Nat → Int64) × Int64 × Option Nat) : bkF kd oa cm qt am p 0 s = .inr s := rfl
theorem bkF_n {p m : Nat} {s : LT × (Nat → Int64) × Int64 × Option Nat} (h : vlM s.1 (kd p) (oa p) (cm p) (qt p) (am p) = none) : bkF kd oa cm qt am p (m + 1) s = .inl (s.1, vp_updL s.2.1 p 0) := by
  rw [bkF, h]
theorem bkF_s {p m : Nat} {s : LT × (Nat → Int64) × Int64 × Option Nat} {v : Int64} {L : LT} (h : vlM s.1 (kd p) (oa p) (cm p) (qt p) (am p) = some (v, L)) : bkF kd oa cm qt am p (m + 1) s = bkF kd oa cm qt am (p + 1) m (L, vp_updL s.2.1 p v, s.2.2.1 + v, if kd p = 3 then some p else s.2.2.2) := by
  rw [bkF, h]
theorem bkF_le : ∀ (m p : Nat) (s s' : LT × (Nat → Int64) × Int64 × Option Nat), bkF kd oa cm qt am p m s = .inr s' → s'.1.1 ≤ s.1.1 + m ∧ (∀ r, s'.2.2.2 = some r → s.2.2.2 = some r ∨ (p ≤ r ∧ r < p + m)) := by
  intro m
  induction m with
  | zero =>
    intro p s s' h
    cases h
    exact ⟨Nat.le_refl _, fun r hr => Or.inl hr⟩
  | succ m ih =>
    intro p s s' h
    cases hv : vlM s.1 (kd p) (oa p) (cm p) (qt p) (am p) with
    | none =>
      rw [bkF_n _ _ _ _ _ hv] at h
      cases h
    | some vL =>
      obtain ⟨v, L⟩ := vL
      rw [bkF_s _ _ _ _ _ hv] at h
      obtain ⟨h1, h2⟩ := ih _ _ _ h
      have h3 := vlM_le hv
      simp only at h1 h2
      refine ⟨by omega, fun r hr => ?_⟩
      rcases h2 r hr with h4 | h4
      · split at h4
        · cases h4; exact Or.inr ⟨Nat.le_refl _, by omega⟩
        · exact Or.inl h4
      · exact Or.inr ⟨by omega, by omega⟩
theorem bkF_l : ∀ (m p : Nat) (s : LT × (Nat → Int64) × Int64 × Option Nat) (s' : LT × (Nat → Int64)), bkF kd oa cm qt am p m s = .inl s' → s'.1.1 ≤ s.1.1 + m := by
  intro m
  induction m with
  | zero => intro p s s' h; cases h
  | succ m ih =>
    intro p s s' h
    cases hv : vlM s.1 (kd p) (oa p) (cm p) (qt p) (am p) with
    | none =>
      rw [bkF_n _ _ _ _ _ hv] at h
      cases h
      exact Nat.le_add_right _ _
    | some vL =>
      obtain ⟨v, L⟩ := vL
      rw [bkF_s _ _ _ _ _ hv] at h
      have h1 := ih _ _ _ h
      have h3 := vlM_le hv
      simp only at h1
      omega
/-- m transactions from t on: the answer, lacking, lots, weights -/
def bkA (mt : Nat → Nat) : Nat → Nat → LT → (Nat → Int64) → Int32 × Int32 × LT × (Nat → Int64)
  | _, 0, L, wt => (-1, 0, L, wt)
  | t, m + 1, L, wt => match bkF kd oa cm qt am (6 * t) (mt t) (L, wt, 0, none) with
    | .inl s => (2 * nI t, 1, s.1, s.2)
    | .inr s => match s.2.2.2 with
      | some p => bkA mt (t + 1) m s.1 (vp_updL s.2.1 p (-s.2.2.1))
      | none => if s.2.2.1 = 0 then bkA mt (t + 1) m s.1 s.2.1 else (2 * nI t + 1, 0, s.1, s.2.1)
theorem bkA_le (mt : Nat → Nat) : ∀ (m t : Nat) (L : LT) (wt : Nat → Int64), (∀ j, t ≤ j → j < t + m → mt j ≤ 6) → L.1 ≤ 6 * t → (bkA kd oa cm qt am mt t m L wt).2.2.1.1 ≤ 6 * (t + m) := by
  intro m
  induction m with
  | zero => intro t L wt hm hL; exact hL
  | succ m ih =>
    intro t L wt hm hL
    have h6 := hm t (Nat.le_refl _) (by omega)
    unfold bkA
    cases hb : bkF kd oa cm qt am (6 * t) (mt t) (L, wt, 0, none) with
    | inl s =>
      have := bkF_l kd oa cm qt am _ _ _ _ hb
      simp only at this ⊢
      omega
    | inr s =>
      obtain ⟨h1, -⟩ := bkF_le kd oa cm qt am _ _ _ _ hb
      simp only at h1 ⊢
      have e : t + 1 + m = t + (m + 1) := by omega
      cases s.2.2.2 with
      | some p =>
        have := ih (t + 1) s.1 (vp_updL s.2.1 p (-s.2.2.1)) (fun j h1 h2 => hm j (by omega) (by omega)) (by omega)
        rw [e] at this
        exact this
      | none =>
        simp only
        split
        · have := ih (t + 1) s.1 s.2.1 (fun j h1 h2 => hm j (by omega) (by omega)) (by omega)
          rw [e] at this
          exact this
        · simp only
          omega
end
section
variable {C : jm_C} {Q : jm_Q} {n : Nat} {f : Nat → va_E} {fs : List Value} {mn kd oa cm qt am : Nat → Int32}
theorem mbL_a (f : Nat → va_E) (fs : List Value) (x : Int32) (wt : Nat → Int64) (L : LT) (j : Nat) : mbL f fs x wt L j = if j = 35 then .inr (11, mbf fs L.1 x) else if j = 45 then .inl (1, 246, .inr (.inl wt)) else if j = 47 then .inl (0, 246, .inl L.2.1) else if j = 48 then .inl (0, 246, .inl L.2.2.1) else if j = 49 then .inl (0, 246, .inl L.2.2.2.1) else if j = 50 then .inl (1, 246, .inr (.inl L.2.2.2.2)) else f j := rfl
theorem mbL_45 {x : Int32} {wt : Nat → Int64} {L : LT} (g : Nat → Int64) : jm_up (mbL f fs x wt L) 45 (.inl (1, 246, .inr (.inl g))) = mbL f fs x g L := mb_45 g
theorem mbL_21 {x : Int32} {wt : Nat → Int64} {L : LT} (y : Int32) : jm_up (mbL f fs x wt L) 35 (.inr (11, (mbf fs L.1 x).set 21 (.int y))) = mbL f fs y wt L := by
  rw [mbf_s21]
  exact mb_35 _
theorem mbL_16 {x : Int32} {wt : Nat → Int64} {L : LT} : jm_up (mbL f fs x wt L) 35 (.inr (11, (mbf fs L.1 x).set 16 (.int 0))) = mbL f fs x wt (0, L.2) := by
  have e := mbf_s16 fs L.1 0 x
  rw [nI_0] at e
  rw [e]
  exact mb_35 _
theorem w_bookF {d t M : Nat} {s0 : LT × (Nat → Int64) × Int64 × Option Nat} (hn : 61 ≤ n) (hs : mo_st fs) (h39 : f 39 = .inl (0, 41, .inl mn)) (h40 : f 40 = .inl (0, 246, .inl kd)) (h41 : f 41 = .inl (0, 246, .inl oa)) (h42 : f 42 = .inl (0, 246, .inl cm)) (h43 : f 43 = .inl (0, 246, .inl qt)) (h44 : f 44 = .inl (0, 246, .inl am)) (ht : t < 41) (hM : mn t = nI M) (hM6 : M ≤ 6)
    (ok : ∀ s' lv, bkF kd oa cm qt am (6 * t) M s0 = .inr s' → lv 0 = some (.ref 35) → lv 1 = some (.int (nI t)) → lv 2 = some (.long s'.2.2.1) → lv 4 = some (.int (oI s'.2.2.2)) → jm_wp (jm_call (d + 4)) 100 Q (108, lv, [], (n, mbL f fs 0 s'.2.1 s'.1)))
    (no : ∀ s', bkF kd oa cm qt am (6 * t) M s0 = .inl s' → Q (some (.int (2 * nI t))) (n, mbL f fs 1 s'.2 s'.1)) :
    ∀ (m k : Nat) (s : LT × (Nat → Int64) × Int64 × Option Nat) (lv : jm_L), k + m = M → bkF kd oa cm qt am (6 * t + k) m s = bkF kd oa cm qt am (6 * t) M s0 → s.1.1 ≤ 6 * t + k → lv 0 = some (.ref 35) → lv 1 = some (.int (nI t)) → lv 2 = some (.long s.2.2.1) → lv 4 = some (.int (oI s.2.2.2)) → lv 5 = some (.int (nI k)) → jm_wp (jm_call (d + 4)) 100 Q (28, lv, [], (n, mbL f fs 0 s.2.1 s.1)) := by
  have hs' := hs
  obtain ⟨s1, s2, s4, s5, s6, s7, s8, s9, s10, s11, s15, s17, s18, s19, s20, s23, s24, s25, s27, s28, s29, s31, s32, s33, s34, sl⟩ := hs
  intro m
  induction m with
  | zero =>
    intro k s lv hk e hL l0 l1 l2 l4 l5
    have : k = M := by omega
    subst this
    rw [w_M_book_28]
    simp only [w_M_book_30, w_M_book_31, w_M_book_34, w_M_book_35, w_M_book_36, l0, l1, l5, mbL_a, mbf_5, s5, h39, hM, show 35 < n by omega, show 39 < n by omega, nI_leI (show k < 2 ^ 31 by omega) (show k < 2 ^ 31 by omega), Nat.le_refl, nI_clamp (show t < 2 ^ 31 by omega), vp_in_nI ht (by decide), jx_i_s, jx_l_s, jx_a_s, jx_a_n, jx_c_s, jx_v_s, jx_g_s, jx_p_s, jx_ia_s, jx_la_s, jx_aa_s, jx_is_s, jx_ls_s, jx_sn_s, jx_sr_s, jx_n_s, va_rf_s, va_rf_n, jm_ok, jm_up_a, jm_up_up, Bool.or_true, Bool.true_or, Option.some.injEq, Value.int.injEq, Value.long.injEq, Value.ref.injEq, Sum.inr.injEq, Sum.inl.injEq, Prod.mk.injEq, List.getElem?_cons_zero, List.getElem?_cons_succ, List.length_cons, List.length_nil, List.set_cons_zero, List.set_cons_succ, jm_rf, Value.category, and_true, true_and, and_self, and_assoc, jm_p1, jm_p2, jm_k2, Nat.reduceAdd, Nat.reduceEqDiff, Nat.reduceBEq, Bool.and_false, Bool.false_and, Bool.and_true, Bool.true_and, Bool.false_eq_true, ↓reduceIte, reduceCtorEq, zero_ne_one, one_ne_zero, Nat.zero_add, beq_self_eq_true, not_true_eq_false, not_false_eq_true, jz_1, jz_0, Option.toList_some, Option.toList_none, List.cons_append, List.nil_append, implies_true, false_implies, true_implies, not_true_eq_false, not_false_eq_true, Classical.not_not]
    exact ok s lv e.symm l0 l1 l2 l4
  | succ m ih =>
    intro k s lv hk e hL l0 l1 l2 l4 l5
    obtain ⟨L, wt, su, re⟩ := s
    simp only at hL l2 l4 ⊢
    rw [w_M_book_28]
    simp only [w_M_book_30, w_M_book_31, w_M_book_34, w_M_book_35, w_M_book_36, w_M_book_39, w_M_book_41, w_M_book_42, w_M_book_43, w_M_book_45, w_M_book_46, w_M_book_48, w_M_book_49, w_M_book_52, w_M_book_54, w_M_book_55, l0, l1, l5, mbL_a, mbf_5, mbf_11, s5, s11, h39, hM, n6, show 35 < n by omega, show 39 < n by omega, nI_leI (show M < 2 ^ 31 by omega) (show k < 2 ^ 31 by omega), show ¬ M ≤ k by omega, nI_clamp (show t < 2 ^ 31 by omega), vp_in_nI ht (by decide), jx_i_s, jx_l_s, jx_a_s, jx_a_n, jx_c_s, jx_v_s, jx_g_s, jx_p_s, jx_ia_s, jx_la_s, jx_aa_s, jx_is_s, jx_ls_s, jx_sn_s, jx_sr_s, jx_n_s, va_rf_s, va_rf_n, jm_ok, jm_up_a, jm_up_up, Bool.or_true, Bool.true_or, Option.some.injEq, Value.int.injEq, Value.long.injEq, Value.ref.injEq, Sum.inr.injEq, Sum.inl.injEq, Prod.mk.injEq, List.getElem?_cons_zero, List.getElem?_cons_succ, List.length_cons, List.length_nil, List.set_cons_zero, List.set_cons_succ, jm_rf, Value.category, and_true, true_and, and_self, and_assoc, jm_p1, jm_p2, jm_k2, Nat.reduceAdd, Nat.reduceEqDiff, Nat.reduceBEq, Bool.and_false, Bool.false_and, Bool.and_true, Bool.true_and, Bool.false_eq_true, ↓reduceIte, reduceCtorEq, zero_ne_one, one_ne_zero, Nat.zero_add, beq_self_eq_true, not_true_eq_false, not_false_eq_true, jz_1, jz_0, Option.toList_some, Option.toList_none, List.cons_append, List.nil_append, implies_true, false_implies, true_implies, not_true_eq_false, not_false_eq_true, Classical.not_not]
    cases hv : vlM L (kd (6 * t + k)) (oa (6 * t + k)) (cm (6 * t + k)) (qt (6 * t + k)) (am (6 * t + k)) with
    | none =>
      rw [bkF_n kd oa cm qt am (p := 6 * t + k) (s := (L, wt, su, re)) hv] at e
      refine w_M_book_57 (c_M_value_no d hn hs' h40 h41 h42 h43 h44 (show 6 * t + k < 246 by omega) (by omega) hv) (fs := mbf fs L.1 0) (by simp only [mbL_a]; rfl) (show 35 < n by omega) (Nat.le_of_ble_eq_true rfl) ?_
      have h := no _ e.symm
      simp only at h
      have e10 : ¬ (1 : Int32) = 0 := by decide
      by_cases h3 : kd (6 * t + k) = 3
      all_goals simp only [w_M_book_60, w_M_book_61, w_M_book_62, w_M_book_63, w_M_book_66, w_M_book_68, w_M_book_69, w_M_book_70, w_M_book_71, w_M_book_72, w_M_book_75, w_M_book_77, w_M_book_78, w_M_book_79, w_M_book_82, w_M_book_84, w_M_book_87, w_M_book_89, w_M_book_91, w_M_book_92, w_M_book_95, w_M_book_98, w_M_book_99, w_M_book_100, w_M_book_101, l0, l1, l2, l4, l5, mbL_a, mbL_45, mbf_11, mbf_6, mbf_21 hs', s11, s6, h40, h3, e10, show 35 < n by omega, show 40 < n by omega, show 45 < n by omega, nI_clamp (show 6 * t + k < 2 ^ 31 by omega), vp_in_nI (show 6 * t + k < 246 by omega) (by decide), jx_i_s, jx_l_s, jx_a_s, jx_a_n, jx_c_s, jx_v_s, jx_g_s, jx_p_s, jx_ia_s, jx_la_s, jx_aa_s, jx_is_s, jx_ls_s, jx_sn_s, jx_sr_s, jx_n_s, va_rf_s, va_rf_n, jm_ok, jm_up_a, jm_up_up, Bool.or_true, Bool.true_or, Option.some.injEq, Value.int.injEq, Value.long.injEq, Value.ref.injEq, Sum.inr.injEq, Sum.inl.injEq, Prod.mk.injEq, List.getElem?_cons_zero, List.getElem?_cons_succ, List.length_cons, List.length_nil, List.set_cons_zero, List.set_cons_succ, jm_rf, Value.category, and_true, true_and, and_self, and_assoc, jm_p1, jm_p2, jm_k2, Nat.reduceAdd, Nat.reduceEqDiff, Nat.reduceBEq, Bool.and_false, Bool.false_and, Bool.and_true, Bool.true_and, Bool.false_eq_true, ↓reduceIte, reduceCtorEq, zero_ne_one, one_ne_zero, Nat.zero_add, beq_self_eq_true, not_true_eq_false, not_false_eq_true, jz_1, jz_0, Option.toList_some, Option.toList_none, List.cons_append, List.nil_append, implies_true, false_implies, true_implies, not_true_eq_false, not_false_eq_true, Classical.not_not]
      all_goals exact h
    | some vL =>
      obtain ⟨v, L'⟩ := vL
      rw [bkF_s kd oa cm qt am (p := 6 * t + k) (s := (L, wt, su, re)) hv] at e
      have hle := vlM_le hv
      refine w_M_book_57 (c_M_value d hn hs' h40 h41 h42 h43 h44 (show 6 * t + k < 246 by omega) (by omega) hv) (fs := mbf fs L.1 0) (by simp only [mbL_a]; rfl) (show 35 < n by omega) (Nat.le_of_ble_eq_true rfl) ?_
      by_cases h3 : kd (6 * t + k) = 3
      all_goals simp only [w_M_book_60, w_M_book_61, w_M_book_62, w_M_book_63, w_M_book_66, w_M_book_68, w_M_book_69, w_M_book_70, w_M_book_71, w_M_book_72, w_M_book_75, w_M_book_77, w_M_book_78, w_M_book_79, w_M_book_82, w_M_book_84, w_M_book_87, w_M_book_89, w_M_book_91, w_M_book_92, w_M_book_95, w_M_book_98, w_M_book_99, w_M_book_100, w_M_book_101, w_M_book_102, w_M_book_105, l0, l1, l2, l4, l5, mbL_a, mbL_45, mbf_11, mbf_6, mbf_21 hs', s11, s6, h40, h3, show 35 < n by omega, show 40 < n by omega, show 45 < n by omega, nI_clamp (show 6 * t + k < 2 ^ 31 by omega), vp_in_nI (show 6 * t + k < 246 by omega) (by decide), jx_i_s, jx_l_s, jx_a_s, jx_a_n, jx_c_s, jx_v_s, jx_g_s, jx_p_s, jx_ia_s, jx_la_s, jx_aa_s, jx_is_s, jx_ls_s, jx_sn_s, jx_sr_s, jx_n_s, va_rf_s, va_rf_n, jm_ok, jm_up_a, jm_up_up, Bool.or_true, Bool.true_or, Option.some.injEq, Value.int.injEq, Value.long.injEq, Value.ref.injEq, Sum.inr.injEq, Sum.inl.injEq, Prod.mk.injEq, List.getElem?_cons_zero, List.getElem?_cons_succ, List.length_cons, List.length_nil, List.set_cons_zero, List.set_cons_succ, jm_rf, Value.category, and_true, true_and, and_self, and_assoc, jm_p1, jm_p2, jm_k2, Nat.reduceAdd, Nat.reduceEqDiff, Nat.reduceBEq, Bool.and_false, Bool.false_and, Bool.and_true, Bool.true_and, Bool.false_eq_true, ↓reduceIte, reduceCtorEq, zero_ne_one, one_ne_zero, Nat.zero_add, beq_self_eq_true, not_true_eq_false, not_false_eq_true, jz_1, jz_0, Option.toList_some, Option.toList_none, List.cons_append, List.nil_append, implies_true, false_implies, true_implies, not_true_eq_false, not_false_eq_true, Classical.not_not]
      · rw [if_pos h3] at e
        exact ih (k + 1) (L', vp_updL wt (6 * t + k) v, su + v, some (6 * t + k)) _ (by omega) e (by simp only; omega) (by simp [jm_p1, jm_p2, jm_k2, Value.category, l0]) (by simp [jm_p1, jm_p2, jm_k2, Value.category, l1]) (by simp [jm_p1, jm_p2, jm_k2, Value.category, vp_updL]) (by simp [jm_p1, jm_p2, jm_k2, Value.category, oI]) (by simp [jm_p1, jm_p2, jm_k2, Value.category, nI_1])
      · rw [if_neg h3] at e
        exact ih (k + 1) (L', vp_updL wt (6 * t + k) v, su + v, re) _ (by omega) e (by simp only; omega) (by simp [jm_p1, jm_p2, jm_k2, Value.category, l0]) (by simp [jm_p1, jm_p2, jm_k2, Value.category, l1]) (by simp [jm_p1, jm_p2, jm_k2, Value.category, vp_updL]) (by simp [jm_p1, jm_p2, jm_k2, Value.category, l4]) (by simp [jm_p1, jm_p2, jm_k2, Value.category, nI_1])
theorem w_bookA {d T : Nat} {mt : Nat → Nat} {R : Int32 × Int32 × LT × (Nat → Int64)} (hn : 61 ≤ n) (hs : mo_st fs) (h3 : fs[3]? = some (.int (nI T))) (h39 : f 39 = .inl (0, 41, .inl mn)) (h40 : f 40 = .inl (0, 246, .inl kd)) (h41 : f 41 = .inl (0, 246, .inl oa)) (h42 : f 42 = .inl (0, 246, .inl cm)) (h43 : f 43 = .inl (0, 246, .inl qt)) (h44 : f 44 = .inl (0, 246, .inl am)) (hT : T ≤ 41) (hm : ∀ t, t < T → mn t = nI (mt t) ∧ mt t ≤ 6)
    (hq : Q (some (.int R.1)) (n, mbL f fs R.2.1 R.2.2.2 R.2.2.1)) :
    ∀ (m t : Nat) (L : LT) (wt : Nat → Int64) (lv : jm_L), t + m = T → bkA kd oa cm qt am mt t m L wt = R → L.1 ≤ 6 * t → lv 0 = some (.ref 35) → lv 1 = some (.int (nI t)) → jm_wp (jm_call (d + 4)) 100 Q (12, lv, [], (n, mbL f fs 0 wt L)) := by
  have hs' := hs
  obtain ⟨s1, s2, s4, s5, s6, s7, s8, s9, s10, s11, s15, s17, s18, s19, s20, s23, s24, s25, s27, s28, s29, s31, s32, s33, s34, sl⟩ := hs
  intro m
  induction m with
  | zero =>
    intro t L wt lv hk e hL l0 l1
    subst e
    rw [w_M_book_12]
    simp only [w_M_book_13, w_M_book_14, w_M_book_17, w_M_book_143, w_M_book_144, l0, l1, mbL_a, mbf_3, h3, show 35 < n by omega, nI_leI (show T < 2 ^ 31 by omega) (show t < 2 ^ 31 by omega), show T ≤ t by omega, jx_i_s, jx_l_s, jx_a_s, jx_a_n, jx_c_s, jx_v_s, jx_g_s, jx_p_s, jx_ia_s, jx_la_s, jx_aa_s, jx_is_s, jx_ls_s, jx_sn_s, jx_sr_s, jx_n_s, va_rf_s, va_rf_n, jm_ok, jm_up_a, jm_up_up, Bool.or_true, Bool.true_or, Option.some.injEq, Value.int.injEq, Value.long.injEq, Value.ref.injEq, Sum.inr.injEq, Sum.inl.injEq, Prod.mk.injEq, List.getElem?_cons_zero, List.getElem?_cons_succ, List.length_cons, List.length_nil, List.set_cons_zero, List.set_cons_succ, jm_rf, Value.category, and_true, true_and, and_self, and_assoc, jm_p1, jm_p2, jm_k2, Nat.reduceAdd, Nat.reduceEqDiff, Nat.reduceBEq, Bool.and_false, Bool.false_and, Bool.and_true, Bool.true_and, Bool.false_eq_true, ↓reduceIte, reduceCtorEq, zero_ne_one, one_ne_zero, Nat.zero_add, beq_self_eq_true, not_true_eq_false, not_false_eq_true, jz_1, jz_0, Option.toList_some, Option.toList_none, List.cons_append, List.nil_append, implies_true, false_implies, true_implies, not_true_eq_false, not_false_eq_true, Classical.not_not]
    exact hq
  | succ m ih =>
    intro t L wt lv hk e hL l0 l1
    obtain ⟨hM, hM6⟩ := hm t (by omega)
    rw [w_M_book_12]
    simp only [w_M_book_13, w_M_book_14, w_M_book_17, w_M_book_20, w_M_book_21, w_M_book_22, w_M_book_23, w_M_book_25, w_M_book_26, l0, l1, mbL_a, mbf_3, h3, show 35 < n by omega, nI_leI (show T < 2 ^ 31 by omega) (show t < 2 ^ 31 by omega), show ¬ T ≤ t by omega, jx_i_s, jx_l_s, jx_a_s, jx_a_n, jx_c_s, jx_v_s, jx_g_s, jx_p_s, jx_ia_s, jx_la_s, jx_aa_s, jx_is_s, jx_ls_s, jx_sn_s, jx_sr_s, jx_n_s, va_rf_s, va_rf_n, jm_ok, jm_up_a, jm_up_up, Bool.or_true, Bool.true_or, Option.some.injEq, Value.int.injEq, Value.long.injEq, Value.ref.injEq, Sum.inr.injEq, Sum.inl.injEq, Prod.mk.injEq, List.getElem?_cons_zero, List.getElem?_cons_succ, List.length_cons, List.length_nil, List.set_cons_zero, List.set_cons_succ, jm_rf, Value.category, and_true, true_and, and_self, and_assoc, jm_p1, jm_p2, jm_k2, Nat.reduceAdd, Nat.reduceEqDiff, Nat.reduceBEq, Bool.and_false, Bool.false_and, Bool.and_true, Bool.true_and, Bool.false_eq_true, ↓reduceIte, reduceCtorEq, zero_ne_one, one_ne_zero, Nat.zero_add, beq_self_eq_true, not_true_eq_false, not_false_eq_true, jz_1, jz_0, Option.toList_some, Option.toList_none, List.cons_append, List.nil_append, implies_true, false_implies, true_implies, not_true_eq_false, not_false_eq_true, Classical.not_not]
    refine w_bookF (s0 := (L, wt, 0, none)) hn hs' h39 h40 h41 h42 h43 h44 (by omega) hM hM6 ?_ ?_ (mt t) 0 (L, wt, 0, none) _ (by omega) rfl hL (by simp [jm_p1, jm_p2, jm_k2, Value.category, l0]) (by simp [jm_p1, jm_p2, jm_k2, Value.category, l1]) (by simp [jm_p1, jm_p2, jm_k2, Value.category]) (by simp [jm_p1, jm_p2, jm_k2, Value.category, oI]) (by simp [jm_p1, jm_p2, jm_k2, Value.category, nI])
    · intro s' lv hb l0 l1 l2 l4
      obtain ⟨h1, h2⟩ := bkF_le kd oa cm qt am _ _ _ _ hb
      unfold bkA at e
      rw [hb] at e
      obtain ⟨L', wt', su, re⟩ := s'
      simp only at h1 h2 e l2 l4 ⊢
      cases re with
      | some p =>
        have hp : p < 246 := by
          rcases h2 p rfl with h5 | h5
          · cases h5
          · omega
        simp only [oI] at l4
        simp only at e
        have hneg : ¬ nI p < 0 := by
          exact nI_pos (show p < 2 ^ 31 by omega)
        simp only [w_M_book_108, w_M_book_110, w_M_book_113, w_M_book_114, w_M_book_117, w_M_book_119, w_M_book_120, w_M_book_121, w_M_book_122, w_M_book_137, w_M_book_140, l0, l1, l2, l4, hneg, mbL_a, mbL_45, mbf_11, s11, show 35 < n by omega, show 45 < n by omega, nI_clamp (show p < 2 ^ 31 by omega), vp_in_nI hp (by decide), jx_i_s, jx_l_s, jx_a_s, jx_a_n, jx_c_s, jx_v_s, jx_g_s, jx_p_s, jx_ia_s, jx_la_s, jx_aa_s, jx_is_s, jx_ls_s, jx_sn_s, jx_sr_s, jx_n_s, va_rf_s, va_rf_n, jm_ok, jm_up_a, jm_up_up, Bool.or_true, Bool.true_or, Option.some.injEq, Value.int.injEq, Value.long.injEq, Value.ref.injEq, Sum.inr.injEq, Sum.inl.injEq, Prod.mk.injEq, List.getElem?_cons_zero, List.getElem?_cons_succ, List.length_cons, List.length_nil, List.set_cons_zero, List.set_cons_succ, jm_rf, Value.category, and_true, true_and, and_self, and_assoc, jm_p1, jm_p2, jm_k2, Nat.reduceAdd, Nat.reduceEqDiff, Nat.reduceBEq, Bool.and_false, Bool.false_and, Bool.and_true, Bool.true_and, Bool.false_eq_true, ↓reduceIte, reduceCtorEq, zero_ne_one, one_ne_zero, Nat.zero_add, beq_self_eq_true, not_true_eq_false, not_false_eq_true, jz_1, jz_0, Option.toList_some, Option.toList_none, List.cons_append, List.nil_append, implies_true, false_implies, true_implies, not_true_eq_false, not_false_eq_true, Classical.not_not]
        exact ih (t + 1) L' _ _ (by omega) e (by omega) (by simp [jm_p1, jm_p2, jm_k2, Value.category, l0]) (by simp [jm_p1, jm_p2, jm_k2, Value.category, nI_1])
      | none =>
        simp only [oI] at l4
        have hneg : (-1 : Int32) < 0 := by decide
        simp only at e
        by_cases hz : su = 0
        · rw [if_pos hz] at e
          simp only [w_M_book_108, w_M_book_110, w_M_book_125, w_M_book_126, w_M_book_127, w_M_book_128, w_M_book_137, w_M_book_140, l0, l1, l2, l4, hneg, lg_eq, hz, jx_i_s, jx_l_s, jx_a_s, jx_a_n, jx_c_s, jx_v_s, jx_g_s, jx_p_s, jx_ia_s, jx_la_s, jx_aa_s, jx_is_s, jx_ls_s, jx_sn_s, jx_sr_s, jx_n_s, va_rf_s, va_rf_n, jm_ok, jm_up_a, jm_up_up, Bool.or_true, Bool.true_or, Option.some.injEq, Value.int.injEq, Value.long.injEq, Value.ref.injEq, Sum.inr.injEq, Sum.inl.injEq, Prod.mk.injEq, List.getElem?_cons_zero, List.getElem?_cons_succ, List.length_cons, List.length_nil, List.set_cons_zero, List.set_cons_succ, jm_rf, Value.category, and_true, true_and, and_self, and_assoc, jm_p1, jm_p2, jm_k2, Nat.reduceAdd, Nat.reduceEqDiff, Nat.reduceBEq, Bool.and_false, Bool.false_and, Bool.and_true, Bool.true_and, Bool.false_eq_true, ↓reduceIte, reduceCtorEq, zero_ne_one, one_ne_zero, Nat.zero_add, beq_self_eq_true, not_true_eq_false, not_false_eq_true, jz_1, jz_0, Option.toList_some, Option.toList_none, List.cons_append, List.nil_append, implies_true, false_implies, true_implies, not_true_eq_false, not_false_eq_true, Classical.not_not]
          exact ih (t + 1) L' _ _ (by omega) e (by omega) (by simp [jm_p1, jm_p2, jm_k2, Value.category, l0]) (by simp [jm_p1, jm_p2, jm_k2, Value.category, nI_1])
        · rw [if_neg hz] at e
          subst e
          simp only [w_M_book_108, w_M_book_110, w_M_book_125, w_M_book_126, w_M_book_127, w_M_book_128, w_M_book_131, w_M_book_132, w_M_book_133, w_M_book_134, w_M_book_135, w_M_book_136, l0, l1, l2, l4, hneg, lg_eq, hz, jx_i_s, jx_l_s, jx_a_s, jx_a_n, jx_c_s, jx_v_s, jx_g_s, jx_p_s, jx_ia_s, jx_la_s, jx_aa_s, jx_is_s, jx_ls_s, jx_sn_s, jx_sr_s, jx_n_s, va_rf_s, va_rf_n, jm_ok, jm_up_a, jm_up_up, Bool.or_true, Bool.true_or, Option.some.injEq, Value.int.injEq, Value.long.injEq, Value.ref.injEq, Sum.inr.injEq, Sum.inl.injEq, Prod.mk.injEq, List.getElem?_cons_zero, List.getElem?_cons_succ, List.length_cons, List.length_nil, List.set_cons_zero, List.set_cons_succ, jm_rf, Value.category, and_true, true_and, and_self, and_assoc, jm_p1, jm_p2, jm_k2, Nat.reduceAdd, Nat.reduceEqDiff, Nat.reduceBEq, Bool.and_false, Bool.false_and, Bool.and_true, Bool.true_and, Bool.false_eq_true, ↓reduceIte, reduceCtorEq, zero_ne_one, one_ne_zero, Nat.zero_add, beq_self_eq_true, not_true_eq_false, not_false_eq_true, jz_1, jz_0, Option.toList_some, Option.toList_none, List.cons_append, List.nil_append, implies_true, false_implies, true_implies, not_true_eq_false, not_false_eq_true, Classical.not_not]
          exact hq
    · intro s' hb
      unfold bkA at e
      rw [hb] at e
      subst e
      exact hq
/-- book -/
theorem c_M_book (d : Nat) {T : Nat} {mt : Nat → Nat} {L : LT} {wt : Nat → Int64} {x : Int32} (hn : 61 ≤ n) (hs : mo_st fs) (h3 : fs[3]? = some (.int (nI T))) (h39 : f 39 = .inl (0, 41, .inl mn)) (h40 : f 40 = .inl (0, 246, .inl kd)) (h41 : f 41 = .inl (0, 246, .inl oa)) (h42 : f 42 = .inl (0, 246, .inl cm)) (h43 : f 43 = .inl (0, 246, .inl qt)) (h44 : f 44 = .inl (0, 246, .inl am)) (hT : T ≤ 41) (hm : ∀ t, t < T → mn t = nI (mt t) ∧ mt t ≤ 6) :
    jm_call (d + 5) 100 [.ref 35] (n, mbL f fs x wt L) (some (.int (bkA kd oa cm qt am mt 0 T (0, L.2) wt).1)) (n, mbL f fs (bkA kd oa cm qt am mt 0 T (0, L.2) wt).2.1 (bkA kd oa cm qt am mt 0 T (0, L.2) wt).2.2.2 (bkA kd oa cm qt am mt 0 T (0, L.2) wt).2.2.1) := by
  refine ⟨Nat.le_of_ble_eq_true rfl, ?_⟩
  have l0 : (jm_a0 (lv_args 0 [.ref 35])) 0 = some (.ref 35) := rfl
  generalize jm_a0 (lv_args 0 [.ref 35]) = lv at l0 ⊢
  have hl : ∀ N y, (mbf fs N y).length = 35 := fun N y => mo_st_len (mbf_st hs N y)
  simp only [w_M_book_0, w_M_book_1, w_M_book_2, w_M_book_5, w_M_book_6, w_M_book_7, w_M_book_10, w_M_book_11, l0, mbL_a, hl, mbL_16, mbL_21, Nat.reduceLT, show 35 < n by omega, jx_i_s, jx_l_s, jx_a_s, jx_a_n, jx_c_s, jx_v_s, jx_g_s, jx_p_s, jx_ia_s, jx_la_s, jx_aa_s, jx_is_s, jx_ls_s, jx_sn_s, jx_sr_s, jx_n_s, va_rf_s, va_rf_n, jm_ok, jm_up_a, jm_up_up, Bool.or_true, Bool.true_or, Option.some.injEq, Value.int.injEq, Value.long.injEq, Value.ref.injEq, Sum.inr.injEq, Sum.inl.injEq, Prod.mk.injEq, List.getElem?_cons_zero, List.getElem?_cons_succ, List.length_cons, List.length_nil, List.set_cons_zero, List.set_cons_succ, jm_rf, Value.category, and_true, true_and, and_self, and_assoc, jm_p1, jm_p2, jm_k2, Nat.reduceAdd, Nat.reduceEqDiff, Nat.reduceBEq, Bool.and_false, Bool.false_and, Bool.and_true, Bool.true_and, Bool.false_eq_true, ↓reduceIte, reduceCtorEq, zero_ne_one, one_ne_zero, Nat.zero_add, beq_self_eq_true, not_true_eq_false, not_false_eq_true, jz_1, jz_0, Option.toList_some, Option.toList_none, List.cons_append, List.nil_append, implies_true, false_implies, true_implies, not_true_eq_false, not_false_eq_true, Classical.not_not]
  rw [show jm_up (mbL f fs x wt (0, L.2)) 35 (.inr (11, (mbf fs 0 x).set 21 (.int 0))) = mbL f fs 0 wt (0, L.2) from mbL_21 0]
  refine w_bookA (R := bkA kd oa cm qt am mt 0 T (0, L.2) wt) (mt := mt) hn hs h3 h39 h40 h41 h42 h43 h44 hT hm ?_ T 0 (0, L.2) wt _ (by omega) rfl (Nat.zero_le _) ?_ ?_
  · exact ⟨rfl, rfl⟩
  · exact (by simp [jm_p1, jm_p2, jm_k2, Value.category, l0])
  · exact (by simp [jm_p1, jm_p2, jm_k2, Value.category, nI])
end
