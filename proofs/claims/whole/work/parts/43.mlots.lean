/-- the heap with what a booking changes put in -/
def mb_hp (f : Nat → va_E) (fs : List Value) (wt : Nat → Int64) (lo lc lq : Nat → Int32) (lk : Nat → Int64) : Nat → va_E := fun j => if j = 35 then .inr (11, fs) else if j = 45 then .inl (1, 246, .inr (.inl wt)) else if j = 47 then .inl (0, 246, .inl lo) else if j = 48 then .inl (0, 246, .inl lc) else if j = 49 then .inl (0, 246, .inl lq) else if j = 50 then .inl (1, 246, .inr (.inl lk)) else f j
theorem mb_hp_a (f : Nat → va_E) (fs : List Value) (wt : Nat → Int64) (lo lc lq : Nat → Int32) (lk : Nat → Int64) (j : Nat) : mb_hp f fs wt lo lc lq lk j = if j = 35 then .inr (11, fs) else if j = 45 then .inl (1, 246, .inr (.inl wt)) else if j = 47 then .inl (0, 246, .inl lo) else if j = 48 then .inl (0, 246, .inl lc) else if j = 49 then .inl (0, 246, .inl lq) else if j = 50 then .inl (1, 246, .inr (.inl lk)) else f j := rfl
section
variable {f : Nat → va_E} {fs : List Value} {wt : Nat → Int64} {lo lc lq : Nat → Int32} {lk : Nat → Int64}
theorem mb_35 (fs' : List Value) : jm_up (mb_hp f fs wt lo lc lq lk) 35 (.inr (11, fs')) = mb_hp f fs' wt lo lc lq lk := by
  funext j
  unfold jm_up mb_hp
  grind
theorem mb_45 (g : Nat → Int64) : jm_up (mb_hp f fs wt lo lc lq lk) 45 (.inl (1, 246, .inr (.inl g))) = mb_hp f fs g lo lc lq lk := by
  funext j
  unfold jm_up mb_hp
  grind
theorem mb_47 (g : Nat → Int32) : jm_up (mb_hp f fs wt lo lc lq lk) 47 (.inl (0, 246, .inl g)) = mb_hp f fs wt g lc lq lk := by
  funext j
  unfold jm_up mb_hp
  grind
theorem mb_48 (g : Nat → Int32) : jm_up (mb_hp f fs wt lo lc lq lk) 48 (.inl (0, 246, .inl g)) = mb_hp f fs wt lo g lq lk := by
  funext j
  unfold jm_up mb_hp
  grind
theorem mb_49 (g : Nat → Int32) : jm_up (mb_hp f fs wt lo lc lq lk) 49 (.inl (0, 246, .inl g)) = mb_hp f fs wt lo lc g lk := by
  funext j
  unfold jm_up mb_hp
  grind
theorem mb_50 (g : Nat → Int64) : jm_up (mb_hp f fs wt lo lc lq lk) 50 (.inl (1, 246, .inr (.inl g))) = mb_hp f fs wt lo lc lq g := by
  funext j
  unfold jm_up mb_hp
  grind
end
/-- merging -/
def mg1 (lo lc : Nat → Int32) (a w : Int32) (l : Nat) (s : Option Nat × (Nat → Int32) × (Nat → Int64)) : Option Nat × (Nat → Int32) × (Nat → Int64) :=
  if lt_is lo lc s.2.1 a w l = true then (match s.1 with
    | none => (some l, s.2.1, s.2.2)
    | some b => (some b, upd (upd s.2.1 b (s.2.1 b + s.2.1 l)) l 0, vp_updL s.2.2 b (s.2.2 b + s.2.2 l))) else s
def mgI (lo lc : Nat → Int32) (a w : Int32) (lq : Nat → Int32) (lk : Nat → Int64) : Nat → Option Nat × (Nat → Int32) × (Nat → Int64)
  | 0 => (none, lq, lk)
  | l + 1 => mg1 lo lc a w l (mgI lo lc a w lq lk l)
theorem mgI_lt {lo lc : Nat → Int32} {a w : Int32} {lq : Nat → Int32} {lk : Nat → Int64} : ∀ {l b : Nat}, (mgI lo lc a w lq lk l).1 = some b → b < l
  | 0, b, h => by cases h
  | l + 1, b, h => by
    simp only [mgI] at h
    unfold mg1 at h
    split at h
    · cases hf : (mgI lo lc a w lq lk l).1 with
      | none =>
        rw [hf] at h
        cases h
        exact Nat.lt_succ_self _
      | some c =>
        rw [hf] at h
        cases h
        have := mgI_lt hf
        omega
    · have := mgI_lt h
      omega
/-- the quantity there is -/
def suM (lo lc lq : Nat → Int32) (a w : Int32) : Nat → Int32
  | 0 => 0
  | l + 1 => suM lo lc lq a w l + (if lt_is lo lc lq a w l = true then lq l else 0)
/-- taking from a lot -/
def tkm (left q : Int32) : Int32 := if q ≤ left then q else left
def tkc (m q : Int32) (k : Int64) : Int64 := if m = q then k else k * m.toInt64 / q.toInt64
def tk1 (lo lc : Nat → Int32) (a w : Int32) (l : Nat) (s : Int32 × Int64 × (Nat → Int32) × (Nat → Int64)) : Int32 × Int64 × (Nat → Int32) × (Nat → Int64) :=
  if lt_is lo lc s.2.2.1 a w l = true then (s.1 - tkm s.1 (s.2.2.1 l), s.2.1 + tkc (tkm s.1 (s.2.2.1 l)) (s.2.2.1 l) (s.2.2.2 l), upd s.2.2.1 l (s.2.2.1 l - tkm s.1 (s.2.2.1 l)), vp_updL s.2.2.2 l (s.2.2.2 l - tkc (tkm s.1 (s.2.2.1 l)) (s.2.2.1 l) (s.2.2.2 l))) else s
def tkx (how : Int32) (N i : Nat) : Nat := if how = 1 then N - 1 - i else i
def tkI (lo lc : Nat → Int32) (a w how : Int32) (N : Nat) (s0 : Int32 × Int64 × (Nat → Int32) × (Nat → Int64)) : Nat → Int32 × Int64 × (Nat → Int32) × (Nat → Int64)
  | 0 => s0
  | i + 1 => if 0 < (tkI lo lc a w how N s0 i).1 then tk1 lo lc a w (tkx how N i) (tkI lo lc a w how N s0 i) else tkI lo lc a w how N s0 i
theorem tkI_stop {lo lc : Nat → Int32} {a w how : Int32} {N : Nat} {s0 : Int32 × Int64 × (Nat → Int32) × (Nat → Int64)} {i : Nat} (h : ¬ 0 < (tkI lo lc a w how N s0 i).1) : ∀ r, tkI lo lc a w how N s0 (i + r) = tkI lo lc a w how N s0 i
  | 0 => rfl
  | r + 1 => by
    show tkI lo lc a w how N s0 ((i + r) + 1) = _
    simp only [tkI]
    rw [tkI_stop h r, if_neg h]
theorem q64_ne {q : Int32} (h : 0 < q) : ¬ q.toInt64 = 0 := fun e => by
  have h1 : q.toInt64.toInt = 0 := by rw [e]; rfl
  rw [Int32.toInt_toInt64] at h1
  rw [Int32.lt_iff_toInt_lt] at h
  have h2 : (0 : Int32).toInt = 0 := rfl
  omega
section
variable {C : jm_C} {Q : jm_Q} {n N : Nat} {f : Nat → va_E} {fs : List Value} {wt : Nat → Int64} {lo lc lq : Nat → Int32} {lk : Nat → Int64} {a w u how : Int32}
theorem w_merge {d : Nat} (hn : 61 ≤ n) (hs : mo_st fs) (h16 : fs[16]? = some (.int (nI N))) (hN : N ≤ 246) (hq : Q none (n, mb_hp f fs wt lo lc (mgI lo lc a w lq lk N).2.1 (mgI lo lc a w lq lk N).2.2)) :
    ∀ (l : Nat) (lv : jm_L) (h : jm_H), l ≤ N → (h = (n, mb_hp f fs wt lo lc (mgI lo lc a w lq lk l).2.1 (mgI lo lc a w lq lk l).2.2) ∧ lv 0 = some (.ref 35) ∧ lv 1 = some (.int a) ∧ lv 2 = some (.int w) ∧ lv 3 = some (.int (oI (mgI lo lc a w lq lk l).1)) ∧ lv 4 = some (.int (nI l))) → jm_wp (jm_call (d + 1)) 104 Q (5, lv, [], h) := by
  have hs' := hs
  obtain ⟨s1, s2, s4, s5, s6, s7, s8, s9, s10, s11, s15, s17, s18, s19, s20, s23, s24, s25, s27, s28, s29, s31, s32, s33, s34, sl⟩ := hs
  refine jm_for (fun l lv h => h = (n, mb_hp f fs wt lo lc (mgI lo lc a w lq lk l).2.1 (mgI lo lc a w lq lk l).2.2) ∧ lv 0 = some (.ref 35) ∧ lv 1 = some (.int a) ∧ lv 2 = some (.int w) ∧ lv 3 = some (.int (oI (mgI lo lc a w lq lk l).1)) ∧ lv 4 = some (.int (nI l))) ?_ ?_
  · rintro l lv h hl ⟨rfl, l0, l1, l2, l3, l4⟩ ih
    have e : mgI lo lc a w lq lk (l + 1) = mg1 lo lc a w l (mgI lo lc a w lq lk l) := rfl
    have hlt : ∀ {b : Nat}, (mgI lo lc a w lq lk l).1 = some b → b < l := mgI_lt
    rw [e] at ih
    clear e
    generalize mgI lo lc a w lq lk l = s at *
    obtain ⟨fi, q1, k1⟩ := s
    simp only at l3 hlt ⊢
    rw [w_M_merge_5]
    simp only [w_M_merge_7, w_M_merge_8, w_M_merge_11, w_M_merge_14, w_M_merge_15, w_M_merge_17, w_M_merge_18, l0, l1, l2, l4, mb_hp_a, h16, show 35 < n by omega, nI_leI (show N < 2 ^ 31 by omega) (show l < 2 ^ 31 by omega), show ¬ N ≤ l by omega, jx_i_s, jx_l_s, jx_a_s, jx_a_n, jx_c_s, jx_v_s, jx_g_s, jx_p_s, jx_ia_s, jx_la_s, jx_aa_s, jx_is_s, jx_ls_s, jx_sn_s, jx_sr_s, jx_n_s, va_rf_s, va_rf_n, jm_ok, jm_up_a, jm_up_up, Bool.or_true, Bool.true_or, Option.some.injEq, Value.int.injEq, Value.long.injEq, Value.ref.injEq, Sum.inr.injEq, Sum.inl.injEq, Prod.mk.injEq, List.getElem?_cons_zero, List.getElem?_cons_succ, List.length_cons, List.length_nil, List.set_cons_zero, List.set_cons_succ, jm_rf, Value.category, and_true, true_and, and_self, and_assoc, jm_p1, jm_p2, jm_k2, Nat.reduceAdd, Nat.reduceEqDiff, Nat.reduceBEq, Bool.and_false, Bool.false_and, Bool.and_true, Bool.true_and, Bool.false_eq_true, ↓reduceIte, reduceCtorEq, zero_ne_one, one_ne_zero, Nat.zero_add, beq_self_eq_true, not_true_eq_false, not_false_eq_true, jz_1, jz_0, Option.toList_some, Option.toList_none, List.cons_append, List.nil_append, implies_true, false_implies, true_implies, not_true_eq_false, not_false_eq_true, Classical.not_not]
    refine w_M_merge_19 (c_M_isLot d (lo := lo) (lc := lc) (lq := q1) (l := l) hn (by simp only [mb_hp_a]; rfl) hs' (by simp only [mb_hp_a]; rfl) (by simp only [mb_hp_a]; rfl) (by simp only [mb_hp_a]; rfl) (by omega)) (fs := fs) (by simp only [mb_hp_a]; rfl) (show 35 < n by omega) (Nat.le_of_ble_eq_true rfl) ?_
    simp only [mg1] at ih
    cases hi : lt_is lo lc q1 a w l with
    | false =>
      simp only [hi, Bool.false_eq_true, if_false] at ih
      simp only [w_M_merge_22, w_M_merge_75, w_M_merge_78, l4, b2i_f, jx_i_s, jx_l_s, jx_a_s, jx_a_n, jx_c_s, jx_v_s, jx_g_s, jx_p_s, jx_ia_s, jx_la_s, jx_aa_s, jx_is_s, jx_ls_s, jx_sn_s, jx_sr_s, jx_n_s, va_rf_s, va_rf_n, jm_ok, jm_up_a, jm_up_up, Bool.or_true, Bool.true_or, Option.some.injEq, Value.int.injEq, Value.long.injEq, Value.ref.injEq, Sum.inr.injEq, Sum.inl.injEq, Prod.mk.injEq, List.getElem?_cons_zero, List.getElem?_cons_succ, List.length_cons, List.length_nil, List.set_cons_zero, List.set_cons_succ, jm_rf, Value.category, and_true, true_and, and_self, and_assoc, jm_p1, jm_p2, jm_k2, Nat.reduceAdd, Nat.reduceEqDiff, Nat.reduceBEq, Bool.and_false, Bool.false_and, Bool.and_true, Bool.true_and, Bool.false_eq_true, ↓reduceIte, reduceCtorEq, zero_ne_one, one_ne_zero, Nat.zero_add, beq_self_eq_true, not_true_eq_false, not_false_eq_true, jz_1, jz_0, Option.toList_some, Option.toList_none, List.cons_append, List.nil_append, implies_true, false_implies, true_implies, not_true_eq_false, not_false_eq_true, Classical.not_not]
      exact ih _ _ ⟨rfl, (by simp [jm_p1, jm_p2, jm_k2, Value.category, l0]), (by simp [jm_p1, jm_p2, jm_k2, Value.category, l1]), (by simp [jm_p1, jm_p2, jm_k2, Value.category, l2]), (by simp [jm_p1, jm_p2, jm_k2, Value.category, l3]), (by simp [jm_p1, jm_p2, jm_k2, Value.category, nI_1])⟩
    | true =>
      simp only [hi, if_true] at ih
      cases fi with
      | none =>
        simp only [oI] at l3
        simp only [w_M_merge_22, w_M_merge_25, w_M_merge_26, w_M_merge_29, w_M_merge_31, w_M_merge_32, w_M_merge_75, w_M_merge_78, l3, l4, b2i_t, show ¬ (1 : Int32) = 0 by decide, show ¬ (0 : Int32) ≤ -1 by decide, jx_i_s, jx_l_s, jx_a_s, jx_a_n, jx_c_s, jx_v_s, jx_g_s, jx_p_s, jx_ia_s, jx_la_s, jx_aa_s, jx_is_s, jx_ls_s, jx_sn_s, jx_sr_s, jx_n_s, va_rf_s, va_rf_n, jm_ok, jm_up_a, jm_up_up, Bool.or_true, Bool.true_or, Option.some.injEq, Value.int.injEq, Value.long.injEq, Value.ref.injEq, Sum.inr.injEq, Sum.inl.injEq, Prod.mk.injEq, List.getElem?_cons_zero, List.getElem?_cons_succ, List.length_cons, List.length_nil, List.set_cons_zero, List.set_cons_succ, jm_rf, Value.category, and_true, true_and, and_self, and_assoc, jm_p1, jm_p2, jm_k2, Nat.reduceAdd, Nat.reduceEqDiff, Nat.reduceBEq, Bool.and_false, Bool.false_and, Bool.and_true, Bool.true_and, Bool.false_eq_true, ↓reduceIte, reduceCtorEq, zero_ne_one, one_ne_zero, Nat.zero_add, beq_self_eq_true, not_true_eq_false, not_false_eq_true, jz_1, jz_0, Option.toList_some, Option.toList_none, List.cons_append, List.nil_append, implies_true, false_implies, true_implies, not_true_eq_false, not_false_eq_true, Classical.not_not]
        exact ih _ _ ⟨rfl, (by simp [jm_p1, jm_p2, jm_k2, Value.category, l0]), (by simp [jm_p1, jm_p2, jm_k2, Value.category, l1]), (by simp [jm_p1, jm_p2, jm_k2, Value.category, l2]), (by simp [jm_p1, jm_p2, jm_k2, Value.category, oI]), (by simp [jm_p1, jm_p2, jm_k2, Value.category, nI_1])⟩
      | some b =>
        have hb := hlt rfl
        simp only [oI] at l3
        have hbl : ¬ l = b := by omega
        simp only [w_M_merge_22, w_M_merge_25, w_M_merge_26, w_M_merge_35, w_M_merge_36, w_M_merge_39, w_M_merge_40, w_M_merge_41, w_M_merge_42, w_M_merge_43, w_M_merge_46, w_M_merge_48, w_M_merge_49, w_M_merge_50, w_M_merge_51, w_M_merge_52, w_M_merge_55, w_M_merge_56, w_M_merge_57, w_M_merge_58, w_M_merge_59, w_M_merge_62, w_M_merge_64, w_M_merge_65, w_M_merge_66, w_M_merge_67, w_M_merge_68, w_M_merge_71, w_M_merge_73, w_M_merge_74, w_M_merge_75, w_M_merge_78, l0, l3, l4, mb_hp_a, s19, s20, b2i_t, show ¬ (1 : Int32) = 0 by decide, nI_pos' (show b < 2 ^ 31 by omega), show 35 < n by omega, show 49 < n by omega, show 50 < n by omega, nI_clamp (show b < 2 ^ 31 by omega), vp_in_nI (show b < 246 by omega) (by decide), nI_clamp (show l < 2 ^ 31 by omega), vp_in_nI (show l < 246 by omega) (by decide), mb_49, mb_50, jx_i_s, jx_l_s, jx_a_s, jx_a_n, jx_c_s, jx_v_s, jx_g_s, jx_p_s, jx_ia_s, jx_la_s, jx_aa_s, jx_is_s, jx_ls_s, jx_sn_s, jx_sr_s, jx_n_s, va_rf_s, va_rf_n, jm_ok, jm_up_a, jm_up_up, Bool.or_true, Bool.true_or, Option.some.injEq, Value.int.injEq, Value.long.injEq, Value.ref.injEq, Sum.inr.injEq, Sum.inl.injEq, Prod.mk.injEq, List.getElem?_cons_zero, List.getElem?_cons_succ, List.length_cons, List.length_nil, List.set_cons_zero, List.set_cons_succ, jm_rf, Value.category, and_true, true_and, and_self, and_assoc, jm_p1, jm_p2, jm_k2, Nat.reduceAdd, Nat.reduceEqDiff, Nat.reduceBEq, Bool.and_false, Bool.false_and, Bool.and_true, Bool.true_and, Bool.false_eq_true, ↓reduceIte, reduceCtorEq, zero_ne_one, one_ne_zero, Nat.zero_add, beq_self_eq_true, not_true_eq_false, not_false_eq_true, jz_1, jz_0, Option.toList_some, Option.toList_none, List.cons_append, List.nil_append, implies_true, false_implies, true_implies, not_true_eq_false, not_false_eq_true, Classical.not_not]
        exact ih _ _ ⟨rfl, (by simp [jm_p1, jm_p2, jm_k2, Value.category, l0]), (by simp [jm_p1, jm_p2, jm_k2, Value.category, l1]), (by simp [jm_p1, jm_p2, jm_k2, Value.category, l2]), (by simp [jm_p1, jm_p2, jm_k2, Value.category, l3, oI]), (by simp [jm_p1, jm_p2, jm_k2, Value.category, nI_1])⟩
  · rintro lv h ⟨rfl, l0, l1, l2, l3, l4⟩
    rw [w_M_merge_5]
    simp only [w_M_merge_7, w_M_merge_8, w_M_merge_11, w_M_merge_81, l0, l4, mb_hp_a, h16, show 35 < n by omega, nI_leI (show N < 2 ^ 31 by omega) (show N < 2 ^ 31 by omega), Nat.le_refl, jx_i_s, jx_l_s, jx_a_s, jx_a_n, jx_c_s, jx_v_s, jx_g_s, jx_p_s, jx_ia_s, jx_la_s, jx_aa_s, jx_is_s, jx_ls_s, jx_sn_s, jx_sr_s, jx_n_s, va_rf_s, va_rf_n, jm_ok, jm_up_a, jm_up_up, Bool.or_true, Bool.true_or, Option.some.injEq, Value.int.injEq, Value.long.injEq, Value.ref.injEq, Sum.inr.injEq, Sum.inl.injEq, Prod.mk.injEq, List.getElem?_cons_zero, List.getElem?_cons_succ, List.length_cons, List.length_nil, List.set_cons_zero, List.set_cons_succ, jm_rf, Value.category, and_true, true_and, and_self, and_assoc, jm_p1, jm_p2, jm_k2, Nat.reduceAdd, Nat.reduceEqDiff, Nat.reduceBEq, Bool.and_false, Bool.false_and, Bool.and_true, Bool.true_and, Bool.false_eq_true, ↓reduceIte, reduceCtorEq, zero_ne_one, one_ne_zero, Nat.zero_add, beq_self_eq_true, not_true_eq_false, not_false_eq_true, jz_1, jz_0, Option.toList_some, Option.toList_none, List.cons_append, List.nil_append, implies_true, false_implies, true_implies, not_true_eq_false, not_false_eq_true, Classical.not_not]
    exact hq
theorem c_M_merge (d : Nat) (hn : 61 ≤ n) (hs : mo_st fs) (h16 : fs[16]? = some (.int (nI N))) (hN : N ≤ 246) : jm_call (d + 2) 104 [.ref 35, .int a, .int w] (n, mb_hp f fs wt lo lc lq lk) none (n, mb_hp f fs wt lo lc (mgI lo lc a w lq lk N).2.1 (mgI lo lc a w lq lk N).2.2) := by
  refine ⟨Nat.le_of_ble_eq_true rfl, ?_⟩
  have l0 : (jm_a0 (lv_args 0 [.ref 35, .int a, .int w])) 0 = some (.ref 35) := rfl
  have l1 : (jm_a0 (lv_args 0 [.ref 35, .int a, .int w])) 1 = some (.int a) := rfl
  have l2 : (jm_a0 (lv_args 0 [.ref 35, .int a, .int w])) 2 = some (.int w) := rfl
  generalize jm_a0 (lv_args 0 [.ref 35, .int a, .int w]) = lv at l0 l1 l2 ⊢
  simp only [w_M_merge_0, w_M_merge_1, w_M_merge_2, w_M_merge_3, jx_i_s, jx_l_s, jx_a_s, jx_a_n, jx_c_s, jx_v_s, jx_g_s, jx_p_s, jx_ia_s, jx_la_s, jx_aa_s, jx_is_s, jx_ls_s, jx_sn_s, jx_sr_s, jx_n_s, va_rf_s, va_rf_n, jm_ok, jm_up_a, jm_up_up, Bool.or_true, Bool.true_or, Option.some.injEq, Value.int.injEq, Value.long.injEq, Value.ref.injEq, Sum.inr.injEq, Sum.inl.injEq, Prod.mk.injEq, List.getElem?_cons_zero, List.getElem?_cons_succ, List.length_cons, List.length_nil, List.set_cons_zero, List.set_cons_succ, jm_rf, Value.category, and_true, true_and, and_self, and_assoc, jm_p1, jm_p2, jm_k2, Nat.reduceAdd, Nat.reduceEqDiff, Nat.reduceBEq, Bool.and_false, Bool.false_and, Bool.and_true, Bool.true_and, Bool.false_eq_true, ↓reduceIte, reduceCtorEq, zero_ne_one, one_ne_zero, Nat.zero_add, beq_self_eq_true, not_true_eq_false, not_false_eq_true, jz_1, jz_0, Option.toList_some, Option.toList_none, List.cons_append, List.nil_append, implies_true, false_implies, true_implies, not_true_eq_false, not_false_eq_true, Classical.not_not]
  exact w_merge hn hs h16 hN ⟨rfl, rfl⟩ 0 _ _ (by omega) ⟨rfl, (by simp [jm_p1, jm_p2, jm_k2, Value.category, l0]), (by simp [jm_p1, jm_p2, jm_k2, Value.category, l1]), (by simp [jm_p1, jm_p2, jm_k2, Value.category, l2]), (by simp [jm_p1, jm_p2, jm_k2, Value.category, mgI, oI]), (by simp [jm_p1, jm_p2, jm_k2, Value.category, nI])⟩
theorem w_take1 {d : Nat} (hn : 61 ≤ n) (hs : mo_st fs) (h16 : fs[16]? = some (.int (nI N))) (hN : N ≤ 246)
    (fin : ∀ lv, lv 0 = some (.ref 35) → lv 1 = some (.int a) → lv 2 = some (.int w) → lv 3 = some (.int u) → lv 4 = some (.int how) → lv 5 = some (.int (suM lo lc lq a w N)) → jm_wp (jm_call (d + 1)) 103 Q (48, lv, [], (n, mb_hp f fs wt lo lc lq lk))) :
    ∀ (l : Nat) (lv : jm_L) (h : jm_H), l ≤ N → (h = (n, mb_hp f fs wt lo lc lq lk) ∧ lv 0 = some (.ref 35) ∧ lv 1 = some (.int a) ∧ lv 2 = some (.int w) ∧ lv 3 = some (.int u) ∧ lv 4 = some (.int how) ∧ lv 5 = some (.int (suM lo lc lq a w l)) ∧ lv 6 = some (.int (nI l))) → jm_wp (jm_call (d + 1)) 103 Q (6, lv, [], h) := by
  have hs' := hs
  obtain ⟨s1, s2, s4, s5, s6, s7, s8, s9, s10, s11, s15, s17, s18, s19, s20, s23, s24, s25, s27, s28, s29, s31, s32, s33, s34, sl⟩ := hs
  refine jm_for (fun l lv h => h = (n, mb_hp f fs wt lo lc lq lk) ∧ lv 0 = some (.ref 35) ∧ lv 1 = some (.int a) ∧ lv 2 = some (.int w) ∧ lv 3 = some (.int u) ∧ lv 4 = some (.int how) ∧ lv 5 = some (.int (suM lo lc lq a w l)) ∧ lv 6 = some (.int (nI l))) ?_ ?_
  · rintro l lv h hl ⟨rfl, l0, l1, l2, l3, l4, l5, l6⟩ ih
    rw [w_M_taken_6]
    simp only [w_M_taken_8, w_M_taken_9, w_M_taken_12, w_M_taken_15, w_M_taken_17, w_M_taken_18, w_M_taken_20, w_M_taken_21, l0, l1, l2, l5, l6, mb_hp_a, h16, show 35 < n by omega, nI_leI (show N < 2 ^ 31 by omega) (show l < 2 ^ 31 by omega), show ¬ N ≤ l by omega, jx_i_s, jx_l_s, jx_a_s, jx_a_n, jx_c_s, jx_v_s, jx_g_s, jx_p_s, jx_ia_s, jx_la_s, jx_aa_s, jx_is_s, jx_ls_s, jx_sn_s, jx_sr_s, jx_n_s, va_rf_s, va_rf_n, jm_ok, jm_up_a, jm_up_up, Bool.or_true, Bool.true_or, Option.some.injEq, Value.int.injEq, Value.long.injEq, Value.ref.injEq, Sum.inr.injEq, Sum.inl.injEq, Prod.mk.injEq, List.getElem?_cons_zero, List.getElem?_cons_succ, List.length_cons, List.length_nil, List.set_cons_zero, List.set_cons_succ, jm_rf, Value.category, and_true, true_and, and_self, and_assoc, jm_p1, jm_p2, jm_k2, Nat.reduceAdd, Nat.reduceEqDiff, Nat.reduceBEq, Bool.and_false, Bool.false_and, Bool.and_true, Bool.true_and, Bool.false_eq_true, ↓reduceIte, reduceCtorEq, zero_ne_one, one_ne_zero, Nat.zero_add, beq_self_eq_true, not_true_eq_false, not_false_eq_true, jz_1, jz_0, Option.toList_some, Option.toList_none, List.cons_append, List.nil_append, implies_true, false_implies, true_implies, not_true_eq_false, not_false_eq_true, Classical.not_not]
    refine w_M_taken_22 (c_M_isLot d (lo := lo) (lc := lc) (lq := lq) (l := l) hn (by simp only [mb_hp_a]; rfl) hs' (by simp only [mb_hp_a]; rfl) (by simp only [mb_hp_a]; rfl) (by simp only [mb_hp_a]; rfl) (by omega)) (fs := fs) (by simp only [mb_hp_a]; rfl) (show 35 < n by omega) (Nat.le_of_ble_eq_true rfl) ?_
    cases hi : lt_is lo lc lq a w l with
    | false =>
      simp only [w_M_taken_25, w_M_taken_38, w_M_taken_39, w_M_taken_40, w_M_taken_42, w_M_taken_45, l6, b2i_f, jx_i_s, jx_l_s, jx_a_s, jx_a_n, jx_c_s, jx_v_s, jx_g_s, jx_p_s, jx_ia_s, jx_la_s, jx_aa_s, jx_is_s, jx_ls_s, jx_sn_s, jx_sr_s, jx_n_s, va_rf_s, va_rf_n, jm_ok, jm_up_a, jm_up_up, Bool.or_true, Bool.true_or, Option.some.injEq, Value.int.injEq, Value.long.injEq, Value.ref.injEq, Sum.inr.injEq, Sum.inl.injEq, Prod.mk.injEq, List.getElem?_cons_zero, List.getElem?_cons_succ, List.length_cons, List.length_nil, List.set_cons_zero, List.set_cons_succ, jm_rf, Value.category, and_true, true_and, and_self, and_assoc, jm_p1, jm_p2, jm_k2, Nat.reduceAdd, Nat.reduceEqDiff, Nat.reduceBEq, Bool.and_false, Bool.false_and, Bool.and_true, Bool.true_and, Bool.false_eq_true, ↓reduceIte, reduceCtorEq, zero_ne_one, one_ne_zero, Nat.zero_add, beq_self_eq_true, not_true_eq_false, not_false_eq_true, jz_1, jz_0, Option.toList_some, Option.toList_none, List.cons_append, List.nil_append, implies_true, false_implies, true_implies, not_true_eq_false, not_false_eq_true, Classical.not_not]
      exact ih _ _ ⟨rfl, (by simp [jm_p1, jm_p2, jm_k2, Value.category, l0]), (by simp [jm_p1, jm_p2, jm_k2, Value.category, l1]), (by simp [jm_p1, jm_p2, jm_k2, Value.category, l2]), (by simp [jm_p1, jm_p2, jm_k2, Value.category, l3]), (by simp [jm_p1, jm_p2, jm_k2, Value.category, l4]), (by simp [jm_p1, jm_p2, jm_k2, Value.category, suM, hi]), (by simp [jm_p1, jm_p2, jm_k2, Value.category, nI_1])⟩
    | true =>
      simp only [w_M_taken_25, w_M_taken_28, w_M_taken_29, w_M_taken_32, w_M_taken_34, w_M_taken_35, w_M_taken_39, w_M_taken_40, w_M_taken_42, w_M_taken_45, l0, l6, mb_hp_a, s19, b2i_t, show ¬ (1 : Int32) = 0 by decide, show 35 < n by omega, show 49 < n by omega, nI_clamp (show l < 2 ^ 31 by omega), vp_in_nI (show l < 246 by omega) (by decide), jx_i_s, jx_l_s, jx_a_s, jx_a_n, jx_c_s, jx_v_s, jx_g_s, jx_p_s, jx_ia_s, jx_la_s, jx_aa_s, jx_is_s, jx_ls_s, jx_sn_s, jx_sr_s, jx_n_s, va_rf_s, va_rf_n, jm_ok, jm_up_a, jm_up_up, Bool.or_true, Bool.true_or, Option.some.injEq, Value.int.injEq, Value.long.injEq, Value.ref.injEq, Sum.inr.injEq, Sum.inl.injEq, Prod.mk.injEq, List.getElem?_cons_zero, List.getElem?_cons_succ, List.length_cons, List.length_nil, List.set_cons_zero, List.set_cons_succ, jm_rf, Value.category, and_true, true_and, and_self, and_assoc, jm_p1, jm_p2, jm_k2, Nat.reduceAdd, Nat.reduceEqDiff, Nat.reduceBEq, Bool.and_false, Bool.false_and, Bool.and_true, Bool.true_and, Bool.false_eq_true, ↓reduceIte, reduceCtorEq, zero_ne_one, one_ne_zero, Nat.zero_add, beq_self_eq_true, not_true_eq_false, not_false_eq_true, jz_1, jz_0, Option.toList_some, Option.toList_none, List.cons_append, List.nil_append, implies_true, false_implies, true_implies, not_true_eq_false, not_false_eq_true, Classical.not_not]
      exact ih _ _ ⟨rfl, (by simp [jm_p1, jm_p2, jm_k2, Value.category, l0]), (by simp [jm_p1, jm_p2, jm_k2, Value.category, l1]), (by simp [jm_p1, jm_p2, jm_k2, Value.category, l2]), (by simp [jm_p1, jm_p2, jm_k2, Value.category, l3]), (by simp [jm_p1, jm_p2, jm_k2, Value.category, l4]), (by simp [jm_p1, jm_p2, jm_k2, Value.category, suM, hi]), (by simp [jm_p1, jm_p2, jm_k2, Value.category, nI_1])⟩
  · rintro lv h ⟨rfl, l0, l1, l2, l3, l4, l5, l6⟩
    rw [w_M_taken_6]
    simp only [w_M_taken_8, w_M_taken_9, w_M_taken_12, l0, l6, mb_hp_a, h16, show 35 < n by omega, nI_leI (show N < 2 ^ 31 by omega) (show N < 2 ^ 31 by omega), Nat.le_refl, jx_i_s, jx_l_s, jx_a_s, jx_a_n, jx_c_s, jx_v_s, jx_g_s, jx_p_s, jx_ia_s, jx_la_s, jx_aa_s, jx_is_s, jx_ls_s, jx_sn_s, jx_sr_s, jx_n_s, va_rf_s, va_rf_n, jm_ok, jm_up_a, jm_up_up, Bool.or_true, Bool.true_or, Option.some.injEq, Value.int.injEq, Value.long.injEq, Value.ref.injEq, Sum.inr.injEq, Sum.inl.injEq, Prod.mk.injEq, List.getElem?_cons_zero, List.getElem?_cons_succ, List.length_cons, List.length_nil, List.set_cons_zero, List.set_cons_succ, jm_rf, Value.category, and_true, true_and, and_self, and_assoc, jm_p1, jm_p2, jm_k2, Nat.reduceAdd, Nat.reduceEqDiff, Nat.reduceBEq, Bool.and_false, Bool.false_and, Bool.and_true, Bool.true_and, Bool.false_eq_true, ↓reduceIte, reduceCtorEq, zero_ne_one, one_ne_zero, Nat.zero_add, beq_self_eq_true, not_true_eq_false, not_false_eq_true, jz_1, jz_0, Option.toList_some, Option.toList_none, List.cons_append, List.nil_append, implies_true, false_implies, true_implies, not_true_eq_false, not_false_eq_true, Classical.not_not]
    exact fin lv l0 l1 l2 l3 l4 l5
theorem w_take2 {d : Nat} {s0 : Int32 × Int64 × (Nat → Int32) × (Nat → Int64)} (hn : 61 ≤ n) (hs : mo_st fs) (h16 : fs[16]? = some (.int (nI N))) (hN : N ≤ 246)
    (hq : Q (some (.long (tkI lo lc a w how N s0 N).2.1)) (n, mb_hp f fs wt lo lc (tkI lo lc a w how N s0 N).2.2.1 (tkI lo lc a w how N s0 N).2.2.2)) :
    ∀ (i : Nat) (lv : jm_L) (h : jm_H), i ≤ N → (h = (n, mb_hp f fs wt lo lc (tkI lo lc a w how N s0 i).2.2.1 (tkI lo lc a w how N s0 i).2.2.2) ∧ lv 0 = some (.ref 35) ∧ lv 1 = some (.int a) ∧ lv 2 = some (.int w) ∧ lv 4 = some (.int how) ∧ lv 6 = some (.int (tkI lo lc a w how N s0 i).1) ∧ lv 7 = some (.long (tkI lo lc a w how N s0 i).2.1) ∧ lv 9 = some (.int (nI i))) → jm_wp (jm_call (d + 1)) 103 Q (82, lv, [], h) := by
  have hs' := hs
  obtain ⟨s1, s2, s4, s5, s6, s7, s8, s9, s10, s11, s15, s17, s18, s19, s20, s23, s24, s25, s27, s28, s29, s31, s32, s33, s34, sl⟩ := hs
  refine jm_for (fun i lv h => h = (n, mb_hp f fs wt lo lc (tkI lo lc a w how N s0 i).2.2.1 (tkI lo lc a w how N s0 i).2.2.2) ∧ lv 0 = some (.ref 35) ∧ lv 1 = some (.int a) ∧ lv 2 = some (.int w) ∧ lv 4 = some (.int how) ∧ lv 6 = some (.int (tkI lo lc a w how N s0 i).1) ∧ lv 7 = some (.long (tkI lo lc a w how N s0 i).2.1) ∧ lv 9 = some (.int (nI i))) ?_ ?_
  · rintro i lv h hi ⟨rfl, l0, l1, l2, l4, l6, l7, l9⟩ ih
    by_cases hleft : 0 < (tkI lo lc a w how N s0 i).1
    · have e : tkI lo lc a w how N s0 (i + 1) = tk1 lo lc a w (tkx how N i) (tkI lo lc a w how N s0 i) := by simp only [tkI]; rw [if_pos hleft]
      rw [e] at ih
      clear e
      generalize tkI lo lc a w how N s0 i = s at *
      obtain ⟨lf, co, q1, k1⟩ := s
      simp only at l6 l7 hleft ⊢
      have hx : tkx how N i < N := by unfold tkx; split <;> omega
      have cont : ∀ lv : jm_L, lv 0 = some (.ref 35) → lv 1 = some (.int a) → lv 2 = some (.int w) → lv 4 = some (.int how) → lv 6 = some (.int lf) → lv 7 = some (.long co) → lv 9 = some (.int (nI i)) → jm_wp (jm_call (d + 1)) 103 Q (116, lv, [.int (nI (tkx how N i))], (n, mb_hp f fs wt lo lc q1 k1)) := by
        generalize tkx how N i = l at *
        intro lv l0 l1 l2 l4 l6 l7 l9
        simp only [w_M_taken_116, w_M_taken_118, w_M_taken_119, w_M_taken_121, w_M_taken_122, l0, l1, l2, jx_i_s, jx_l_s, jx_a_s, jx_a_n, jx_c_s, jx_v_s, jx_g_s, jx_p_s, jx_ia_s, jx_la_s, jx_aa_s, jx_is_s, jx_ls_s, jx_sn_s, jx_sr_s, jx_n_s, va_rf_s, va_rf_n, jm_ok, jm_up_a, jm_up_up, Bool.or_true, Bool.true_or, Option.some.injEq, Value.int.injEq, Value.long.injEq, Value.ref.injEq, Sum.inr.injEq, Sum.inl.injEq, Prod.mk.injEq, List.getElem?_cons_zero, List.getElem?_cons_succ, List.length_cons, List.length_nil, List.set_cons_zero, List.set_cons_succ, jm_rf, Value.category, and_true, true_and, and_self, and_assoc, jm_p1, jm_p2, jm_k2, Nat.reduceAdd, Nat.reduceEqDiff, Nat.reduceBEq, Bool.and_false, Bool.false_and, Bool.and_true, Bool.true_and, Bool.false_eq_true, ↓reduceIte, reduceCtorEq, zero_ne_one, one_ne_zero, Nat.zero_add, beq_self_eq_true, not_true_eq_false, not_false_eq_true, jz_1, jz_0, Option.toList_some, Option.toList_none, List.cons_append, List.nil_append, implies_true, false_implies, true_implies, not_true_eq_false, not_false_eq_true, Classical.not_not]
        refine w_M_taken_123 (c_M_isLot d (lo := lo) (lc := lc) (lq := q1) (l := l) hn (by simp only [mb_hp_a]; rfl) hs' (by simp only [mb_hp_a]; rfl) (by simp only [mb_hp_a]; rfl) (by simp only [mb_hp_a]; rfl) (by omega)) (fs := fs) (by simp only [mb_hp_a]; rfl) (show 35 < n by omega) (Nat.le_of_ble_eq_true rfl) ?_
        simp only [tk1] at ih
        cases hil : lt_is lo lc q1 a w l with
        | false =>
          simp only [hil, Bool.false_eq_true, if_false] at ih
          simp only [w_M_taken_126, w_M_taken_237, w_M_taken_240, l9, b2i_f, jx_i_s, jx_l_s, jx_a_s, jx_a_n, jx_c_s, jx_v_s, jx_g_s, jx_p_s, jx_ia_s, jx_la_s, jx_aa_s, jx_is_s, jx_ls_s, jx_sn_s, jx_sr_s, jx_n_s, va_rf_s, va_rf_n, jm_ok, jm_up_a, jm_up_up, Bool.or_true, Bool.true_or, Option.some.injEq, Value.int.injEq, Value.long.injEq, Value.ref.injEq, Sum.inr.injEq, Sum.inl.injEq, Prod.mk.injEq, List.getElem?_cons_zero, List.getElem?_cons_succ, List.length_cons, List.length_nil, List.set_cons_zero, List.set_cons_succ, jm_rf, Value.category, and_true, true_and, and_self, and_assoc, jm_p1, jm_p2, jm_k2, Nat.reduceAdd, Nat.reduceEqDiff, Nat.reduceBEq, Bool.and_false, Bool.false_and, Bool.and_true, Bool.true_and, Bool.false_eq_true, ↓reduceIte, reduceCtorEq, zero_ne_one, one_ne_zero, Nat.zero_add, beq_self_eq_true, not_true_eq_false, not_false_eq_true, jz_1, jz_0, Option.toList_some, Option.toList_none, List.cons_append, List.nil_append, implies_true, false_implies, true_implies, not_true_eq_false, not_false_eq_true, Classical.not_not]
          exact ih _ _ ⟨rfl, (by simp [jm_p1, jm_p2, jm_k2, Value.category, l0]), (by simp [jm_p1, jm_p2, jm_k2, Value.category, l1]), (by simp [jm_p1, jm_p2, jm_k2, Value.category, l2]), (by simp [jm_p1, jm_p2, jm_k2, Value.category, l4]), (by simp [jm_p1, jm_p2, jm_k2, Value.category, l6]), (by simp [jm_p1, jm_p2, jm_k2, Value.category, l7]), (by simp [jm_p1, jm_p2, jm_k2, Value.category, nI_1])⟩
        | true =>
          simp only [hil, if_true] at ih
          have hpos : 0 < q1 l := by
            unfold lt_is at hil
            exact (of_decide_eq_true hil).2.2
          have hmm : ∀ m : Int32, tkm lf (q1 l) = m → ∀ lv : jm_L, lv 0 = some (.ref 35) → lv 1 = some (.int a) → lv 2 = some (.int w) → lv 4 = some (.int how) → lv 6 = some (.int lf) → lv 7 = some (.long co) → lv 9 = some (.int (nI i)) → lv 10 = some (.int (nI l)) → jm_wp (jm_call (d + 1)) 103 Q (153, lv, [.int m], (n, mb_hp f fs wt lo lc q1 k1)) := by
            intro m hm lv l0 l1 l2 l4 l6 l7 l9 l10
            rw [hm] at ih
            have hcc : ∀ c : Int64, tkc m (q1 l) (k1 l) = c → ∀ lv : jm_L, lv 0 = some (.ref 35) → lv 1 = some (.int a) → lv 2 = some (.int w) → lv 4 = some (.int how) → lv 6 = some (.int lf) → lv 7 = some (.long co) → lv 9 = some (.int (nI i)) → lv 10 = some (.int (nI l)) → lv 11 = some (.int m) → jm_wp (jm_call (d + 1)) 103 Q (197, lv, [.long c], (n, mb_hp f fs wt lo lc q1 k1)) := by
              intro c hc lv l0 l1 l2 l4 l6 l7 l9 l10 l11
              rw [hc] at ih
              simp only [w_M_taken_197, w_M_taken_199, w_M_taken_200, w_M_taken_203, w_M_taken_205, w_M_taken_206, w_M_taken_207, w_M_taken_209, w_M_taken_210, w_M_taken_211, w_M_taken_212, w_M_taken_215, w_M_taken_217, w_M_taken_218, w_M_taken_219, w_M_taken_221, w_M_taken_222, w_M_taken_223, w_M_taken_225, w_M_taken_227, w_M_taken_228, w_M_taken_230, w_M_taken_232, w_M_taken_234, w_M_taken_235, w_M_taken_237, w_M_taken_240, l0, l6, l7, l9, l10, l11, mb_hp_a, s19, s20, show 35 < n by omega, show 49 < n by omega, show 50 < n by omega, nI_clamp (show l < 2 ^ 31 by omega), vp_in_nI (show l < 246 by omega) (by decide), mb_49, mb_50, jx_i_s, jx_l_s, jx_a_s, jx_a_n, jx_c_s, jx_v_s, jx_g_s, jx_p_s, jx_ia_s, jx_la_s, jx_aa_s, jx_is_s, jx_ls_s, jx_sn_s, jx_sr_s, jx_n_s, va_rf_s, va_rf_n, jm_ok, jm_up_a, jm_up_up, Bool.or_true, Bool.true_or, Option.some.injEq, Value.int.injEq, Value.long.injEq, Value.ref.injEq, Sum.inr.injEq, Sum.inl.injEq, Prod.mk.injEq, List.getElem?_cons_zero, List.getElem?_cons_succ, List.length_cons, List.length_nil, List.set_cons_zero, List.set_cons_succ, jm_rf, Value.category, and_true, true_and, and_self, and_assoc, jm_p1, jm_p2, jm_k2, Nat.reduceAdd, Nat.reduceEqDiff, Nat.reduceBEq, Bool.and_false, Bool.false_and, Bool.and_true, Bool.true_and, Bool.false_eq_true, ↓reduceIte, reduceCtorEq, zero_ne_one, one_ne_zero, Nat.zero_add, beq_self_eq_true, not_true_eq_false, not_false_eq_true, jz_1, jz_0, Option.toList_some, Option.toList_none, List.cons_append, List.nil_append, implies_true, false_implies, true_implies, not_true_eq_false, not_false_eq_true, Classical.not_not]
              exact ih _ _ ⟨rfl, (by simp [jm_p1, jm_p2, jm_k2, Value.category, l0]), (by simp [jm_p1, jm_p2, jm_k2, Value.category, l1]), (by simp [jm_p1, jm_p2, jm_k2, Value.category, l2]), (by simp [jm_p1, jm_p2, jm_k2, Value.category, l4]), (by simp [jm_p1, jm_p2, jm_k2, Value.category]), (by simp [jm_p1, jm_p2, jm_k2, Value.category]), (by simp [jm_p1, jm_p2, jm_k2, Value.category, nI_1])⟩
            simp only [w_M_taken_153, w_M_taken_155, w_M_taken_157, w_M_taken_158, w_M_taken_161, w_M_taken_163, w_M_taken_164, w_M_taken_167, w_M_taken_168, w_M_taken_171, w_M_taken_173, w_M_taken_174, w_M_taken_177, w_M_taken_178, w_M_taken_181, w_M_taken_183, w_M_taken_184, w_M_taken_186, w_M_taken_187, w_M_taken_188, w_M_taken_189, w_M_taken_192, w_M_taken_194, w_M_taken_195, w_M_taken_196, l0, l10, mb_hp_a, s19, s20, show 35 < n by omega, show 49 < n by omega, show 50 < n by omega, nI_clamp (show l < 2 ^ 31 by omega), vp_in_nI (show l < 246 by omega) (by decide), q64_ne hpos, jx_i_s, jx_l_s, jx_a_s, jx_a_n, jx_c_s, jx_v_s, jx_g_s, jx_p_s, jx_ia_s, jx_la_s, jx_aa_s, jx_is_s, jx_ls_s, jx_sn_s, jx_sr_s, jx_n_s, va_rf_s, va_rf_n, jm_ok, jm_up_a, jm_up_up, Bool.or_true, Bool.true_or, Option.some.injEq, Value.int.injEq, Value.long.injEq, Value.ref.injEq, Sum.inr.injEq, Sum.inl.injEq, Prod.mk.injEq, List.getElem?_cons_zero, List.getElem?_cons_succ, List.length_cons, List.length_nil, List.set_cons_zero, List.set_cons_succ, jm_rf, Value.category, and_true, true_and, and_self, and_assoc, jm_p1, jm_p2, jm_k2, Nat.reduceAdd, Nat.reduceEqDiff, Nat.reduceBEq, Bool.and_false, Bool.false_and, Bool.and_true, Bool.true_and, Bool.false_eq_true, ↓reduceIte, reduceCtorEq, zero_ne_one, one_ne_zero, Nat.zero_add, beq_self_eq_true, not_true_eq_false, not_false_eq_true, jz_1, jz_0, Option.toList_some, Option.toList_none, List.cons_append, List.nil_append, implies_true, false_implies, true_implies, not_true_eq_false, not_false_eq_true, Classical.not_not]
            refine ⟨fun hne => ?_, fun he => ?_⟩
            · exact hcc _ (by unfold tkc; rw [if_neg hne]) _ (by simp [jm_p1, jm_p2, jm_k2, Value.category, l0]) (by simp [jm_p1, jm_p2, jm_k2, Value.category, l1]) (by simp [jm_p1, jm_p2, jm_k2, Value.category, l2]) (by simp [jm_p1, jm_p2, jm_k2, Value.category, l4]) (by simp [jm_p1, jm_p2, jm_k2, Value.category, l6]) (by simp [jm_p1, jm_p2, jm_k2, Value.category, l7]) (by simp [jm_p1, jm_p2, jm_k2, Value.category, l9]) (by simp [jm_p1, jm_p2, jm_k2, Value.category, l10]) (by simp [jm_p1, jm_p2, jm_k2, Value.category])
            · exact hcc _ (by unfold tkc; rw [if_pos he]) _ (by simp [jm_p1, jm_p2, jm_k2, Value.category, l0]) (by simp [jm_p1, jm_p2, jm_k2, Value.category, l1]) (by simp [jm_p1, jm_p2, jm_k2, Value.category, l2]) (by simp [jm_p1, jm_p2, jm_k2, Value.category, l4]) (by simp [jm_p1, jm_p2, jm_k2, Value.category, l6]) (by simp [jm_p1, jm_p2, jm_k2, Value.category, l7]) (by simp [jm_p1, jm_p2, jm_k2, Value.category, l9]) (by simp [jm_p1, jm_p2, jm_k2, Value.category, l10]) (by simp [jm_p1, jm_p2, jm_k2, Value.category])
          simp only [w_M_taken_126, w_M_taken_129, w_M_taken_131, w_M_taken_132, w_M_taken_135, w_M_taken_137, w_M_taken_138, w_M_taken_141, w_M_taken_143, w_M_taken_146, w_M_taken_147, w_M_taken_150, w_M_taken_152, l0, l6, mb_hp_a, s19, b2i_t, show ¬ (1 : Int32) = 0 by decide, show 35 < n by omega, show 49 < n by omega, nI_clamp (show l < 2 ^ 31 by omega), vp_in_nI (show l < 246 by omega) (by decide), jx_i_s, jx_l_s, jx_a_s, jx_a_n, jx_c_s, jx_v_s, jx_g_s, jx_p_s, jx_ia_s, jx_la_s, jx_aa_s, jx_is_s, jx_ls_s, jx_sn_s, jx_sr_s, jx_n_s, va_rf_s, va_rf_n, jm_ok, jm_up_a, jm_up_up, Bool.or_true, Bool.true_or, Option.some.injEq, Value.int.injEq, Value.long.injEq, Value.ref.injEq, Sum.inr.injEq, Sum.inl.injEq, Prod.mk.injEq, List.getElem?_cons_zero, List.getElem?_cons_succ, List.length_cons, List.length_nil, List.set_cons_zero, List.set_cons_succ, jm_rf, Value.category, and_true, true_and, and_self, and_assoc, jm_p1, jm_p2, jm_k2, Nat.reduceAdd, Nat.reduceEqDiff, Nat.reduceBEq, Bool.and_false, Bool.false_and, Bool.and_true, Bool.true_and, Bool.false_eq_true, ↓reduceIte, reduceCtorEq, zero_ne_one, one_ne_zero, Nat.zero_add, beq_self_eq_true, not_true_eq_false, not_false_eq_true, jz_1, jz_0, Option.toList_some, Option.toList_none, List.cons_append, List.nil_append, implies_true, false_implies, true_implies, not_true_eq_false, not_false_eq_true, Classical.not_not]
          refine ⟨fun hle => ?_, fun hle => ?_⟩
          · exact hmm _ (by unfold tkm; rw [if_pos hle]) _ (by simp [jm_p1, jm_p2, jm_k2, Value.category, l0]) (by simp [jm_p1, jm_p2, jm_k2, Value.category, l1]) (by simp [jm_p1, jm_p2, jm_k2, Value.category, l2]) (by simp [jm_p1, jm_p2, jm_k2, Value.category, l4]) (by simp [jm_p1, jm_p2, jm_k2, Value.category, l6]) (by simp [jm_p1, jm_p2, jm_k2, Value.category, l7]) (by simp [jm_p1, jm_p2, jm_k2, Value.category, l9]) (by simp [jm_p1, jm_p2, jm_k2, Value.category])
          · exact hmm _ (by unfold tkm; rw [if_neg hle]) _ (by simp [jm_p1, jm_p2, jm_k2, Value.category, l0]) (by simp [jm_p1, jm_p2, jm_k2, Value.category, l1]) (by simp [jm_p1, jm_p2, jm_k2, Value.category, l2]) (by simp [jm_p1, jm_p2, jm_k2, Value.category, l4]) (by simp [jm_p1, jm_p2, jm_k2, Value.category, l6]) (by simp [jm_p1, jm_p2, jm_k2, Value.category, l7]) (by simp [jm_p1, jm_p2, jm_k2, Value.category, l9]) (by simp [jm_p1, jm_p2, jm_k2, Value.category])
      rw [w_M_taken_82]
      have e3 : nI N - 1 - nI i = nI (N - 1 - i) := by
        obtain ⟨N', rfl⟩ : ∃ N', N = N' + 1 := ⟨N - 1, by omega⟩
        rw [nI_pred, pk_sub (by omega)]
        rfl
      simp only [w_M_taken_84, w_M_taken_85, w_M_taken_88, w_M_taken_91, w_M_taken_93, w_M_taken_96, w_M_taken_98, w_M_taken_99, w_M_taken_102, w_M_taken_103, w_M_taken_106, w_M_taken_107, w_M_taken_108, w_M_taken_110, w_M_taken_111, w_M_taken_114, l0, l4, l6, l9, mb_hp_a, h16, e3, show 35 < n by omega, nI_leI (show N < 2 ^ 31 by omega) (show i < 2 ^ 31 by omega), show ¬ N ≤ i by omega, Int32.not_le.mpr hleft, jx_i_s, jx_l_s, jx_a_s, jx_a_n, jx_c_s, jx_v_s, jx_g_s, jx_p_s, jx_ia_s, jx_la_s, jx_aa_s, jx_is_s, jx_ls_s, jx_sn_s, jx_sr_s, jx_n_s, va_rf_s, va_rf_n, jm_ok, jm_up_a, jm_up_up, Bool.or_true, Bool.true_or, Option.some.injEq, Value.int.injEq, Value.long.injEq, Value.ref.injEq, Sum.inr.injEq, Sum.inl.injEq, Prod.mk.injEq, List.getElem?_cons_zero, List.getElem?_cons_succ, List.length_cons, List.length_nil, List.set_cons_zero, List.set_cons_succ, jm_rf, Value.category, and_true, true_and, and_self, and_assoc, jm_p1, jm_p2, jm_k2, Nat.reduceAdd, Nat.reduceEqDiff, Nat.reduceBEq, Bool.and_false, Bool.false_and, Bool.and_true, Bool.true_and, Bool.false_eq_true, ↓reduceIte, reduceCtorEq, zero_ne_one, one_ne_zero, Nat.zero_add, beq_self_eq_true, not_true_eq_false, not_false_eq_true, jz_1, jz_0, Option.toList_some, Option.toList_none, List.cons_append, List.nil_append, implies_true, false_implies, true_implies, not_true_eq_false, not_false_eq_true, Classical.not_not]
      unfold tkx at cont
      refine ⟨fun h1 => ?_, fun h1 => ?_⟩
      · rw [if_neg h1] at cont
        exact cont lv l0 l1 l2 l4 l6 l7 l9
      · rw [if_pos h1] at cont
        exact cont lv l0 l1 l2 l4 l6 l7 l9
    · have e := tkI_stop hleft (N - i)
      rw [show i + (N - i) = N by omega] at e
      rw [e] at hq
      rw [w_M_taken_82]
      simp only [w_M_taken_84, w_M_taken_85, w_M_taken_88, w_M_taken_91, w_M_taken_93, w_M_taken_243, w_M_taken_245, l0, l6, l7, l9, mb_hp_a, h16, show 35 < n by omega, nI_leI (show N < 2 ^ 31 by omega) (show i < 2 ^ 31 by omega), show ¬ N ≤ i by omega, Int32.not_lt.mp hleft, jx_i_s, jx_l_s, jx_a_s, jx_a_n, jx_c_s, jx_v_s, jx_g_s, jx_p_s, jx_ia_s, jx_la_s, jx_aa_s, jx_is_s, jx_ls_s, jx_sn_s, jx_sr_s, jx_n_s, va_rf_s, va_rf_n, jm_ok, jm_up_a, jm_up_up, Bool.or_true, Bool.true_or, Option.some.injEq, Value.int.injEq, Value.long.injEq, Value.ref.injEq, Sum.inr.injEq, Sum.inl.injEq, Prod.mk.injEq, List.getElem?_cons_zero, List.getElem?_cons_succ, List.length_cons, List.length_nil, List.set_cons_zero, List.set_cons_succ, jm_rf, Value.category, and_true, true_and, and_self, and_assoc, jm_p1, jm_p2, jm_k2, Nat.reduceAdd, Nat.reduceEqDiff, Nat.reduceBEq, Bool.and_false, Bool.false_and, Bool.and_true, Bool.true_and, Bool.false_eq_true, ↓reduceIte, reduceCtorEq, zero_ne_one, one_ne_zero, Nat.zero_add, beq_self_eq_true, not_true_eq_false, not_false_eq_true, jz_1, jz_0, Option.toList_some, Option.toList_none, List.cons_append, List.nil_append, implies_true, false_implies, true_implies, not_true_eq_false, not_false_eq_true, Classical.not_not]
      exact hq
  · rintro lv h ⟨rfl, l0, l1, l2, l4, l6, l7, l9⟩
    rw [w_M_taken_82]
    simp only [w_M_taken_84, w_M_taken_85, w_M_taken_88, w_M_taken_243, w_M_taken_245, l0, l7, l9, mb_hp_a, h16, show 35 < n by omega, nI_leI (show N < 2 ^ 31 by omega) (show N < 2 ^ 31 by omega), Nat.le_refl, jx_i_s, jx_l_s, jx_a_s, jx_a_n, jx_c_s, jx_v_s, jx_g_s, jx_p_s, jx_ia_s, jx_la_s, jx_aa_s, jx_is_s, jx_ls_s, jx_sn_s, jx_sr_s, jx_n_s, va_rf_s, va_rf_n, jm_ok, jm_up_a, jm_up_up, Bool.or_true, Bool.true_or, Option.some.injEq, Value.int.injEq, Value.long.injEq, Value.ref.injEq, Sum.inr.injEq, Sum.inl.injEq, Prod.mk.injEq, List.getElem?_cons_zero, List.getElem?_cons_succ, List.length_cons, List.length_nil, List.set_cons_zero, List.set_cons_succ, jm_rf, Value.category, and_true, true_and, and_self, and_assoc, jm_p1, jm_p2, jm_k2, Nat.reduceAdd, Nat.reduceEqDiff, Nat.reduceBEq, Bool.and_false, Bool.false_and, Bool.and_true, Bool.true_and, Bool.false_eq_true, ↓reduceIte, reduceCtorEq, zero_ne_one, one_ne_zero, Nat.zero_add, beq_self_eq_true, not_true_eq_false, not_false_eq_true, jz_1, jz_0, Option.toList_some, Option.toList_none, List.cons_append, List.nil_append, implies_true, false_implies, true_implies, not_true_eq_false, not_false_eq_true, Classical.not_not]
    exact hq
end
