/-- merging, with costs in 32 bits -/
def mg1c (lo lc : Nat → Int32) (a w : Int32) (l : Nat) (s : Option Nat × (Nat → Int32) × (Nat → Int32)) : Option Nat × (Nat → Int32) × (Nat → Int32) :=
  if lt_is lo lc s.2.1 a w l = true then (match s.1 with
    | none => (some l, s.2.1, s.2.2)
    | some b => (some b, upd (upd s.2.1 b (s.2.1 b + s.2.1 l)) l 0, upd s.2.2 b (s.2.2 b + s.2.2 l))) else s
def mgC (lo lc : Nat → Int32) (a w : Int32) (lq lk : Nat → Int32) : Nat → Option Nat × (Nat → Int32) × (Nat → Int32)
  | 0 => (none, lq, lk)
  | l + 1 => mg1c lo lc a w l (mgC lo lc a w lq lk l)
theorem mgC_lt {lo lc : Nat → Int32} {a w : Int32} {lq lk : Nat → Int32} : ∀ {l b : Nat}, (mgC lo lc a w lq lk l).1 = some b → b < l
  | 0, b, h => by cases h
  | l + 1, b, h => by
    simp only [mgC] at h
    unfold mg1c at h
    split at h
    · cases hf : (mgC lo lc a w lq lk l).1 with
      | none =>
        rw [hf] at h
        cases h
        exact Nat.lt_succ_self _
      | some c =>
        rw [hf] at h
        cases h
        have := mgC_lt hf
        omega
    · have := mgC_lt h
      omega
/-- taking from a lot -/
def tkmC (left q : Int32) : Int32 := if q < left then q else left
def tkcC (m q k : Int32) : Int32 := (k.toInt64 * m.toInt64 / q.toInt64).toInt32
def tk1c (lo lc : Nat → Int32) (a w : Int32) (l : Nat) (s : Int32 × Int32 × (Nat → Int32) × (Nat → Int32)) : Int32 × Int32 × (Nat → Int32) × (Nat → Int32) :=
  if lt_is lo lc s.2.2.1 a w l = true then (s.1 - tkmC s.1 (s.2.2.1 l), s.2.1 + tkcC (tkmC s.1 (s.2.2.1 l)) (s.2.2.1 l) (s.2.2.2 l), upd s.2.2.1 l (s.2.2.1 l - tkmC s.1 (s.2.2.1 l)), upd s.2.2.2 l (s.2.2.2 l - tkcC (tkmC s.1 (s.2.2.1 l)) (s.2.2.1 l) (s.2.2.2 l))) else s
def tkC (lo lc : Nat → Int32) (a w how : Int32) (N : Nat) (s0 : Int32 × Int32 × (Nat → Int32) × (Nat → Int32)) : Nat → Int32 × Int32 × (Nat → Int32) × (Nat → Int32)
  | 0 => s0
  | i + 1 => if 0 < (tkC lo lc a w how N s0 i).1 then tk1c lo lc a w (tkx how N i) (tkC lo lc a w how N s0 i) else tkC lo lc a w how N s0 i
theorem tkC_stop {lo lc : Nat → Int32} {a w how : Int32} {N : Nat} {s0 : Int32 × Int32 × (Nat → Int32) × (Nat → Int32)} {i : Nat} (h : ¬ 0 < (tkC lo lc a w how N s0 i).1) : ∀ r, tkC lo lc a w how N s0 (i + r) = tkC lo lc a w how N s0 i
  | 0 => rfl
  | r + 1 => by
    show tkC lo lc a w how N s0 ((i + r) + 1) = _
    simp only [tkC]
    rw [tkC_stop h r, if_neg h]
def lt_lotC (lo lc lq lk : Nat → Int32) (a w k : Int32) : Nat → Nat → Int32 → Int64
  | 0, _, _ => -1
  | r + 1, l, m => if lt_is lo lc lq a w l = true then (if m = k then (lq l).toInt64 * 4294967296 + (lk l).toInt64 else lt_lotC lo lc lq lk a w k r (l + 1) (m + 1)) else lt_lotC lo lc lq lk a w k r (l + 1) m
/-- min -/
theorem c_Ma_min (d : Nat) {n : Nat} {f : Nat → va_E} {x y : Int32} : jm_call (d + 1) 128 [.int x, .int y] (n, f) (some (.int (tkmC x y))) (n, f) := by
  refine ⟨Nat.le_of_ble_eq_true rfl, ?_⟩
  have l0 : (jm_a0 (lv_args 0 [.int x, .int y])) 0 = some (.int x) := rfl
  have l1 : (jm_a0 (lv_args 0 [.int x, .int y])) 1 = some (.int y) := rfl
  generalize jm_a0 (lv_args 0 [.int x, .int y]) = lv at l0 l1 ⊢
  unfold tkmC
  by_cases h : y < x
  · simp only [w_Ma_min_0, w_Ma_min_1, w_Ma_min_2, w_Ma_min_5, w_Ma_min_6, w_Ma_min_9, w_Ma_min_10, l0, l1, h, jx_i_s, jx_l_s, jx_a_s, jx_a_n, jx_c_s, jx_v_s, jx_g_s, jx_p_s, jx_ia_s, jx_la_s, jx_aa_s, jx_is_s, jx_ls_s, jx_sn_s, jx_sr_s, jx_n_s, va_rf_s, va_rf_n, jm_ok, jm_up_a, jm_up_up, Bool.or_true, Bool.true_or, Option.some.injEq, Value.int.injEq, Value.long.injEq, Value.ref.injEq, Sum.inr.injEq, Sum.inl.injEq, Prod.mk.injEq, List.getElem?_cons_zero, List.getElem?_cons_succ, List.length_cons, List.length_nil, List.set_cons_zero, List.set_cons_succ, jm_rf, Value.category, and_true, true_and, and_self, and_assoc, jm_p1, jm_p2, jm_k2, Nat.reduceAdd, Nat.reduceEqDiff, Nat.reduceBEq, Bool.and_false, Bool.false_and, Bool.and_true, Bool.true_and, Bool.false_eq_true, ↓reduceIte, reduceCtorEq, zero_ne_one, one_ne_zero, Nat.zero_add, beq_self_eq_true, not_true_eq_false, not_false_eq_true, jz_1, jz_0, Option.toList_some, Option.toList_none, List.cons_append, List.nil_append, implies_true, false_implies, true_implies, not_true_eq_false, not_false_eq_true, Classical.not_not]
  · simp only [w_Ma_min_0, w_Ma_min_1, w_Ma_min_2, w_Ma_min_5, w_Ma_min_6, w_Ma_min_9, w_Ma_min_10, l0, l1, h, jx_i_s, jx_l_s, jx_a_s, jx_a_n, jx_c_s, jx_v_s, jx_g_s, jx_p_s, jx_ia_s, jx_la_s, jx_aa_s, jx_is_s, jx_ls_s, jx_sn_s, jx_sr_s, jx_n_s, va_rf_s, va_rf_n, jm_ok, jm_up_a, jm_up_up, Bool.or_true, Bool.true_or, Option.some.injEq, Value.int.injEq, Value.long.injEq, Value.ref.injEq, Sum.inr.injEq, Sum.inl.injEq, Prod.mk.injEq, List.getElem?_cons_zero, List.getElem?_cons_succ, List.length_cons, List.length_nil, List.set_cons_zero, List.set_cons_succ, jm_rf, Value.category, and_true, true_and, and_self, and_assoc, jm_p1, jm_p2, jm_k2, Nat.reduceAdd, Nat.reduceEqDiff, Nat.reduceBEq, Bool.and_false, Bool.false_and, Bool.and_true, Bool.true_and, Bool.false_eq_true, ↓reduceIte, reduceCtorEq, zero_ne_one, one_ne_zero, Nat.zero_add, beq_self_eq_true, not_true_eq_false, not_false_eq_true, jz_1, jz_0, Option.toList_some, Option.toList_none, List.cons_append, List.nil_append, implies_true, false_implies, true_implies, not_true_eq_false, not_false_eq_true, Classical.not_not]
