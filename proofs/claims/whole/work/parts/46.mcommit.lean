theorem set_id {fs : List Value} {k : Nat} {v : Value} (h : fs[k]? = some v) : fs.set k v = fs := by
  obtain ⟨hk, e⟩ := List.getElem?_eq_some_iff.mp h
  subst e
  exact List.set_getElem_self hk
theorem mbf_id {fs : List Value} {N : Nat} {x : Int32} (h16 : fs[16]? = some (.int (nI N))) (h21 : fs[21]? = some (.int x)) : mbf fs N x = fs := by
  unfold mbf
  rw [set_id h16, set_id h21]
theorem mbf_set3 (fs : List Value) (N : Nat) (x : Int32) (v : Value) : (mbf fs N x).set 3 v = mbf (fs.set 3 v) N x := by
  unfold mbf
  rw [List.set_comm _ _ (show 21 ≠ 3 by decide), List.set_comm _ _ (show 16 ≠ 3 by decide)]
theorem mbL_id {f : Nat → va_E} {fs : List Value} {x : Int32} {wt : Nat → Int64} {L : LT} (h35 : f 35 = .inr (11, fs)) (h16 : fs[16]? = some (.int (nI L.1))) (h21 : fs[21]? = some (.int x)) (h45 : f 45 = .inl (1, 246, .inr (.inl wt))) (h47 : f 47 = .inl (0, 246, .inl L.2.1)) (h48 : f 48 = .inl (0, 246, .inl L.2.2.1)) (h49 : f 49 = .inl (0, 246, .inl L.2.2.2.1)) (h50 : f 50 = .inl (1, 246, .inr (.inl L.2.2.2.2))) : mbL f fs x wt L = f := by
  funext j
  rw [mbL_a, mbf_id h16 h21]
  split
  · rename_i e; rw [e, h35]
  · split
    · rename_i e; rw [e, h45]
    · split
      · rename_i e; rw [e, h47]
      · split
        · rename_i e; rw [e, h48]
        · split
          · rename_i e; rw [e, h49]
          · split
            · rename_i e; rw [e, h50]
            · rfl
/-- the checks, one after another, until one fails -/
def ckR (ok : Nat → Bool) : Nat → Nat → Int32 → Int32
  | _, 0, cc => cc
  | i, r + 1, cc => if cc = 0 then ckR ok (i + 1) r (if ok i = true then 0 else 4) else cc
theorem ckR_n {ok : Nat → Bool} {cc : Int32} (h : ¬ cc = 0) : ∀ {r i : Nat}, ckR ok i r cc = cc
  | 0, _ => rfl
  | r + 1, i => by rw [ckR, if_neg h]
theorem ckR_z {ok : Nat → Bool} : ∀ {r i : Nat}, ckR ok i r 0 = 0 ↔ ∀ j, i ≤ j → j < i + r → ok j = true
  | 0, i => by
    refine ⟨fun _ j h1 h2 => absurd h2 (by omega), fun _ => rfl⟩
  | r + 1, i => by
    rw [ckR, if_pos rfl]
    by_cases h : ok i = true
    · rw [if_pos h, ckR_z]
      refine ⟨fun h1 j h2 h3 => ?_, fun h1 j h2 h3 => h1 j (by omega) (by omega)⟩
      by_cases e : j = i
      · rw [e]; exact h
      · exact h1 j (by omega) (by omega)
    · rw [if_neg h, ckR_n (by decide)]
      refine ⟨fun h1 => absurd h1 (by decide), fun h1 => absurd (h1 i (by omega) (by omega)) h⟩
/-- what booking says, seen from a new transaction at a -/
def cmC (b : Int32) (a : Nat) : Int32 := if 0 ≤ b then (if b / 2 ≤ nI a then (if b - b / 2 * 2 = 0 then 2 else 3) else 4) else 0
section
variable {C : jm_C} {Q : jm_Q} {n na c k : Nat} {f : Nat → va_E} {fs : List Value} {par dy ma oa ko kd kv : Nat → Int32} {wt : Nat → Int64} {P mn ka : Nat → Nat} {cc' : Int32} {a : Int32}
theorem w_ck {d : Nat} (hn : 61 ≤ n) (hc : f 35 = .inr (11, fs)) (hs : mo_st fs) (h0 : fs[0]? = some (.int (nI na))) (h36 : f 36 = .inl (0, 24, .inl par)) (hP : tr_par par P na) (hna : na ≤ 24) (h3 : fs[3]? = some (.int (nI c))) (h38 : f 38 = .inl (0, 41, .inl dy)) (h39 : f 39 = .inl (0, 41, .inl ma)) (h41 : f 41 = .inl (0, 246, .inl oa)) (h45 : f 45 = .inl (1, 246, .inr (.inl wt))) (hc41 : c ≤ 41) (hm : ∀ t, t < c → ma t = nI (mn t) ∧ mn t ≤ 6) (h22 : fs[22]? = some (.int (nI k))) (h51 : f 51 = .inl (0, 10, .inl ko)) (h52 : f 52 = .inl (0, 10, .inl kd)) (h53 : f 53 = .inl (0, 10, .inl kv)) (hk : k ≤ 10) (hka : ∀ i, i < k → ko i = nI (ka i) ∧ ka i < na)
    (fin : ∀ lv, lv 0 = some (.ref 35) → lv 1 = some (.int a) → lv 3 = some (.int cc') → jm_wp (jm_call (d + 2)) 97 Q (108, lv, [], (n, f))) :
    ∀ (r i : Nat) (cc : Int32) (lv : jm_L), i + r = k → ckR (fun i => decide (tr_S P na (fun x => mo_own dy oa wt mn c (nI x) (kd i)) (ka i) = (kv i).toInt64)) i r cc = cc' → lv 0 = some (.ref 35) → lv 1 = some (.int a) → lv 3 = some (.int cc) → lv 4 = some (.int (nI i)) → jm_wp (jm_call (d + 2)) 97 Q (53, lv, [], (n, f)) := by
  have hs' := hs
  obtain ⟨s1, s2, s4, s5, s6, s7, s8, s9, s10, s11, s15, s17, s18, s19, s20, s23, s24, s25, s27, s28, s29, s31, s32, s33, s34, sl⟩ := hs
  intro r
  induction r with
  | zero =>
    intro i cc lv hi e l0 l1 l3 l4
    rw [w_M_commit_53]
    simp only [w_M_commit_55, w_M_commit_56, w_M_commit_59, l0, l4, hc, h22, show 35 < n by omega, nI_leI (show k < 2 ^ 31 by omega) (show i < 2 ^ 31 by omega), show k ≤ i by omega, jx_i_s, jx_l_s, jx_a_s, jx_a_n, jx_c_s, jx_v_s, jx_g_s, jx_p_s, jx_ia_s, jx_la_s, jx_aa_s, jx_is_s, jx_ls_s, jx_sn_s, jx_sr_s, jx_n_s, va_rf_s, va_rf_n, jm_ok, jm_up_a, jm_up_up, Bool.or_true, Bool.true_or, Option.some.injEq, Value.int.injEq, Value.long.injEq, Value.ref.injEq, Sum.inr.injEq, Sum.inl.injEq, Prod.mk.injEq, List.getElem?_cons_zero, List.getElem?_cons_succ, List.length_cons, List.length_nil, List.set_cons_zero, List.set_cons_succ, jm_rf, Value.category, and_true, true_and, and_self, and_assoc, jm_p1, jm_p2, jm_k2, Nat.reduceAdd, Nat.reduceEqDiff, Nat.reduceBEq, Bool.and_false, Bool.false_and, Bool.and_true, Bool.true_and, Bool.false_eq_true, ↓reduceIte, reduceCtorEq, zero_ne_one, one_ne_zero, Nat.zero_add, beq_self_eq_true, not_true_eq_false, not_false_eq_true, jz_1, jz_0, Option.toList_some, Option.toList_none, List.cons_append, List.nil_append, implies_true, false_implies, true_implies, not_true_eq_false, not_false_eq_true, Classical.not_not]
    exact fin lv l0 l1 (by rw [l3, ← e]; rfl)
  | succ r ih =>
    intro i cc lv hi e l0 l1 l3 l4
    obtain ⟨e1, e2⟩ := hka i (by omega)
    rw [w_M_commit_53]
    by_cases hz : cc = 0
    · rw [ckR, if_pos hz] at e
      simp only [w_M_commit_55, w_M_commit_56, w_M_commit_59, w_M_commit_62, w_M_commit_63, w_M_commit_66, w_M_commit_67, w_M_commit_68, w_M_commit_71, w_M_commit_73, w_M_commit_74, w_M_commit_75, w_M_commit_78, w_M_commit_80, l0, l3, l4, hc, hz, h22, s23, s24, h51, h52, show 35 < n by omega, show 51 < n by omega, show 52 < n by omega, nI_leI (show k < 2 ^ 31 by omega) (show i < 2 ^ 31 by omega), show ¬ k ≤ i by omega, nI_clamp (show i < 2 ^ 31 by omega), vp_in_nI (show i < 10 by omega) (by decide), e1, jx_i_s, jx_l_s, jx_a_s, jx_a_n, jx_c_s, jx_v_s, jx_g_s, jx_p_s, jx_ia_s, jx_la_s, jx_aa_s, jx_is_s, jx_ls_s, jx_sn_s, jx_sr_s, jx_n_s, va_rf_s, va_rf_n, jm_ok, jm_up_a, jm_up_up, Bool.or_true, Bool.true_or, Option.some.injEq, Value.int.injEq, Value.long.injEq, Value.ref.injEq, Sum.inr.injEq, Sum.inl.injEq, Prod.mk.injEq, List.getElem?_cons_zero, List.getElem?_cons_succ, List.length_cons, List.length_nil, List.set_cons_zero, List.set_cons_succ, jm_rf, Value.category, and_true, true_and, and_self, and_assoc, jm_p1, jm_p2, jm_k2, Nat.reduceAdd, Nat.reduceEqDiff, Nat.reduceBEq, Bool.and_false, Bool.false_and, Bool.and_true, Bool.true_and, Bool.false_eq_true, ↓reduceIte, reduceCtorEq, zero_ne_one, one_ne_zero, Nat.zero_add, beq_self_eq_true, not_true_eq_false, not_false_eq_true, jz_1, jz_0, Option.toList_some, Option.toList_none, List.cons_append, List.nil_append, implies_true, false_implies, true_implies, not_true_eq_false, not_false_eq_true, Classical.not_not]
      refine w_M_commit_81 (c_M_posted d hn hc hs' h0 h36 hP hna h3 h38 h39 h41 h45 hc41 hm e2) (fs := fs) hc (show 35 < n by omega) (Nat.le_of_ble_eq_true rfl) ?_
      by_cases hv : tr_S P na (fun x => mo_own dy oa wt mn c (nI x) (kd i)) (ka i) = (kv i).toInt64
      · rw [if_pos (by rw [decide_eq_true_eq]; exact hv)] at e
        simp only [w_M_commit_84, w_M_commit_85, w_M_commit_88, w_M_commit_90, w_M_commit_91, w_M_commit_92, w_M_commit_93, w_M_commit_96, w_M_commit_97, w_M_commit_100, w_M_commit_101, w_M_commit_102, w_M_commit_105, l0, l4, hc, s25, h53, lg_eq, hv, show 35 < n by omega, show 53 < n by omega, nI_clamp (show i < 2 ^ 31 by omega), vp_in_nI (show i < 10 by omega) (by decide), jx_i_s, jx_l_s, jx_a_s, jx_a_n, jx_c_s, jx_v_s, jx_g_s, jx_p_s, jx_ia_s, jx_la_s, jx_aa_s, jx_is_s, jx_ls_s, jx_sn_s, jx_sr_s, jx_n_s, va_rf_s, va_rf_n, jm_ok, jm_up_a, jm_up_up, Bool.or_true, Bool.true_or, Option.some.injEq, Value.int.injEq, Value.long.injEq, Value.ref.injEq, Sum.inr.injEq, Sum.inl.injEq, Prod.mk.injEq, List.getElem?_cons_zero, List.getElem?_cons_succ, List.length_cons, List.length_nil, List.set_cons_zero, List.set_cons_succ, jm_rf, Value.category, and_true, true_and, and_self, and_assoc, jm_p1, jm_p2, jm_k2, Nat.reduceAdd, Nat.reduceEqDiff, Nat.reduceBEq, Bool.and_false, Bool.false_and, Bool.and_true, Bool.true_and, Bool.false_eq_true, ↓reduceIte, reduceCtorEq, zero_ne_one, one_ne_zero, Nat.zero_add, beq_self_eq_true, not_true_eq_false, not_false_eq_true, jz_1, jz_0, Option.toList_some, Option.toList_none, List.cons_append, List.nil_append, implies_true, false_implies, true_implies, not_true_eq_false, not_false_eq_true, Classical.not_not]
        exact ih (i + 1) _ _ (by omega) e (by simp [jm_p1, jm_p2, jm_k2, Value.category, l0]) (by simp [jm_p1, jm_p2, jm_k2, Value.category, l1]) (by simp [jm_p1, jm_p2, jm_k2, Value.category]) (by simp [jm_p1, jm_p2, jm_k2, Value.category, nI_1])
      · rw [if_neg (by rw [decide_eq_true_eq]; exact hv)] at e
        simp only [w_M_commit_84, w_M_commit_85, w_M_commit_88, w_M_commit_90, w_M_commit_91, w_M_commit_92, w_M_commit_93, w_M_commit_96, w_M_commit_97, w_M_commit_100, w_M_commit_101, w_M_commit_102, w_M_commit_105, l0, l4, hc, s25, h53, lg_eq, hv, show 35 < n by omega, show 53 < n by omega, nI_clamp (show i < 2 ^ 31 by omega), vp_in_nI (show i < 10 by omega) (by decide), jx_i_s, jx_l_s, jx_a_s, jx_a_n, jx_c_s, jx_v_s, jx_g_s, jx_p_s, jx_ia_s, jx_la_s, jx_aa_s, jx_is_s, jx_ls_s, jx_sn_s, jx_sr_s, jx_n_s, va_rf_s, va_rf_n, jm_ok, jm_up_a, jm_up_up, Bool.or_true, Bool.true_or, Option.some.injEq, Value.int.injEq, Value.long.injEq, Value.ref.injEq, Sum.inr.injEq, Sum.inl.injEq, Prod.mk.injEq, List.getElem?_cons_zero, List.getElem?_cons_succ, List.length_cons, List.length_nil, List.set_cons_zero, List.set_cons_succ, jm_rf, Value.category, and_true, true_and, and_self, and_assoc, jm_p1, jm_p2, jm_k2, Nat.reduceAdd, Nat.reduceEqDiff, Nat.reduceBEq, Bool.and_false, Bool.false_and, Bool.and_true, Bool.true_and, Bool.false_eq_true, ↓reduceIte, reduceCtorEq, zero_ne_one, one_ne_zero, Nat.zero_add, beq_self_eq_true, not_true_eq_false, not_false_eq_true, jz_1, jz_0, Option.toList_some, Option.toList_none, List.cons_append, List.nil_append, implies_true, false_implies, true_implies, not_true_eq_false, not_false_eq_true, Classical.not_not]
        exact ih (i + 1) _ _ (by omega) e (by simp [jm_p1, jm_p2, jm_k2, Value.category, l0]) (by simp [jm_p1, jm_p2, jm_k2, Value.category, l1]) (by simp [jm_p1, jm_p2, jm_k2, Value.category]) (by simp [jm_p1, jm_p2, jm_k2, Value.category, nI_1])
    · rw [ckR, if_neg hz] at e
      simp only [w_M_commit_55, w_M_commit_56, w_M_commit_59, w_M_commit_62, w_M_commit_63, l0, l3, l4, hc, h22, hz, show 35 < n by omega, nI_leI (show k < 2 ^ 31 by omega) (show i < 2 ^ 31 by omega), show ¬ k ≤ i by omega, jx_i_s, jx_l_s, jx_a_s, jx_a_n, jx_c_s, jx_v_s, jx_g_s, jx_p_s, jx_ia_s, jx_la_s, jx_aa_s, jx_is_s, jx_ls_s, jx_sn_s, jx_sr_s, jx_n_s, va_rf_s, va_rf_n, jm_ok, jm_up_a, jm_up_up, Bool.or_true, Bool.true_or, Option.some.injEq, Value.int.injEq, Value.long.injEq, Value.ref.injEq, Sum.inr.injEq, Sum.inl.injEq, Prod.mk.injEq, List.getElem?_cons_zero, List.getElem?_cons_succ, List.length_cons, List.length_nil, List.set_cons_zero, List.set_cons_succ, jm_rf, Value.category, and_true, true_and, and_self, and_assoc, jm_p1, jm_p2, jm_k2, Nat.reduceAdd, Nat.reduceEqDiff, Nat.reduceBEq, Bool.and_false, Bool.false_and, Bool.and_true, Bool.true_and, Bool.false_eq_true, ↓reduceIte, reduceCtorEq, zero_ne_one, one_ne_zero, Nat.zero_add, beq_self_eq_true, not_true_eq_false, not_false_eq_true, jz_1, jz_0, Option.toList_some, Option.toList_none, List.cons_append, List.nil_append, implies_true, false_implies, true_implies, not_true_eq_false, not_false_eq_true, Classical.not_not]
      exact fin lv l0 l1 (by rw [l3, ← e])
end
