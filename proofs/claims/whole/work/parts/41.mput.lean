/-- the heap with the reference's journal put in -/
def mo_hp (f : Nat → va_E) (dy ma kd oa cm qt am : Nat → Int32) : Nat → va_E := fun j => if j = 38 then .inl (0, 41, .inl dy) else if j = 39 then .inl (0, 41, .inl ma) else if j = 40 then .inl (0, 246, .inl kd) else if j = 41 then .inl (0, 246, .inl oa) else if j = 42 then .inl (0, 246, .inl cm) else if j = 43 then .inl (0, 246, .inl qt) else if j = 44 then .inl (0, 246, .inl am) else f j
theorem mo_hp_a (f : Nat → va_E) (dy ma kd oa cm qt am : Nat → Int32) (j : Nat) : mo_hp f dy ma kd oa cm qt am j = if j = 38 then .inl (0, 41, .inl dy) else if j = 39 then .inl (0, 41, .inl ma) else if j = 40 then .inl (0, 246, .inl kd) else if j = 41 then .inl (0, 246, .inl oa) else if j = 42 then .inl (0, 246, .inl cm) else if j = 43 then .inl (0, 246, .inl qt) else if j = 44 then .inl (0, 246, .inl am) else f j := rfl
section
variable {f : Nat → va_E} {dy ma kd oa cm qt am : Nat → Int32}
theorem mo_hp_id (h38 : f 38 = .inl (0, 41, .inl dy)) (h39 : f 39 = .inl (0, 41, .inl ma)) (h40 : f 40 = .inl (0, 246, .inl kd)) (h41 : f 41 = .inl (0, 246, .inl oa)) (h42 : f 42 = .inl (0, 246, .inl cm)) (h43 : f 43 = .inl (0, 246, .inl qt)) (h44 : f 44 = .inl (0, 246, .inl am)) : mo_hp f dy ma kd oa cm qt am = f := by
  funext j
  unfold mo_hp
  split
  · subst j; exact h38.symm
  · split
    · subst j; exact h39.symm
    · split
      · subst j; exact h40.symm
      · split
        · subst j; exact h41.symm
        · split
          · subst j; exact h42.symm
          · split
            · subst j; exact h43.symm
            · split
              · subst j; exact h44.symm
              · rfl
theorem mo_hp_38 (g : Nat → Int32) : jm_up (mo_hp f dy ma kd oa cm qt am) 38 (.inl (0, 41, .inl g)) = mo_hp f g ma kd oa cm qt am := by
  funext j
  unfold jm_up mo_hp
  grind
theorem mo_hp_39 (g : Nat → Int32) : jm_up (mo_hp f dy ma kd oa cm qt am) 39 (.inl (0, 41, .inl g)) = mo_hp f dy g kd oa cm qt am := by
  funext j
  unfold jm_up mo_hp
  grind
theorem mo_hp_40 (g : Nat → Int32) : jm_up (mo_hp f dy ma kd oa cm qt am) 40 (.inl (0, 246, .inl g)) = mo_hp f dy ma g oa cm qt am := by
  funext j
  unfold jm_up mo_hp
  grind
theorem mo_hp_41 (g : Nat → Int32) : jm_up (mo_hp f dy ma kd oa cm qt am) 41 (.inl (0, 246, .inl g)) = mo_hp f dy ma kd g cm qt am := by
  funext j
  unfold jm_up mo_hp
  grind
theorem mo_hp_42 (g : Nat → Int32) : jm_up (mo_hp f dy ma kd oa cm qt am) 42 (.inl (0, 246, .inl g)) = mo_hp f dy ma kd oa g qt am := by
  funext j
  unfold jm_up mo_hp
  grind
theorem mo_hp_43 (g : Nat → Int32) : jm_up (mo_hp f dy ma kd oa cm qt am) 43 (.inl (0, 246, .inl g)) = mo_hp f dy ma kd oa cm g am := by
  funext j
  unfold jm_up mo_hp
  grind
theorem mo_hp_44 (g : Nat → Int32) : jm_up (mo_hp f dy ma kd oa cm qt am) 44 (.inl (0, 246, .inl g)) = mo_hp f dy ma kd oa cm qt g := by
  funext j
  unfold jm_up mo_hp
  grind
theorem mo_hp_35 (x : va_E) : jm_up (mo_hp f dy ma kd oa cm qt am) 35 x = mo_hp (jm_up f 35 x) dy ma kd oa cm qt am := by
  funext j
  unfold jm_up mo_hp
  grind
end
/-- a block of six, moved as far as k -/
def mvk (g : Nat → Int32) (t s k : Nat) : Nat → Int32 := fun p => if 6 * s ≤ p ∧ p < 6 * s + k then g (6 * t + (p - 6 * s)) else g p
theorem mvk_0 (g : Nat → Int32) (t s : Nat) : mvk g t s 0 = g := by
  funext p
  unfold mvk
  rw [if_neg (by omega)]
theorem mvk_s {g : Nat → Int32} {t s k : Nat} (h : t ≠ s) (hk : k < 6) : upd (mvk g t s k) (6 * s + k) (mvk g t s k (6 * t + k)) = mvk g t s (k + 1) := by
  funext p
  have e : mvk g t s k (6 * t + k) = g (6 * t + k) := by
    unfold mvk
    rw [if_neg (by omega)]
  rw [e]
  by_cases hp : p = 6 * s + k
  · subst hp
    rw [pk_us]
    unfold mvk
    rw [if_pos (by omega)]
    congr 1
    omega
  · rw [pk_un hp]
    unfold mvk
    by_cases h1 : 6 * s ≤ p ∧ p < 6 * s + k
    · rw [if_pos h1, if_pos (by omega)]
    · rw [if_neg h1, if_neg (by omega)]
section
variable {C : jm_C} {Q : jm_Q} {n : Nat} {f : Nat → va_E} {fs : List Value} {dy ma kd oa cm qt am : Nat → Int32}
theorem w_move {t s : Nat} (hn : 61 ≤ n) (hc : f 35 = .inr (11, fs)) (hs : mo_st fs) (ht : t < 41) (hs2 : s < 41) (hts : t ≠ s) (hq : Q none (n, mo_hp f dy ma (mvk kd t s 6) (mvk oa t s 6) (mvk cm t s 6) (mvk qt t s 6) (mvk am t s 6))) :
    ∀ (k : Nat) (lv : jm_L) (h : jm_H), k ≤ 6 → (h = (n, mo_hp f dy ma (mvk kd t s k) (mvk oa t s k) (mvk cm t s k) (mvk qt t s k) (mvk am t s k)) ∧ lv 0 = some (.ref 35) ∧ lv 1 = some (.int (nI t)) ∧ lv 2 = some (.int (nI s)) ∧ lv 3 = some (.int (nI k))) → jm_wp C 94 Q (26, lv, [], h) := by
  obtain ⟨s1, s2, s4, s5, s6, s7, s8, s9, s10, s11, s15, s17, s18, s19, s20, s23, s24, s25, s27, s28, s29, s31, s32, s33, s34, sl⟩ := hs
  have h6 : ∀ j, j < 6 → ¬ (6 : Int32) ≤ nI j := fun j hj => nI_ge hj (by decide)
  refine jm_for (fun k lv h => h = (n, mo_hp f dy ma (mvk kd t s k) (mvk oa t s k) (mvk cm t s k) (mvk qt t s k) (mvk am t s k)) ∧ lv 0 = some (.ref 35) ∧ lv 1 = some (.int (nI t)) ∧ lv 2 = some (.int (nI s)) ∧ lv 3 = some (.int (nI k))) ?_ ?_
  · rintro k lv h hk ⟨rfl, l0, l1, l2, l3⟩ ih
    rw [w_M_move_26]
    simp only [w_M_move_27, w_M_move_29, w_M_move_32, w_M_move_33, w_M_move_36, w_M_move_38, w_M_move_39, w_M_move_40, w_M_move_41, w_M_move_42, w_M_move_43, w_M_move_46, w_M_move_48, w_M_move_49, w_M_move_50, w_M_move_51, w_M_move_52, w_M_move_53, w_M_move_54, w_M_move_55, w_M_move_58, w_M_move_60, w_M_move_61, w_M_move_62, w_M_move_63, w_M_move_64, w_M_move_65, w_M_move_68, w_M_move_70, w_M_move_71, w_M_move_72, w_M_move_73, w_M_move_74, w_M_move_75, w_M_move_76, w_M_move_77, w_M_move_80, w_M_move_82, w_M_move_83, w_M_move_84, w_M_move_85, w_M_move_86, w_M_move_87, w_M_move_90, w_M_move_92, w_M_move_93, w_M_move_94, w_M_move_95, w_M_move_96, w_M_move_97, w_M_move_98, w_M_move_99, w_M_move_102, w_M_move_104, w_M_move_105, w_M_move_106, w_M_move_107, w_M_move_108, w_M_move_109, w_M_move_112, w_M_move_114, w_M_move_115, w_M_move_116, w_M_move_117, w_M_move_118, w_M_move_119, w_M_move_120, w_M_move_121, w_M_move_124, w_M_move_126, w_M_move_127, w_M_move_128, w_M_move_129, w_M_move_130, w_M_move_131, w_M_move_134, w_M_move_136, w_M_move_137, w_M_move_138, w_M_move_139, w_M_move_140, w_M_move_141, w_M_move_142, w_M_move_145, l0, l1, l2, l3, mo_hp_a, hc, s6, s7, s8, s9, s10, h6 k hk, n6, show 35 < n by omega, show 40 < n by omega, show 41 < n by omega, show 42 < n by omega, show 43 < n by omega, show 44 < n by omega, nI_clamp (show 6 * t + k < 2 ^ 31 by omega), nI_clamp (show 6 * s + k < 2 ^ 31 by omega), vp_in_nI (show 6 * t + k < 246 by omega) (by decide), vp_in_nI (show 6 * s + k < 246 by omega) (by decide), mo_hp_40, mo_hp_41, mo_hp_42, mo_hp_43, mo_hp_44, mvk_s hts hk, jx_i_s, jx_l_s, jx_a_s, jx_a_n, jx_c_s, jx_v_s, jx_g_s, jx_p_s, jx_ia_s, jx_la_s, jx_aa_s, jx_is_s, jx_ls_s, jx_sn_s, jx_sr_s, jx_n_s, va_rf_s, va_rf_n, jm_ok, jm_up_a, jm_up_up, Bool.or_true, Bool.true_or, Option.some.injEq, Value.int.injEq, Value.long.injEq, Value.ref.injEq, Sum.inr.injEq, Sum.inl.injEq, Prod.mk.injEq, List.getElem?_cons_zero, List.getElem?_cons_succ, List.length_cons, List.length_nil, List.set_cons_zero, List.set_cons_succ, jm_rf, Value.category, and_true, true_and, and_self, and_assoc, jm_p1, jm_p2, jm_k2, Nat.reduceAdd, Nat.reduceEqDiff, Nat.reduceBEq, Bool.and_false, Bool.false_and, Bool.and_true, Bool.true_and, Bool.false_eq_true, ↓reduceIte, reduceCtorEq, zero_ne_one, one_ne_zero, Nat.zero_add, beq_self_eq_true, not_true_eq_false, not_false_eq_true, jz_1, jz_0, Option.toList_some, Option.toList_none, List.cons_append, List.nil_append, implies_true, false_implies, true_implies, not_true_eq_false, not_false_eq_true, Classical.not_not]
    exact ih _ _ ⟨rfl, (by simp [jm_p1, jm_p2, jm_k2, Value.category, l0]), (by simp [jm_p1, jm_p2, jm_k2, Value.category, l1]), (by simp [jm_p1, jm_p2, jm_k2, Value.category, l2]), (by simp [jm_p1, jm_p2, jm_k2, Value.category, nI_1])⟩
  · rintro lv h ⟨rfl, l0, l1, l2, l3⟩
    rw [w_M_move_26]
    simp only [w_M_move_27, w_M_move_29, w_M_move_148, l3, show nI 6 = 6 from rfl, Int32.le_refl, jx_i_s, jx_l_s, jx_a_s, jx_a_n, jx_c_s, jx_v_s, jx_g_s, jx_p_s, jx_ia_s, jx_la_s, jx_aa_s, jx_is_s, jx_ls_s, jx_sn_s, jx_sr_s, jx_n_s, va_rf_s, va_rf_n, jm_ok, jm_up_a, jm_up_up, Bool.or_true, Bool.true_or, Option.some.injEq, Value.int.injEq, Value.long.injEq, Value.ref.injEq, Sum.inr.injEq, Sum.inl.injEq, Prod.mk.injEq, List.getElem?_cons_zero, List.getElem?_cons_succ, List.length_cons, List.length_nil, List.set_cons_zero, List.set_cons_succ, jm_rf, Value.category, and_true, true_and, and_self, and_assoc, jm_p1, jm_p2, jm_k2, Nat.reduceAdd, Nat.reduceEqDiff, Nat.reduceBEq, Bool.and_false, Bool.false_and, Bool.and_true, Bool.true_and, Bool.false_eq_true, ↓reduceIte, reduceCtorEq, zero_ne_one, one_ne_zero, Nat.zero_add, beq_self_eq_true, not_true_eq_false, not_false_eq_true, jz_1, jz_0, Option.toList_some, Option.toList_none, List.cons_append, List.nil_append, implies_true, false_implies, true_implies, not_true_eq_false, not_false_eq_true, Classical.not_not]
    exact hq
theorem c_M_move (d : Nat) {t s : Nat} (hn : 61 ≤ n) (hc : f 35 = .inr (11, fs)) (hs : mo_st fs) (ht : t < 41) (hs2 : s < 41) (hts : t ≠ s) : jm_call (d + 1) 94 [.ref 35, .int (nI t), .int (nI s)] (n, mo_hp f dy ma kd oa cm qt am) none (n, mo_hp f (upd dy s (dy t)) (upd ma s (ma t)) (mvk kd t s 6) (mvk oa t s 6) (mvk cm t s 6) (mvk qt t s 6) (mvk am t s 6)) := by
  refine ⟨Nat.le_of_ble_eq_true rfl, ?_⟩
  have l0 : (jm_a0 (lv_args 0 [.ref 35, .int (nI t), .int (nI s)])) 0 = some (.ref 35) := rfl
  have l1 : (jm_a0 (lv_args 0 [.ref 35, .int (nI t), .int (nI s)])) 1 = some (.int (nI t)) := rfl
  have l2 : (jm_a0 (lv_args 0 [.ref 35, .int (nI t), .int (nI s)])) 2 = some (.int (nI s)) := rfl
  generalize jm_a0 (lv_args 0 [.ref 35, .int (nI t), .int (nI s)]) = lv at l0 l1 l2 ⊢
  have hs' := hs
  obtain ⟨s1, s2, s4, s5, s6, s7, s8, s9, s10, s11, s15, s17, s18, s19, s20, s23, s24, s25, s27, s28, s29, s31, s32, s33, s34, sl⟩ := hs
  simp only [w_M_move_0, w_M_move_1, w_M_move_4, w_M_move_5, w_M_move_6, w_M_move_9, w_M_move_10, w_M_move_11, w_M_move_12, w_M_move_13, w_M_move_16, w_M_move_17, w_M_move_18, w_M_move_21, w_M_move_22, w_M_move_23, w_M_move_24, w_M_move_25, l0, l1, l2, mo_hp_a, hc, s4, s5, show 35 < n by omega, show 38 < n by omega, show 39 < n by omega, nI_clamp (show t < 2 ^ 31 by omega), nI_clamp (show s < 2 ^ 31 by omega), vp_in_nI ht (by decide), vp_in_nI hs2 (by decide), mo_hp_38, mo_hp_39, jx_i_s, jx_l_s, jx_a_s, jx_a_n, jx_c_s, jx_v_s, jx_g_s, jx_p_s, jx_ia_s, jx_la_s, jx_aa_s, jx_is_s, jx_ls_s, jx_sn_s, jx_sr_s, jx_n_s, va_rf_s, va_rf_n, jm_ok, jm_up_a, jm_up_up, Bool.or_true, Bool.true_or, Option.some.injEq, Value.int.injEq, Value.long.injEq, Value.ref.injEq, Sum.inr.injEq, Sum.inl.injEq, Prod.mk.injEq, List.getElem?_cons_zero, List.getElem?_cons_succ, List.length_cons, List.length_nil, List.set_cons_zero, List.set_cons_succ, jm_rf, Value.category, and_true, true_and, and_self, and_assoc, jm_p1, jm_p2, jm_k2, Nat.reduceAdd, Nat.reduceEqDiff, Nat.reduceBEq, Bool.and_false, Bool.false_and, Bool.and_true, Bool.true_and, Bool.false_eq_true, ↓reduceIte, reduceCtorEq, zero_ne_one, one_ne_zero, Nat.zero_add, beq_self_eq_true, not_true_eq_false, not_false_eq_true, jz_1, jz_0, Option.toList_some, Option.toList_none, List.cons_append, List.nil_append, implies_true, false_implies, true_implies, not_true_eq_false, not_false_eq_true, Classical.not_not]
  exact w_move hn hc hs' ht hs2 hts ⟨rfl, rfl⟩ 0 _ _ (by omega) ⟨by simp only [mvk_0], (by simp [jm_p1, jm_p2, jm_k2, Value.category, l0]), (by simp [jm_p1, jm_p2, jm_k2, Value.category, l1]), (by simp [jm_p1, jm_p2, jm_k2, Value.category, l2]), (by simp [jm_p1, jm_p2, jm_k2, Value.category, nI])⟩
end
/-- blocks from a on to c, moved up by one -/
def ins6 (g : Nat → Int32) (a c : Nat) : Nat → Int32 := fun p => if 6 * (a + 1) ≤ p ∧ p < 6 * (c + 1) then g (p - 6) else g p
def ins1 (g : Nat → Int32) (a c : Nat) : Nat → Int32 := fun t => if a + 1 ≤ t ∧ t ≤ c then g (t - 1) else g t
theorem ins6_c (g : Nat → Int32) (c : Nat) : ins6 g c c = g := by
  funext p
  unfold ins6
  rw [if_neg (by omega)]
theorem ins1_c (g : Nat → Int32) (c : Nat) : ins1 g c c = g := by
  funext p
  unfold ins1
  rw [if_neg (by omega)]
theorem ins6_s {g : Nat → Int32} {t c : Nat} (ht : t < c) : mvk (ins6 g (t + 1) c) t (t + 1) 6 = ins6 g t c := by
  funext p
  unfold mvk
  by_cases h : 6 * (t + 1) ≤ p ∧ p < 6 * (t + 1) + 6
  · rw [if_pos h]
    unfold ins6
    rw [if_neg (by omega), if_pos (by omega)]
    congr 1
    omega
  · rw [if_neg h]
    unfold ins6
    by_cases h2 : 6 * (t + 1 + 1) ≤ p ∧ p < 6 * (c + 1)
    · rw [if_pos h2, if_pos (by omega)]
    · rw [if_neg h2, if_neg (by omega)]
theorem ins1_s {g : Nat → Int32} {t c : Nat} (ht : t < c) : upd (ins1 g (t + 1) c) (t + 1) (ins1 g (t + 1) c t) = ins1 g t c := by
  funext p
  by_cases h : p = t + 1
  · subst h
    rw [pk_us]
    unfold ins1
    rw [if_neg (by omega), if_pos (by omega)]
    rfl
  · rw [pk_un h]
    unfold ins1
    by_cases h2 : t + 1 + 1 ≤ p ∧ p ≤ c
    · rw [if_pos h2, if_pos (by omega)]
    · rw [if_neg h2, if_neg (by omega)]
/-- a block written as far as k -/
def wr6 (g : Nat → Int32) (a k : Nat) (v : Nat → Int32) : Nat → Int32 := fun p => if 6 * a ≤ p ∧ p < 6 * a + k then v (p - 6 * a) else g p
theorem wr6_0 (g : Nat → Int32) (a : Nat) (v : Nat → Int32) : wr6 g a 0 v = g := by
  funext p
  unfold wr6
  rw [if_neg (by omega)]
theorem wr6_s (g : Nat → Int32) (a k : Nat) (v : Nat → Int32) : upd (wr6 g a k v) (6 * a + k) (v k) = wr6 g a (k + 1) v := by
  funext p
  by_cases h : p = 6 * a + k
  · subst h
    rw [pk_us]
    unfold wr6
    rw [if_pos (by omega)]
    congr 1
    omega
  · rw [pk_un h]
    unfold wr6
    by_cases h2 : 6 * a ≤ p ∧ p < 6 * a + k
    · rw [if_pos h2, if_pos (by omega)]
    · rw [if_neg h2, if_neg (by omega)]
