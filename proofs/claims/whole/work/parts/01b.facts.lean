/-! Facts of the tables. -/
theorem jm_on_ok : ∀ M : Nat, jm_on (jm_oc M) = (jm_y M).cls
  | 0 => rfl
  | 1 => rfl
  | 2 => rfl
  | 3 => rfl
  | 4 => rfl
  | 5 => rfl
  | 6 => rfl
  | 7 => rfl
  | 8 => rfl
  | 9 => rfl
  | 10 => rfl
  | 11 => rfl
  | 12 => rfl
  | 13 => rfl
  | 14 => rfl
  | 15 => rfl
  | 16 => rfl
  | 17 => rfl
  | 18 => rfl
  | 19 => rfl
  | 20 => rfl
  | 21 => rfl
  | 22 => rfl
  | 23 => rfl
  | 24 => rfl
  | 25 => rfl
  | 26 => rfl
  | 27 => rfl
  | 28 => rfl
  | 29 => rfl
  | 30 => rfl
  | 31 => rfl
  | 32 => rfl
  | 33 => rfl
  | 34 => rfl
  | 35 => rfl
  | 36 => rfl
  | 37 => rfl
  | 38 => rfl
  | 39 => rfl
  | 40 => rfl
  | 41 => rfl
  | 42 => rfl
  | 43 => rfl
  | 44 => rfl
  | 45 => rfl
  | 46 => rfl
  | 47 => rfl
  | 48 => rfl
  | 49 => rfl
  | 50 => rfl
  | 51 => rfl
  | 52 => rfl
  | 53 => rfl
  | 54 => rfl
  | 55 => rfl
  | 56 => rfl
  | 57 => rfl
  | 58 => rfl
  | 59 => rfl
  | 60 => rfl
  | 61 => rfl
  | 62 => rfl
  | 63 => rfl
  | 64 => rfl
  | 65 => rfl
  | 66 => rfl
  | 67 => rfl
  | 68 => rfl
  | 69 => rfl
  | 70 => rfl
  | 71 => rfl
  | 72 => rfl
  | 73 => rfl
  | 74 => rfl
  | 75 => rfl
  | 76 => rfl
  | 77 => rfl
  | 78 => rfl
  | 79 => rfl
  | 80 => rfl
  | 81 => rfl
  | 82 => rfl
  | 83 => rfl
  | 84 => rfl
  | 85 => rfl
  | 86 => rfl
  | 87 => rfl
  | 88 => rfl
  | 89 => rfl
  | 90 => rfl
  | 91 => rfl
  | 92 => rfl
  | 93 => rfl
  | 94 => rfl
  | 95 => rfl
  | 96 => rfl
  | 97 => rfl
  | 98 => rfl
  | 99 => rfl
  | 100 => rfl
  | 101 => rfl
  | 102 => rfl
  | 103 => rfl
  | 104 => rfl
  | 105 => rfl
  | 106 => rfl
  | 107 => rfl
  | 108 => rfl
  | 109 => rfl
  | 110 => rfl
  | 111 => rfl
  | 112 => rfl
  | 113 => rfl
  | 114 => rfl
  | 115 => rfl
  | 116 => rfl
  | 117 => rfl
  | 118 => rfl
  | 119 => rfl
  | 120 => rfl
  | 121 => rfl
  | 122 => rfl
  | 123 => rfl
  | 124 => rfl
  | 125 => rfl
  | 126 => rfl
  | 127 => rfl
  | 128 => rfl
  | 129 => rfl
  | _ + 130 => rfl
def jm_f1 (e : (Nat × Nat) × (Nat × Nat)) : Bool := match jm_cl[e.2.1]? with
  | some (C, T, N) => decide (e.2.2 < N) && decide ((T e.2.2).1 = C) && decide (Cond.fieldLink (jm_on e.1.1) e.1.2 C (T e.2.2).2.1 (T e.2.2).2.2.1 ∈ lw_tbl)
  | none => false
theorem jm_f1_all : jm_ft.all jm_f1 = true := by decide +kernel
theorem jm_fl_ok {M i ci k : Nat} (h : jm_fl (jm_oc M) i = some (ci, k)) : ∃ C T N, jm_cl[ci]? = some (C, T, N) ∧ k < N ∧ (T k).1 = C ∧ Cond.fieldLink (jm_y M).cls i C (T k).2.1 (T k).2.2.1 ∈ jm_gw := by
  have h1 := List.all_eq_true.mp jm_f1_all _ (jm_find_in h)
  unfold jm_f1 at h1
  simp only at h1
  cases hc : jm_cl[ci]? with
  | none => rw [hc] at h1; cases h1
  | some q =>
    obtain ⟨C, T, N⟩ := q
    rw [hc] at h1
    simp only [Bool.and_eq_true, decide_eq_true_eq] at h1
    refine ⟨C, T, N, rfl, h1.1.1, h1.1.2, jm_gw_in ?_ rfl⟩
    rw [← jm_on_ok]
    exact h1.2
theorem jm_c0_w : (u_ws "LotBooks" jm_T0 8).all (fun w => decide (w ∈ lw_tbl) && goodWord w) = true := by decide +kernel
theorem jm_c0_t : ∀ k, k < 8 → parseFieldDescriptor (jm_T0 k).2.2.1 = some (jm_ty0 k) := by decide +kernel
theorem jm_c0_n : ∀ a, a < 8 → ∀ b, b < 8 → a ≠ b → (jm_T0 a).2.1 ≠ (jm_T0 b).2.1 := by decide +kernel
theorem jm_c0_d : ∀ k, k < 8 → defaultValue (jm_ty0 k) = vp_V (jm_df 0) k := by decide +kernel
theorem jm_c1_w : (u_ws "LotBooks$Accounts" jm_T1 4).all (fun w => decide (w ∈ lw_tbl) && goodWord w) = true := by decide +kernel
theorem jm_c1_t : ∀ k, k < 4 → parseFieldDescriptor (jm_T1 k).2.2.1 = some (jm_ty1 k) := by decide +kernel
theorem jm_c1_n : ∀ a, a < 4 → ∀ b, b < 4 → a ≠ b → (jm_T1 a).2.1 ≠ (jm_T1 b).2.1 := by decide +kernel
theorem jm_c1_d : ∀ k, k < 4 → defaultValue (jm_ty1 k) = vp_V (jm_df 1) k := by decide +kernel
theorem jm_c2_w : (u_ws "LotBooks$Checks" jm_T2 4).all (fun w => decide (w ∈ lw_tbl) && goodWord w) = true := by decide +kernel
theorem jm_c2_t : ∀ k, k < 4 → parseFieldDescriptor (jm_T2 k).2.2.1 = some (jm_ty2 k) := by decide +kernel
theorem jm_c2_n : ∀ a, a < 4 → ∀ b, b < 4 → a ≠ b → (jm_T2 a).2.1 ≠ (jm_T2 b).2.1 := by decide +kernel
theorem jm_c2_d : ∀ k, k < 4 → defaultValue (jm_ty2 k) = vp_V (jm_df 2) k := by decide +kernel
theorem jm_c3_w : (u_ws "LotBooks$Closing" jm_T3 4).all (fun w => decide (w ∈ lw_tbl) && goodWord w) = true := by decide +kernel
theorem jm_c3_t : ∀ k, k < 4 → parseFieldDescriptor (jm_T3 k).2.2.1 = some (jm_ty3 k) := by decide +kernel
theorem jm_c3_n : ∀ a, a < 4 → ∀ b, b < 4 → a ≠ b → (jm_T3 a).2.1 ≠ (jm_T3 b).2.1 := by decide +kernel
theorem jm_c3_d : ∀ k, k < 4 → defaultValue (jm_ty3 k) = vp_V (jm_df 3) k := by decide +kernel
theorem jm_c4_w : (u_ws "LotBooks$Closings" jm_T4 2).all (fun w => decide (w ∈ lw_tbl) && goodWord w) = true := by decide +kernel
theorem jm_c4_t : ∀ k, k < 2 → parseFieldDescriptor (jm_T4 k).2.2.1 = some (jm_ty4 k) := by decide +kernel
theorem jm_c4_n : ∀ a, a < 2 → ∀ b, b < 2 → a ≠ b → (jm_T4 a).2.1 ≠ (jm_T4 b).2.1 := by decide +kernel
theorem jm_c4_d : ∀ k, k < 2 → defaultValue (jm_ty4 k) = vp_V (jm_df 4) k := by decide +kernel
theorem jm_c5_w : (u_ws "LotBooks$Journal" jm_T5 4).all (fun w => decide (w ∈ lw_tbl) && goodWord w) = true := by decide +kernel
theorem jm_c5_t : ∀ k, k < 4 → parseFieldDescriptor (jm_T5 k).2.2.1 = some (jm_ty5 k) := by decide +kernel
theorem jm_c5_n : ∀ a, a < 4 → ∀ b, b < 4 → a ≠ b → (jm_T5 a).2.1 ≠ (jm_T5 b).2.1 := by decide +kernel
theorem jm_c5_d : ∀ k, k < 4 → defaultValue (jm_ty5 k) = vp_V (jm_df 5) k := by decide +kernel
theorem jm_c6_w : (u_ws "LotBooks$Lots" jm_T6 5).all (fun w => decide (w ∈ lw_tbl) && goodWord w) = true := by decide +kernel
theorem jm_c6_t : ∀ k, k < 5 → parseFieldDescriptor (jm_T6 k).2.2.1 = some (jm_ty6 k) := by decide +kernel
theorem jm_c6_n : ∀ a, a < 5 → ∀ b, b < 5 → a ≠ b → (jm_T6 a).2.1 ≠ (jm_T6 b).2.1 := by decide +kernel
theorem jm_c6_d : ∀ k, k < 5 → defaultValue (jm_ty6 k) = vp_V (jm_df 6) k := by decide +kernel
theorem jm_c7_w : (u_ws "LotBooks$Posting" jm_T7 5).all (fun w => decide (w ∈ lw_tbl) && goodWord w) = true := by decide +kernel
theorem jm_c7_t : ∀ k, k < 5 → parseFieldDescriptor (jm_T7 k).2.2.1 = some (jm_ty7 k) := by decide +kernel
theorem jm_c7_n : ∀ a, a < 5 → ∀ b, b < 5 → a ≠ b → (jm_T7 a).2.1 ≠ (jm_T7 b).2.1 := by decide +kernel
theorem jm_c7_d : ∀ k, k < 5 → defaultValue (jm_ty7 k) = vp_V (jm_df 7) k := by decide +kernel
theorem jm_c8_w : (u_ws "LotBooks$Prices" jm_T8 4).all (fun w => decide (w ∈ lw_tbl) && goodWord w) = true := by decide +kernel
theorem jm_c8_t : ∀ k, k < 4 → parseFieldDescriptor (jm_T8 k).2.2.1 = some (jm_ty8 k) := by decide +kernel
theorem jm_c8_n : ∀ a, a < 4 → ∀ b, b < 4 → a ≠ b → (jm_T8 a).2.1 ≠ (jm_T8 b).2.1 := by decide +kernel
theorem jm_c8_d : ∀ k, k < 4 → defaultValue (jm_ty8 k) = vp_V (jm_df 8) k := by decide +kernel
theorem jm_c9_w : (u_ws "LotBooks$Statement" jm_T9 3).all (fun w => decide (w ∈ lw_tbl) && goodWord w) = true := by decide +kernel
theorem jm_c9_t : ∀ k, k < 3 → parseFieldDescriptor (jm_T9 k).2.2.1 = some (jm_ty9 k) := by decide +kernel
theorem jm_c9_n : ∀ a, a < 3 → ∀ b, b < 3 → a ≠ b → (jm_T9 a).2.1 ≠ (jm_T9 b).2.1 := by decide +kernel
theorem jm_c9_d : ∀ k, k < 3 → defaultValue (jm_ty9 k) = vp_V (jm_df 9) k := by decide +kernel
theorem jm_c10_w : (u_ws "LotBooks$Transaction" jm_T10 3).all (fun w => decide (w ∈ lw_tbl) && goodWord w) = true := by decide +kernel
theorem jm_c10_t : ∀ k, k < 3 → parseFieldDescriptor (jm_T10 k).2.2.1 = some (jm_ty10 k) := by decide +kernel
theorem jm_c10_n : ∀ a, a < 3 → ∀ b, b < 3 → a ≠ b → (jm_T10 a).2.1 ≠ (jm_T10 b).2.1 := by decide +kernel
theorem jm_c10_d : ∀ k, k < 3 → defaultValue (jm_ty10 k) = vp_V (jm_df 10) k := by decide +kernel
theorem jm_c11_w : (u_ws "LotBooksModel" jm_T11 35).all (fun w => decide (w ∈ lw_tbl) && goodWord w) = true := by decide +kernel
theorem jm_c11_t : ∀ k, k < 35 → parseFieldDescriptor (jm_T11 k).2.2.1 = some (jm_ty11 k) := by decide +kernel
theorem jm_c11_n : ∀ a, a < 35 → ∀ b, b < 35 → a ≠ b → (jm_T11 a).2.1 ≠ (jm_T11 b).2.1 := by decide +kernel
theorem jm_c11_d : ∀ k, k < 35 → defaultValue (jm_ty11 k) = vp_V (jm_df 11) k := by decide +kernel
theorem jm_all_w {ws : List Cond} (h : ws.all (fun w => decide (w ∈ lw_tbl) && goodWord w) = true) : ∀ w ∈ ws, w ∈ jm_gw := by
  intro w hw
  have h1 := List.all_eq_true.mp h w hw
  simp only [Bool.and_eq_true, decide_eq_true_eq] at h1
  exact jm_gw_in h1.1 h1.2
theorem jm_cl_ok : ∀ {ci : Nat} {C : String} {T : u_T} {N : Nat}, jm_cl[ci]? = some (C, T, N) → (∀ w ∈ u_ws C T N, w ∈ jm_gw) ∧ (∀ k, k < N → parseFieldDescriptor (T k).2.2.1 = some (jm_ty ci k)) ∧ (∀ a, a < N → ∀ b, b < N → a ≠ b → (T a).2.1 ≠ (T b).2.1)
  | 0, _, _, _, h => by
    cases h
    exact ⟨jm_all_w jm_c0_w, jm_c0_t, jm_c0_n⟩
  | 1, _, _, _, h => by
    cases h
    exact ⟨jm_all_w jm_c1_w, jm_c1_t, jm_c1_n⟩
  | 2, _, _, _, h => by
    cases h
    exact ⟨jm_all_w jm_c2_w, jm_c2_t, jm_c2_n⟩
  | 3, _, _, _, h => by
    cases h
    exact ⟨jm_all_w jm_c3_w, jm_c3_t, jm_c3_n⟩
  | 4, _, _, _, h => by
    cases h
    exact ⟨jm_all_w jm_c4_w, jm_c4_t, jm_c4_n⟩
  | 5, _, _, _, h => by
    cases h
    exact ⟨jm_all_w jm_c5_w, jm_c5_t, jm_c5_n⟩
  | 6, _, _, _, h => by
    cases h
    exact ⟨jm_all_w jm_c6_w, jm_c6_t, jm_c6_n⟩
  | 7, _, _, _, h => by
    cases h
    exact ⟨jm_all_w jm_c7_w, jm_c7_t, jm_c7_n⟩
  | 8, _, _, _, h => by
    cases h
    exact ⟨jm_all_w jm_c8_w, jm_c8_t, jm_c8_n⟩
  | 9, _, _, _, h => by
    cases h
    exact ⟨jm_all_w jm_c9_w, jm_c9_t, jm_c9_n⟩
  | 10, _, _, _, h => by
    cases h
    exact ⟨jm_all_w jm_c10_w, jm_c10_t, jm_c10_n⟩
  | 11, _, _, _, h => by
    cases h
    exact ⟨jm_all_w jm_c11_w, jm_c11_t, jm_c11_n⟩
  | ci + 12, _, _, _, h => by
    cases h
theorem jm_fin_ok {M ci k : Nat} {C : String} {T : u_T} {N : Nat} (h : jm_fin M ci k = true) (hc : jm_cl[ci]? = some (C, T, N)) : (T k).2.2.2 = false ∨ ((T k).2.2.2 = true ∧ (jm_y M).name = "<init>" ∧ (T k).1 = (jm_y M).cls) := by
  unfold jm_fin at h
  rw [hc] at h
  simp only [Bool.or_eq_true, Bool.and_eq_true, beq_iff_eq, Bool.not_eq_true'] at h
  rcases h with h | h
  · exact Or.inl h
  · by_cases hf : (T k).2.2.2 = true
    · exact Or.inr ⟨hf, h.1, h.2⟩
    · exact Or.inl (by simpa using hf)
def jm_n1 (e : (Nat × Nat) × Nat) : Bool := match jm_cl[e.2]? with
  | some (C, _, N) => decide (Cond.classLink (jm_on e.1.1) e.1.2 C ∈ lw_tbl) && decide (Cond.instantiable C N ∈ lw_tbl) && decide (Cond.initialized C ∈ lw_tbl)
  | none => false
theorem jm_n1_all : jm_nt.all jm_n1 = true := by decide +kernel
theorem jm_df_ok : ∀ {ci : Nat} {C : String} {T : u_T} {N : Nat}, jm_cl[ci]? = some (C, T, N) → (jm_df ci).length = N ∧ (∀ j, j < N → defaultValue (jm_ty ci j) = vp_V (jm_df ci) j)
  | 0, _, _, _, h => by
    cases h
    exact ⟨rfl, jm_c0_d⟩
  | 1, _, _, _, h => by
    cases h
    exact ⟨rfl, jm_c1_d⟩
  | 2, _, _, _, h => by
    cases h
    exact ⟨rfl, jm_c2_d⟩
  | 3, _, _, _, h => by
    cases h
    exact ⟨rfl, jm_c3_d⟩
  | 4, _, _, _, h => by
    cases h
    exact ⟨rfl, jm_c4_d⟩
  | 5, _, _, _, h => by
    cases h
    exact ⟨rfl, jm_c5_d⟩
  | 6, _, _, _, h => by
    cases h
    exact ⟨rfl, jm_c6_d⟩
  | 7, _, _, _, h => by
    cases h
    exact ⟨rfl, jm_c7_d⟩
  | 8, _, _, _, h => by
    cases h
    exact ⟨rfl, jm_c8_d⟩
  | 9, _, _, _, h => by
    cases h
    exact ⟨rfl, jm_c9_d⟩
  | 10, _, _, _, h => by
    cases h
    exact ⟨rfl, jm_c10_d⟩
  | 11, _, _, _, h => by
    cases h
    exact ⟨rfl, jm_c11_d⟩
  | ci + 12, _, _, _, h => by
    cases h
theorem jm_nw_in {M i ci : Nat} (h : jm_nw (jm_oc M) i = some ci) : ∃ C T N, jm_cl[ci]? = some (C, T, N) ∧ Cond.classLink (jm_y M).cls i C ∈ jm_gw ∧ Cond.instantiable C N ∈ jm_gw ∧ Cond.initialized C ∈ jm_gw := by
  have h1 := List.all_eq_true.mp jm_n1_all _ (jm_find_in h)
  unfold jm_n1 at h1
  simp only at h1
  cases hc : jm_cl[ci]? with
  | none => rw [hc] at h1; cases h1
  | some q =>
    obtain ⟨C, T, N⟩ := q
    rw [hc] at h1
    simp only [Bool.and_eq_true, decide_eq_true_eq] at h1
    refine ⟨C, T, N, rfl, jm_gw_in ?_ rfl, jm_gw_in h1.1.2 rfl, jm_gw_in h1.2 rfl⟩
    rw [← jm_on_ok]
    exact h1.1.1
def jm_m1 (e : (Nat × Nat) × (Nat × Nat)) : Bool := decide (e.2.2 < jm_N) && decide (Cond.initialized (jm_y e.2.2).cls ∈ lw_tbl) && (match e.2.1 with
  | 0 => decide (Cond.methodLink (jm_on e.1.1) e.1.2 (jm_y e.2.2) ∈ lw_tbl) && decide (Cond.instanceMethod (jm_y e.2.2) ∈ lw_tbl) && decide (Cond.selects (jm_y e.2.2).cls (jm_y e.2.2) (jm_y e.2.2) ∈ lw_tbl) && ((jm_cl[jm_rc e.2.2]?).any (fun q => q.1 == (jm_y e.2.2).cls))
  | 1 => decide (Cond.methodLink (jm_on e.1.1) e.1.2 (jm_y e.2.2) ∈ lw_tbl) && decide (Cond.static (jm_y e.2.2) ∈ lw_tbl)
  | 2 => decide (Cond.methodLink (jm_on e.1.1) e.1.2 (jm_y e.2.2) ∈ lw_tbl) && decide (Cond.instanceMethod (jm_y e.2.2) ∈ lw_tbl) && decide ((jm_y e.2.2).name = "<init>") && decide (jm_rt e.2.2 = none)
  | 3 => decide (Cond.methodLinkNest (jm_on e.1.1) e.1.2 (jm_y e.2.2) "LotBooks" ∈ jm_nn) && decide (Cond.instanceMethod (jm_y e.2.2) ∈ lw_tbl) && decide ((jm_y e.2.2).name = "<init>") && decide (jm_rt e.2.2 = none)
  | _ => false)
def jm_mt0 : jm_PT (Nat × Nat) := [((12, 9), (2, 0)), ((0, 9), (2, 29)), ((1, 25), (0, 30)), ((12, 13), (0, 1)), ((0, 58), (0, 31)), ((0, 62), (1, 22)), ((0, 91), (1, 21)), ((0, 73), (0, 30)), ((12, 18), (0, 2)), ((0, 77), (0, 24)), ((0, 206), (0, 40)), ((0, 83), (2, 75)), ((12, 23), (0, 3)), ((0, 86), (0, 25)), ((0, 210), (0, 76)), ((0, 97), (2, 65)), ((0, 100), (0, 78)), ((12, 28), (0, 4)), ((0, 103), (0, 26)), ((0, 136), (1, 23)), ((12, 33), (0, 5)), ((12, 37), (0, 6)), ((0, 106), (0, 77)), ((12, 41), (0, 7)), ((0, 113), (0, 46)), ((0, 117), (0, 47)), ((0, 121), (0, 48)), ((5, 36), (0, 57)), ((5, 39), (0, 49)), ((5, 47), (0, 50)), ((5, 66), (0, 59)), ((6, 28), (0, 62)), ((5, 51), (0, 51)), ((5, 76), (0, 58)), ((5, 80), (0, 60)), ((6, 32), (0, 63)), ((6, 36), (1, 128)), ((6, 42), (0, 64)), ((0, 124), (0, 35)), ((2, 25), (0, 52))]
theorem jm_m1_0 : jm_mt0.all jm_m1 = true := by decide +kernel
def jm_mt1 : jm_PT (Nat × Nat) := [((5, 84), (0, 46)), ((5, 87), (0, 32)), ((5, 93), (0, 45)), ((12, 46), (0, 8)), ((12, 51), (0, 9)), ((12, 55), (0, 10)), ((0, 128), (0, 44)), ((0, 132), (0, 45)), ((12, 59), (0, 11)), ((0, 139), (0, 68)), ((8, 25), (0, 70)), ((12, 64), (0, 12)), ((0, 142), (0, 69)), ((12, 68), (0, 13)), ((0, 146), (0, 52)), ((0, 150), (0, 34)), ((12, 72), (0, 14)), ((0, 156), (2, 36)), ((0, 157), (0, 27)), ((0, 220), (0, 55)), ((5, 100), (0, 69)), ((5, 96), (0, 66)), ((0, 224), (0, 41)), ((0, 161), (0, 28)), ((0, 177), (0, 72)), ((9, 21), (1, 129)), ((9, 27), (0, 54)), ((9, 33), (0, 42)), ((0, 164), (0, 38)), ((12, 76), (0, 15)), ((0, 166), (0, 39)), ((12, 80), (0, 16)), ((12, 85), (0, 17)), ((12, 90), (0, 18)), ((0, 185), (0, 53)), ((12, 95), (0, 19)), ((0, 193), (0, 61)), ((12, 100), (0, 20)), ((0, 199), (0, 73)), ((9, 48), (0, 74))]
theorem jm_m1_1 : jm_mt1.all jm_m1 = true := by decide +kernel
def jm_mt2 : jm_PT (Nat × Nat) := [((9, 58), (1, 127)), ((9, 52), (1, 126)), ((12, 12), (2, 79)), ((12, 17), (0, 83)), ((11, 90), (0, 80)), ((12, 22), (0, 85)), ((11, 101), (0, 84)), ((12, 27), (0, 88)), ((11, 114), (0, 86)), ((11, 119), (0, 87)), ((12, 32), (0, 90)), ((11, 127), (0, 89)), ((11, 123), (0, 81)), ((12, 36), (0, 91)), ((12, 40), (0, 92)), ((12, 50), (0, 93)), ((12, 45), (0, 97)), ((11, 135), (0, 95)), ((11, 131), (0, 94)), ((11, 138), (0, 100)), ((11, 158), (0, 101)), ((11, 162), (0, 103)), ((11, 166), (0, 102)), ((11, 169), (0, 104)), ((11, 144), (0, 107)), ((11, 176), (0, 82)), ((11, 180), (0, 106)), ((11, 148), (0, 96)), ((12, 54), (0, 98)), ((12, 58), (0, 99)), ((12, 99), (0, 105)), ((12, 94), (0, 109)), ((11, 183), (0, 108)), ((12, 71), (0, 110)), ((12, 63), (0, 111)), ((12, 67), (0, 112)), ((12, 75), (0, 114)), ((11, 194), (0, 113)), ((11, 190), (0, 112)), ((11, 198), (0, 115))]
theorem jm_m1_2 : jm_mt2.all jm_m1 = true := by decide +kernel
def jm_mt3 : jm_PT (Nat × Nat) := [((11, 201), (0, 116)), ((12, 79), (0, 117)), ((12, 84), (0, 118)), ((12, 89), (0, 120)), ((11, 204), (0, 119)), ((12, 103), (0, 125)), ((11, 220), (0, 124)), ((11, 210), (0, 123)), ((11, 207), (0, 120)), ((11, 213), (1, 121)), ((11, 217), (0, 122)), ((0, 18), (3, 67)), ((0, 25), (3, 33)), ((0, 32), (3, 37)), ((0, 39), (3, 71)), ((0, 46), (3, 43)), ((5, 23), (3, 56))]
theorem jm_m1_3 : jm_mt3.all jm_m1 = true := by decide +kernel
theorem jm_mt_eq : jm_mt = jm_mt0 ++ jm_mt1 ++ jm_mt2 ++ jm_mt3 := rfl
theorem jm_m1_all : jm_mt.all jm_m1 = true := by
  rw [jm_mt_eq]
  simp only [List.all_append, Bool.and_eq_true]
  exact ⟨⟨⟨jm_m1_0, jm_m1_1⟩, jm_m1_2⟩, jm_m1_3⟩
theorem jm_ml_in {c i k y : Nat} (hk : k ≠ 4) (h : jm_ml c i = some (k, y)) : jm_m1 ((c, i), (k, y)) = true := by
  have h1 := jm_find_in h
  rcases List.mem_append.mp h1 with h1 | h1
  · exact List.all_eq_true.mp jm_m1_all _ h1
  · have h2 : jm_ot.all (fun e => e.2.1 == 4) = true := by decide +kernel
    have h3 := List.all_eq_true.mp h2 _ h1
    simp only [beq_iff_eq] at h3
    exact absurd h3 hk
theorem jm_ml0 {M i y : Nat} (h : jm_ml (jm_oc M) i = some (0, y)) : y < jm_N ∧ Cond.methodLink (jm_y M).cls i (jm_y y) ∈ jm_gw ∧ Cond.instanceMethod (jm_y y) ∈ jm_gw ∧ Cond.selects (jm_y y).cls (jm_y y) (jm_y y) ∈ jm_gw ∧ Cond.initialized (jm_y y).cls ∈ jm_gw ∧ ∃ q, jm_cl[jm_rc y]? = some q ∧ q.1 = (jm_y y).cls := by
  have h1 := jm_ml_in (by decide) h
  simp only [jm_m1, Bool.and_eq_true, decide_eq_true_eq] at h1
  obtain ⟨⟨a1, a2⟩, ⟨⟨a3, a4⟩, a5⟩, a6⟩ := h1
  refine ⟨a1, jm_gw_in (by rw [← jm_on_ok]; exact a3) rfl, jm_gw_in a4 rfl, jm_gw_in a5 rfl, jm_gw_in a2 rfl, ?_⟩
  cases hq : jm_cl[jm_rc y]? with
  | none => rw [hq] at a6; cases a6
  | some q =>
    rw [hq] at a6
    exact ⟨q, rfl, by simpa using a6⟩
theorem jm_ml1 {M i y : Nat} (h : jm_ml (jm_oc M) i = some (1, y)) : y < jm_N ∧ Cond.methodLink (jm_y M).cls i (jm_y y) ∈ jm_gw ∧ Cond.static (jm_y y) ∈ jm_gw ∧ Cond.initialized (jm_y y).cls ∈ jm_gw := by
  have h1 := jm_ml_in (by decide) h
  simp only [jm_m1, Bool.and_eq_true, decide_eq_true_eq] at h1
  obtain ⟨⟨a1, a2⟩, a3, a4⟩ := h1
  exact ⟨a1, jm_gw_in (by rw [← jm_on_ok]; exact a3) rfl, jm_gw_in a4 rfl, jm_gw_in a2 rfl⟩
theorem jm_ml2 {M i y : Nat} (h : jm_ml (jm_oc M) i = some (2, y)) : y < jm_N ∧ Cond.methodLink (jm_y M).cls i (jm_y y) ∈ jm_gw ∧ Cond.instanceMethod (jm_y y) ∈ jm_gw ∧ Cond.initialized (jm_y y).cls ∈ jm_gw ∧ (jm_y y).name = "<init>" ∧ jm_rt y = none := by
  have h1 := jm_ml_in (by decide) h
  simp only [jm_m1, Bool.and_eq_true, decide_eq_true_eq] at h1
  obtain ⟨⟨a1, a2⟩, ⟨⟨a3, a4⟩, a5⟩, a6⟩ := h1
  exact ⟨a1, jm_gw_in (by rw [← jm_on_ok]; exact a3) rfl, jm_gw_in a4 rfl, jm_gw_in a2 rfl, a5, a6⟩
theorem jm_ml3 {M i y : Nat} (h : jm_ml (jm_oc M) i = some (3, y)) : y < jm_N ∧ ∃ host, Cond.methodLinkNest (jm_y M).cls i (jm_y y) host ∈ jm_nn ∧ Cond.instanceMethod (jm_y y) ∈ jm_gw ∧ Cond.initialized (jm_y y).cls ∈ jm_gw ∧ (jm_y y).name = "<init>" ∧ jm_rt y = none := by
  have h1 := jm_ml_in (by decide) h
  simp only [jm_m1, Bool.and_eq_true, decide_eq_true_eq] at h1
  obtain ⟨⟨a1, a2⟩, ⟨⟨a3, a4⟩, a5⟩, a6⟩ := h1
  exact ⟨a1, "LotBooks", by rw [← jm_on_ok]; exact a3, jm_gw_in a4 rfl, jm_gw_in a2 rfl, a5, a6⟩
def jm_o1 (e : (Nat × Nat) × (Nat × Nat)) : Bool := decide (Cond.methodLink (jm_on e.1.1) e.1.2 objectInit ∈ lw_tbl)
theorem jm_o1_all : jm_ot.all jm_o1 = true := by decide +kernel
theorem jm_ml4 {M i : Nat} (h : jm_ml (jm_oc M) i = some (4, 0)) : Cond.methodLink (jm_y M).cls i objectInit ∈ jm_gw ∧ Cond.instanceMethod objectInit ∈ jm_gw ∧ Cond.code objectInit ⟨#[0xb1]⟩ 1 none ∈ jm_gw := by
  have h1 := jm_find_in h
  have h2 : Cond.methodLink (jm_on (jm_oc M)) i objectInit ∈ lw_tbl := by
    rcases List.mem_append.mp h1 with h1 | h1
    · have h3 := List.all_eq_true.mp jm_m1_all _ h1
      simp [jm_m1] at h3
    · have h3 := List.all_eq_true.mp jm_o1_all _ h1
      simpa [jm_o1] using h3
  refine ⟨jm_gw_in (by rw [← jm_on_ok]; exact h2) rfl, jm_gw_in (by decide +kernel) rfl, jm_gw_in (List.mem_of_getElem? (i := 60) rfl) rfl⟩
def jm_tys (κ : Nat → ClassId) : List (ClassId × FieldType) := [(κ 0, .int), (κ 1, .long), (κ 2, .object jm_ca2), (κ 3, .object jm_ca3), (κ 4, .object jm_ca4)]
theorem jm_ax_ok : ∀ {c ci : Nat}, jm_ax c = some ci → ∃ q, jm_cl[ci]? = some q ∧ ∀ κ : Nat → ClassId, (jm_tys κ)[c]? = some (κ c, .object q.1)
  | 0, _, h => by cases h
  | 1, _, h => by cases h
  | 2, _, h => by cases h; exact ⟨_, rfl, fun _ => rfl⟩
  | 3, _, h => by cases h; exact ⟨_, rfl, fun _ => rfl⟩
  | 4, _, h => by cases h; exact ⟨_, rfl, fun _ => rfl⟩
  | c + 5, _, h => by cases h
theorem jm_tys_lt (κ : Nat → ClassId) : ∀ {c : Nat}, c < 5 → ∃ ty, (jm_tys κ)[c]? = some (κ c, ty)
  | 0, _ => ⟨_, rfl⟩
  | 1, _ => ⟨_, rfl⟩
  | 2, _ => ⟨_, rfl⟩
  | 3, _ => ⟨_, rfl⟩
  | 4, _ => ⟨_, rfl⟩
  | c + 5, h => by omega
theorem jm_xa_ok : ∀ {ci c : Nat}, jm_xa ci = some c → jm_ax c = some ci ∧ ∀ q, jm_cl[ci]? = some q → q.1 ∈ jm_ao
  | 0, _, h => by cases h
  | 1, _, h => by cases h
  | 2, _, h => by cases h
  | 3, _, h => by
    cases h
    refine ⟨rfl, fun q hq => ?_⟩
    cases hq
    decide +kernel
  | 4, _, h => by cases h
  | 5, _, h => by cases h
  | 6, _, h => by cases h
  | 7, _, h => by
    cases h
    refine ⟨rfl, fun q hq => ?_⟩
    cases hq
    decide +kernel
  | 8, _, h => by cases h
  | 9, _, h => by cases h
  | 10, _, h => by
    cases h
    refine ⟨rfl, fun q hq => ?_⟩
    cases hq
    decide +kernel
  | 11, _, h => by cases h
  | ci + 12, _, h => by cases h
theorem jm_na_ok {M i c : Nat} (h : jm_na (jm_oc M) i = some c) : ∃ ci C T N, jm_ax c = some ci ∧ jm_cl[ci]? = some (C, T, N) ∧ Cond.classLink (jm_y M).cls i C ∈ jm_gw ∧ C ∈ jm_ao := by
  unfold jm_na at h
  cases hn : jm_nw (jm_oc M) i with
  | none => rw [hn] at h; cases h
  | some ci =>
    rw [hn] at h
    have h : jm_xa ci = some c := h
    obtain ⟨C, T, N, h1, h2, -⟩ := jm_nw_in hn
    obtain ⟨h3, h4⟩ := jm_xa_ok h
    exact ⟨ci, C, T, N, h3, h1, h2, h4 _ h1⟩
theorem jm_k1_all : jm_kt.all (fun e => decide (Cond.constant (jm_on e.1.1) e.1.2 e.2 ∈ lw_tbl)) = true := by decide +kernel
theorem jm_l1_all : jm_lt.all (fun e => decide (Cond.constantLong (jm_on e.1.1) e.1.2 e.2 ∈ lw_tbl)) = true := by decide +kernel
theorem jm_ki_ok {M i : Nat} {v : Int32} (h : jm_ki (jm_oc M) i = some v) : Cond.constant (jm_y M).cls i v ∈ jm_gw := by
  have h1 := List.all_eq_true.mp jm_k1_all _ (jm_find_in h)
  simp only [decide_eq_true_eq] at h1
  exact jm_gw_in (by rw [← jm_on_ok]; exact h1) rfl
theorem jm_kl_ok {M i : Nat} {v : Int64} (h : jm_kl (jm_oc M) i = some v) : Cond.constantLong (jm_y M).cls i v ∈ jm_gw := by
  have h1 := List.all_eq_true.mp jm_l1_all _ (jm_find_in h)
  simp only [decide_eq_true_eq] at h1
  exact jm_gw_in (by rw [← jm_on_ok]; exact h1) rfl
theorem jm_y_all : (List.range jm_N).all (fun y => decide ((jm_y y).cls ≠ "java/lang/invoke/MethodHandle" ∧ (jm_y y).cls ≠ "java/lang/invoke/VarHandle") && ((parseMethodDescriptor (jm_y y).desc).map (fun d => d.parameters.length) == some (jm_np y))) = true := by decide +kernel
theorem jm_y_ok {y : Nat} (h : y < jm_N) : (jm_y y).cls ≠ "java/lang/invoke/MethodHandle" ∧ (jm_y y).cls ≠ "java/lang/invoke/VarHandle" ∧ (parseMethodDescriptor (jm_y y).desc).map (fun d => d.parameters.length) = some (jm_np y) := by
  have h1 := List.all_eq_true.mp jm_y_all y (List.mem_range.mpr h)
  simp only [Bool.and_eq_true, decide_eq_true_eq, beq_iff_eq] at h1
  exact ⟨h1.1.1, h1.1.2, h1.2⟩
theorem jm_plain_all : (List.range jm_N).all (fun y => plainFor (jm_y y)) = true := by decide +kernel
theorem jm_plain (M : Nat) : plainFor (jm_y M) = true := by
  by_cases h : M < jm_N
  · exact List.all_eq_true.mp jm_plain_all M (List.mem_range.mpr h)
  · obtain ⟨k, rfl⟩ : ∃ k, M = k + 130 := ⟨M - 130, by have : 130 ≤ M := Nat.not_lt.mp h; omega⟩
    show plainFor (⟨"LotBooks", "<init>", "()V"⟩ : MethodName) = true
    decide +kernel
theorem jm_nn_ok : ∀ w ∈ jm_nn, ∃ a i x t, w = Cond.methodLinkNest a i x t := by
  intro w hw
  simp only [jm_nn, List.mem_cons, List.not_mem_nil, or_false] at hw
  rcases hw with rfl | rfl | rfl | rfl | rfl | rfl <;> exact ⟨_, _, _, _, rfl⟩
