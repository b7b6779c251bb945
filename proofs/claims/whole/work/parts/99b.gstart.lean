/-- what holds of the tables at the law's start -/
theorem jm_cl_i : ∀ {ci : Nat} {C : String} {T : u_T} {N : Nat}, jm_cl[ci]? = some (C, T, N) → Cond.instantiable C N ∈ lw_tbl
  | 0, _, _, _, h => by
    cases h
    decide +kernel
  | 1, _, _, _, h => by
    cases h
    decide +kernel
  | 2, _, _, _, h => by
    cases h
    decide +kernel
  | 3, _, _, _, h => by
    cases h
    decide +kernel
  | 4, _, _, _, h => by
    cases h
    decide +kernel
  | 5, _, _, _, h => by
    cases h
    decide +kernel
  | 6, _, _, _, h => by
    cases h
    decide +kernel
  | 7, _, _, _, h => by
    cases h
    decide +kernel
  | 8, _, _, _, h => by
    cases h
    decide +kernel
  | 9, _, _, _, h => by
    cases h
    decide +kernel
  | 10, _, _, _, h => by
    cases h
    decide +kernel
  | 11, _, _, _, h => by
    cases h
    decide +kernel
  | _ + 12, _, _, _, h => by cases h
theorem jm_ao_in : ∀ C ∈ jm_ao, Cond.arrayOver (.object C) ∈ lw_tbl := by decide +kernel
theorem jm_nn_in : ∀ w ∈ jm_nn, w ∈ lw_tbl := by decide +kernel
section
variable {args : Array Value} {s : State}
theorem jm_st_p {t : FieldType} (ht : t = .int ∨ t = .long) (h : (Cond.arrayClass t).before args s = true) : ∃ cA, ArrOfT s cA t ∧ va_RA s cA t := by
  obtain ⟨cA, kA, comp, h1, h2, h3⟩ := Cond.arrayClass_spec h
  refine ⟨cA, fun n z => ⟨fun k h => (by cases h), kA, h2, comp, h3⟩, ?_⟩
  rcases ht with rfl | rfl
  · exact h1
  · exact h1
theorem jm_st_o {C : String} (h : va_AO C s) : ∃ cA, ArrOfT s cA (.object C) ∧ va_RA s cA (.object C) := by
  obtain ⟨comp, cA, kA, f1, f2, f3, f4, f5⟩ := Cond.arrayOver_spec h
  exact ⟨cA, fun N z => ⟨(fun k h => by cases h), kA, f3, comp, f4⟩, kA, comp, f3, f4, f1, f5⟩
theorem jm_G_start (hts : ∀ w ∈ lw_tbl, w.before args s = true) : ∃ κ D, jm_G κ D s := by
  have hao : ∀ C ∈ jm_ao, va_AO C s := fun C hC => va_AO.of (hts _ (jm_ao_in C hC))
  have hnn : ∀ w ∈ jm_nn, va_Nw w s := fun w hw => by
    have h1 := hts _ (jm_nn_in w hw)
    obtain ⟨a, i, x, t, rfl⟩ := jm_nn_ok w hw
    exact va_Nw.of rfl h1
  obtain ⟨c0, a0⟩ := jm_st_p (.inl rfl) (hts (.arrayClass .int) (by decide +kernel))
  obtain ⟨c1, a1⟩ := jm_st_p (.inr rfl) (hts (.arrayClass .long) (by decide +kernel))
  obtain ⟨c2, a2⟩ := jm_st_o (hao jm_ca2 (by decide +kernel))
  obtain ⟨c3, a3⟩ := jm_st_o (hao jm_ca3 (by decide +kernel))
  obtain ⟨c4, a4⟩ := jm_st_o (hao jm_ca4 (by decide +kernel))
  have hcl : ∀ ci : Nat, ∃ q : ClassId × (Nat → Nat), ∀ (z : vw_C), jm_cl[ci]? = some z → u_Kn s z.1 z.2.1 z.2.2 q.1 q.2 := fun ci => by
    cases hz : jm_cl[ci]? with
    | none => exact ⟨(0, fun _ => 0), fun z h => by cases h⟩
    | some z =>
      obtain ⟨C, T, N⟩ := z
      obtain ⟨cC, iS, h⟩ := u_known (ws := jm_gw) (fun w hw => hts w (List.mem_filter.mp hw).1) (jm_cl_ok hz).1 (hts _ (jm_cl_i hz))
      exact ⟨(cC, iS), fun z h2 => by cases h2; exact h⟩
  refine ⟨fun k => match k with
    | 0 => c0
    | 1 => c1
    | 2 => c2
    | 3 => c3
    | _ => c4, (fun ci => (Classical.choose (hcl ci)).1, fun ci => (Classical.choose (hcl ci)).2), ⟨fun ci z h => Classical.choose_spec (hcl ci) z h, ?_⟩, hao, hnn⟩
  intro k q hk
  match k, hk with
  | 0, hk => cases hk; exact a0
  | 1, hk => cases hk; exact a1
  | 2, hk => cases hk; exact a2
  | 3, hk => cases hk; exact a3
  | 4, hk => cases hk; exact a4
  | _ + 5, hk => cases hk
end
