/-! One instruction of the abstract machine is one row of the kit. -/
section JMS
variable {p : Program} {l : Launch} {e : Env} {R : Room} {s : State} {m : MethodId} {args : Array Value} {below : List Frame} {meth : Method} {c : Code} {H : Heap} {locs : List Loc} {cells slots : Nat} {Q : State → Prop}
theorem jm_size {g : JFrame} (k : H.size ≤ s.heap.size + cells → W p l e R s m args below meth c H locs cells slots Q g) : W p l e R s m args below meth c H locs cells slots Q g := by
  intro T hT X
  refine k ?_ T hT X
  have h := X.same.2.2.1
  rw [← hT]
  exact h
/-- a heap of so many cells: it can't be greater than the room says -/
theorem jm_I_of {B : Nat} {κ : Nat → ClassId} {D : va_G} {h : jm_H} (hP : va_P D jm_cl (jm_w B κ h) H) (hs : H.size ≤ B + h.1) (h0 : B ≤ H.size) : jm_I B κ D h H := by
  refine ⟨?_, hP⟩
  by_cases hz : h.1 = 0
  · omega
  · have := (hP (h.1 - 1) _ (jm_w_get (show h.1 - 1 < h.1 by omega))).lt
    simp only at this
    omega
/-- what a step leaves: the next state's frame is met -/
def jm_Z (B : Nat) (κ : Nat → ClassId) (D : va_G) (M : Nat) (h0 h1 : jm_H) (r1 : Option Value) (p : Program) (l : Launch) (e : Env) (s : State) (m : MethodId) (args : Array Value) (below : List Frame) (meth : Method) (c : Code) (q : jm_S) : Prop :=
  (q.2.2.2.1 ≤ h1.1 ∧ jm_sl q.2.2.2 ≤ jm_sl h1) ∧ ∀ (ls : Array Slot) (H : Heap) (locs : List Loc), h0.1 ≤ q.2.2.2.1 → jm_sl h0 ≤ jm_sl q.2.2.2 → jm_J B (jm_nl M) ls q.2.1 → jm_I B κ D q.2.2.2 H → va_S (jm_A B) s.heap H locs →
    W p l e (headSpec (jm_ws M) (jm_rm M h0 h1)).room s m args below meth c H locs (q.2.2.2.1 - h0.1) (jm_sl q.2.2.2 - jm_sl h0) (MQ below (jm_Qc B κ D r1 h1) args s (h1.1 - h0.1) (jm_sl h1 - jm_sl h0) (jm_A B)) (F0 m q.1 ls (q.2.2.1.map (jm_v B)))
variable {B M : Nat} {κ : Nat → ClassId} {D : va_G} {h0 h1 : jm_H} {r1 : Option Value} {C : jm_C}
/-- heaps grow -/
theorem jm_grow (hC : ∀ y vs h r t, C y vs h r t → h.1 ≤ t.1 ∧ jm_sl h ≤ jm_sl t) {ins : Instr} {len pc : Nat} {lv : jm_L} {st : List Value} {h : jm_H} {s' : jm_S} (hn : jm_nx C M ins len pc lv st h s') : h.1 ≤ s'.2.2.2.1 ∧ jm_sl h ≤ jm_sl s'.2.2.2 := by
  have same : ∀ {a : Nat} {b : jm_L} {t : List Value}, s' = (a, b, t, h) → h.1 ≤ s'.2.2.2.1 ∧ jm_sl h ≤ jm_sl s'.2.2.2 := by
    intro a b t hs
    subst hs
    exact ⟨Nat.le_refl _, Nat.le_refl _⟩
  have put : ∀ {a : Nat} {b : jm_L} {t : List Value} {i : Nat} {x : va_E}, jm_s1 x = jm_s1 (h.2 i) → s' = (a, b, t, (h.1, jm_up h.2 i x)) → h.1 ≤ s'.2.2.2.1 ∧ jm_sl h ≤ jm_sl s'.2.2.2 := by
    intro a b t i x hx hs
    subst hs
    exact ⟨Nat.le_refl _, Nat.le_of_eq (jm_sl_set hx).symm⟩
  have new : ∀ {a : Nat} {b : jm_L} {t : List Value} {x : va_E}, s' = (a, b, t, (h.1 + 1, jm_up h.2 h.1 x)) → h.1 ≤ s'.2.2.2.1 ∧ jm_sl h ≤ jm_sl s'.2.2.2 := by
    intro a b t x hs
    subst hs
    exact ⟨Nat.le_succ _, by rw [jm_sl_new]; exact Nat.le_add_right _ _⟩
  cases ins
  case iconst => exact same hn.2
  case bipush => exact same hn.2
  case sipush => exact same hn.2
  case lconst => exact same hn.2
  case aconst_null => exact same hn.2
  case ldc => obtain ⟨-, _, -, hs⟩ := hn; exact same hs
  case ldc2_w => obtain ⟨-, _, -, hs⟩ := hn; exact same hs
  case iload_n => obtain ⟨-, _, -, hs⟩ := hn; exact same hs
  case iload => obtain ⟨-, _, -, hs⟩ := hn; exact same hs
  case lload_n => obtain ⟨-, _, -, hs⟩ := hn; exact same hs
  case lload => obtain ⟨-, _, -, hs⟩ := hn; exact same hs
  case aload_n => obtain ⟨-, _, -, -, hs⟩ := hn; exact same hs
  case aload => obtain ⟨-, _, -, -, hs⟩ := hn; exact same hs
  case istore_n => obtain ⟨-, _, _, -, -, hs⟩ := hn; exact same hs
  case istore => obtain ⟨-, _, _, -, -, hs⟩ := hn; exact same hs
  case lstore_n => obtain ⟨-, _, _, -, -, hs⟩ := hn; exact same hs
  case lstore => obtain ⟨-, _, _, -, -, hs⟩ := hn; exact same hs
  case astore_n => obtain ⟨-, _, _, -, -, -, hs⟩ := hn; exact same hs
  case astore => obtain ⟨-, _, _, -, -, -, hs⟩ := hn; exact same hs
  case iinc => obtain ⟨-, _, -, -, hs⟩ := hn; exact same hs
  case iadd => obtain ⟨-, _, _, _, -, hs⟩ := hn; exact same hs
  case isub => obtain ⟨-, _, _, _, -, hs⟩ := hn; exact same hs
  case imul => obtain ⟨-, _, _, _, -, hs⟩ := hn; exact same hs
  case iand => obtain ⟨-, _, _, _, -, hs⟩ := hn; exact same hs
  case idiv => obtain ⟨-, _, _, _, -, -, hs⟩ := hn; exact same hs
  case irem => obtain ⟨-, _, _, _, -, -, hs⟩ := hn; exact same hs
  case ineg => obtain ⟨-, _, _, -, hs⟩ := hn; exact same hs
  case ladd => obtain ⟨-, _, _, _, -, hs⟩ := hn; exact same hs
  case lsub => obtain ⟨-, _, _, _, -, hs⟩ := hn; exact same hs
  case lmul => obtain ⟨-, _, _, _, -, hs⟩ := hn; exact same hs
  case lxor => obtain ⟨-, _, _, _, -, hs⟩ := hn; exact same hs
  case ldiv => obtain ⟨-, _, _, _, -, -, hs⟩ := hn; exact same hs
  case lrem => obtain ⟨-, _, _, _, -, -, hs⟩ := hn; exact same hs
  case lneg => obtain ⟨-, _, _, -, hs⟩ := hn; exact same hs
  case i2l => obtain ⟨-, _, _, -, hs⟩ := hn; exact same hs
  case l2i => obtain ⟨-, _, _, -, hs⟩ := hn; exact same hs
  case lcmp => obtain ⟨-, _, _, _, -, hs⟩ := hn; exact same hs
  case dup => obtain ⟨-, _, _, -, -, hs⟩ := hn; exact same hs
  case pop => obtain ⟨-, _, _, -, -, hs⟩ := hn; exact same hs
  case dup_x1 => obtain ⟨-, _, _, _, -, -, -, hs⟩ := hn; exact same hs
  case dup2 =>
    obtain ⟨-, ⟨_, _, _, -, -, -, hs⟩ | ⟨_, _, -, -, hs⟩⟩ := hn
    · exact same hs
    · exact same hs
  case ifCond =>
    obtain ⟨-, _, _, -, _, -, ⟨-, hs⟩ | ⟨-, hs⟩⟩ := hn
    · exact same hs
    · exact same hs
  case if_icmp =>
    obtain ⟨-, _, _, _, -, _, -, ⟨-, hs⟩ | ⟨-, hs⟩⟩ := hn
    · exact same hs
    · exact same hs
  case ifnull =>
    obtain ⟨-, _, _, -, _, -, ⟨-, hs⟩ | ⟨-, hs⟩⟩ := hn
    · exact same hs
    · exact same hs
  case ifnonnull =>
    obtain ⟨-, _, _, -, _, -, ⟨-, hs⟩ | ⟨-, hs⟩⟩ := hn
    · exact same hs
    · exact same hs
  case goto => obtain ⟨-, _, -, hs⟩ := hn; exact same hs
  case lookupswitch => obtain ⟨_, _, -, -, _, -, hs⟩ := hn; exact same hs
  case getfield => obtain ⟨-, _, _, _, _, _, _, -, -, -, -, -, hs⟩ := hn; exact same hs
  case putfield =>
    obtain ⟨-, a, _, _, _, _, _, -, -, -, hf, -, -, -, hs⟩ := hn
    exact put (i := a) (by rw [hf]; simp [jm_s1]) hs
  case iaload => obtain ⟨-, _, _, _, _, _, -, -, -, -, hs⟩ := hn; exact same hs
  case laload => obtain ⟨-, _, _, _, _, _, -, -, -, -, hs⟩ := hn; exact same hs
  case aaload => obtain ⟨-, _, _, _, _, _, _, _, -, -, -, -, -, hs⟩ := hn; exact same hs
  case iastore =>
    obtain ⟨-, _, _, a, _, _, _, -, -, hf, -, hs⟩ := hn
    exact put (i := a) (by rw [hf]; rfl) hs
  case lastore =>
    obtain ⟨-, _, _, a, _, _, _, -, -, hf, -, hs⟩ := hn
    exact put (i := a) (by rw [hf]; rfl) hs
  case aastore =>
    obtain ⟨-, _, _, a, _, _, _, _, _, -, -, hf, -, -, ⟨-, hs⟩ | ⟨_, _, -, -, -, hs⟩⟩ := hn
    · exact put (i := a) (by rw [hf]; rfl) hs
    · exact put (i := a) (by rw [hf]; rfl) hs
  case arraylength => obtain ⟨-, _, _, _, _, _, -, -, -, -, hs⟩ := hn; exact same hs
  case new => obtain ⟨-, _, -, hs⟩ := hn; exact new hs
  case newarray =>
    obtain ⟨-, _, _, -, -, -, ⟨-, hs⟩ | ⟨-, hs⟩⟩ := hn
    · exact new hs
    · exact new hs
  case anewarray => obtain ⟨-, _, _, _, -, -, -, -, hs⟩ := hn; exact new hs
  case invokevirtual =>
    obtain ⟨-, _, _, _, _, _, _, _, _, -, -, -, -, -, -, -, -, hc, hs⟩ := hn
    subst hs
    exact hC _ _ _ _ _ hc
  case invokestatic =>
    obtain ⟨-, _, _, _, _, _, -, -, -, -, -, hc, hs⟩ := hn
    subst hs
    exact hC _ _ _ _ _ hc
  case invokespecial =>
    obtain ⟨-, ⟨_, _, -, -, -, -, hs⟩ | ⟨_, _, _, _, _, _, _, -, -, -, -, -, -, hc, hs⟩⟩ := hn
    · exact same hs
    · subst hs
      exact hC _ _ _ _ _ hc
  all_goals exact hn.elim
/-- a call, whatever it answers -/
theorem jm_callW {y : Nat} {vs : List Value} {h t : jm_H} {r : Option Value} {pc : Nat} {ls : Array Slot} {st0 rest : List Value} {a : Array Value}
    (hr : va_Run p l e R s m args below meth c H locs cells slots (t.1 - h.1) (jm_sl t - jm_sl h) (F0 m pc ls st0) (rest.map (jm_v B)) (jm_Qc B κ D r t a) (jm_A B)) (hS : va_S (jm_A B) s.heap H locs)
    (kk : ∀ (H1 : Heap) (locs1 : List Loc), jm_I B κ D t H1 → va_S (jm_A B) s.heap H1 locs1 → W p l e R s m args below meth c H1 locs1 (cells + (t.1 - h.1)) (slots + (jm_sl t - jm_sl h)) Q (F0 m (pc + 3) ls ((r.toList ++ rest).map (jm_v B)))) :
    W p l e R s m args below meth c H locs cells slots Q (F0 m pc ls st0) := by
  intro T hT X
  obtain ⟨v, st₀, u, T', L, e0, X', hL, e1, e2, ⟨hv, hI, hz, hk⟩, st⟩ := hr T hT X
  cases hv
  rw [e0] at hz hk
  have hS1 : va_S (jm_A B) s.heap T'.heap (locs ++ L) := by
    refine ⟨Nat.le_trans hS.1 (by rw [e1]; exact hz), fun q g1 g2 => ?_, fun q hq => ?_⟩
    · rw [e1, hk q (Nat.lt_of_lt_of_le g1 hS.1) g2]
      exact hS.2.1 q g1 g2
    · rcases List.mem_append.mp hq with h | h
      · exact hS.2.2 q h
      · exact hL q h
  obtain ⟨t2, a1, b1⟩ := kk T'.heap (locs ++ L) (by rw [e1]; exact hI) hS1 T' rfl X'
  refine ⟨t2, st t2 ?_, b1⟩
  have he : (r.toList ++ rest).map (jm_v B) = (r.map (jm_v B)).toList ++ rest.map (jm_v B) := by cases r <;> rfl
  rw [he] at a1
  exact a1
end JMS
