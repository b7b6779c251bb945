/-! Rows of the abstract machine, an instruction each, as rewritings of 'jm_wp'. -/
section JW
variable {C : jm_C} {M : Nat} {Q : jm_Q} {pc : Nat} {lv : jm_L} {st : List Value} {h : jm_H}
theorem jw_iconst {n : Int} {v : Int32} (hd : decode (jm_b M) pc = .ok (.iconst n, 1)) (hv : Int32.ofInt n = v) : jm_wp C M Q (pc, lv, st, h) ↔ jm_wp C M Q (pc + 1, lv, .int v :: st, h) := by
  subst hv
  rw [jm_wp_d hd]
  constructor
  · rintro (⟨s', ⟨-, rfl⟩, hk⟩ | ⟨r, hr, -⟩)
    · exact hk
    · exact hr.elim
  · intro hk
    exact Or.inl ⟨_, ⟨rfl, rfl⟩, hk⟩
theorem jw_bipush {n : Int} {v : Int32} (hd : decode (jm_b M) pc = .ok (.bipush n, 2)) (hv : (Int8.ofInt n).toInt32 = v) : jm_wp C M Q (pc, lv, st, h) ↔ jm_wp C M Q (pc + 2, lv, .int v :: st, h) := by
  subst hv
  rw [jm_wp_d hd]
  constructor
  · rintro (⟨s', ⟨-, rfl⟩, hk⟩ | ⟨r, hr, -⟩)
    · exact hk
    · exact hr.elim
  · intro hk
    exact Or.inl ⟨_, ⟨rfl, rfl⟩, hk⟩
theorem jw_sipush {n : Int} {v : Int32} (hd : decode (jm_b M) pc = .ok (.sipush n, 3)) (hv : (Int16.ofInt n).toInt32 = v) : jm_wp C M Q (pc, lv, st, h) ↔ jm_wp C M Q (pc + 3, lv, .int v :: st, h) := by
  subst hv
  rw [jm_wp_d hd]
  constructor
  · rintro (⟨s', ⟨-, rfl⟩, hk⟩ | ⟨r, hr, -⟩)
    · exact hk
    · exact hr.elim
  · intro hk
    exact Or.inl ⟨_, ⟨rfl, rfl⟩, hk⟩
theorem jw_lconst {n : Fin 2} {v : Int64} (hd : decode (jm_b M) pc = .ok (.lconst n, 1)) (hv : Int64.ofNat (n : Nat) = v) : jm_wp C M Q (pc, lv, st, h) ↔ jm_wp C M Q (pc + 1, lv, .long v :: st, h) := by
  subst hv
  rw [jm_wp_d hd]
  constructor
  · rintro (⟨s', ⟨-, rfl⟩, hk⟩ | ⟨r, hr, -⟩)
    · exact hk
    · exact hr.elim
  · intro hk
    exact Or.inl ⟨_, ⟨rfl, rfl⟩, hk⟩
theorem jw_null  (hd : decode (jm_b M) pc = .ok (.aconst_null, 1)) : jm_wp C M Q (pc, lv, st, h) ↔ jm_wp C M Q (pc + 1, lv, .null :: st, h) := by
  rw [jm_wp_d hd]
  constructor
  · rintro (⟨s', ⟨-, rfl⟩, hw⟩ | ⟨r, hr, -⟩)
    · first | exact hw | (cases he; exact hw)
    · exact hr.elim
  · intro hw
    exact Or.inl ⟨_, ⟨rfl, rfl⟩, hw⟩
theorem jw_ldc {i : Nat} {v : Int32} (hd : decode (jm_b M) pc = .ok (.ldc i, 2)) (hv : jm_ki (jm_oc M) i = some v) : jm_wp C M Q (pc, lv, st, h) ↔ jm_wp C M Q (pc + 2, lv, .int v :: st, h) := by
  rw [jm_wp_d hd]
  constructor
  · rintro (⟨s', ⟨-, w, hw, rfl⟩, hk⟩ | ⟨r, hr, -⟩)
    · cases hv.symm.trans hw
      exact hk
    · exact hr.elim
  · intro hk
    exact Or.inl ⟨_, ⟨rfl, v, hv, rfl⟩, hk⟩
theorem jw_ldc2_w {i : Nat} {v : Int64} (hd : decode (jm_b M) pc = .ok (.ldc2_w i, 3)) (hv : jm_kl (jm_oc M) i = some v) : jm_wp C M Q (pc, lv, st, h) ↔ jm_wp C M Q (pc + 3, lv, .long v :: st, h) := by
  rw [jm_wp_d hd]
  constructor
  · rintro (⟨s', ⟨-, w, hw, rfl⟩, hk⟩ | ⟨r, hr, -⟩)
    · cases hv.symm.trans hw
      exact hk
    · exact hr.elim
  · intro hk
    exact Or.inl ⟨_, ⟨rfl, v, hv, rfl⟩, hk⟩
theorem jw_iload_n {k : Fin 4} (hd : decode (jm_b M) pc = .ok (.iload_n k, 1)) : jm_wp C M Q (pc, lv, st, h) ↔ ∃ x, lv k = some (.int x) ∧ jm_wp C M Q (pc + 1, lv, .int x :: st, h) := by
  rw [jm_wp_d hd]
  constructor
  · rintro (⟨s', ⟨-, x, hx, rfl⟩, hk⟩ | ⟨r, hr, -⟩)
    · exact ⟨x, hx, hk⟩
    · exact hr.elim
  · rintro ⟨x, hx, hk⟩
    exact Or.inl ⟨_, ⟨rfl, x, hx, rfl⟩, hk⟩
theorem jw_iload {i : Nat} (hd : decode (jm_b M) pc = .ok (.iload i, 2)) : jm_wp C M Q (pc, lv, st, h) ↔ ∃ x, lv i = some (.int x) ∧ jm_wp C M Q (pc + 2, lv, .int x :: st, h) := by
  rw [jm_wp_d hd]
  constructor
  · rintro (⟨s', ⟨-, x, hx, rfl⟩, hk⟩ | ⟨r, hr, -⟩)
    · exact ⟨x, hx, hk⟩
    · exact hr.elim
  · rintro ⟨x, hx, hk⟩
    exact Or.inl ⟨_, ⟨rfl, x, hx, rfl⟩, hk⟩
theorem jw_lload_n {k : Fin 4} (hd : decode (jm_b M) pc = .ok (.lload_n k, 1)) : jm_wp C M Q (pc, lv, st, h) ↔ ∃ x, lv k = some (.long x) ∧ jm_wp C M Q (pc + 1, lv, .long x :: st, h) := by
  rw [jm_wp_d hd]
  constructor
  · rintro (⟨s', ⟨-, x, hx, rfl⟩, hk⟩ | ⟨r, hr, -⟩)
    · exact ⟨x, hx, hk⟩
    · exact hr.elim
  · rintro ⟨x, hx, hk⟩
    exact Or.inl ⟨_, ⟨rfl, x, hx, rfl⟩, hk⟩
theorem jw_lload {i : Nat} (hd : decode (jm_b M) pc = .ok (.lload i, 2)) : jm_wp C M Q (pc, lv, st, h) ↔ ∃ x, lv i = some (.long x) ∧ jm_wp C M Q (pc + 2, lv, .long x :: st, h) := by
  rw [jm_wp_d hd]
  constructor
  · rintro (⟨s', ⟨-, x, hx, rfl⟩, hk⟩ | ⟨r, hr, -⟩)
    · exact ⟨x, hx, hk⟩
    · exact hr.elim
  · rintro ⟨x, hx, hk⟩
    exact Or.inl ⟨_, ⟨rfl, x, hx, rfl⟩, hk⟩
theorem jw_aload_n {k : Fin 4} (hd : decode (jm_b M) pc = .ok (.aload_n k, 1)) : jm_wp C M Q (pc, lv, st, h) ↔ ∃ v, lv k = some v ∧ jm_rf v = true ∧ jm_wp C M Q (pc + 1, lv, v :: st, h) := by
  rw [jm_wp_d hd]
  constructor
  · rintro (⟨s', ⟨-, x, hx, hy, rfl⟩, hk⟩ | ⟨r, hr, -⟩)
    · exact ⟨x, hx, hy, hk⟩
    · exact hr.elim
  · rintro ⟨x, hx, hy, hk⟩
    exact Or.inl ⟨_, ⟨rfl, x, hx, hy, rfl⟩, hk⟩
theorem jw_aload {i : Nat} (hd : decode (jm_b M) pc = .ok (.aload i, 2)) : jm_wp C M Q (pc, lv, st, h) ↔ ∃ v, lv i = some v ∧ jm_rf v = true ∧ jm_wp C M Q (pc + 2, lv, v :: st, h) := by
  rw [jm_wp_d hd]
  constructor
  · rintro (⟨s', ⟨-, x, hx, hy, rfl⟩, hk⟩ | ⟨r, hr, -⟩)
    · exact ⟨x, hx, hy, hk⟩
    · exact hr.elim
  · rintro ⟨x, hx, hy, hk⟩
    exact Or.inl ⟨_, ⟨rfl, x, hx, hy, rfl⟩, hk⟩
theorem jw_istore_n {k : Fin 4} {x : Int32} (hd : decode (jm_b M) pc = .ok (.istore_n k, 1)) (hi : (k : Nat) < jm_nl M) : jm_wp C M Q (pc, lv, .int x :: st, h) ↔ jm_wp C M Q (pc + 1, jm_p1 lv k (.int x), st, h) := by
  rw [jm_wp_d hd]
  constructor
  · rintro (⟨s', ⟨-, y, r, he, -, rfl⟩, hk⟩ | ⟨r, hr, -⟩)
    · cases he
      exact hk
    · exact hr.elim
  · intro hk
    exact Or.inl ⟨_, ⟨rfl, x, st, rfl, hi, rfl⟩, hk⟩
theorem jw_istore {i : Nat} {x : Int32} (hd : decode (jm_b M) pc = .ok (.istore i, 2)) (hi : i < jm_nl M) : jm_wp C M Q (pc, lv, .int x :: st, h) ↔ jm_wp C M Q (pc + 2, jm_p1 lv i (.int x), st, h) := by
  rw [jm_wp_d hd]
  constructor
  · rintro (⟨s', ⟨-, y, r, he, -, rfl⟩, hk⟩ | ⟨r, hr, -⟩)
    · cases he
      exact hk
    · exact hr.elim
  · intro hk
    exact Or.inl ⟨_, ⟨rfl, x, st, rfl, hi, rfl⟩, hk⟩
theorem jw_lstore_n {k : Fin 4} {x : Int64} (hd : decode (jm_b M) pc = .ok (.lstore_n k, 1)) (hi : (k : Nat) + 1 < jm_nl M) : jm_wp C M Q (pc, lv, .long x :: st, h) ↔ jm_wp C M Q (pc + 1, jm_p2 lv k (.long x), st, h) := by
  rw [jm_wp_d hd]
  constructor
  · rintro (⟨s', ⟨-, y, r, he, -, rfl⟩, hk⟩ | ⟨r, hr, -⟩)
    · cases he
      exact hk
    · exact hr.elim
  · intro hk
    exact Or.inl ⟨_, ⟨rfl, x, st, rfl, hi, rfl⟩, hk⟩
theorem jw_lstore {i : Nat} {x : Int64} (hd : decode (jm_b M) pc = .ok (.lstore i, 2)) (hi : i + 1 < jm_nl M) : jm_wp C M Q (pc, lv, .long x :: st, h) ↔ jm_wp C M Q (pc + 2, jm_p2 lv i (.long x), st, h) := by
  rw [jm_wp_d hd]
  constructor
  · rintro (⟨s', ⟨-, y, r, he, -, rfl⟩, hk⟩ | ⟨r, hr, -⟩)
    · cases he
      exact hk
    · exact hr.elim
  · intro hk
    exact Or.inl ⟨_, ⟨rfl, x, st, rfl, hi, rfl⟩, hk⟩
theorem jw_astore_n {k : Fin 4} {v : Value} (hd : decode (jm_b M) pc = .ok (.astore_n k, 1)) (hi : (k : Nat) < jm_nl M) : jm_wp C M Q (pc, lv, v :: st, h) ↔ jm_rf v = true ∧ jm_wp C M Q (pc + 1, jm_p1 lv k v, st, h) := by
  rw [jm_wp_d hd]
  constructor
  · rintro (⟨s', ⟨-, y, r, he, hy, -, rfl⟩, hk⟩ | ⟨r, hr, -⟩)
    · cases he
      exact ⟨hy, hk⟩
    · exact hr.elim
  · rintro ⟨hy, hk⟩
    exact Or.inl ⟨_, ⟨rfl, v, st, rfl, hy, hi, rfl⟩, hk⟩
theorem jw_astore {i : Nat} {v : Value} (hd : decode (jm_b M) pc = .ok (.astore i, 2)) (hi : i < jm_nl M) : jm_wp C M Q (pc, lv, v :: st, h) ↔ jm_rf v = true ∧ jm_wp C M Q (pc + 2, jm_p1 lv i v, st, h) := by
  rw [jm_wp_d hd]
  constructor
  · rintro (⟨s', ⟨-, y, r, he, hy, -, rfl⟩, hk⟩ | ⟨r, hr, -⟩)
    · cases he
      exact ⟨hy, hk⟩
    · exact hr.elim
  · rintro ⟨hy, hk⟩
    exact Or.inl ⟨_, ⟨rfl, v, st, rfl, hy, hi, rfl⟩, hk⟩
theorem jw_iinc {i : Nat} {n : Int} {v : Int32} (hd : decode (jm_b M) pc = .ok (.iinc i n, 3)) (hi : i < jm_nl M) (hv : Int32.ofInt n = v) : jm_wp C M Q (pc, lv, st, h) ↔ ∃ x, lv i = some (.int x) ∧ jm_wp C M Q (pc + 3, jm_p1 lv i (.int (x + v)), st, h) := by
  subst hv
  rw [jm_wp_d hd]
  constructor
  · rintro (⟨s', ⟨-, x, hx, -, rfl⟩, hk⟩ | ⟨r, hr, -⟩)
    · exact ⟨x, hx, hk⟩
    · exact hr.elim
  · rintro ⟨x, hx, hk⟩
    exact Or.inl ⟨_, ⟨rfl, x, hx, hi, rfl⟩, hk⟩
theorem jw_iadd {x y : Int32} (hd : decode (jm_b M) pc = .ok (.iadd, 1)) : jm_wp C M Q (pc, lv, .int y :: .int x :: st, h) ↔ jm_wp C M Q (pc + 1, lv, .int (x + y) :: st, h) := by
  rw [jm_wp_d hd]
  constructor
  · rintro (⟨s', ⟨-, x', y', r, he, rfl⟩, hk⟩ | ⟨r, hr, -⟩)
    · cases he
      exact hk
    · exact hr.elim
  · intro hk
    exact Or.inl ⟨_, ⟨rfl, x, y, st, rfl, rfl⟩, hk⟩
theorem jw_isub {x y : Int32} (hd : decode (jm_b M) pc = .ok (.isub, 1)) : jm_wp C M Q (pc, lv, .int y :: .int x :: st, h) ↔ jm_wp C M Q (pc + 1, lv, .int (x - y) :: st, h) := by
  rw [jm_wp_d hd]
  constructor
  · rintro (⟨s', ⟨-, x', y', r, he, rfl⟩, hk⟩ | ⟨r, hr, -⟩)
    · cases he
      exact hk
    · exact hr.elim
  · intro hk
    exact Or.inl ⟨_, ⟨rfl, x, y, st, rfl, rfl⟩, hk⟩
theorem jw_imul {x y : Int32} (hd : decode (jm_b M) pc = .ok (.imul, 1)) : jm_wp C M Q (pc, lv, .int y :: .int x :: st, h) ↔ jm_wp C M Q (pc + 1, lv, .int (x * y) :: st, h) := by
  rw [jm_wp_d hd]
  constructor
  · rintro (⟨s', ⟨-, x', y', r, he, rfl⟩, hk⟩ | ⟨r, hr, -⟩)
    · cases he
      exact hk
    · exact hr.elim
  · intro hk
    exact Or.inl ⟨_, ⟨rfl, x, y, st, rfl, rfl⟩, hk⟩
theorem jw_iand {x y : Int32} (hd : decode (jm_b M) pc = .ok (.iand, 1)) : jm_wp C M Q (pc, lv, .int y :: .int x :: st, h) ↔ jm_wp C M Q (pc + 1, lv, .int (x &&& y) :: st, h) := by
  rw [jm_wp_d hd]
  constructor
  · rintro (⟨s', ⟨-, x', y', r, he, rfl⟩, hk⟩ | ⟨r, hr, -⟩)
    · cases he
      exact hk
    · exact hr.elim
  · intro hk
    exact Or.inl ⟨_, ⟨rfl, x, y, st, rfl, rfl⟩, hk⟩
theorem jw_ladd {x y : Int64} (hd : decode (jm_b M) pc = .ok (.ladd, 1)) : jm_wp C M Q (pc, lv, .long y :: .long x :: st, h) ↔ jm_wp C M Q (pc + 1, lv, .long (x + y) :: st, h) := by
  rw [jm_wp_d hd]
  constructor
  · rintro (⟨s', ⟨-, x', y', r, he, rfl⟩, hk⟩ | ⟨r, hr, -⟩)
    · cases he
      exact hk
    · exact hr.elim
  · intro hk
    exact Or.inl ⟨_, ⟨rfl, x, y, st, rfl, rfl⟩, hk⟩
theorem jw_lsub {x y : Int64} (hd : decode (jm_b M) pc = .ok (.lsub, 1)) : jm_wp C M Q (pc, lv, .long y :: .long x :: st, h) ↔ jm_wp C M Q (pc + 1, lv, .long (x - y) :: st, h) := by
  rw [jm_wp_d hd]
  constructor
  · rintro (⟨s', ⟨-, x', y', r, he, rfl⟩, hk⟩ | ⟨r, hr, -⟩)
    · cases he
      exact hk
    · exact hr.elim
  · intro hk
    exact Or.inl ⟨_, ⟨rfl, x, y, st, rfl, rfl⟩, hk⟩
theorem jw_lmul {x y : Int64} (hd : decode (jm_b M) pc = .ok (.lmul, 1)) : jm_wp C M Q (pc, lv, .long y :: .long x :: st, h) ↔ jm_wp C M Q (pc + 1, lv, .long (x * y) :: st, h) := by
  rw [jm_wp_d hd]
  constructor
  · rintro (⟨s', ⟨-, x', y', r, he, rfl⟩, hk⟩ | ⟨r, hr, -⟩)
    · cases he
      exact hk
    · exact hr.elim
  · intro hk
    exact Or.inl ⟨_, ⟨rfl, x, y, st, rfl, rfl⟩, hk⟩
theorem jw_lxor {x y : Int64} (hd : decode (jm_b M) pc = .ok (.lxor, 1)) : jm_wp C M Q (pc, lv, .long y :: .long x :: st, h) ↔ jm_wp C M Q (pc + 1, lv, .long (x ^^^ y) :: st, h) := by
  rw [jm_wp_d hd]
  constructor
  · rintro (⟨s', ⟨-, x', y', r, he, rfl⟩, hk⟩ | ⟨r, hr, -⟩)
    · cases he
      exact hk
    · exact hr.elim
  · intro hk
    exact Or.inl ⟨_, ⟨rfl, x, y, st, rfl, rfl⟩, hk⟩
theorem jw_idiv {x y : Int32} (hd : decode (jm_b M) pc = .ok (.idiv, 1)) : jm_wp C M Q (pc, lv, .int y :: .int x :: st, h) ↔ ¬ y = 0 ∧ jm_wp C M Q (pc + 1, lv, .int (x / y) :: st, h) := by
  rw [jm_wp_d hd]
  constructor
  · rintro (⟨s', ⟨-, x', y', r, he, hne, rfl⟩, hk⟩ | ⟨r, hr, -⟩)
    · cases he
      exact ⟨hne, hk⟩
    · exact hr.elim
  · rintro ⟨hne, hk⟩
    exact Or.inl ⟨_, ⟨rfl, x, y, st, rfl, hne, rfl⟩, hk⟩
theorem jw_irem {x y : Int32} (hd : decode (jm_b M) pc = .ok (.irem, 1)) : jm_wp C M Q (pc, lv, .int y :: .int x :: st, h) ↔ ¬ y = 0 ∧ jm_wp C M Q (pc + 1, lv, .int (x - x / y * y) :: st, h) := by
  rw [jm_wp_d hd]
  constructor
  · rintro (⟨s', ⟨-, x', y', r, he, hne, rfl⟩, hk⟩ | ⟨r, hr, -⟩)
    · cases he
      exact ⟨hne, hk⟩
    · exact hr.elim
  · rintro ⟨hne, hk⟩
    exact Or.inl ⟨_, ⟨rfl, x, y, st, rfl, hne, rfl⟩, hk⟩
theorem jw_ldiv {x y : Int64} (hd : decode (jm_b M) pc = .ok (.ldiv, 1)) : jm_wp C M Q (pc, lv, .long y :: .long x :: st, h) ↔ ¬ y = 0 ∧ jm_wp C M Q (pc + 1, lv, .long (x / y) :: st, h) := by
  rw [jm_wp_d hd]
  constructor
  · rintro (⟨s', ⟨-, x', y', r, he, hne, rfl⟩, hk⟩ | ⟨r, hr, -⟩)
    · cases he
      exact ⟨hne, hk⟩
    · exact hr.elim
  · rintro ⟨hne, hk⟩
    exact Or.inl ⟨_, ⟨rfl, x, y, st, rfl, hne, rfl⟩, hk⟩
theorem jw_lrem {x y : Int64} (hd : decode (jm_b M) pc = .ok (.lrem, 1)) : jm_wp C M Q (pc, lv, .long y :: .long x :: st, h) ↔ ¬ y = 0 ∧ jm_wp C M Q (pc + 1, lv, .long (x - x / y * y) :: st, h) := by
  rw [jm_wp_d hd]
  constructor
  · rintro (⟨s', ⟨-, x', y', r, he, hne, rfl⟩, hk⟩ | ⟨r, hr, -⟩)
    · cases he
      exact ⟨hne, hk⟩
    · exact hr.elim
  · rintro ⟨hne, hk⟩
    exact Or.inl ⟨_, ⟨rfl, x, y, st, rfl, hne, rfl⟩, hk⟩
theorem jw_ineg {x : Int32} (hd : decode (jm_b M) pc = .ok (.ineg, 1)) : jm_wp C M Q (pc, lv, .int x :: st, h) ↔ jm_wp C M Q (pc + 1, lv, .int (-x) :: st, h) := by
  rw [jm_wp_d hd]
  constructor
  · rintro (⟨s', ⟨-, x', r, he, rfl⟩, hk⟩ | ⟨r, hr, -⟩)
    · cases he
      exact hk
    · exact hr.elim
  · intro hk
    exact Or.inl ⟨_, ⟨rfl, x, st, rfl, rfl⟩, hk⟩
theorem jw_lneg {x : Int64} (hd : decode (jm_b M) pc = .ok (.lneg, 1)) : jm_wp C M Q (pc, lv, .long x :: st, h) ↔ jm_wp C M Q (pc + 1, lv, .long (-x) :: st, h) := by
  rw [jm_wp_d hd]
  constructor
  · rintro (⟨s', ⟨-, x', r, he, rfl⟩, hk⟩ | ⟨r, hr, -⟩)
    · cases he
      exact hk
    · exact hr.elim
  · intro hk
    exact Or.inl ⟨_, ⟨rfl, x, st, rfl, rfl⟩, hk⟩
theorem jw_i2l {x : Int32} (hd : decode (jm_b M) pc = .ok (.i2l, 1)) : jm_wp C M Q (pc, lv, .int x :: st, h) ↔ jm_wp C M Q (pc + 1, lv, .long (x.toInt64) :: st, h) := by
  rw [jm_wp_d hd]
  constructor
  · rintro (⟨s', ⟨-, x', r, he, rfl⟩, hk⟩ | ⟨r, hr, -⟩)
    · cases he
      exact hk
    · exact hr.elim
  · intro hk
    exact Or.inl ⟨_, ⟨rfl, x, st, rfl, rfl⟩, hk⟩
theorem jw_l2i {x : Int64} (hd : decode (jm_b M) pc = .ok (.l2i, 1)) : jm_wp C M Q (pc, lv, .long x :: st, h) ↔ jm_wp C M Q (pc + 1, lv, .int (x.toInt32) :: st, h) := by
  rw [jm_wp_d hd]
  constructor
  · rintro (⟨s', ⟨-, x', r, he, rfl⟩, hk⟩ | ⟨r, hr, -⟩)
    · cases he
      exact hk
    · exact hr.elim
  · intro hk
    exact Or.inl ⟨_, ⟨rfl, x, st, rfl, rfl⟩, hk⟩
theorem jw_lcmp {x y : Int64} (hd : decode (jm_b M) pc = .ok (.lcmp, 1)) : jm_wp C M Q (pc, lv, .long y :: .long x :: st, h) ↔ jm_wp C M Q (pc + 1, lv, .int (lg_cmp x y) :: st, h) := by
  rw [jm_wp_d hd]
  constructor
  · rintro (⟨s', ⟨-, x', y', r, he, rfl⟩, hk⟩ | ⟨r, hr, -⟩)
    · cases he
      exact hk
    · exact hr.elim
  · intro hk
    exact Or.inl ⟨_, ⟨rfl, x, y, st, rfl, rfl⟩, hk⟩
theorem jw_dup {v : Value} (hd : decode (jm_b M) pc = .ok (.dup, 1)) : jm_wp C M Q (pc, lv, v :: st, h) ↔ v.category = 1 ∧ jm_wp C M Q (pc + 1, lv, v :: v :: st, h) := by
  rw [jm_wp_d hd]
  constructor
  · rintro (⟨s', ⟨-, x', r, he, hv, rfl⟩, hk⟩ | ⟨r, hr, -⟩)
    · cases he
      exact ⟨hv, hk⟩
    · exact hr.elim
  · rintro ⟨hv, hk⟩
    exact Or.inl ⟨_, ⟨rfl, v, st, rfl, hv, rfl⟩, hk⟩
theorem jw_pop {v : Value} (hd : decode (jm_b M) pc = .ok (.pop, 1)) : jm_wp C M Q (pc, lv, v :: st, h) ↔ v.category = 1 ∧ jm_wp C M Q (pc + 1, lv, st, h) := by
  rw [jm_wp_d hd]
  constructor
  · rintro (⟨s', ⟨-, x', r, he, hv, rfl⟩, hk⟩ | ⟨r, hr, -⟩)
    · cases he
      exact ⟨hv, hk⟩
    · exact hr.elim
  · rintro ⟨hv, hk⟩
    exact Or.inl ⟨_, ⟨rfl, v, st, rfl, hv, rfl⟩, hk⟩
theorem jw_dup_x1 {v w : Value} (hd : decode (jm_b M) pc = .ok (.dup_x1, 1)) : jm_wp C M Q (pc, lv, v :: w :: st, h) ↔ v.category = 1 ∧ w.category = 1 ∧ jm_wp C M Q (pc + 1, lv, v :: w :: v :: st, h) := by
  rw [jm_wp_d hd]
  constructor
  · rintro (⟨s', ⟨-, x', y', r, he, hv, hw, rfl⟩, hk⟩ | ⟨r, hr, -⟩)
    · cases he
      exact ⟨hv, hw, hk⟩
    · exact hr.elim
  · rintro ⟨hv, hw, hk⟩
    exact Or.inl ⟨_, ⟨rfl, v, w, st, rfl, hv, hw, rfl⟩, hk⟩
theorem jw_dup2 {v w : Value} (hd : decode (jm_b M) pc = .ok (.dup2, 1)) (hv : v.category = 1) (hw : w.category = 1) : jm_wp C M Q (pc, lv, v :: w :: st, h) ↔ jm_wp C M Q (pc + 1, lv, v :: w :: v :: w :: st, h) := by
  rw [jm_wp_d hd]
  constructor
  · rintro (⟨s', ⟨-, ⟨x', y', r, he, -, -, rfl⟩ | ⟨x', r, he, hv', rfl⟩⟩, hk⟩ | ⟨r, hr, -⟩)
    · cases he
      exact hk
    · cases he
      omega
    · exact hr.elim
  · intro hk
    exact Or.inl ⟨_, ⟨rfl, Or.inl ⟨v, w, st, rfl, hv, hw, rfl⟩⟩, hk⟩
theorem jw_dup2l {x : Int64} (hd : decode (jm_b M) pc = .ok (.dup2, 1)) : jm_wp C M Q (pc, lv, .long x :: st, h) ↔ jm_wp C M Q (pc + 1, lv, .long x :: .long x :: st, h) := by
  rw [jm_wp_d hd]
  constructor
  · rintro (⟨s', ⟨-, ⟨x', y', r, he, hv', -, rfl⟩ | ⟨x', r, he, hv', rfl⟩⟩, hk⟩ | ⟨r, hr, -⟩)
    · cases he
      cases hv'
    · cases he
      exact hk
    · exact hr.elim
  · intro hk
    exact Or.inl ⟨_, ⟨rfl, Or.inr ⟨.long x, st, rfl, rfl, rfl⟩⟩, hk⟩
theorem jw_ifCond {c : ClassFile.Cond} {off : Int} {t : Nat} {x : Int32} (hd : decode (jm_b M) pc = .ok (.ifCond c off, 3)) (ht : (pc : Int) + off = (t : Int)) : jm_wp C M Q (pc, lv, .int x :: st, h) ↔ (jm_c0 c x → jm_wp C M Q (t, lv, st, h)) ∧ (¬ jm_c0 c x → jm_wp C M Q (pc + 3, lv, st, h)) := by
  rw [jm_wp_d hd]
  constructor
  · rintro (⟨s', ⟨-, x', r, he, t', ht', ⟨hc, rfl⟩ | ⟨hc, rfl⟩⟩, hk⟩ | ⟨r, hr, -⟩)
    · cases he
      have e : t' = t := Int.ofNat.inj (ht'.symm.trans ht)
      subst e
      exact ⟨fun _ => hk, fun z => absurd hc z⟩
    · cases he
      exact ⟨fun z => absurd z hc, fun _ => hk⟩
    · exact hr.elim
  · rintro ⟨h1, h2⟩
    by_cases hc : jm_c0 c x
    · exact Or.inl ⟨_, ⟨rfl, x, st, rfl, t, ht, Or.inl ⟨hc, rfl⟩⟩, h1 hc⟩
    · exact Or.inl ⟨_, ⟨rfl, x, st, rfl, t, ht, Or.inr ⟨hc, rfl⟩⟩, h2 hc⟩
theorem jw_if_icmp {c : ClassFile.Cond} {off : Int} {t : Nat} {x y : Int32} (hd : decode (jm_b M) pc = .ok (.if_icmp c off, 3)) (ht : (pc : Int) + off = (t : Int)) : jm_wp C M Q (pc, lv, .int y :: .int x :: st, h) ↔ (jm_c2 c x y → jm_wp C M Q (t, lv, st, h)) ∧ (¬ jm_c2 c x y → jm_wp C M Q (pc + 3, lv, st, h)) := by
  rw [jm_wp_d hd]
  constructor
  · rintro (⟨s', ⟨-, x', y', r, he, t', ht', ⟨hc, rfl⟩ | ⟨hc, rfl⟩⟩, hk⟩ | ⟨r, hr, -⟩)
    · cases he
      have e : t' = t := Int.ofNat.inj (ht'.symm.trans ht)
      subst e
      exact ⟨fun _ => hk, fun z => absurd hc z⟩
    · cases he
      exact ⟨fun z => absurd z hc, fun _ => hk⟩
    · exact hr.elim
  · rintro ⟨h1, h2⟩
    by_cases hc : jm_c2 c x y
    · exact Or.inl ⟨_, ⟨rfl, x, y, st, rfl, t, ht, Or.inl ⟨hc, rfl⟩⟩, h1 hc⟩
    · exact Or.inl ⟨_, ⟨rfl, x, y, st, rfl, t, ht, Or.inr ⟨hc, rfl⟩⟩, h2 hc⟩
theorem jw_ifnullN {off : Int} {t : Nat} (hd : decode (jm_b M) pc = .ok (.ifnull off, 3)) (ht : (pc : Int) + off = (t : Int)) : jm_wp C M Q (pc, lv, .null :: st, h) ↔ jm_wp C M Q (t, lv, st, h) := by
  rw [jm_wp_d hd]
  constructor
  · rintro (⟨s', ⟨-, v, r, he, t', ht', ⟨hc, rfl⟩ | ⟨⟨a, hc⟩, rfl⟩⟩, hk⟩ | ⟨r, hr, -⟩)
    · cases he
      have e : t' = t := Int.ofNat.inj (ht'.symm.trans ht)
      subst e
      exact hk
    · cases he
      cases hc
    · exact hr.elim
  · intro hk
    exact Or.inl ⟨_, ⟨rfl, .null, st, rfl, t, ht, Or.inl ⟨rfl, rfl⟩⟩, hk⟩
theorem jw_ifnull {off : Int} {t a : Nat} (hd : decode (jm_b M) pc = .ok (.ifnull off, 3)) (ht : (pc : Int) + off = (t : Int)) : jm_wp C M Q (pc, lv, .ref a :: st, h) ↔ jm_wp C M Q (pc + 3, lv, st, h) := by
  rw [jm_wp_d hd]
  constructor
  · rintro (⟨s', ⟨-, v, r, he, t', ht', ⟨hc, rfl⟩ | ⟨⟨a, hc⟩, rfl⟩⟩, hk⟩ | ⟨r, hr, -⟩)
    · cases he
      cases hc
    · cases he
      have e : t' = t := Int.ofNat.inj (ht'.symm.trans ht)
      subst e
      exact hk
    · exact hr.elim
  · intro hk
    exact Or.inl ⟨_, ⟨rfl, .ref a, st, rfl, t, ht, Or.inr ⟨⟨a, rfl⟩, rfl⟩⟩, hk⟩
theorem jw_ifnonnullN {off : Int} {t : Nat} (hd : decode (jm_b M) pc = .ok (.ifnonnull off, 3)) (ht : (pc : Int) + off = (t : Int)) : jm_wp C M Q (pc, lv, .null :: st, h) ↔ jm_wp C M Q (pc + 3, lv, st, h) := by
  rw [jm_wp_d hd]
  constructor
  · rintro (⟨s', ⟨-, v, r, he, t', ht', ⟨hc, rfl⟩ | ⟨⟨a, hc⟩, rfl⟩⟩, hk⟩ | ⟨r, hr, -⟩)
    · cases he
      have e : t' = t := Int.ofNat.inj (ht'.symm.trans ht)
      subst e
      exact hk
    · cases he
      cases hc
    · exact hr.elim
  · intro hk
    exact Or.inl ⟨_, ⟨rfl, .null, st, rfl, t, ht, Or.inl ⟨rfl, rfl⟩⟩, hk⟩
theorem jw_ifnonnull {off : Int} {t a : Nat} (hd : decode (jm_b M) pc = .ok (.ifnonnull off, 3)) (ht : (pc : Int) + off = (t : Int)) : jm_wp C M Q (pc, lv, .ref a :: st, h) ↔ jm_wp C M Q (t, lv, st, h) := by
  rw [jm_wp_d hd]
  constructor
  · rintro (⟨s', ⟨-, v, r, he, t', ht', ⟨hc, rfl⟩ | ⟨⟨a, hc⟩, rfl⟩⟩, hk⟩ | ⟨r, hr, -⟩)
    · cases he
      cases hc
    · cases he
      have e : t' = t := Int.ofNat.inj (ht'.symm.trans ht)
      subst e
      exact hk
    · exact hr.elim
  · intro hk
    exact Or.inl ⟨_, ⟨rfl, .ref a, st, rfl, t, ht, Or.inr ⟨⟨a, rfl⟩, rfl⟩⟩, hk⟩
theorem jw_goto {off : Int} {t : Nat} (hd : decode (jm_b M) pc = .ok (.goto off, 3)) (ht : (pc : Int) + off = (t : Int)) : jm_wp C M Q (pc, lv, st, h) ↔ jm_wp C M Q (t, lv, st, h) := by
  rw [jm_wp_d hd]
  constructor
  · rintro (⟨s', ⟨-, t', ht', rfl⟩, hk⟩ | ⟨r, hr, -⟩)
    · have e : t' = t := Int.ofNat.inj (ht'.symm.trans ht)
      subst e
      exact hk
    · exact hr.elim
  · intro hk
    exact Or.inl ⟨_, ⟨rfl, t, ht, rfl⟩, hk⟩
theorem jw_getfield {i ci k a : Nat} (hd : decode (jm_b M) pc = .ok (.getfield i, 3)) (hf : jm_fl (jm_oc M) i = some (ci, k)) : jm_wp C M Q (pc, lv, .ref a :: st, h) ↔ ∃ fs v, h.2 a = .inr (ci, fs) ∧ a < h.1 ∧ fs[k]? = some v ∧ jm_wp C M Q (pc + 3, lv, v :: st, h) := by
  rw [jm_wp_d hd]
  constructor
  · rintro (⟨s', ⟨-, a', r, ci', k', fs, v, he, hf', h1, h2, h3, rfl⟩, hk⟩ | ⟨r, hr, -⟩)
    · cases he
      cases hf.symm.trans hf'
      exact ⟨fs, v, h2, h1, h3, hk⟩
    · exact hr.elim
  · rintro ⟨fs, v, h2, h1, h3, hk⟩
    exact Or.inl ⟨_, ⟨rfl, a, st, ci, k, fs, v, rfl, hf, h1, h2, h3, rfl⟩, hk⟩
theorem jw_putfield {i ci k a : Nat} {v : Value} (hd : decode (jm_b M) pc = .ok (.putfield i, 3)) (hf : jm_fl (jm_oc M) i = some (ci, k)) (hz : jm_fin M ci k = true) : jm_wp C M Q (pc, lv, v :: .ref a :: st, h) ↔ ∃ fs, h.2 a = .inr (ci, fs) ∧ a < h.1 ∧ k < fs.length ∧ jm_ok (jm_ty ci k) v = true ∧ jm_wp C M Q (pc + 3, lv, st, (h.1, jm_up h.2 a (.inr (ci, fs.set k v)))) := by
  rw [jm_wp_d hd]
  constructor
  · rintro (⟨s', ⟨-, a', r, ci', k', fs, v', he, hf', h1, h2, h3, h4, -, rfl⟩, hk⟩ | ⟨r, hr, -⟩)
    · cases he
      cases hf.symm.trans hf'
      exact ⟨fs, h2, h1, h3, h4, hk⟩
    · exact hr.elim
  · rintro ⟨fs, h2, h1, h3, h4, hk⟩
    exact Or.inl ⟨_, ⟨rfl, a, st, ci, k, fs, v, rfl, hf, h1, h2, h3, h4, hz, rfl⟩, hk⟩
theorem jw_iaload {i : Int32} {a : Nat} (hd : decode (jm_b M) pc = .ok (.iaload, 1)) : jm_wp C M Q (pc, lv, .int i :: .ref a :: st, h) ↔ ∃ n f, h.2 a = .inl (0, n, .inl f) ∧ a < h.1 ∧ vp_in i n ∧ jm_wp C M Q (pc + 1, lv, .int (f i.toNatClampNeg) :: st, h) := by
  rw [jm_wp_d hd]
  constructor
  · rintro (⟨s', ⟨-, i', a', r, n, f, he, h1, h2, h3, rfl⟩, hk⟩ | ⟨r, hr, -⟩)
    · cases he
      exact ⟨n, f, h2, h1, h3, hk⟩
    · exact hr.elim
  · rintro ⟨n, f, h2, h1, h3, hk⟩
    exact Or.inl ⟨_, ⟨rfl, i, a, st, n, f, rfl, h1, h2, h3, rfl⟩, hk⟩
theorem jw_laload {i : Int32} {a : Nat} (hd : decode (jm_b M) pc = .ok (.laload, 1)) : jm_wp C M Q (pc, lv, .int i :: .ref a :: st, h) ↔ ∃ n f, h.2 a = .inl (1, n, .inr (.inl f)) ∧ a < h.1 ∧ vp_in i n ∧ jm_wp C M Q (pc + 1, lv, .long (f i.toNatClampNeg) :: st, h) := by
  rw [jm_wp_d hd]
  constructor
  · rintro (⟨s', ⟨-, i', a', r, n, f, he, h1, h2, h3, rfl⟩, hk⟩ | ⟨r, hr, -⟩)
    · cases he
      exact ⟨n, f, h2, h1, h3, hk⟩
    · exact hr.elim
  · rintro ⟨n, f, h2, h1, h3, hk⟩
    exact Or.inl ⟨_, ⟨rfl, i, a, st, n, f, rfl, h1, h2, h3, rfl⟩, hk⟩
theorem jw_aaload {i : Int32} {a : Nat} (hd : decode (jm_b M) pc = .ok (.aaload, 1)) : jm_wp C M Q (pc, lv, .int i :: .ref a :: st, h) ↔ ∃ n f c ci, h.2 a = .inl (c, n, .inr (.inr (.inr (.inr f)))) ∧ a < h.1 ∧ jm_ax c = some ci ∧ vp_in i n ∧ jm_wp C M Q (pc + 1, lv, va_rf (f i.toNatClampNeg) :: st, h) := by
  rw [jm_wp_d hd]
  constructor
  · rintro (⟨s', ⟨-, i', a', r, n, f, c, ci, he, h1, h2, h4, h3, rfl⟩, hk⟩ | ⟨r, hr, -⟩)
    · cases he
      exact ⟨n, f, c, ci, h2, h1, h4, h3, hk⟩
    · exact hr.elim
  · rintro ⟨n, f, c, ci, h2, h1, h4, h3, hk⟩
    exact Or.inl ⟨_, ⟨rfl, i, a, st, n, f, c, ci, rfl, h1, h2, h4, h3, rfl⟩, hk⟩
theorem jw_iastore {x : Int32} {i : Int32} {a : Nat} (hd : decode (jm_b M) pc = .ok (.iastore, 1)) : jm_wp C M Q (pc, lv, .int x :: .int i :: .ref a :: st, h) ↔ ∃ n f, h.2 a = .inl (0, n, .inl f) ∧ a < h.1 ∧ vp_in i n ∧ jm_wp C M Q (pc + 1, lv, st, (h.1, jm_up h.2 a (.inl (0, n, .inl (upd f i.toNatClampNeg x))))) := by
  rw [jm_wp_d hd]
  constructor
  · rintro (⟨s', ⟨-, x', i', a', r, n, f, he, h1, h2, h3, rfl⟩, hk⟩ | ⟨r, hr, -⟩)
    · cases he
      exact ⟨n, f, h2, h1, h3, hk⟩
    · exact hr.elim
  · rintro ⟨n, f, h2, h1, h3, hk⟩
    exact Or.inl ⟨_, ⟨rfl, x, i, a, st, n, f, rfl, h1, h2, h3, rfl⟩, hk⟩
theorem jw_lastore {x : Int64} {i : Int32} {a : Nat} (hd : decode (jm_b M) pc = .ok (.lastore, 1)) : jm_wp C M Q (pc, lv, .long x :: .int i :: .ref a :: st, h) ↔ ∃ n f, h.2 a = .inl (1, n, .inr (.inl f)) ∧ a < h.1 ∧ vp_in i n ∧ jm_wp C M Q (pc + 1, lv, st, (h.1, jm_up h.2 a (.inl (1, n, .inr (.inl (vp_updL f i.toNatClampNeg x)))))) := by
  rw [jm_wp_d hd]
  constructor
  · rintro (⟨s', ⟨-, x', i', a', r, n, f, he, h1, h2, h3, rfl⟩, hk⟩ | ⟨r, hr, -⟩)
    · cases he
      exact ⟨n, f, h2, h1, h3, hk⟩
    · exact hr.elim
  · rintro ⟨n, f, h2, h1, h3, hk⟩
    exact Or.inl ⟨_, ⟨rfl, x, i, a, st, n, f, rfl, h1, h2, h3, rfl⟩, hk⟩
theorem jw_aastoreN {i : Int32} {a : Nat} (hd : decode (jm_b M) pc = .ok (.aastore, 1)) : jm_wp C M Q (pc, lv, .null :: .int i :: .ref a :: st, h) ↔ ∃ n f c ci, h.2 a = .inl (c, n, .inr (.inr (.inr (.inr f)))) ∧ a < h.1 ∧ jm_ax c = some ci ∧ vp_in i n ∧ jm_wp C M Q (pc + 1, lv, st, (h.1, jm_up h.2 a (.inl (c, n, .inr (.inr (.inr (.inr (va_up f i.toNatClampNeg none)))))))) := by
  rw [jm_wp_d hd]
  constructor
  · rintro (⟨s', ⟨-, v, i', a', r, n, f, c, ci, he, h1, h2, h4, h3, ⟨hv, rfl⟩ | ⟨b, fs, hv, h5, h6, rfl⟩⟩, hk⟩ | ⟨r, hr, -⟩)
    · cases he
      exact ⟨n, f, c, ci, h2, h1, h4, h3, hk⟩
    · cases he
      cases hv
    · exact hr.elim
  · rintro ⟨n, f, c, ci, h2, h1, h4, h3, hk⟩
    exact Or.inl ⟨_, ⟨rfl, .null, i, a, st, n, f, c, ci, rfl, h1, h2, h4, h3, Or.inl ⟨rfl, rfl⟩⟩, hk⟩
theorem jw_aastore {i : Int32} {a b : Nat} (hd : decode (jm_b M) pc = .ok (.aastore, 1)) : jm_wp C M Q (pc, lv, .ref b :: .int i :: .ref a :: st, h) ↔ ∃ n f c ci fs, h.2 a = .inl (c, n, .inr (.inr (.inr (.inr f)))) ∧ a < h.1 ∧ jm_ax c = some ci ∧ vp_in i n ∧ b < h.1 ∧ h.2 b = .inr (ci, fs) ∧ jm_wp C M Q (pc + 1, lv, st, (h.1, jm_up h.2 a (.inl (c, n, .inr (.inr (.inr (.inr (va_up f i.toNatClampNeg (some b))))))))) := by
  rw [jm_wp_d hd]
  constructor
  · rintro (⟨s', ⟨-, v, i', a', r, n, f, c, ci, he, h1, h2, h4, h3, ⟨hv, rfl⟩ | ⟨b', fs, hv, h5, h6, rfl⟩⟩, hk⟩ | ⟨r, hr, -⟩)
    · cases he
      cases hv
    · cases he
      cases hv
      exact ⟨n, f, c, ci, fs, h2, h1, h4, h3, h5, h6, hk⟩
    · exact hr.elim
  · rintro ⟨n, f, c, ci, fs, h2, h1, h4, h3, h5, h6, hk⟩
    exact Or.inl ⟨_, ⟨rfl, .ref b, i, a, st, n, f, c, ci, rfl, h1, h2, h4, h3, Or.inr ⟨b, fs, rfl, h5, h6, rfl⟩⟩, hk⟩
theorem jw_arraylength {a : Nat} (hd : decode (jm_b M) pc = .ok (.arraylength, 1)) : jm_wp C M Q (pc, lv, .ref a :: st, h) ↔ ∃ c n f, h.2 a = .inl (c, n, f) ∧ a < h.1 ∧ c < 5 ∧ jm_wp C M Q (pc + 1, lv, .int (Int32.ofNat n) :: st, h) := by
  rw [jm_wp_d hd]
  constructor
  · rintro (⟨s', ⟨-, a', r, c, n, f, he, h1, h2, h3, rfl⟩, hk⟩ | ⟨r, hr, -⟩)
    · cases he
      exact ⟨c, n, f, h2, h1, h3, hk⟩
    · exact hr.elim
  · rintro ⟨c, n, f, h2, h1, h3, hk⟩
    exact Or.inl ⟨_, ⟨rfl, a, st, c, n, f, rfl, h1, h2, h3, rfl⟩, hk⟩
theorem jw_new {i ci : Nat} (hd : decode (jm_b M) pc = .ok (.new i, 3)) (hf : jm_nw (jm_oc M) i = some ci) : jm_wp C M Q (pc, lv, st, h) ↔ jm_wp C M Q (pc + 3, lv, .ref h.1 :: st, (h.1 + 1, jm_up h.2 h.1 (.inr (ci, jm_df ci)))) := by
  rw [jm_wp_d hd]
  constructor
  · rintro (⟨s', ⟨-, ci', hf', rfl⟩, hk⟩ | ⟨r, hr, -⟩)
    · cases hf.symm.trans hf'
      exact hk
    · exact hr.elim
  · intro hk
    exact Or.inl ⟨_, ⟨rfl, ci, hf, rfl⟩, hk⟩
theorem jw_newarray_int {n : Int32} (hd : decode (jm_b M) pc = .ok (.newarray .int, 2)) : jm_wp C M Q (pc, lv, .int n :: st, h) ↔ ¬ n < 0 ∧ n.toNatClampNeg ≤ 1000000 ∧ jm_wp C M Q (pc + 2, lv, .ref h.1 :: st, (h.1 + 1, jm_up h.2 h.1 (.inl (0, n.toNatClampNeg, .inl (fun _ => 0))))) := by
  rw [jm_wp_d hd]
  constructor
  · rintro (⟨s', ⟨-, n', r, he, h1, h2, ⟨ht, rfl⟩ | ⟨ht, rfl⟩⟩, hk⟩ | ⟨r, hr, -⟩)
    · cases he
      exact ⟨h1, h2, hk⟩
    · cases ht
    · exact hr.elim
  · rintro ⟨h1, h2, hk⟩
    exact Or.inl ⟨_, ⟨rfl, n, st, rfl, h1, h2, Or.inl ⟨rfl, rfl⟩⟩, hk⟩
theorem jw_newarray_long {n : Int32} (hd : decode (jm_b M) pc = .ok (.newarray .long, 2)) : jm_wp C M Q (pc, lv, .int n :: st, h) ↔ ¬ n < 0 ∧ n.toNatClampNeg ≤ 1000000 ∧ jm_wp C M Q (pc + 2, lv, .ref h.1 :: st, (h.1 + 1, jm_up h.2 h.1 (.inl (1, n.toNatClampNeg, .inr (.inl (fun _ => 0)))))) := by
  rw [jm_wp_d hd]
  constructor
  · rintro (⟨s', ⟨-, n', r, he, h1, h2, ⟨ht, rfl⟩ | ⟨ht, rfl⟩⟩, hk⟩ | ⟨r, hr, -⟩)
    · cases ht
    · cases he
      exact ⟨h1, h2, hk⟩
    · exact hr.elim
  · rintro ⟨h1, h2, hk⟩
    exact Or.inl ⟨_, ⟨rfl, n, st, rfl, h1, h2, Or.inr ⟨rfl, rfl⟩⟩, hk⟩
theorem jw_anewarray {i c : Nat} {n : Int32} (hd : decode (jm_b M) pc = .ok (.anewarray i, 3)) (hf : jm_na (jm_oc M) i = some c) : jm_wp C M Q (pc, lv, .int n :: st, h) ↔ ¬ n < 0 ∧ n.toNatClampNeg ≤ 1000000 ∧ jm_wp C M Q (pc + 3, lv, .ref h.1 :: st, (h.1 + 1, jm_up h.2 h.1 (.inl (c, n.toNatClampNeg, .inr (.inr (.inr (.inr (fun _ => none)))))))) := by
  rw [jm_wp_d hd]
  constructor
  · rintro (⟨s', ⟨-, n', r, c', he, hf', h1, h2, rfl⟩, hk⟩ | ⟨r, hr, -⟩)
    · cases he
      cases hf.symm.trans hf'
      exact ⟨h1, h2, hk⟩
    · exact hr.elim
  · rintro ⟨h1, h2, hk⟩
    exact Or.inl ⟨_, ⟨rfl, n, st, c, rfl, hf, h1, h2, rfl⟩, hk⟩
end JW
section JC
variable {C : jm_C} {M : Nat} {Q : jm_Q} {pc : Nat} {lv : jm_L} {st r : List Value} {h : jm_H}
theorem jw_virtual {i y a ci : Nat} {fs As : List Value} {rv : Option Value} {t : jm_H} (hd : decode (jm_b M) pc = .ok (.invokevirtual i, 3)) (hm : jm_ml (jm_oc M) i = some (0, y)) (hs : st = As.reverse ++ .ref a :: r) (hn : As.length = jm_np y) (hc : jm_ct r ≤ 8) (hcell : h.2 a = .inr (ci, fs)) (ha : a < h.1) (hr : jm_rc y = ci) (hcr : jm_cr M y = true) (hC : C y (.ref a :: As) h rv t) (hk : jm_wp C M Q (pc + 3, lv, rv.toList ++ r, t)) : jm_wp C M Q (pc, lv, st, h) :=
  jm_wp_in ⟨_, _, hd, Or.inl ⟨_, ⟨rfl, y, a, ci, fs, As, r, rv, t, hm, hs, hn, hc, ha, hcell, hr, hcr, hC, rfl⟩, hk⟩⟩
theorem jw_static {i y : Nat} {As : List Value} {rv : Option Value} {t : jm_H} (hd : decode (jm_b M) pc = .ok (.invokestatic i, 3)) (hm : jm_ml (jm_oc M) i = some (1, y)) (hs : st = As.reverse ++ r) (hn : As.length = jm_np y) (hc : jm_ct r ≤ 8) (hcr : jm_cr M y = true) (hC : C y As h rv t) (hk : jm_wp C M Q (pc + 3, lv, rv.toList ++ r, t)) : jm_wp C M Q (pc, lv, st, h) :=
  jm_wp_in ⟨_, _, hd, Or.inl ⟨_, ⟨rfl, y, As, r, rv, t, hm, hs, hn, hc, hcr, hC, rfl⟩, hk⟩⟩
theorem jw_special {i k y a : Nat} {As : List Value} {rv : Option Value} {t : jm_H} (hd : decode (jm_b M) pc = .ok (.invokespecial i, 3)) (hm : jm_ml (jm_oc M) i = some (k, y)) (hk2 : k = 2 ∨ k = 3) (hs : st = As.reverse ++ .ref a :: r) (hn : As.length = jm_np y) (hc : jm_ct r ≤ 8) (hcr : jm_cr M y = true) (hC : C y (.ref a :: As) h rv t) (hk : jm_wp C M Q (pc + 3, lv, rv.toList ++ r, t)) : jm_wp C M Q (pc, lv, st, h) :=
  jm_wp_in ⟨_, _, hd, Or.inl ⟨_, ⟨rfl, Or.inr ⟨k, y, a, As, r, rv, t, hm, hk2, hs, hn, hc, hcr, hC, rfl⟩⟩, hk⟩⟩
theorem jw_object {i a : Nat} (hd : decode (jm_b M) pc = .ok (.invokespecial i, 3)) (hm : jm_ml (jm_oc M) i = some (4, 0)) (hc : jm_ct st ≤ 8) (ho : jm_or M = true) (hk : jm_wp C M Q (pc + 3, lv, st, h)) : jm_wp C M Q (pc, lv, .ref a :: st, h) :=
  jm_wp_in ⟨_, _, hd, Or.inl ⟨_, ⟨rfl, Or.inl ⟨a, st, hm, rfl, hc, ho, rfl⟩⟩, hk⟩⟩
theorem jw_ireturn {x : Int32} {ty : FieldType} (hd : decode (jm_b M) pc = .ok (.ireturn, 1)) (ht : jm_rt M = some ty) (hn : narrow ty (.int x) = .int x) (hq : Q (some (.int x)) h) : jm_wp C M Q (pc, lv, [.int x], h) :=
  jm_wp_in ⟨_, _, hd, Or.inr ⟨_, ⟨rfl, x, ty, rfl, ht, hn, rfl⟩, hq⟩⟩
theorem jw_lreturn {x : Int64} (hd : decode (jm_b M) pc = .ok (.lreturn, 1)) (ht : jm_rt M = some .long) (hq : Q (some (.long x)) h) : jm_wp C M Q (pc, lv, [.long x], h) :=
  jm_wp_in ⟨_, _, hd, Or.inr ⟨_, ⟨rfl, x, rfl, ht, rfl⟩, hq⟩⟩
theorem jw_return (hd : decode (jm_b M) pc = .ok (.return_, 1)) (ht : jm_rt M = none) (hq : Q none h) : jm_wp C M Q (pc, lv, [], h) :=
  jm_wp_in ⟨_, _, hd, Or.inr ⟨_, ⟨rfl, rfl, ht, rfl⟩, hq⟩⟩
/-- a loop that counts up -/
theorem jm_for {head n : Nat} (I : Nat → jm_L → jm_H → Prop) (hs : ∀ i lv h, i < n → I i lv h → (∀ lv' h', I (i + 1) lv' h' → jm_wp C M Q (head, lv', [], h')) → jm_wp C M Q (head, lv, [], h)) (he : ∀ lv h, I n lv h → jm_wp C M Q (head, lv, [], h)) : ∀ i lv h, i ≤ n → I i lv h → jm_wp C M Q (head, lv, [], h) := by
  intro i lv h hi
  have key : ∀ k i lv h, i + k = n → I i lv h → jm_wp C M Q (head, lv, [], h) := by
    intro k
    induction k with
    | zero =>
      intro i lv h e hI
      have e : i = n := e
      subst e
      exact he lv h hI
    | succ k ih =>
      intro i lv h e hI
      exact hs i lv h (by omega) hI (fun lv' h' hI' => ih (i + 1) lv' h' (by omega) hI')
  exact key (n - i) i lv h (by omega)
end JC
section JE
variable {C : jm_C} {M : Nat} {Q : jm_Q} {pc : Nat} {lv : jm_L} {h : jm_H}
theorem jw_ireturnI {x : Int32} (hd : decode (jm_b M) pc = .ok (.ireturn, 1)) (ht : jm_rt M = some .int) : jm_wp C M Q (pc, lv, [.int x], h) ↔ Q (some (.int x)) h := by
  refine ⟨fun hw => ?_, fun hq => jw_ireturn hd ht rfl hq⟩
  rcases (jm_wp_d hd).mp hw with ⟨s', hn, -⟩ | ⟨r, ⟨-, x', ty, he, -, -, rfl⟩, hq⟩
  · exact hn.elim
  · cases he
    exact hq
theorem jw_ireturnZ {x : Int32} (hd : decode (jm_b M) pc = .ok (.ireturn, 1)) (ht : jm_rt M = some .boolean) : jm_wp C M Q (pc, lv, [.int x], h) ↔ narrow .boolean (.int x) = .int x ∧ Q (some (.int x)) h := by
  refine ⟨fun hw => ?_, fun hq => jw_ireturn hd ht hq.1 hq.2⟩
  rcases (jm_wp_d hd).mp hw with ⟨s', hn, -⟩ | ⟨r, ⟨-, x', ty, he, ht', hn, rfl⟩, hq⟩
  · exact hn.elim
  · cases he
    cases ht.symm.trans ht'
    exact ⟨hn, hq⟩
theorem jw_lreturnI {x : Int64} (hd : decode (jm_b M) pc = .ok (.lreturn, 1)) (ht : jm_rt M = some .long) : jm_wp C M Q (pc, lv, [.long x], h) ↔ Q (some (.long x)) h := by
  refine ⟨fun hw => ?_, fun hq => jw_lreturn hd ht hq⟩
  rcases (jm_wp_d hd).mp hw with ⟨s', hn, -⟩ | ⟨r, ⟨-, x', he, -, rfl⟩, hq⟩
  · exact hn.elim
  · cases he
    exact hq
theorem jw_returnI (hd : decode (jm_b M) pc = .ok (.return_, 1)) (ht : jm_rt M = none) : jm_wp C M Q (pc, lv, [], h) ↔ Q none h := by
  refine ⟨fun hw => ?_, fun hq => jw_return hd ht hq⟩
  rcases (jm_wp_d hd).mp hw with ⟨s', hn, -⟩ | ⟨r, ⟨-, -, -, rfl⟩, hq⟩
  · exact hn.elim
  · exact hq
end JE
