/-! Rows without binders: what is read stands as an argument, so that simp walks straight on. -/
section JX
variable (C : jm_C) (M : Nat) (Q : jm_Q)
def jx_i (o : Option Value) (pc : Nat) (lv : jm_L) (st : List Value) (h : jm_H) : Prop := match o with
  | some (.int x) => jm_wp C M Q (pc, lv, .int x :: st, h)
  | _ => False
def jx_l (o : Option Value) (pc : Nat) (lv : jm_L) (st : List Value) (h : jm_H) : Prop := match o with
  | some (.long x) => jm_wp C M Q (pc, lv, .long x :: st, h)
  | _ => False
def jx_a (o : Option Value) (pc : Nat) (lv : jm_L) (st : List Value) (h : jm_H) : Prop := match o with
  | some (.ref a) => jm_wp C M Q (pc, lv, .ref a :: st, h)
  | some .null => jm_wp C M Q (pc, lv, .null :: st, h)
  | _ => False
def jx_c (i : Nat) (k : Int32) (o : Option Value) (pc : Nat) (lv : jm_L) (st : List Value) (h : jm_H) : Prop := match o with
  | some (.int x) => jm_wp C M Q (pc, jm_p1 lv i (.int (x + k)), st, h)
  | _ => False
def jx_v (o : Option Value) (pc : Nat) (lv : jm_L) (st : List Value) (h : jm_H) : Prop := match o with
  | some v => jm_wp C M Q (pc, lv, v :: st, h)
  | none => False
def jx_g (ci k : Nat) (x : va_E) (pc : Nat) (lv : jm_L) (st : List Value) (h : jm_H) : Prop := match x with
  | .inr (c, fs) => c = ci ∧ jx_v C M Q (fs[k]?) pc lv st h
  | _ => False
def jx_p (ci k a : Nat) (v : Value) (x : va_E) (pc : Nat) (lv : jm_L) (st : List Value) (h : jm_H) : Prop := match x with
  | .inr (c, fs) => c = ci ∧ k < fs.length ∧ jm_wp C M Q (pc, lv, st, (h.1, jm_up h.2 a (.inr (c, fs.set k v))))
  | _ => False
def jx_ia (i : Int32) (x : va_E) (pc : Nat) (lv : jm_L) (st : List Value) (h : jm_H) : Prop := match x with
  | .inl (c, n, .inl g) => c = 0 ∧ vp_in i n ∧ jm_wp C M Q (pc, lv, .int (g i.toNatClampNeg) :: st, h)
  | _ => False
def jx_la (i : Int32) (x : va_E) (pc : Nat) (lv : jm_L) (st : List Value) (h : jm_H) : Prop := match x with
  | .inl (c, n, .inr (.inl g)) => c = 1 ∧ vp_in i n ∧ jm_wp C M Q (pc, lv, .long (g i.toNatClampNeg) :: st, h)
  | _ => False
def jx_aa (i : Int32) (x : va_E) (pc : Nat) (lv : jm_L) (st : List Value) (h : jm_H) : Prop := match x with
  | .inl (c, n, .inr (.inr (.inr (.inr g)))) => (jm_ax c).isSome = true ∧ vp_in i n ∧ jm_wp C M Q (pc, lv, va_rf (g i.toNatClampNeg) :: st, h)
  | _ => False
def jx_is (a : Nat) (i y : Int32) (x : va_E) (pc : Nat) (lv : jm_L) (st : List Value) (h : jm_H) : Prop := match x with
  | .inl (c, n, .inl g) => c = 0 ∧ vp_in i n ∧ jm_wp C M Q (pc, lv, st, (h.1, jm_up h.2 a (.inl (0, n, .inl (upd g i.toNatClampNeg y)))))
  | _ => False
def jx_ls (a : Nat) (i : Int32) (y : Int64) (x : va_E) (pc : Nat) (lv : jm_L) (st : List Value) (h : jm_H) : Prop := match x with
  | .inl (c, n, .inr (.inl g)) => c = 1 ∧ vp_in i n ∧ jm_wp C M Q (pc, lv, st, (h.1, jm_up h.2 a (.inl (1, n, .inr (.inl (vp_updL g i.toNatClampNeg y))))))
  | _ => False
def jx_sn (a : Nat) (i : Int32) (x : va_E) (pc : Nat) (lv : jm_L) (st : List Value) (h : jm_H) : Prop := match x with
  | .inl (c, n, .inr (.inr (.inr (.inr g)))) => (jm_ax c).isSome = true ∧ vp_in i n ∧ jm_wp C M Q (pc, lv, st, (h.1, jm_up h.2 a (.inl (c, n, .inr (.inr (.inr (.inr (va_up g i.toNatClampNeg none))))))))
  | _ => False
def jx_sr (a b : Nat) (i : Int32) (x y : va_E) (pc : Nat) (lv : jm_L) (st : List Value) (h : jm_H) : Prop := match x, y with
  | .inl (c, n, .inr (.inr (.inr (.inr g)))), .inr (ci, _) => jm_ax c = some ci ∧ vp_in i n ∧ jm_wp C M Q (pc, lv, st, (h.1, jm_up h.2 a (.inl (c, n, .inr (.inr (.inr (.inr (va_up g i.toNatClampNeg (some b)))))))))
  | _, _ => False
def jx_n (x : va_E) (pc : Nat) (lv : jm_L) (st : List Value) (h : jm_H) : Prop := match x with
  | .inl (c, n, _) => c < 5 ∧ jm_wp C M Q (pc, lv, .int (Int32.ofNat n) :: st, h)
  | _ => False
end JX
section JY
variable {C : jm_C} {M : Nat} {Q : jm_Q} {pc : Nat} {lv : jm_L} {st : List Value} {h : jm_H}
theorem jx_i_s {x : Int32} : jx_i C M Q (some (.int x)) pc lv st h = jm_wp C M Q (pc, lv, .int x :: st, h) := rfl
theorem jx_l_s {x : Int64} : jx_l C M Q (some (.long x)) pc lv st h = jm_wp C M Q (pc, lv, .long x :: st, h) := rfl
theorem jx_a_s {a : Nat} : jx_a C M Q (some (.ref a)) pc lv st h = jm_wp C M Q (pc, lv, .ref a :: st, h) := rfl
theorem jx_a_n : jx_a C M Q (some .null) pc lv st h = jm_wp C M Q (pc, lv, .null :: st, h) := rfl
theorem jx_c_s {i : Nat} {k x : Int32} : jx_c C M Q i k (some (.int x)) pc lv st h = jm_wp C M Q (pc, jm_p1 lv i (.int (x + k)), st, h) := rfl
theorem jx_v_s {v : Value} : jx_v C M Q (some v) pc lv st h = jm_wp C M Q (pc, lv, v :: st, h) := rfl
theorem jx_g_s {ci k c : Nat} {fs : List Value} : jx_g C M Q ci k (.inr (c, fs)) pc lv st h = (c = ci ∧ jx_v C M Q (fs[k]?) pc lv st h) := rfl
theorem jx_p_s {ci k a c : Nat} {v : Value} {fs : List Value} : jx_p C M Q ci k a v (.inr (c, fs)) pc lv st h = (c = ci ∧ k < fs.length ∧ jm_wp C M Q (pc, lv, st, (h.1, jm_up h.2 a (.inr (c, fs.set k v))))) := rfl
theorem jx_ia_s {i : Int32} {c n : Nat} {g : Nat → Int32} : jx_ia C M Q i (.inl (c, n, .inl g)) pc lv st h = (c = 0 ∧ vp_in i n ∧ jm_wp C M Q (pc, lv, .int (g i.toNatClampNeg) :: st, h)) := rfl
theorem jx_la_s {i : Int32} {c n : Nat} {g : Nat → Int64} : jx_la C M Q i (.inl (c, n, .inr (.inl g))) pc lv st h = (c = 1 ∧ vp_in i n ∧ jm_wp C M Q (pc, lv, .long (g i.toNatClampNeg) :: st, h)) := rfl
theorem jx_aa_s {i : Int32} {c n : Nat} {g : Nat → Option Nat} : jx_aa C M Q i (.inl (c, n, .inr (.inr (.inr (.inr g))))) pc lv st h = ((jm_ax c).isSome = true ∧ vp_in i n ∧ jm_wp C M Q (pc, lv, va_rf (g i.toNatClampNeg) :: st, h)) := rfl
theorem jx_is_s {a c n : Nat} {i y : Int32} {g : Nat → Int32} : jx_is C M Q a i y (.inl (c, n, .inl g)) pc lv st h = (c = 0 ∧ vp_in i n ∧ jm_wp C M Q (pc, lv, st, (h.1, jm_up h.2 a (.inl (0, n, .inl (upd g i.toNatClampNeg y)))))) := rfl
theorem jx_ls_s {a c n : Nat} {i : Int32} {y : Int64} {g : Nat → Int64} : jx_ls C M Q a i y (.inl (c, n, .inr (.inl g))) pc lv st h = (c = 1 ∧ vp_in i n ∧ jm_wp C M Q (pc, lv, st, (h.1, jm_up h.2 a (.inl (1, n, .inr (.inl (vp_updL g i.toNatClampNeg y))))))) := rfl
theorem jx_sn_s {a c n : Nat} {i : Int32} {g : Nat → Option Nat} : jx_sn C M Q a i (.inl (c, n, .inr (.inr (.inr (.inr g))))) pc lv st h = ((jm_ax c).isSome = true ∧ vp_in i n ∧ jm_wp C M Q (pc, lv, st, (h.1, jm_up h.2 a (.inl (c, n, .inr (.inr (.inr (.inr (va_up g i.toNatClampNeg none))))))))) := rfl
theorem jx_sr_s {a b c ci n : Nat} {i : Int32} {g : Nat → Option Nat} {fs : List Value} : jx_sr C M Q a b i (.inl (c, n, .inr (.inr (.inr (.inr g))))) (.inr (ci, fs)) pc lv st h = (jm_ax c = some ci ∧ vp_in i n ∧ jm_wp C M Q (pc, lv, st, (h.1, jm_up h.2 a (.inl (c, n, .inr (.inr (.inr (.inr (va_up g i.toNatClampNeg (some b)))))))))) := rfl
theorem jx_n_s {c n : Nat} {g : (Nat → Int32) ⊕ (Nat → Int64) ⊕ (Nat → UInt32) ⊕ (Nat → UInt64) ⊕ (Nat → Option Nat)} : jx_n C M Q (.inl (c, n, g)) pc lv st h = (c < 5 ∧ jm_wp C M Q (pc, lv, .int (Int32.ofNat n) :: st, h)) := rfl
theorem va_rf_s {a : Nat} : va_rf (some a) = .ref a := rfl
theorem va_rf_n : va_rf none = .null := rfl
theorem jv_iload_n {k : Fin 4} (hd : decode (jm_b M) pc = .ok (.iload_n k, 1)) : jm_wp C M Q (pc, lv, st, h) ↔ jx_i C M Q (lv k) (pc + 1) lv st h := by
  rw [jw_iload_n hd]
  constructor
  · rintro ⟨x, hx, hk⟩
    rw [hx]
    exact hk
  · intro hk
    cases ho : lv k with
    | none => rw [ho] at hk; exact hk.elim
    | some v =>
      rw [ho] at hk
      cases v with
      | int x => exact ⟨x, rfl, hk⟩
      | _ => exact hk.elim
theorem jv_iload {i : Nat} (hd : decode (jm_b M) pc = .ok (.iload i, 2)) : jm_wp C M Q (pc, lv, st, h) ↔ jx_i C M Q (lv i) (pc + 2) lv st h := by
  rw [jw_iload hd]
  constructor
  · rintro ⟨x, hx, hk⟩
    rw [hx]
    exact hk
  · intro hk
    cases ho : lv i with
    | none => rw [ho] at hk; exact hk.elim
    | some v =>
      rw [ho] at hk
      cases v with
      | int x => exact ⟨x, rfl, hk⟩
      | _ => exact hk.elim
theorem jv_lload_n {k : Fin 4} (hd : decode (jm_b M) pc = .ok (.lload_n k, 1)) : jm_wp C M Q (pc, lv, st, h) ↔ jx_l C M Q (lv k) (pc + 1) lv st h := by
  rw [jw_lload_n hd]
  constructor
  · rintro ⟨x, hx, hk⟩
    rw [hx]
    exact hk
  · intro hk
    cases ho : lv k with
    | none => rw [ho] at hk; exact hk.elim
    | some v =>
      rw [ho] at hk
      cases v with
      | long x => exact ⟨x, rfl, hk⟩
      | _ => exact hk.elim
theorem jv_lload {i : Nat} (hd : decode (jm_b M) pc = .ok (.lload i, 2)) : jm_wp C M Q (pc, lv, st, h) ↔ jx_l C M Q (lv i) (pc + 2) lv st h := by
  rw [jw_lload hd]
  constructor
  · rintro ⟨x, hx, hk⟩
    rw [hx]
    exact hk
  · intro hk
    cases ho : lv i with
    | none => rw [ho] at hk; exact hk.elim
    | some v =>
      rw [ho] at hk
      cases v with
      | long x => exact ⟨x, rfl, hk⟩
      | _ => exact hk.elim
theorem jv_aload_n {k : Fin 4} (hd : decode (jm_b M) pc = .ok (.aload_n k, 1)) : jm_wp C M Q (pc, lv, st, h) ↔ jx_a C M Q (lv k) (pc + 1) lv st h := by
  rw [jw_aload_n hd]
  constructor
  · rintro ⟨v, hx, hr, hk⟩
    rw [hx]
    cases v with
    | ref a => exact hk
    | null => exact hk
    | _ => exact absurd (show false = true from hr) (by decide)
  · intro hk
    cases ho : lv k with
    | none => rw [ho] at hk; exact hk.elim
    | some v =>
      rw [ho] at hk
      cases v with
      | ref a => exact ⟨_, rfl, rfl, hk⟩
      | null => exact ⟨_, rfl, rfl, hk⟩
      | _ => exact hk.elim
theorem jv_aload {i : Nat} (hd : decode (jm_b M) pc = .ok (.aload i, 2)) : jm_wp C M Q (pc, lv, st, h) ↔ jx_a C M Q (lv i) (pc + 2) lv st h := by
  rw [jw_aload hd]
  constructor
  · rintro ⟨v, hx, hr, hk⟩
    rw [hx]
    cases v with
    | ref a => exact hk
    | null => exact hk
    | _ => exact absurd (show false = true from hr) (by decide)
  · intro hk
    cases ho : lv i with
    | none => rw [ho] at hk; exact hk.elim
    | some v =>
      rw [ho] at hk
      cases v with
      | ref a => exact ⟨_, rfl, rfl, hk⟩
      | null => exact ⟨_, rfl, rfl, hk⟩
      | _ => exact hk.elim
theorem jv_iinc {i : Nat} {n : Int} {k : Int32} (hd : decode (jm_b M) pc = .ok (.iinc i n, 3)) (hi : i < jm_nl M) (hv : Int32.ofInt n = k) : jm_wp C M Q (pc, lv, st, h) ↔ jx_c C M Q i k (lv i) (pc + 3) lv st h := by
  rw [jw_iinc hd hi hv]
  constructor
  · rintro ⟨x, hx, hk⟩
    rw [hx]
    exact hk
  · intro hk
    cases ho : lv i with
    | none => rw [ho] at hk; exact hk.elim
    | some v =>
      rw [ho] at hk
      cases v with
      | int x => exact ⟨x, rfl, hk⟩
      | _ => exact hk.elim
theorem jv_getfield {i ci k a : Nat} (hd : decode (jm_b M) pc = .ok (.getfield i, 3)) (hf : jm_fl (jm_oc M) i = some (ci, k)) : jm_wp C M Q (pc, lv, .ref a :: st, h) ↔ a < h.1 ∧ jx_g C M Q ci k (h.2 a) (pc + 3) lv st h := by
  rw [jw_getfield hd hf]
  constructor
  · rintro ⟨fs, v, h1, h2, h3, hk⟩
    rw [h1]
    refine ⟨h2, rfl, ?_⟩
    rw [h3]
    exact hk
  · rintro ⟨h2, hk⟩
    cases ho : h.2 a with
    | inl x => rw [ho] at hk; exact hk.elim
    | inr x =>
      obtain ⟨c, fs⟩ := x
      rw [ho] at hk
      obtain ⟨rfl, hk⟩ := hk
      cases hv : fs[k]? with
      | none => rw [hv] at hk; exact hk.elim
      | some v => rw [hv] at hk; exact ⟨fs, v, rfl, h2, hv, hk⟩
theorem jv_putfield {i ci k a : Nat} {v : Value} (hd : decode (jm_b M) pc = .ok (.putfield i, 3)) (hf : jm_fl (jm_oc M) i = some (ci, k)) (hz : jm_fin M ci k = true) : jm_wp C M Q (pc, lv, v :: .ref a :: st, h) ↔ a < h.1 ∧ jm_ok (jm_ty ci k) v = true ∧ jx_p C M Q ci k a v (h.2 a) (pc + 3) lv st h := by
  rw [jw_putfield hd hf hz]
  constructor
  · rintro ⟨fs, h1, h2, h3, h4, hk⟩
    rw [h1]
    exact ⟨h2, h4, rfl, h3, hk⟩
  · rintro ⟨h2, h4, hk⟩
    cases ho : h.2 a with
    | inl x => rw [ho] at hk; exact hk.elim
    | inr x =>
      obtain ⟨c, fs⟩ := x
      rw [ho] at hk
      obtain ⟨rfl, h3, hk⟩ := hk
      exact ⟨fs, rfl, h2, h3, h4, hk⟩
theorem jv_iaload {i : Int32} {a : Nat} (hd : decode (jm_b M) pc = .ok (.iaload, 1)) : jm_wp C M Q (pc, lv, .int i :: .ref a :: st, h) ↔ a < h.1 ∧ jx_ia C M Q i (h.2 a) (pc + 1) lv st h := by
  rw [jw_iaload hd]
  constructor
  · rintro ⟨n, g, h1, h2, h3, hk⟩
    rw [h1]
    exact ⟨h2, rfl, h3, hk⟩
  · rintro ⟨h2, hk⟩
    match ho : h.2 a with
    | .inl (c, n, .inl g) =>
      rw [ho] at hk
      obtain ⟨rfl, h3, hk⟩ := hk
      exact ⟨n, g, rfl, h2, h3, hk⟩
    | .inr _ => rw [ho] at hk; exact hk.elim
    | .inl (c, n, .inr _) => rw [ho] at hk; exact hk.elim
theorem jv_laload {i : Int32} {a : Nat} (hd : decode (jm_b M) pc = .ok (.laload, 1)) : jm_wp C M Q (pc, lv, .int i :: .ref a :: st, h) ↔ a < h.1 ∧ jx_la C M Q i (h.2 a) (pc + 1) lv st h := by
  rw [jw_laload hd]
  constructor
  · rintro ⟨n, g, h1, h2, h3, hk⟩
    rw [h1]
    exact ⟨h2, rfl, h3, hk⟩
  · rintro ⟨h2, hk⟩
    match ho : h.2 a with
    | .inl (c, n, .inr (.inl g)) =>
      rw [ho] at hk
      obtain ⟨rfl, h3, hk⟩ := hk
      exact ⟨n, g, rfl, h2, h3, hk⟩
    | .inr _ => rw [ho] at hk; exact hk.elim
    | .inl (c, n, .inl _) => rw [ho] at hk; exact hk.elim
    | .inl (c, n, .inr (.inr _)) => rw [ho] at hk; exact hk.elim
theorem jv_aaload {i : Int32} {a : Nat} (hd : decode (jm_b M) pc = .ok (.aaload, 1)) : jm_wp C M Q (pc, lv, .int i :: .ref a :: st, h) ↔ a < h.1 ∧ jx_aa C M Q i (h.2 a) (pc + 1) lv st h := by
  rw [jw_aaload hd]
  constructor
  · rintro ⟨n, g, c, ci, h1, h2, h4, h3, hk⟩
    rw [h1]
    exact ⟨h2, by rw [h4]; rfl, h3, hk⟩
  · rintro ⟨h2, hk⟩
    match ho : h.2 a with
    | .inl (c, n, .inr (.inr (.inr (.inr g)))) =>
      rw [ho] at hk
      obtain ⟨h4, h3, hk⟩ := hk
      cases hx : jm_ax c with
      | none => rw [hx] at h4; cases h4
      | some ci => exact ⟨n, g, c, ci, rfl, h2, hx, h3, hk⟩
    | .inr _ => rw [ho] at hk; exact hk.elim
    | .inl (c, n, .inl _) => rw [ho] at hk; exact hk.elim
    | .inl (c, n, .inr (.inl _)) => rw [ho] at hk; exact hk.elim
    | .inl (c, n, .inr (.inr (.inl _))) => rw [ho] at hk; exact hk.elim
    | .inl (c, n, .inr (.inr (.inr (.inl _)))) => rw [ho] at hk; exact hk.elim
theorem jv_iastore {y : Int32} {i : Int32} {a : Nat} (hd : decode (jm_b M) pc = .ok (.iastore, 1)) : jm_wp C M Q (pc, lv, .int y :: .int i :: .ref a :: st, h) ↔ a < h.1 ∧ jx_is C M Q a i y (h.2 a) (pc + 1) lv st h := by
  rw [jw_iastore hd]
  constructor
  · rintro ⟨n, g, h1, h2, h3, hk⟩
    rw [h1]
    exact ⟨h2, rfl, h3, hk⟩
  · rintro ⟨h2, hk⟩
    match ho : h.2 a with
    | .inl (c, n, .inl g) =>
      rw [ho] at hk
      obtain ⟨rfl, h3, hk⟩ := hk
      exact ⟨n, g, rfl, h2, h3, hk⟩
    | .inr _ => rw [ho] at hk; exact hk.elim
    | .inl (c, n, .inr _) => rw [ho] at hk; exact hk.elim
theorem jv_lastore {y : Int64} {i : Int32} {a : Nat} (hd : decode (jm_b M) pc = .ok (.lastore, 1)) : jm_wp C M Q (pc, lv, .long y :: .int i :: .ref a :: st, h) ↔ a < h.1 ∧ jx_ls C M Q a i y (h.2 a) (pc + 1) lv st h := by
  rw [jw_lastore hd]
  constructor
  · rintro ⟨n, g, h1, h2, h3, hk⟩
    rw [h1]
    exact ⟨h2, rfl, h3, hk⟩
  · rintro ⟨h2, hk⟩
    match ho : h.2 a with
    | .inl (c, n, .inr (.inl g)) =>
      rw [ho] at hk
      obtain ⟨rfl, h3, hk⟩ := hk
      exact ⟨n, g, rfl, h2, h3, hk⟩
    | .inr _ => rw [ho] at hk; exact hk.elim
    | .inl (c, n, .inl _) => rw [ho] at hk; exact hk.elim
    | .inl (c, n, .inr (.inr _)) => rw [ho] at hk; exact hk.elim
theorem jv_aastoreN {i : Int32} {a : Nat} (hd : decode (jm_b M) pc = .ok (.aastore, 1)) : jm_wp C M Q (pc, lv, .null :: .int i :: .ref a :: st, h) ↔ a < h.1 ∧ jx_sn C M Q a i (h.2 a) (pc + 1) lv st h := by
  rw [jw_aastoreN hd]
  constructor
  · rintro ⟨n, g, c, ci, h1, h2, h4, h3, hk⟩
    rw [h1]
    exact ⟨h2, by rw [h4]; rfl, h3, hk⟩
  · rintro ⟨h2, hk⟩
    match ho : h.2 a with
    | .inl (c, n, .inr (.inr (.inr (.inr g)))) =>
      rw [ho] at hk
      obtain ⟨h4, h3, hk⟩ := hk
      cases hx : jm_ax c with
      | none => rw [hx] at h4; cases h4
      | some ci => exact ⟨n, g, c, ci, rfl, h2, hx, h3, hk⟩
    | .inr _ => rw [ho] at hk; exact hk.elim
    | .inl (c, n, .inl _) => rw [ho] at hk; exact hk.elim
    | .inl (c, n, .inr (.inl _)) => rw [ho] at hk; exact hk.elim
    | .inl (c, n, .inr (.inr (.inl _))) => rw [ho] at hk; exact hk.elim
    | .inl (c, n, .inr (.inr (.inr (.inl _)))) => rw [ho] at hk; exact hk.elim
theorem jv_aastore {i : Int32} {a b : Nat} (hd : decode (jm_b M) pc = .ok (.aastore, 1)) : jm_wp C M Q (pc, lv, .ref b :: .int i :: .ref a :: st, h) ↔ a < h.1 ∧ b < h.1 ∧ jx_sr C M Q a b i (h.2 a) (h.2 b) (pc + 1) lv st h := by
  rw [jw_aastore hd]
  constructor
  · rintro ⟨n, g, c, ci, fs, h1, h2, h4, h3, h5, h6, hk⟩
    rw [h1, h6]
    exact ⟨h2, h5, h4, h3, hk⟩
  · rintro ⟨h2, h5, hk⟩
    match ho : h.2 a, hb : h.2 b with
    | .inl (c, n, .inr (.inr (.inr (.inr g)))), .inr (ci, fs) =>
      rw [ho, hb] at hk
      obtain ⟨h4, h3, hk⟩ := hk
      exact ⟨n, g, c, ci, fs, rfl, h2, h4, h3, h5, rfl, hk⟩
    | .inl (c, n, .inr (.inr (.inr (.inr g)))), .inl _ => rw [ho, hb] at hk; exact hk.elim
    | .inr _, _ => rw [ho, hb] at hk; exact hk.elim
    | .inl (c, n, .inl _), _ => rw [ho, hb] at hk; exact hk.elim
    | .inl (c, n, .inr (.inl _)), _ => rw [ho, hb] at hk; exact hk.elim
    | .inl (c, n, .inr (.inr (.inl _))), _ => rw [ho, hb] at hk; exact hk.elim
    | .inl (c, n, .inr (.inr (.inr (.inl _)))), _ => rw [ho, hb] at hk; exact hk.elim
theorem jv_arraylength {a : Nat} (hd : decode (jm_b M) pc = .ok (.arraylength, 1)) : jm_wp C M Q (pc, lv, .ref a :: st, h) ↔ a < h.1 ∧ jx_n C M Q (h.2 a) (pc + 1) lv st h := by
  rw [jw_arraylength hd]
  constructor
  · rintro ⟨c, n, g, h1, h2, h3, hk⟩
    rw [h1]
    exact ⟨h2, h3, hk⟩
  · rintro ⟨h2, hk⟩
    cases ho : h.2 a with
    | inr x => rw [ho] at hk; exact hk.elim
    | inl x =>
      obtain ⟨c, n, g⟩ := x
      rw [ho] at hk
      exact ⟨c, n, g, rfl, h2, hk.1, hk.2⟩
end JY
