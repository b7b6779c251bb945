/-- lots with costs in 32 bits -/
abbrev LC : Type := Nat × (Nat → Int32) × (Nat → Int32) × (Nat → Int32) × (Nat → Int32)
/-- a release with too few -/
def vlS (L : LC) (kd oa cm qt : Int32) : Bool := decide (kd = 2) && decide (suM L.2.1 L.2.2.1 L.2.2.2.1 oa cm L.1 < qt)
/-- a posting's worth and the lots behind it -/
def vlC (L : LC) (kd oa cm qt am : Int32) : Int32 × LC :=
  if kd = 1 then (am, (L.1 + 1, upd L.2.1 L.1 oa, upd L.2.2.1 L.1 cm, upd L.2.2.2.1 L.1 qt, upd L.2.2.2.2 L.1 am))
  else if kd = 2 then (-(tkC L.2.1 L.2.2.1 oa cm am L.1 (qt, 0, if am = 2 then (mgC L.2.1 L.2.2.1 oa cm L.2.2.2.1 L.2.2.2.2 L.1).2 else (L.2.2.2.1, L.2.2.2.2)) L.1).2.1,
    (L.1, L.2.1, L.2.2.1, (tkC L.2.1 L.2.2.1 oa cm am L.1 (qt, 0, if am = 2 then (mgC L.2.1 L.2.2.1 oa cm L.2.2.2.1 L.2.2.2.2 L.1).2 else (L.2.2.2.1, L.2.2.2.2)) L.1).2.2.1, (tkC L.2.1 L.2.2.1 oa cm am L.1 (qt, 0, if am = 2 then (mgC L.2.1 L.2.2.1 oa cm L.2.2.2.1 L.2.2.2.2 L.1).2 else (L.2.2.2.1, L.2.2.2.2)) L.1).2.2.2))
  else (am, L)
section
variable {C : jm_C} {Q : jm_Q} {lv : jm_L} {st : List Value} {h : jm_H}
theorem w_sw {x : Int32} {t : Nat} (ht : (4 : Int) + Op.lookupswitch.offset [(1, 28), (2, 56)] 81 x.toInt = (t : Int)) (hk : jm_wp C 51 Q (t, lv, st, h)) : jm_wp C 51 Q (4, lv, .int x :: st, h) := by
  rw [jm_wp_d w_Jo_bookPosting_4_d]
  exact Or.inl ⟨_, ⟨x, st, rfl, rfl, t, ht, rfl⟩, hk⟩
end
