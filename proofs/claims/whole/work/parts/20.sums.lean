/-! Sums of longs, and the tree of accounts. -/
def ms_s (f : Nat → Int64) : Nat → Int64
  | 0 => 0
  | n + 1 => ms_s f n + f n
theorem ms_c {f g : Nat → Int64} : ∀ {n : Nat}, (∀ i, i < n → f i = g i) → ms_s f n = ms_s g n
  | 0, _ => rfl
  | n + 1, h => by
    simp only [ms_s]
    rw [ms_c (fun i hi => h i (by omega)), h n (by omega)]
theorem ms_0 {f : Nat → Int64} : ∀ {n : Nat}, (∀ i, i < n → f i = 0) → ms_s f n = 0
  | 0, _ => rfl
  | n + 1, h => by
    simp only [ms_s]
    rw [ms_0 (fun i hi => h i (by omega)), h n (by omega)]
    rfl
theorem ms_add (f g : Nat → Int64) : ∀ n : Nat, ms_s (fun i => f i + g i) n = ms_s f n + ms_s g n
  | 0 => rfl
  | n + 1 => by
    simp only [ms_s]
    rw [ms_add f g n]
    grind
theorem ms_sub (f g : Nat → Int64) : ∀ n : Nat, ms_s (fun i => f i - g i) n = ms_s f n - ms_s g n
  | 0 => by simp [ms_s]
  | n + 1 => by
    simp only [ms_s]
    rw [ms_sub f g n]
    grind
theorem ms_mul (f : Nat → Int64) (c : Int64) : ∀ n : Nat, ms_s (fun i => f i * c) n = ms_s f n * c
  | 0 => by simp [ms_s]
  | n + 1 => by
    simp only [ms_s]
    rw [ms_mul f c n]
    grind
theorem ms_swap (f : Nat → Nat → Int64) (m : Nat) : ∀ n : Nat, ms_s (fun i => ms_s (fun j => f i j) m) n = ms_s (fun j => ms_s (fun i => f i j) n) m
  | 0 => by
    simp only [ms_s]
    exact (ms_0 (fun _ _ => rfl)).symm
  | n + 1 => by
    simp only [ms_s]
    rw [ms_swap f m n, ← ms_add]
theorem ms_one {a : Nat} {v : Int64} : ∀ n : Nat, ms_s (fun i => if i = a then v else 0) n = if a < n then v else 0
  | 0 => by simp [ms_s]
  | n + 1 => by
    simp only [ms_s]
    rw [ms_one n]
    by_cases h : n = a
    · subst h
      simp
    · by_cases h2 : a < n
      · have h3 : a < n + 1 := by omega
        simp [h, h2, h3]
      · have h3 : ¬ a < n + 1 := by omega
        simp [h, h2, h3]
theorem ms_if {p : Prop} [Decidable p] (f : Nat → Int64) (n : Nat) : ms_s (fun i => if p then f i else 0) n = if p then ms_s f n else 0 := by
  by_cases h : p
  · simp [h]
  · simp only [h, if_false]
    exact ms_0 (fun _ _ => rfl)
/-- is x the account a, or below it? p: the parents; accounts 0 to 4 have none -/
def tr_u (p : Nat → Nat) : Nat → Nat → Nat → Bool
  | 0, _, _ => false
  | f + 1, a, x => x == a || (decide (5 ≤ x) && tr_u p f a (p x))
def tr (p : Nat → Nat) (a x : Nat) : Bool := tr_u p (x + 1) a x
def tr_ok (p : Nat → Nat) (n : Nat) : Prop := ∀ j, 5 ≤ j → j < n → p j < j
theorem tr_fuel {p : Nat → Nat} {n a : Nat} (hp : tr_ok p n) : ∀ (f g x : Nat), x < n → x < f → x < g → tr_u p f a x = tr_u p g a x
  | 0, _, _, _, h, _ => by omega
  | _, 0, _, _, _, h => by omega
  | f + 1, g + 1, x, hx, h1, h2 => by
    simp only [tr_u]
    by_cases h5 : 5 ≤ x
    · have := hp x h5 hx
      rw [tr_fuel hp f g (p x) (by omega) (by omega) (by omega)]
    · simp [h5]
theorem tr_eq {p : Nat → Nat} {n a x : Nat} (hp : tr_ok p n) (hx : x < n) : tr p a x = (x == a || (decide (5 ≤ x) && tr p a (p x))) := by
  unfold tr
  conv => lhs; unfold tr_u
  by_cases h5 : 5 ≤ x
  · have := hp x h5 hx
    rw [tr_fuel hp x (p x + 1) (p x) (by omega) (by omega) (by omega)]
  · simp [h5]
theorem tr_self {p : Nat → Nat} (a : Nat) : tr p a a = true := by
  unfold tr tr_u
  simp
theorem tr_le {p : Nat → Nat} {n a : Nat} (hp : tr_ok p n) : ∀ (k x : Nat), x < k → x < n → tr p a x = true → a ≤ x
  | 0, _, h, _, _ => by omega
  | k + 1, x, h, hx, ht => by
    rw [tr_eq hp hx] at ht
    by_cases hxa : x = a
    · omega
    · by_cases h5 : 5 ≤ x
      · have h6 := hp x h5 hx
        have : tr p a (p x) = true := by simpa [hxa, h5] using ht
        have := tr_le hp k (p x) (by omega) (by omega) this
        omega
      · simp [hxa, h5] at ht
theorem tr_T {p : Nat → Nat} {n b x : Nat} {v : Int64} (hp : tr_ok p n) (hx : x < n) (h5 : 5 ≤ x) :
    ms_s (fun j => if 5 ≤ j ∧ p j = b ∧ tr p j x = true then v else 0) n = (if p x = b then v else 0) + ms_s (fun j => if 5 ≤ j ∧ p j = b ∧ tr p j (p x) = true then v else 0) n := by
  have h6 := hp x h5 hx
  have e : ∀ j, j < n → (if 5 ≤ j ∧ p j = b ∧ tr p j x = true then v else 0) = (if j = x then (if p x = b then v else 0) else 0) + (if 5 ≤ j ∧ p j = b ∧ tr p j (p x) = true then v else 0) := by
    intro j hj
    by_cases hjx : j = x
    · subst hjx
      have h7 : ¬ tr p j (p j) = true := fun h => by
        have := tr_le hp (p j + 1) (p j) (by omega) (by omega) h
        omega
      by_cases hb : p j = b
      · simp [tr_self, h5, hb]
        intro h
        rw [hb] at h7
        exact absurd h h7
      · simp [hb]
    · have h8 : tr p j x = tr p j (p x) := by
        rw [tr_eq hp hx]
        have : ¬ x = j := fun h => hjx h.symm
        simp [this, h5]
      rw [h8]
      simp [hjx]
  rw [ms_c e, ms_add, ms_one]
  simp [hx]
theorem tr_split {p : Nat → Nat} {n b : Nat} {v : Int64} (hp : tr_ok p n) : ∀ (k x : Nat), x < k → x < n →
    (if tr p b x = true then v else 0) = (if x = b then v else 0) + ms_s (fun j => if 5 ≤ j ∧ p j = b ∧ tr p j x = true then v else 0) n
  | 0, _, h, _ => by omega
  | k + 1, x, hk, hx => by
    by_cases h5 : 5 ≤ x
    · have h6 := hp x h5 hx
      have ih := tr_split (b := b) (v := v) hp k (p x) (by omega) (by omega)
      rw [tr_T hp hx h5]
      by_cases hxb : x = b
      · subst hxb
        have h7 : ¬ tr p x (p x) = true := fun h => by
          have := tr_le hp (p x + 1) (p x) (by omega) (by omega) h
          omega
        have h8 : ¬ p x = x := by omega
        rw [if_neg h7, if_neg h8] at ih
        rw [if_neg h8, ← ih, tr_self]
        simp
      · have h9 : tr p b x = tr p b (p x) := by
          rw [tr_eq hp hx]
          simp [hxb, h5]
        rw [h9, ih]
        simp [hxb]
    · have h0 : ms_s (fun j => if 5 ≤ j ∧ p j = b ∧ tr p j x = true then v else 0) n = 0 := by
        refine ms_0 (fun j hj => ?_)
        by_cases hj5 : 5 ≤ j
        · have : tr p j x = false := by
            rw [tr_eq hp hx]
            have : ¬ x = j := by omega
            simp [this, h5]
          simp [this]
        · simp [hj5]
      rw [h0]
      have : tr p b x = (x == b) := by
        rw [tr_eq hp hx]
        simp [h5]
      rw [this]
      by_cases hxb : x = b
      · simp [hxb]
      · simp [hxb]
/-- the balance of an account with those below it -/
def tr_S (p : Nat → Nat) (n : Nat) (o : Nat → Int64) (b : Nat) : Int64 := ms_s (fun x => if tr p b x = true then o x else 0) n
theorem tr_S_eq {p : Nat → Nat} {n b : Nat} {o : Nat → Int64} (hp : tr_ok p n) (hb : b < n) : tr_S p n o b = o b + ms_s (fun j => if 5 ≤ j ∧ p j = b then tr_S p n o j else 0) n := by
  unfold tr_S
  have e1 : ∀ x, x < n → (if tr p b x = true then o x else 0) = (if x = b then o b else 0) + ms_s (fun j => if 5 ≤ j ∧ p j = b ∧ tr p j x = true then o x else 0) n := by
    intro x hx
    rw [tr_split hp (x + 1) x (by omega) hx]
    by_cases h : x = b
    · subst h
      rfl
    · simp [h]
  rw [ms_c e1, ms_add, ms_one, if_pos hb, ms_swap]
  congr 1
  refine ms_c (fun j hj => ?_)
  by_cases h : 5 ≤ j ∧ p j = b
  · rw [if_pos h]
    refine ms_c (fun x hx => ?_)
    by_cases ht : tr p j x = true
    · simp [h, ht]
    · simp [ht]
  · rw [if_neg h]
    refine ms_0 (fun x hx => ?_)
    rw [if_neg]
    intro hh
    exact h ⟨hh.1, hh.2.1⟩
