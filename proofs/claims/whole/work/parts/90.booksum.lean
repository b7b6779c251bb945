/-- sums of whole numbers -/
def sI (f : Nat → Int) : Nat → Int
  | 0 => 0
  | n + 1 => sI f n + f n
theorem sI_c {f g : Nat → Int} : ∀ {n : Nat}, (∀ i, i < n → f i = g i) → sI f n = sI g n
  | 0, _ => rfl
  | n + 1, h => by rw [sI, sI, sI_c (fun i hi => h i (by omega)), h n (by omega)]
theorem sI_1 {f g : Nat → Int} {b : Nat} : ∀ {n : Nat}, b < n → (∀ i, i < n → i ≠ b → f i = g i) → sI f n + g b = sI g n + f b
  | 0, h, _ => by omega
  | n + 1, h, he => by
    rw [sI, sI]
    by_cases hb : b = n
    · subst hb
      rw [sI_c (fun i hi => he i (by omega) (by omega))]
      omega
    · have := sI_1 (n := n) (by omega) (fun i hi => he i (by omega))
      rw [he n (by omega) (by omega)]
      omega
theorem sI_2 {f g : Nat → Int} {b l n : Nat} (hb : b < n) (hl : l < n) (hbl : b ≠ l) (h : ∀ i, i < n → i ≠ b → i ≠ l → f i = g i) : sI f n + g b + g l = sI g n + f b + f l := by
  have h1 := sI_1 (f := f) (g := fun i => if i = b then f b else g i) (b := l) (n := n) hl (fun i hi h2 => by
    by_cases e : i = b
    · rw [if_pos e, e]
    · rw [if_neg e]; exact h i hi e h2)
  have h2 := sI_1 (f := fun i => if i = b then f b else g i) (g := g) (b := b) (n := n) hb (fun i hi h2 => if_neg h2)
  rw [if_pos rfl] at h2
  rw [if_neg (fun e => hbl e.symm)] at h1
  omega
theorem sI_nn {f : Nat → Int} : ∀ {n : Nat}, (∀ i, i < n → 0 ≤ f i) → 0 ≤ sI f n
  | 0, _ => by rw [sI]; omega
  | n + 1, h => by
    rw [sI]
    have := sI_nn (n := n) (fun i hi => h i (by omega))
    have := h n (by omega)
    omega
theorem sI_ge {f : Nat → Int} : ∀ {n b : Nat}, (∀ i, i < n → 0 ≤ f i) → b < n → f b ≤ sI f n
  | 0, _, _, h => by omega
  | n + 1, b, h, hb => by
    rw [sI]
    by_cases e : b = n
    · subst e
      have := sI_nn (n := b) (fun i hi => h i (by omega))
      omega
    · have := sI_ge (n := n) (fun i hi => h i (by omega)) (show b < n by omega)
      have := h n (by omega)
      omega
theorem sI_ge2 {f : Nat → Int} : ∀ {n b l : Nat}, (∀ i, i < n → 0 ≤ f i) → b < l → l < n → f b + f l ≤ sI f n
  | 0, _, _, _, _, h => by omega
  | n + 1, b, l, h, hb, hl => by
    rw [sI]
    by_cases e : l = n
    · subst e
      have := sI_ge (n := l) (fun i hi => h i (by omega)) hb
      omega
    · have := sI_ge2 (n := n) (fun i hi => h i (by omega)) hb (show l < n by omega)
      have := h n (by omega)
      omega
/-- whole numbers of 32 and 64 bits -/
theorem i32_add {x y : Int32} (h1 : -2147483648 ≤ x.toInt + y.toInt) (h2 : x.toInt + y.toInt < 2147483648) : (x + y).toInt = x.toInt + y.toInt := by
  rw [Int32.toInt_add]
  exact Int.bmod_eq_of_le (by omega) (by omega)
theorem i32_sub {x y : Int32} (h1 : -2147483648 ≤ x.toInt - y.toInt) (h2 : x.toInt - y.toInt < 2147483648) : (x - y).toInt = x.toInt - y.toInt := by
  rw [Int32.toInt_sub]
  exact Int.bmod_eq_of_le (by omega) (by omega)
theorem i32_neg {x : Int32} (h1 : -2147483648 < x.toInt) : (-x).toInt = -x.toInt := by
  have := Int32.toInt_lt x
  rw [Int32.toInt_neg]
  exact Int.bmod_eq_of_le (by omega) (by omega)
theorem i64_add {x y : Int64} (h1 : -9223372036854775808 ≤ x.toInt + y.toInt) (h2 : x.toInt + y.toInt < 9223372036854775808) : (x + y).toInt = x.toInt + y.toInt := by
  rw [Int64.toInt_add]
  exact Int.bmod_eq_of_le (by omega) (by omega)
theorem i64_sub {x y : Int64} (h1 : -9223372036854775808 ≤ x.toInt - y.toInt) (h2 : x.toInt - y.toInt < 9223372036854775808) : (x - y).toInt = x.toInt - y.toInt := by
  rw [Int64.toInt_sub]
  exact Int.bmod_eq_of_le (by omega) (by omega)
theorem i64_mul {x y : Int64} (h1 : -9223372036854775808 ≤ x.toInt * y.toInt) (h2 : x.toInt * y.toInt < 9223372036854775808) : (x * y).toInt = x.toInt * y.toInt := by
  rw [Int64.toInt_mul]
  exact Int.bmod_eq_of_le (by omega) (by omega)
theorem t64_add {x y : Int32} (h1 : -2147483648 ≤ x.toInt + y.toInt) (h2 : x.toInt + y.toInt < 2147483648) : (x + y).toInt64 = x.toInt64 + y.toInt64 := by
  apply Int64.toInt.inj
  rw [Int32.toInt_toInt64, i32_add h1 h2, i64_add (by rw [Int32.toInt_toInt64, Int32.toInt_toInt64]; omega) (by rw [Int32.toInt_toInt64, Int32.toInt_toInt64]; omega), Int32.toInt_toInt64, Int32.toInt_toInt64]
theorem t64_sub {x y : Int32} (h1 : -2147483648 ≤ x.toInt - y.toInt) (h2 : x.toInt - y.toInt < 2147483648) : (x - y).toInt64 = x.toInt64 - y.toInt64 := by
  apply Int64.toInt.inj
  rw [Int32.toInt_toInt64, i32_sub h1 h2, i64_sub (by rw [Int32.toInt_toInt64, Int32.toInt_toInt64]; omega) (by rw [Int32.toInt_toInt64, Int32.toInt_toInt64]; omega), Int32.toInt_toInt64, Int32.toInt_toInt64]
theorem t64_neg {x : Int32} (h1 : -2147483648 < x.toInt) : (-x).toInt64 = -x.toInt64 := by
  have h2 := Int32.toInt_lt x
  apply Int64.toInt.inj
  rw [Int32.toInt_toInt64, i32_neg h1, Int64.toInt_neg, Int32.toInt_toInt64]
  exact (Int.bmod_eq_of_le (by omega) (by omega)).symm
/-- the part of a cost -/
theorem cut_ok {k m q : Int32} (hk : 0 ≤ k.toInt) (hk2 : k.toInt ≤ 240000000) (hm : 0 < m.toInt) (hmq : m.toInt ≤ q.toInt) (hq : q.toInt ≤ 240000) :
    (tkcC m q k).toInt64 = tkc m q k.toInt64 ∧ 0 ≤ (tkcC m q k).toInt ∧ (tkcC m q k).toInt ≤ k.toInt := by
  have hp0 : 0 ≤ k.toInt * m.toInt := Int.mul_nonneg hk (by omega)
  have hp1 : k.toInt * m.toInt ≤ 240000000 * 240000 := Int.mul_le_mul hk2 (by omega) (by omega) (by omega)
  have hp2 : k.toInt * m.toInt ≤ k.toInt * q.toInt := Int.mul_le_mul_of_nonneg_left hmq hk
  have e1 : (k.toInt64 * m.toInt64).toInt = k.toInt * m.toInt := by
    rw [i64_mul (by rw [Int32.toInt_toInt64, Int32.toInt_toInt64]; omega) (by rw [Int32.toInt_toInt64, Int32.toInt_toInt64]; omega), Int32.toInt_toInt64, Int32.toInt_toInt64]
  have d0 : 0 ≤ k.toInt * m.toInt / q.toInt := Int.ediv_nonneg hp0 (by omega)
  have d1 : k.toInt * m.toInt / q.toInt ≤ k.toInt := by
    apply Int.ediv_le_of_le_mul (by omega) hp2
  have e2 : (k.toInt64 * m.toInt64 / q.toInt64).toInt = k.toInt * m.toInt / q.toInt := by
    rw [Int64.toInt_div, e1, Int32.toInt_toInt64, Int.tdiv_eq_ediv_of_nonneg hp0]
    exact Int.bmod_eq_of_le (by omega) (by omega)
  have e3 : (tkcC m q k).toInt = k.toInt * m.toInt / q.toInt := by
    unfold tkcC
    rw [Int64.toInt_toInt32, e2]
    exact Int.bmod_eq_of_le (by omega) (by omega)
  refine ⟨?_, by omega, by omega⟩
  apply Int64.toInt.inj
  rw [Int32.toInt_toInt64, e3]
  unfold tkc
  split
  · next h =>
    subst h
    rw [Int32.toInt_toInt64, Int.mul_ediv_cancel _ (by omega)]
  · rw [e2]
theorem tkm_eq (l q : Int32) : tkmC l q = tkm l q := by
  unfold tkmC tkm
  by_cases h : q < l
  · rw [if_pos h, if_pos (Int32.le_of_lt h)]
  · rw [if_neg h]
    split
    · next h2 => exact Int32.le_antisymm (Int32.not_lt.mp h) h2
    · rfl
theorem tkm_v {l q : Int32} (hl : 0 < l.toInt) (hq : 0 < q.toInt) : 0 < (tkm l q).toInt ∧ (tkm l q).toInt ≤ q.toInt ∧ (tkm l q).toInt ≤ l.toInt := by
  unfold tkm
  split
  · next h => rw [Int32.le_iff_toInt_le] at h; omega
  · next h => rw [Int32.le_iff_toInt_le] at h; omega
