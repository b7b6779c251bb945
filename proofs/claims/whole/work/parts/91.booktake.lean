/-- the cost of a lot that is there -/
def lvk (q k : Nat → Int32) (l : Nat) : Int := if 0 < (q l).toInt then (k l).toInt else 0
def bd (N : Nat) (q k : Nat → Int32) (Q K : Int) : Prop := (∀ l, l < N → 0 ≤ (q l).toInt ∧ (0 < (q l).toInt → 0 ≤ (k l).toInt)) ∧ sI (fun l => (q l).toInt) N = Q ∧ sI (lvk q k) N = K
/-- the same lots on both sides -/
def sm (N : Nat) (lo lc q k lo' lc' q' : Nat → Int32) (k' : Nat → Int64) : Prop := ∀ l, l < N → lo' l = lo l ∧ lc' l = lc l ∧ q' l = q l ∧ k' l = (k l).toInt64
theorem lvk_nn {N : Nat} {q k : Nat → Int32} (h : ∀ l, l < N → 0 ≤ (q l).toInt ∧ (0 < (q l).toInt → 0 ≤ (k l).toInt)) : ∀ l, l < N → 0 ≤ lvk q k l := fun l hl => by
  unfold lvk
  split
  · next h1 => exact (h l hl).2 h1
  · exact Int.le_refl 0
theorem lt_is_c {lo lc q lo' lc' q' : Nat → Int32} {a w : Int32} {l : Nat} (h1 : lo' l = lo l) (h2 : lc' l = lc l) (h3 : q' l = q l) : lt_is lo' lc' q' a w l = lt_is lo lc q a w l := by
  unfold lt_is
  rw [h1, h2, h3]
theorem lt_is_q {lo lc q : Nat → Int32} {a w : Int32} {l : Nat} (h : lt_is lo lc q a w l = true) : 0 < (q l).toInt := by
  unfold lt_is at h
  have := (of_decide_eq_true h).2.2
  rw [Int32.lt_iff_toInt_lt] at this
  exact this
section
variable {N : Nat} {lo lc q k lo' lc' q' : Nat → Int32} {k' : Nat → Int64} {a w : Int32} {Q K : Int}
theorem mg_eq (hs : sm N lo lc q k lo' lc' q' k') (hb : bd N q k Q K) (hQ : Q ≤ 240000) (hK : K ≤ 240000000) : ∀ i, i ≤ N →
    (mgI lo' lc' a w q' k' i).1 = (mgC lo lc a w q k i).1 ∧
    sm N lo lc (mgC lo lc a w q k i).2.1 (mgC lo lc a w q k i).2.2 lo' lc' (mgI lo' lc' a w q' k' i).2.1 (mgI lo' lc' a w q' k' i).2.2 ∧
    bd N (mgC lo lc a w q k i).2.1 (mgC lo lc a w q k i).2.2 Q K ∧
    ∀ b, (mgC lo lc a w q k i).1 = some b → b < i ∧ 0 < ((mgC lo lc a w q k i).2.1 b).toInt
  | 0, _ => ⟨rfl, hs, hb, fun b h => by cases h⟩
  | i + 1, hi => by
    obtain ⟨h1, h2, h3, h4⟩ := mg_eq hs hb hQ hK i (by omega)
    rw [mgI, mgC]
    generalize mgI lo' lc' a w q' k' i = S at h1 h2 ⊢
    generalize mgC lo lc a w q k i = T at h1 h2 h3 h4 ⊢
    obtain ⟨So, Sq, Sk⟩ := S
    obtain ⟨To, Tq, Tk⟩ := T
    dsimp only at h1 h2 h3 h4 ⊢
    subst h1
    unfold mg1 mg1c
    dsimp only
    have hi1 := h2 i (by omega)
    rw [lt_is_c hi1.1 hi1.2.1 hi1.2.2.1]
    split
    · next hl =>
      have hqi := lt_is_q hl
      cases hT : So with
      | none =>
        dsimp only
        refine ⟨rfl, h2, h3, fun b hb2 => ?_⟩
        cases hb2
        exact ⟨by omega, hqi⟩
      | some b =>
        dsimp only
        obtain ⟨hbi, hqb⟩ := h4 b hT
        have hbN : b < N := by omega
        have hbne : b ≠ i := by omega
        obtain ⟨g1, g2, g3⟩ := h3
        have gk := lvk_nn g1
        have sq := sI_ge2 (f := fun l => (Tq l).toInt) (fun l hl => (g1 l hl).1) hbi (show i < N by omega)
        have sk := sI_ge2 (f := lvk Tq Tk) gk hbi (show i < N by omega)
        have lb : lvk Tq Tk b = (Tk b).toInt := if_pos hqb
        have li : lvk Tq Tk i = (Tk i).toInt := if_pos hqi
        have kb0 := (g1 b hbN).2 hqb
        have ki0 := (g1 i (by omega)).2 hqi
        rw [g2] at sq
        rw [g3, lb, li] at sk
        try dsimp only at sq
        have eq1 : (Tq b + Tq i).toInt = (Tq b).toInt + (Tq i).toInt := i32_add (by omega) (by omega)
        have ek1 : (Tk b + Tk i).toInt = (Tk b).toInt + (Tk i).toInt := i32_add (by omega) (by omega)
        have uq : ∀ l, upd (upd Tq b (Tq b + Tq i)) i 0 l = if l = i then 0 else if l = b then Tq b + Tq i else Tq l := fun l => rfl
        have uk : ∀ l, upd Tk b (Tk b + Tk i) l = if l = b then Tk b + Tk i else Tk l := fun l => rfl
        refine ⟨rfl, ?_, ⟨?_, ?_, ?_⟩, ?_⟩
        · intro l hl2
          obtain ⟨e1, e2, e3, e4⟩ := h2 l hl2
          refine ⟨e1, e2, ?_, ?_⟩
          · show (if l = i then (0 : Int32) else if l = b then Sq b + Sq i else Sq l) = if l = i then 0 else if l = b then Tq b + Tq i else Tq l
            rw [e3, (h2 b hbN).2.2.1, hi1.2.2.1]
          · show (if l = b then Sk b + Sk i else Sk l) = (if l = b then Tk b + Tk i else Tk l).toInt64
            split
            · rw [t64_add (by omega) (by omega), (h2 b hbN).2.2.2, hi1.2.2.2]
            · exact e4
        · intro l hl2
          rw [uq, uk]
          by_cases e : l = i
          · rw [if_pos e]; exact ⟨by decide, fun h => absurd h (by decide)⟩
          · rw [if_neg e]
            by_cases e2 : l = b
            · rw [if_pos e2, if_pos e2, eq1, ek1]; exact ⟨by omega, fun _ => by omega⟩
            · rw [if_neg e2, if_neg e2]; exact g1 l hl2
        · have := sI_2 (f := fun l => (upd (upd Tq b (Tq b + Tq i)) i 0 l).toInt) (g := fun l => (Tq l).toInt) hbN (show i < N by omega) hbne (fun l _ n1 n2 => by
            show (upd (upd Tq b (Tq b + Tq i)) i 0 l).toInt = (Tq l).toInt
            rw [uq, if_neg n2, if_neg n1])
          try dsimp only at this
          rw [uq, uq, if_neg hbne, if_pos rfl, if_pos rfl, eq1, g2, Int32.toInt_zero] at this
          omega
        · have := sI_2 (f := lvk (upd (upd Tq b (Tq b + Tq i)) i 0) (upd Tk b (Tk b + Tk i))) (g := lvk Tq Tk) hbN (show i < N by omega) hbne (fun l _ n1 n2 => by
            unfold lvk
            rw [uq, uk, if_neg n2, if_neg n1, if_neg n1])
          rw [lb, li, g3] at this
          have f1 : lvk (upd (upd Tq b (Tq b + Tq i)) i 0) (upd Tk b (Tk b + Tk i)) b = (Tk b).toInt + (Tk i).toInt := by
            unfold lvk
            rw [uq, uk, if_neg hbne, if_pos rfl, if_pos rfl, eq1, ek1, if_pos (by omega)]
          have f2 : lvk (upd (upd Tq b (Tq b + Tq i)) i 0) (upd Tk b (Tk b + Tk i)) i = 0 := by
            unfold lvk
            rw [uq, if_pos rfl]
            exact if_neg (by decide)
          omega
        · intro b' hb'
          cases hb'
          refine ⟨by omega, ?_⟩
          rw [uq, if_neg hbne, if_pos rfl, eq1]
          omega
    · exact ⟨rfl, h2, h3, fun b hb2 => ⟨by have := (h4 b hb2).1; omega, (h4 b hb2).2⟩⟩
theorem tk_eq {how u : Int32} (hs : sm N lo lc q k lo' lc' q' k') (hb : bd N q k Q K) (hQ : Q ≤ 240000) (hK : K ≤ 240000000) (hu : 0 ≤ u.toInt) : ∀ i, i ≤ N →
    (tkI lo' lc' a w how N (u, 0, q', k') i).1 = (tkC lo lc a w how N (u, 0, q, k) i).1 ∧ 0 ≤ (tkC lo lc a w how N (u, 0, q, k) i).1.toInt ∧
    (tkI lo' lc' a w how N (u, 0, q', k') i).2.1 = (tkC lo lc a w how N (u, 0, q, k) i).2.1.toInt64 ∧ 0 ≤ (tkC lo lc a w how N (u, 0, q, k) i).2.1.toInt ∧
    sm N lo lc (tkC lo lc a w how N (u, 0, q, k) i).2.2.1 (tkC lo lc a w how N (u, 0, q, k) i).2.2.2 lo' lc' (tkI lo' lc' a w how N (u, 0, q', k') i).2.2.1 (tkI lo' lc' a w how N (u, 0, q', k') i).2.2.2 ∧
    ∃ Q1 K1, bd N (tkC lo lc a w how N (u, 0, q, k) i).2.2.1 (tkC lo lc a w how N (u, 0, q, k) i).2.2.2 Q1 K1 ∧ Q1 ≤ Q ∧ K1 + (tkC lo lc a w how N (u, 0, q, k) i).2.1.toInt = K
  | 0, _ => ⟨rfl, hu, rfl, show 0 ≤ (0 : Int32).toInt by decide, hs, Q, K, hb, Int.le_refl Q, by show K + (0 : Int32).toInt = K; rw [Int32.toInt_zero]; omega⟩
  | i + 1, hi => by
    obtain ⟨h1, h2, h3, h4, h5, Q1, K1, h6, h7, h8⟩ := tk_eq hs hb hQ hK hu i (by omega)
    rw [tkI, tkC]
    generalize tkI lo' lc' a w how N (u, 0, q', k') i = S at h1 h3 h5 ⊢
    generalize tkC lo lc a w how N (u, 0, q, k) i = T at h1 h2 h3 h4 h5 h6 h8 ⊢
    obtain ⟨Sl, Sc, Sq, Sk⟩ := S
    obtain ⟨Tl, Tc, Tq, Tk⟩ := T
    dsimp only at h1 h2 h3 h4 h5 h6 h8 ⊢
    subst h1
    by_cases hl : 0 < Sl
    · rw [if_pos hl, if_pos hl]
      have hl' : 0 < Sl.toInt := by
        rw [Int32.lt_iff_toInt_lt] at hl; exact hl
      have hx : tkx how N i < N := by
        unfold tkx
        split <;> omega
      generalize tkx how N i = l at hx
      unfold tk1 tk1c
      dsimp only
      obtain ⟨e1, e2, e3, e4⟩ := h5 l hx
      rw [lt_is_c e1 e2 e3]
      split
      · next his =>
        have hq := lt_is_q his
        obtain ⟨g1, g2, g3⟩ := h6
        have gk := lvk_nn g1
        have sq := sI_ge (f := fun l => (Tq l).toInt) (fun l hl => (g1 l hl).1) hx
        have sk := sI_ge (f := lvk Tq Tk) gk hx
        have lb : lvk Tq Tk l = (Tk l).toInt := if_pos hq
        have k0 := (g1 l hx).2 hq
        rw [g2] at sq
        rw [g3, lb] at sk
        try dsimp only at sq
        rw [tkm_eq, e3, e4]
        obtain ⟨m1, m2, m3⟩ := tkm_v (l := Sl) (q := Tq l) hl' hq
        generalize tkm Sl (Tq l) = M at m1 m2 m3
        obtain ⟨c1, c2, c3⟩ := cut_ok (k := Tk l) (m := M) (q := Tq l) k0 (by omega) m1 m2 (by omega)
        rw [← c1]
        have c9 : M = Tq l → (tkcC M (Tq l) (Tk l)).toInt = (Tk l).toInt := fun e => by
          have := congrArg Int64.toInt c1
          rw [Int32.toInt_toInt64] at this
          rw [this]
          unfold tkc
          rw [if_pos e, Int32.toInt_toInt64]
        generalize tkcC M (Tq l) (Tk l) = c at c1 c2 c3 c9
        have eq1 : (Tq l - M).toInt = (Tq l).toInt - M.toInt := i32_sub (by omega) (by omega)
        have ek1 : (Tk l - c).toInt = (Tk l).toInt - c.toInt := i32_sub (by omega) (by omega)
        have el1 : (Sl - M).toInt = Sl.toInt - M.toInt := i32_sub (by omega) (by have := Int32.toInt_lt Sl; omega)
        have ec1 : (Tc + c).toInt = Tc.toInt + c.toInt := i32_add (by omega) (by omega)
        have uq : ∀ j, upd Tq l (Tq l - M) j = if j = l then Tq l - M else Tq j := fun j => rfl
        have uk : ∀ j, upd Tk l (Tk l - c) j = if j = l then Tk l - c else Tk j := fun j => rfl
        have c10 : (Tq l).toInt - M.toInt = 0 → c.toInt = (Tk l).toInt := fun e => c9 (Int32.toInt.inj (by omega))
        dsimp only
        refine ⟨rfl, by omega, ?_, by omega, ?_, Q1 - M.toInt, K1 - c.toInt, ⟨?_, ?_, ?_⟩, by omega, by omega⟩
        · rw [h3, t64_add (by omega) (by omega)]
        · intro j hj
          obtain ⟨d1, d2, d3, d4⟩ := h5 j hj
          refine ⟨d1, d2, ?_, ?_⟩
          · show (if j = l then Tq l - M else Sq j) = if j = l then Tq l - M else Tq j
            rw [d3]
          · show (if j = l then (Tk l).toInt64 - c.toInt64 else Sk j) = (if j = l then Tk l - c else Tk j).toInt64
            split
            · rw [t64_sub (by omega) (by omega)]
            · exact d4
        · intro j hj
          rw [uq, uk]
          by_cases e : j = l
          · rw [if_pos e, if_pos e, eq1, ek1]
            exact ⟨by omega, fun _ => by omega⟩
          · rw [if_neg e, if_neg e]; exact g1 j hj
        · have := sI_1 (f := fun j => (upd Tq l (Tq l - M) j).toInt) (g := fun j => (Tq j).toInt) hx (fun j _ n1 => by
            show (upd Tq l (Tq l - M) j).toInt = (Tq j).toInt
            rw [uq, if_neg n1])
          try dsimp only at this
          rw [uq, if_pos rfl, eq1, g2] at this
          omega
        · have := sI_1 (f := lvk (upd Tq l (Tq l - M)) (upd Tk l (Tk l - c))) (g := lvk Tq Tk) hx (fun j _ n1 => by
            unfold lvk
            rw [uq, uk, if_neg n1, if_neg n1])
          have f1 : lvk (upd Tq l (Tq l - M)) (upd Tk l (Tk l - c)) l = (Tk l).toInt - c.toInt := by
            unfold lvk
            rw [uq, uk, if_pos rfl, if_pos rfl, eq1, ek1]
            split
            · rfl
            · have := c10 (by omega)
              omega
          omega
      · exact ⟨rfl, h2, h3, h4, h5, Q1, K1, h6, h7, h8⟩
    · rw [if_neg hl, if_neg hl]
      exact ⟨rfl, h2, h3, h4, h5, Q1, K1, h6, h7, h8⟩
theorem su_eq (hs : sm N lo lc q k lo' lc' q' k') : ∀ i, i ≤ N → suM lo' lc' q' a w i = suM lo lc q a w i
  | 0, _ => rfl
  | i + 1, hi => by
    have h := hs i (by omega)
    rw [suM, suM, su_eq hs i (by omega), lt_is_c h.1 h.2.1 h.2.2.1, h.2.2.1]
end
