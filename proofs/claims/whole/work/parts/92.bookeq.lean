/-- a posting as the document allows it -/
def pk_ok (kd qt am : Int32) : Prop := (kd = 0 ∧ -1000000 ≤ am.toInt ∧ am.toInt ≤ 1000000) ∨ (kd = 1 ∧ 1 ≤ qt.toInt ∧ qt.toInt ≤ 1000 ∧ 0 ≤ am.toInt ∧ am.toInt ≤ 1000000) ∨ (kd = 2 ∧ 1 ≤ qt.toInt ∧ qt.toInt ≤ 1000) ∨ (kd = 3 ∧ am = 0)
/-- the same lots on both sides, after at most B postings -/
def LTR (L : LC) (L' : LT) (B : Nat) : Prop := L'.1 = L.1 ∧ L.1 ≤ B ∧ sm L.1 L.2.1 L.2.2.1 L.2.2.2.1 L.2.2.2.2 L'.2.1 L'.2.2.1 L'.2.2.2.1 L'.2.2.2.2 ∧ ∃ Q K, bd L.1 L.2.2.2.1 L.2.2.2.2 Q K ∧ Q ≤ 1000 * B ∧ K ≤ 1000000 * B
theorem LTR_mono {L : LC} {L' : LT} {B C : Nat} (h : LTR L L' B) (hB : B ≤ C) : LTR L L' C := by
  obtain ⟨h1, h2, h3, Q, K, h4, h5, h6⟩ := h
  exact ⟨h1, by omega, h3, Q, K, h4, by omega, by omega⟩
theorem LTR_0 (x : (Nat → Int32) × (Nat → Int32) × (Nat → Int32) × (Nat → Int32)) (y : (Nat → Int32) × (Nat → Int32) × (Nat → Int32) × (Nat → Int64)) : LTR (0, x) (0, y) 0 :=
  ⟨rfl, Nat.le_refl 0, fun l hl => absurd hl (Nat.not_lt_zero l), 0, 0, ⟨fun l hl => absurd hl (Nat.not_lt_zero l), rfl, rfl⟩, by omega, by omega⟩
theorem vl_eq {L : LC} {L' : LT} {B : Nat} {kd oa cm qt am : Int32} (hL : LTR L L' B) (hB : B < 240) (hp : pk_ok kd qt am) :
    (vlS L kd oa cm qt = true ∧ vlM L' kd oa cm qt am = none) ∨
    (vlS L kd oa cm qt = false ∧ ∃ v' L2, vlM L' kd oa cm qt am = some (v', L2) ∧ v' = (vlC L kd oa cm qt am).1.toInt64 ∧ LTR (vlC L kd oa cm qt am).2 L2 (B + 1) ∧ -240000000 ≤ (vlC L kd oa cm qt am).1.toInt ∧ (vlC L kd oa cm qt am).1.toInt ≤ 240000000) := by
  have n02 : ¬ (0 : Int32) = 2 := by decide
  have n01 : ¬ (0 : Int32) = 1 := by decide
  have n12 : ¬ (1 : Int32) = 2 := by decide
  have n10 : ¬ (1 : Int32) = 0 := by decide
  have n20 : ¬ (2 : Int32) = 0 := by decide
  have n21 : ¬ (2 : Int32) = 1 := by decide
  have n30 : ¬ (3 : Int32) = 0 := by decide
  have n31 : ¬ (3 : Int32) = 1 := by decide
  have n32 : ¬ (3 : Int32) = 2 := by decide
  rcases hp with ⟨rfl, a1, a2⟩ | ⟨rfl, q1, q2, a1, a2⟩ | ⟨rfl, q1, q2⟩ | ⟨rfl, rfl⟩
  · refine .inr ⟨by unfold vlS; rw [decide_eq_false n02]; rfl, am.toInt64, L', by unfold vlM; rw [if_pos rfl], ?_, ?_, ?_⟩
    · unfold vlC; rw [if_neg n01, if_neg n02]
    · unfold vlC; rw [if_neg n01, if_neg n02]; exact LTR_mono hL (by omega)
    · unfold vlC; rw [if_neg n01, if_neg n02]; dsimp only; exact ⟨by omega, by omega⟩
  · refine .inr ⟨by unfold vlS; rw [decide_eq_false n12]; rfl, am.toInt64, _, by unfold vlM; rw [if_neg n10, if_pos rfl], ?_, ?_, ?_⟩
    · unfold vlC; rw [if_pos rfl]
    · unfold vlC; rw [if_pos rfl]
      obtain ⟨N, lo, lc, lq, lk⟩ := L
      obtain ⟨N', lo', lc', lq', lk'⟩ := L'
      obtain ⟨h1, h2, h3, Q, K, ⟨h4, h5, h6⟩, h7, h8⟩ := hL
      dsimp only at h1 h2 h3 h4 h5 h6 ⊢
      subst h1
      refine ⟨rfl, by dsimp only; omega, ?_, Q + qt.toInt, K + am.toInt, ⟨?_, ?_, ?_⟩, by omega, by omega⟩
      · intro l hl
        dsimp only at hl ⊢
        show (if l = N' then oa else lo' l) = (if l = N' then oa else lo l) ∧ (if l = N' then cm else lc' l) = (if l = N' then cm else lc l) ∧ (if l = N' then qt else lq' l) = (if l = N' then qt else lq l) ∧ (if l = N' then am.toInt64 else lk' l) = (if l = N' then am else lk l).toInt64
        by_cases e : l = N'
        · simp only [if_pos e, and_self]
        · simp only [if_neg e]
          exact h3 l (by omega)
      · intro l hl
        dsimp only at hl ⊢
        show 0 ≤ (if l = N' then qt else lq l).toInt ∧ (0 < (if l = N' then qt else lq l).toInt → 0 ≤ (if l = N' then am else lk l).toInt)
        by_cases e : l = N'
        · simp only [if_pos e]; exact ⟨by omega, fun _ => by omega⟩
        · simp only [if_neg e]; exact h4 l (by omega)
      · dsimp only
        rw [sI, ← h5]
        rw [sI_c (g := fun l => (lq l).toInt) (fun l hl => by rw [pk_un (show l ≠ N' by omega)])]
        try dsimp only
        rw [pk_us]
      · dsimp only
        rw [sI, ← h6]
        rw [sI_c (g := lvk lq lk) (fun l hl => by unfold lvk; rw [pk_un (show l ≠ N' by omega), pk_un (show l ≠ N' by omega)])]
        have : lvk (upd lq N' qt) (upd lk N' am) N' = am.toInt := by
          unfold lvk
          rw [pk_us, pk_us, if_pos (by omega)]
        rw [this]
    · unfold vlC; rw [if_pos rfl]; exact ⟨by dsimp only; omega, by dsimp only; omega⟩
  · obtain ⟨N, lo, lc, lq, lk⟩ := L
    obtain ⟨N', lo', lc', lq', lk'⟩ := L'
    obtain ⟨h1, h2, h3, Q, K, h4, h7, h8⟩ := hL
    dsimp only at h1 h2 h3 h4
    subst h1
    unfold vlS vlM vlC tkR
    dsimp only
    rw [if_neg n20, if_neg n21, if_pos rfl, if_neg n21, if_pos rfl, su_eq h3 N' (Nat.le_refl _), decide_eq_true (rfl : (2 : Int32) = 2), Bool.true_and]
    by_cases hs : suM lo lc lq oa cm N' < qt
    · left
      rw [decide_eq_true hs, if_neg (Int32.not_le.mpr hs)]
      exact ⟨rfl, rfl⟩
    · right
      rw [decide_eq_false hs, if_pos (Int32.not_lt.mp hs)]
      refine ⟨rfl, ?_⟩
      have hm : ∃ q2 k2 q2' k2', (if am = 2 then (mgC lo lc oa cm lq lk N').2 else (lq, lk)) = (q2, k2) ∧ (if am = 2 then (mgI lo' lc' oa cm lq' lk' N').2 else (lq', lk')) = (q2', k2') ∧ sm N' lo lc q2 k2 lo' lc' q2' k2' ∧ bd N' q2 k2 Q K := by
        by_cases h2 : am = 2
        · rw [if_pos h2, if_pos h2]
          obtain ⟨_, m2, m3, _⟩ := mg_eq (a := oa) (w := cm) h3 h4 (by omega) (by omega) N' (Nat.le_refl _)
          exact ⟨_, _, _, _, rfl, rfl, m2, m3⟩
        · rw [if_neg h2, if_neg h2]
          exact ⟨_, _, _, _, rfl, rfl, h3, h4⟩
      obtain ⟨q2', k2', q2'', k2'', e1, e2, s1, b1⟩ := hm
      rw [e1, e2]
      obtain ⟨t1, t2, t3, t4, t5, Q1, K1, t6, t7, t8⟩ := tk_eq (a := oa) (w := cm) (how := am) (u := qt) s1 b1 (by omega) (by omega) (by omega) N' (Nat.le_refl _)
      generalize tkI lo' lc' oa cm am N' (qt, 0, q2'', k2'') N' = S at t1 t3 t5
      generalize tkC lo lc oa cm am N' (qt, 0, q2', k2') N' = T at t1 t2 t3 t4 t5 t6 t8
      obtain ⟨Sl, Sc, Sq, Sk⟩ := S
      obtain ⟨Tl, Tc, Tq, Tk⟩ := T
      dsimp only at t1 t2 t3 t4 t5 t6 t8 ⊢
      have K0 : 0 ≤ K1 := by
        rw [← t6.2.2]
        exact sI_nn (lvk_nn t6.1)
      refine ⟨_, _, rfl, ?_, ⟨rfl, by dsimp only; omega, t5, Q1, K1, t6, by omega, by omega⟩, ?_⟩
      · rw [t3, t64_neg (by omega)]
      · rw [i32_neg (by omega)]
        exact ⟨by omega, by omega⟩
  · refine .inr ⟨by unfold vlS; rw [decide_eq_false n32]; rfl, 0, L', by unfold vlM; rw [if_neg n30, if_neg n31, if_neg n32], ?_, ?_, ?_⟩
    · unfold vlC; rw [if_neg n31, if_neg n32]; rfl
    · unfold vlC; rw [if_neg n31, if_neg n32]; exact LTR_mono hL (by omega)
    · unfold vlC; rw [if_neg n31, if_neg n32]; dsimp only; decide
section
variable {kd oa cm qt am kd' oa' cm' qt' am' : Nat → Int32}
/-- the same postings -/
def dA (kd oa cm qt am kd' oa' cm' qt' am' : Nat → Int32) (p : Nat) : Prop := kd' p = kd p ∧ oa' p = oa p ∧ cm' p = cm p ∧ qt' p = qt p ∧ am' p = am p
theorem bkF_eq : ∀ (m p p0 B j : Nat) (s : LC × (Nat → Int32) × Int32 × Option Nat) (s' : LT × (Nat → Int64) × Int64 × Option Nat),
    LTR s.1 s'.1 B → B + m ≤ 240 → j + m ≤ 6 → s'.2.2.1 = s.2.2.1.toInt64 → -(240000000 * j) ≤ s.2.2.1.toInt → s.2.2.1.toInt ≤ 240000000 * j → s'.2.2.2 = s.2.2.2 →
    (∀ x, p0 ≤ x → x < p → s'.2.1 x = (s.2.1 x).toInt64) → (∀ x, p ≤ x → x < p + m → dA kd oa cm qt am kd' oa' cm' qt' am' x ∧ pk_ok (kd x) (qt x) (am x)) →
    (∃ e e', bkFC kd oa cm qt am p m s = .inl e ∧ bkF kd' oa' cm' qt' am' p m s' = .inl e') ∨
    (∃ r r', bkFC kd oa cm qt am p m s = .inr r ∧ bkF kd' oa' cm' qt' am' p m s' = .inr r' ∧ LTR r.1 r'.1 (B + m) ∧ r'.2.2.1 = r.2.2.1.toInt64 ∧ -1440000000 ≤ r.2.2.1.toInt ∧ r.2.2.1.toInt ≤ 1440000000 ∧ r'.2.2.2 = r.2.2.2 ∧
      (∀ x, p0 ≤ x → x < p + m → r'.2.1 x = (r.2.1 x).toInt64) ∧ (∀ x, x < p → r.2.1 x = s.2.1 x ∧ r'.2.1 x = s'.2.1 x))
  | 0, p, p0, B, j, s, s', hL, _, hj, h1, h2, h3, h4, h5, _ => .inr ⟨s, s', rfl, rfl, hL, h1, by omega, by omega, h4, h5, fun _ _ => ⟨rfl, rfl⟩⟩
  | m + 1, p, p0, B, j, s, s', hL, hB, hj, h1, h2, h3, h4, h5, hd => by
    obtain ⟨⟨d1, d2, d3, d4, d5⟩, hp⟩ := hd p (by omega) (by omega)
    rcases vl_eq (oa := oa p) (cm := cm p) hL (by omega) hp with ⟨v1, v2⟩ | ⟨v1, v', L2, v2, v3, v4, v5, v6⟩
    · left
      rw [bkFC, if_pos v1, bkF_n _ _ _ _ _ (by rw [d1, d2, d3, d4, d5]; exact v2)]
      exact ⟨_, _, rfl, rfl⟩
    · rw [bkFC, if_neg (by rw [v1]; decide), bkF_s _ _ _ _ _ (by rw [d1, d2, d3, d4, d5]; exact v2)]
      generalize vlC s.1 (kd p) (oa p) (cm p) (qt p) (am p) = V at v3 v4 v5 v6
      have := bkF_eq m (p + 1) p0 (B + 1) (j + 1) (V.2, upd s.2.1 p V.1, s.2.2.1 + V.1, if kd p = 3 then some p else s.2.2.2) (L2, vp_updL s'.2.1 p v', s'.2.2.1 + v', if kd' p = 3 then some p else s'.2.2.2)
        v4 (by omega) (by omega) (by dsimp only; rw [t64_add (by omega) (by omega), h1, v3]) (by dsimp only; rw [i32_add (by omega) (by omega)]; omega) (by dsimp only; rw [i32_add (by omega) (by omega)]; omega) (by dsimp only; rw [d1, h4])
        (fun x hx hx2 => by
          show (if x = p then v' else s'.2.1 x) = (if x = p then V.1 else s.2.1 x).toInt64
          by_cases e : x = p
          · rw [if_pos e, if_pos e, v3]
          · rw [if_neg e, if_neg e]; exact h5 x hx (by omega))
        (fun x hx hx2 => hd x (by omega) (by omega))
      rcases this with ⟨e, e', g1, g2⟩ | ⟨r, r', g1, g2, g3, g4, g5, g6, g7, g8, g9⟩
      · exact .inl ⟨e, e', g1, g2⟩
      · refine .inr ⟨r, r', g1, g2, LTR_mono g3 (by omega), g4, g5, g6, g7, fun x hx hx2 => g8 x hx (by omega), fun x hx => ?_⟩
        obtain ⟨a1, a2⟩ := g9 x (by omega)
        rw [a1, a2]
        exact ⟨pk_un (show x ≠ p by omega), pk_uLn (show x ≠ p by omega)⟩
theorem bk_eq {mt mt' : Nat → Nat} {place : Nat} : ∀ (m t : Nat) (L : LC) (wt : Nat → Int32) (L' : LT) (wt' : Nat → Int64), LTR L L' (6 * t) → t + m ≤ 40 →
    (∀ j, t ≤ j → j < t + m → mt' j = mt j ∧ mt j ≤ 6) → (∀ j k, t ≤ j → j < t + m → k < mt j → dA kd oa cm qt am kd' oa' cm' qt' am' (6 * j + k) ∧ pk_ok (kd (6 * j + k)) (qt (6 * j + k)) (am (6 * j + k))) →
    ((bkAC kd oa cm qt am mt place t m L wt).1 = 0 ∧ (bkA kd' oa' cm' qt' am' mt' t m L' wt').1 = -1 ∧ LTR (bkAC kd oa cm qt am mt place t m L wt).2.1 (bkA kd' oa' cm' qt' am' mt' t m L' wt').2.2.1 (6 * (t + m)) ∧
      (∀ j k, t ≤ j → j < t + m → k < mt j → (bkA kd' oa' cm' qt' am' mt' t m L' wt').2.2.2 (6 * j + k) = ((bkAC kd oa cm qt am mt place t m L wt).2.2 (6 * j + k)).toInt64) ∧
      (∀ x, x < 6 * t → (bkAC kd oa cm qt am mt place t m L wt).2.2 x = wt x ∧ (bkA kd' oa' cm' qt' am' mt' t m L' wt').2.2.2 x = wt' x)) ∨
    (∃ j, t ≤ j ∧ j < t + m ∧ (((bkA kd' oa' cm' qt' am' mt' t m L' wt').1 = 2 * nI j ∧ (bkAC kd oa cm qt am mt place t m L wt).1 = if j = place then 2 else 4) ∨ ((bkA kd' oa' cm' qt' am' mt' t m L' wt').1 = 2 * nI j + 1 ∧ (bkAC kd oa cm qt am mt place t m L wt).1 = if j = place then 3 else 4)))
  | 0, t, L, wt, L', wt', hL, _, _, _ => .inl ⟨rfl, rfl, hL, fun j k h1 h2 => by omega, fun _ _ => ⟨rfl, rfl⟩⟩
  | m + 1, t, L, wt, L', wt', hL, hT, hm, hd => by
    obtain ⟨m1, m2⟩ := hm t (by omega) (by omega)
    rcases bkF_eq (mt t) (6 * t) (6 * t) (6 * t) 0 (L, wt, 0, none) (L', wt', 0, none) hL (by omega) (by omega) rfl (by show -(240000000 * (0 : Nat) : Int) ≤ (0 : Int32).toInt; decide) (by show (0 : Int32).toInt ≤ (240000000 * (0 : Nat) : Int); decide) rfl (fun x h1 h2 => by omega) (fun x h1 h2 => by
        have := hd t (x - 6 * t) (by omega) (by omega) (by omega)
        rw [show 6 * t + (x - 6 * t) = x by omega] at this
        exact this) with ⟨e, e', g1, g2⟩ | ⟨r, r', g1, g2, g3, g4, g5, g6, g7, g8, g9⟩
    · right
      refine ⟨t, by omega, by omega, .inl ⟨?_, ?_⟩⟩
      · rw [bkA, m1, g2]
      · rw [bkAC]
        unfold bkOC
        rw [g1]
        dsimp only
        rw [if_neg (by decide)]
    · have hr := bkFC_le kd oa cm qt am (mt t) (6 * t) _ _ g1
      have hO : bkOC kd oa cm qt am t (mt t) L wt = bkOC kd oa cm qt am t (mt t) L wt := rfl
      conv at hO => rhs; unfold bkOC; rw [g1]
      rw [bkA, m1, g2, bkAC]
      obtain ⟨rL, rW, rs, ro⟩ := r
      obtain ⟨rL', rW', rs', ro'⟩ := r'
      dsimp only at g3 g4 g5 g6 g7 g8 g9 hr hO ⊢
      subst g7
      cases ro' with
      | none =>
        dsimp only at hO ⊢
        by_cases hz : rs = 0
        · have hz' : rs' = 0 := by rw [g4, hz]; rfl
          rw [if_pos hz] at hO
          rw [hO, if_pos rfl, if_pos hz']
          dsimp only
          rcases bk_eq (mt := mt) (mt' := mt') (place := place) m (t + 1) rL rW rL' rW' (LTR_mono g3 (by omega)) (by omega) (fun j h1 h2 => hm j (by omega) (by omega)) (fun j k h1 h2 => hd j k (by omega) (by omega)) with ⟨f1, f2, f3, f4, f5⟩ | ⟨j, f1, f2, f3⟩
          · left
            refine ⟨f1, f2, LTR_mono f3 (by omega), fun j k h1 h2 hk => ?_, fun x hx => ?_⟩
            · by_cases e : j = t
              · subst e
                obtain ⟨a1, a2⟩ := f5 (6 * j + k) (by omega)
                rw [a1, a2]
                exact g8 _ (by omega) (by omega)
              · exact f4 j k (by omega) (by omega) hk
            · obtain ⟨a1, a2⟩ := f5 x (by omega)
              rw [a1, a2]
              exact g9 x hx
          · exact .inr ⟨j, by omega, by omega, f3⟩
        · have hz' : ¬ rs' = 0 := by
            rw [g4]
            intro e
            have := congrArg Int64.toInt e
            rw [Int32.toInt_toInt64, Int64.toInt_zero] at this
            exact hz (Int32.toInt.inj (by rw [this, Int32.toInt_zero]))
          rw [if_neg hz] at hO
          rw [hO, if_neg (show ¬ (3 : Int32) = 0 by decide), if_neg hz']
          dsimp only
          exact .inr ⟨t, by omega, by omega, .inr ⟨rfl, rfl⟩⟩
      | some q =>
        dsimp only at hO ⊢
        rw [hO, if_pos rfl]
        dsimp only
        have hq : 6 * t ≤ q ∧ q < 6 * t + mt t := (hr.2 q rfl).elim (fun h => by cases h) (fun h => h)
        rcases bk_eq (mt := mt) (mt' := mt') (place := place) m (t + 1) rL (upd rW q (-rs)) rL' (vp_updL rW' q (-rs')) (LTR_mono g3 (by omega)) (by omega) (fun j h1 h2 => hm j (by omega) (by omega)) (fun j k h1 h2 => hd j k (by omega) (by omega)) with ⟨f1, f2, f3, f4, f5⟩ | ⟨j, f1, f2, f3⟩
        · left
          refine ⟨f1, f2, LTR_mono f3 (by omega), fun j k h1 h2 hk => ?_, fun x hx => ?_⟩
          · by_cases e : j = t
            · subst e
              obtain ⟨a1, a2⟩ := f5 (6 * j + k) (by omega)
              rw [a1, a2]
              show (if 6 * j + k = q then -rs' else rW' (6 * j + k)) = (if 6 * j + k = q then -rs else rW (6 * j + k)).toInt64
              split
              · rw [t64_neg (by omega), g4]
              · exact g8 _ (by omega) (by omega)
            · exact f4 j k (by omega) (by omega) hk
          · obtain ⟨a1, a2⟩ := f5 x (by omega)
            rw [a1, a2, pk_un (show x ≠ q by omega), pk_uLn (show x ≠ q by omega)]
            exact g9 x hx
        · exact .inr ⟨j, by omega, by omega, f3⟩
/-- booking goes on where it stood -/
theorem bkAC_add {mt : Nat → Nat} {place : Nat} : ∀ (m1 m2 t : Nat) (L : LC) (wt : Nat → Int32), bkAC kd oa cm qt am mt place t (m1 + m2) L wt = if (bkAC kd oa cm qt am mt place t m1 L wt).1 = 0 then bkAC kd oa cm qt am mt place (t + m1) m2 (bkAC kd oa cm qt am mt place t m1 L wt).2.1 (bkAC kd oa cm qt am mt place t m1 L wt).2.2 else bkAC kd oa cm qt am mt place t m1 L wt
  | 0, m2, t, L, wt => by rw [Nat.zero_add]; rfl
  | m1 + 1, m2, t, L, wt => by
    rw [show m1 + 1 + m2 = (m1 + m2) + 1 by omega, bkAC, bkAC]
    by_cases h : (bkOC kd oa cm qt am t (mt t) L wt).1 = 0
    · rw [if_pos h, if_pos h, bkAC_add m1 m2 (t + 1), show t + 1 + m1 = t + (m1 + 1) by omega]
    · rw [if_neg h, if_neg h]
      by_cases hp : t = place
      · rw [if_pos hp]; exact (if_neg h).symm
      · rw [if_neg hp]; exact (if_neg (show ¬ (4 : Int32) = 0 by decide)).symm
theorem bkA_add {mt : Nat → Nat} : ∀ (m1 m2 t : Nat) (L : LT) (wt : Nat → Int64), t + m1 ≤ 40 → bkA kd oa cm qt am mt t (m1 + m2) L wt = if (bkA kd oa cm qt am mt t m1 L wt).1 = -1 then bkA kd oa cm qt am mt (t + m1) m2 (bkA kd oa cm qt am mt t m1 L wt).2.2.1 (bkA kd oa cm qt am mt t m1 L wt).2.2.2 else bkA kd oa cm qt am mt t m1 L wt
  | 0, m2, t, L, wt, _ => by rw [Nat.zero_add]; rfl
  | m1 + 1, m2, t, L, wt, ht => by
    have ne1 : ∀ x : Nat, x ≤ 81 → ¬ nI x = -1 := fun x hx e => by
      have h1 := congrArg Int32.toInt e
      rw [nI_toInt (by omega)] at h1
      have h2 : (-1 : Int32).toInt = -1 := by decide
      omega
    have e2 : ∀ x, (2 : Int32) * nI x = nI (2 * x) := fun x => pk_mul 2 x
    rw [show m1 + 1 + m2 = (m1 + m2) + 1 by omega, bkA, bkA]
    cases hb : bkF kd oa cm qt am (6 * t) (mt t) (L, wt, 0, none) with
    | inl s => exact (if_neg (show ¬ (2 : Int32) * nI t = -1 from by rw [e2]; exact ne1 _ (by omega))).symm
    | inr s =>
      obtain ⟨sL, sW, ss, so⟩ := s
      dsimp only
      cases so with
      | some q =>
        dsimp only
        rw [bkA_add m1 m2 (t + 1) _ _ (by omega), show t + 1 + m1 = t + (m1 + 1) by omega]
      | none =>
        dsimp only
        by_cases hz : ss = 0
        · simp only [if_pos hz]
          rw [bkA_add m1 m2 (t + 1) _ _ (by omega), show t + 1 + m1 = t + (m1 + 1) by omega]
        · simp only [if_neg hz]
          exact (if_neg (show ¬ (2 : Int32) * nI t + 1 = -1 from by rw [e2, nI_1]; exact ne1 _ (by omega))).symm
end
