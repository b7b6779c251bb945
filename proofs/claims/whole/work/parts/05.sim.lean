/-! The abstract machine's run is the machine's run. -/
theorem jm_q {B : Nat} {κ : Nat → ClassId} {D : va_G} {h : jm_H} {q : Nat} {x : va_E} {H1 : Heap} (hP : va_P D jm_cl (jm_w B κ h ++ [(q, x)]) H1) (hD : va_D (jm_A B) (jm_w B κ h ++ [(q, x)])) (hz : H1.size ≤ B + h.1 + 1) : q = B + h.1 := by
  have hl : (jm_w B κ h ++ [(q, x)])[h.1]? = some (q, x) := by
    rw [List.getElem?_append_right (by rw [jm_w_len]; exact Nat.le_refl _), jm_w_len, Nat.sub_self]
    rfl
  have h1 : B ≤ q := hD.2 _ _ hl
  have h2 : q < H1.size := (hP _ _ hl).lt
  by_cases hq : q < B + h.1
  · have h3 : (jm_w B κ h ++ [(q, x)])[q - B]? = some (B + (q - B), jm_e B κ (h.2 (q - B))) := by
      rw [List.getElem?_append_left (by rw [jm_w_len]; omega), jm_w_get (by omega)]
    have := hD.1 _ _ _ _ h3 hl (by show B + (q - B) = q; omega)
    omega
  · omega
theorem jm_a_up {B : Nat} {f : Nat → Option Nat} {i : Nat} {v : Option Nat} : (fun j => (va_up f i v j).map (fun k => B + k)) = va_up (fun j => (f j).map (fun k => B + k)) i (v.map (fun k => B + k)) := by
  funext j
  by_cases h : j = i
  · simp [va_up, h]
  · simp [va_up, h]
def jm_tt : FieldType → Bool
  | .object _ => true
  | .int => true
  | .long => true
  | _ => false
theorem jm_cA {κ : Nat → ClassId} {D : va_G} {s : State} {k : Nat} {t : FieldType} {cA : ClassId} (h : va_K D jm_cl (jm_tys κ) s) (h2 : va_K D jm_cl (jm_tys κ ++ [(cA, t)]) s) (hk : (jm_tys κ)[k]? = some (κ k, t)) (hn : jm_tt t = true) : cA = κ k := by
  have e1 : va_RA s (κ k) t := (h.2 k _ hk).2
  have e2 : va_RA s cA t := (h2.2 (jm_tys κ).length (cA, t) (by rw [List.getElem?_append_right (Nat.le_refl _), Nat.sub_self]; rfl)).2
  cases t with
  | int => exact Option.some.inj (e2.symm.trans e1)
  | long => exact Option.some.inj (e2.symm.trans e1)
  | object C =>
    obtain ⟨_, _, _, _, _, f1⟩ := e1
    obtain ⟨_, _, _, _, _, f2⟩ := e2
    exact Option.some.inj (f2.symm.trans f1)
  | _ => exact absurd (show false = true from hn) (by decide)
section JMT
variable {p : Program} {l : Launch} {e : Env} {s : State} {m : MethodId} {args : Array Value} {below : List Frame} {meth : Method} {c : Code}
variable {B M : Nat} {κ : Nat → ClassId} {D : va_G} {h0 h1 : jm_H} {r1 : Option Value} {C : jm_C}
set_option maxHeartbeats 4000000 in
theorem jm_sim (hC : ∀ y vs h r t, C y vs h r t → (h.1 ≤ t.1 ∧ jm_sl h ≤ jm_sl t) ∧ jm_Met l B κ D y vs h r t) (F : jm_F κ D M p s m args meth c) (hB : s.heap.size = B + h0.1) :
    ∀ q : jm_S, jm_wp C M (fun r h => r = r1 ∧ h = h1) q → jm_Z B κ D M h0 h1 r1 p l e s m args below meth c q := by
  intro q hw
  refine hw _ ?_
  obtain ⟨hx, hb, hml, hrt, hlk, hts, hown, hnm, hG⟩ := F
  have hA : ∀ q : Nat, s.heap.size ≤ q → jm_A B q := fun q hq => by show B ≤ q; omega
  rintro ⟨pc, lv, st, h⟩ ⟨ins, len, hd, ⟨⟨pc', lv', st', h'⟩, hn, ⟨hg1, hg2⟩, hk⟩ | ⟨r, hr, hr1, hh1⟩⟩
  · have gr := jm_grow (fun y vs h r t hc => (hC y vs h r t hc).1) hn
    have hd : decode (jm_b M) pc = .ok (ins, len) := hd
    have hn : jm_nx C M ins len pc lv st h (pc', lv', st', h') := hn
    have hg1 : h'.1 ≤ h1.1 := hg1
    have hg2 : jm_sl h' ≤ jm_sl h1 := hg2
    have gr1 : h.1 ≤ h'.1 := gr.1
    have gr2 : jm_sl h ≤ jm_sl h' := gr.2
    have hk : ∀ (ls : Array Slot) (H : Heap) (locs : List Loc), h0.1 ≤ h'.1 → jm_sl h0 ≤ jm_sl h' → jm_J B (jm_nl M) ls lv' → jm_I B κ D h' H → va_S (jm_A B) s.heap H locs → W p l e (headSpec (jm_ws M) (jm_rm M h0 h1)).room s m args below meth c H locs (h'.1 - h0.1) (jm_sl h' - jm_sl h0) (MQ below (jm_Qc B κ D r1 h1) args s (h1.1 - h0.1) (jm_sl h1 - jm_sl h0) (jm_A B)) (F0 m pc' ls (st'.map (jm_v B))) := hk
    refine ⟨⟨Nat.le_trans gr1 hg1, Nat.le_trans gr2 hg2⟩, ?_⟩
    intro ls H locs hc0 hc1 hJ hI hS
    have hc0 : h0.1 ≤ h.1 := hc0
    have hc1 : jm_sl h0 ≤ jm_sl h := hc1
    have hJ : jm_J B (jm_nl M) ls lv := hJ
    have hI : jm_I B κ D h H := hI
    show W p l e (headSpec (jm_ws M) (jm_rm M h0 h1)).room s m args below meth c H locs (h.1 - h0.1) (jm_sl h - jm_sl h0) (MQ below (jm_Qc B κ D r1 h1) args s (h1.1 - h0.1) (jm_sl h1 - jm_sl h0) (jm_A B)) (F0 m pc ls (st.map (jm_v B)))
    have KP : ∀ (ls' : Array Slot) (H1 : Heap) (locs1 : List Loc), h'.1 = h.1 → jm_sl h' = jm_sl h → jm_J B (jm_nl M) ls' lv' → va_P D jm_cl (jm_w B κ h') H1 → va_S (jm_A B) s.heap H1 locs1 → W p l e (headSpec (jm_ws M) (jm_rm M h0 h1)).room s m args below meth c H1 locs1 (h.1 - h0.1) (jm_sl h - jm_sl h0) (MQ below (jm_Qc B κ D r1 h1) args s (h1.1 - h0.1) (jm_sl h1 - jm_sl h0) (jm_A B)) (F0 m pc' ls' (st'.map (jm_v B))) := by
      intro ls' H1 locs1 e1 e2 hJ' hP1 hS1
      refine jm_size fun hz => ?_
      have h3 := hS1.1
      have := hk ls' H1 locs1 (by omega) (by omega) hJ' (jm_I_of hP1 (by omega) (by omega)) hS1
      rw [e1, e2] at this
      exact this
    have KN : ∀ (ls' : Array Slot) (H1 : Heap) (locs1 : List Loc) (q n : Nat) (x : va_E), h' = (h.1 + 1, jm_up h.2 h.1 x) → lv' = lv → jm_sl h' = jm_sl h + n → jm_J B (jm_nl M) ls' lv → va_P D jm_cl (jm_w B κ h ++ [(q, jm_e B κ x)]) H1 → va_D (jm_A B) (jm_w B κ h ++ [(q, jm_e B κ x)]) → va_S (jm_A B) s.heap H1 locs1 → (∀ r0 : List Value, st' = .ref h.1 :: r0 → W p l e (headSpec (jm_ws M) (jm_rm M h0 h1)).room s m args below meth c H1 locs1 (h.1 - h0.1 + 1) (jm_sl h - jm_sl h0 + n) (MQ below (jm_Qc B κ D r1 h1) args s (h1.1 - h0.1) (jm_sl h1 - jm_sl h0) (jm_A B)) (F0 m pc' ls' (.ref q :: r0.map (jm_v B)))) := by
      intro ls' H1 locs1 q n x eh elv esl hJ' hP1 hD1 hS1 r0 est
      refine jm_size fun hz => ?_
      have h3 := hS1.1
      have eq := jm_q hP1 hD1 (by omega)
      subst eq
      rw [jm_w_new, ← eh] at hP1
      have e1 : h'.1 = h.1 + 1 := by rw [eh]
      have := hk ls' H1 locs1 (by omega) (by omega) (by rw [elv]; exact hJ') (jm_I_of hP1 (by omega) (by omega)) hS1
      refine W.cs (cells' := h'.1 - h0.1) (slots' := jm_sl h' - jm_sl h0) (by omega) (by omega) ?_
      rw [est] at this
      exact this
    cases ins with
    | iconst n =>
      obtain ⟨rfl, hs⟩ := hn
      cases hs
      exact lv_iconst hx hb hd rfl (hk ls H locs hc0 hc1 hJ hI hS)
    | bipush n =>
      obtain ⟨rfl, hs⟩ := hn
      cases hs
      exact lv_bipush hx hb hd rfl (hk ls H locs hc0 hc1 hJ hI hS)
    | sipush n =>
      obtain ⟨rfl, hs⟩ := hn
      cases hs
      exact lv_sipush hx hb hd rfl (hk ls H locs hc0 hc1 hJ hI hS)
    | lconst n =>
      obtain ⟨rfl, hs⟩ := hn
      cases hs
      exact lv_lconst hx hb hd rfl (hk ls H locs hc0 hc1 hJ hI hS)
    | aconst_null =>
      obtain ⟨rfl, hs⟩ := hn
      cases hs
      exact lv_null hx hb hd (hk ls H locs hc0 hc1 hJ hI hS)
    | ldc i =>
      obtain ⟨rfl, v, hv, hs⟩ := hn
      cases hs
      exact lv_ldc hx hb hown (hts _ (jm_ki_ok hv)) hd (hk ls H locs hc0 hc1 hJ hI hS)
    | ldc2_w i =>
      obtain ⟨rfl, v, hv, hs⟩ := hn
      cases hs
      exact lv_ldc2 hx hb hown (hts _ (jm_kl_ok hv)) hd (hk ls H locs hc0 hc1 hJ hI hS)
    | iload_n k =>
      obtain ⟨rfl, x, hv, hs⟩ := hn
      cases hs
      exact lv_iload_n hx hb hd rfl (hJ.2.2 _ _ hv) (hk ls H locs hc0 hc1 hJ hI hS)
    | iload i =>
      obtain ⟨rfl, x, hv, hs⟩ := hn
      cases hs
      exact lv_iload hx hb hd (hJ.2.2 _ _ hv) (hk ls H locs hc0 hc1 hJ hI hS)
    | lload_n k =>
      obtain ⟨rfl, x, hv, hs⟩ := hn
      cases hs
      exact lv_lload_n hx hb hd rfl (hJ.2.2 _ _ hv) (hk ls H locs hc0 hc1 hJ hI hS)
    | lload i =>
      obtain ⟨rfl, x, hv, hs⟩ := hn
      cases hs
      exact lv_lload hx hb hd (hJ.2.2 _ _ hv) (hk ls H locs hc0 hc1 hJ hI hS)
    | aload_n k =>
      obtain ⟨rfl, v, hv, hr, hs⟩ := hn
      cases hs
      cases v with
      | null => exact lv_aload_nN hx hb hd rfl (hJ.2.2 _ _ hv) (hk ls H locs hc0 hc1 hJ hI hS)
      | ref b => exact lv_aload_n hx hb hd rfl (hJ.2.2 _ _ hv) (hk ls H locs hc0 hc1 hJ hI hS)
      | _ => exact absurd (show false = true from hr) (by decide)
    | aload i =>
      obtain ⟨rfl, v, hv, hr, hs⟩ := hn
      cases hs
      cases v with
      | null => exact lv_aloadN hx hb hd (hJ.2.2 _ _ hv) (hk ls H locs hc0 hc1 hJ hI hS)
      | ref b => exact lv_aload hx hb hd (hJ.2.2 _ _ hv) (hk ls H locs hc0 hc1 hJ hI hS)
      | _ => exact absurd (show false = true from hr) (by decide)
    | istore_n k =>
      obtain ⟨rfl, x, r, rfl, hi, hs⟩ := hn
      cases hs
      exact lv_istore_n hx hb hd rfl hJ.has hi rfl (fun ls' hl' => hk ls' H locs hc0 hc1 (hJ.s1 (x := .int x) hl') hI hS)
    | istore i =>
      obtain ⟨rfl, x, r, rfl, hi, hs⟩ := hn
      cases hs
      exact lv_istore hx hb hd hJ.has hi rfl (fun ls' hl' => hk ls' H locs hc0 hc1 (hJ.s1 (x := .int x) hl') hI hS)
    | lstore_n k =>
      obtain ⟨rfl, x, r, rfl, hi, hs⟩ := hn
      cases hs
      exact lv_lstore_n hx hb hd rfl hJ.has hi rfl (fun ls' hl' => hk ls' H locs hc0 hc1 (hJ.s2 (x := .long x) hl') hI hS)
    | lstore i =>
      obtain ⟨rfl, x, r, rfl, hi, hs⟩ := hn
      cases hs
      exact lv_lstore hx hb hd hJ.has hi rfl (fun ls' hl' => hk ls' H locs hc0 hc1 (hJ.s2 (x := .long x) hl') hI hS)
    | astore_n k =>
      obtain ⟨rfl, v, r, rfl, hr, hi, hs⟩ := hn
      cases hs
      cases v with
      | null => exact lv_astore_nN hx hb hd rfl hJ.has hi rfl (fun ls' hl' => hk ls' H locs hc0 hc1 (hJ.s1 (x := .null) hl') hI hS)
      | ref b => exact lv_astore_n hx hb hd rfl hJ.has hi rfl (fun ls' hl' => hk ls' H locs hc0 hc1 (hJ.s1 (x := .ref b) hl') hI hS)
      | _ => exact absurd (show false = true from hr) (by decide)
    | astore i =>
      obtain ⟨rfl, v, r, rfl, hr, hi, hs⟩ := hn
      cases hs
      cases v with
      | null => exact lv_astoreN hx hb hd hJ.has hi rfl (fun ls' hl' => hk ls' H locs hc0 hc1 (hJ.s1 (x := .null) hl') hI hS)
      | ref b => exact lv_astore hx hb hd hJ.has hi rfl (fun ls' hl' => hk ls' H locs hc0 hc1 (hJ.s1 (x := .ref b) hl') hI hS)
      | _ => exact absurd (show false = true from hr) (by decide)
    | iinc i n =>
      obtain ⟨rfl, x, hv, hi, hs⟩ := hn
      cases hs
      obtain ⟨q, hq⟩ := List.getElem?_of_mem (jm_lst_in (B := B) hi hv)
      exact lv_iinc hx hb hd hJ.has hq rfl hi rfl (fun ls' hl' => hk ls' H locs hc0 hc1 (hJ.s1 (x := .int (x + Int32.ofInt n)) hl') hI hS)
    | iadd =>
      obtain ⟨rfl, x, y, r, rfl, hs⟩ := hn
      cases hs
      exact lv_iadd hx hb hd (hk ls H locs hc0 hc1 hJ hI hS)
    | isub =>
      obtain ⟨rfl, x, y, r, rfl, hs⟩ := hn
      cases hs
      exact lv_isub hx hb hd (hk ls H locs hc0 hc1 hJ hI hS)
    | imul =>
      obtain ⟨rfl, x, y, r, rfl, hs⟩ := hn
      cases hs
      exact lv_imul hx hb hd (hk ls H locs hc0 hc1 hJ hI hS)
    | iand =>
      obtain ⟨rfl, x, y, r, rfl, hs⟩ := hn
      cases hs
      exact lv_iand hx hb hd (hk ls H locs hc0 hc1 hJ hI hS)
    | ladd =>
      obtain ⟨rfl, x, y, r, rfl, hs⟩ := hn
      cases hs
      exact lv_ladd hx hb hd (hk ls H locs hc0 hc1 hJ hI hS)
    | lsub =>
      obtain ⟨rfl, x, y, r, rfl, hs⟩ := hn
      cases hs
      exact lv_lsub hx hb hd (hk ls H locs hc0 hc1 hJ hI hS)
    | lmul =>
      obtain ⟨rfl, x, y, r, rfl, hs⟩ := hn
      cases hs
      exact lv_lmul hx hb hd (hk ls H locs hc0 hc1 hJ hI hS)
    | lxor =>
      obtain ⟨rfl, x, y, r, rfl, hs⟩ := hn
      cases hs
      exact lv_lxor hx hb hd (hk ls H locs hc0 hc1 hJ hI hS)
    | idiv =>
      obtain ⟨rfl, x, y, r, rfl, hne, hs⟩ := hn
      cases hs
      exact lv_idiv hx hb hd hne (hk ls H locs hc0 hc1 hJ hI hS)
    | irem =>
      obtain ⟨rfl, x, y, r, rfl, hne, hs⟩ := hn
      cases hs
      exact lv_irem hx hb hd hne (hk ls H locs hc0 hc1 hJ hI hS)
    | ldiv =>
      obtain ⟨rfl, x, y, r, rfl, hne, hs⟩ := hn
      cases hs
      exact lv_ldiv hx hb hd hne (hk ls H locs hc0 hc1 hJ hI hS)
    | lrem =>
      obtain ⟨rfl, x, y, r, rfl, hne, hs⟩ := hn
      cases hs
      exact lv_lrem hx hb hd hne (hk ls H locs hc0 hc1 hJ hI hS)
    | ineg =>
      obtain ⟨rfl, x, r, rfl, hs⟩ := hn
      cases hs
      exact lv_ineg hx hb hd (hk ls H locs hc0 hc1 hJ hI hS)
    | lneg =>
      obtain ⟨rfl, x, r, rfl, hs⟩ := hn
      cases hs
      exact lv_lneg hx hb hd (hk ls H locs hc0 hc1 hJ hI hS)
    | i2l =>
      obtain ⟨rfl, x, r, rfl, hs⟩ := hn
      cases hs
      exact lv_i2l hx hb hd rfl (hk ls H locs hc0 hc1 hJ hI hS)
    | l2i =>
      obtain ⟨rfl, x, r, rfl, hs⟩ := hn
      cases hs
      exact lv_l2i hx hb hd rfl (hk ls H locs hc0 hc1 hJ hI hS)
    | lcmp =>
      obtain ⟨rfl, x, y, r, rfl, hs⟩ := hn
      cases hs
      exact W.lcmp hx hb hd (hk ls H locs hc0 hc1 hJ hI hS)
    | dup =>
      obtain ⟨rfl, v, r, rfl, hv, hs⟩ := hn
      cases hs
      exact lv_dup hx hb hd ((jm_v_cat B v).trans hv) (hk ls H locs hc0 hc1 hJ hI hS)
    | pop =>
      obtain ⟨rfl, v, r, rfl, hv, hs⟩ := hn
      cases hs
      exact lv_pop hx hb hd ((jm_v_cat B v).trans hv) (hk ls H locs hc0 hc1 hJ hI hS)
    | dup_x1 =>
      obtain ⟨rfl, v, w, r, rfl, hv, hw, hs⟩ := hn
      cases hs
      exact lv_dup_x1 hx hb hd ((jm_v_cat B v).trans hv) ((jm_v_cat B w).trans hw) (hk ls H locs hc0 hc1 hJ hI hS)
    | dup2 =>
      obtain ⟨rfl, ⟨v, w, r, rfl, hv, hw, hs⟩ | ⟨v, r, rfl, hv, hs⟩⟩ := hn
      · cases hs
        exact lv_dup2_11 hx hb hd ((jm_v_cat B v).trans hv) ((jm_v_cat B w).trans hw) (hk ls H locs hc0 hc1 hJ hI hS)
      · cases hs
        exact lv_dup2_2 hx hb hd ((jm_v_cat B v).trans hv) (hk ls H locs hc0 hc1 hJ hI hS)
    | ifCond cnd off =>
      obtain ⟨rfl, x, r, rfl, t, ht, ⟨hc, hs⟩ | ⟨hc, hs⟩⟩ := hn
      · cases hs
        cases cnd
        · exact lv_if_eq hx hb hd ht (fun _ => (hk ls H locs hc0 hc1 hJ hI hS)) (fun z => absurd hc z)
        · exact lv_if_ne hx hb hd ht (fun _ => (hk ls H locs hc0 hc1 hJ hI hS)) (fun z => absurd z hc)
        · exact lv_if_lt hx hb hd ht (fun _ => (hk ls H locs hc0 hc1 hJ hI hS)) (fun z => absurd hc z)
        · exact lv_if_ge hx hb hd ht (fun _ => (hk ls H locs hc0 hc1 hJ hI hS)) (fun z => absurd hc z)
        · exact lv_if_gt hx hb hd ht (fun _ => (hk ls H locs hc0 hc1 hJ hI hS)) (fun z => absurd hc z)
        · exact lv_if_le hx hb hd ht (fun _ => (hk ls H locs hc0 hc1 hJ hI hS)) (fun z => absurd hc z)
      · cases hs
        cases cnd
        · exact lv_if_eq hx hb hd ht (fun z => absurd z hc) (fun _ => (hk ls H locs hc0 hc1 hJ hI hS))
        · exact lv_if_ne hx hb hd ht (fun z => absurd z hc) (fun _ => (hk ls H locs hc0 hc1 hJ hI hS))
        · exact lv_if_lt hx hb hd ht (fun z => absurd z hc) (fun _ => (hk ls H locs hc0 hc1 hJ hI hS))
        · exact lv_if_ge hx hb hd ht (fun z => absurd z hc) (fun _ => (hk ls H locs hc0 hc1 hJ hI hS))
        · exact lv_if_gt hx hb hd ht (fun z => absurd z hc) (fun _ => (hk ls H locs hc0 hc1 hJ hI hS))
        · exact lv_if_le hx hb hd ht (fun z => absurd z hc) (fun _ => (hk ls H locs hc0 hc1 hJ hI hS))
    | if_icmp cnd off =>
      obtain ⟨rfl, x, y, r, rfl, t, ht, ⟨hc, hs⟩ | ⟨hc, hs⟩⟩ := hn
      · cases hs
        cases cnd
        · exact lv_icmp_eq hx hb hd ht (fun _ => (hk ls H locs hc0 hc1 hJ hI hS)) (fun z => absurd hc z)
        · exact lv_icmp_ne hx hb hd ht (fun _ => (hk ls H locs hc0 hc1 hJ hI hS)) (fun z => absurd z hc)
        · exact lv_icmp_lt hx hb hd ht (fun _ => (hk ls H locs hc0 hc1 hJ hI hS)) (fun z => absurd hc z)
        · exact lv_icmp_ge hx hb hd ht (fun _ => (hk ls H locs hc0 hc1 hJ hI hS)) (fun z => absurd hc z)
        · exact lv_icmp_gt hx hb hd ht (fun _ => (hk ls H locs hc0 hc1 hJ hI hS)) (fun z => absurd hc z)
        · exact lv_icmp_le hx hb hd ht (fun _ => (hk ls H locs hc0 hc1 hJ hI hS)) (fun z => absurd hc z)
      · cases hs
        cases cnd
        · exact lv_icmp_eq hx hb hd ht (fun z => absurd z hc) (fun _ => (hk ls H locs hc0 hc1 hJ hI hS))
        · exact lv_icmp_ne hx hb hd ht (fun z => absurd z hc) (fun _ => (hk ls H locs hc0 hc1 hJ hI hS))
        · exact lv_icmp_lt hx hb hd ht (fun z => absurd z hc) (fun _ => (hk ls H locs hc0 hc1 hJ hI hS))
        · exact lv_icmp_ge hx hb hd ht (fun z => absurd z hc) (fun _ => (hk ls H locs hc0 hc1 hJ hI hS))
        · exact lv_icmp_gt hx hb hd ht (fun z => absurd z hc) (fun _ => (hk ls H locs hc0 hc1 hJ hI hS))
        · exact lv_icmp_le hx hb hd ht (fun z => absurd z hc) (fun _ => (hk ls H locs hc0 hc1 hJ hI hS))
    | ifnull off =>
      obtain ⟨rfl, v, r, rfl, t, ht, ⟨rfl, hs⟩ | ⟨⟨a, rfl⟩, hs⟩⟩ := hn
      · cases hs
        exact lv_ifnullN hx hb hd ht (hk ls H locs hc0 hc1 hJ hI hS)
      · cases hs
        exact lv_ifnull hx hb hd (hk ls H locs hc0 hc1 hJ hI hS)
    | ifnonnull off =>
      obtain ⟨rfl, v, r, rfl, t, ht, ⟨rfl, hs⟩ | ⟨⟨a, rfl⟩, hs⟩⟩ := hn
      · cases hs
        exact lv_ifnonnullN hx hb hd (hk ls H locs hc0 hc1 hJ hI hS)
      · cases hs
        exact lv_ifnonnull hx hb hd ht (hk ls H locs hc0 hc1 hJ hI hS)
    | goto off =>
      obtain ⟨rfl, t, ht, hs⟩ := hn
      cases hs
      exact lv_goto hx hb hd ht (hk ls H locs hc0 hc1 hJ hI hS)
    | lookupswitch dflt ps =>
      obtain ⟨x, r, rfl, hp, t, ht, hs⟩ := hn
      cases hs
      exact lv_lookup hx hb hd hp rfl ht (hk ls H locs hc0 hc1 hJ hI hS)
    | getfield i =>
      obtain ⟨rfl, a, r, ci, k, fs, v, rfl, hf, ha, hcell, hv, hs⟩ := hn
      cases hs
      obtain ⟨Cn, T, N, hcl, hkN, hTC, hlink⟩ := jm_fl_ok hf
      exact va_get (D := D) (v := jm_v B v) (fs := fs.map (jm_v B)) hx hb hts (fun w hw => (jm_cl_ok hcl).1 w hw) hown hG.1 hI.2 a (by rw [jm_w_get ha, hcell]; rfl) hcl k hkN (hts _ hlink) (fun _ z => by rw [hTC] at z; exact z) (by rw [List.getElem?_map, hv]; rfl) hd (hk ls H locs hc0 hc1 hJ hI hS)
    | putfield i =>
      obtain ⟨rfl, a, r, ci, k, fs, v, rfl, hf, ha, hcell, hlen, hok, hfin, hs⟩ := hn
      cases hs
      obtain ⟨Cn, T, N, hcl, hkN, hTC, hlink⟩ := jm_fl_ok hf
      obtain ⟨hin, hty, hnam⟩ := jm_cl_ok hcl
      obtain ⟨hnar, hfit⟩ := jm_ok_v (B := B) hok
      have ex : (B + a, Sum.inr (ci, (fs.map (jm_v B)).set k (jm_v B v))) = (B + a, jm_e B κ (.inr (ci, fs.set k v))) := by simp [jm_e, List.map_set]
      have he : (jm_w B κ h)[a]? = some (B + a, .inr (ci, fs.map (jm_v B))) := by rw [jm_w_get ha, hcell]; rfl
      have es : jm_sl (h.1, jm_up h.2 a (.inr (ci, fs.set k v))) = jm_sl h := jm_sl_set (by rw [hcell]; simp [jm_s1])
      have fin : ∀ (H1 : Heap) (locs1 : List Loc), va_P D jm_cl ((jm_w B κ h).set a (B + a, Sum.inr (ci, (fs.map (jm_v B)).set k (jm_v B v)))) H1 → va_D (jm_A B) ((jm_w B κ h).set a (B + a, Sum.inr (ci, (fs.map (jm_v B)).set k (jm_v B v)))) → va_S (jm_A B) s.heap H1 locs1 → W p l e (headSpec (jm_ws M) (jm_rm M h0 h1)).room s m args below meth c H1 locs1 (h.1 - h0.1) (jm_sl h - jm_sl h0) (MQ below (jm_Qc B κ D r1 h1) args s (h1.1 - h0.1) (jm_sl h1 - jm_sl h0) (jm_A B)) (F0 m (pc + 3) ls (st'.map (jm_v B))) := by
        intro H1 locs1 hP1 _ hS1
        rw [ex, jm_w_set] at hP1
        exact KP ls H1 locs1 rfl es hJ hP1 hS1
      rcases jm_fin_ok hfin hcl with hf0 | ⟨hf1, hf2, hf3⟩
      · exact va_put (D := D) (ty := jm_ty ci k) (fs := fs.map (jm_v B)) hx hb hts (fun w hw => hin w hw) (jm_ty ci) hty hnam hown hG.1 hI.2 (jm_w_D B κ h) hS a he hcl k hkN (hts _ hlink) (fun _ z => by rw [hTC] at z; exact z) hf0 (hty k hkN) hnar hfit (by simpa using hlen) hd fin
      · exact va_putF (D := D) (ty := jm_ty ci k) (fs := fs.map (jm_v B)) hx hb hts (fun w hw => hin w hw) (jm_ty ci) hty hnam hown hG.1 hI.2 (jm_w_D B κ h) hS a he hcl k hkN (hts _ hlink) (fun _ z => by rw [hTC] at z; exact z) hf1 (hnm.trans hf2) hf3 (hty k hkN) hnar hfit (by simpa using hlen) hd fin
    | iaload =>
      obtain ⟨rfl, i, a, r, n, f, rfl, ha, hcell, hin, hs⟩ := hn
      cases hs
      exact va_iald hx hb hG.1 hI.2 a 0 (by rw [jm_w_get ha, hcell]; rfl) rfl hin hd (hk ls H locs hc0 hc1 hJ hI hS)
    | laload =>
      obtain ⟨rfl, i, a, r, n, f, rfl, ha, hcell, hin, hs⟩ := hn
      cases hs
      exact va_lald hx hb hG.1 hI.2 a 1 (by rw [jm_w_get ha, hcell]; rfl) rfl hin hd (hk ls H locs hc0 hc1 hJ hI hS)
    | aaload =>
      obtain ⟨rfl, i, a, r, n, f, cd, ci, rfl, ha, hcell, hax, hin, hs⟩ := hn
      cases hs
      obtain ⟨q, hq, htq⟩ := jm_ax_ok hax
      refine va_aldq (f := fun j => (f j).map (fun k => B + k)) hx hb hG.1 hI.2 a cd (by rw [jm_w_get ha, hcell]; rfl) (htq κ) hin hd ?_
      have hk2 := hk ls H locs hc0 hc1 hJ hI hS
      rw [List.map_cons, jm_v_rf] at hk2
      exact hk2
    | iastore =>
      obtain ⟨rfl, x, i, a, r, n, f, rfl, ha, hcell, hin, hs⟩ := hn
      cases hs
      refine va_iast hx hb hG.1 hI.2 (jm_w_D B κ h) hS a 0 (by rw [jm_w_get ha, hcell]; rfl) rfl hin hd (fun H1 locs1 hP1 _ hS1 => ?_)
      exact KP ls H1 locs1 rfl (jm_sl_set (by rw [hcell]; rfl)) hJ (by rw [← jm_w_set]; exact hP1) hS1
    | lastore =>
      obtain ⟨rfl, x, i, a, r, n, f, rfl, ha, hcell, hin, hs⟩ := hn
      cases hs
      refine va_last hx hb hG.1 hI.2 (jm_w_D B κ h) hS a 1 (by rw [jm_w_get ha, hcell]; rfl) rfl hin hd (fun H1 locs1 hP1 _ hS1 => ?_)
      exact KP ls H1 locs1 rfl (jm_sl_set (by rw [hcell]; rfl)) hJ (by rw [← jm_w_set]; exact hP1) hS1
    | aastore =>
      obtain ⟨rfl, v, i, a, r, n, f, cd, ci, rfl, ha, hcell, hax, hin, ⟨rfl, hs⟩ | ⟨b, fs, rfl, hbl, hcb, hs⟩⟩ := hn
      · cases hs
        obtain ⟨q, hq, htq⟩ := jm_ax_ok hax
        refine va_astqN (f := fun j => (f j).map (fun k => B + k)) hx hb hG.1 hI.2 (jm_w_D B κ h) hS a cd (by rw [jm_w_get ha, hcell]; rfl) (htq κ) hin hd (fun H1 locs1 hP1 _ hS1 => ?_)
        refine KP ls H1 locs1 rfl (jm_sl_set (by rw [hcell]; rfl)) hJ ?_ hS1
        rw [← jm_w_set]
        have e1 : (B + a, jm_e B κ (.inl (cd, n, .inr (.inr (.inr (.inr (va_up f i.toNatClampNeg none))))))) = (B + a, .inl (κ cd, n, .inr (.inr (.inr (.inr (va_up (fun j => (f j).map (fun k => B + k)) i.toNatClampNeg none)))))) := by
          simp only [jm_e, jm_a]
          rw [jm_a_up]
          rfl
        rw [e1]
        exact hP1
      · cases hs
        obtain ⟨q, hq, htq⟩ := jm_ax_ok hax
        refine va_astq (f := fun j => (f j).map (fun k => B + k)) (vs := fs.map (jm_v B)) hx hb hG.1 hI.2 (jm_w_D B κ h) hS a cd b ci (by rw [jm_w_get ha, hcell]; rfl) (htq κ) (by rw [jm_w_get hbl, hcb]; rfl) hq hin hd (fun H1 locs1 hP1 _ hS1 => ?_)
        refine KP ls H1 locs1 rfl (jm_sl_set (by rw [hcell]; rfl)) hJ ?_ hS1
        rw [← jm_w_set]
        have e1 : (B + a, jm_e B κ (.inl (cd, n, .inr (.inr (.inr (.inr (va_up f i.toNatClampNeg (some b)))))))) = (B + a, .inl (κ cd, n, .inr (.inr (.inr (.inr (va_up (fun j => (f j).map (fun k => B + k)) i.toNatClampNeg (some (B + b)))))))) := by
          simp only [jm_e, jm_a]
          rw [jm_a_up]
          rfl
        rw [e1]
        exact hP1
    | arraylength =>
      obtain ⟨rfl, a, r, cd, n, f, rfl, ha, hcell, hcd, hs⟩ := hn
      cases hs
      obtain ⟨ty, hty⟩ := jm_tys_lt κ hcd
      exact va_alen (x := (n, jm_a B f)) hx hb hG.1 hI.2 a cd (by rw [jm_w_get ha, hcell]; rfl) hty rfl hd (hk ls H locs hc0 hc1 hJ hI hS)
    | new i =>
      obtain ⟨rfl, ci, hnw, hs⟩ := hn
      cases hs
      obtain ⟨Cn, T, N, hcl, hlink, hins, hini, hdl, hdf, hdm⟩ := jm_nw_ok hnw
      have es : jm_sl (h.1 + 1, jm_up h.2 h.1 (.inr (ci, jm_df ci))) = jm_sl h + N := by rw [jm_sl_new, ← hdl]; rfl
      have hg3 : h.1 + 1 ≤ h1.1 := hg1
      have hg4 : jm_sl h + N ≤ jm_sl h1 := by rw [← es]; exact hg2
      refine va_new (ci := ci) (fs := (jm_df ci).map (jm_v B)) hx hb hts (fun w hw => (jm_cl_ok hcl).1 w hw) (jm_ty ci) (jm_cl_ok hcl).2.1 hown (hts _ hlink) (hts _ hins) (hts _ hini) hG.1 hI.2 (jm_w_D B κ h) hS hA hcl (fun j hj => by rw [hdm]; exact hdf j hj) (by show h.1 - h0.1 + 1 ≤ h1.1 - h0.1; omega) (by show jm_sl h - jm_sl h0 + N ≤ jm_sl h1 - jm_sl h0; omega) hd (fun q H1 hP1 hD1 hS1 => ?_)
      exact KN ls H1 locs q N (.inr (ci, jm_df ci)) rfl rfl es hJ hP1 hD1 hS1 _ rfl
    | newarray t =>
      obtain ⟨rfl, n, r, rfl, hn0, hn1, ⟨rfl, hs⟩ | ⟨rfl, hs⟩⟩ := hn
      · cases hs
        have es : jm_sl (h.1 + 1, jm_up h.2 h.1 (.inl (0, n.toNatClampNeg, (.inl (fun _ => 0))))) = jm_sl h + n.toNatClampNeg := jm_sl_new
        have hg3 : h.1 + 1 ≤ h1.1 := hg1
        have hg4 : jm_sl h + n.toNatClampNeg ≤ jm_sl h1 := by rw [← es]; exact hg2
        refine va_newa (atype := .int) (ty := .int) (N' := n.toNatClampNeg) (a0 := (n.toNatClampNeg, (.inl (fun _ => 0)))) hx hb (hts _ jm_gw_int) rfl hG.1 hI.2 (jm_w_D B κ h) hS hA (fun cA => rfl) hn0 rfl (by show n.toNatClampNeg * 4 ≤ 536870912; omega) (by show h.1 - h0.1 + 1 ≤ h1.1 - h0.1; omega) (by show jm_sl h - jm_sl h0 + n.toNatClampNeg ≤ jm_sl h1 - jm_sl h0; omega) hd (fun q cA H1 hK1 hP1 hD1 hS1 => ?_)
        have ek : cA = κ 0 := jm_cA (k := 0) (t := .int) hG.1 hK1 rfl rfl
        subst ek
        exact KN ls H1 locs q n.toNatClampNeg (.inl (0, n.toNatClampNeg, (.inl (fun _ => 0)))) rfl rfl es hJ hP1 hD1 hS1 _ rfl
      · cases hs
        have es : jm_sl (h.1 + 1, jm_up h.2 h.1 (.inl (1, n.toNatClampNeg, (.inr (.inl (fun _ => 0)))))) = jm_sl h + n.toNatClampNeg := jm_sl_new
        have hg3 : h.1 + 1 ≤ h1.1 := hg1
        have hg4 : jm_sl h + n.toNatClampNeg ≤ jm_sl h1 := by rw [← es]; exact hg2
        refine va_newa (atype := .long) (ty := .long) (N' := n.toNatClampNeg) (a0 := (n.toNatClampNeg, (.inr (.inl (fun _ => 0))))) hx hb (hts _ jm_gw_long) rfl hG.1 hI.2 (jm_w_D B κ h) hS hA (fun cA => rfl) hn0 rfl (by show n.toNatClampNeg * 8 ≤ 536870912; omega) (by show h.1 - h0.1 + 1 ≤ h1.1 - h0.1; omega) (by show jm_sl h - jm_sl h0 + n.toNatClampNeg ≤ jm_sl h1 - jm_sl h0; omega) hd (fun q cA H1 hK1 hP1 hD1 hS1 => ?_)
        have ek : cA = κ 1 := jm_cA (k := 1) (t := .long) hG.1 hK1 rfl rfl
        subst ek
        exact KN ls H1 locs q n.toNatClampNeg (.inl (1, n.toNatClampNeg, (.inr (.inl (fun _ => 0))))) rfl rfl es hJ hP1 hD1 hS1 _ rfl
    | anewarray i =>
      obtain ⟨rfl, n, r, cd, rfl, hna, hn0, hn1, hs⟩ := hn
      cases hs
      obtain ⟨ci, Cn, T, N, hax, hcl, hlink, hao⟩ := jm_na_ok hna
      obtain ⟨q0, hq0, htq⟩ := jm_ax_ok hax
      have eC : q0 = (Cn, T, N) := Option.some.inj (hq0.symm.trans hcl)
      subst eC
      have es : jm_sl (h.1 + 1, jm_up h.2 h.1 (.inl (cd, n.toNatClampNeg, .inr (.inr (.inr (.inr (fun _ => none))))))) = jm_sl h + n.toNatClampNeg := jm_sl_new
      have hg3 : h.1 + 1 ≤ h1.1 := hg1
      have hg4 : jm_sl h + n.toNatClampNeg ≤ jm_sl h1 := by rw [← es]; exact hg2
      refine va_newq (C := Cn) (N' := n.toNatClampNeg) hx hb hown (hts _ hlink) (hG.2.1 _ hao) hG.1 hI.2 (jm_w_D B κ h) hS hA hn0 rfl (by omega) (by show h.1 - h0.1 + 1 ≤ h1.1 - h0.1; omega) (by show jm_sl h - jm_sl h0 + n.toNatClampNeg ≤ jm_sl h1 - jm_sl h0; omega) hd (fun q cA H1 hK1 hP1 hD1 hS1 => ?_)
      have ek : cA = κ cd := jm_cA (k := cd) (t := .object Cn) hG.1 hK1 (htq κ) rfl
      subst ek
      exact KN ls H1 locs q n.toNatClampNeg (.inl (cd, n.toNatClampNeg, .inr (.inr (.inr (.inr (fun _ => none)))))) rfl rfl es hJ hP1 hD1 hS1 _ rfl
    | invokevirtual i =>
      obtain ⟨rfl, y, a, ci, fs, As, r, rv, t, hm, rfl, hAl, hct, ha, hcell, hrc, hcr, hcall, hs⟩ := hn
      cases hs
      obtain ⟨hyN, hlink, hinst, hsel, hini, q0, hq0, hq1⟩ := jm_ml0 hm
      obtain ⟨⟨g1, g2⟩, hM⟩ := hC _ _ _ _ _ hcall
      subst hrc
      have hM : Met l (jm_y y) (jm_ws y) (jm_rm y h h') (jm_Pc B κ D (.ref a :: As) h) (jm_Qc B κ D rv h') (h'.1 - h.1) (jm_sl h' - jm_sl h) (jm_A B) := hM
      refine jm_callW (y := y) (vs := .ref a :: As) (h := h) (t := h') (r := rv) (rest := r) (va_runV (C := (jm_y y).cls) (n := jm_np y) (b := B + a) (As := As.map (jm_v B)) ⟨hx, hb, hml, hown, hts⟩ hM ⟨callB_of (jm_np y) hts (jm_good hyN) rfl rfl rfl (hts _ hini) (hts _ hlink) (jm_y_ok hyN) (jm_cr_ok hcr), hts _ hinst, hts _ hsel⟩ ⟨jm_blind, by rw [← hq1]; exact va_recv (fs := fs.map (jm_v B)) hG.1 hI.2 hq0 (by rw [jm_w_get ha, hcell]; rfl), fun U hU hW => ⟨rfl, hG.warm hW, by rw [hU]; exact hI⟩⟩ rfl (by simpa using hAl) hJ.1 (by simp [jm_v]) (lv_room (by rw [jm_ct_map]; exact hct)) hd ⟨by show h.1 - h0.1 + (h'.1 - h.1) ≤ h1.1 - h0.1; omega, by show jm_sl h - jm_sl h0 + (jm_sl h' - jm_sl h) ≤ jm_sl h1 - jm_sl h0; omega⟩) hS ?_
      intro H1 locs1 hI1 hS1
      exact W.widen (by omega) (by omega) (hk ls H1 locs1 (by omega) (by omega) hJ hI1 hS1)
    | invokestatic i =>
      obtain ⟨rfl, y, As, r, rv, t, hm, rfl, hAl, hct, hcr, hcall, hs⟩ := hn
      cases hs
      obtain ⟨hyN, hlink, hstat, hini⟩ := jm_ml1 hm
      obtain ⟨⟨g1, g2⟩, hM⟩ := hC _ _ _ _ _ hcall
      have hM : Met l (jm_y y) (jm_ws y) (jm_rm y h h') (jm_Pc B κ D (As) h) (jm_Qc B κ D rv h') (h'.1 - h.1) (jm_sl h' - jm_sl h) (jm_A B) := hM
      refine jm_callW (y := y) (vs := As) (h := h) (t := h') (r := rv) (rest := r) (va_runS (n := jm_np y) (As := As.map (jm_v B)) ⟨hx, hb, hml, hown, hts⟩ hM ⟨callB_of (jm_np y) hts (jm_good hyN) rfl rfl rfl (hts _ hini) (hts _ hlink) (jm_y_ok hyN) (jm_cr_ok hcr), hts _ hstat⟩ ⟨jm_blind, fun U hU hW => ⟨rfl, hG.warm hW, by rw [hU]; exact hI⟩⟩ rfl (by simpa using hAl) hJ.1 (by simp) (lv_room (by rw [jm_ct_map]; exact hct)) hd ⟨by show h.1 - h0.1 + (h'.1 - h.1) ≤ h1.1 - h0.1; omega, by show jm_sl h - jm_sl h0 + (jm_sl h' - jm_sl h) ≤ jm_sl h1 - jm_sl h0; omega⟩) hS ?_
      intro H1 locs1 hI1 hS1
      exact W.widen (by omega) (by omega) (hk ls H1 locs1 (by omega) (by omega) hJ hI1 hS1)
    | invokespecial i =>
      obtain ⟨rfl, ⟨a, r, hm, rfl, hct, hor, hs⟩ | ⟨kd, y, a, As, r, rv, t, hm, hkd, rfl, hAl, hct, hcr, hcall, hs⟩⟩ := hn
      · cases hs
        obtain ⟨o1, o2, o3⟩ := jm_ml4 hm
        exact W.objInit hx hb hown (hts _ o1) (hts _ o2) (hts _ o3) rfl (hJ.1.trans hml.symm) rfl hd (jm_or_ok hor).1 (by show 2 * 0 + ((st'.map (jm_v B)).map fun v => v.category).sum + 12 ≤ jm_lw M; have := (jm_or_ok hor).2; rw [jm_ct_map]; omega) (hk ls H locs hc0 hc1 hJ hI hS)
      · cases hs
        obtain ⟨⟨g1, g2⟩, hM⟩ := hC _ _ _ _ _ hcall
        have hM : Met l (jm_y y) (jm_ws y) (jm_rm y h h') (jm_Pc B κ D (.ref a :: As) h) (jm_Qc B κ D rv h') (h'.1 - h.1) (jm_sl h' - jm_sl h) (jm_A B) := hM
        rcases hkd with rfl | rfl
        · obtain ⟨hyN, hlink, hinst, hini, hin1, hret⟩ := jm_ml2 hm
          refine jm_callW (y := y) (vs := .ref a :: As) (h := h) (t := h') (r := rv) (rest := r) (va_runI (n := jm_np y) (b := B + a) (As := As.map (jm_v B)) ⟨hx, hb, hml, hown, hts⟩ hM ⟨callB_of (jm_np y) hts (jm_good hyN) (by rw [← hret]; rfl) rfl rfl (hts _ hini) (hts _ hlink) (jm_y_ok hyN) (jm_cr_ok hcr), hin1, hts _ hinst⟩ ⟨jm_blind, fun U hU hW => ⟨rfl, hG.warm hW, by rw [hU]; exact hI⟩⟩ rfl (by simpa using hAl) hJ.1 (by simp [jm_v]) (lv_room (by rw [jm_ct_map]; exact hct)) hd ⟨by show h.1 - h0.1 + (h'.1 - h.1) ≤ h1.1 - h0.1; omega, by show jm_sl h - jm_sl h0 + (jm_sl h' - jm_sl h) ≤ jm_sl h1 - jm_sl h0; omega⟩) hS ?_
          intro H1 locs1 hI1 hS1
          exact W.widen (by omega) (by omega) (hk ls H1 locs1 (by omega) (by omega) hJ hI1 hS1)
        · obtain ⟨hyN, host, hlink, hinst, hini, hin1, hret⟩ := jm_ml3 hm
          refine jm_callW (y := y) (vs := .ref a :: As) (h := h) (t := h') (r := rv) (rest := r) (va_runIN (host := host) (n := jm_np y) (b := B + a) (As := As.map (jm_v B)) ⟨hx, hb, hml, hown, hts⟩ hM ⟨va_cnB (jm_np y) hts (jm_good hyN) (by rw [← hret]; rfl) rfl rfl (hG.2.2 _ hlink) (hts _ hini) (jm_y_ok hyN) (jm_cr_ok hcr), hin1, hts _ hinst⟩ ⟨jm_blind, fun U hU hW => ⟨rfl, hG.warm hW, by rw [hU]; exact hI⟩⟩ rfl (by simpa using hAl) hJ.1 (by simp [jm_v]) (lv_room (by rw [jm_ct_map]; exact hct)) hd ⟨by show h.1 - h0.1 + (h'.1 - h.1) ≤ h1.1 - h0.1; omega, by show jm_sl h - jm_sl h0 + (jm_sl h' - jm_sl h) ≤ jm_sl h1 - jm_sl h0; omega⟩) hS ?_
          intro H1 locs1 hI1 hS1
          exact W.widen (by omega) (by omega) (hk ls H1 locs1 (by omega) (by omega) hJ hI1 hS1)
    | _ => exact hn.elim
  · have hd : decode (jm_b M) pc = .ok (ins, len) := hd
    have hr : jm_rn M ins len st r := hr
    have hr1 : r = r1 := hr1
    have hh1 : h = h1 := hh1
    subst hr1
    subst hh1
    refine ⟨⟨Nat.le_refl _, Nat.le_refl _⟩, ?_⟩
    intro ls H locs hc0 hc1 hJ hI hS
    have hI : jm_I B κ D h H := hI
    cases ins with
    | ireturn =>
      obtain ⟨rfl, x, ty, rfl, hty, hnar, rfl⟩ := hr
      exact W.zret hx hb (hrt.trans hty) hnar (fun t ht hW => ⟨rfl, by rw [ht]; exact hI, hS.F ht⟩) hS.2.2 hd hlk
    | lreturn =>
      obtain ⟨rfl, x, rfl, hty, rfl⟩ := hr
      exact W.lret hx hb (hrt.trans hty) (fun t ht hW => ⟨rfl, by rw [ht]; exact hI, hS.F ht⟩) hS.2.2 hd hlk
    | return_ =>
      obtain ⟨rfl, rfl, hty, rfl⟩ := hr
      exact W.vret hx hb (hrt.trans hty) (fun t ht hW => ⟨rfl, by rw [ht]; exact hI, hS.F ht⟩) hS.2.2 hd hlk
    | _ => exact hr.elim
theorem jm_wp_grow (hC : ∀ y vs h r t, C y vs h r t → h.1 ≤ t.1 ∧ jm_sl h ≤ jm_sl t) : ∀ q : jm_S, jm_wp C M (fun r h => r = r1 ∧ h = h1) q → q.2.2.2.1 ≤ h1.1 ∧ jm_sl q.2.2.2 ≤ jm_sl h1 := by
  intro q hw
  refine hw (fun q => q.2.2.2.1 ≤ h1.1 ∧ jm_sl q.2.2.2 ≤ jm_sl h1) ?_
  rintro ⟨pc, lv, st, h⟩ ⟨ins, len, hd, ⟨s', hn, hg⟩ | ⟨r, hr, hr1, hh1⟩⟩
  · have gr := jm_grow hC hn
    exact ⟨Nat.le_trans gr.1 hg.1, Nat.le_trans gr.2 hg.2⟩
  · have hh1 : h = h1 := hh1
    subst hh1
    exact ⟨Nat.le_refl _, Nat.le_refl _⟩
end JMT
theorem jm_met (l : Launch) (B : Nat) (κ : Nat → ClassId) (D : va_G) : ∀ (d y : Nat) (vs : List Value) (h : jm_H) (r : Option Value) (t : jm_H), jm_call d y vs h r t → (h.1 ≤ t.1 ∧ jm_sl h ≤ jm_sl t) ∧ jm_Met l B κ D y vs h r t
  | 0, _, _, _, _, _, hc => hc.elim
  | d + 1, y, vs, h, r, t, hc => by
    have ih := jm_met l B κ D d
    refine ⟨jm_wp_grow (fun y vs h r t hc => (ih y vs h r t hc).1) _ hc.2, ?_⟩
    refine va_MetF (cc := jm_b y) (maxL := jm_nl y) (ret := jm_rt y) (jm_plain y) rfl ?_
    intro p e s m args below meth c s₁ Bd hml hv
    obtain ⟨rfl, hG, hI⟩ := hv
    have hl0 := lv_entry (vs.map (jm_v B)) (n := jm_nl y) (by rw [jm_sl_len]; exact hc.1)
    rw [lg_entry_eq]
    generalize (lg_sl (vs.map (jm_v B)) ++ List.replicate (jm_nl y - (lg_sl (vs.map (jm_v B))).length) Slot.unset).toArray = ls at hl0 ⊢
    have Z := jm_sim (h0 := h) (h1 := t) (r1 := r) (below := below) (e := e) ih ⟨Bd.exec, Bd.bytes, hml, Bd.returns, Bd.notSynchronized, fun w hw => atoms_spec (ws := jm_ws y) Bd.pre w (List.mem_cons_of_mem _ hw), findClass_of_methodNamed Bd.named, (name_of_methodNamed Bd.named Bd.method).1, hG⟩ hI.1 _ hc.2
    have h5 := Z.2 ls s.heap [] (Nat.le_refl _) (Nat.le_refl _) (jm_J_entry hl0) hI va_S.rf
    simp only [Nat.sub_self, List.map_nil] at h5
    exact h5
