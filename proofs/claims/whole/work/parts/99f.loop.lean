section
variable {p : Program} {l : Launch} {e : Env} {s : State} {m : MethodId} {below : List Frame} {meth : Method} {c : Code} {b L : Nat} {xs : Nat → Int32} {κ : Nat → ClassId} {D : va_G}
set_option maxHeartbeats 4000000 in
/-- the loop over the calls -/
theorem law_loop (h0 : LA p s m c b L xs κ D) (hr : meth.sig.returnType = ret) (hlocks : meth.locks = false) (hL : L ≤ 2560) : ∀ (r k n : Nat) (f : Nat → va_E), L ≤ 5 * (k + r) + 4 → 5 * k ≤ L → inv n f → n ≤ 61 + 3 * k → LW p l e s m below meth c b κ D 18 (5 * k) n f [] := by
  intro r
  induction r with
  | zero =>
    intro k n f h1 h1b h2 h3 H locs ls hI hS hl
    obtain ⟨hx, hb, hml, hown, hts, hG, hX, hbl⟩ := h0
    have hbA : ¬ jm_A s.heap.size b := fun h => Nat.not_le.mpr hbl h
    refine lv_iload_n hx hb d_law_18 rfl (lv_at hl 0 rfl) ?_
    refine lv_aload_n hx hb d_law_19 rfl (lv_at hl 3 rfl) ?_
    refine va_slen hx hb hX hbl hbA hS d_law_20 ?_
    refine lv_iconst (v := 5) hx hb d_law_21 (by decide) ?_
    refine lv_isub hx hb d_law_22 ?_
    refine lv_icmp_gt (tgt := 768) hx hb d_law_23 (by decide) (fun _ => ?_) (fun h => absurd ?_ h)
    · have hsl := inv_sl h2
      refine lv_iconst (v := 1) hx hb d_law_768 (by decide) ?_
      refine va_forget (fun q hq => hS.2.2 q hq) ?_
      refine W.widen (k := 600000) (n := 7302250) (by omega) (by omega) ?_
      exact lw_ret hx hb hr hlocks d_law_769
    · rw [Int32.lt_iff_toInt_lt]
      have e5 : (5 : Int32).toInt = 5 := by decide
      have eL : (Int32.ofNat L).toInt = (L : Int) := nI_toInt (by omega)
      rw [i32_sub (by rw [e5, eL]; omega) (by rw [e5, eL]; omega), e5, eL, nI_toInt (by omega)]
      omega
  | succ r ih =>
    intro k n f h1 h1b h2 h3 H locs ls hI hS hl
    have h0' := h0
    obtain ⟨hx, hb, hml, hown, hts, hG, hX, hbl⟩ := h0
    have hbA : ¬ jm_A s.heap.size b := fun h => Nat.not_le.mpr hbl h
    refine lv_iload_n hx hb d_law_18 rfl (lv_at hl 0 rfl) ?_
    refine lv_aload_n hx hb d_law_19 rfl (lv_at hl 3 rfl) ?_
    refine va_slen hx hb hX hbl hbA hS d_law_20 ?_
    refine lv_iconst (v := 5) hx hb d_law_21 (by decide) ?_
    refine lv_isub hx hb d_law_22 ?_
    have e5 : (5 : Int32).toInt = 5 := by decide
    have eL : (Int32.ofNat L).toInt = (L : Int) := nI_toInt (by omega)
    have ec : (Int32.ofNat L - 5 < nI (5 * k)) ↔ L < 5 * k + 5 := by
      rw [Int32.lt_iff_toInt_lt, i32_sub (by rw [e5, eL]; omega) (by rw [e5, eL]; omega), e5, eL, nI_toInt (by omega)]
      omega
    refine lv_icmp_gt (tgt := 768) hx hb d_law_23 (by decide) (fun _ => ?_) (fun hng => ?_)
    · have hsl := inv_sl h2
      refine lv_iconst (v := 1) hx hb d_law_768 (by decide) ?_
      refine va_forget (fun q hq => hS.2.2 q hq) ?_
      refine W.widen (k := 600000) (n := 7302250) (by omega) (by omega) ?_
      exact lw_ret hx hb hr hlocks d_law_769
    · have hi : 5 * k + 5 ≤ L := by
        rw [ec] at hng
        omega
      -- behind a call
      have cont : ∀ n2 f2, inv n2 f2 → n2 ≤ n + 3 → LW p l e s m below meth c b κ D 762 (5 * k) n2 f2 [] := by
        intro n2 f2 c1 c2 H2 locs2 ls2 hI2 hS2 hl2
        refine lv_iinc (k := 0) (v := nI (5 * (k + 1))) hx hb d_law_762 hl2 rfl (nI_add (5 * k) 5) (by decide) rfl (fun ls3 hl3 => ?_)
        refine lv_goto (tgt := 18) hx hb d_law_765 (by decide) ?_
        exact ih (k + 1) n2 f2 (by omega) (by omega) c1 (by omega) H2 locs2 ls3 hI2 hS2 hl3
      refine lv_aload_n hx hb d_law_26 rfl (lv_at hl 3 rfl) ?_
      refine lv_iload_n hx hb d_law_27 rfl (lv_at hl 0 rfl) ?_
      refine va_sld hx hb hX hbl hbA hS (vp_in_nI (show 5 * k < L by omega) (by omega)) d_law_28 ?_
      refine lv_bipush (v := 31) hx hb d_law_29 (by decide) ?_
      refine lv_iand hx hb d_law_31 ?_
      obtain ⟨j, hj, ej⟩ := pk_andE (xs (nI (5 * k)).toNatClampNeg) (m := 31) 5 (by decide)
      rw [ej]
      have hj : j < 32 := hj
      have ejt : (nI j).toInt = (j : Int) := nI_toInt (by omega)
      by_cases h20 : j < 20
      · have hq : j = 0 ∨ j = 1 ∨ j = 2 ∨ j = 3 ∨ j = 4 ∨ j = 5 ∨ j = 6 ∨ j = 7 ∨ j = 8 ∨ j = 9 ∨ j = 10 ∨ j = 11 ∨ j = 12 ∨ j = 13 ∨ j = 14 ∨ j = 15 ∨ j = 16 ∨ j = 17 ∨ j = 18 ∨ j = 19 := by omega
        rcases hq with rfl | rfl | rfl | rfl | rfl | rfl | rfl | rfl | rfl | rfl | rfl | rfl | rfl | rfl | rfl | rfl | rfl | rfl | rfl | rfl
        · exact lv_tableIn (tgt := 128) (off := 96) hx hb d_law_32 (by rw [ejt]; decide) (by rw [ejt]; decide) (by rw [ejt]; rfl) (by decide) (law_0 h0' hL hi (by omega) h2 cont H locs ls hI hS hl)
        · exact lv_tableIn (tgt := 161) (off := 129) hx hb d_law_32 (by rw [ejt]; decide) (by rw [ejt]; decide) (by rw [ejt]; rfl) (by decide) (law_1 h0' hL hi (by omega) h2 cont H locs ls hI hS hl)
        · exact lv_tableIn (tgt := 184) (off := 152) hx hb d_law_32 (by rw [ejt]; decide) (by rw [ejt]; decide) (by rw [ejt]; rfl) (by decide) (law_2 h0' hL hi (by omega) h2 cont H locs ls hI hS hl)
        · exact lv_tableIn (tgt := 217) (off := 185) hx hb d_law_32 (by rw [ejt]; decide) (by rw [ejt]; decide) (by rw [ejt]; rfl) (by decide) (law_3 h0' hL hi (by omega) h2 cont H locs ls hI hS hl)
        · exact lv_tableIn (tgt := 270) (off := 238) hx hb d_law_32 (by rw [ejt]; decide) (by rw [ejt]; decide) (by rw [ejt]; rfl) (by decide) (law_4 h0' hL hi (by omega) h2 cont H locs ls hI hS hl)
        · exact lv_tableIn (tgt := 323) (off := 291) hx hb d_law_32 (by rw [ejt]; decide) (by rw [ejt]; decide) (by rw [ejt]; rfl) (by decide) (law_5 h0' hL hi (by omega) h2 cont H locs ls hI hS hl)
        · exact lv_tableIn (tgt := 346) (off := 314) hx hb d_law_32 (by rw [ejt]; decide) (by rw [ejt]; decide) (by rw [ejt]; rfl) (by decide) (law_6 h0' hL hi (by omega) h2 cont H locs ls hI hS hl)
        · exact lv_tableIn (tgt := 359) (off := 327) hx hb d_law_32 (by rw [ejt]; decide) (by rw [ejt]; decide) (by rw [ejt]; rfl) (by decide) (law_7 h0' hL hi (by omega) h2 cont H locs ls hI hS hl)
        · exact lv_tableIn (tgt := 372) (off := 340) hx hb d_law_32 (by rw [ejt]; decide) (by rw [ejt]; decide) (by rw [ejt]; rfl) (by decide) (law_8 h0' hL hi (by omega) h2 cont H locs ls hI hS hl)
        · exact lv_tableIn (tgt := 385) (off := 353) hx hb d_law_32 (by rw [ejt]; decide) (by rw [ejt]; decide) (by rw [ejt]; rfl) (by decide) (law_9 h0' hL hi (by omega) h2 cont H locs ls hI hS hl)
        · exact lv_tableIn (tgt := 418) (off := 386) hx hb d_law_32 (by rw [ejt]; decide) (by rw [ejt]; decide) (by rw [ejt]; rfl) (by decide) (law_10 h0' hL hi (by omega) h2 cont H locs ls hI hS hl)
        · exact lv_tableIn (tgt := 461) (off := 429) hx hb d_law_32 (by rw [ejt]; decide) (by rw [ejt]; decide) (by rw [ejt]; rfl) (by decide) (law_11 h0' hL hi (by omega) h2 cont H locs ls hI hS hl)
        · exact lv_tableIn (tgt := 494) (off := 462) hx hb d_law_32 (by rw [ejt]; decide) (by rw [ejt]; decide) (by rw [ejt]; rfl) (by decide) (law_12 h0' hL hi (by omega) h2 cont H locs ls hI hS hl)
        · exact lv_tableIn (tgt := 537) (off := 505) hx hb d_law_32 (by rw [ejt]; decide) (by rw [ejt]; decide) (by rw [ejt]; rfl) (by decide) (law_13 h0' hL hi (by omega) h2 cont H locs ls hI hS hl)
        · exact lv_tableIn (tgt := 560) (off := 528) hx hb d_law_32 (by rw [ejt]; decide) (by rw [ejt]; decide) (by rw [ejt]; rfl) (by decide) (law_14 h0' hL hi (by omega) h2 cont H locs ls hI hS hl)
        · exact lv_tableIn (tgt := 573) (off := 541) hx hb d_law_32 (by rw [ejt]; decide) (by rw [ejt]; decide) (by rw [ejt]; rfl) (by decide) (law_15 h0' hL hi (by omega) h2 cont H locs ls hI hS hl)
        · exact lv_tableIn (tgt := 597) (off := 565) hx hb d_law_32 (by rw [ejt]; decide) (by rw [ejt]; decide) (by rw [ejt]; rfl) (by decide) (law_16 h0' hL hi (by omega) h2 cont H locs ls hI hS hl)
        · exact lv_tableIn (tgt := 631) (off := 599) hx hb d_law_32 (by rw [ejt]; decide) (by rw [ejt]; decide) (by rw [ejt]; rfl) (by decide) (law_17 h0' hL hi (by omega) h2 cont H locs ls hI hS hl)
        · exact lv_tableIn (tgt := 674) (off := 642) hx hb d_law_32 (by rw [ejt]; decide) (by rw [ejt]; decide) (by rw [ejt]; rfl) (by decide) (law_18 h0' hL hi (by omega) h2 cont H locs ls hI hS hl)
        · exact lv_tableIn (tgt := 718) (off := 686) hx hb d_law_32 (by rw [ejt]; decide) (by rw [ejt]; decide) (by rw [ejt]; rfl) (by decide) (law_19 h0' hL hi (by omega) h2 cont H locs ls hI hS hl)
      · exact lv_tableOut (tgt := 762) hx hb d_law_32 (.inr (by rw [ejt]; omega)) (by decide) (cont n f h2 (by omega) H locs ls hI hS hl)
end
section
variable {p : Program} {l : Launch} {e : Env} {s : State} {m : MethodId} {below : List Frame} {meth : Method} {c : Code} {b L : Nat} {xs : Nat → Int32} {κ : Nat → ClassId} {D : va_G}
set_option maxHeartbeats 4000000 in
theorem law_new {Q : State → Prop} {idx ci pc Nn : Nat} {C : String} {T : u_T} {rest : List Value} {h : jm_H} {ls : Array Slot} {H : Heap} {locs : List Loc} (hx : p.tables.exec = Jvm.exec) (hb : c.code = code) (hown : s.vm.findClass R_law = some m.cls) (hts : ∀ w ∈ jm_gw, w.before #[Value.ref b] s = true) (hG : jm_G κ D s)
    (hcl : jm_cl[ci]? = some (C, T, Nn)) (hlink : Cond.classLink R_law idx C ∈ jm_gw) (hins : Cond.instantiable C Nn ∈ jm_gw) (hini : Cond.initialized C ∈ jm_gw) (hI : jm_I s.heap.size κ D h H) (hS : va_S (jm_A s.heap.size) s.heap H locs) (hd : decode code pc = .ok (.new idx, 3)) (hc1 : h.1 + 1 ≤ 600000) (hc2 : jm_sl h + Nn ≤ 7302250)
    (kk : ∀ (H1 : Heap), jm_I s.heap.size κ D (h.1 + 1, jm_up h.2 h.1 (.inr (ci, jm_df ci))) H1 → va_S (jm_A s.heap.size) s.heap H1 locs → W p l e room_1 s m #[Value.ref b] below meth c H1 locs (h.1 + 1) (jm_sl h + Nn) Q (F0 m (pc + 3) ls (.ref (s.heap.size + h.1) :: rest))) :
    W p l e room_1 s m #[Value.ref b] below meth c H locs h.1 (jm_sl h) Q (F0 m pc ls rest) := by
  have hA : ∀ q : Nat, s.heap.size ≤ q → jm_A s.heap.size q := fun q hq => hq
  refine va_new (ci := ci) (fs := (jm_df ci).map (jm_v s.heap.size)) hx hb hts (fun w hw => (jm_cl_ok hcl).1 w hw) (jm_ty ci) (jm_cl_ok hcl).2.1 hown (hts _ hlink) (hts _ hins) (hts _ hini) hG.1 hI.2 (jm_w_D s.heap.size κ h) hS hA hcl (fun j hj => by rw [jm_df_map]; exact (jm_df_ok hcl).2 j hj) (by show h.1 + 1 ≤ 600000; omega) (by show jm_sl h + Nn ≤ 7302250; omega) hd (fun q H1 hP1 hD1 hS1 => ?_)
  refine jm_size fun hz => ?_
  have h3 := hS1.1
  have eq := jm_q (x := jm_e s.heap.size κ (.inr (ci, jm_df ci))) hP1 hD1 (by omega)
  subst eq
  have hP2 : va_P D jm_cl (jm_w s.heap.size κ h ++ [(s.heap.size + h.1, jm_e s.heap.size κ (.inr (ci, jm_df ci)))]) H1 := hP1
  rw [jm_w_new] at hP2
  exact kk H1 (jm_I_of hP2 (by show H1.size ≤ s.heap.size + (h.1 + 1); omega) (by omega)) hS1
set_option maxHeartbeats 4000000 in
theorem law_init {Q : State → Prop} {y idx a d pc : Nat} {rest : List Value} {h t : jm_H} {ls : Array Slot} {H : Heap} {locs : List Loc} {slots : Nat} (hx : p.tables.exec = Jvm.exec) (hb : c.code = code) (hml : c.maxLocals = 4) (hown : s.vm.findClass R_law = some m.cls) (hts : ∀ w ∈ jm_gw, w.before #[Value.ref b] s = true) (hG : jm_G κ D s)
    (hm : jm_ml 12 idx = some (2, y)) (hnp : jm_np y = 0) (hcr : jm_dp y + 1 ≤ 9 ∧ 8 + (jm_nl y + 11) + jm_lw y ≤ 340) (hcall : jm_call d y [.ref a] h none t) (hct : jm_ct rest ≤ 8) (hI : jm_I s.heap.size κ D h H) (hS : va_S (jm_A s.heap.size) s.heap H locs) (hsz : ls.size = 4) (hd : decode code pc = .ok (.invokespecial idx, 3)) (hsl : slots = jm_sl h) (hc1 : t.1 ≤ 600000) (hc2 : jm_sl t ≤ 7302250)
    (kk : ∀ (H1 : Heap) (locs1 : List Loc), jm_I s.heap.size κ D t H1 → va_S (jm_A s.heap.size) s.heap H1 locs1 → W p l e room_1 s m #[Value.ref b] below meth c H1 locs1 t.1 (jm_sl t) Q (F0 m (pc + 3) ls (rest.map (jm_v s.heap.size)))) :
    W p l e room_1 s m #[Value.ref b] below meth c H locs h.1 slots Q (F0 m pc ls ((.ref a :: rest).map (jm_v s.heap.size))) := by
  subst hsl
  have hm1 := jm_ml_in (by decide) hm
  simp only [jm_m1, Bool.and_eq_true, decide_eq_true_eq] at hm1
  obtain ⟨⟨a1, a2⟩, ⟨⟨a3, a4⟩, a5⟩, a6⟩ := hm1
  obtain ⟨⟨g1, g2⟩, hM⟩ := jm_met l s.heap.size κ D d y _ h none t hcall
  have hM : Met l (jm_y y) (jm_ws y) (jm_rm y h t) (jm_Pc s.heap.size κ D [.ref a] h) (jm_Qc s.heap.size κ D none t) (t.1 - h.1) (jm_sl t - jm_sl h) (jm_A s.heap.size) := hM
  refine jm_callW (y := y) (vs := [.ref a]) (h := h) (t := t) (r := none) (rest := rest) (va_runI (n := jm_np y) (b := s.heap.size + a) (As := []) ⟨hx, hb, hml, hown, hts⟩ hM ⟨callB_of (jm_np y) hts (jm_good a1) (by rw [← a6]; rfl) rfl rfl (hts _ (jm_gw_in a2 rfl)) (hts (.methodLink R_law idx (jm_y y)) (jm_gw_in a3 rfl)) (jm_y_ok a1) hcr, a5, hts _ (jm_gw_in a4 rfl)⟩ ⟨jm_blind, fun U hU hW => ⟨rfl, hG.warm hW, by rw [hU]; exact hI⟩⟩ rfl (by rw [hnp]; rfl) hsz (by simp [jm_v]) (lv_room (by rw [jm_ct_map]; exact hct)) hd ⟨by show h.1 + (t.1 - h.1) ≤ 600000; omega, by show jm_sl h + (jm_sl t - jm_sl h) ≤ 7302250; omega⟩) hS ?_
  intro H1 locs1 hI1 hS1
  rw [Nat.add_sub_cancel' g1, Nat.add_sub_cancel' g2]
  exact kk H1 locs1 hI1 hS1
end
set_option maxHeartbeats 4000000 in
theorem whole_start {p : Program} {e : Env} {s : State} {m : MethodId} {below : List Frame} {meth : Method} {c : Code} (l : Launch) {b L : Nat} {xs : Nat → Int32} (hL : L ≤ 2560) (C0 : lw_At p s m meth c b L xs) : W p l e room_1 s m #[Value.ref b] below meth c s.heap [] 0 0 (lw_Z below #[Value.ref b] s) (entryFrame m ([Value.ref b] : List Value).toArray 4) := by
  obtain ⟨hx, hb, hr, hml, hown, htsL, hX, hbl, hlocks, hgv⟩ := C0
  have hts : ∀ w ∈ jm_gw, w.before #[Value.ref b] s = true := fun w hw => htsL w (List.mem_filter.mp hw).1
  obtain ⟨κ, D, hG⟩ := jm_G_start htsL
  have hS : va_S (jm_A s.heap.size) s.heap s.heap [] := va_S.rf
  have hI0 : jm_I s.heap.size κ D (0, fun _ => .inr (0, [])) s.heap := ⟨rfl, fun k q hq => by cases hq⟩
  have hl := lv_entry ([.ref b]) (n := 4) (Nat.le_of_ble_eq_true rfl)
  rw [lg_entry_eq]
  generalize (lg_sl ([.ref b]) ++ List.replicate (4 - (lg_sl ([.ref b])).length) Slot.unset).toArray = ls at hl ⊢
  have hl : lv_has ls 4 [(0, .ref b)] := hl
  obtain ⟨t, hc1, hst⟩ := c_B_init (f := jm_up (fun _ => .inr (0, [])) 0 (.inr (0, jm_df 0))) 0 rfl
  have hc2 := c_M_init (f := jm_up t 35 (.inr (11, jm_df 11))) 0 rfl
  have hinv := inv_start hst
  generalize jm_up (mi_hp (jm_up t 35 (.inr (11, jm_df 11))) 25) 36 (.inl (0, 24, .inl mi_par)) = F at hc2 hinv
  have g1 := inv_sl hinv
  have g2 := (jm_met l s.heap.size κ D 1 79 _ _ _ _ hc2).1
  have g3 : jm_sl (36, jm_up t 35 (.inr (11, jm_df 11))) ≤ jm_sl (61, F) := g2.2
  have e1 : jm_sl (1, jm_up (fun _ => .inr (0, [])) 0 (.inr (0, jm_df 0))) = jm_sl (0, fun _ => .inr (0, [])) + 8 := jm_sl_new (h := (0, fun _ => .inr (0, []))) (x := .inr (0, jm_df 0))
  have e2 : jm_sl (36, jm_up t 35 (.inr (11, jm_df 11))) = jm_sl (35, t) + 35 := jm_sl_new (h := (35, t)) (x := .inr (11, jm_df 11))
  refine law_new (idx := 7) (ci := 0) (h := (0, fun _ => .inr (0, []))) (rest := []) hx hb hown hts hG rfl (jm_gw_in (by decide +kernel) rfl) (jm_gw_in (by decide +kernel) rfl) (jm_gw_in (by decide +kernel) rfl) hI0 hS d_law_0 (Nat.le_of_ble_eq_true rfl) (Nat.le_of_ble_eq_true rfl) (fun H1 hI1 hS1 => ?_)
  refine lv_dup hx hb d_law_3 rfl ?_
  refine law_init (y := 0) (idx := 9) (a := 0) (rest := [.ref 0]) (h := (1, jm_up (fun _ => .inr (0, [])) 0 (.inr (0, jm_df 0)))) (t := (35, t)) hx hb hml hown hts hG (by decide +kernel) rfl ⟨Nat.le_of_ble_eq_true rfl, Nat.le_of_ble_eq_true rfl⟩ hc1 (Nat.le_of_ble_eq_true rfl) hI1 hS1 hl.1 d_law_4 e1.symm (Nat.le_of_ble_eq_true rfl) (show jm_sl (35, t) ≤ 7302250 by omega) ?_
  intro H2 locs2 hI2 hS2
  refine lv_astore_n (x := s.heap.size + 0) hx hb d_law_7 rfl hl (by decide) rfl (fun ls1 hl1 => ?_)
  refine law_new (idx := 10) (ci := 11) (h := (35, t)) (rest := []) hx hb hown hts hG rfl (jm_gw_in (by decide +kernel) rfl) (jm_gw_in (by decide +kernel) rfl) (jm_gw_in (by decide +kernel) rfl) hI2 hS2 d_law_8 (Nat.le_of_ble_eq_true rfl) (show jm_sl (35, t) + 35 ≤ 7302250 by omega) (fun H3 hI3 hS3 => ?_)
  refine lv_dup hx hb d_law_11 rfl ?_
  refine law_init (y := 79) (idx := 12) (a := 35) (rest := [.ref 35]) (h := (36, jm_up t 35 (.inr (11, jm_df 11)))) (t := (61, F)) hx hb hml hown hts hG (by decide +kernel) rfl ⟨Nat.le_of_ble_eq_true rfl, Nat.le_of_ble_eq_true rfl⟩ hc2 (Nat.le_of_ble_eq_true rfl) hI3 hS3 hl1.1 d_law_12 e2.symm (Nat.le_of_ble_eq_true rfl) (show jm_sl (61, F) ≤ 7302250 by omega) ?_
  intro H4 locs4 hI4 hS4
  refine lv_astore_n (x := s.heap.size + 35) hx hb d_law_15 rfl hl1 (by decide) rfl (fun ls2 hl2 => ?_)
  refine lv_iconst (v := nI (5 * 0)) hx hb d_law_16 rfl ?_
  refine lv_istore_n hx hb d_law_17 rfl hl2 (by decide) rfl (fun ls3 hl3 => ?_)
  exact law_loop ⟨hx, hb, hml, hown, hts, hG, hX, hbl⟩ hr hlocks hL 512 0 61 F (by omega) (by omega) hinv (by omega) H4 locs4 ls3 hI4 hS4 hl3
