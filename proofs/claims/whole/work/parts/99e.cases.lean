/-- what the walk of the law rests on -/
def LA (p : Program) (s : State) (m : MethodId) (c : Code) (b L : Nat) (xs : Nat → Int32) (κ : Nat → ClassId) (D : va_G) : Prop := p.tables.exec = Jvm.exec ∧ c.code = code ∧ c.maxLocals = 4 ∧ s.vm.findClass R_law = some m.cls ∧ (∀ w ∈ jm_gw, w.before #[Value.ref b] s = true) ∧ jm_G κ D s ∧ va_X b L xs s s.heap ∧ b < s.heap.size
/-- the law at a place, with the books in cells n and what they hold f -/
def LW (p : Program) (l : Launch) (e : Env) (s : State) (m : MethodId) (below : List Frame) (meth : Method) (c : Code) (b : Nat) (κ : Nat → ClassId) (D : va_G) (pc i n : Nat) (f : Nat → va_E) (st : List Value) : Prop := ∀ (H : Heap) (locs : List Loc) (ls : Array Slot), jm_I s.heap.size κ D (n, f) H → va_S (jm_A s.heap.size) s.heap H locs → lv_has ls 4 [(3, .int (nI i)), (2, .ref (s.heap.size + 35)), (1, .ref (s.heap.size + 0)), (0, .ref b)] → W p l e room_1 s m #[Value.ref b] below meth c H locs n (jm_sl (n, f)) (lw_Z below #[Value.ref b] s) (F0 m pc ls st)
section
variable {p : Program} {l : Launch} {e : Env} {s : State} {m : MethodId} {below : List Frame} {meth : Method} {c : Code} {b L : Nat} {xs : Nat → Int32} {κ : Nat → ClassId} {D : va_G}
set_option maxHeartbeats 4000000 in
theorem law_call {Q : State → Prop} {y idx a d pc : Nat} {As rest fs : List Value} {h t : jm_H} {r : Option Value} {ls : Array Slot} {H : Heap} {locs : List Loc} (hx : p.tables.exec = Jvm.exec) (hb : c.code = code) (hml : c.maxLocals = 4) (hown : s.vm.findClass R_law = some m.cls) (hts : ∀ w ∈ jm_gw, w.before #[Value.ref b] s = true) (hG : jm_G κ D s)
    (hm : jm_ml 12 idx = some (0, y)) (hcr : jm_dp y + 1 ≤ 9 ∧ 8 + (jm_nl y + 11) + jm_lw y ≤ 340) (hcall : jm_call d y (.ref a :: As) h r t) (hAl : As.length = jm_np y) (hct : jm_ct rest ≤ 8) (ha : a < h.1) (hcell : h.2 a = .inr (jm_rc y, fs)) (hI : jm_I s.heap.size κ D h H) (hS : va_S (jm_A s.heap.size) s.heap H locs) (hsz : ls.size = 4) (hd : decode code pc = .ok (.invokevirtual idx, 3)) (hc1 : t.1 ≤ 600000) (hc2 : jm_sl t ≤ 7302250)
    (kk : ∀ (H1 : Heap) (locs1 : List Loc), jm_I s.heap.size κ D t H1 → va_S (jm_A s.heap.size) s.heap H1 locs1 → W p l e room_1 s m #[Value.ref b] below meth c H1 locs1 t.1 (jm_sl t) Q (F0 m (pc + 3) ls ((r.toList ++ rest).map (jm_v s.heap.size)))) :
    W p l e room_1 s m #[Value.ref b] below meth c H locs h.1 (jm_sl h) Q (F0 m pc ls ((As.reverse ++ .ref a :: rest).map (jm_v s.heap.size))) := by
  have hm1 := jm_ml_in (by decide) hm
  simp only [jm_m1, Bool.and_eq_true, decide_eq_true_eq] at hm1
  obtain ⟨⟨a1, a2⟩, ⟨⟨a3, a4⟩, a5⟩, a6⟩ := hm1
  have hq : ∃ q, jm_cl[jm_rc y]? = some q ∧ q.1 = (jm_y y).cls := by
    cases hq : jm_cl[jm_rc y]? with
    | none => rw [hq] at a6; cases a6
    | some q =>
      rw [hq] at a6
      exact ⟨q, rfl, by simpa using a6⟩
  obtain ⟨q0, hq0, hq1⟩ := hq
  obtain ⟨⟨g1, g2⟩, hM⟩ := jm_met l s.heap.size κ D d y _ h r t hcall
  have hM : Met l (jm_y y) (jm_ws y) (jm_rm y h t) (jm_Pc s.heap.size κ D (.ref a :: As) h) (jm_Qc s.heap.size κ D r t) (t.1 - h.1) (jm_sl t - jm_sl h) (jm_A s.heap.size) := hM
  refine jm_callW (y := y) (vs := .ref a :: As) (h := h) (t := t) (r := r) (rest := rest) (va_runV (C := (jm_y y).cls) (n := jm_np y) (b := s.heap.size + a) (As := As.map (jm_v s.heap.size)) ⟨hx, hb, hml, hown, hts⟩ hM ⟨callB_of (jm_np y) hts (jm_good a1) rfl rfl rfl (hts _ (jm_gw_in a2 rfl)) (hts (.methodLink R_law idx (jm_y y)) (jm_gw_in a3 rfl)) (jm_y_ok a1) hcr, hts _ (jm_gw_in a4 rfl), hts _ (jm_gw_in a5 rfl)⟩ ⟨jm_blind, by rw [← hq1]; exact va_recv (fs := fs.map (jm_v s.heap.size)) hG.1 hI.2 hq0 (by rw [jm_w_get ha, hcell]; rfl), fun U hU hW => ⟨rfl, hG.warm hW, by rw [hU]; exact hI⟩⟩ rfl (by simpa using hAl) hsz (by simp [jm_v]) (lv_room (by rw [jm_ct_map]; exact hct)) hd ⟨by show h.1 + (t.1 - h.1) ≤ 600000; omega, by show jm_sl h + (jm_sl t - jm_sl h) ≤ 7302250; omega⟩) hS ?_
  intro H1 locs1 hI1 hS1
  rw [Nat.add_sub_cancel' g1, Nat.add_sub_cancel' g2]
  exact kk H1 locs1 hI1 hS1
theorem law_0 (h0 : LA p s m c b L xs κ D) (hL : L ≤ 2560) {i n : Nat} {f : Nat → va_E} (hi : i + 5 ≤ L) (hn : n ≤ 1900) (h : inv n f) (cont : ∀ n2 f2, inv n2 f2 → n2 ≤ n + 3 → LW p l e s m below meth c b κ D 762 i n2 f2 []) : LW p l e s m below meth c b κ D 128 i n f [] := by
  obtain ⟨hx, hb, hml, hown, hts, hG, hX, hbl⟩ := h0
  intro H locs ls hI hS hl
  have hbA : ¬ jm_A s.heap.size b := fun h => Nat.not_le.mpr hbl h
  obtain ⟨h61, fs0, hf0⟩ := inv_c h
  obtain ⟨d, v, n1, f1, n2, f2, q1, q2, q3, ⟨q4, fs1, q5⟩, q6⟩ := op_open h (xs (i + 1)) (xs (i + 2))
  have g2 := (jm_met l s.heap.size κ D d 83 _ _ _ _ q2).1
  have g3 := inv_sl q6
  have g4 : n1 ≤ n2 := g2.1
  have g5 : jm_sl (n1, f1) ≤ jm_sl (n2, f2) := g2.2
  refine lv_aload_n hx hb d_law_128 rfl (lv_at hl 2 rfl) ?_
  refine lv_aload_n hx hb d_law_129 rfl (lv_at hl 3 rfl) ?_
  refine lv_iload_n hx hb d_law_130 rfl (lv_at hl 0 rfl) ?_
  refine lv_iconst (v := 1) hx hb d_law_131 (by decide) ?_
  refine lv_iadd hx hb d_law_132 ?_
  rw [nI_a1]
  refine va_sld hx hb hX hbl hbA hS (vp_in_nI (show i + 1 < L by omega) (by omega)) d_law_133 ?_
  rw [nI_clamp (show i + 1 < 2 ^ 31 by omega)]
  refine lv_aload_n hx hb d_law_134 rfl (lv_at hl 3 rfl) ?_
  refine lv_iload_n hx hb d_law_135 rfl (lv_at hl 0 rfl) ?_
  refine lv_iconst (v := 2) hx hb d_law_136 (by decide) ?_
  refine lv_iadd hx hb d_law_137 ?_
  rw [nI_a2]
  refine va_sld hx hb hX hbl hbA hS (vp_in_nI (show i + 2 < L by omega) (by omega)) d_law_138 ?_
  rw [nI_clamp (show i + 2 < 2 ^ 31 by omega)]
  refine law_call (y := 1) (a := 0) (As := [.int (xs (i + 1)), .int (xs (i + 2))]) (rest := []) (fs := fs0) (h := (n, f)) (t := (n1, f1)) (r := some (.int v)) hx hb hml hown hts hG (idx := 13) (by decide +kernel) ⟨Nat.le_of_ble_eq_true rfl, Nat.le_of_ble_eq_true rfl⟩ q1 rfl (Nat.le_of_ble_eq_true rfl) (show 0 < n by omega) hf0 hI hS hl.1 d_law_139 (show n1 ≤ 600000 by omega) (show jm_sl (n1, f1) ≤ 7302250 by omega) ?_
  intro H1 locs1 hI1 hS1
  refine W.eq (g2 := F0 m 142 ls [.int v]) rfl ?_
  refine lv_aload_n hx hb d_law_142 rfl (lv_at hl 1 rfl) ?_
  refine lv_aload_n hx hb d_law_143 rfl (lv_at hl 3 rfl) ?_
  refine lv_iload_n hx hb d_law_144 rfl (lv_at hl 0 rfl) ?_
  refine lv_iconst (v := 1) hx hb d_law_145 (by decide) ?_
  refine lv_iadd hx hb d_law_146 ?_
  rw [nI_a1]
  refine va_sld hx hb hX hbl hbA hS1 (vp_in_nI (show i + 1 < L by omega) (by omega)) d_law_147 ?_
  rw [nI_clamp (show i + 1 < 2 ^ 31 by omega)]
  refine lv_aload_n hx hb d_law_148 rfl (lv_at hl 3 rfl) ?_
  refine lv_iload_n hx hb d_law_149 rfl (lv_at hl 0 rfl) ?_
  refine lv_iconst (v := 2) hx hb d_law_150 (by decide) ?_
  refine lv_iadd hx hb d_law_151 ?_
  rw [nI_a2]
  refine va_sld hx hb hX hbl hbA hS1 (vp_in_nI (show i + 2 < L by omega) (by omega)) d_law_152 ?_
  rw [nI_clamp (show i + 2 < 2 ^ 31 by omega)]
  refine law_call (y := 83) (a := 35) (As := [.int (xs (i + 1)), .int (xs (i + 2))]) (rest := [.int v]) (fs := fs1) (h := (n1, f1)) (t := (n2, f2)) (r := some (.int v)) hx hb hml hown hts hG (idx := 17) (by decide +kernel) ⟨Nat.le_of_ble_eq_true rfl, Nat.le_of_ble_eq_true rfl⟩ q2 rfl (Nat.le_of_ble_eq_true rfl) q4 q5 hI1 hS1 hl.1 d_law_153 (show n2 ≤ 600000 by omega) (show jm_sl (n2, f2) ≤ 7302250 by omega) ?_
  intro H2 locs2 hI2 hS2
  refine W.eq (g2 := F0 m 156 ls [.int v, .int v]) rfl ?_
  refine lv_icmp_eq (tgt := 762) hx hb d_law_156 (by decide) (fun _ => ?_) (fun h => absurd rfl h)
  exact cont n2 f2 q6 q3 H2 locs2 ls hI2 hS2 hl
theorem law_1 (h0 : LA p s m c b L xs κ D) (hL : L ≤ 2560) {i n : Nat} {f : Nat → va_E} (hi : i + 5 ≤ L) (hn : n ≤ 1900) (h : inv n f) (cont : ∀ n2 f2, inv n2 f2 → n2 ≤ n + 3 → LW p l e s m below meth c b κ D 762 i n2 f2 []) : LW p l e s m below meth c b κ D 161 i n f [] := by
  obtain ⟨hx, hb, hml, hown, hts, hG, hX, hbl⟩ := h0
  intro H locs ls hI hS hl
  have hbA : ¬ jm_A s.heap.size b := fun h => Nat.not_le.mpr hbl h
  obtain ⟨h61, fs0, hf0⟩ := inv_c h
  obtain ⟨d, v, n1, f1, n2, f2, q1, q2, q3, ⟨q4, fs1, q5⟩, q6⟩ := op_begin h (xs (i + 1))
  have g2 := (jm_met l s.heap.size κ D d 85 _ _ _ _ q2).1
  have g3 := inv_sl q6
  have g4 : n1 ≤ n2 := g2.1
  have g5 : jm_sl (n1, f1) ≤ jm_sl (n2, f2) := g2.2
  refine lv_aload_n hx hb d_law_161 rfl (lv_at hl 2 rfl) ?_
  refine lv_aload_n hx hb d_law_162 rfl (lv_at hl 3 rfl) ?_
  refine lv_iload_n hx hb d_law_163 rfl (lv_at hl 0 rfl) ?_
  refine lv_iconst (v := 1) hx hb d_law_164 (by decide) ?_
  refine lv_iadd hx hb d_law_165 ?_
  rw [nI_a1]
  refine va_sld hx hb hX hbl hbA hS (vp_in_nI (show i + 1 < L by omega) (by omega)) d_law_166 ?_
  rw [nI_clamp (show i + 1 < 2 ^ 31 by omega)]
  refine law_call (y := 2) (a := 0) (As := [.int (xs (i + 1))]) (rest := []) (fs := fs0) (h := (n, f)) (t := (n1, f1)) (r := some (.int v)) hx hb hml hown hts hG (idx := 18) (by decide +kernel) ⟨Nat.le_of_ble_eq_true rfl, Nat.le_of_ble_eq_true rfl⟩ q1 rfl (Nat.le_of_ble_eq_true rfl) (show 0 < n by omega) hf0 hI hS hl.1 d_law_167 (show n1 ≤ 600000 by omega) (show jm_sl (n1, f1) ≤ 7302250 by omega) ?_
  intro H1 locs1 hI1 hS1
  refine W.eq (g2 := F0 m 170 ls [.int v]) rfl ?_
  refine lv_aload_n hx hb d_law_170 rfl (lv_at hl 1 rfl) ?_
  refine lv_aload_n hx hb d_law_171 rfl (lv_at hl 3 rfl) ?_
  refine lv_iload_n hx hb d_law_172 rfl (lv_at hl 0 rfl) ?_
  refine lv_iconst (v := 1) hx hb d_law_173 (by decide) ?_
  refine lv_iadd hx hb d_law_174 ?_
  rw [nI_a1]
  refine va_sld hx hb hX hbl hbA hS1 (vp_in_nI (show i + 1 < L by omega) (by omega)) d_law_175 ?_
  rw [nI_clamp (show i + 1 < 2 ^ 31 by omega)]
  refine law_call (y := 85) (a := 35) (As := [.int (xs (i + 1))]) (rest := [.int v]) (fs := fs1) (h := (n1, f1)) (t := (n2, f2)) (r := some (.int v)) hx hb hml hown hts hG (idx := 22) (by decide +kernel) ⟨Nat.le_of_ble_eq_true rfl, Nat.le_of_ble_eq_true rfl⟩ q2 rfl (Nat.le_of_ble_eq_true rfl) q4 q5 hI1 hS1 hl.1 d_law_176 (show n2 ≤ 600000 by omega) (show jm_sl (n2, f2) ≤ 7302250 by omega) ?_
  intro H2 locs2 hI2 hS2
  refine W.eq (g2 := F0 m 179 ls [.int v, .int v]) rfl ?_
  refine lv_icmp_eq (tgt := 762) hx hb d_law_179 (by decide) (fun _ => ?_) (fun h => absurd rfl h)
  exact cont n2 f2 q6 q3 H2 locs2 ls hI2 hS2 hl
theorem law_2 (h0 : LA p s m c b L xs κ D) (hL : L ≤ 2560) {i n : Nat} {f : Nat → va_E} (hi : i + 5 ≤ L) (hn : n ≤ 1900) (h : inv n f) (cont : ∀ n2 f2, inv n2 f2 → n2 ≤ n + 3 → LW p l e s m below meth c b κ D 762 i n2 f2 []) : LW p l e s m below meth c b κ D 184 i n f [] := by
  obtain ⟨hx, hb, hml, hown, hts, hG, hX, hbl⟩ := h0
  intro H locs ls hI hS hl
  have hbA : ¬ jm_A s.heap.size b := fun h => Nat.not_le.mpr hbl h
  obtain ⟨h61, fs0, hf0⟩ := inv_c h
  obtain ⟨d, v, n1, f1, n2, f2, q1, q2, q3, ⟨q4, fs1, q5⟩, q6⟩ := op_money h (xs (i + 1)) (xs (i + 2))
  have g2 := (jm_met l s.heap.size κ D d 88 _ _ _ _ q2).1
  have g3 := inv_sl q6
  have g4 : n1 ≤ n2 := g2.1
  have g5 : jm_sl (n1, f1) ≤ jm_sl (n2, f2) := g2.2
  refine lv_aload_n hx hb d_law_184 rfl (lv_at hl 2 rfl) ?_
  refine lv_aload_n hx hb d_law_185 rfl (lv_at hl 3 rfl) ?_
  refine lv_iload_n hx hb d_law_186 rfl (lv_at hl 0 rfl) ?_
  refine lv_iconst (v := 1) hx hb d_law_187 (by decide) ?_
  refine lv_iadd hx hb d_law_188 ?_
  rw [nI_a1]
  refine va_sld hx hb hX hbl hbA hS (vp_in_nI (show i + 1 < L by omega) (by omega)) d_law_189 ?_
  rw [nI_clamp (show i + 1 < 2 ^ 31 by omega)]
  refine lv_aload_n hx hb d_law_190 rfl (lv_at hl 3 rfl) ?_
  refine lv_iload_n hx hb d_law_191 rfl (lv_at hl 0 rfl) ?_
  refine lv_iconst (v := 2) hx hb d_law_192 (by decide) ?_
  refine lv_iadd hx hb d_law_193 ?_
  rw [nI_a2]
  refine va_sld hx hb hX hbl hbA hS (vp_in_nI (show i + 2 < L by omega) (by omega)) d_law_194 ?_
  rw [nI_clamp (show i + 2 < 2 ^ 31 by omega)]
  refine law_call (y := 3) (a := 0) (As := [.int (xs (i + 1)), .int (xs (i + 2))]) (rest := []) (fs := fs0) (h := (n, f)) (t := (n1, f1)) (r := some (.int v)) hx hb hml hown hts hG (idx := 23) (by decide +kernel) ⟨Nat.le_of_ble_eq_true rfl, Nat.le_of_ble_eq_true rfl⟩ q1 rfl (Nat.le_of_ble_eq_true rfl) (show 0 < n by omega) hf0 hI hS hl.1 d_law_195 (show n1 ≤ 600000 by omega) (show jm_sl (n1, f1) ≤ 7302250 by omega) ?_
  intro H1 locs1 hI1 hS1
  refine W.eq (g2 := F0 m 198 ls [.int v]) rfl ?_
  refine lv_aload_n hx hb d_law_198 rfl (lv_at hl 1 rfl) ?_
  refine lv_aload_n hx hb d_law_199 rfl (lv_at hl 3 rfl) ?_
  refine lv_iload_n hx hb d_law_200 rfl (lv_at hl 0 rfl) ?_
  refine lv_iconst (v := 1) hx hb d_law_201 (by decide) ?_
  refine lv_iadd hx hb d_law_202 ?_
  rw [nI_a1]
  refine va_sld hx hb hX hbl hbA hS1 (vp_in_nI (show i + 1 < L by omega) (by omega)) d_law_203 ?_
  rw [nI_clamp (show i + 1 < 2 ^ 31 by omega)]
  refine lv_aload_n hx hb d_law_204 rfl (lv_at hl 3 rfl) ?_
  refine lv_iload_n hx hb d_law_205 rfl (lv_at hl 0 rfl) ?_
  refine lv_iconst (v := 2) hx hb d_law_206 (by decide) ?_
  refine lv_iadd hx hb d_law_207 ?_
  rw [nI_a2]
  refine va_sld hx hb hX hbl hbA hS1 (vp_in_nI (show i + 2 < L by omega) (by omega)) d_law_208 ?_
  rw [nI_clamp (show i + 2 < 2 ^ 31 by omega)]
  refine law_call (y := 88) (a := 35) (As := [.int (xs (i + 1)), .int (xs (i + 2))]) (rest := [.int v]) (fs := fs1) (h := (n1, f1)) (t := (n2, f2)) (r := some (.int v)) hx hb hml hown hts hG (idx := 27) (by decide +kernel) ⟨Nat.le_of_ble_eq_true rfl, Nat.le_of_ble_eq_true rfl⟩ q2 rfl (Nat.le_of_ble_eq_true rfl) q4 q5 hI1 hS1 hl.1 d_law_209 (show n2 ≤ 600000 by omega) (show jm_sl (n2, f2) ≤ 7302250 by omega) ?_
  intro H2 locs2 hI2 hS2
  refine W.eq (g2 := F0 m 212 ls [.int v, .int v]) rfl ?_
  refine lv_icmp_eq (tgt := 762) hx hb d_law_212 (by decide) (fun _ => ?_) (fun h => absurd rfl h)
  exact cont n2 f2 q6 q3 H2 locs2 ls hI2 hS2 hl
theorem law_3 (h0 : LA p s m c b L xs κ D) (hL : L ≤ 2560) {i n : Nat} {f : Nat → va_E} (hi : i + 5 ≤ L) (hn : n ≤ 1900) (h : inv n f) (cont : ∀ n2 f2, inv n2 f2 → n2 ≤ n + 3 → LW p l e s m below meth c b κ D 762 i n2 f2 []) : LW p l e s m below meth c b κ D 217 i n f [] := by
  obtain ⟨hx, hb, hml, hown, hts, hG, hX, hbl⟩ := h0
  intro H locs ls hI hS hl
  have hbA : ¬ jm_A s.heap.size b := fun h => Nat.not_le.mpr hbl h
  obtain ⟨h61, fs0, hf0⟩ := inv_c h
  obtain ⟨d, v, n1, f1, n2, f2, q1, q2, q3, ⟨q4, fs1, q5⟩, q6⟩ := op_acquire h (xs (i + 1)) (xs (i + 2)) (xs (i + 3)) (xs (i + 4))
  have g2 := (jm_met l s.heap.size κ D d 90 _ _ _ _ q2).1
  have g3 := inv_sl q6
  have g4 : n1 ≤ n2 := g2.1
  have g5 : jm_sl (n1, f1) ≤ jm_sl (n2, f2) := g2.2
  refine lv_aload_n hx hb d_law_217 rfl (lv_at hl 2 rfl) ?_
  refine lv_aload_n hx hb d_law_218 rfl (lv_at hl 3 rfl) ?_
  refine lv_iload_n hx hb d_law_219 rfl (lv_at hl 0 rfl) ?_
  refine lv_iconst (v := 1) hx hb d_law_220 (by decide) ?_
  refine lv_iadd hx hb d_law_221 ?_
  rw [nI_a1]
  refine va_sld hx hb hX hbl hbA hS (vp_in_nI (show i + 1 < L by omega) (by omega)) d_law_222 ?_
  rw [nI_clamp (show i + 1 < 2 ^ 31 by omega)]
  refine lv_aload_n hx hb d_law_223 rfl (lv_at hl 3 rfl) ?_
  refine lv_iload_n hx hb d_law_224 rfl (lv_at hl 0 rfl) ?_
  refine lv_iconst (v := 2) hx hb d_law_225 (by decide) ?_
  refine lv_iadd hx hb d_law_226 ?_
  rw [nI_a2]
  refine va_sld hx hb hX hbl hbA hS (vp_in_nI (show i + 2 < L by omega) (by omega)) d_law_227 ?_
  rw [nI_clamp (show i + 2 < 2 ^ 31 by omega)]
  refine lv_aload_n hx hb d_law_228 rfl (lv_at hl 3 rfl) ?_
  refine lv_iload_n hx hb d_law_229 rfl (lv_at hl 0 rfl) ?_
  refine lv_iconst (v := 3) hx hb d_law_230 (by decide) ?_
  refine lv_iadd hx hb d_law_231 ?_
  rw [nI_a3]
  refine va_sld hx hb hX hbl hbA hS (vp_in_nI (show i + 3 < L by omega) (by omega)) d_law_232 ?_
  rw [nI_clamp (show i + 3 < 2 ^ 31 by omega)]
  refine lv_aload_n hx hb d_law_233 rfl (lv_at hl 3 rfl) ?_
  refine lv_iload_n hx hb d_law_234 rfl (lv_at hl 0 rfl) ?_
  refine lv_iconst (v := 4) hx hb d_law_235 (by decide) ?_
  refine lv_iadd hx hb d_law_236 ?_
  rw [nI_a4]
  refine va_sld hx hb hX hbl hbA hS (vp_in_nI (show i + 4 < L by omega) (by omega)) d_law_237 ?_
  rw [nI_clamp (show i + 4 < 2 ^ 31 by omega)]
  refine law_call (y := 4) (a := 0) (As := [.int (xs (i + 1)), .int (xs (i + 2)), .int (xs (i + 3)), .int (xs (i + 4))]) (rest := []) (fs := fs0) (h := (n, f)) (t := (n1, f1)) (r := some (.int v)) hx hb hml hown hts hG (idx := 28) (by decide +kernel) ⟨Nat.le_of_ble_eq_true rfl, Nat.le_of_ble_eq_true rfl⟩ q1 rfl (Nat.le_of_ble_eq_true rfl) (show 0 < n by omega) hf0 hI hS hl.1 d_law_238 (show n1 ≤ 600000 by omega) (show jm_sl (n1, f1) ≤ 7302250 by omega) ?_
  intro H1 locs1 hI1 hS1
  refine W.eq (g2 := F0 m 241 ls [.int v]) rfl ?_
  refine lv_aload_n hx hb d_law_241 rfl (lv_at hl 1 rfl) ?_
  refine lv_aload_n hx hb d_law_242 rfl (lv_at hl 3 rfl) ?_
  refine lv_iload_n hx hb d_law_243 rfl (lv_at hl 0 rfl) ?_
  refine lv_iconst (v := 1) hx hb d_law_244 (by decide) ?_
  refine lv_iadd hx hb d_law_245 ?_
  rw [nI_a1]
  refine va_sld hx hb hX hbl hbA hS1 (vp_in_nI (show i + 1 < L by omega) (by omega)) d_law_246 ?_
  rw [nI_clamp (show i + 1 < 2 ^ 31 by omega)]
  refine lv_aload_n hx hb d_law_247 rfl (lv_at hl 3 rfl) ?_
  refine lv_iload_n hx hb d_law_248 rfl (lv_at hl 0 rfl) ?_
  refine lv_iconst (v := 2) hx hb d_law_249 (by decide) ?_
  refine lv_iadd hx hb d_law_250 ?_
  rw [nI_a2]
  refine va_sld hx hb hX hbl hbA hS1 (vp_in_nI (show i + 2 < L by omega) (by omega)) d_law_251 ?_
  rw [nI_clamp (show i + 2 < 2 ^ 31 by omega)]
  refine lv_aload_n hx hb d_law_252 rfl (lv_at hl 3 rfl) ?_
  refine lv_iload_n hx hb d_law_253 rfl (lv_at hl 0 rfl) ?_
  refine lv_iconst (v := 3) hx hb d_law_254 (by decide) ?_
  refine lv_iadd hx hb d_law_255 ?_
  rw [nI_a3]
  refine va_sld hx hb hX hbl hbA hS1 (vp_in_nI (show i + 3 < L by omega) (by omega)) d_law_256 ?_
  rw [nI_clamp (show i + 3 < 2 ^ 31 by omega)]
  refine lv_aload_n hx hb d_law_257 rfl (lv_at hl 3 rfl) ?_
  refine lv_iload_n hx hb d_law_258 rfl (lv_at hl 0 rfl) ?_
  refine lv_iconst (v := 4) hx hb d_law_259 (by decide) ?_
  refine lv_iadd hx hb d_law_260 ?_
  rw [nI_a4]
  refine va_sld hx hb hX hbl hbA hS1 (vp_in_nI (show i + 4 < L by omega) (by omega)) d_law_261 ?_
  rw [nI_clamp (show i + 4 < 2 ^ 31 by omega)]
  refine law_call (y := 90) (a := 35) (As := [.int (xs (i + 1)), .int (xs (i + 2)), .int (xs (i + 3)), .int (xs (i + 4))]) (rest := [.int v]) (fs := fs1) (h := (n1, f1)) (t := (n2, f2)) (r := some (.int v)) hx hb hml hown hts hG (idx := 32) (by decide +kernel) ⟨Nat.le_of_ble_eq_true rfl, Nat.le_of_ble_eq_true rfl⟩ q2 rfl (Nat.le_of_ble_eq_true rfl) q4 q5 hI1 hS1 hl.1 d_law_262 (show n2 ≤ 600000 by omega) (show jm_sl (n2, f2) ≤ 7302250 by omega) ?_
  intro H2 locs2 hI2 hS2
  refine W.eq (g2 := F0 m 265 ls [.int v, .int v]) rfl ?_
  refine lv_icmp_eq (tgt := 762) hx hb d_law_265 (by decide) (fun _ => ?_) (fun h => absurd rfl h)
  exact cont n2 f2 q6 q3 H2 locs2 ls hI2 hS2 hl
theorem law_4 (h0 : LA p s m c b L xs κ D) (hL : L ≤ 2560) {i n : Nat} {f : Nat → va_E} (hi : i + 5 ≤ L) (hn : n ≤ 1900) (h : inv n f) (cont : ∀ n2 f2, inv n2 f2 → n2 ≤ n + 3 → LW p l e s m below meth c b κ D 762 i n2 f2 []) : LW p l e s m below meth c b κ D 270 i n f [] := by
  obtain ⟨hx, hb, hml, hown, hts, hG, hX, hbl⟩ := h0
  intro H locs ls hI hS hl
  have hbA : ¬ jm_A s.heap.size b := fun h => Nat.not_le.mpr hbl h
  obtain ⟨h61, fs0, hf0⟩ := inv_c h
  obtain ⟨d, v, n1, f1, n2, f2, q1, q2, q3, ⟨q4, fs1, q5⟩, q6⟩ := op_release h (xs (i + 1)) (xs (i + 2)) (xs (i + 3)) (xs (i + 4))
  have g2 := (jm_met l s.heap.size κ D d 91 _ _ _ _ q2).1
  have g3 := inv_sl q6
  have g4 : n1 ≤ n2 := g2.1
  have g5 : jm_sl (n1, f1) ≤ jm_sl (n2, f2) := g2.2
  refine lv_aload_n hx hb d_law_270 rfl (lv_at hl 2 rfl) ?_
  refine lv_aload_n hx hb d_law_271 rfl (lv_at hl 3 rfl) ?_
  refine lv_iload_n hx hb d_law_272 rfl (lv_at hl 0 rfl) ?_
  refine lv_iconst (v := 1) hx hb d_law_273 (by decide) ?_
  refine lv_iadd hx hb d_law_274 ?_
  rw [nI_a1]
  refine va_sld hx hb hX hbl hbA hS (vp_in_nI (show i + 1 < L by omega) (by omega)) d_law_275 ?_
  rw [nI_clamp (show i + 1 < 2 ^ 31 by omega)]
  refine lv_aload_n hx hb d_law_276 rfl (lv_at hl 3 rfl) ?_
  refine lv_iload_n hx hb d_law_277 rfl (lv_at hl 0 rfl) ?_
  refine lv_iconst (v := 2) hx hb d_law_278 (by decide) ?_
  refine lv_iadd hx hb d_law_279 ?_
  rw [nI_a2]
  refine va_sld hx hb hX hbl hbA hS (vp_in_nI (show i + 2 < L by omega) (by omega)) d_law_280 ?_
  rw [nI_clamp (show i + 2 < 2 ^ 31 by omega)]
  refine lv_aload_n hx hb d_law_281 rfl (lv_at hl 3 rfl) ?_
  refine lv_iload_n hx hb d_law_282 rfl (lv_at hl 0 rfl) ?_
  refine lv_iconst (v := 3) hx hb d_law_283 (by decide) ?_
  refine lv_iadd hx hb d_law_284 ?_
  rw [nI_a3]
  refine va_sld hx hb hX hbl hbA hS (vp_in_nI (show i + 3 < L by omega) (by omega)) d_law_285 ?_
  rw [nI_clamp (show i + 3 < 2 ^ 31 by omega)]
  refine lv_aload_n hx hb d_law_286 rfl (lv_at hl 3 rfl) ?_
  refine lv_iload_n hx hb d_law_287 rfl (lv_at hl 0 rfl) ?_
  refine lv_iconst (v := 4) hx hb d_law_288 (by decide) ?_
  refine lv_iadd hx hb d_law_289 ?_
  rw [nI_a4]
  refine va_sld hx hb hX hbl hbA hS (vp_in_nI (show i + 4 < L by omega) (by omega)) d_law_290 ?_
  rw [nI_clamp (show i + 4 < 2 ^ 31 by omega)]
  refine law_call (y := 5) (a := 0) (As := [.int (xs (i + 1)), .int (xs (i + 2)), .int (xs (i + 3)), .int (xs (i + 4))]) (rest := []) (fs := fs0) (h := (n, f)) (t := (n1, f1)) (r := some (.int v)) hx hb hml hown hts hG (idx := 33) (by decide +kernel) ⟨Nat.le_of_ble_eq_true rfl, Nat.le_of_ble_eq_true rfl⟩ q1 rfl (Nat.le_of_ble_eq_true rfl) (show 0 < n by omega) hf0 hI hS hl.1 d_law_291 (show n1 ≤ 600000 by omega) (show jm_sl (n1, f1) ≤ 7302250 by omega) ?_
  intro H1 locs1 hI1 hS1
  refine W.eq (g2 := F0 m 294 ls [.int v]) rfl ?_
  refine lv_aload_n hx hb d_law_294 rfl (lv_at hl 1 rfl) ?_
  refine lv_aload_n hx hb d_law_295 rfl (lv_at hl 3 rfl) ?_
  refine lv_iload_n hx hb d_law_296 rfl (lv_at hl 0 rfl) ?_
  refine lv_iconst (v := 1) hx hb d_law_297 (by decide) ?_
  refine lv_iadd hx hb d_law_298 ?_
  rw [nI_a1]
  refine va_sld hx hb hX hbl hbA hS1 (vp_in_nI (show i + 1 < L by omega) (by omega)) d_law_299 ?_
  rw [nI_clamp (show i + 1 < 2 ^ 31 by omega)]
  refine lv_aload_n hx hb d_law_300 rfl (lv_at hl 3 rfl) ?_
  refine lv_iload_n hx hb d_law_301 rfl (lv_at hl 0 rfl) ?_
  refine lv_iconst (v := 2) hx hb d_law_302 (by decide) ?_
  refine lv_iadd hx hb d_law_303 ?_
  rw [nI_a2]
  refine va_sld hx hb hX hbl hbA hS1 (vp_in_nI (show i + 2 < L by omega) (by omega)) d_law_304 ?_
  rw [nI_clamp (show i + 2 < 2 ^ 31 by omega)]
  refine lv_aload_n hx hb d_law_305 rfl (lv_at hl 3 rfl) ?_
  refine lv_iload_n hx hb d_law_306 rfl (lv_at hl 0 rfl) ?_
  refine lv_iconst (v := 3) hx hb d_law_307 (by decide) ?_
  refine lv_iadd hx hb d_law_308 ?_
  rw [nI_a3]
  refine va_sld hx hb hX hbl hbA hS1 (vp_in_nI (show i + 3 < L by omega) (by omega)) d_law_309 ?_
  rw [nI_clamp (show i + 3 < 2 ^ 31 by omega)]
  refine lv_aload_n hx hb d_law_310 rfl (lv_at hl 3 rfl) ?_
  refine lv_iload_n hx hb d_law_311 rfl (lv_at hl 0 rfl) ?_
  refine lv_iconst (v := 4) hx hb d_law_312 (by decide) ?_
  refine lv_iadd hx hb d_law_313 ?_
  rw [nI_a4]
  refine va_sld hx hb hX hbl hbA hS1 (vp_in_nI (show i + 4 < L by omega) (by omega)) d_law_314 ?_
  rw [nI_clamp (show i + 4 < 2 ^ 31 by omega)]
  refine law_call (y := 91) (a := 35) (As := [.int (xs (i + 1)), .int (xs (i + 2)), .int (xs (i + 3)), .int (xs (i + 4))]) (rest := [.int v]) (fs := fs1) (h := (n1, f1)) (t := (n2, f2)) (r := some (.int v)) hx hb hml hown hts hG (idx := 36) (by decide +kernel) ⟨Nat.le_of_ble_eq_true rfl, Nat.le_of_ble_eq_true rfl⟩ q2 rfl (Nat.le_of_ble_eq_true rfl) q4 q5 hI1 hS1 hl.1 d_law_315 (show n2 ≤ 600000 by omega) (show jm_sl (n2, f2) ≤ 7302250 by omega) ?_
  intro H2 locs2 hI2 hS2
  refine W.eq (g2 := F0 m 318 ls [.int v, .int v]) rfl ?_
  refine lv_icmp_eq (tgt := 762) hx hb d_law_318 (by decide) (fun _ => ?_) (fun h => absurd rfl h)
  exact cont n2 f2 q6 q3 H2 locs2 ls hI2 hS2 hl
theorem law_5 (h0 : LA p s m c b L xs κ D) (hL : L ≤ 2560) {i n : Nat} {f : Nat → va_E} (hi : i + 5 ≤ L) (hn : n ≤ 1900) (h : inv n f) (cont : ∀ n2 f2, inv n2 f2 → n2 ≤ n + 3 → LW p l e s m below meth c b κ D 762 i n2 f2 []) : LW p l e s m below meth c b κ D 323 i n f [] := by
  obtain ⟨hx, hb, hml, hown, hts, hG, hX, hbl⟩ := h0
  intro H locs ls hI hS hl
  have hbA : ¬ jm_A s.heap.size b := fun h => Nat.not_le.mpr hbl h
  obtain ⟨h61, fs0, hf0⟩ := inv_c h
  obtain ⟨d, v, n1, f1, n2, f2, q1, q2, q3, ⟨q4, fs1, q5⟩, q6⟩ := op_rest h (xs (i + 1))
  have g2 := (jm_met l s.heap.size κ D d 92 _ _ _ _ q2).1
  have g3 := inv_sl q6
  have g4 : n1 ≤ n2 := g2.1
  have g5 : jm_sl (n1, f1) ≤ jm_sl (n2, f2) := g2.2
  refine lv_aload_n hx hb d_law_323 rfl (lv_at hl 2 rfl) ?_
  refine lv_aload_n hx hb d_law_324 rfl (lv_at hl 3 rfl) ?_
  refine lv_iload_n hx hb d_law_325 rfl (lv_at hl 0 rfl) ?_
  refine lv_iconst (v := 1) hx hb d_law_326 (by decide) ?_
  refine lv_iadd hx hb d_law_327 ?_
  rw [nI_a1]
  refine va_sld hx hb hX hbl hbA hS (vp_in_nI (show i + 1 < L by omega) (by omega)) d_law_328 ?_
  rw [nI_clamp (show i + 1 < 2 ^ 31 by omega)]
  refine law_call (y := 6) (a := 0) (As := [.int (xs (i + 1))]) (rest := []) (fs := fs0) (h := (n, f)) (t := (n1, f1)) (r := some (.int v)) hx hb hml hown hts hG (idx := 37) (by decide +kernel) ⟨Nat.le_of_ble_eq_true rfl, Nat.le_of_ble_eq_true rfl⟩ q1 rfl (Nat.le_of_ble_eq_true rfl) (show 0 < n by omega) hf0 hI hS hl.1 d_law_329 (show n1 ≤ 600000 by omega) (show jm_sl (n1, f1) ≤ 7302250 by omega) ?_
  intro H1 locs1 hI1 hS1
  refine W.eq (g2 := F0 m 332 ls [.int v]) rfl ?_
  refine lv_aload_n hx hb d_law_332 rfl (lv_at hl 1 rfl) ?_
  refine lv_aload_n hx hb d_law_333 rfl (lv_at hl 3 rfl) ?_
  refine lv_iload_n hx hb d_law_334 rfl (lv_at hl 0 rfl) ?_
  refine lv_iconst (v := 1) hx hb d_law_335 (by decide) ?_
  refine lv_iadd hx hb d_law_336 ?_
  rw [nI_a1]
  refine va_sld hx hb hX hbl hbA hS1 (vp_in_nI (show i + 1 < L by omega) (by omega)) d_law_337 ?_
  rw [nI_clamp (show i + 1 < 2 ^ 31 by omega)]
  refine law_call (y := 92) (a := 35) (As := [.int (xs (i + 1))]) (rest := [.int v]) (fs := fs1) (h := (n1, f1)) (t := (n2, f2)) (r := some (.int v)) hx hb hml hown hts hG (idx := 40) (by decide +kernel) ⟨Nat.le_of_ble_eq_true rfl, Nat.le_of_ble_eq_true rfl⟩ q2 rfl (Nat.le_of_ble_eq_true rfl) q4 q5 hI1 hS1 hl.1 d_law_338 (show n2 ≤ 600000 by omega) (show jm_sl (n2, f2) ≤ 7302250 by omega) ?_
  intro H2 locs2 hI2 hS2
  refine W.eq (g2 := F0 m 341 ls [.int v, .int v]) rfl ?_
  refine lv_icmp_eq (tgt := 762) hx hb d_law_341 (by decide) (fun _ => ?_) (fun h => absurd rfl h)
  exact cont n2 f2 q6 q3 H2 locs2 ls hI2 hS2 hl
theorem law_6 (h0 : LA p s m c b L xs κ D) (hL : L ≤ 2560) {i n : Nat} {f : Nat → va_E} (hi : i + 5 ≤ L) (hn : n ≤ 1900) (h : inv n f) (cont : ∀ n2 f2, inv n2 f2 → n2 ≤ n + 3 → LW p l e s m below meth c b κ D 762 i n2 f2 []) : LW p l e s m below meth c b κ D 346 i n f [] := by
  obtain ⟨hx, hb, hml, hown, hts, hG, hX, hbl⟩ := h0
  intro H locs ls hI hS hl
  have hbA : ¬ jm_A s.heap.size b := fun h => Nat.not_le.mpr hbl h
  obtain ⟨h61, fs0, hf0⟩ := inv_c h
  obtain ⟨d, v, n1, f1, n2, f2, q1, q2, q3, ⟨q4, fs1, q5⟩, q6⟩ := op_commit h 
  have g2 := (jm_met l s.heap.size κ D d 97 _ _ _ _ q2).1
  have g3 := inv_sl q6
  have g4 : n1 ≤ n2 := g2.1
  have g5 : jm_sl (n1, f1) ≤ jm_sl (n2, f2) := g2.2
  refine lv_aload_n hx hb d_law_346 rfl (lv_at hl 2 rfl) ?_
  refine law_call (y := 7) (a := 0) (As := []) (rest := []) (fs := fs0) (h := (n, f)) (t := (n1, f1)) (r := some (.int v)) hx hb hml hown hts hG (idx := 41) (by decide +kernel) ⟨Nat.le_of_ble_eq_true rfl, Nat.le_of_ble_eq_true rfl⟩ q1 rfl (Nat.le_of_ble_eq_true rfl) (show 0 < n by omega) hf0 hI hS hl.1 d_law_347 (show n1 ≤ 600000 by omega) (show jm_sl (n1, f1) ≤ 7302250 by omega) ?_
  intro H1 locs1 hI1 hS1
  refine W.eq (g2 := F0 m 350 ls [.int v]) rfl ?_
  refine lv_aload_n hx hb d_law_350 rfl (lv_at hl 1 rfl) ?_
  refine law_call (y := 97) (a := 35) (As := []) (rest := [.int v]) (fs := fs1) (h := (n1, f1)) (t := (n2, f2)) (r := some (.int v)) hx hb hml hown hts hG (idx := 45) (by decide +kernel) ⟨Nat.le_of_ble_eq_true rfl, Nat.le_of_ble_eq_true rfl⟩ q2 rfl (Nat.le_of_ble_eq_true rfl) q4 q5 hI1 hS1 hl.1 d_law_351 (show n2 ≤ 600000 by omega) (show jm_sl (n2, f2) ≤ 7302250 by omega) ?_
  intro H2 locs2 hI2 hS2
  refine W.eq (g2 := F0 m 354 ls [.int v, .int v]) rfl ?_
  refine lv_icmp_eq (tgt := 762) hx hb d_law_354 (by decide) (fun _ => ?_) (fun h => absurd rfl h)
  exact cont n2 f2 q6 q3 H2 locs2 ls hI2 hS2 hl
theorem law_7 (h0 : LA p s m c b L xs κ D) (hL : L ≤ 2560) {i n : Nat} {f : Nat → va_E} (hi : i + 5 ≤ L) (hn : n ≤ 1900) (h : inv n f) (cont : ∀ n2 f2, inv n2 f2 → n2 ≤ n + 3 → LW p l e s m below meth c b κ D 762 i n2 f2 []) : LW p l e s m below meth c b κ D 359 i n f [] := by
  obtain ⟨hx, hb, hml, hown, hts, hG, hX, hbl⟩ := h0
  intro H locs ls hI hS hl
  have hbA : ¬ jm_A s.heap.size b := fun h => Nat.not_le.mpr hbl h
  obtain ⟨h61, fs0, hf0⟩ := inv_c h
  obtain ⟨d, v, n1, f1, n2, f2, q1, q2, q3, ⟨q4, fs1, q5⟩, q6⟩ := op_drop h 
  have g2 := (jm_met l s.heap.size κ D d 93 _ _ _ _ q2).1
  have g3 := inv_sl q6
  have g4 : n1 ≤ n2 := g2.1
  have g5 : jm_sl (n1, f1) ≤ jm_sl (n2, f2) := g2.2
  refine lv_aload_n hx hb d_law_359 rfl (lv_at hl 2 rfl) ?_
  refine law_call (y := 8) (a := 0) (As := []) (rest := []) (fs := fs0) (h := (n, f)) (t := (n1, f1)) (r := some (.int v)) hx hb hml hown hts hG (idx := 46) (by decide +kernel) ⟨Nat.le_of_ble_eq_true rfl, Nat.le_of_ble_eq_true rfl⟩ q1 rfl (Nat.le_of_ble_eq_true rfl) (show 0 < n by omega) hf0 hI hS hl.1 d_law_360 (show n1 ≤ 600000 by omega) (show jm_sl (n1, f1) ≤ 7302250 by omega) ?_
  intro H1 locs1 hI1 hS1
  refine W.eq (g2 := F0 m 363 ls [.int v]) rfl ?_
  refine lv_aload_n hx hb d_law_363 rfl (lv_at hl 1 rfl) ?_
  refine law_call (y := 93) (a := 35) (As := []) (rest := [.int v]) (fs := fs1) (h := (n1, f1)) (t := (n2, f2)) (r := some (.int v)) hx hb hml hown hts hG (idx := 50) (by decide +kernel) ⟨Nat.le_of_ble_eq_true rfl, Nat.le_of_ble_eq_true rfl⟩ q2 rfl (Nat.le_of_ble_eq_true rfl) q4 q5 hI1 hS1 hl.1 d_law_364 (show n2 ≤ 600000 by omega) (show jm_sl (n2, f2) ≤ 7302250 by omega) ?_
  intro H2 locs2 hI2 hS2
  refine W.eq (g2 := F0 m 367 ls [.int v, .int v]) rfl ?_
  refine lv_icmp_eq (tgt := 762) hx hb d_law_367 (by decide) (fun _ => ?_) (fun h => absurd rfl h)
  exact cont n2 f2 q6 q3 H2 locs2 ls hI2 hS2 hl
theorem law_8 (h0 : LA p s m c b L xs κ D) (hL : L ≤ 2560) {i n : Nat} {f : Nat → va_E} (hi : i + 5 ≤ L) (hn : n ≤ 1900) (h : inv n f) (cont : ∀ n2 f2, inv n2 f2 → n2 ≤ n + 3 → LW p l e s m below meth c b κ D 762 i n2 f2 []) : LW p l e s m below meth c b κ D 372 i n f [] := by
  obtain ⟨hx, hb, hml, hown, hts, hG, hX, hbl⟩ := h0
  intro H locs ls hI hS hl
  have hbA : ¬ jm_A s.heap.size b := fun h => Nat.not_le.mpr hbl h
  obtain ⟨h61, fs0, hf0⟩ := inv_c h
  obtain ⟨d, v, n1, f1, n2, f2, q1, q2, q3, ⟨q4, fs1, q5⟩, q6⟩ := op_count h 
  have g2 := (jm_met l s.heap.size κ D d 98 _ _ _ _ q2).1
  have g3 := inv_sl q6
  have g4 : n1 ≤ n2 := g2.1
  have g5 : jm_sl (n1, f1) ≤ jm_sl (n2, f2) := g2.2
  refine lv_aload_n hx hb d_law_372 rfl (lv_at hl 2 rfl) ?_
  refine law_call (y := 9) (a := 0) (As := []) (rest := []) (fs := fs0) (h := (n, f)) (t := (n1, f1)) (r := some (.int v)) hx hb hml hown hts hG (idx := 51) (by decide +kernel) ⟨Nat.le_of_ble_eq_true rfl, Nat.le_of_ble_eq_true rfl⟩ q1 rfl (Nat.le_of_ble_eq_true rfl) (show 0 < n by omega) hf0 hI hS hl.1 d_law_373 (show n1 ≤ 600000 by omega) (show jm_sl (n1, f1) ≤ 7302250 by omega) ?_
  intro H1 locs1 hI1 hS1
  refine W.eq (g2 := F0 m 376 ls [.int v]) rfl ?_
  refine lv_aload_n hx hb d_law_376 rfl (lv_at hl 1 rfl) ?_
  refine law_call (y := 98) (a := 35) (As := []) (rest := [.int v]) (fs := fs1) (h := (n1, f1)) (t := (n2, f2)) (r := some (.int v)) hx hb hml hown hts hG (idx := 54) (by decide +kernel) ⟨Nat.le_of_ble_eq_true rfl, Nat.le_of_ble_eq_true rfl⟩ q2 rfl (Nat.le_of_ble_eq_true rfl) q4 q5 hI1 hS1 hl.1 d_law_377 (show n2 ≤ 600000 by omega) (show jm_sl (n2, f2) ≤ 7302250 by omega) ?_
  intro H2 locs2 hI2 hS2
  refine W.eq (g2 := F0 m 380 ls [.int v, .int v]) rfl ?_
  refine lv_icmp_eq (tgt := 762) hx hb d_law_380 (by decide) (fun _ => ?_) (fun h => absurd rfl h)
  exact cont n2 f2 q6 q3 H2 locs2 ls hI2 hS2 hl
theorem law_9 (h0 : LA p s m c b L xs κ D) (hL : L ≤ 2560) {i n : Nat} {f : Nat → va_E} (hi : i + 5 ≤ L) (hn : n ≤ 1900) (h : inv n f) (cont : ∀ n2 f2, inv n2 f2 → n2 ≤ n + 3 → LW p l e s m below meth c b κ D 762 i n2 f2 []) : LW p l e s m below meth c b κ D 385 i n f [] := by
  obtain ⟨hx, hb, hml, hown, hts, hG, hX, hbl⟩ := h0
  intro H locs ls hI hS hl
  have hbA : ¬ jm_A s.heap.size b := fun h => Nat.not_le.mpr hbl h
  obtain ⟨h61, fs0, hf0⟩ := inv_c h
  obtain ⟨d, v, n1, f1, n2, f2, q1, q2, q3, ⟨q4, fs1, q5⟩, q6⟩ := op_weight h (xs (i + 1)) (xs (i + 2))
  have g2 := (jm_met l s.heap.size κ D d 99 _ _ _ _ q2).1
  have g3 := inv_sl q6
  have g4 : n1 ≤ n2 := g2.1
  have g5 : jm_sl (n1, f1) ≤ jm_sl (n2, f2) := g2.2
  refine lv_aload_n hx hb d_law_385 rfl (lv_at hl 2 rfl) ?_
  refine lv_aload_n hx hb d_law_386 rfl (lv_at hl 3 rfl) ?_
  refine lv_iload_n hx hb d_law_387 rfl (lv_at hl 0 rfl) ?_
  refine lv_iconst (v := 1) hx hb d_law_388 (by decide) ?_
  refine lv_iadd hx hb d_law_389 ?_
  rw [nI_a1]
  refine va_sld hx hb hX hbl hbA hS (vp_in_nI (show i + 1 < L by omega) (by omega)) d_law_390 ?_
  rw [nI_clamp (show i + 1 < 2 ^ 31 by omega)]
  refine lv_aload_n hx hb d_law_391 rfl (lv_at hl 3 rfl) ?_
  refine lv_iload_n hx hb d_law_392 rfl (lv_at hl 0 rfl) ?_
  refine lv_iconst (v := 2) hx hb d_law_393 (by decide) ?_
  refine lv_iadd hx hb d_law_394 ?_
  rw [nI_a2]
  refine va_sld hx hb hX hbl hbA hS (vp_in_nI (show i + 2 < L by omega) (by omega)) d_law_395 ?_
  rw [nI_clamp (show i + 2 < 2 ^ 31 by omega)]
  refine law_call (y := 10) (a := 0) (As := [.int (xs (i + 1)), .int (xs (i + 2))]) (rest := []) (fs := fs0) (h := (n, f)) (t := (n1, f1)) (r := some (.int v)) hx hb hml hown hts hG (idx := 55) (by decide +kernel) ⟨Nat.le_of_ble_eq_true rfl, Nat.le_of_ble_eq_true rfl⟩ q1 rfl (Nat.le_of_ble_eq_true rfl) (show 0 < n by omega) hf0 hI hS hl.1 d_law_396 (show n1 ≤ 600000 by omega) (show jm_sl (n1, f1) ≤ 7302250 by omega) ?_
  intro H1 locs1 hI1 hS1
  refine W.eq (g2 := F0 m 399 ls [.int v]) rfl ?_
  refine lv_aload_n hx hb d_law_399 rfl (lv_at hl 1 rfl) ?_
  refine lv_aload_n hx hb d_law_400 rfl (lv_at hl 3 rfl) ?_
  refine lv_iload_n hx hb d_law_401 rfl (lv_at hl 0 rfl) ?_
  refine lv_iconst (v := 1) hx hb d_law_402 (by decide) ?_
  refine lv_iadd hx hb d_law_403 ?_
  rw [nI_a1]
  refine va_sld hx hb hX hbl hbA hS1 (vp_in_nI (show i + 1 < L by omega) (by omega)) d_law_404 ?_
  rw [nI_clamp (show i + 1 < 2 ^ 31 by omega)]
  refine lv_aload_n hx hb d_law_405 rfl (lv_at hl 3 rfl) ?_
  refine lv_iload_n hx hb d_law_406 rfl (lv_at hl 0 rfl) ?_
  refine lv_iconst (v := 2) hx hb d_law_407 (by decide) ?_
  refine lv_iadd hx hb d_law_408 ?_
  rw [nI_a2]
  refine va_sld hx hb hX hbl hbA hS1 (vp_in_nI (show i + 2 < L by omega) (by omega)) d_law_409 ?_
  rw [nI_clamp (show i + 2 < 2 ^ 31 by omega)]
  refine law_call (y := 99) (a := 35) (As := [.int (xs (i + 1)), .int (xs (i + 2))]) (rest := [.int v]) (fs := fs1) (h := (n1, f1)) (t := (n2, f2)) (r := some (.int v)) hx hb hml hown hts hG (idx := 58) (by decide +kernel) ⟨Nat.le_of_ble_eq_true rfl, Nat.le_of_ble_eq_true rfl⟩ q2 rfl (Nat.le_of_ble_eq_true rfl) q4 q5 hI1 hS1 hl.1 d_law_410 (show n2 ≤ 600000 by omega) (show jm_sl (n2, f2) ≤ 7302250 by omega) ?_
  intro H2 locs2 hI2 hS2
  refine W.eq (g2 := F0 m 413 ls [.int v, .int v]) rfl ?_
  refine lv_icmp_eq (tgt := 762) hx hb d_law_413 (by decide) (fun _ => ?_) (fun h => absurd rfl h)
  exact cont n2 f2 q6 q3 H2 locs2 ls hI2 hS2 hl
theorem law_10 (h0 : LA p s m c b L xs κ D) (hL : L ≤ 2560) {i n : Nat} {f : Nat → va_E} (hi : i + 5 ≤ L) (hn : n ≤ 1900) (h : inv n f) (cont : ∀ n2 f2, inv n2 f2 → n2 ≤ n + 3 → LW p l e s m below meth c b κ D 762 i n2 f2 []) : LW p l e s m below meth c b κ D 418 i n f [] := by
  obtain ⟨hx, hb, hml, hown, hts, hG, hX, hbl⟩ := h0
  intro H locs ls hI hS hl
  have hbA : ¬ jm_A s.heap.size b := fun h => Nat.not_le.mpr hbl h
  obtain ⟨h61, fs0, hf0⟩ := inv_c h
  obtain ⟨d, v, n1, f1, n2, f2, q1, q2, q3, ⟨q4, fs1, q5⟩, q6⟩ := op_price h (xs (i + 1)) (xs (i + 2)) (xs (i + 3))
  have g2 := (jm_met l s.heap.size κ D d 111 _ _ _ _ q2).1
  have g3 := inv_sl q6
  have g4 : n1 ≤ n2 := g2.1
  have g5 : jm_sl (n1, f1) ≤ jm_sl (n2, f2) := g2.2
  refine lv_aload_n hx hb d_law_418 rfl (lv_at hl 2 rfl) ?_
  refine lv_aload_n hx hb d_law_419 rfl (lv_at hl 3 rfl) ?_
  refine lv_iload_n hx hb d_law_420 rfl (lv_at hl 0 rfl) ?_
  refine lv_iconst (v := 1) hx hb d_law_421 (by decide) ?_
  refine lv_iadd hx hb d_law_422 ?_
  rw [nI_a1]
  refine va_sld hx hb hX hbl hbA hS (vp_in_nI (show i + 1 < L by omega) (by omega)) d_law_423 ?_
  rw [nI_clamp (show i + 1 < 2 ^ 31 by omega)]
  refine lv_aload_n hx hb d_law_424 rfl (lv_at hl 3 rfl) ?_
  refine lv_iload_n hx hb d_law_425 rfl (lv_at hl 0 rfl) ?_
  refine lv_iconst (v := 2) hx hb d_law_426 (by decide) ?_
  refine lv_iadd hx hb d_law_427 ?_
  rw [nI_a2]
  refine va_sld hx hb hX hbl hbA hS (vp_in_nI (show i + 2 < L by omega) (by omega)) d_law_428 ?_
  rw [nI_clamp (show i + 2 < 2 ^ 31 by omega)]
  refine lv_aload_n hx hb d_law_429 rfl (lv_at hl 3 rfl) ?_
  refine lv_iload_n hx hb d_law_430 rfl (lv_at hl 0 rfl) ?_
  refine lv_iconst (v := 3) hx hb d_law_431 (by decide) ?_
  refine lv_iadd hx hb d_law_432 ?_
  rw [nI_a3]
  refine va_sld hx hb hX hbl hbA hS (vp_in_nI (show i + 3 < L by omega) (by omega)) d_law_433 ?_
  rw [nI_clamp (show i + 3 < 2 ^ 31 by omega)]
  refine law_call (y := 11) (a := 0) (As := [.int (xs (i + 1)), .int (xs (i + 2)), .int (xs (i + 3))]) (rest := []) (fs := fs0) (h := (n, f)) (t := (n1, f1)) (r := some (.int v)) hx hb hml hown hts hG (idx := 59) (by decide +kernel) ⟨Nat.le_of_ble_eq_true rfl, Nat.le_of_ble_eq_true rfl⟩ q1 rfl (Nat.le_of_ble_eq_true rfl) (show 0 < n by omega) hf0 hI hS hl.1 d_law_434 (show n1 ≤ 600000 by omega) (show jm_sl (n1, f1) ≤ 7302250 by omega) ?_
  intro H1 locs1 hI1 hS1
  refine W.eq (g2 := F0 m 437 ls [.int v]) rfl ?_
  refine lv_aload_n hx hb d_law_437 rfl (lv_at hl 1 rfl) ?_
  refine lv_aload_n hx hb d_law_438 rfl (lv_at hl 3 rfl) ?_
  refine lv_iload_n hx hb d_law_439 rfl (lv_at hl 0 rfl) ?_
  refine lv_iconst (v := 1) hx hb d_law_440 (by decide) ?_
  refine lv_iadd hx hb d_law_441 ?_
  rw [nI_a1]
  refine va_sld hx hb hX hbl hbA hS1 (vp_in_nI (show i + 1 < L by omega) (by omega)) d_law_442 ?_
  rw [nI_clamp (show i + 1 < 2 ^ 31 by omega)]
  refine lv_aload_n hx hb d_law_443 rfl (lv_at hl 3 rfl) ?_
  refine lv_iload_n hx hb d_law_444 rfl (lv_at hl 0 rfl) ?_
  refine lv_iconst (v := 2) hx hb d_law_445 (by decide) ?_
  refine lv_iadd hx hb d_law_446 ?_
  rw [nI_a2]
  refine va_sld hx hb hX hbl hbA hS1 (vp_in_nI (show i + 2 < L by omega) (by omega)) d_law_447 ?_
  rw [nI_clamp (show i + 2 < 2 ^ 31 by omega)]
  refine lv_aload_n hx hb d_law_448 rfl (lv_at hl 3 rfl) ?_
  refine lv_iload_n hx hb d_law_449 rfl (lv_at hl 0 rfl) ?_
  refine lv_iconst (v := 3) hx hb d_law_450 (by decide) ?_
  refine lv_iadd hx hb d_law_451 ?_
  rw [nI_a3]
  refine va_sld hx hb hX hbl hbA hS1 (vp_in_nI (show i + 3 < L by omega) (by omega)) d_law_452 ?_
  rw [nI_clamp (show i + 3 < 2 ^ 31 by omega)]
  refine law_call (y := 111) (a := 35) (As := [.int (xs (i + 1)), .int (xs (i + 2)), .int (xs (i + 3))]) (rest := [.int v]) (fs := fs1) (h := (n1, f1)) (t := (n2, f2)) (r := some (.int v)) hx hb hml hown hts hG (idx := 63) (by decide +kernel) ⟨Nat.le_of_ble_eq_true rfl, Nat.le_of_ble_eq_true rfl⟩ q2 rfl (Nat.le_of_ble_eq_true rfl) q4 q5 hI1 hS1 hl.1 d_law_453 (show n2 ≤ 600000 by omega) (show jm_sl (n2, f2) ≤ 7302250 by omega) ?_
  intro H2 locs2 hI2 hS2
  refine W.eq (g2 := F0 m 456 ls [.int v, .int v]) rfl ?_
  refine lv_icmp_eq (tgt := 762) hx hb d_law_456 (by decide) (fun _ => ?_) (fun h => absurd rfl h)
  exact cont n2 f2 q6 q3 H2 locs2 ls hI2 hS2 hl
theorem law_11 (h0 : LA p s m c b L xs κ D) (hL : L ≤ 2560) {i n : Nat} {f : Nat → va_E} (hi : i + 5 ≤ L) (hn : n ≤ 1900) (h : inv n f) (cont : ∀ n2 f2, inv n2 f2 → n2 ≤ n + 3 → LW p l e s m below meth c b κ D 762 i n2 f2 []) : LW p l e s m below meth c b κ D 461 i n f [] := by
  obtain ⟨hx, hb, hml, hown, hts, hG, hX, hbl⟩ := h0
  intro H locs ls hI hS hl
  have hbA : ¬ jm_A s.heap.size b := fun h => Nat.not_le.mpr hbl h
  obtain ⟨h61, fs0, hf0⟩ := inv_c h
  obtain ⟨d, v, n1, f1, n2, f2, q1, q2, q3, ⟨q4, fs1, q5⟩, q6⟩ := op_priceOn h (xs (i + 1)) (xs (i + 2))
  have g2 := (jm_met l s.heap.size κ D d 112 _ _ _ _ q2).1
  have g3 := inv_sl q6
  have g4 : n1 ≤ n2 := g2.1
  have g5 : jm_sl (n1, f1) ≤ jm_sl (n2, f2) := g2.2
  refine lv_aload_n hx hb d_law_461 rfl (lv_at hl 2 rfl) ?_
  refine lv_aload_n hx hb d_law_462 rfl (lv_at hl 3 rfl) ?_
  refine lv_iload_n hx hb d_law_463 rfl (lv_at hl 0 rfl) ?_
  refine lv_iconst (v := 1) hx hb d_law_464 (by decide) ?_
  refine lv_iadd hx hb d_law_465 ?_
  rw [nI_a1]
  refine va_sld hx hb hX hbl hbA hS (vp_in_nI (show i + 1 < L by omega) (by omega)) d_law_466 ?_
  rw [nI_clamp (show i + 1 < 2 ^ 31 by omega)]
  refine lv_aload_n hx hb d_law_467 rfl (lv_at hl 3 rfl) ?_
  refine lv_iload_n hx hb d_law_468 rfl (lv_at hl 0 rfl) ?_
  refine lv_iconst (v := 2) hx hb d_law_469 (by decide) ?_
  refine lv_iadd hx hb d_law_470 ?_
  rw [nI_a2]
  refine va_sld hx hb hX hbl hbA hS (vp_in_nI (show i + 2 < L by omega) (by omega)) d_law_471 ?_
  rw [nI_clamp (show i + 2 < 2 ^ 31 by omega)]
  refine law_call (y := 12) (a := 0) (As := [.int (xs (i + 1)), .int (xs (i + 2))]) (rest := []) (fs := fs0) (h := (n, f)) (t := (n1, f1)) (r := some (.int v)) hx hb hml hown hts hG (idx := 64) (by decide +kernel) ⟨Nat.le_of_ble_eq_true rfl, Nat.le_of_ble_eq_true rfl⟩ q1 rfl (Nat.le_of_ble_eq_true rfl) (show 0 < n by omega) hf0 hI hS hl.1 d_law_472 (show n1 ≤ 600000 by omega) (show jm_sl (n1, f1) ≤ 7302250 by omega) ?_
  intro H1 locs1 hI1 hS1
  refine W.eq (g2 := F0 m 475 ls [.int v]) rfl ?_
  refine lv_aload_n hx hb d_law_475 rfl (lv_at hl 1 rfl) ?_
  refine lv_aload_n hx hb d_law_476 rfl (lv_at hl 3 rfl) ?_
  refine lv_iload_n hx hb d_law_477 rfl (lv_at hl 0 rfl) ?_
  refine lv_iconst (v := 1) hx hb d_law_478 (by decide) ?_
  refine lv_iadd hx hb d_law_479 ?_
  rw [nI_a1]
  refine va_sld hx hb hX hbl hbA hS1 (vp_in_nI (show i + 1 < L by omega) (by omega)) d_law_480 ?_
  rw [nI_clamp (show i + 1 < 2 ^ 31 by omega)]
  refine lv_aload_n hx hb d_law_481 rfl (lv_at hl 3 rfl) ?_
  refine lv_iload_n hx hb d_law_482 rfl (lv_at hl 0 rfl) ?_
  refine lv_iconst (v := 2) hx hb d_law_483 (by decide) ?_
  refine lv_iadd hx hb d_law_484 ?_
  rw [nI_a2]
  refine va_sld hx hb hX hbl hbA hS1 (vp_in_nI (show i + 2 < L by omega) (by omega)) d_law_485 ?_
  rw [nI_clamp (show i + 2 < 2 ^ 31 by omega)]
  refine law_call (y := 112) (a := 35) (As := [.int (xs (i + 1)), .int (xs (i + 2))]) (rest := [.int v]) (fs := fs1) (h := (n1, f1)) (t := (n2, f2)) (r := some (.int v)) hx hb hml hown hts hG (idx := 67) (by decide +kernel) ⟨Nat.le_of_ble_eq_true rfl, Nat.le_of_ble_eq_true rfl⟩ q2 rfl (Nat.le_of_ble_eq_true rfl) q4 q5 hI1 hS1 hl.1 d_law_486 (show n2 ≤ 600000 by omega) (show jm_sl (n2, f2) ≤ 7302250 by omega) ?_
  intro H2 locs2 hI2 hS2
  refine W.eq (g2 := F0 m 489 ls [.int v, .int v]) rfl ?_
  refine lv_icmp_eq (tgt := 762) hx hb d_law_489 (by decide) (fun _ => ?_) (fun h => absurd rfl h)
  exact cont n2 f2 q6 q3 H2 locs2 ls hI2 hS2 hl
theorem law_12 (h0 : LA p s m c b L xs κ D) (hL : L ≤ 2560) {i n : Nat} {f : Nat → va_E} (hi : i + 5 ≤ L) (hn : n ≤ 1900) (h : inv n f) (cont : ∀ n2 f2, inv n2 f2 → n2 ≤ n + 3 → LW p l e s m below meth c b κ D 762 i n2 f2 []) : LW p l e s m below meth c b κ D 494 i n f [] := by
  obtain ⟨hx, hb, hml, hown, hts, hG, hX, hbl⟩ := h0
  intro H locs ls hI hS hl
  have hbA : ¬ jm_A s.heap.size b := fun h => Nat.not_le.mpr hbl h
  obtain ⟨h61, fs0, hf0⟩ := inv_c h
  obtain ⟨d, v, n1, f1, n2, f2, q1, q2, q3, ⟨q4, fs1, q5⟩, q6⟩ := op_check h (xs (i + 1)) (xs (i + 2)) (xs (i + 3))
  have g2 := (jm_met l s.heap.size κ D d 110 _ _ _ _ q2).1
  have g3 := inv_sl q6
  have g4 : n1 ≤ n2 := g2.1
  have g5 : jm_sl (n1, f1) ≤ jm_sl (n2, f2) := g2.2
  refine lv_aload_n hx hb d_law_494 rfl (lv_at hl 2 rfl) ?_
  refine lv_aload_n hx hb d_law_495 rfl (lv_at hl 3 rfl) ?_
  refine lv_iload_n hx hb d_law_496 rfl (lv_at hl 0 rfl) ?_
  refine lv_iconst (v := 1) hx hb d_law_497 (by decide) ?_
  refine lv_iadd hx hb d_law_498 ?_
  rw [nI_a1]
  refine va_sld hx hb hX hbl hbA hS (vp_in_nI (show i + 1 < L by omega) (by omega)) d_law_499 ?_
  rw [nI_clamp (show i + 1 < 2 ^ 31 by omega)]
  refine lv_aload_n hx hb d_law_500 rfl (lv_at hl 3 rfl) ?_
  refine lv_iload_n hx hb d_law_501 rfl (lv_at hl 0 rfl) ?_
  refine lv_iconst (v := 2) hx hb d_law_502 (by decide) ?_
  refine lv_iadd hx hb d_law_503 ?_
  rw [nI_a2]
  refine va_sld hx hb hX hbl hbA hS (vp_in_nI (show i + 2 < L by omega) (by omega)) d_law_504 ?_
  rw [nI_clamp (show i + 2 < 2 ^ 31 by omega)]
  refine lv_aload_n hx hb d_law_505 rfl (lv_at hl 3 rfl) ?_
  refine lv_iload_n hx hb d_law_506 rfl (lv_at hl 0 rfl) ?_
  refine lv_iconst (v := 3) hx hb d_law_507 (by decide) ?_
  refine lv_iadd hx hb d_law_508 ?_
  rw [nI_a3]
  refine va_sld hx hb hX hbl hbA hS (vp_in_nI (show i + 3 < L by omega) (by omega)) d_law_509 ?_
  rw [nI_clamp (show i + 3 < 2 ^ 31 by omega)]
  refine law_call (y := 13) (a := 0) (As := [.int (xs (i + 1)), .int (xs (i + 2)), .int (xs (i + 3))]) (rest := []) (fs := fs0) (h := (n, f)) (t := (n1, f1)) (r := some (.int v)) hx hb hml hown hts hG (idx := 68) (by decide +kernel) ⟨Nat.le_of_ble_eq_true rfl, Nat.le_of_ble_eq_true rfl⟩ q1 rfl (Nat.le_of_ble_eq_true rfl) (show 0 < n by omega) hf0 hI hS hl.1 d_law_510 (show n1 ≤ 600000 by omega) (show jm_sl (n1, f1) ≤ 7302250 by omega) ?_
  intro H1 locs1 hI1 hS1
  refine W.eq (g2 := F0 m 513 ls [.int v]) rfl ?_
  refine lv_aload_n hx hb d_law_513 rfl (lv_at hl 1 rfl) ?_
  refine lv_aload_n hx hb d_law_514 rfl (lv_at hl 3 rfl) ?_
  refine lv_iload_n hx hb d_law_515 rfl (lv_at hl 0 rfl) ?_
  refine lv_iconst (v := 1) hx hb d_law_516 (by decide) ?_
  refine lv_iadd hx hb d_law_517 ?_
  rw [nI_a1]
  refine va_sld hx hb hX hbl hbA hS1 (vp_in_nI (show i + 1 < L by omega) (by omega)) d_law_518 ?_
  rw [nI_clamp (show i + 1 < 2 ^ 31 by omega)]
  refine lv_aload_n hx hb d_law_519 rfl (lv_at hl 3 rfl) ?_
  refine lv_iload_n hx hb d_law_520 rfl (lv_at hl 0 rfl) ?_
  refine lv_iconst (v := 2) hx hb d_law_521 (by decide) ?_
  refine lv_iadd hx hb d_law_522 ?_
  rw [nI_a2]
  refine va_sld hx hb hX hbl hbA hS1 (vp_in_nI (show i + 2 < L by omega) (by omega)) d_law_523 ?_
  rw [nI_clamp (show i + 2 < 2 ^ 31 by omega)]
  refine lv_aload_n hx hb d_law_524 rfl (lv_at hl 3 rfl) ?_
  refine lv_iload_n hx hb d_law_525 rfl (lv_at hl 0 rfl) ?_
  refine lv_iconst (v := 3) hx hb d_law_526 (by decide) ?_
  refine lv_iadd hx hb d_law_527 ?_
  rw [nI_a3]
  refine va_sld hx hb hX hbl hbA hS1 (vp_in_nI (show i + 3 < L by omega) (by omega)) d_law_528 ?_
  rw [nI_clamp (show i + 3 < 2 ^ 31 by omega)]
  refine law_call (y := 110) (a := 35) (As := [.int (xs (i + 1)), .int (xs (i + 2)), .int (xs (i + 3))]) (rest := [.int v]) (fs := fs1) (h := (n1, f1)) (t := (n2, f2)) (r := some (.int v)) hx hb hml hown hts hG (idx := 71) (by decide +kernel) ⟨Nat.le_of_ble_eq_true rfl, Nat.le_of_ble_eq_true rfl⟩ q2 rfl (Nat.le_of_ble_eq_true rfl) q4 q5 hI1 hS1 hl.1 d_law_529 (show n2 ≤ 600000 by omega) (show jm_sl (n2, f2) ≤ 7302250 by omega) ?_
  intro H2 locs2 hI2 hS2
  refine W.eq (g2 := F0 m 532 ls [.int v, .int v]) rfl ?_
  refine lv_icmp_eq (tgt := 762) hx hb d_law_532 (by decide) (fun _ => ?_) (fun h => absurd rfl h)
  exact cont n2 f2 q6 q3 H2 locs2 ls hI2 hS2 hl
theorem law_13 (h0 : LA p s m c b L xs κ D) (hL : L ≤ 2560) {i n : Nat} {f : Nat → va_E} (hi : i + 5 ≤ L) (hn : n ≤ 1900) (h : inv n f) (cont : ∀ n2 f2, inv n2 f2 → n2 ≤ n + 3 → LW p l e s m below meth c b κ D 762 i n2 f2 []) : LW p l e s m below meth c b κ D 537 i n f [] := by
  obtain ⟨hx, hb, hml, hown, hts, hG, hX, hbl⟩ := h0
  intro H locs ls hI hS hl
  have hbA : ¬ jm_A s.heap.size b := fun h => Nat.not_le.mpr hbl h
  obtain ⟨h61, fs0, hf0⟩ := inv_c h
  obtain ⟨d, v, n1, f1, n2, f2, q1, q2, q3, ⟨q4, fs1, q5⟩, q6⟩ := op_close h (xs (i + 1))
  have g2 := (jm_met l s.heap.size κ D d 114 _ _ _ _ q2).1
  have g3 := inv_sl q6
  have g4 : n1 ≤ n2 := g2.1
  have g5 : jm_sl (n1, f1) ≤ jm_sl (n2, f2) := g2.2
  refine lv_aload_n hx hb d_law_537 rfl (lv_at hl 2 rfl) ?_
  refine lv_aload_n hx hb d_law_538 rfl (lv_at hl 3 rfl) ?_
  refine lv_iload_n hx hb d_law_539 rfl (lv_at hl 0 rfl) ?_
  refine lv_iconst (v := 1) hx hb d_law_540 (by decide) ?_
  refine lv_iadd hx hb d_law_541 ?_
  rw [nI_a1]
  refine va_sld hx hb hX hbl hbA hS (vp_in_nI (show i + 1 < L by omega) (by omega)) d_law_542 ?_
  rw [nI_clamp (show i + 1 < 2 ^ 31 by omega)]
  refine law_call (y := 14) (a := 0) (As := [.int (xs (i + 1))]) (rest := []) (fs := fs0) (h := (n, f)) (t := (n1, f1)) (r := some (.int v)) hx hb hml hown hts hG (idx := 72) (by decide +kernel) ⟨Nat.le_of_ble_eq_true rfl, Nat.le_of_ble_eq_true rfl⟩ q1 rfl (Nat.le_of_ble_eq_true rfl) (show 0 < n by omega) hf0 hI hS hl.1 d_law_543 (show n1 ≤ 600000 by omega) (show jm_sl (n1, f1) ≤ 7302250 by omega) ?_
  intro H1 locs1 hI1 hS1
  refine W.eq (g2 := F0 m 546 ls [.int v]) rfl ?_
  refine lv_aload_n hx hb d_law_546 rfl (lv_at hl 1 rfl) ?_
  refine lv_aload_n hx hb d_law_547 rfl (lv_at hl 3 rfl) ?_
  refine lv_iload_n hx hb d_law_548 rfl (lv_at hl 0 rfl) ?_
  refine lv_iconst (v := 1) hx hb d_law_549 (by decide) ?_
  refine lv_iadd hx hb d_law_550 ?_
  rw [nI_a1]
  refine va_sld hx hb hX hbl hbA hS1 (vp_in_nI (show i + 1 < L by omega) (by omega)) d_law_551 ?_
  rw [nI_clamp (show i + 1 < 2 ^ 31 by omega)]
  refine law_call (y := 114) (a := 35) (As := [.int (xs (i + 1))]) (rest := [.int v]) (fs := fs1) (h := (n1, f1)) (t := (n2, f2)) (r := some (.int v)) hx hb hml hown hts hG (idx := 75) (by decide +kernel) ⟨Nat.le_of_ble_eq_true rfl, Nat.le_of_ble_eq_true rfl⟩ q2 rfl (Nat.le_of_ble_eq_true rfl) q4 q5 hI1 hS1 hl.1 d_law_552 (show n2 ≤ 600000 by omega) (show jm_sl (n2, f2) ≤ 7302250 by omega) ?_
  intro H2 locs2 hI2 hS2
  refine W.eq (g2 := F0 m 555 ls [.int v, .int v]) rfl ?_
  refine lv_icmp_eq (tgt := 762) hx hb d_law_555 (by decide) (fun _ => ?_) (fun h => absurd rfl h)
  exact cont n2 f2 q6 q3 H2 locs2 ls hI2 hS2 hl
theorem law_14 (h0 : LA p s m c b L xs κ D) (hL : L ≤ 2560) {i n : Nat} {f : Nat → va_E} (hi : i + 5 ≤ L) (hn : n ≤ 1900) (h : inv n f) (cont : ∀ n2 f2, inv n2 f2 → n2 ≤ n + 3 → LW p l e s m below meth c b κ D 762 i n2 f2 []) : LW p l e s m below meth c b κ D 560 i n f [] := by
  obtain ⟨hx, hb, hml, hown, hts, hG, hX, hbl⟩ := h0
  intro H locs ls hI hS hl
  have hbA : ¬ jm_A s.heap.size b := fun h => Nat.not_le.mpr hbl h
  obtain ⟨h61, fs0, hf0⟩ := inv_c h
  obtain ⟨d, v, n1, f1, n2, f2, q1, q2, q3, ⟨q4, fs1, q5⟩, q6⟩ := op_reopen h 
  have g2 := (jm_met l s.heap.size κ D d 117 _ _ _ _ q2).1
  have g3 := inv_sl q6
  have g4 : n1 ≤ n2 := g2.1
  have g5 : jm_sl (n1, f1) ≤ jm_sl (n2, f2) := g2.2
  refine lv_aload_n hx hb d_law_560 rfl (lv_at hl 2 rfl) ?_
  refine law_call (y := 15) (a := 0) (As := []) (rest := []) (fs := fs0) (h := (n, f)) (t := (n1, f1)) (r := some (.int v)) hx hb hml hown hts hG (idx := 76) (by decide +kernel) ⟨Nat.le_of_ble_eq_true rfl, Nat.le_of_ble_eq_true rfl⟩ q1 rfl (Nat.le_of_ble_eq_true rfl) (show 0 < n by omega) hf0 hI hS hl.1 d_law_561 (show n1 ≤ 600000 by omega) (show jm_sl (n1, f1) ≤ 7302250 by omega) ?_
  intro H1 locs1 hI1 hS1
  refine W.eq (g2 := F0 m 564 ls [.int v]) rfl ?_
  refine lv_aload_n hx hb d_law_564 rfl (lv_at hl 1 rfl) ?_
  refine law_call (y := 117) (a := 35) (As := []) (rest := [.int v]) (fs := fs1) (h := (n1, f1)) (t := (n2, f2)) (r := some (.int v)) hx hb hml hown hts hG (idx := 79) (by decide +kernel) ⟨Nat.le_of_ble_eq_true rfl, Nat.le_of_ble_eq_true rfl⟩ q2 rfl (Nat.le_of_ble_eq_true rfl) q4 q5 hI1 hS1 hl.1 d_law_565 (show n2 ≤ 600000 by omega) (show jm_sl (n2, f2) ≤ 7302250 by omega) ?_
  intro H2 locs2 hI2 hS2
  refine W.eq (g2 := F0 m 568 ls [.int v, .int v]) rfl ?_
  refine lv_icmp_eq (tgt := 762) hx hb d_law_568 (by decide) (fun _ => ?_) (fun h => absurd rfl h)
  exact cont n2 f2 q6 q3 H2 locs2 ls hI2 hS2 hl
theorem law_15 (h0 : LA p s m c b L xs κ D) (hL : L ≤ 2560) {i n : Nat} {f : Nat → va_E} (hi : i + 5 ≤ L) (hn : n ≤ 1900) (h : inv n f) (cont : ∀ n2 f2, inv n2 f2 → n2 ≤ n + 3 → LW p l e s m below meth c b κ D 762 i n2 f2 []) : LW p l e s m below meth c b κ D 573 i n f [] := by
  obtain ⟨hx, hb, hml, hown, hts, hG, hX, hbl⟩ := h0
  intro H locs ls hI hS hl
  have hbA : ¬ jm_A s.heap.size b := fun h => Nat.not_le.mpr hbl h
  obtain ⟨h61, fs0, hf0⟩ := inv_c h
  obtain ⟨d, v, n1, f1, n2, f2, q1, q2, q3, ⟨q4, fs1, q5⟩, q6⟩ := op_profit h (xs (i + 1))
  have g2 := (jm_met l s.heap.size κ D d 118 _ _ _ _ q2).1
  have g3 := inv_sl q6
  have g4 : n1 ≤ n2 := g2.1
  have g5 : jm_sl (n1, f1) ≤ jm_sl (n2, f2) := g2.2
  refine lv_aload_n hx hb d_law_573 rfl (lv_at hl 2 rfl) ?_
  refine lv_aload_n hx hb d_law_574 rfl (lv_at hl 3 rfl) ?_
  refine lv_iload_n hx hb d_law_575 rfl (lv_at hl 0 rfl) ?_
  refine lv_iconst (v := 1) hx hb d_law_576 (by decide) ?_
  refine lv_iadd hx hb d_law_577 ?_
  rw [nI_a1]
  refine va_sld hx hb hX hbl hbA hS (vp_in_nI (show i + 1 < L by omega) (by omega)) d_law_578 ?_
  rw [nI_clamp (show i + 1 < 2 ^ 31 by omega)]
  refine law_call (y := 16) (a := 0) (As := [.int (xs (i + 1))]) (rest := []) (fs := fs0) (h := (n, f)) (t := (n1, f1)) (r := some (.long v)) hx hb hml hown hts hG (idx := 80) (by decide +kernel) ⟨Nat.le_of_ble_eq_true rfl, Nat.le_of_ble_eq_true rfl⟩ q1 rfl (Nat.le_of_ble_eq_true rfl) (show 0 < n by omega) hf0 hI hS hl.1 d_law_579 (show n1 ≤ 600000 by omega) (show jm_sl (n1, f1) ≤ 7302250 by omega) ?_
  intro H1 locs1 hI1 hS1
  refine W.eq (g2 := F0 m 582 ls [.long v]) rfl ?_
  refine lv_aload_n hx hb d_law_582 rfl (lv_at hl 1 rfl) ?_
  refine lv_aload_n hx hb d_law_583 rfl (lv_at hl 3 rfl) ?_
  refine lv_iload_n hx hb d_law_584 rfl (lv_at hl 0 rfl) ?_
  refine lv_iconst (v := 1) hx hb d_law_585 (by decide) ?_
  refine lv_iadd hx hb d_law_586 ?_
  rw [nI_a1]
  refine va_sld hx hb hX hbl hbA hS1 (vp_in_nI (show i + 1 < L by omega) (by omega)) d_law_587 ?_
  rw [nI_clamp (show i + 1 < 2 ^ 31 by omega)]
  refine law_call (y := 118) (a := 35) (As := [.int (xs (i + 1))]) (rest := [.long v]) (fs := fs1) (h := (n1, f1)) (t := (n2, f2)) (r := some (.long v)) hx hb hml hown hts hG (idx := 84) (by decide +kernel) ⟨Nat.le_of_ble_eq_true rfl, Nat.le_of_ble_eq_true rfl⟩ q2 rfl (Nat.le_of_ble_eq_true rfl) q4 q5 hI1 hS1 hl.1 d_law_588 (show n2 ≤ 600000 by omega) (show jm_sl (n2, f2) ≤ 7302250 by omega) ?_
  intro H2 locs2 hI2 hS2
  refine W.eq (g2 := F0 m 591 ls [.long v, .long v]) rfl ?_
  refine W.lcmp hx hb d_law_591 ?_
  refine lv_if_eq (tgt := 762) hx hb d_law_592 (by decide) (fun _ => ?_) (fun h => absurd (lg_eq.mpr rfl) h)
  exact cont n2 f2 q6 q3 H2 locs2 ls hI2 hS2 hl
theorem law_16 (h0 : LA p s m c b L xs κ D) (hL : L ≤ 2560) {i n : Nat} {f : Nat → va_E} (hi : i + 5 ≤ L) (hn : n ≤ 1900) (h : inv n f) (cont : ∀ n2 f2, inv n2 f2 → n2 ≤ n + 3 → LW p l e s m below meth c b κ D 762 i n2 f2 []) : LW p l e s m below meth c b κ D 597 i n f [] := by
  obtain ⟨hx, hb, hml, hown, hts, hG, hX, hbl⟩ := h0
  intro H locs ls hI hS hl
  have hbA : ¬ jm_A s.heap.size b := fun h => Nat.not_le.mpr hbl h
  obtain ⟨h61, fs0, hf0⟩ := inv_c h
  obtain ⟨d, v, n1, f1, n2, f2, q1, q2, q3, ⟨q4, fs1, q5⟩, q6⟩ := op_balance h (xs (i + 1)) (xs (i + 2))
  have g2 := (jm_met l s.heap.size κ D d 120 _ _ _ _ q2).1
  have g3 := inv_sl q6
  have g4 : n1 ≤ n2 := g2.1
  have g5 : jm_sl (n1, f1) ≤ jm_sl (n2, f2) := g2.2
  refine lv_aload_n hx hb d_law_597 rfl (lv_at hl 2 rfl) ?_
  refine lv_aload_n hx hb d_law_598 rfl (lv_at hl 3 rfl) ?_
  refine lv_iload_n hx hb d_law_599 rfl (lv_at hl 0 rfl) ?_
  refine lv_iconst (v := 1) hx hb d_law_600 (by decide) ?_
  refine lv_iadd hx hb d_law_601 ?_
  rw [nI_a1]
  refine va_sld hx hb hX hbl hbA hS (vp_in_nI (show i + 1 < L by omega) (by omega)) d_law_602 ?_
  rw [nI_clamp (show i + 1 < 2 ^ 31 by omega)]
  refine lv_aload_n hx hb d_law_603 rfl (lv_at hl 3 rfl) ?_
  refine lv_iload_n hx hb d_law_604 rfl (lv_at hl 0 rfl) ?_
  refine lv_iconst (v := 2) hx hb d_law_605 (by decide) ?_
  refine lv_iadd hx hb d_law_606 ?_
  rw [nI_a2]
  refine va_sld hx hb hX hbl hbA hS (vp_in_nI (show i + 2 < L by omega) (by omega)) d_law_607 ?_
  rw [nI_clamp (show i + 2 < 2 ^ 31 by omega)]
  refine law_call (y := 17) (a := 0) (As := [.int (xs (i + 1)), .int (xs (i + 2))]) (rest := []) (fs := fs0) (h := (n, f)) (t := (n1, f1)) (r := some (.long v)) hx hb hml hown hts hG (idx := 85) (by decide +kernel) ⟨Nat.le_of_ble_eq_true rfl, Nat.le_of_ble_eq_true rfl⟩ q1 rfl (Nat.le_of_ble_eq_true rfl) (show 0 < n by omega) hf0 hI hS hl.1 d_law_608 (show n1 ≤ 600000 by omega) (show jm_sl (n1, f1) ≤ 7302250 by omega) ?_
  intro H1 locs1 hI1 hS1
  refine W.eq (g2 := F0 m 611 ls [.long v]) rfl ?_
  refine lv_aload_n hx hb d_law_611 rfl (lv_at hl 1 rfl) ?_
  refine lv_aload_n hx hb d_law_612 rfl (lv_at hl 3 rfl) ?_
  refine lv_iload_n hx hb d_law_613 rfl (lv_at hl 0 rfl) ?_
  refine lv_iconst (v := 1) hx hb d_law_614 (by decide) ?_
  refine lv_iadd hx hb d_law_615 ?_
  rw [nI_a1]
  refine va_sld hx hb hX hbl hbA hS1 (vp_in_nI (show i + 1 < L by omega) (by omega)) d_law_616 ?_
  rw [nI_clamp (show i + 1 < 2 ^ 31 by omega)]
  refine lv_aload_n hx hb d_law_617 rfl (lv_at hl 3 rfl) ?_
  refine lv_iload_n hx hb d_law_618 rfl (lv_at hl 0 rfl) ?_
  refine lv_iconst (v := 2) hx hb d_law_619 (by decide) ?_
  refine lv_iadd hx hb d_law_620 ?_
  rw [nI_a2]
  refine va_sld hx hb hX hbl hbA hS1 (vp_in_nI (show i + 2 < L by omega) (by omega)) d_law_621 ?_
  rw [nI_clamp (show i + 2 < 2 ^ 31 by omega)]
  refine law_call (y := 120) (a := 35) (As := [.int (xs (i + 1)), .int (xs (i + 2))]) (rest := [.long v]) (fs := fs1) (h := (n1, f1)) (t := (n2, f2)) (r := some (.long v)) hx hb hml hown hts hG (idx := 89) (by decide +kernel) ⟨Nat.le_of_ble_eq_true rfl, Nat.le_of_ble_eq_true rfl⟩ q2 rfl (Nat.le_of_ble_eq_true rfl) q4 q5 hI1 hS1 hl.1 d_law_622 (show n2 ≤ 600000 by omega) (show jm_sl (n2, f2) ≤ 7302250 by omega) ?_
  intro H2 locs2 hI2 hS2
  refine W.eq (g2 := F0 m 625 ls [.long v, .long v]) rfl ?_
  refine W.lcmp hx hb d_law_625 ?_
  refine lv_if_eq (tgt := 762) hx hb d_law_626 (by decide) (fun _ => ?_) (fun h => absurd (lg_eq.mpr rfl) h)
  exact cont n2 f2 q6 q3 H2 locs2 ls hI2 hS2 hl
theorem law_17 (h0 : LA p s m c b L xs κ D) (hL : L ≤ 2560) {i n : Nat} {f : Nat → va_E} (hi : i + 5 ≤ L) (hn : n ≤ 1900) (h : inv n f) (cont : ∀ n2 f2, inv n2 f2 → n2 ≤ n + 3 → LW p l e s m below meth c b κ D 762 i n2 f2 []) : LW p l e s m below meth c b κ D 631 i n f [] := by
  obtain ⟨hx, hb, hml, hown, hts, hG, hX, hbl⟩ := h0
  intro H locs ls hI hS hl
  have hbA : ¬ jm_A s.heap.size b := fun h => Nat.not_le.mpr hbl h
  obtain ⟨h61, fs0, hf0⟩ := inv_c h
  obtain ⟨d, v, n1, f1, n2, f2, q1, q2, q3, ⟨q4, fs1, q5⟩, q6⟩ := op_quantity h (xs (i + 1)) (xs (i + 2)) (xs (i + 3))
  have g2 := (jm_met l s.heap.size κ D d 109 _ _ _ _ q2).1
  have g3 := inv_sl q6
  have g4 : n1 ≤ n2 := g2.1
  have g5 : jm_sl (n1, f1) ≤ jm_sl (n2, f2) := g2.2
  refine lv_aload_n hx hb d_law_631 rfl (lv_at hl 2 rfl) ?_
  refine lv_aload_n hx hb d_law_632 rfl (lv_at hl 3 rfl) ?_
  refine lv_iload_n hx hb d_law_633 rfl (lv_at hl 0 rfl) ?_
  refine lv_iconst (v := 1) hx hb d_law_634 (by decide) ?_
  refine lv_iadd hx hb d_law_635 ?_
  rw [nI_a1]
  refine va_sld hx hb hX hbl hbA hS (vp_in_nI (show i + 1 < L by omega) (by omega)) d_law_636 ?_
  rw [nI_clamp (show i + 1 < 2 ^ 31 by omega)]
  refine lv_aload_n hx hb d_law_637 rfl (lv_at hl 3 rfl) ?_
  refine lv_iload_n hx hb d_law_638 rfl (lv_at hl 0 rfl) ?_
  refine lv_iconst (v := 2) hx hb d_law_639 (by decide) ?_
  refine lv_iadd hx hb d_law_640 ?_
  rw [nI_a2]
  refine va_sld hx hb hX hbl hbA hS (vp_in_nI (show i + 2 < L by omega) (by omega)) d_law_641 ?_
  rw [nI_clamp (show i + 2 < 2 ^ 31 by omega)]
  refine lv_aload_n hx hb d_law_642 rfl (lv_at hl 3 rfl) ?_
  refine lv_iload_n hx hb d_law_643 rfl (lv_at hl 0 rfl) ?_
  refine lv_iconst (v := 3) hx hb d_law_644 (by decide) ?_
  refine lv_iadd hx hb d_law_645 ?_
  rw [nI_a3]
  refine va_sld hx hb hX hbl hbA hS (vp_in_nI (show i + 3 < L by omega) (by omega)) d_law_646 ?_
  rw [nI_clamp (show i + 3 < 2 ^ 31 by omega)]
  refine law_call (y := 18) (a := 0) (As := [.int (xs (i + 1)), .int (xs (i + 2)), .int (xs (i + 3))]) (rest := []) (fs := fs0) (h := (n, f)) (t := (n1, f1)) (r := some (.int v)) hx hb hml hown hts hG (idx := 90) (by decide +kernel) ⟨Nat.le_of_ble_eq_true rfl, Nat.le_of_ble_eq_true rfl⟩ q1 rfl (Nat.le_of_ble_eq_true rfl) (show 0 < n by omega) hf0 hI hS hl.1 d_law_647 (show n1 ≤ 600000 by omega) (show jm_sl (n1, f1) ≤ 7302250 by omega) ?_
  intro H1 locs1 hI1 hS1
  refine W.eq (g2 := F0 m 650 ls [.int v]) rfl ?_
  refine lv_aload_n hx hb d_law_650 rfl (lv_at hl 1 rfl) ?_
  refine lv_aload_n hx hb d_law_651 rfl (lv_at hl 3 rfl) ?_
  refine lv_iload_n hx hb d_law_652 rfl (lv_at hl 0 rfl) ?_
  refine lv_iconst (v := 1) hx hb d_law_653 (by decide) ?_
  refine lv_iadd hx hb d_law_654 ?_
  rw [nI_a1]
  refine va_sld hx hb hX hbl hbA hS1 (vp_in_nI (show i + 1 < L by omega) (by omega)) d_law_655 ?_
  rw [nI_clamp (show i + 1 < 2 ^ 31 by omega)]
  refine lv_aload_n hx hb d_law_656 rfl (lv_at hl 3 rfl) ?_
  refine lv_iload_n hx hb d_law_657 rfl (lv_at hl 0 rfl) ?_
  refine lv_iconst (v := 2) hx hb d_law_658 (by decide) ?_
  refine lv_iadd hx hb d_law_659 ?_
  rw [nI_a2]
  refine va_sld hx hb hX hbl hbA hS1 (vp_in_nI (show i + 2 < L by omega) (by omega)) d_law_660 ?_
  rw [nI_clamp (show i + 2 < 2 ^ 31 by omega)]
  refine lv_aload_n hx hb d_law_661 rfl (lv_at hl 3 rfl) ?_
  refine lv_iload_n hx hb d_law_662 rfl (lv_at hl 0 rfl) ?_
  refine lv_iconst (v := 3) hx hb d_law_663 (by decide) ?_
  refine lv_iadd hx hb d_law_664 ?_
  rw [nI_a3]
  refine va_sld hx hb hX hbl hbA hS1 (vp_in_nI (show i + 3 < L by omega) (by omega)) d_law_665 ?_
  rw [nI_clamp (show i + 3 < 2 ^ 31 by omega)]
  refine law_call (y := 109) (a := 35) (As := [.int (xs (i + 1)), .int (xs (i + 2)), .int (xs (i + 3))]) (rest := [.int v]) (fs := fs1) (h := (n1, f1)) (t := (n2, f2)) (r := some (.int v)) hx hb hml hown hts hG (idx := 94) (by decide +kernel) ⟨Nat.le_of_ble_eq_true rfl, Nat.le_of_ble_eq_true rfl⟩ q2 rfl (Nat.le_of_ble_eq_true rfl) q4 q5 hI1 hS1 hl.1 d_law_666 (show n2 ≤ 600000 by omega) (show jm_sl (n2, f2) ≤ 7302250 by omega) ?_
  intro H2 locs2 hI2 hS2
  refine W.eq (g2 := F0 m 669 ls [.int v, .int v]) rfl ?_
  refine lv_icmp_eq (tgt := 762) hx hb d_law_669 (by decide) (fun _ => ?_) (fun h => absurd rfl h)
  exact cont n2 f2 q6 q3 H2 locs2 ls hI2 hS2 hl
theorem law_18 (h0 : LA p s m c b L xs κ D) (hL : L ≤ 2560) {i n : Nat} {f : Nat → va_E} (hi : i + 5 ≤ L) (hn : n ≤ 1900) (h : inv n f) (cont : ∀ n2 f2, inv n2 f2 → n2 ≤ n + 3 → LW p l e s m below meth c b κ D 762 i n2 f2 []) : LW p l e s m below meth c b κ D 674 i n f [] := by
  obtain ⟨hx, hb, hml, hown, hts, hG, hX, hbl⟩ := h0
  intro H locs ls hI hS hl
  have hbA : ¬ jm_A s.heap.size b := fun h => Nat.not_le.mpr hbl h
  obtain ⟨h61, fs0, hf0⟩ := inv_c h
  obtain ⟨d, v, n1, f1, n2, f2, q1, q2, q3, ⟨q4, fs1, q5⟩, q6⟩ := op_lot h (xs (i + 1)) (xs (i + 2)) (xs (i + 3))
  have g2 := (jm_met l s.heap.size κ D d 105 _ _ _ _ q2).1
  have g3 := inv_sl q6
  have g4 : n1 ≤ n2 := g2.1
  have g5 : jm_sl (n1, f1) ≤ jm_sl (n2, f2) := g2.2
  refine lv_aload_n hx hb d_law_674 rfl (lv_at hl 2 rfl) ?_
  refine lv_aload_n hx hb d_law_675 rfl (lv_at hl 3 rfl) ?_
  refine lv_iload_n hx hb d_law_676 rfl (lv_at hl 0 rfl) ?_
  refine lv_iconst (v := 1) hx hb d_law_677 (by decide) ?_
  refine lv_iadd hx hb d_law_678 ?_
  rw [nI_a1]
  refine va_sld hx hb hX hbl hbA hS (vp_in_nI (show i + 1 < L by omega) (by omega)) d_law_679 ?_
  rw [nI_clamp (show i + 1 < 2 ^ 31 by omega)]
  refine lv_aload_n hx hb d_law_680 rfl (lv_at hl 3 rfl) ?_
  refine lv_iload_n hx hb d_law_681 rfl (lv_at hl 0 rfl) ?_
  refine lv_iconst (v := 2) hx hb d_law_682 (by decide) ?_
  refine lv_iadd hx hb d_law_683 ?_
  rw [nI_a2]
  refine va_sld hx hb hX hbl hbA hS (vp_in_nI (show i + 2 < L by omega) (by omega)) d_law_684 ?_
  rw [nI_clamp (show i + 2 < 2 ^ 31 by omega)]
  refine lv_aload_n hx hb d_law_685 rfl (lv_at hl 3 rfl) ?_
  refine lv_iload_n hx hb d_law_686 rfl (lv_at hl 0 rfl) ?_
  refine lv_iconst (v := 3) hx hb d_law_687 (by decide) ?_
  refine lv_iadd hx hb d_law_688 ?_
  rw [nI_a3]
  refine va_sld hx hb hX hbl hbA hS (vp_in_nI (show i + 3 < L by omega) (by omega)) d_law_689 ?_
  rw [nI_clamp (show i + 3 < 2 ^ 31 by omega)]
  refine law_call (y := 19) (a := 0) (As := [.int (xs (i + 1)), .int (xs (i + 2)), .int (xs (i + 3))]) (rest := []) (fs := fs0) (h := (n, f)) (t := (n1, f1)) (r := some (.long v)) hx hb hml hown hts hG (idx := 95) (by decide +kernel) ⟨Nat.le_of_ble_eq_true rfl, Nat.le_of_ble_eq_true rfl⟩ q1 rfl (Nat.le_of_ble_eq_true rfl) (show 0 < n by omega) hf0 hI hS hl.1 d_law_690 (show n1 ≤ 600000 by omega) (show jm_sl (n1, f1) ≤ 7302250 by omega) ?_
  intro H1 locs1 hI1 hS1
  refine W.eq (g2 := F0 m 693 ls [.long v]) rfl ?_
  refine lv_aload_n hx hb d_law_693 rfl (lv_at hl 1 rfl) ?_
  refine lv_aload_n hx hb d_law_694 rfl (lv_at hl 3 rfl) ?_
  refine lv_iload_n hx hb d_law_695 rfl (lv_at hl 0 rfl) ?_
  refine lv_iconst (v := 1) hx hb d_law_696 (by decide) ?_
  refine lv_iadd hx hb d_law_697 ?_
  rw [nI_a1]
  refine va_sld hx hb hX hbl hbA hS1 (vp_in_nI (show i + 1 < L by omega) (by omega)) d_law_698 ?_
  rw [nI_clamp (show i + 1 < 2 ^ 31 by omega)]
  refine lv_aload_n hx hb d_law_699 rfl (lv_at hl 3 rfl) ?_
  refine lv_iload_n hx hb d_law_700 rfl (lv_at hl 0 rfl) ?_
  refine lv_iconst (v := 2) hx hb d_law_701 (by decide) ?_
  refine lv_iadd hx hb d_law_702 ?_
  rw [nI_a2]
  refine va_sld hx hb hX hbl hbA hS1 (vp_in_nI (show i + 2 < L by omega) (by omega)) d_law_703 ?_
  rw [nI_clamp (show i + 2 < 2 ^ 31 by omega)]
  refine lv_aload_n hx hb d_law_704 rfl (lv_at hl 3 rfl) ?_
  refine lv_iload_n hx hb d_law_705 rfl (lv_at hl 0 rfl) ?_
  refine lv_iconst (v := 3) hx hb d_law_706 (by decide) ?_
  refine lv_iadd hx hb d_law_707 ?_
  rw [nI_a3]
  refine va_sld hx hb hX hbl hbA hS1 (vp_in_nI (show i + 3 < L by omega) (by omega)) d_law_708 ?_
  rw [nI_clamp (show i + 3 < 2 ^ 31 by omega)]
  refine law_call (y := 105) (a := 35) (As := [.int (xs (i + 1)), .int (xs (i + 2)), .int (xs (i + 3))]) (rest := [.long v]) (fs := fs1) (h := (n1, f1)) (t := (n2, f2)) (r := some (.long v)) hx hb hml hown hts hG (idx := 99) (by decide +kernel) ⟨Nat.le_of_ble_eq_true rfl, Nat.le_of_ble_eq_true rfl⟩ q2 rfl (Nat.le_of_ble_eq_true rfl) q4 q5 hI1 hS1 hl.1 d_law_709 (show n2 ≤ 600000 by omega) (show jm_sl (n2, f2) ≤ 7302250 by omega) ?_
  intro H2 locs2 hI2 hS2
  refine W.eq (g2 := F0 m 712 ls [.long v, .long v]) rfl ?_
  refine W.lcmp hx hb d_law_712 ?_
  refine lv_if_eq (tgt := 762) hx hb d_law_713 (by decide) (fun _ => ?_) (fun h => absurd (lg_eq.mpr rfl) h)
  exact cont n2 f2 q6 q3 H2 locs2 ls hI2 hS2 hl
theorem law_19 (h0 : LA p s m c b L xs κ D) (hL : L ≤ 2560) {i n : Nat} {f : Nat → va_E} (hi : i + 5 ≤ L) (hn : n ≤ 1900) (h : inv n f) (cont : ∀ n2 f2, inv n2 f2 → n2 ≤ n + 3 → LW p l e s m below meth c b κ D 762 i n2 f2 []) : LW p l e s m below meth c b κ D 718 i n f [] := by
  obtain ⟨hx, hb, hml, hown, hts, hG, hX, hbl⟩ := h0
  intro H locs ls hI hS hl
  have hbA : ¬ jm_A s.heap.size b := fun h => Nat.not_le.mpr hbl h
  obtain ⟨h61, fs0, hf0⟩ := inv_c h
  obtain ⟨d, v, n1, f1, n2, f2, q1, q2, q3, ⟨q4, fs1, q5⟩, q6⟩ := op_printed h (xs (i + 1)) (xs (i + 2)) (xs (i + 3))
  have g2 := (jm_met l s.heap.size κ D d 125 _ _ _ _ q2).1
  have g3 := inv_sl q6
  have g4 : n1 ≤ n2 := g2.1
  have g5 : jm_sl (n1, f1) ≤ jm_sl (n2, f2) := g2.2
  refine lv_aload_n hx hb d_law_718 rfl (lv_at hl 2 rfl) ?_
  refine lv_aload_n hx hb d_law_719 rfl (lv_at hl 3 rfl) ?_
  refine lv_iload_n hx hb d_law_720 rfl (lv_at hl 0 rfl) ?_
  refine lv_iconst (v := 1) hx hb d_law_721 (by decide) ?_
  refine lv_iadd hx hb d_law_722 ?_
  rw [nI_a1]
  refine va_sld hx hb hX hbl hbA hS (vp_in_nI (show i + 1 < L by omega) (by omega)) d_law_723 ?_
  rw [nI_clamp (show i + 1 < 2 ^ 31 by omega)]
  refine lv_aload_n hx hb d_law_724 rfl (lv_at hl 3 rfl) ?_
  refine lv_iload_n hx hb d_law_725 rfl (lv_at hl 0 rfl) ?_
  refine lv_iconst (v := 2) hx hb d_law_726 (by decide) ?_
  refine lv_iadd hx hb d_law_727 ?_
  rw [nI_a2]
  refine va_sld hx hb hX hbl hbA hS (vp_in_nI (show i + 2 < L by omega) (by omega)) d_law_728 ?_
  rw [nI_clamp (show i + 2 < 2 ^ 31 by omega)]
  refine lv_aload_n hx hb d_law_729 rfl (lv_at hl 3 rfl) ?_
  refine lv_iload_n hx hb d_law_730 rfl (lv_at hl 0 rfl) ?_
  refine lv_iconst (v := 3) hx hb d_law_731 (by decide) ?_
  refine lv_iadd hx hb d_law_732 ?_
  rw [nI_a3]
  refine va_sld hx hb hX hbl hbA hS (vp_in_nI (show i + 3 < L by omega) (by omega)) d_law_733 ?_
  rw [nI_clamp (show i + 3 < 2 ^ 31 by omega)]
  refine law_call (y := 20) (a := 0) (As := [.int (xs (i + 1)), .int (xs (i + 2)), .int (xs (i + 3))]) (rest := []) (fs := fs0) (h := (n, f)) (t := (n1, f1)) (r := some (.long v)) hx hb hml hown hts hG (idx := 100) (by decide +kernel) ⟨Nat.le_of_ble_eq_true rfl, Nat.le_of_ble_eq_true rfl⟩ q1 rfl (Nat.le_of_ble_eq_true rfl) (show 0 < n by omega) hf0 hI hS hl.1 d_law_734 (show n1 ≤ 600000 by omega) (show jm_sl (n1, f1) ≤ 7302250 by omega) ?_
  intro H1 locs1 hI1 hS1
  refine W.eq (g2 := F0 m 737 ls [.long v]) rfl ?_
  refine lv_aload_n hx hb d_law_737 rfl (lv_at hl 1 rfl) ?_
  refine lv_aload_n hx hb d_law_738 rfl (lv_at hl 3 rfl) ?_
  refine lv_iload_n hx hb d_law_739 rfl (lv_at hl 0 rfl) ?_
  refine lv_iconst (v := 1) hx hb d_law_740 (by decide) ?_
  refine lv_iadd hx hb d_law_741 ?_
  rw [nI_a1]
  refine va_sld hx hb hX hbl hbA hS1 (vp_in_nI (show i + 1 < L by omega) (by omega)) d_law_742 ?_
  rw [nI_clamp (show i + 1 < 2 ^ 31 by omega)]
  refine lv_aload_n hx hb d_law_743 rfl (lv_at hl 3 rfl) ?_
  refine lv_iload_n hx hb d_law_744 rfl (lv_at hl 0 rfl) ?_
  refine lv_iconst (v := 2) hx hb d_law_745 (by decide) ?_
  refine lv_iadd hx hb d_law_746 ?_
  rw [nI_a2]
  refine va_sld hx hb hX hbl hbA hS1 (vp_in_nI (show i + 2 < L by omega) (by omega)) d_law_747 ?_
  rw [nI_clamp (show i + 2 < 2 ^ 31 by omega)]
  refine lv_aload_n hx hb d_law_748 rfl (lv_at hl 3 rfl) ?_
  refine lv_iload_n hx hb d_law_749 rfl (lv_at hl 0 rfl) ?_
  refine lv_iconst (v := 3) hx hb d_law_750 (by decide) ?_
  refine lv_iadd hx hb d_law_751 ?_
  rw [nI_a3]
  refine va_sld hx hb hX hbl hbA hS1 (vp_in_nI (show i + 3 < L by omega) (by omega)) d_law_752 ?_
  rw [nI_clamp (show i + 3 < 2 ^ 31 by omega)]
  refine law_call (y := 125) (a := 35) (As := [.int (xs (i + 1)), .int (xs (i + 2)), .int (xs (i + 3))]) (rest := [.long v]) (fs := fs1) (h := (n1, f1)) (t := (n2, f2)) (r := some (.long v)) hx hb hml hown hts hG (idx := 103) (by decide +kernel) ⟨Nat.le_of_ble_eq_true rfl, Nat.le_of_ble_eq_true rfl⟩ q2 rfl (Nat.le_of_ble_eq_true rfl) q4 q5 hI1 hS1 hl.1 d_law_753 (show n2 ≤ 600000 by omega) (show jm_sl (n2, f2) ≤ 7302250 by omega) ?_
  intro H2 locs2 hI2 hS2
  refine W.eq (g2 := F0 m 756 ls [.long v, .long v]) rfl ?_
  refine W.lcmp hx hb d_law_756 ?_
  refine lv_if_eq (tgt := 762) hx hb d_law_757 (by decide) (fun _ => ?_) (fun h => absurd (lg_eq.mpr rfl) h)
  exact cont n2 f2 q6 q3 H2 locs2 ls hI2 hS2 hl
end
