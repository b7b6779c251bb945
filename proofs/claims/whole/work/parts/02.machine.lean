/-! The abstract machine: bytecode over a heap of numbered cells. A reference is a cell's number (from the law's start on), so a run is a function of its start. Its rows say what each instruction does; 'jm_wp' is the least judgement that they give; part 03 ties it to the kit's W. -/
abbrev jm_H : Type := Nat × (Nat → va_E)
abbrev jm_L : Type := Nat → Option Value
abbrev jm_S : Type := Nat × jm_L × List Value × jm_H
abbrev jm_Q : Type := Option Value → jm_H → Prop
abbrev jm_C : Type := Nat → List Value → jm_H → jm_Q
def jm_up (f : Nat → va_E) (i : Nat) (x : va_E) : Nat → va_E := fun j => if j = i then x else f j
theorem jm_up_s (f : Nat → va_E) (i : Nat) (x : va_E) : jm_up f i x i = x := if_pos rfl
theorem jm_up_n (f : Nat → va_E) {i j : Nat} (x : va_E) (h : j ≠ i) : jm_up f i x j = f j := if_neg h
def jm_k2 (o : Option Value) : Bool := match o with
  | some v => v.category == 2
  | none => false
def jm_p1 (lv : jm_L) (i : Nat) (v : Value) : jm_L := fun j => if j = i then some v else if (j + 1 == i && jm_k2 (lv j)) = true then none else lv j
def jm_p2 (lv : jm_L) (i : Nat) (v : Value) : jm_L := fun j => if j = i then some v else if j = i + 1 then none else if (j + 1 == i && jm_k2 (lv j)) = true then none else lv j
def jm_a0 : List (Nat × Value) → jm_L
  | [], _ => none
  | (i, v) :: l, j => if j = i then some v else jm_a0 l j
def jm_ct : List Value → Nat
  | [] => 0
  | v :: r => v.category + jm_ct r
def jm_rf : Value → Bool
  | .ref _ => true
  | .null => true
  | _ => false
def jm_ok : FieldType → Value → Bool
  | .int, .int _ => true
  | .long, .long _ => true
  | .boolean, .int x => x == 0 || x == 1
  | .object _, .ref _ => true
  | .object _, .null => true
  | .array _, .ref _ => true
  | .array _, .null => true
  | _, _ => false
def jm_c0 (c : ClassFile.Cond) (x : Int32) : Prop := match c with
  | .eq => x = 0
  | .ne => ¬ x = 0
  | .lt => x < 0
  | .ge => 0 ≤ x
  | .gt => 0 < x
  | .le => x ≤ 0
def jm_c2 (c : ClassFile.Cond) (x y : Int32) : Prop := match c with
  | .eq => x = y
  | .ne => ¬ x = y
  | .lt => x < y
  | .ge => y ≤ x
  | .gt => y < x
  | .le => x ≤ y
/-- one instruction: from (pc, lv, st, h) to s' -/
def jm_nx (C : jm_C) (M : Nat) (ins : Instr) (len pc : Nat) (lv : jm_L) (st : List Value) (h : jm_H) (s' : jm_S) : Prop :=
  match ins with
  | .iconst n => len = 1 ∧ s' = (pc + 1, lv, .int (Int32.ofInt n) :: st, h)
  | .bipush n => len = 2 ∧ s' = (pc + 2, lv, .int (Int8.ofInt n).toInt32 :: st, h)
  | .sipush n => len = 3 ∧ s' = (pc + 3, lv, .int (Int16.ofInt n).toInt32 :: st, h)
  | .lconst n => len = 1 ∧ s' = (pc + 1, lv, .long (Int64.ofNat (n : Nat)) :: st, h)
  | .aconst_null => len = 1 ∧ s' = (pc + 1, lv, .null :: st, h)
  | .ldc i => len = 2 ∧ ∃ v, jm_ki (jm_oc M) i = some v ∧ s' = (pc + 2, lv, .int v :: st, h)
  | .ldc2_w i => len = 3 ∧ ∃ v, jm_kl (jm_oc M) i = some v ∧ s' = (pc + 3, lv, .long v :: st, h)
  | .iload_n k => len = 1 ∧ ∃ x, lv k = some (.int x) ∧ s' = (pc + 1, lv, .int x :: st, h)
  | .iload i => len = 2 ∧ ∃ x, lv i = some (.int x) ∧ s' = (pc + 2, lv, .int x :: st, h)
  | .lload_n k => len = 1 ∧ ∃ x, lv k = some (.long x) ∧ s' = (pc + 1, lv, .long x :: st, h)
  | .lload i => len = 2 ∧ ∃ x, lv i = some (.long x) ∧ s' = (pc + 2, lv, .long x :: st, h)
  | .aload_n k => len = 1 ∧ ∃ v, lv k = some v ∧ jm_rf v = true ∧ s' = (pc + 1, lv, v :: st, h)
  | .aload i => len = 2 ∧ ∃ v, lv i = some v ∧ jm_rf v = true ∧ s' = (pc + 2, lv, v :: st, h)
  | .istore_n k => len = 1 ∧ ∃ x r, st = .int x :: r ∧ (k : Nat) < jm_nl M ∧ s' = (pc + 1, jm_p1 lv k (.int x), r, h)
  | .istore i => len = 2 ∧ ∃ x r, st = .int x :: r ∧ i < jm_nl M ∧ s' = (pc + 2, jm_p1 lv i (.int x), r, h)
  | .lstore_n k => len = 1 ∧ ∃ x r, st = .long x :: r ∧ (k : Nat) + 1 < jm_nl M ∧ s' = (pc + 1, jm_p2 lv k (.long x), r, h)
  | .lstore i => len = 2 ∧ ∃ x r, st = .long x :: r ∧ i + 1 < jm_nl M ∧ s' = (pc + 2, jm_p2 lv i (.long x), r, h)
  | .astore_n k => len = 1 ∧ ∃ v r, st = v :: r ∧ jm_rf v = true ∧ (k : Nat) < jm_nl M ∧ s' = (pc + 1, jm_p1 lv k v, r, h)
  | .astore i => len = 2 ∧ ∃ v r, st = v :: r ∧ jm_rf v = true ∧ i < jm_nl M ∧ s' = (pc + 2, jm_p1 lv i v, r, h)
  | .iinc i n => len = 3 ∧ ∃ x, lv i = some (.int x) ∧ i < jm_nl M ∧ s' = (pc + 3, jm_p1 lv i (.int (x + Int32.ofInt n)), st, h)
  | .iadd => len = 1 ∧ ∃ x y r, st = .int y :: .int x :: r ∧ s' = (pc + 1, lv, .int (x + y) :: r, h)
  | .isub => len = 1 ∧ ∃ x y r, st = .int y :: .int x :: r ∧ s' = (pc + 1, lv, .int (x - y) :: r, h)
  | .imul => len = 1 ∧ ∃ x y r, st = .int y :: .int x :: r ∧ s' = (pc + 1, lv, .int (x * y) :: r, h)
  | .iand => len = 1 ∧ ∃ x y r, st = .int y :: .int x :: r ∧ s' = (pc + 1, lv, .int (x &&& y) :: r, h)
  | .idiv => len = 1 ∧ ∃ x y r, st = .int y :: .int x :: r ∧ ¬ y = 0 ∧ s' = (pc + 1, lv, .int (x / y) :: r, h)
  | .irem => len = 1 ∧ ∃ x y r, st = .int y :: .int x :: r ∧ ¬ y = 0 ∧ s' = (pc + 1, lv, .int (x - x / y * y) :: r, h)
  | .ineg => len = 1 ∧ ∃ x r, st = .int x :: r ∧ s' = (pc + 1, lv, .int (-x) :: r, h)
  | .ladd => len = 1 ∧ ∃ x y r, st = .long y :: .long x :: r ∧ s' = (pc + 1, lv, .long (x + y) :: r, h)
  | .lsub => len = 1 ∧ ∃ x y r, st = .long y :: .long x :: r ∧ s' = (pc + 1, lv, .long (x - y) :: r, h)
  | .lmul => len = 1 ∧ ∃ x y r, st = .long y :: .long x :: r ∧ s' = (pc + 1, lv, .long (x * y) :: r, h)
  | .lxor => len = 1 ∧ ∃ x y r, st = .long y :: .long x :: r ∧ s' = (pc + 1, lv, .long (x ^^^ y) :: r, h)
  | .ldiv => len = 1 ∧ ∃ x y r, st = .long y :: .long x :: r ∧ ¬ y = 0 ∧ s' = (pc + 1, lv, .long (x / y) :: r, h)
  | .lrem => len = 1 ∧ ∃ x y r, st = .long y :: .long x :: r ∧ ¬ y = 0 ∧ s' = (pc + 1, lv, .long (x - x / y * y) :: r, h)
  | .lneg => len = 1 ∧ ∃ x r, st = .long x :: r ∧ s' = (pc + 1, lv, .long (-x) :: r, h)
  | .i2l => len = 1 ∧ ∃ x r, st = .int x :: r ∧ s' = (pc + 1, lv, .long x.toInt64 :: r, h)
  | .l2i => len = 1 ∧ ∃ x r, st = .long x :: r ∧ s' = (pc + 1, lv, .int x.toInt32 :: r, h)
  | .lcmp => len = 1 ∧ ∃ x y r, st = .long y :: .long x :: r ∧ s' = (pc + 1, lv, .int (lg_cmp x y) :: r, h)
  | .dup => len = 1 ∧ ∃ v r, st = v :: r ∧ v.category = 1 ∧ s' = (pc + 1, lv, v :: v :: r, h)
  | .pop => len = 1 ∧ ∃ v r, st = v :: r ∧ v.category = 1 ∧ s' = (pc + 1, lv, r, h)
  | .dup_x1 => len = 1 ∧ ∃ v w r, st = v :: w :: r ∧ v.category = 1 ∧ w.category = 1 ∧ s' = (pc + 1, lv, v :: w :: v :: r, h)
  | .dup2 => len = 1 ∧ ((∃ v w r, st = v :: w :: r ∧ v.category = 1 ∧ w.category = 1 ∧ s' = (pc + 1, lv, v :: w :: v :: w :: r, h)) ∨ (∃ v r, st = v :: r ∧ v.category = 2 ∧ s' = (pc + 1, lv, v :: v :: r, h)))
  | .ifCond c off => len = 3 ∧ ∃ x r, st = .int x :: r ∧ ∃ t : Nat, (pc : Int) + off = (t : Int) ∧ ((jm_c0 c x ∧ s' = (t, lv, r, h)) ∨ (¬ jm_c0 c x ∧ s' = (pc + 3, lv, r, h)))
  | .if_icmp c off => len = 3 ∧ ∃ x y r, st = .int y :: .int x :: r ∧ ∃ t : Nat, (pc : Int) + off = (t : Int) ∧ ((jm_c2 c x y ∧ s' = (t, lv, r, h)) ∨ (¬ jm_c2 c x y ∧ s' = (pc + 3, lv, r, h)))
  | .ifnull off => len = 3 ∧ ∃ v r, st = v :: r ∧ ∃ t : Nat, (pc : Int) + off = (t : Int) ∧ ((v = .null ∧ s' = (t, lv, r, h)) ∨ ((∃ a, v = .ref a) ∧ s' = (pc + 3, lv, r, h)))
  | .ifnonnull off => len = 3 ∧ ∃ v r, st = v :: r ∧ ∃ t : Nat, (pc : Int) + off = (t : Int) ∧ ((v = .null ∧ s' = (pc + 3, lv, r, h)) ∨ ((∃ a, v = .ref a) ∧ s' = (t, lv, r, h)))
  | .goto off => len = 3 ∧ ∃ t : Nat, (pc : Int) + off = (t : Int) ∧ s' = (t, lv, st, h)
  | .lookupswitch d ps => ∃ x r, st = .int x :: r ∧ (ps.toList.zip (ps.toList.drop 1)).all (fun (a, next) => a.1 < next.1) = true ∧ ∃ t : Nat, (pc : Int) + Op.lookupswitch.offset ps.toList d x.toInt = (t : Int) ∧ s' = (t, lv, r, h)
  | .getfield i => len = 3 ∧ ∃ a r ci k fs v, st = .ref a :: r ∧ jm_fl (jm_oc M) i = some (ci, k) ∧ a < h.1 ∧ h.2 a = .inr (ci, fs) ∧ fs[k]? = some v ∧ s' = (pc + 3, lv, v :: r, h)
  | .putfield i => len = 3 ∧ ∃ a r ci k fs v, st = v :: .ref a :: r ∧ jm_fl (jm_oc M) i = some (ci, k) ∧ a < h.1 ∧ h.2 a = .inr (ci, fs) ∧ k < fs.length ∧ jm_ok (jm_ty ci k) v = true ∧ jm_fin M ci k = true ∧ s' = (pc + 3, lv, r, (h.1, jm_up h.2 a (.inr (ci, fs.set k v))))
  | .iaload => len = 1 ∧ ∃ i a r n f, st = .int i :: .ref a :: r ∧ a < h.1 ∧ h.2 a = .inl (0, n, .inl f) ∧ vp_in i n ∧ s' = (pc + 1, lv, .int (f i.toNatClampNeg) :: r, h)
  | .laload => len = 1 ∧ ∃ i a r n f, st = .int i :: .ref a :: r ∧ a < h.1 ∧ h.2 a = .inl (1, n, .inr (.inl f)) ∧ vp_in i n ∧ s' = (pc + 1, lv, .long (f i.toNatClampNeg) :: r, h)
  | .aaload => len = 1 ∧ ∃ i a r n f c ci, st = .int i :: .ref a :: r ∧ a < h.1 ∧ h.2 a = .inl (c, n, .inr (.inr (.inr (.inr f)))) ∧ jm_ax c = some ci ∧ vp_in i n ∧ s' = (pc + 1, lv, va_rf (f i.toNatClampNeg) :: r, h)
  | .iastore => len = 1 ∧ ∃ x i a r n f, st = .int x :: .int i :: .ref a :: r ∧ a < h.1 ∧ h.2 a = .inl (0, n, .inl f) ∧ vp_in i n ∧ s' = (pc + 1, lv, r, (h.1, jm_up h.2 a (.inl (0, n, .inl (upd f i.toNatClampNeg x)))))
  | .lastore => len = 1 ∧ ∃ x i a r n f, st = .long x :: .int i :: .ref a :: r ∧ a < h.1 ∧ h.2 a = .inl (1, n, .inr (.inl f)) ∧ vp_in i n ∧ s' = (pc + 1, lv, r, (h.1, jm_up h.2 a (.inl (1, n, .inr (.inl (vp_updL f i.toNatClampNeg x))))))
  | .aastore => len = 1 ∧ ∃ v i a r n f c ci, st = v :: .int i :: .ref a :: r ∧ a < h.1 ∧ h.2 a = .inl (c, n, .inr (.inr (.inr (.inr f)))) ∧ jm_ax c = some ci ∧ vp_in i n ∧ ((v = .null ∧ s' = (pc + 1, lv, r, (h.1, jm_up h.2 a (.inl (c, n, .inr (.inr (.inr (.inr (va_up f i.toNatClampNeg none))))))))) ∨ (∃ b fs, v = .ref b ∧ b < h.1 ∧ h.2 b = .inr (ci, fs) ∧ s' = (pc + 1, lv, r, (h.1, jm_up h.2 a (.inl (c, n, .inr (.inr (.inr (.inr (va_up f i.toNatClampNeg (some b)))))))))))
  | .arraylength => len = 1 ∧ ∃ a r c n f, st = .ref a :: r ∧ a < h.1 ∧ h.2 a = .inl (c, n, f) ∧ c < 5 ∧ s' = (pc + 1, lv, .int (Int32.ofNat n) :: r, h)
  | .new i => len = 3 ∧ ∃ ci, jm_nw (jm_oc M) i = some ci ∧ s' = (pc + 3, lv, .ref h.1 :: st, (h.1 + 1, jm_up h.2 h.1 (.inr (ci, jm_df ci))))
  | .newarray t => len = 2 ∧ ∃ n r, st = .int n :: r ∧ ¬ n < 0 ∧ n.toNatClampNeg ≤ 1000000 ∧ ((t = .int ∧ s' = (pc + 2, lv, .ref h.1 :: r, (h.1 + 1, jm_up h.2 h.1 (.inl (0, n.toNatClampNeg, .inl (fun _ => 0)))))) ∨ (t = .long ∧ s' = (pc + 2, lv, .ref h.1 :: r, (h.1 + 1, jm_up h.2 h.1 (.inl (1, n.toNatClampNeg, .inr (.inl (fun _ => 0))))))))
  | .anewarray i => len = 3 ∧ ∃ n r c, st = .int n :: r ∧ jm_na (jm_oc M) i = some c ∧ ¬ n < 0 ∧ n.toNatClampNeg ≤ 1000000 ∧ s' = (pc + 3, lv, .ref h.1 :: r, (h.1 + 1, jm_up h.2 h.1 (.inl (c, n.toNatClampNeg, .inr (.inr (.inr (.inr (fun _ => none))))))))
  | .invokevirtual i => len = 3 ∧ ∃ y a ci fs As r rv h', jm_ml (jm_oc M) i = some (0, y) ∧ st = As.reverse ++ .ref a :: r ∧ As.length = jm_np y ∧ jm_ct r ≤ 8 ∧ a < h.1 ∧ h.2 a = .inr (ci, fs) ∧ jm_rc y = ci ∧ jm_cr M y = true ∧ C y (.ref a :: As) h rv h' ∧ s' = (pc + 3, lv, rv.toList ++ r, h')
  | .invokestatic i => len = 3 ∧ ∃ y As r rv h', jm_ml (jm_oc M) i = some (1, y) ∧ st = As.reverse ++ r ∧ As.length = jm_np y ∧ jm_ct r ≤ 8 ∧ jm_cr M y = true ∧ C y As h rv h' ∧ s' = (pc + 3, lv, rv.toList ++ r, h')
  | .invokespecial i => len = 3 ∧ ((∃ a r, jm_ml (jm_oc M) i = some (4, 0) ∧ st = .ref a :: r ∧ jm_ct r ≤ 8 ∧ jm_or M = true ∧ s' = (pc + 3, lv, r, h)) ∨ (∃ k y a As r rv h', jm_ml (jm_oc M) i = some (k, y) ∧ (k = 2 ∨ k = 3) ∧ st = As.reverse ++ .ref a :: r ∧ As.length = jm_np y ∧ jm_ct r ≤ 8 ∧ jm_cr M y = true ∧ C y (.ref a :: As) h rv h' ∧ s' = (pc + 3, lv, rv.toList ++ r, h')))
  | _ => False
/-- an instruction that ends the method -/
def jm_rn (M : Nat) (ins : Instr) (len : Nat) (st : List Value) (r : Option Value) : Prop :=
  match ins with
  | .ireturn => len = 1 ∧ ∃ x ty, st = [.int x] ∧ jm_rt M = some ty ∧ narrow ty (.int x) = .int x ∧ r = some (.int x)
  | .lreturn => len = 1 ∧ ∃ x, st = [.long x] ∧ jm_rt M = some .long ∧ r = some (.long x)
  | .return_ => len = 1 ∧ st = [] ∧ jm_rt M = none ∧ r = none
  | _ => False
def jm_i (C : jm_C) (M : Nat) (Q : jm_Q) (K : jm_S → Prop) (s : jm_S) : Prop :=
  ∃ ins len, decode (jm_b M) s.1 = .ok (ins, len) ∧ ((∃ s', jm_nx C M ins len s.1 s.2.1 s.2.2.1 s.2.2.2 s' ∧ K s') ∨ (∃ r, jm_rn M ins len s.2.2.1 r ∧ Q r s.2.2.2))
/-- the run from s ends, and what it answers and leaves has Q -/
def jm_wp (C : jm_C) (M : Nat) (Q : jm_Q) (s : jm_S) : Prop := ∀ K : jm_S → Prop, (∀ s, jm_i C M Q K s → K s) → K s
theorem jm_i_mono {C : jm_C} {M : Nat} {Q : jm_Q} {K K' : jm_S → Prop} {s : jm_S} (hK : ∀ s, K s → K' s) (h : jm_i C M Q K s) : jm_i C M Q K' s := by
  obtain ⟨ins, len, hd, h⟩ := h
  refine ⟨ins, len, hd, ?_⟩
  rcases h with ⟨s', h1, h2⟩ | h
  · exact Or.inl ⟨s', h1, hK _ h2⟩
  · exact Or.inr h
theorem jm_wp_in {C : jm_C} {M : Nat} {Q : jm_Q} {s : jm_S} (h : jm_i C M Q (jm_wp C M Q) s) : jm_wp C M Q s :=
  fun K hK => hK s (jm_i_mono (fun _ hs => hs K hK) h)
theorem jm_wp_out {C : jm_C} {M : Nat} {Q : jm_Q} {s : jm_S} (h : jm_wp C M Q s) : jm_i C M Q (jm_wp C M Q) s :=
  h _ (fun _ hs => jm_i_mono (fun _ hs' => jm_wp_in hs') hs)
theorem jm_wp_ex {C : jm_C} {M : Nat} {Q : jm_Q} {s : jm_S} (h : jm_wp C M Q s) : ∃ r t, jm_wp C M (fun r2 h2 => r2 = r ∧ h2 = t) s ∧ Q r t := by
  refine h (fun s => ∃ r t, jm_wp C M (fun r2 h2 => r2 = r ∧ h2 = t) s ∧ Q r t) ?_
  rintro s ⟨ins, len, hd, ⟨s', hn, r, t, hw, hq⟩ | ⟨r, hr, hq⟩⟩
  · exact ⟨r, t, jm_wp_in ⟨ins, len, hd, Or.inl ⟨s', hn, hw⟩⟩, hq⟩
  · exact ⟨r, s.2.2.2, jm_wp_in ⟨ins, len, hd, Or.inr ⟨r, hr, rfl, rfl⟩⟩, hq⟩
theorem jm_wp_Q {C : jm_C} {M : Nat} {Q Q' : jm_Q} {s : jm_S} (hQ : ∀ r t, Q r t → Q' r t) (h : jm_wp C M Q s) : jm_wp C M Q' s := by
  refine h _ ?_
  rintro s ⟨ins, len, hd, ⟨s', hn, hw⟩ | ⟨r, hr, hq⟩⟩
  · exact jm_wp_in ⟨ins, len, hd, Or.inl ⟨s', hn, hw⟩⟩
  · exact jm_wp_in ⟨ins, len, hd, Or.inr ⟨r, hr, hQ _ _ hq⟩⟩
theorem jm_wp_d {C : jm_C} {M : Nat} {Q : jm_Q} {pc : Nat} {lv : jm_L} {st : List Value} {h : jm_H} {ins : Instr} {len : Nat} (hd : decode (jm_b M) pc = .ok (ins, len)) :
    jm_wp C M Q (pc, lv, st, h) ↔ (∃ s', jm_nx C M ins len pc lv st h s' ∧ jm_wp C M Q s') ∨ (∃ r, jm_rn M ins len st r ∧ Q r h) := by
  constructor
  · intro hw
    obtain ⟨ins', len', hd', hor⟩ := jm_wp_out hw
    have e := hd.symm.trans hd'
    cases e
    exact hor
  · intro hor
    exact jm_wp_in ⟨ins, len, hd, hor⟩
/-- calls, by the depth to which they nest -/
def jm_call : Nat → jm_C
  | 0 => fun _ _ _ _ _ => False
  | d + 1 => fun y vs h r t => (lg_sl vs).length ≤ jm_nl y ∧ jm_wp (jm_call d) y (fun r2 h2 => r2 = r ∧ h2 = t) (0, jm_a0 (lv_args 0 vs), [], h)
theorem jm_nx_C {C C' : jm_C} (hC : ∀ y vs h r t, C y vs h r t → C' y vs h r t) {M : Nat} {ins : Instr} {len pc : Nat} {lv : jm_L} {st : List Value} {h : jm_H} {s' : jm_S} (hn : jm_nx C M ins len pc lv st h s') : jm_nx C' M ins len pc lv st h s' := by
  cases ins
  case invokevirtual i =>
    obtain ⟨h1, y, a, ci, fs, As, r, rv, t, h2, h3, h4, h5, h6, h7, h8, h0, h9, h10⟩ := hn
    exact ⟨h1, y, a, ci, fs, As, r, rv, t, h2, h3, h4, h5, h6, h7, h8, h0, hC _ _ _ _ _ h9, h10⟩
  case invokestatic i =>
    obtain ⟨h1, y, As, r, rv, t, h2, h3, h4, h5, h0, h9, h10⟩ := hn
    exact ⟨h1, y, As, r, rv, t, h2, h3, h4, h5, h0, hC _ _ _ _ _ h9, h10⟩
  case invokespecial i =>
    obtain ⟨h1, h | ⟨k, y, a, As, r, rv, t, h2, h3, h4, h5, h6, h0, h9, h10⟩⟩ := hn
    · exact ⟨h1, Or.inl h⟩
    · exact ⟨h1, Or.inr ⟨k, y, a, As, r, rv, t, h2, h3, h4, h5, h6, h0, hC _ _ _ _ _ h9, h10⟩⟩
  all_goals exact hn
theorem jm_wp_C {C C' : jm_C} (hC : ∀ y vs h r t, C y vs h r t → C' y vs h r t) {M : Nat} {Q : jm_Q} {s : jm_S} (h : jm_wp C M Q s) : jm_wp C' M Q s := by
  refine h _ ?_
  rintro s ⟨ins, len, hd, ⟨s', hn, hw⟩ | hr⟩
  · exact jm_wp_in ⟨ins, len, hd, Or.inl ⟨s', jm_nx_C hC hn, hw⟩⟩
  · exact jm_wp_in ⟨ins, len, hd, Or.inr hr⟩
theorem jm_call_up : ∀ (d y : Nat) (vs : List Value) (h : jm_H) (r : Option Value) (t : jm_H), jm_call d y vs h r t → jm_call (d + 1) y vs h r t
  | 0, _, _, _, _, _, h => h.elim
  | d + 1, _, _, _, _, _, h => ⟨h.1, jm_wp_C (jm_call_up d) h.2⟩
theorem jm_call_le {d d' y : Nat} {vs : List Value} {h : jm_H} {r : Option Value} {t : jm_H} (hd : d ≤ d') (hc : jm_call d y vs h r t) : jm_call d' y vs h r t := by
  induction hd with
  | refl => exact hc
  | step _ ih => exact jm_call_up _ _ _ _ _ _ ih
theorem jm_call_of {d y : Nat} {vs : List Value} {h : jm_H} {Q : jm_Q} (hl : (lg_sl vs).length ≤ jm_nl y) (hw : jm_wp (jm_call d) y Q (0, jm_a0 (lv_args 0 vs), [], h)) : ∃ r t, jm_call (d + 1) y vs h r t ∧ Q r t := by
  obtain ⟨r, t, h1, h2⟩ := jm_wp_ex hw
  exact ⟨r, t, ⟨hl, h1⟩, h2⟩
/-- how many slots a heap's cells have -/
def jm_s1 : va_E → Nat
  | .inl (_, n, _) => n
  | .inr (_, fs) => fs.length
def jm_sm (f : Nat → va_E) : Nat → Nat
  | 0 => 0
  | n + 1 => jm_sm f n + jm_s1 (f n)
def jm_sl (h : jm_H) : Nat := jm_sm h.2 h.1
theorem jm_sm_ge {f : Nat → va_E} {i : Nat} {x : va_E} : ∀ (n : Nat), n ≤ i → jm_sm (jm_up f i x) n = jm_sm f n
  | 0, _ => rfl
  | n + 1, h => by
    simp only [jm_sm]
    rw [jm_sm_ge n (by omega), jm_up_n f x (show n ≠ i by omega)]
theorem jm_sm_set {f : Nat → va_E} {i : Nat} {x : va_E} (hx : jm_s1 x = jm_s1 (f i)) : ∀ (n : Nat), jm_sm (jm_up f i x) n = jm_sm f n
  | 0 => rfl
  | n + 1 => by
    simp only [jm_sm]
    rw [jm_sm_set hx n]
    by_cases h : n = i
    · subst h
      rw [jm_up_s, hx]
    · rw [jm_up_n f x h]
theorem jm_sl_set {h : jm_H} {i : Nat} {x : va_E} (hx : jm_s1 x = jm_s1 (h.2 i)) : jm_sl (h.1, jm_up h.2 i x) = jm_sl h := jm_sm_set hx h.1
theorem jm_sl_new {h : jm_H} {x : va_E} : jm_sl (h.1 + 1, jm_up h.2 h.1 x) = jm_sl h + jm_s1 x := by
  show jm_sm (jm_up h.2 h.1 x) h.1 + jm_s1 (jm_up h.2 h.1 x h.1) = _
  rw [jm_sm_ge _ (Nat.le_refl _), jm_up_s]
  rfl
