/-- the reference's arrays -/
def ar (f : Nat → va_E) (par : Nat → Int32) (us : Nat → Int32) (dy : Nat → Int32) (ma : Nat → Int32) (kd : Nat → Int32) (oa : Nat → Int32) (cm : Nat → Int32) (qt : Nat → Int32) (am : Nat → Int32) (w64 : Nat → Int64) (dt : Nat → Int32) (lo : Nat → Int32) (lc : Nat → Int32) (lq : Nat → Int32) (lk : Nat → Int64) (ko : Nat → Int32) (ky : Nat → Int32) (kv : Nat → Int32) (po : Nat → Int32) (pd : Nat → Int32) (pv : Nat → Int32) (cd : Nat → Int32) (pr : Nat → Int64) (adR : Nat → Int64) (pa : Nat → Int32) : Prop := f 36 = .inl (0, 24, .inl par) ∧ f 37 = .inl (0, 24, .inl us) ∧ f 38 = .inl (0, 41, .inl dy) ∧ f 39 = .inl (0, 41, .inl ma) ∧ f 40 = .inl (0, 246, .inl kd) ∧ f 41 = .inl (0, 246, .inl oa) ∧ f 42 = .inl (0, 246, .inl cm) ∧ f 43 = .inl (0, 246, .inl qt) ∧ f 44 = .inl (0, 246, .inl am) ∧ f 45 = .inl (1, 246, .inr (.inl w64)) ∧ f 46 = .inl (0, 30, .inl dt) ∧ f 47 = .inl (0, 246, .inl lo) ∧ f 48 = .inl (0, 246, .inl lc) ∧ f 49 = .inl (0, 246, .inl lq) ∧ f 50 = .inl (1, 246, .inr (.inl lk)) ∧ f 51 = .inl (0, 10, .inl ko) ∧ f 52 = .inl (0, 10, .inl ky) ∧ f 53 = .inl (0, 10, .inl kv) ∧ f 54 = .inl (0, 30, .inl po) ∧ f 55 = .inl (0, 30, .inl pd) ∧ f 56 = .inl (0, 30, .inl pv) ∧ f 57 = .inl (0, 8, .inl cd) ∧ f 58 = .inl (1, 8, .inr (.inl pr)) ∧ f 59 = .inl (1, 192, .inr (.inl adR)) ∧ f 60 = .inl (0, 24, .inl pa)
/-- the reference's numbers -/
def sc (fs : List Value) (na c : Nat) (dr : Bool) (dd : Int32) (m N : Nat) (x : Int32) (kc kp k : Nat) : Prop := fs[0]? = some (.int (nI na)) ∧ fs[3]? = some (.int (nI c)) ∧ fs[12]? = some (.int (b2i dr)) ∧ fs[13]? = some (.int dd) ∧ fs[14]? = some (.int (nI m)) ∧ fs[16]? = some (.int (nI N)) ∧ fs[21]? = some (.int x) ∧ fs[22]? = some (.int (nI kc)) ∧ fs[26]? = some (.int (nI kp)) ∧ fs[30]? = some (.int (nI k))
theorem fs_s {fs : List Value} {k : Nat} {v : Value} (hs : mo_st fs) (hk : k < 35) : (fs.set k v)[k]? = some v := by
  rw [List.getElem?_set_self (by rw [mo_st_len hs]; exact hk)]
section
variable {fs : List Value} {na c : Nat} {dr : Bool} {dd : Int32} {m N : Nat} {x : Int32} {kc kp k : Nat}
theorem sc_0 (hs : mo_st fs) (h : sc fs na c dr dd m N x kc kp k) (na' : Nat) : sc (fs.set 0 (.int (nI na'))) na' c dr dd m N x kc kp k := by
  obtain ⟨h0, h3, h12, h13, h14, h16, h21, h22, h26, h30⟩ := h
  exact ⟨fs_s hs (by decide), (List.getElem?_set_ne (by decide)).trans h3, (List.getElem?_set_ne (by decide)).trans h12, (List.getElem?_set_ne (by decide)).trans h13, (List.getElem?_set_ne (by decide)).trans h14, (List.getElem?_set_ne (by decide)).trans h16, (List.getElem?_set_ne (by decide)).trans h21, (List.getElem?_set_ne (by decide)).trans h22, (List.getElem?_set_ne (by decide)).trans h26, (List.getElem?_set_ne (by decide)).trans h30⟩
theorem sc_3 (hs : mo_st fs) (h : sc fs na c dr dd m N x kc kp k) (c' : Nat) : sc (fs.set 3 (.int (nI c'))) na c' dr dd m N x kc kp k := by
  obtain ⟨h0, h3, h12, h13, h14, h16, h21, h22, h26, h30⟩ := h
  exact ⟨(List.getElem?_set_ne (by decide)).trans h0, fs_s hs (by decide), (List.getElem?_set_ne (by decide)).trans h12, (List.getElem?_set_ne (by decide)).trans h13, (List.getElem?_set_ne (by decide)).trans h14, (List.getElem?_set_ne (by decide)).trans h16, (List.getElem?_set_ne (by decide)).trans h21, (List.getElem?_set_ne (by decide)).trans h22, (List.getElem?_set_ne (by decide)).trans h26, (List.getElem?_set_ne (by decide)).trans h30⟩
theorem sc_12 (hs : mo_st fs) (h : sc fs na c dr dd m N x kc kp k) (dr' : Bool) : sc (fs.set 12 (.int (b2i dr'))) na c dr' dd m N x kc kp k := by
  obtain ⟨h0, h3, h12, h13, h14, h16, h21, h22, h26, h30⟩ := h
  exact ⟨(List.getElem?_set_ne (by decide)).trans h0, (List.getElem?_set_ne (by decide)).trans h3, fs_s hs (by decide), (List.getElem?_set_ne (by decide)).trans h13, (List.getElem?_set_ne (by decide)).trans h14, (List.getElem?_set_ne (by decide)).trans h16, (List.getElem?_set_ne (by decide)).trans h21, (List.getElem?_set_ne (by decide)).trans h22, (List.getElem?_set_ne (by decide)).trans h26, (List.getElem?_set_ne (by decide)).trans h30⟩
theorem sc_13 (hs : mo_st fs) (h : sc fs na c dr dd m N x kc kp k) (dd' : Int32) : sc (fs.set 13 (.int dd')) na c dr dd' m N x kc kp k := by
  obtain ⟨h0, h3, h12, h13, h14, h16, h21, h22, h26, h30⟩ := h
  exact ⟨(List.getElem?_set_ne (by decide)).trans h0, (List.getElem?_set_ne (by decide)).trans h3, (List.getElem?_set_ne (by decide)).trans h12, fs_s hs (by decide), (List.getElem?_set_ne (by decide)).trans h14, (List.getElem?_set_ne (by decide)).trans h16, (List.getElem?_set_ne (by decide)).trans h21, (List.getElem?_set_ne (by decide)).trans h22, (List.getElem?_set_ne (by decide)).trans h26, (List.getElem?_set_ne (by decide)).trans h30⟩
theorem sc_14 (hs : mo_st fs) (h : sc fs na c dr dd m N x kc kp k) (m' : Nat) : sc (fs.set 14 (.int (nI m'))) na c dr dd m' N x kc kp k := by
  obtain ⟨h0, h3, h12, h13, h14, h16, h21, h22, h26, h30⟩ := h
  exact ⟨(List.getElem?_set_ne (by decide)).trans h0, (List.getElem?_set_ne (by decide)).trans h3, (List.getElem?_set_ne (by decide)).trans h12, (List.getElem?_set_ne (by decide)).trans h13, fs_s hs (by decide), (List.getElem?_set_ne (by decide)).trans h16, (List.getElem?_set_ne (by decide)).trans h21, (List.getElem?_set_ne (by decide)).trans h22, (List.getElem?_set_ne (by decide)).trans h26, (List.getElem?_set_ne (by decide)).trans h30⟩
theorem sc_22 (hs : mo_st fs) (h : sc fs na c dr dd m N x kc kp k) (kc' : Nat) : sc (fs.set 22 (.int (nI kc'))) na c dr dd m N x kc' kp k := by
  obtain ⟨h0, h3, h12, h13, h14, h16, h21, h22, h26, h30⟩ := h
  exact ⟨(List.getElem?_set_ne (by decide)).trans h0, (List.getElem?_set_ne (by decide)).trans h3, (List.getElem?_set_ne (by decide)).trans h12, (List.getElem?_set_ne (by decide)).trans h13, (List.getElem?_set_ne (by decide)).trans h14, (List.getElem?_set_ne (by decide)).trans h16, (List.getElem?_set_ne (by decide)).trans h21, fs_s hs (by decide), (List.getElem?_set_ne (by decide)).trans h26, (List.getElem?_set_ne (by decide)).trans h30⟩
theorem sc_26 (hs : mo_st fs) (h : sc fs na c dr dd m N x kc kp k) (kp' : Nat) : sc (fs.set 26 (.int (nI kp'))) na c dr dd m N x kc kp' k := by
  obtain ⟨h0, h3, h12, h13, h14, h16, h21, h22, h26, h30⟩ := h
  exact ⟨(List.getElem?_set_ne (by decide)).trans h0, (List.getElem?_set_ne (by decide)).trans h3, (List.getElem?_set_ne (by decide)).trans h12, (List.getElem?_set_ne (by decide)).trans h13, (List.getElem?_set_ne (by decide)).trans h14, (List.getElem?_set_ne (by decide)).trans h16, (List.getElem?_set_ne (by decide)).trans h21, (List.getElem?_set_ne (by decide)).trans h22, fs_s hs (by decide), (List.getElem?_set_ne (by decide)).trans h30⟩
theorem sc_30 (hs : mo_st fs) (h : sc fs na c dr dd m N x kc kp k) (k' : Nat) : sc (fs.set 30 (.int (nI k'))) na c dr dd m N x kc kp k' := by
  obtain ⟨h0, h3, h12, h13, h14, h16, h21, h22, h26, h30⟩ := h
  exact ⟨(List.getElem?_set_ne (by decide)).trans h0, (List.getElem?_set_ne (by decide)).trans h3, (List.getElem?_set_ne (by decide)).trans h12, (List.getElem?_set_ne (by decide)).trans h13, (List.getElem?_set_ne (by decide)).trans h14, (List.getElem?_set_ne (by decide)).trans h16, (List.getElem?_set_ne (by decide)).trans h21, (List.getElem?_set_ne (by decide)).trans h22, (List.getElem?_set_ne (by decide)).trans h26, fs_s hs (by decide)⟩
theorem sc_N {N' : Nat} (h : sc fs na c dr dd m N x kc kp k) (e : N = N') : sc fs na c dr dd m N' x kc kp k := by
  rw [← e]
  exact h
theorem sc_mbf (hs : mo_st fs) (h : sc fs na c dr dd m N x kc kp k) (N' : Nat) (x' : Int32) : sc (mbf fs N' x') na c dr dd m N' x' kc kp k := by
  obtain ⟨h0, h3, h12, h13, h14, h16, h21, h22, h26, h30⟩ := h
  exact ⟨(mbf_ne (by decide) (by decide)).trans h0, (mbf_ne (by decide) (by decide)).trans h3, (mbf_ne (by decide) (by decide)).trans h12, (mbf_ne (by decide) (by decide)).trans h13, (mbf_ne (by decide) (by decide)).trans h14, mbf_16 hs N' x', mbf_21 hs N' x', (mbf_ne (by decide) (by decide)).trans h22, (mbf_ne (by decide) (by decide)).trans h26, (mbf_ne (by decide) (by decide)).trans h30⟩
end
/-- an array that the class has: cells of the four kinds -/
def jS (jo : Nat) (f : Nat → va_E) (c : Nat) (tx : Nat → Option Nat) (wt : Nat → Int32) (L : LC) : Prop := f jo = .inr (5, [.ref (jo + 1), .ref (jo + 2), .ref (jo + 3), .int (nI c)]) ∧ f (jo + 1) = .inl (3, 40, .inr (.inr (.inr (.inr tx)))) ∧ f (jo + 2) = .inl (0, 240, .inl wt) ∧ f (jo + 3) = .inr (6, [.ref (jo + 4), .ref (jo + 5), .ref (jo + 6), .ref (jo + 7), .int (nI L.1)]) ∧ f (jo + 4) = .inl (0, 240, .inl L.2.1) ∧ f (jo + 5) = .inl (0, 240, .inl L.2.2.1) ∧ f (jo + 6) = .inl (0, 240, .inl L.2.2.2.1) ∧ f (jo + 7) = .inl (0, 240, .inl L.2.2.2.2)
def cA (f : Nat → va_E) (na : Nat) (par us ki : Nat → Int32) : Prop := f 1 = .inr (1, [.ref 2, .ref 3, .ref 4, .int (nI na)]) ∧ f 2 = .inl (0, 24, .inl par) ∧ f 3 = .inl (0, 24, .inl ki) ∧ f 4 = .inl (0, 24, .inl us)
def cP (f : Nat → va_E) (kp : Nat) (po pd pv : Nat → Int32) : Prop := f 5 = .inr (8, [.ref 6, .ref 7, .ref 8, .int (nI kp)]) ∧ f 6 = .inl (0, 30, .inl po) ∧ f 7 = .inl (0, 30, .inl pd) ∧ f 8 = .inl (0, 30, .inl pv)
def cK (f : Nat → va_E) (kc : Nat) (ko ky kv : Nat → Int32) : Prop := f 9 = .inr (2, [.ref 10, .ref 11, .ref 12, .int (nI kc)]) ∧ f 10 = .inl (0, 10, .inl ko) ∧ f 11 = .inl (0, 10, .inl ky) ∧ f 12 = .inl (0, 10, .inl kv)
def cC (f : Nat → va_E) (nd k : Nat) (cd : Nat → Int32) (aj ad : Nat → Nat → Int64) (gn : Nat → Int64) : Prop := f 13 = .inr (4, [.ref 14, .int (nI k)]) ∧ ∃ cx, f 14 = .inl (2, 8, .inr (.inr (.inr (.inr cx)))) ∧ cls nd f cx k cd aj ad gn
def cS (f : Nat → va_E) : Prop := f 15 = .inr (9, [.ref 16, .ref 17, .ref 18]) ∧ ∃ og wg sg, f 16 = .inl (1, 24, .inr (.inl og)) ∧ f 17 = .inl (1, 24, .inr (.inl wg)) ∧ f 18 = .inl (1, 24, .inr (.inl sg))
def cJ (f : Nat → va_E) (nd jo c : Nat) (mn : Nat → Nat) (dy kd oa cm qt am wt : Nat → Int32) (L : LC) : Prop := ∃ tx, jS jo f c tx wt L ∧ jr nd f tx c mn dy kd oa cm qt am
def cT (f : Nat → va_E) (jo : Nat) : Prop := ∃ c0 gx w0 L0, jS (46 - jo) f c0 gx w0 L0
/-- the draft's own cells -/
def drf (n : Nat) (f : Nat → va_E) (r : Nat) (dd : Int32) (m : Nat) (dt : Nat → Int32) : Prop := r + 1 < n ∧ f r = .inr (10, [.int dd, .ref (r + 1), .int (nI m)]) ∧ ∃ px, f (r + 1) = .inl (4, 6, .inr (.inr (.inr (.inr px)))) ∧ ∀ k, k < m → ∃ q, px k = some q ∧ r + 2 ≤ q ∧ q < n ∧ f q = .inr (7, [.int (dt (5 * k)), .int (dt (5 * k + 1)), .int (dt (5 * k + 2)), .int (dt (5 * k + 3)), .int (dt (5 * k + 4))])
def dyb (n : Nat) (f : Nat → va_E) : Prop := ∀ j, 61 ≤ j → j < n → jm_s1 (f j) ≤ 24
def c0 (f : Nat → va_E) (jo : Nat) (v : Value) : Prop := f 0 = .inr (0, [.ref 1, .ref 5, .ref 9, .ref 13, .ref 15, .ref jo, .ref (46 - jo), v])
def CI (n : Nat) (f : Nat → va_E) (jo nd : Nat) (na : Nat) (par : Nat → Int32) (us : Nat → Int32) (ki : Nat → Int32) (kp : Nat) (po : Nat → Int32) (pd : Nat → Int32) (pv : Nat → Int32) (kc : Nat) (ko : Nat → Int32) (ky : Nat → Int32) (kv : Nat → Int32) (k : Nat) (cd : Nat → Int32) (aj : Nat → Nat → Int64) (ad : Nat → Nat → Int64) (gn : Nat → Int64) (c : Nat) (mn : Nat → Nat) (dy : Nat → Int32) (kd : Nat → Int32) (oa : Nat → Int32) (cm : Nat → Int32) (qt : Nat → Int32) (am : Nat → Int32) (wt : Nat → Int32) (L : LC) (dr : Bool) (dd : Int32) (m : Nat) (dt : Nat → Int32) : Prop := (61 ≤ nd ∧ nd ≤ n ∧ dyb n f ∧ (jo = 19 ∨ jo = 27)) ∧ c0 f jo (if dr = true then .ref nd else .null) ∧ cA f na par us ki ∧ cP f kp po pd pv ∧ cK f kc ko ky kv ∧ cC f nd k cd aj ad gn ∧ cS f ∧ cJ f nd jo c mn dy kd oa cm qt am wt L ∧ cT f jo ∧ (dr = true → drf n f nd dd m dt)
def RI (f : Nat → va_E) (na : Nat) (par : Nat → Int32) (us : Nat → Int32) (kp : Nat) (po : Nat → Int32) (pd : Nat → Int32) (pv : Nat → Int32) (kc : Nat) (ko : Nat → Int32) (ky : Nat → Int32) (kv : Nat → Int32) (k : Nat) (cd : Nat → Int32) (ad : Nat → Nat → Int64) (gn : Nat → Int64) (c : Nat) (mn : Nat → Nat) (dy : Nat → Int32) (kd : Nat → Int32) (oa : Nat → Int32) (cm : Nat → Int32) (qt : Nat → Int32) (am : Nat → Int32) (wt : Nat → Int32) (L : LC) (dr : Bool) (dd : Int32) (m : Nat) (dt : Nat → Int32) : Prop := ∃ fs x ma w64 lo lc lq lk pr adR pa, f 35 = .inr (11, fs) ∧ mo_st fs ∧ sc fs na c dr dd m L.1 x kc kp k ∧ ar f par us dy ma kd oa cm qt am w64 dt lo lc lq lk ko ky kv po pd pv cd pr adR pa ∧ (∀ t, t < c → ma t = nI (mn t)) ∧ (∀ t k, t < c → k < mn t → w64 (6 * t + k) = (wt (6 * t + k)).toInt64) ∧ sm L.1 L.2.1 L.2.2.1 L.2.2.2.1 L.2.2.2.2 lo lc lq lk ∧ (∀ i, i < k → pr i = gn i) ∧ (∀ i a, i < k → a < 24 → adR (24 * i + a) = ad i a)
/-- a posting of an account that there is -/
def pst (na : Nat) (kd oa cm qt am : Int32) : Prop := (∃ j, j < na ∧ oa = nI j) ∧ pk_ok kd qt am ∧ cm_ok kd cm
def qA (na : Nat) (par ki : Nat → Int32) (P : Nat → Nat) : Prop := tr_par par P na ∧ 7 ≤ na ∧ na ≤ 24 ∧ ∀ a, a < na → ki a = nI (tr_root P a)
def qP (kp : Nat) (po pd pv : Nat → Int32) : Prop := kp ≤ 30 ∧ pdis po pd kp ∧ pr_ok po pv kp
def qK (na kc : Nat) (ko : Nat → Int32) (ka : Nat → Nat) : Prop := kc ≤ 10 ∧ ∀ i, i < kc → ko i = nI (ka i) ∧ ka i < na
def qC (k : Nat) (cd : Nat → Int32) : Prop := k ≤ 8 ∧ ∀ i j, i < j → j < k → cd i < cd j
def qJ (na : Nat) (c : Nat) (mn : Nat → Nat) (dy : Nat → Int32) (kd : Nat → Int32) (oa : Nat → Int32) (cm : Nat → Int32) (qt : Nat → Int32) (am : Nat → Int32) (wt : Nat → Int32) (L : LC) : Prop := c ≤ 40 ∧ (∀ t, t < c → mn t ≤ 6) ∧ srt dy c ∧ (∀ t k, t < c → k < mn t → pst na (kd (6 * t + k)) (oa (6 * t + k)) (cm (6 * t + k)) (qt (6 * t + k)) (am (6 * t + k))) ∧ BOK kd oa cm qt am mn c L wt ∧ L.1 ≤ 240
def qD (na : Nat) (k : Nat) (cd : Nat → Int32) (c : Nat) (dr : Bool) (dd : Int32) (m : Nat) (dt : Nat → Int32) : Prop := m ≤ 6 ∧ (dr = true → c < 40 ∧ mo_lc cd k < dd ∧ ∀ i, i < m → pst na (dt (5 * i)) (dt (5 * i + 1)) (dt (5 * i + 2)) (dt (5 * i + 3)) (dt (5 * i + 4)))
def qX (kp : Nat) (po : Nat → Int32) (pd : Nat → Int32) (pv : Nat → Int32) (k : Nat) (cd : Nat → Int32) (aj : Nat → Nat → Int64) (c : Nat) (mn : Nat → Nat) (dy : Nat → Int32) (kd : Nat → Int32) (oa : Nat → Int32) (cm : Nat → Int32) (qt : Nat → Int32) (wt : Nat → Int32) : Prop := ∀ i a, i < k → a < 24 → aj i a = S4 (fun w => mo_adj dy kd oa cm qt po pd pv (fun p => (wt p).toInt64) mn c kp (nI a) w (cd i))
def PI (na : Nat) (par : Nat → Int32) (us : Nat → Int32) (ki : Nat → Int32) (P : Nat → Nat) (kp : Nat) (po : Nat → Int32) (pd : Nat → Int32) (pv : Nat → Int32) (kc : Nat) (ko : Nat → Int32) (ky : Nat → Int32) (kv : Nat → Int32) (ka : Nat → Nat) (k : Nat) (cd : Nat → Int32) (aj : Nat → Nat → Int64) (ad : Nat → Nat → Int64) (gn : Nat → Int64) (c : Nat) (mn : Nat → Nat) (dy : Nat → Int32) (kd : Nat → Int32) (oa : Nat → Int32) (cm : Nat → Int32) (qt : Nat → Int32) (am : Nat → Int32) (wt : Nat → Int32) (L : LC) (dr : Bool) (dd : Int32) (m : Nat) (dt : Nat → Int32) : Prop := qA na par ki P ∧ qP kp po pd pv ∧ qK na kc ko ka ∧ qC k cd ∧ qJ na c mn dy kd oa cm qt am wt L ∧ qD na k cd c dr dd m dt ∧ qX kp po pd pv k cd aj c mn dy kd oa cm qt wt
def inv (n : Nat) (f : Nat → va_E) : Prop := ∃ (jo nd : Nat) (na : Nat) (par : Nat → Int32) (us : Nat → Int32) (ki : Nat → Int32) (P : Nat → Nat) (kp : Nat) (po : Nat → Int32) (pd : Nat → Int32) (pv : Nat → Int32) (kc : Nat) (ko : Nat → Int32) (ky : Nat → Int32) (kv : Nat → Int32) (ka : Nat → Nat) (k : Nat) (cd : Nat → Int32) (aj : Nat → Nat → Int64) (ad : Nat → Nat → Int64) (gn : Nat → Int64) (c : Nat) (mn : Nat → Nat) (dy : Nat → Int32) (kd : Nat → Int32) (oa : Nat → Int32) (cm : Nat → Int32) (qt : Nat → Int32) (am : Nat → Int32) (wt : Nat → Int32) (L : LC) (dr : Bool) (dd : Int32) (m : Nat) (dt : Nat → Int32), CI n f jo nd na par us ki kp po pd pv kc ko ky kv k cd aj ad gn c mn dy kd oa cm qt am wt L dr dd m dt ∧ RI f na par us kp po pd pv kc ko ky kv k cd ad gn c mn dy kd oa cm qt am wt L dr dd m dt ∧ PI na par us ki P kp po pd pv kc ko ky kv ka k cd aj ad gn c mn dy kd oa cm qt am wt L dr dd m dt
section
variable {f f2 : Nat → va_E} {n n2 jo nd nd2 : Nat} {na : Nat} {par : Nat → Int32} {us : Nat → Int32} {ki : Nat → Int32} {P : Nat → Nat} {kp : Nat} {po : Nat → Int32} {pd : Nat → Int32} {pv : Nat → Int32} {kc : Nat} {ko : Nat → Int32} {ky : Nat → Int32} {kv : Nat → Int32} {ka : Nat → Nat} {k : Nat} {cd : Nat → Int32} {aj : Nat → Nat → Int64} {ad : Nat → Nat → Int64} {gn : Nat → Int64} {c : Nat} {mn : Nat → Nat} {dy : Nat → Int32} {kd : Nat → Int32} {oa : Nat → Int32} {cm : Nat → Int32} {qt : Nat → Int32} {am : Nat → Int32} {wt : Nat → Int32} {L : LC} {dr : Bool} {dd : Int32} {m : Nat} {dt : Nat → Int32} {v : Value}
theorem c0_fr (hf : f2 0 = f 0) (h : c0 f jo v) : c0 f2 jo v := hf.trans h
theorem cA_fr (hf : ∀ j, 1 ≤ j → j ≤ 4 → f2 j = f j) (h : cA f na par us ki) : cA f2 na par us ki := by
  obtain ⟨h1, h2, h3, h4⟩ := h
  exact ⟨(hf 1 (by decide) (by decide)).trans h1, (hf 2 (by decide) (by decide)).trans h2, (hf 3 (by decide) (by decide)).trans h3, (hf 4 (by decide) (by decide)).trans h4⟩
theorem cP_fr (hf : ∀ j, 5 ≤ j → j ≤ 8 → f2 j = f j) (h : cP f kp po pd pv) : cP f2 kp po pd pv := by
  obtain ⟨h5, h6, h7, h8⟩ := h
  exact ⟨(hf 5 (by decide) (by decide)).trans h5, (hf 6 (by decide) (by decide)).trans h6, (hf 7 (by decide) (by decide)).trans h7, (hf 8 (by decide) (by decide)).trans h8⟩
theorem cK_fr (hf : ∀ j, 9 ≤ j → j ≤ 12 → f2 j = f j) (h : cK f kc ko ky kv) : cK f2 kc ko ky kv := by
  obtain ⟨h9, h10, h11, h12⟩ := h
  exact ⟨(hf 9 (by decide) (by decide)).trans h9, (hf 10 (by decide) (by decide)).trans h10, (hf 11 (by decide) (by decide)).trans h11, (hf 12 (by decide) (by decide)).trans h12⟩
theorem cC_fr (h1 : f2 13 = f 13) (h2 : f2 14 = f 14) (hn : nd ≤ nd2) (hf : ∀ j, 61 ≤ j → j < nd → f2 j = f j) (h : cC f nd k cd aj ad gn) : cC f2 nd2 k cd aj ad gn := by
  obtain ⟨a1, cx, a2, a3⟩ := h
  exact ⟨h1.trans a1, cx, h2.trans a2, cls_mono hn hf a3⟩
theorem cS_fr (hf : ∀ j, 15 ≤ j → j ≤ 18 → f2 j = f j) (h : cS f) : cS f2 := by
  obtain ⟨a1, og, wg, sg, a2, a3, a4⟩ := h
  exact ⟨(hf 15 (by decide) (by decide)).trans a1, og, wg, sg, (hf 16 (by decide) (by decide)).trans a2, (hf 17 (by decide) (by decide)).trans a3, (hf 18 (by decide) (by decide)).trans a4⟩
theorem jS_fr {tx : Nat → Option Nat} (hf : ∀ j, jo ≤ j → j ≤ jo + 7 → f2 j = f j) (h : jS jo f c tx wt L) : jS jo f2 c tx wt L := by
  obtain ⟨a0, a1, a2, a3, a4, a5, a6, a7⟩ := h
  exact ⟨(hf _ (by omega) (by omega)).trans a0, (hf _ (by omega) (by omega)).trans a1, (hf _ (by omega) (by omega)).trans a2, (hf _ (by omega) (by omega)).trans a3, (hf _ (by omega) (by omega)).trans a4, (hf _ (by omega) (by omega)).trans a5, (hf _ (by omega) (by omega)).trans a6, (hf _ (by omega) (by omega)).trans a7⟩
theorem cJ_fr (hj : jo = 19 ∨ jo = 27) (hf : ∀ j, 19 ≤ j → j ≤ 34 → f2 j = f j) (hn : nd ≤ nd2) (hd : ∀ j, 61 ≤ j → j < nd → f2 j = f j) (h : cJ f nd jo c mn dy kd oa cm qt am wt L) : cJ f2 nd2 jo c mn dy kd oa cm qt am wt L := by
  obtain ⟨tx, a1, a2⟩ := h
  exact ⟨tx, jS_fr (fun j h1 h2 => hf j (by omega) (by omega)) a1, jr_mono hn hd a2⟩
theorem cT_fr (hj : jo = 19 ∨ jo = 27) (hf : ∀ j, 19 ≤ j → j ≤ 34 → f2 j = f j) (h : cT f jo) : cT f2 jo := by
  obtain ⟨c0, gx, w0, L0, a1⟩ := h
  exact ⟨c0, gx, w0, L0, jS_fr (fun j h1 h2 => hf j (by omega) (by omega)) a1⟩
theorem drf_fr {r : Nat} (hn : n ≤ n2) (hf : ∀ j, r ≤ j → j < n → f2 j = f j) (h : drf n f r dd m dt) : drf n2 f2 r dd m dt := by
  obtain ⟨a1, a2, px, a3, a4⟩ := h
  refine ⟨by omega, (hf r (by omega) (by omega)).trans a2, px, (hf (r + 1) (by omega) (by omega)).trans a3, fun i hi => ?_⟩
  obtain ⟨q, b1, b2, b3, b4⟩ := a4 i hi
  exact ⟨q, b1, b2, by omega, (hf q (by omega) b3).trans b4⟩
theorem dyb_fr (hf : ∀ j, 61 ≤ j → j < n → f2 j = f j) (h : dyb n f) : dyb n f2 := fun j h1 h2 => by
  rw [hf j h1 h2]
  exact h j h1 h2
theorem CI_fr (hf : ∀ j, j < 35 ∨ 61 ≤ j → f2 j = f j) (h : CI n f jo nd na par us ki kp po pd pv kc ko ky kv k cd aj ad gn c mn dy kd oa cm qt am wt L dr dd m dt) : CI n f2 jo nd na par us ki kp po pd pv kc ko ky kv k cd aj ad gn c mn dy kd oa cm qt am wt L dr dd m dt := by
  obtain ⟨⟨b1, b2, b3, b4⟩, b5, b6, b7, b8, b9, b10, b11, b12, b13⟩ := h
  exact ⟨⟨b1, b2, dyb_fr (fun j h1 _ => hf j (.inr h1)) b3, b4⟩, c0_fr (hf 0 (.inl (by decide))) b5, cA_fr (fun j _ _ => hf j (.inl (by omega))) b6, cP_fr (fun j _ _ => hf j (.inl (by omega))) b7, cK_fr (fun j _ _ => hf j (.inl (by omega))) b8, cC_fr (hf 13 (.inl (by decide))) (hf 14 (.inl (by decide))) (Nat.le_refl nd) (fun j h1 _ => hf j (.inr h1)) b9, cS_fr (fun j _ _ => hf j (.inl (by omega))) b10, cJ_fr b4 (fun j _ _ => hf j (.inl (by omega))) (Nat.le_refl nd) (fun j h1 _ => hf j (.inr h1)) b11, cT_fr b4 (fun j _ _ => hf j (.inl (by omega))) b12, fun hd => drf_fr (Nat.le_refl n) (fun j h1 _ => hf j (.inr (by omega))) (b13 hd)⟩
theorem RI_fr (hf : ∀ j, 35 ≤ j → j ≤ 60 → f2 j = f j) (h : RI f na par us kp po pd pv kc ko ky kv k cd ad gn c mn dy kd oa cm qt am wt L dr dd m dt) : RI f2 na par us kp po pd pv kc ko ky kv k cd ad gn c mn dy kd oa cm qt am wt L dr dd m dt := by
  obtain ⟨fs, x, ma, w64, lo, lc, lq, lk, pr, adR, pa, b1, b2, b3, ⟨a36, a37, a38, a39, a40, a41, a42, a43, a44, a45, a46, a47, a48, a49, a50, a51, a52, a53, a54, a55, a56, a57, a58, a59, a60⟩, b5⟩ := h
  exact ⟨fs, x, ma, w64, lo, lc, lq, lk, pr, adR, pa, (hf 35 (by decide) (by decide)).trans b1, b2, b3, ⟨(hf 36 (by decide) (by decide)).trans a36, (hf 37 (by decide) (by decide)).trans a37, (hf 38 (by decide) (by decide)).trans a38, (hf 39 (by decide) (by decide)).trans a39, (hf 40 (by decide) (by decide)).trans a40, (hf 41 (by decide) (by decide)).trans a41, (hf 42 (by decide) (by decide)).trans a42, (hf 43 (by decide) (by decide)).trans a43, (hf 44 (by decide) (by decide)).trans a44, (hf 45 (by decide) (by decide)).trans a45, (hf 46 (by decide) (by decide)).trans a46, (hf 47 (by decide) (by decide)).trans a47, (hf 48 (by decide) (by decide)).trans a48, (hf 49 (by decide) (by decide)).trans a49, (hf 50 (by decide) (by decide)).trans a50, (hf 51 (by decide) (by decide)).trans a51, (hf 52 (by decide) (by decide)).trans a52, (hf 53 (by decide) (by decide)).trans a53, (hf 54 (by decide) (by decide)).trans a54, (hf 55 (by decide) (by decide)).trans a55, (hf 56 (by decide) (by decide)).trans a56, (hf 57 (by decide) (by decide)).trans a57, (hf 58 (by decide) (by decide)).trans a58, (hf 59 (by decide) (by decide)).trans a59, (hf 60 (by decide) (by decide)).trans a60⟩, b5⟩
theorem drf_tx (h61 : 61 ≤ nd) (hm : m ≤ 6) (h : drf n f nd dd m dt) : txo n f nd dd m (fun i => dt (5 * i)) (fun i => dt (5 * i + 1)) (fun i => dt (5 * i + 2)) (fun i => dt (5 * i + 3)) (fun i => dt (5 * i + 4)) 0 := by
  obtain ⟨a1, a2, px, a3, a4⟩ := h
  refine ⟨nd + 1, px, h61, Nat.lt_of_succ_lt a1, a2, Nat.le_succ_of_le h61, a1, a3, hm, fun i hi => ?_⟩
  obtain ⟨q, b1, b2, b3, b4⟩ := a4 i hi
  refine ⟨q, b1, by omega, b3, ?_⟩
  rw [Nat.zero_add]
  exact b4
theorem pst_ou {na : Nat} {kd oa cm qt am : Int32} (hna : na ≤ 24) (h : pst na kd oa cm qt am) : oa = nI oa.toNatClampNeg ∧ oa.toNatClampNeg < na := by
  obtain ⟨⟨j, h1, h2⟩, _⟩ := h
  rw [h2, nI_clamp (by omega)]
  exact ⟨rfl, h1⟩
theorem pst_up {na na2 : Nat} {kd oa cm qt am : Int32} (hna : na ≤ na2) (h : pst na kd oa cm qt am) : pst na2 kd oa cm qt am := by
  obtain ⟨⟨j, h1, h2⟩, h3⟩ := h
  exact ⟨⟨j, by omega, h2⟩, h3⟩
theorem jm_sm_le {b : Nat} : ∀ {n : Nat}, (∀ j, j < n → jm_s1 (f j) ≤ b) → jm_sm f n ≤ b * n
  | 0, _ => Nat.le_refl _
  | n + 1, h => by
    have h1 := jm_sm_le (n := n) (fun j hj => h j (by omega))
    have h2 := h n (by omega)
    show jm_sm f n + jm_s1 (f n) ≤ b * (n + 1)
    rw [Nat.mul_add]
    omega
end
/-- a call of the class, then the same of the reference: one answer, and the books agree again -/
def OpI (y1 y2 : Nat) (as : List Value) (n : Nat) (f : Nat → va_E) : Prop := ∃ d v n1 f1 n2 f2, jm_call d y1 (.ref 0 :: as) (n, f) (some (.int v)) (n1, f1) ∧ jm_call d y2 (.ref 35 :: as) (n1, f1) (some (.int v)) (n2, f2) ∧ n2 ≤ n + 3 ∧ (35 < n1 ∧ ∃ fs, f1 35 = .inr (11, fs)) ∧ inv n2 f2
def OpL (y1 y2 : Nat) (as : List Value) (n : Nat) (f : Nat → va_E) : Prop := ∃ d v n1 f1 n2 f2, jm_call d y1 (.ref 0 :: as) (n, f) (some (.long v)) (n1, f1) ∧ jm_call d y2 (.ref 35 :: as) (n1, f1) (some (.long v)) (n2, f2) ∧ n2 ≤ n + 3 ∧ (35 < n1 ∧ ∃ fs, f1 35 = .inr (11, fs)) ∧ inv n2 f2
theorem inv_c {n : Nat} {f : Nat → va_E} (h : inv n f) : 61 ≤ n ∧ ∃ fs, f 0 = .inr (0, fs) := by
  obtain ⟨jo, nd, na, par, us, ki, P, kp, po, pd, pv, kc, ko, ky, kv, ka, k, cd, aj, ad, gn, c, mn, dy, kd, oa, cm, qt, am, wt, L, dr, dd, m, dt, hC, hR, hPI⟩ := h
  exact ⟨Nat.le_trans hC.1.1 hC.1.2.1, _, hC.2.1⟩
