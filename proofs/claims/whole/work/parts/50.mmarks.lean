/-! The marks of the reference as lists. -/
def mk1 (B : Nat → Nat → Nat) (k0 k : Nat) : Tok := (B k0 k, B (k0 + 1) k, B (k0 + 2) k, B (k0 + 3) k)
/-- m marks from a on, in the arrays k0 .. k0 + 3 -/
def mkL (B : Nat → Nat → Nat) (k0 a : Nat) : Nat → List Tok
  | 0 => []
  | m + 1 => mkL B k0 a m ++ [mk1 B k0 (a + m)]
theorem mkL_cg {B C : Nat → Nat → Nat} {k0 k1 a : Nat} : ∀ {m : Nat}, (∀ k, a ≤ k → k < a + m → mk1 B k0 k = mk1 C k1 k) → mkL B k0 a m = mkL C k1 a m
  | 0, _ => rfl
  | m + 1, h => by
    simp only [mkL]
    rw [mkL_cg fun k h1 h2 => h k h1 (by omega), h (a + m) (by omega) (by omega)]
theorem mkL_len (B : Nat → Nat → Nat) (k0 a : Nat) : ∀ m, (mkL B k0 a m).length = m
  | 0 => rfl
  | m + 1 => by simp [mkL, mkL_len B k0 a m]
theorem mkL_app (B : Nat → Nat → Nat) (k0 a m : Nat) : ∀ m2, mkL B k0 a (m + m2) = mkL B k0 a m ++ mkL B k0 (a + m) m2
  | 0 => by simp [mkL]
  | m2 + 1 => by
    rw [← Nat.add_assoc]
    simp only [mkL]
    rw [mkL_app B k0 a m m2, List.append_assoc, Nat.add_assoc]
theorem mkL_mem {B : Nat → Nat → Nat} {k0 a : Nat} : ∀ {m k : Nat}, a ≤ k → k < a + m → mk1 B k0 k ∈ mkL B k0 a m
  | 0, k, h1, h2 => absurd h2 (by omega)
  | m + 1, k, h1, h2 => by
    simp only [mkL]
    by_cases e : k = a + m
    · subst e; simp
    · exact List.mem_append_left _ (mkL_mem h1 (by omega))
theorem mkL_mem2 {B : Nat → Nat → Nat} {k0 a : Nat} : ∀ {m : Nat} {t : Tok}, t ∈ mkL B k0 a m → ∃ k, a ≤ k ∧ k < a + m ∧ t = mk1 B k0 k
  | 0, t, h => absurd h (by simp [mkL])
  | m + 1, t, h => by
    simp only [mkL] at h
    rcases List.mem_append.mp h with h | h
    · obtain ⟨k, h1, h2, e⟩ := mkL_mem2 h
      exact ⟨k, h1, by omega, e⟩
    · exact ⟨a + m, by omega, by omega, by simpa using h⟩
theorem tS_cg {lf lg : Tok → Bool} {op : Nat → Bool → Bool → Bool} : ∀ {ts : List Tok} {S : List Bool}, (∀ t ∈ ts, lf t = lg t) → tS lf op ts S = tS lg op ts S
  | [], _, _ => rfl
  | t :: ts, S, h => by
    show tS lf op ts _ = tS lg op ts _
    rw [h t (List.mem_cons_self ..), tS_cg fun u hu => h u (List.mem_cons_of_mem _ hu)]
theorem smS_mk {B : Nat → Nat → Nat} {k0 : Nat} {lf : Nat → Bool} {lg : Tok → Bool} {op : Nat → Bool → Bool → Bool} : ∀ {m : Nat}, (∀ k, k < m → lf k = lg (mk1 B k0 k)) → smS (B k0) lf op m = tS lg op (mkL B k0 0 m) []
  | 0, _ => rfl
  | m + 1, h => by
    simp only [mkL]
    rw [tS_app, ← smS_mk (lf := lf) fun k hk => h k (by omega), Nat.zero_add]
    show _ = (if B k0 m < 2 then lg (mk1 B k0 m) :: smS (B k0) lf op m else _)
    rw [← h m (by omega)]
    rfl
theorem mHo_mk (B : Nat → Nat → Nat) (rs j k : Nat) : mHo B rs j k = tV (fun t => leafV t.1 t.2.2.1 t.2.2.2 (mTx B j t.2.1) (mTx B k t.2.1)) opH (mkL B 11 0 rs) := by
  unfold mHo tV
  rw [smS_mk (B := B) (k0 := 11) (lf := mLf B j k) (lg := fun t => leafV t.1 t.2.2.1 t.2.2.2 (mTx B j t.2.1) (mTx B k t.2.1)) fun _ _ => rfl]
theorem mDr_mk (B : Nat → Nat → Nat) (m : Nat) : mDr B m = tDr (mkL B 6 0 m) := by
  unfold mDr tDr tV
  rw [smS_mk (B := B) (k0 := 6) (lf := fun k => decide (B 6 k = 0)) (lg := fun t => decide (t.1 = 0)) fun _ _ => rfl]
theorem tLv_one (t : Tok) : tLv [t] = (decide (t.1 < 2)).toNat := by
  unfold tLv
  by_cases h : t.1 < 2 <;> simp [List.filter, h]
theorem mLv_mk (B : Nat → Nat → Nat) (fr : Nat) : ∀ m, mLv B fr (fr + m) = tLv (mkL B 6 fr m)
  | 0 => mLv_0 B fr fr (Nat.le_refl _)
  | m + 1 => by
    rw [← Nat.add_assoc, mLv_s B (by omega), mLv_mk B fr m]
    simp only [mkL]
    rw [tLv_app, tLv_one]
    rfl
theorem ho_t {B : Nat → Nat → Nat} {F : Nat → Nat → Nat → Nat} {N : Nat → Nat → Nat} {rs j k : Nat} (hj : ∀ f, f ≤ 1 → TxR (F j f) (N j f) (mTx B j f) ∧ N j f ≤ 12) (hk : ∀ f, f ≤ 1 → TxR (F k f) (N k f) (mTx B k f) ∧ N k f ≤ 12) (hr : ∀ i, i < rs → B 12 i ≤ 1) : xHo F N (mkL B 11 0 rs) j k = mHo B rs j k := by
  rw [mHo_mk]
  unfold xHo xV tV
  rw [tS_cg fun t ht => ?_]
  obtain ⟨i, -, hi, rfl⟩ := mkL_mem2 ht
  have hf := hr i (by omega)
  exact leaf_t (hj _ hf).1 (hk _ hf).1 (nfS_nm _ _) (nfS_nm _ _) (hj _ hf).2 (hk _ hf).2 _ _ _
/-- how high the stack is, and that it never wants a value nor gets too high -/
def tD : List Tok → Nat → Nat
  | [], d => d
  | t :: ts, d => tD ts (if t.1 < 2 then d + 1 else d - 1)
def tW : List Tok → Nat → Prop
  | [], _ => True
  | t :: ts, d => (t.1 < 4 ∧ (2 ≤ t.1 → 2 ≤ d) ∧ (if t.1 < 2 then d + 1 else d - 1) ≤ 12) ∧ tW ts (if t.1 < 2 then d + 1 else d - 1)
theorem tD_app : ∀ (a b : List Tok) (d : Nat), tD (a ++ b) d = tD b (tD a d)
  | [], _, _ => rfl
  | t :: a, b, d => tD_app a b _
theorem tW_app : ∀ (a b : List Tok) (d : Nat), tW (a ++ b) d ↔ tW a d ∧ tW b (tD a d)
  | [], _, _ => ⟨fun h => ⟨trivial, h⟩, fun h => h.2⟩
  | t :: a, b, d => by
    show _ ∧ tW (a ++ b) _ ↔ (_ ∧ tW a _) ∧ tW b (tD a _)
    rw [tW_app a b, ← and_assoc]
theorem smD_mk (B : Nat → Nat → Nat) (k0 : Nat) : ∀ m, smD (B k0) m = tD (mkL B k0 0 m) 0
  | 0 => rfl
  | m + 1 => by
    simp only [mkL]
    rw [tD_app, ← smD_mk B k0 m, Nat.zero_add]
    rfl
theorem smW_mk {B : Nat → Nat → Nat} {k0 : Nat} : ∀ {m : Nat}, tW (mkL B k0 0 m) 0 → smW (B k0) m
  | 0, _ => fun k hk => absurd hk (by omega)
  | m + 1, h => by
    simp only [mkL] at h
    rw [tW_app, ← smD_mk, Nat.zero_add] at h
    intro k hk
    by_cases e : k = m
    · subst e
      exact h.2.1
    · exact smW_mk h.1 k (by omega)
/-- what holds of the marks of an expression -/
def tG (ts : List Tok) : Prop := 1 ≤ tLv ts ∧ ts.length + 1 = 2 * tLv ts ∧ (∀ d, d + tLv ts ≤ 12 → tW ts d ∧ tD ts d = d + 1) ∧ ∀ t ∈ ts, t.1 < 4 ∧ t.2.1 ≤ 1 ∧ t.2.2.1 ≤ 100 ∧ t.2.2.2 ≤ 100
theorem tG_leaf {t : Tok} (h : t.1 < 2) (hb : t.2.1 ≤ 1 ∧ t.2.2.1 ≤ 100 ∧ t.2.2.2 ≤ 100) : tG [t] := by
  have e : tLv [t] = 1 := by rw [tLv_one]; simp [h]
  refine ⟨by omega, by rw [e]; rfl, fun d hd => ?_, fun u hu => ?_⟩
  · simp only [tW, tD]
    rw [if_pos h]
    exact ⟨⟨⟨by omega, fun q => by omega, by omega⟩, trivial⟩, rfl⟩
  · have : u = t := by simpa using hu
    subst this
    exact ⟨by omega, hb⟩
theorem tG_join {a b : List Tok} (ha : tG a) (hb : tG b) (all : Bool) : tG (a ++ b ++ [(if all = true then 2 else 3, 0, 0, 0)]) := by
  have hk := xk_ge all
  have hk4 : (if all = true then 2 else 3) < 4 := by cases all <;> decide
  have e : tLv (a ++ b ++ [(if all = true then 2 else 3, 0, 0, 0)]) = tLv a + tLv b := by
    rw [tLv_app, tLv_app, tLv_one]; simp [hk]
  obtain ⟨a1, a2, a3, a4⟩ := ha
  obtain ⟨b1, b2, b3, b4⟩ := hb
  refine ⟨by omega, ?_, fun d hd => ?_, fun u hu => ?_⟩
  · rw [e]; simp only [List.length_append, List.length_cons, List.length_nil]; omega
  · have h1 := a3 d (by omega)
    have h2 := b3 (d + 1) (by omega)
    rw [tD_app, tD_app, tW_app, tW_app, tD_app, h1.2, h2.2]
    simp only [tW, tD]
    rw [if_neg hk]
    exact ⟨⟨⟨h1.1, h2.1⟩, ⟨hk4, fun _ => by omega, by omega⟩, trivial⟩, by omega⟩
  · rcases List.mem_append.mp hu with h | h
    · rcases List.mem_append.mp h with h | h
      · exact a4 u h
      · exact b4 u h
    · have : u = (if all = true then 2 else 3, 0, 0, 0) := by simpa using h
      subst this
      exact ⟨hk4, Nat.zero_le _, Nat.zero_le _, Nat.zero_le _⟩
theorem tG.ru {B : Nat → Nat → Nat} {rs : Nat} (h : tG (mkL B 11 0 rs)) (hl : tLv (mkL B 11 0 rs) ≤ 12) : mRu B rs := by
  obtain ⟨h1, h2, h3, h4⟩ := h
  rw [mkL_len] at h2
  have h5 := h3 0 (by omega)
  refine ⟨by omega, smW_mk h5.1, fun _ => by rw [smD_mk]; exact h5.2, fun k hk => ?_⟩
  exact (h4 _ (mkL_mem (Nat.zero_le k) (by omega))).2
theorem mRu_0 (B : Nat → Nat → Nat) : mRu B 0 := ⟨by omega, fun k hk => absurd hk (by omega), fun h => absurd h (by omega), fun k hk => absurd hk (by omega)⟩
/-! The kept text. -/
theorem zbest_cg {p q : Nat → Nat → Bool} {I : Nat → Prop} {s0 : Nat} (h0 : I s0) : ∀ {m : Nat}, (∀ a b, s0 < a → a ≤ s0 + m → I b → p a b = q a b ∧ (q a b = true → I a)) → zbest p s0 m = zbest q s0 m ∧ I (zbest q s0 m)
  | 0, _ => ⟨rfl, h0⟩
  | m + 1, h => by
    have ih := zbest_cg (p := p) (q := q) h0 (m := m) fun a b h1 h2 => h a b h1 (by omega)
    simp only [zbest]
    rw [ih.1]
    have hx := h (s0 + 1 + m) (zbest q s0 m) (by omega) (by omega) ih.2
    rw [hx.1]
    by_cases e : q (s0 + 1 + m) (zbest q s0 m) = true
    · rw [if_pos e]; exact ⟨rfl, hx.2 e⟩
    · rw [if_neg e]; exact ⟨rfl, ih.2⟩
theorem hv_t {B : Nat → Nat → Nat} {F : Nat → Nat → Nat → Nat} {N : Nat → Nat → Nat} {n f : Nat} {Lb : Nat → Nat} {nm r : Nat} (hT : ∀ i, i < n → TxR (F i f) (N i f) (mTx B i f)) (hN : ∀ i f, N i f ≤ 12) (hF : ∀ i f j, j < 12 → F i f j < 65536) (hr : r < n) (hnm : Lb r = nm) : cHv (fun _ => Lb) F N r f n = sSa Lb (mTx B) nm r f n := by
  unfold cHv sSa
  refine zcnt_congr fun i hi => ?_
  show (decide (Lb i = Lb r) && _) = _
  rw [(cCmp_t (hT i hi) (hT r hr) (hN _ _) (hN _ _) (hF _ _) (hF _ _)).1, hnm]
theorem bt_t {B : Nat → Nat → Nat} {F : Nat → Nat → Nat → Nat} {N : Nat → Nat → Nat} {K : Nat → Nat} {n f : Nat} {Lb : Nat → Nat} {nm a b : Nat} (hT : ∀ i, i < n → TxR (F i f) (N i f) (mTx B i f)) (hN : ∀ i f, N i f ≤ 12) (hF : ∀ i f j, j < 12 → F i f j < 65536) (ha : a < n) (hb : b < n) (hla : Lb a = nm) (hlb : Lb b = nm) (hK : K f ≤ 2) : cBt n (fun _ => Lb) F N K a b f = sBt n Lb (mTx B) (K f) nm a b f := by
  have ea := (hT a ha).1
  have eb := (hT b hb).1
  unfold cBt sBt
  rw [← ea, ← eb, hv_t hT hN hF ha hla, hv_t hT hN hF hb hlb, (cCmp_t (hT a ha) (hT b hb) (hN _ _) (hN _ _) (hF _ _) (hF _ _)).2]
  by_cases k0 : K f = 0
  · rw [if_pos (Or.inl k0), if_pos k0]
  rw [if_neg k0]
  by_cases e : N a f = 0 ∨ N b f = 0
  · rw [if_pos (Or.inr e), if_pos e]
    by_cases z : N b f = 0
    · rw [z]; simp
    · have : N a f = 0 := e.resolve_right z
      rw [this]; simp
  · rw [if_neg (fun q => q.elim k0 e), if_neg e]
    by_cases k1 : K f = 1
    · rw [if_pos k1, if_neg (by omega)]
    · rw [if_neg k1, if_pos (by omega)]
theorem kept_t {A B : Nat → Nat → Nat} {F : Nat → Nat → Nat → Nat} {N : Nat → Nat → Nat} {K : Nat → Nat} {n w rs : Nat} (hn : n ≤ 12) (hw4 : w ≤ 4) (h : 0 < w → NtR A B n w rs) (h16 : 0 < w → ∀ v, v < w → A 1 v = B 16 v) (hd : 0 < w → ∀ v, v < w → B 16 v ≤ mTk n w v) (hT : ∀ i f, i < n → f ≤ 1 → TxR (F i f) (N i f) (mTx B i f)) (hN : ∀ i f, N i f ≤ 12) (hF : ∀ i f j, j < 12 → F i f j < 65536) (hK : ∀ f, f ≤ 1 → K f = B 17 f) (hK2 : ∀ f, f ≤ 1 → B 17 f ≤ 2) (x y : Int32) : cKept n w (decide (zsum (A 1) w = n)) (rF A) F N K x y = aKept n w (mDn B n w) (mFd B w rs) (mTx B) (B 17) x y := by
  by_cases hw : w = 0
  · unfold cKept aKept; rw [if_pos hw, if_pos hw]
  have hw0 : 0 < w := by omega
  have e1 : decide (zsum (A 1) w = n) = mDn B n w := by rw [zsum_cg (h16 hw0)]; exact done_t hw0 hw4 (hd hw0)
  have e2 : lbl n (rF A) = lbl n (mFd B w rs) := lbl_cg fun a b => rF_t (h hw0)
  unfold cKept aKept
  rw [e1, e2, if_neg hw, if_neg hw]
  by_cases hx : zisR n x = true ∧ zisF y = true
  · rw [if_neg (not_not_intro hx), if_neg (not_not_intro hx)]
    obtain ⟨j, hj, rfl⟩ := zisR_nat hx.1 (by omega)
    obtain ⟨f, hf, rfl⟩ := zisF_nat hx.2
    rw [cN_n (by omega), cN_n (by omega)]
    by_cases d : mDn B n w = false
    · rw [if_pos d, if_pos d]
    rw [if_neg d, if_neg d]
    unfold sKe
    have hle := lbl_le n (mFd B w rs) j
    have hz := zbest_cg (p := fun a b => decide (lbl n (mFd B w rs) a = lbl n (mFd B w rs) j) && cBt n (fun _ => lbl n (mFd B w rs)) F N K a b f) (q := fun a b => decide (lbl n (mFd B w rs) a = lbl n (mFd B w rs) j) && sBt n (lbl n (mFd B w rs)) (mTx B) (B 17 f) (lbl n (mFd B w rs) j) a b f) (I := fun b => b < n ∧ lbl n (mFd B w rs) b = lbl n (mFd B w rs) j) (s0 := lbl n (mFd B w rs) j) ⟨by omega, lbl_lbl _ _ _⟩ (m := n - 1 - lbl n (mFd B w rs) j) fun a b h1 h2 hI => by
      refine ⟨?_, fun q => ⟨by omega, ?_⟩⟩
      · by_cases e : lbl n (mFd B w rs) a = lbl n (mFd B w rs) j
        · rw [bt_t (fun i hi => hT i f hi hf) hN hF (by omega) hI.1 e hI.2 (by rw [hK f hf]; exact hK2 f hf), hK f hf]
        · simp [e]
      · simp only [Bool.and_eq_true, decide_eq_true_eq] at q
        exact q.1
    rw [hz.1]
  · rw [if_pos hx, if_pos hx]
