/-! The two machines side by side: the class's object at o, the reference's at o + 73, expressions from o + 92 on. -/
def XR (D : va_G) (ca : Nat → ClassId) (E : Nat → Prop) (z : Nat) (H : Heap) (y : Nat) (ts : List Tok) : Prop := tLv ts ≤ 12 ∧ XAt D ca E z H (tLv ts) y ts
def CK (D : va_G) (ca : Nat → ClassId) (H : Heap) (o n h : Nat) (rl : Option Nat) (S : Nat → Option Nat) (K : Nat → Nat) (tk w : Nat) (A : Nat → Nat → Nat) (F : Nat → Nat → Nat → Nat) (N Y : Nat → Nat → Nat) (W0 : Nat → Nat → Bool) : Prop := RmAt D ca H o n h rl S K ∧ RuAt D ca H (o + 3) tk w A ∧ EnAll D ca H o F N Y W0
def CX (D : va_G) (ca : Nat → ClassId) (H : Heap) (o h : Nat) (rl : Option Nat) (S : Nat → Option Nat) (E : Nat → Prop) (T : Nat → List Tok) (ts : List Tok) : Prop := Rows D ca E H ∧ (∀ q, E q → o + 92 ≤ q ∧ q < H.size) ∧ (∀ i, i < h → ∃ y, S i = some y ∧ XR D ca E (o + 92) H y (T i)) ∧ ((rl = none ∧ ts = []) ∨ ∃ y, rl = some y ∧ XR D ca E (o + 92) H y ts)
def JS (D : va_G) (ca : Nat → ClassId) (H : Heap) (o n h : Nat) (rl : Option Nat) (S : Nat → Option Nat) (K : Nat → Nat) (tk w : Nat) (A : Nat → Nat → Nat) (F : Nat → Nat → Nat → Nat) (N Y : Nat → Nat → Nat) (W0 : Nat → Nat → Bool) (E : Nat → Prop) (rs : Nat) (B : Nat → Nat → Nat) : Prop := CK D ca H o n h rl S K tk w A F N Y W0 ∧ CX D ca H o h rl S E (stk B) (rul B rs) ∧ MoAt D ca H (o + 73) n h rs w B ∧ PR n h K tk w A F N Y W0 rs B
def Jn (D : va_G) (ca : Nat → ClassId) (o : Nat) (H : Heap) : Prop := ∃ n h rl S K tk w A F N Y W0 E rs B, JS D ca H o n h rl S K tk w A F N Y W0 E rs B
/-- what was there before stays -/
def Kp (o : Nat) (H H1 : Heap) : Prop := ∀ a, a < o → H1[a]? = H[a]?
section ZJ
variable {D : va_G} {ca : Nat → ClassId} {H H1 H2 : Heap} {o n h : Nat} {rl : Option Nat} {S : Nat → Option Nat} {K : Nat → Nat} {tk w : Nat} {A : Nat → Nat → Nat} {F : Nat → Nat → Nat → Nat} {N Y : Nat → Nat → Nat} {W0 : Nat → Nat → Bool} {E : Nat → Prop} {rs : Nat} {B B2 : Nat → Nat → Nat} {T : Nat → List Tok} {ts : List Tok}
theorem XAt.lt {z : Nat} {d x : Nat} (h : XAt D ca E z H d x ts) : x < H.size := by
  obtain ⟨r1, r2, r3, h1 | h1 | h1⟩ := h.head
  · exact h1.lt
  · exact h1.lt
  · exact h1.lt
theorem XAt.tg {z : Nat} : ∀ {d x : Nat} {ts : List Tok}, XAt D ca E z H d x ts → tG ts
  | 0, _, _, h => h.elim
  | d + 1, x, ts, h => by
    obtain ⟨-, ⟨fl, nu, de, rfl, hb, -⟩ | ⟨fl, mo, rfl, hb, -, -⟩ | ⟨all, lo, up, t1, t2, rfl, -, h1, h2⟩⟩ := h
    · exact tG_leaf (show (0 : Nat) < 2 by decide) hb
    · exact tG_leaf (show (1 : Nat) < 2 by decide) ⟨hb.1, Nat.zero_le _, by have := hb.2; show mo ≤ 100; omega⟩
    · exact tG_join (XAt.tg h1) (XAt.tg h2) all
theorem XR.kp {z y : Nat} (h : XR D ca E z H y ts) (hf : ∀ q, z ≤ q → q < H.size → ¬ E q → H1[q]? = H[q]?) (hR : Rows D ca E H1) : XR D ca E z H1 y ts := ⟨h.1, XAt.kp hf hR h.2⟩
theorem CX.kp (h0 : CX D ca H o h rl S E T ts) (hf : ∀ q, o + 92 ≤ q → q < H.size → ¬ E q → H1[q]? = H[q]?) (hR : Rows D ca E H1) (hs : H.size ≤ H1.size) : CX D ca H1 o h rl S E T ts := by
  obtain ⟨h1, h2, h3, h4⟩ := h0
  refine ⟨hR, fun q hq => ⟨(h2 q hq).1, Nat.lt_of_lt_of_le (h2 q hq).2 hs⟩, fun i hi => ?_, ?_⟩
  · obtain ⟨y, e, hx⟩ := h3 i hi
    exact ⟨y, e, hx.kp hf hR⟩
  · rcases h4 with h4 | ⟨y, e, hx⟩
    · exact Or.inl h4
    · exact Or.inr ⟨y, e, hx.kp hf hR⟩
theorem CX.cg (h0 : CX D ca H o h rl S E T ts) {T2 : Nat → List Tok} {t2 : List Tok} (e1 : ∀ i, i < h → T2 i = T i) (e2 : t2 = ts) : CX D ca H o h rl S E T2 t2 := by
  subst e2
  exact ⟨h0.1, h0.2.1, fun i hi => by rw [e1 i hi]; exact h0.2.2.1 i hi, h0.2.2.2⟩
theorem CX.less (h0 : CX D ca H o h rl S E T ts) {h2 : Nat} (hle : h2 ≤ h) : CX D ca H o h2 rl S E T ts := ⟨h0.1, h0.2.1, fun i hi => h0.2.2.1 i (by omega), h0.2.2.2⟩
theorem CX.ro (h0 : CX D ca H o h rl S E T ts) (hf : ∀ q, o + 92 ≤ q → H1[q]? = H[q]?) (hs : H1.size = H.size) : CX D ca H1 o h rl S E T ts :=
  h0.kp (fun q hq _ _ => hf q hq) (h0.1.kp fun q hq => hf q (h0.2.1 q hq).1) (by omega)
theorem CX.sy (h0 : CX D ca H o h rl S E T ts) (hf : zz_fr (syFr o) H H1) : CX D ca H1 o h rl S E T ts :=
  h0.ro (fun q hq => hf.2 q (fun z => by have := z.2; omega)) hf.1
theorem CX.mo (h0 : CX D ca H o h rl S E T ts) (hf : zz_fr (moFr (o + 73)) H H1) : CX D ca H1 o h rl S E T ts :=
  h0.ro (fun q hq => hf.2 q (fun z => by have := z.2; omega)) hf.1
theorem CK.fr (h0 : CK D ca H o n h rl S K tk w A F N Y W0) (hf : ∀ q, o ≤ q → q < o + 73 → H1[q]? = H[q]?) : CK D ca H1 o n h rl S K tk w A F N Y W0 :=
  ⟨h0.1.fr fun q a b _ => hf q a (by omega), h0.2.1.kp fun q a b => hf q (by omega) (by omega), h0.2.2.kp fun q a b => hf q (by omega) b⟩
theorem CK.mo (h0 : CK D ca H o n h rl S K tk w A F N Y W0) (hf : zz_fr (moFr (o + 73)) H H1) : CK D ca H1 o n h rl S K tk w A F N Y W0 := h0.fr fun q _ b => hf.2 q (fun z => by have := z.1; omega)
theorem MoAt.kp {r n t rs w : Nat} (h0 : MoAt D ca H r n t rs w B) (hf : ∀ q, r ≤ q → q ≤ r + 18 → H1[q]? = H[q]?) : MoAt D ca H1 r n t rs w B := ⟨h0.1.kept (hf r (Nat.le_refl _) (by omega)), fun k h1 h2 => (h0.2 k h1 h2).kept (hf _ (by omega) (by omega))⟩
theorem MoAt.sy {n t rs w : Nat} (h0 : MoAt D ca H (o + 73) n t rs w B) (hf : zz_fr (syFr o) H H1) : MoAt D ca H1 (o + 73) n t rs w B := h0.kp fun q a _ => hf.2 q (fun z => by have := z.2; omega)
theorem Kp.sy (hf : zz_fr (syFr o) H H1) : Kp o H H1 := fun a ha => hf.2 a (fun z => by have := z.1; omega)
theorem Kp.mo (h0 : Kp o H H1) (hf : zz_fr (moFr (o + 73)) H1 H2) : Kp o H H2 := fun a ha => (hf.2 a (fun z => by have := z.1; omega)).trans (h0 a ha)
theorem jn_fin (hK : CK D ca H1 o n h rl S K tk w A F N Y W0) (hX : CX D ca H1 o h rl S E T ts) (hfr : zz_fr (moFr (o + 73)) H1 H2) (hM : MoAt D ca H2 (o + 73) n h rs w B) (hP : PR n h K tk w A F N Y W0 rs B) (e1 : ∀ i, i < h → stk B i = T i) (e2 : rul B rs = ts) : Jn D ca o H2 :=
  ⟨n, h, rl, S, K, tk, w, A, F, N, Y, W0, E, rs, B, hK.mo hfr, (hX.mo hfr).cg e1 e2, hM, hP⟩
/-- the reference has only looked -/
theorem jn_s8 (hK : CK D ca H1 o n h rl S K tk w A F N Y W0) (hX : CX D ca H1 o h rl S E (stk B) (rul B rs)) (hP : PR n h K tk w A F N Y W0 rs B) (hfr : zz_fr (moFr (o + 73)) H1 H2) (hM : MoAt D ca H2 (o + 73) n h rs w B2) (hS : mS8 B B2) : Jn D ca o H2 :=
  have q := hP.s8 hS
  jn_fin hK hX hfr hM q.1 (fun i _ => by rw [q.2.1]) q.2.2
theorem CX.rule (h0 : CX D ca H o h rl S E T (rul B rs)) : (rs = 0 ∧ rl = none) ∨ ∃ y, 0 < rs ∧ rl = some y ∧ XR D ca E (o + 92) H y (rul B rs) := by
  have hl : (rul B rs).length = rs := mkL_len _ _ _ _
  rcases h0.2.2.2 with ⟨e, e2⟩ | ⟨y, e, hx⟩
  · rw [e2] at hl
    exact Or.inl ⟨hl.symm, e⟩
  · have := hx.2.tg.2.1
    have h1 := hx.2.tg.1
    exact Or.inr ⟨y, by omega, e, hx⟩
/-! One row a call: from what the two calls say to equal answers and the same state again. -/
theorem Kp.rf : Kp o H H := fun _ _ => rfl
theorem jn_words (J : JS D ca H o n h rl S K tk w A F N Y W0 E rs B) (x y : Int32) (hf : zz_fr (moFr (o + 73)) H H2) (hM : ∃ C, MoAt D ca H2 (o + 73) n h rs w C ∧ mS B C) : cWords n F N x y = aWords n (mTx B) x y ∧ Jn D ca o H2 ∧ Kp o H H2 := by
  obtain ⟨hK, hX, hM0, hP⟩ := J
  obtain ⟨C, hM, hS⟩ := hM
  exact ⟨hP.2.2.1.words hP.1.1.2.1 x y, jn_s8 hK hX hP hf hM hS.s8, Kp.rf.mo hf⟩
theorem jn_length (J : JS D ca H o n h rl S K tk w A F N Y W0 E rs B) (x y : Int32) (hf : zz_fr (moFr (o + 73)) H H2) (hM : ∃ C, MoAt D ca H2 (o + 73) n h rs w C ∧ mS B C) : cLength n N x y = aLength n (mTx B) x y ∧ Jn D ca o H2 ∧ Kp o H H2 := by
  obtain ⟨hK, hX, hM0, hP⟩ := J
  obtain ⟨C, hM, hS⟩ := hM
  exact ⟨hP.2.2.1.length hP.1.1.2.1 x y, jn_s8 hK hX hP hf hM hS.s8, Kp.rf.mo hf⟩
theorem jn_unit (J : JS D ca H o n h rl S K tk w A F N Y W0 E rs B) (x y i : Int32) (hf : zz_fr (moFr (o + 73)) H H2) (hM : ∃ C, MoAt D ca H2 (o + 73) n h rs w C ∧ mS B C) : cUnit n F N x y i = aUnit n (mTx B) x y i ∧ Jn D ca o H2 ∧ Kp o H H2 := by
  obtain ⟨hK, hX, hM0, hP⟩ := J
  obtain ⟨C, hM, hS⟩ := hM
  exact ⟨hP.2.2.1.unit hP.1.1.2.1 x y i, jn_s8 hK hX hP hf hM hS.s8, Kp.rf.mo hf⟩
theorem PR.nt (hP : PR n h K tk w A F N Y W0 rs B) : 0 < w → NtR A B n w rs := fun hw => (hP.2.2.2.2.2.2 hw).2.1
theorem PR.r1 (hP : PR n h K tk w A F N Y W0 rs B) : 0 < w → ∀ v, v < w → A 1 v = B 16 v := fun hw v hv => (hP.2.2.2.2.2.2 hw).2.2.1 v (by have := hP.1.1.2.2.1; omega)
theorem PR.r2 (hP : PR n h K tk w A F N Y W0 rs B) : 0 < w → ∀ v, v < w → B 16 v ≤ mTk n w v := fun hw v hv => (hP.2.2.2.2.2.2 hw).2.2.2 v hv
theorem jn_pairs (J : JS D ca H o n h rl S K tk w A F N Y W0 E rs B) (hf : zz_fr (moFr (o + 73)) H H2) (hM : ∃ C, MoAt D ca H2 (o + 73) n h rs w C ∧ mS B C) : aPairs tk w (rNt A) = aPairs n w (mFd B w rs) ∧ Jn D ca o H2 ∧ Kp o H H2 := by
  obtain ⟨hK, hX, hM0, hP⟩ := J
  obtain ⟨C, hM, hS⟩ := hM
  refine ⟨?_, jn_s8 hK hX hP hf hM hS.s8, Kp.rf.mo hf⟩
  by_cases hw : w = 0
  · unfold aPairs; rw [if_pos hw, if_pos hw]
  · rw [hP.tkn (by omega)]; exact pairs_t hP.nt
theorem jn_found (J : JS D ca H o n h rl S K tk w A F N Y W0 E rs B) (x y : Int32) (hf : zz_fr (moFr (o + 73)) H H2) (hM : ∃ C, MoAt D ca H2 (o + 73) n h rs w C ∧ mS B C) : cFound n w A x y = aFound n w (mFd B w rs) x y ∧ Jn D ca o H2 ∧ Kp o H H2 := by
  obtain ⟨hK, hX, hM0, hP⟩ := J
  obtain ⟨C, hM, hS⟩ := hM
  exact ⟨found_t hP.1.1.2.1 hP.nt x y, jn_s8 hK hX hP hf hM hS.s8, Kp.rf.mo hf⟩
theorem jn_cluster (J : JS D ca H o n h rl S K tk w A F N Y W0 E rs B) (x : Int32) (f1 : zz_fr (syFr o) H H1) (h1 : RmAt D ca H1 o n h rl S K) (h2 : EnAll D ca H1 o F N Y W0) (h3 : ∃ C, RuAt D ca H1 (o + 3) tk w C ∧ C 1 = A 1 ∧ C 2 = A 2) (hf : zz_fr (moFr (o + 73)) H1 H2) (hM : ∃ C, MoAt D ca H2 (o + 73) n h rs w C ∧ mS8 B C) : aCluster n w (decide (zsum (A 1) w = tk)) (rF A) x = aCluster n w (mDn B n w) (mFd B w rs) x ∧ Jn D ca o H2 ∧ Kp o H H2 := by
  obtain ⟨hK, hX, hM0, hP⟩ := J
  obtain ⟨C, hM, hS⟩ := hM
  obtain ⟨A2, hR, e1, e2⟩ := h3
  refine ⟨?_, jn_s8 ⟨h1, hR, h2⟩ (hX.sy f1) (hP.ru e1 e2) hf hM hS, (Kp.sy f1).mo hf⟩
  by_cases hw : w = 0
  · unfold aCluster; rw [if_pos hw, if_pos hw]
  · rw [hP.tkn (by omega)]; exact cluster_t hP.1.1.2.2.1 hP.nt hP.r1 hP.r2 x
theorem jn_kept (J : JS D ca H o n h rl S K tk w A F N Y W0 E rs B) (x y : Int32) (f1 : zz_fr (syFr o) H H1) (h1 : RmAt D ca H1 o n h rl S K) (h2 : EnAll D ca H1 o F N Y W0) (h3 : ∃ C, RuAt D ca H1 (o + 3) tk w C ∧ C 1 = A 1 ∧ C 2 = A 2) (hf : zz_fr (moFr (o + 73)) H1 H2) (hM : ∃ C, MoAt D ca H2 (o + 73) n h rs w C ∧ mS8 B C) : cKept n w (decide (zsum (A 1) w = tk)) (rF A) F N K x y = aKept n w (mDn B n w) (mFd B w rs) (mTx B) (B 17) x y ∧ Jn D ca o H2 ∧ Kp o H H2 := by
  obtain ⟨hK, hX, hM0, hP⟩ := J
  obtain ⟨C, hM, hS⟩ := hM
  obtain ⟨A2, hR, e1, e2⟩ := h3
  refine ⟨?_, jn_s8 ⟨h1, hR, h2⟩ (hX.sy f1) (hP.ru e1 e2) hf hM hS, (Kp.sy f1).mo hf⟩
  by_cases hw : w = 0
  · unfold cKept aKept; rw [if_pos hw, if_pos hw]
  · rw [hP.tkn (by omega)]; exact kept_t hP.1.1.2.1 hP.1.1.2.2.1 hP.nt hP.r1 hP.r2 hP.2.2.1.2.2.1 hP.2.2.1.1 hP.2.2.1.2.1 hP.2.1 hP.1.1.2.2.2.2.2.2 x y
theorem jn_records (J : JS D ca H o n h rl S K tk w A F N Y W0 E rs B) : Jn D ca o H := ⟨_, _, _, _, _, _, _, _, _, _, _, _, _, _, _, J⟩
theorem jn_type (J : JS D ca H o n h rl S K tk w A F N Y W0 E rs B) (x : Int32) (c0 : Nat) (f1 : zz_fr (syFr o) H H1) (h1 : RmAt D ca H1 o n h rl S K) (h2 : RuAt D ca H1 (o + 3) tk w A) (h3 : if cType (Y n) x c0 = true then EnAll D ca H1 o (va_u2 F n (cN x) (cTk (F n (cN x)) (N n (cN x)) (W0 n (cN x)) c0).1) (va_u2 N n (cN x) (cTk (F n (cN x)) (N n (cN x)) (W0 n (cN x)) c0).2) (va_u2 Y n (cN x) (Y n (cN x) + 1)) (va_u2 W0 n (cN x) (decide (mLet c0 ≠ 0))) else EnAll D ca H1 o F N Y W0) (hf : zz_fr (moFr (o + 73)) H1 H2) (hM : MoAt D ca H2 (o + 73) n h rs w (if aType (fun f => B 2 (24 + f)) x c0 = true then (up2 (up2 B 1 (12 * (24 + cN x) + B 2 (24 + cN x)) c0) 2 (24 + cN x) (B 2 (24 + cN x) + 1)) else B)) : cType (Y n) x c0 = aType (fun f => B 2 (24 + f)) x c0 ∧ Jn D ca o H2 ∧ Kp o H H2 := by
  obtain ⟨hK, hX, hM0, hP⟩ := J
  have e := hP.type_t x c0
  refine ⟨e, ?_, (Kp.sy f1).mo hf⟩
  rw [e] at h3
  by_cases q : aType (fun f => B 2 (24 + f)) x c0 = true
  · rw [if_pos q] at h3 hM
    unfold aType at q
    simp only [Bool.and_eq_true, decide_eq_true_eq] at q
    obtain ⟨f, hff, rfl⟩ := zisF_nat q.1.1
    rw [cN_n (by omega)] at *
    have p := hP.type hff q.1.2 q.2
    refine jn_fin ⟨h1, h2, h3⟩ (hX.sy f1) hf hM p ?_ ?_
    · intro i _
      unfold stk
      rw [up2_f (show (10 : Nat) ≠ 2 by decide), up2_f (show (10 : Nat) ≠ 1 by decide)]
      exact mkL_c 6 _ _ (by rw [up2_f (by decide), up2_f (by decide)]) (by rw [up2_f (by decide), up2_f (by decide)]) (by rw [up2_f (by decide), up2_f (by decide)]) (by rw [up2_f (by decide), up2_f (by decide)])
    · exact mkL_c 11 _ _ (by rw [up2_f (by decide), up2_f (by decide)]) (by rw [up2_f (by decide), up2_f (by decide)]) (by rw [up2_f (by decide), up2_f (by decide)]) (by rw [up2_f (by decide), up2_f (by decide)])
  · rw [if_neg q] at h3 hM
    exact jn_fin ⟨h1, h2, h3⟩ (hX.sy f1) hf hM hP (fun _ _ => rfl) rfl
theorem jn_add (J : JS D ca H o n h rl S K tk w A F N Y W0 E rs B) (f1 : zz_fr (syFr o) H H1) (h1 : RmAt D ca H1 o (if n = 12 then n else n + 1) h rl S K) (h2 : RuAt D ca H1 (o + 3) tk (if n = 12 then w else 0) A) (h3 : EnAll D ca H1 o F N Y W0) (hf : zz_fr (moFr (o + 73)) H1 H2) (hM : if n = 12 then MoAt D ca H2 (o + 73) n h rs w B else ∃ C, MoAt D ca H2 (o + 73) (n + 1) h rs 0 C ∧ mAdd B C n) : Jn D ca o H2 ∧ Kp o H H2 := by
  obtain ⟨hK, hX, hM0, hP⟩ := J
  refine ⟨?_, (Kp.sy f1).mo hf⟩
  by_cases q : n = 12
  · rw [if_pos q] at h1 h2 hM
    exact jn_fin ⟨h1, h2, h3⟩ (hX.sy f1) hf hM hP (fun _ _ => rfl) rfl
  · rw [if_neg q] at h1 h2 hM
    obtain ⟨C, hM, hA⟩ := hM
    have p := hP.add q hA
    exact jn_fin ⟨h1, h2, h3⟩ (hX.sy f1) hf hM p.1 (fun _ _ => by rw [p.2.1]) p.2.2
theorem jn_discard (J : JS D ca H o n h rl S K tk w A F N Y W0 E rs B) (f1 : zz_fr (rmFr o) H H1) (h1 : RmAt D ca H1 o n (h - 1) rl S K) (hf : zz_fr (moFr (o + 73)) H1 H2) (hM : MoAt D ca H2 (o + 73) n (h - 1) rs w B) : Jn D ca o H2 ∧ Kp o H H2 := by
  obtain ⟨hK, hX, hM0, hP⟩ := J
  have f2 : zz_fr (syFr o) H H1 := f1.mono fun q hq => by unfold rmFr at hq; unfold syFr; omega
  have hR : RuAt D ca H1 (o + 3) tk w A := hK.2.1.kp fun q a b => f1.2 q (by unfold rmFr; omega)
  have hE : EnAll D ca H1 o F N Y W0 := hK.2.2.kp fun q a b => f1.2 q (by unfold rmFr; omega)
  exact ⟨jn_fin ⟨h1, hR, hE⟩ ((hX.sy f2).less (by omega)) hf hM hP.discard (fun _ _ => rfl) rfl, (Kp.sy f2).mo hf⟩
theorem jn_keep (J : JS D ca H o n h rl S K tk w A F N Y W0 E rs B) (x y : Int32) (f1 : zz_fr (rmFr o) H H1) (h1 : RmAt D ca H1 o n h rl S (if aKeep x y = true then va_up K (cN x) (cN y) else K)) (hf : zz_fr (moFr (o + 73)) H1 H2) (hM : MoAt D ca H2 (o + 73) n h rs w (if aKeep x y = true then up2 B 17 (cN x) (cN y) else B)) : Jn D ca o H2 ∧ Kp o H H2 := by
  obtain ⟨hK, hX, hM0, hP⟩ := J
  have f2 : zz_fr (syFr o) H H1 := f1.mono fun q hq => by unfold rmFr at hq; unfold syFr; omega
  have hR : RuAt D ca H1 (o + 3) tk w A := hK.2.1.kp fun q a b => f1.2 q (by unfold rmFr; omega)
  have hE : EnAll D ca H1 o F N Y W0 := hK.2.2.kp fun q a b => f1.2 q (by unfold rmFr; omega)
  refine ⟨?_, (Kp.sy f2).mo hf⟩
  by_cases q : aKeep x y = true
  · rw [if_pos q] at h1 hM
    unfold aKeep at q
    simp only [Bool.and_eq_true] at q
    obtain ⟨v, hv, rfl⟩ := zisR_nat q.2 (by decide)
    rw [cN_n (by omega)] at *
    have p := hP.keep (f := cN x) (x := v) (by omega)
    exact jn_fin ⟨h1, hR, hE⟩ (hX.sy f2) hf hM p.1 (fun _ _ => by rw [p.2.1]) p.2.2
  · rw [if_neg q] at h1 hM
    exact jn_fin ⟨h1, hR, hE⟩ (hX.sy f2) hf hM hP (fun _ _ => rfl) rfl
theorem jn_crash (J : JS D ca H o n h rl S K tk w A F N Y W0 E rs B) (x : Int32) (f1 : zz_fr (syFr o) H H1) (h1 : RmAt D ca H1 o n h rl S K) (h2 : EnAll D ca H1 o F N Y W0) (h3 : ∃ C, RuAt D ca H1 (o + 3) tk w C ∧ (bCrash tk w A x = false → C = A) ∧ (bCrash tk w A x = true → ∃ A2, C = up2 A2 1 (cN x) 0 ∧ (A2 3 = A 3 ∧ A2 1 = A 1 ∧ (∀ q t, q < t → t < 12 → (∃ m, m < (A 1 (cN x)) ∧ t = (cN x) + m * w) → A2 2 (t * 12 + q) = 0) ∧ (∀ q t, q < t → t < 12 → (¬ ∃ m, m < (A 1 (cN x)) ∧ t = (cN x) + m * w) → A2 2 (t * 12 + q) = A 2 (t * 12 + q)) ∧ ∀ j, j < 144 → A2 2 j ≤ 1))) (hf : zz_fr (moFr (o + 73)) H1 H2) (hM : MoAt D ca H2 (o + 73) n h rs w (if (decide (w ≠ 0) && zisR w x && !(mDn B n w)) = true then up2 B 16 (cN x) 0 else B)) : cCrash tk w A x = aCrash w (mDn B n w) (B 16) x ∧ Jn D ca o H2 ∧ Kp o H H2 := by
  obtain ⟨hK, hX, hM0, hP⟩ := J
  obtain ⟨C, hR, hn, ht⟩ := h3
  have e : cCrash tk w A x = aCrash w (mDn B n w) (B 16) x ∧ bCrash tk w A x = (decide (w ≠ 0) && zisR w x && !(mDn B n w)) := by
    by_cases hw : w = 0
    · subst hw
      exact ⟨by unfold cCrash aCrash; rw [if_pos rfl, if_pos rfl], by unfold bCrash; simp⟩
    · rw [hP.tkn (by omega)]; exact crash_t hP.1.1.2.2.1 hP.r1 hP.r2 x
  refine ⟨e.1, ?_, (Kp.sy f1).mo hf⟩
  rw [← e.2] at hM
  by_cases q : bCrash tk w A x = true
  · rw [if_pos q] at hM
    obtain ⟨A2, rfl, -, g1, g2, g3, g4⟩ := ht q
    unfold bCrash at q
    simp only [Bool.and_eq_true, decide_eq_true_eq] at q
    have p := hP.crash (by omega) q.1.2 g1 g2 g3 g4
    exact jn_fin ⟨h1, hR, h2⟩ (hX.sy f1) hf hM p.1 (fun _ _ => by rw [p.2.1]) p.2.2
  · rw [if_neg q] at hM
    rw [hn (Bool.of_not_eq_true q)] at hR
    exact jn_fin ⟨h1, hR, h2⟩ (hX.sy f1) hf hM hP (fun _ _ => rfl) rfl
theorem jn_start (J : JS D ca H o n h rl S K tk w A F N Y W0 E rs B) (hrs : 0 < rs) (x : Int32) (f1 : zz_fr (syFr o) H H1) (h1 : RmAt D ca H1 o n h rl S K) (h2 : EnAll D ca H1 o F N Y W0) (h3 : ∃ C, RuAt D ca H1 (o + 3) (if bStart 1 x = true then n else tk) (if bStart 1 x = true then cN x else w) C ∧ (bStart 1 x = true → (∀ v, v < 4 → C 1 v = 0) ∧ (∀ j, j < 144 → C 2 j = 0) ∧ C 3 = A 3) ∧ (bStart 1 x = false → C = A)) (hf : zz_fr (moFr (o + 73)) H1 H2) (hM : ∃ C, MoAt D ca H2 (o + 73) n h rs (if bStart rs x = true then cN x else w) C ∧ (bStart rs x = true → (∀ k, k ≠ 16 → C k = B k) ∧ ∀ v, v < 4 → C 16 v = 0) ∧ (bStart rs x = false → C = B)) : aStart n 1 x = aStart n rs x ∧ Jn D ca o H2 ∧ Kp o H H2 := by
  obtain ⟨hK, hX, hM0, hP⟩ := J
  have e := start_t n hrs x
  rw [e.2] at h3
  refine ⟨e.1, ?_, (Kp.sy f1).mo hf⟩
  obtain ⟨A2, hR, a1, a2⟩ := h3
  obtain ⟨C, hM, c1, c2⟩ := hM
  by_cases q : bStart rs x = true
  · rw [if_pos q, if_pos q] at hR
    rw [if_pos q] at hM
    have p := hP.start hrs q (c1 q).1 (c1 q).2 (a1 q).1 (a1 q).2.1
    exact jn_fin ⟨h1, hR, h2⟩ (hX.sy f1) hf hM p.1 (fun _ _ => by rw [p.2.1]) p.2.2
  · rw [if_neg q, if_neg q] at hR
    rw [if_neg q] at hM
    rw [a2 (Bool.of_not_eq_true q)] at hR
    rw [c2 (Bool.of_not_eq_true q)] at hM
    exact jn_fin ⟨h1, hR, h2⟩ (hX.sy f1) hf hM hP (fun _ _ => rfl) rfl
theorem jn_start0 (J : JS D ca H o n h rl S K tk w A F N Y W0 E rs B) (hrs : rs = 0) (x : Int32) (hf : zz_fr (moFr (o + 73)) H H2) (hM : ∃ C, MoAt D ca H2 (o + 73) n h rs (if bStart rs x = true then cN x else w) C ∧ (bStart rs x = true → (∀ k, k ≠ 16 → C k = B k) ∧ ∀ v, v < 4 → C 16 v = 0) ∧ (bStart rs x = false → C = B)) : (-4 : Int32) = aStart n rs x ∧ Jn D ca o H2 ∧ Kp o H H2 := by
  obtain ⟨hK, hX, hM0, hP⟩ := J
  obtain ⟨C, hM, c1, c2⟩ := hM
  have e : bStart rs x = false := by unfold bStart; rw [hrs]; rfl
  rw [c2 e, if_neg (by rw [e]; decide)] at hM
  exact ⟨by unfold aStart; rw [if_pos hrs], jn_fin hK hX hf hM hP (fun _ _ => rfl) rfl, Kp.rf.mo hf⟩
theorem jn_similar0 (J : JS D ca H o n h rl S K tk w A F N Y W0 E rs B) (hrs : rs = 0) (x y : Int32) (hf : zz_fr (moFr (o + 73)) H H2) (hM : ∃ C, MoAt D ca H2 (o + 73) n h rs w C ∧ mS B C) : (-4 : Int32) = aSimilar n rs (mHo B rs) x y ∧ Jn D ca o H2 ∧ Kp o H H2 := by
  obtain ⟨hK, hX, hM0, hP⟩ := J
  obtain ⟨C, hM, hS⟩ := hM
  exact ⟨by unfold aSimilar; rw [if_pos hrs], jn_s8 hK hX hP hf hM hS.s8, Kp.rf.mo hf⟩
theorem CX.ge (hX : CX D ca H o h rl S E T ts) : (∀ q, E q → o + 73 ≤ q) := fun q hq => by have := (hX.2.1 q hq).1; omega
theorem jn_similar (J : JS D ca H o n h rl S K tk w A F N Y W0 E rs B) (hrs : 0 < rs) (x y : Int32) (f1 : zz_fr E H H1) (hR : Rows D ca E H1) (hf : zz_fr (moFr (o + 73)) H1 H2) (hM : ∃ C, MoAt D ca H2 (o + 73) n h rs w C ∧ mS B C) : aSimilar n 1 (xHo F N (rul B rs)) x y = aSimilar n rs (mHo B rs) x y ∧ Jn D ca o H2 ∧ Kp o H H2 := by
  obtain ⟨hK, hX, hM0, hP⟩ := J
  obtain ⟨C, hM, hS⟩ := hM
  have hK1 : CK D ca H1 o n h rl S K tk w A F N Y W0 := hK.fr fun q a b => f1.2 q (fun z => by have := (hX.2.1 q z).1; omega)
  have hX1 : CX D ca H1 o h rl S E (stk B) (rul B rs) := hX.kp (fun q _ _ z => f1.2 q z) hR (by rw [f1.1]; exact Nat.le_refl _)
  have k1 : Kp o H H1 := fun a ha => f1.2 a (fun z => by have := (hX.2.1 a z).1; omega)
  exact ⟨hP.similar hrs x y, jn_s8 hK1 hX1 hP hf hM hS.s8, k1.mo hf⟩
theorem jn_work0 (J : JS D ca H o n h rl S K tk w A F N Y W0 E rs B) (hrs : rs = 0) (x : Int32) (hf : zz_fr (moFr (o + 73)) H H2) (hM : ∃ C, MoAt D ca H2 (o + 73) n h rs w C ∧ mS (if bWork n w (B 16) x = true then up2 B 16 (cN x) (B 16 (cN x) + 1) else B) C) : (-4 : Int32) = aWork n w (B 16) (mHo B rs) x ∧ Jn D ca o H2 ∧ Kp o H H2 := by
  obtain ⟨hK, hX, hM0, hP⟩ := J
  obtain ⟨C, hM, hS⟩ := hM
  have hw : w = 0 := Nat.eq_zero_of_not_pos fun q => by have := hP.1.1.2.2.2.2.1 q; omega
  have e : bWork n w (B 16) x = false := by unfold bWork; rw [hw]; rfl
  rw [if_neg (by rw [e]; decide)] at hS
  exact ⟨by unfold aWork; rw [if_pos hw], jn_s8 hK hX hP hf hM hS.s8, Kp.rf.mo hf⟩
theorem jn_work (J : JS D ca H o n h rl S K tk w A F N Y W0 E rs B) (hrs : 0 < rs) (x : Int32) (f1 : zz_fr (wkFr E o) H H1) (h1 : RmAt D ca H1 o n h rl S K) (h2 : EnAll D ca H1 o F N Y W0) (hR : Rows D ca E H1) (g1 : bWork2 tk w A x = false → RuAt D ca H1 (o + 3) tk w A) (g2 : bWork2 tk w A x = true → RuAt D ca H1 (o + 3) tk w (up2 (wB A (cN x + A 1 (cN x) * w) (xHo F N (rul B rs)) (cN x + A 1 (cN x) * w)) 1 (cN x) (A 1 (cN x) + 1))) (hf : zz_fr (moFr (o + 73)) H1 H2) (hM : ∃ C, MoAt D ca H2 (o + 73) n h rs w C ∧ mS (if bWork n w (B 16) x = true then up2 B 16 (cN x) (B 16 (cN x) + 1) else B) C) : cWork tk w A (xHo F N (rul B rs)) x = aWork n w (B 16) (mHo B rs) x ∧ Jn D ca o H2 ∧ Kp o H H2 := by
  obtain ⟨hK, hX, hM0, hP⟩ := J
  obtain ⟨C, hM, hS⟩ := hM
  have e : cWork tk w A (xHo F N (rul B rs)) x = aWork n w (B 16) (mHo B rs) x ∧ bWork2 tk w A x = bWork n w (B 16) x := by
    by_cases hw : w = 0
    · subst hw
      exact ⟨by unfold cWork aWork; rw [if_pos rfl, if_pos rfl], by unfold bWork2 bWork; simp⟩
    · rw [hP.tkn (by omega)]; exact work_t hP.1.1.2.2.1 hP.r1 hP.r2 (fun q r hq hr => hP.ho hq hr) x
  have hX1 : CX D ca H1 o h rl S E (stk B) (rul B rs) := hX.kp (fun q a _ z => f1.2 q (fun y => y.elim z (fun y => by have := y.2; omega))) hR (by rw [f1.1]; exact Nat.le_refl _)
  have k1 : Kp o H H1 := fun a ha => f1.2 a (fun z => z.elim (fun z => by have := (hX.2.1 a z).1; omega) (fun z => by have := z.1; omega))
  refine ⟨e.1, ?_, k1.mo hf⟩
  rw [e.2] at g1 g2
  by_cases q : bWork n w (B 16) x = true
  · rw [if_pos q] at hS
    have p := hP.work q
    exact jn_s8 ⟨h1, g2 q, h2⟩ (hX1.cg (fun _ _ => by rw [p.2.1]) p.2.2) p.1 hf hM hS.s8
  · rw [if_neg q] at hS
    exact jn_s8 ⟨h1, g1 (Bool.of_not_eq_true q), h2⟩ hX1 hP hf hM hS.s8
end ZJ
