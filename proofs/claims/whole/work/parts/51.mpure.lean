/-! The class's ghosts against the reference's: the pure part. -/
def TxAll (n : Nat) (F : Nat → Nat → Nat → Nat) (N Y : Nat → Nat → Nat) (W0 : Nat → Nat → Bool) (B : Nat → Nat → Nat) : Prop := (∀ i f, N i f ≤ 12) ∧ (∀ i f j, j < 12 → F i f j < 65536) ∧ (∀ i f, i < n → f ≤ 1 → TxR (F i f) (N i f) (mTx B i f)) ∧ (∀ f, f ≤ 1 → TxR (F n f) (N n f) (mTx B 12 f) ∧ Y n f = B 2 (24 + f) ∧ (0 < N n f → W0 n f = !(nfS (fun i => B 1 (12 * (24 + f) + i)) (B 2 (24 + f))).2)) ∧ ∀ i f, n < i → i ≤ 12 → f ≤ 1 → N i f = 0 ∧ Y i f = 0
def RunR (n tk w rs : Nat) (A B : Nat → Nat → Nat) : Prop := tk ≤ 12 ∧ (∀ j, j < 144 → A 2 j ≤ 1) ∧ (∀ v, v < 4 → A 1 v ≤ 12) ∧ (0 < w → tk = n ∧ NtR A B n w rs ∧ (∀ v, v < 4 → A 1 v = B 16 v) ∧ ∀ v, v < w → B 16 v ≤ mTk n w v)
/-- the marks of an expression of the stack, of the rule -/
def stk (B : Nat → Nat → Nat) (i : Nat) : List Tok := mkL B 6 (B 10 i) (B 10 (i + 1) - B 10 i)
def rul (B : Nat → Nat → Nat) (rs : Nat) : List Tok := mkL B 11 0 rs
def PR (n h : Nat) (K : Nat → Nat) (tk w : Nat) (A : Nat → Nat → Nat) (F : Nat → Nat → Nat → Nat) (N Y : Nat → Nat → Nat) (W0 : Nat → Nat → Bool) (rs : Nat) (B : Nat → Nat → Nat) : Prop := (mAll B n rs w ∧ mSk B h) ∧ (∀ f, f ≤ 1 → K f = B 17 f) ∧ TxAll n F N Y W0 B ∧ RunR n tk w rs A B
section ZPR
variable {n h : Nat} {K : Nat → Nat} {tk w : Nat} {A : Nat → Nat → Nat} {F : Nat → Nat → Nat → Nat} {N Y : Nat → Nat → Nat} {W0 : Nat → Nat → Bool} {rs : Nat} {B C : Nat → Nat → Nat}
theorem mTx_c (h1 : C 1 = B 1) (h2 : C 2 = B 2) (rr f : Nat) : mTx C rr f = mTx B rr f := by unfold mTx; rw [h1, h2]
theorem TxAll.cg (h : TxAll n F N Y W0 B) (h1 : C 1 = B 1) (h2 : C 2 = B 2) : TxAll n F N Y W0 C := by
  unfold TxAll mTx at h ⊢
  rw [h1, h2]
  exact h
theorem mRu_c (h : mRu B rs) (h1 : C 11 = B 11) (h2 : C 12 = B 12) (h3 : C 13 = B 13) (h4 : C 14 = B 14) : mRu C rs := by unfold mRu; rw [h1, h2, h3, h4]; exact h
theorem mkL_c (k0 a m : Nat) (h0 : C k0 = B k0) (h1 : C (k0 + 1) = B (k0 + 1)) (h2 : C (k0 + 2) = B (k0 + 2)) (h3 : C (k0 + 3) = B (k0 + 3)) : mkL C k0 a m = mkL B k0 a m := mkL_cg fun k _ _ => by unfold mk1; rw [h0, h1, h2, h3]
theorem RunR.cg (h : RunR n tk w rs A B) (h1 : C 1 = B 1) (h2 : C 2 = B 2) (h16 : C 16 = B 16) (h11 : C 11 = B 11) (h12 : C 12 = B 12) (h13 : C 13 = B 13) (h14 : C 14 = B 14) : RunR n tk w rs A C :=
  ⟨h.1, h.2.1, h.2.2.1, fun hw => ⟨(h.2.2.2 hw).1, (h.2.2.2 hw).2.1.cg rfl h16 fun q r _ _ => mHo_c h1 h2 h11 h12 h13 h14 rs q r, by rw [h16]; exact (h.2.2.2 hw).2.2.1, by rw [h16]; exact (h.2.2.2 hw).2.2.2⟩⟩
theorem mSk_c (h0 : mSk B h) (h6 : C 6 = B 6) (h10 : C 10 = B 10) : mSk C h := by unfold mSk; rw [h6, h10]; exact h0
/-- the reference has looked at something -/
theorem PR.s8 (h0 : PR n h K tk w A F N Y W0 rs B) (hS : mS8 B C) : PR n h K tk w A F N Y W0 rs C ∧ stk C = stk B ∧ rul C rs = rul B rs := by
  obtain ⟨⟨⟨a1, a2, a3, a4, a5, a6, a7⟩, a8⟩, b, c, d⟩ := h0
  have e : ∀ k, k ≠ 3 → k ≠ 4 → k ≠ 5 → k ≠ 15 → k ≠ 18 → C k = B k := hS.2
  have e1 := e 1 (by decide) (by decide) (by decide) (by decide) (by decide)
  have e2 := e 2 (by decide) (by decide) (by decide) (by decide) (by decide)
  have e6 := e 6 (by decide) (by decide) (by decide) (by decide) (by decide)
  have e7 := e 7 (by decide) (by decide) (by decide) (by decide) (by decide)
  have e8 := e 8 (by decide) (by decide) (by decide) (by decide) (by decide)
  have e9 := e 9 (by decide) (by decide) (by decide) (by decide) (by decide)
  have e10 := e 10 (by decide) (by decide) (by decide) (by decide) (by decide)
  have e11 := e 11 (by decide) (by decide) (by decide) (by decide) (by decide)
  have e12 := e 12 (by decide) (by decide) (by decide) (by decide) (by decide)
  have e13 := e 13 (by decide) (by decide) (by decide) (by decide) (by decide)
  have e14 := e 14 (by decide) (by decide) (by decide) (by decide) (by decide)
  have e16 := e 16 (by decide) (by decide) (by decide) (by decide) (by decide)
  have e17 := e 17 (by decide) (by decide) (by decide) (by decide) (by decide)
  refine ⟨⟨⟨⟨hS.1, a2, a3, mRu_c a4 e11 e12 e13 e14, a5, by rw [e16]; exact a6, by rw [e17]; exact a7⟩, mSk_c a8 e6 e10⟩, by rw [e17]; exact b, c.cg e1 e2, d.cg e1 e2 e16 e11 e12 e13 e14⟩, ?_, ?_⟩
  · funext i
    unfold stk
    rw [e10]
    exact mkL_c 6 _ _ e6 e7 e8 e9
  · exact mkL_c 11 _ _ e11 e12 e13 e14
theorem PR.s (h0 : PR n h K tk w A F N Y W0 rs B) (hS : mS B C) : PR n h K tk w A F N Y W0 rs C ∧ stk C = stk B ∧ rul C rs = rul B rs := h0.s8 hS.s8
/-! What is answered. -/
theorem TxAll.words (h : TxAll n F N Y W0 B) (hn : n ≤ 12) (x y : Int32) : cWords n F N x y = aWords n (mTx B) x y := by
  unfold cWords aWords
  by_cases hx : zisR n x = true ∧ zisF y = true
  · rw [if_pos hx, if_pos hx]
    obtain ⟨j, hj, rfl⟩ := zisR_nat hx.1 (by omega)
    obtain ⟨f, hf, rfl⟩ := zisF_nat hx.2
    rw [cN_n (by omega), cN_n (by omega), cWs_t (h.2.2.1 j f hj hf) (nfS_nm _ _) (h.1 _ _)]
  · rw [if_neg hx, if_neg hx]
theorem TxAll.length (h : TxAll n F N Y W0 B) (hn : n ≤ 12) (x y : Int32) : cLength n N x y = aLength n (mTx B) x y := by
  unfold cLength aLength
  by_cases hx : zisR n x = true ∧ zisF y = true
  · rw [if_pos hx, if_pos hx]
    obtain ⟨j, hj, rfl⟩ := zisR_nat hx.1 (by omega)
    obtain ⟨f, hf, rfl⟩ := zisF_nat hx.2
    rw [cN_n (by omega), cN_n (by omega), (h.2.2.1 j f hj hf).1]
  · rw [if_neg hx, if_neg hx]
theorem TxAll.unit (h : TxAll n F N Y W0 B) (hn : n ≤ 12) (x y i : Int32) : cUnit n F N x y i = aUnit n (mTx B) x y i := by
  unfold cUnit aUnit
  by_cases hx : zisR n x = true ∧ zisF y = true
  · obtain ⟨j, hj, rfl⟩ := zisR_nat hx.1 (by omega)
    obtain ⟨f, hf, rfl⟩ := zisF_nat hx.2
    rw [cN_n (by omega), cN_n (by omega)]
    have t := h.2.2.1 j f hj hf
    rw [← t.1]
    by_cases hi : zisR (N j f) i = true
    · rw [if_pos ⟨hx, hi⟩, if_pos ⟨hx, hi⟩]
      have := h.1 j f
      obtain ⟨k, hk, rfl⟩ := zisR_nat hi (by omega)
      rw [cN_n (by omega), t.2 k hk]
    · rw [if_neg (fun q => hi q.2), if_neg (fun q => hi q.2)]
  · rw [if_neg (fun q => hx q.1), if_neg (fun q => hx q.1)]
theorem PR.ho (h0 : PR n h K tk w A F N Y W0 rs B) {j k : Nat} (hj : j < n) (hk : k < n) : xHo F N (rul B rs) j k = mHo B rs j k :=
  ho_t (fun f hf => ⟨h0.2.2.1.2.2.1 j f hj hf, h0.2.2.1.1 _ _⟩) (fun f hf => ⟨h0.2.2.1.2.2.1 k f hk hf, h0.2.2.1.1 _ _⟩) fun i hi => (h0.1.1.2.2.2.1.2.2.2 i hi).1
theorem PR.similar (h0 : PR n h K tk w A F N Y W0 rs B) (hrs : 0 < rs) (x y : Int32) : aSimilar n 1 (xHo F N (rul B rs)) x y = aSimilar n rs (mHo B rs) x y := by
  have hn := h0.1.1.2.1
  unfold aSimilar
  rw [if_neg (show ¬ 1 = 0 by decide), if_neg (show ¬ rs = 0 by omega)]
  by_cases hx : zisR n x = true ∧ zisR n y = true ∧ x ≠ y
  · rw [if_pos hx, if_pos hx]
    obtain ⟨j, hj, rfl⟩ := zisR_nat hx.1 (by omega)
    obtain ⟨k, hk, rfl⟩ := zisR_nat hx.2.1 (by omega)
    rw [cN_n (by omega), cN_n (by omega), h0.ho hj hk]
  · rw [if_neg hx, if_neg hx]
/-! What is changed. -/
theorem PR.type (h0 : PR n h K tk w A F N Y W0 rs B) {f c0 : Nat} (hf : f ≤ 1) (hc : c0 ≤ 255) (hl : B 2 (24 + f) ≠ 12) : PR n h K tk w A (va_u2 F n f (cTk (F n f) (N n f) (W0 n f) c0).1) (va_u2 N n f (cTk (F n f) (N n f) (W0 n f) c0).2) (va_u2 Y n f (Y n f + 1)) (va_u2 W0 n f (decide (mLet c0 ≠ 0))) rs (up2 (up2 B 1 (12 * (24 + f) + B 2 (24 + f)) c0) 2 (24 + f) (B 2 (24 + f) + 1)) := by
  obtain ⟨⟨⟨a1, a2, a3, a4, a5, a6, a7⟩, a8⟩, b, c, d⟩ := h0
  have hl2 := a1.2.1 (24 + f) (by omega)
  -- texts of the records stay
  have hB2 : ∀ j, j ≠ 24 + f → up2 (up2 B 1 (12 * (24 + f) + B 2 (24 + f)) c0) 2 (24 + f) (B 2 (24 + f) + 1) 2 j = B 2 j := fun j hj => by rw [up2_i hj, up2_k (by decide)]
  have hB2s : up2 (up2 B 1 (12 * (24 + f) + B 2 (24 + f)) c0) 2 (24 + f) (B 2 (24 + f) + 1) 2 (24 + f) = B 2 (24 + f) + 1 := up2_s
  have hB1 : ∀ j, j ≠ 12 * (24 + f) + B 2 (24 + f) → up2 (up2 B 1 (12 * (24 + f) + B 2 (24 + f)) c0) 2 (24 + f) (B 2 (24 + f) + 1) 1 j = B 1 j := fun j hj => by rw [up2_k (by decide), up2_i hj]
  have hB1s : up2 (up2 B 1 (12 * (24 + f) + B 2 (24 + f)) c0) 2 (24 + f) (B 2 (24 + f) + 1) 1 (12 * (24 + f) + B 2 (24 + f)) = c0 := by rw [up2_k (by decide), up2_s]
  have hBk : ∀ k, k ≠ 1 → k ≠ 2 → up2 (up2 B 1 (12 * (24 + f) + B 2 (24 + f)) c0) 2 (24 + f) (B 2 (24 + f) + 1) k = B k := fun k h1 h2 => by rw [up2_f h2, up2_f h1]
  generalize up2 (up2 B 1 (12 * (24 + f) + B 2 (24 + f)) c0) 2 (24 + f) (B 2 (24 + f) + 1) = C at *
  have hother : ∀ rr g, rr ≤ 12 → g ≤ 1 → ¬ (rr = 12 ∧ g = f) → nfS (fun i => C 1 (12 * (2 * rr + g) + i)) (C 2 (2 * rr + g)) = nfS (fun i => B 1 (12 * (2 * rr + g) + i)) (B 2 (2 * rr + g)) := fun rr g hr hg hne => by
    rw [hB2 _ (by omega)]
    have := a1.2.1 (2 * rr + g) (by omega)
    exact nfS_cg fun i hi => hB1 _ (by omega)
  have hmine : nfS (fun i => C 1 (12 * (24 + f) + i)) (B 2 (24 + f)) = nfS (fun i => B 1 (12 * (24 + f) + i)) (B 2 (24 + f)) := nfS_cg fun i hi => hB1 _ (by omega)
  have e6 := hBk 6 (by decide) (by decide)
  have e10 := hBk 10 (by decide) (by decide)
  have e11 := hBk 11 (by decide) (by decide)
  have e12 := hBk 12 (by decide) (by decide)
  have e13 := hBk 13 (by decide) (by decide)
  have e14 := hBk 14 (by decide) (by decide)
  have e16 := hBk 16 (by decide) (by decide)
  have e17 := hBk 17 (by decide) (by decide)
  have hok : mOk C := by
    refine ⟨fun j hj => ?_, fun j hj => ?_, ?_, ?_, ?_⟩
    · by_cases q : j = 12 * (24 + f) + B 2 (24 + f)
      · rw [q, hB1s]; omega
      · rw [hB1 j q]; exact a1.1 j hj
    · by_cases q : j = 24 + f
      · rw [q, hB2s]; omega
      · rw [hB2 j q]; exact a1.2.1 j hj
    · rw [hBk 3 (by decide) (by decide)]; exact a1.2.2.1
    · rw [hBk 4 (by decide) (by decide)]; exact a1.2.2.2.1
    · rw [hBk 15 (by decide) (by decide)]; exact a1.2.2.2.2
  obtain ⟨c1, c2, c3, c4, c5⟩ := c
  have hdr := c4 f hf
  have hnt : N n f + (if W0 n f = false ∧ 0 < N n f then 1 else 0) ≤ Y n f := by
    have := nfS_len (fun i => B 1 (12 * (24 + f) + i)) (B 2 (24 + f))
    rw [hdr.2.1]
    have e : N n f = (nfS (fun i => B 1 (12 * (24 + f) + i)) (B 2 (24 + f))).1.length := hdr.1.1
    by_cases q : W0 n f = false ∧ 0 < N n f
    · rw [if_pos q]
      rw [if_pos ⟨by have := hdr.2.2 q.2; rw [q.1] at this; simpa using this.symm, by omega⟩] at this
      omega
    · rw [if_neg q]; omega
  refine ⟨⟨⟨hok, a2, a3, mRu_c a4 e11 e12 e13 e14, a5, by rw [e16]; exact a6, by rw [e17]; exact a7⟩, mSk_c a8 e6 e10⟩, by rw [e17]; exact b, ⟨fun i g => ?_, fun i g j hj => ?_, fun i g hi hg => ?_, fun g hg => ?_, fun i g hi hi2 hg => ?_⟩, ⟨d.1, d.2.1, d.2.2.1, fun hw => ?_⟩⟩
  · by_cases q : i = n ∧ g = f
    · obtain ⟨rfl, rfl⟩ := q
      rw [va_u2_s]
      unfold cTk
      split
      · exact c1 _ _
      split
      · rename_i q2
        rw [if_pos q2] at hnt
        show N i g + 1 + 1 ≤ 12
        omega
      · show N i g + 1 ≤ 12
        have := hdr.2.1
        split at hnt <;> omega
    · rw [va_u2_n _ _ q]; exact c1 _ _
  · by_cases q : i = n ∧ g = f
    · obtain ⟨rfl, rfl⟩ := q
      rw [va_u2_s]
      exact cTk_b (by omega) (c2 _ _) j hj
    · rw [va_u2_n _ _ q]; exact c2 _ _ j hj
  · have q : ¬ (i = n ∧ g = f) := fun q => by omega
    rw [va_u2_n _ _ q, va_u2_n _ _ q]
    have := hother i g (by omega) hg (by omega)
    unfold mTx
    rw [this]
    exact c3 i g hi hg
  · by_cases q : g = f
    · subst q
      rw [va_u2_s, va_u2_s, va_u2_s, va_u2_s, hB2s]
      have hx : c0 = C 1 (12 * (24 + g) + B 2 (24 + g)) := hB1s.symm
      have ht : TxR (F n g) (N n g) (nfS (fun i => C 1 (12 * (24 + g) + i)) (B 2 (24 + g))).1 := by rw [hmine]; exact hdr.1
      refine ⟨?_, by rw [hdr.2.1], fun _ => ?_⟩
      · show TxR _ _ (nfS (fun i => C 1 (12 * (24 + g) + i)) (C 2 (24 + g))).1
        rw [hB2s]
        have := cTk_t ht (iw := W0 n g) fun hp => by rw [hmine]; exact hdr.2.2 hp
        rw [← hx] at this
        exact this
      · have := nfS_flag (fun i => C 1 (12 * (24 + g) + i)) (B 2 (24 + g))
        rw [← hx] at this
        exact this
    · have q2 : ¬ (n = n ∧ g = f) := fun z => q z.2
      rw [va_u2_n _ _ q2, va_u2_n _ _ q2, va_u2_n _ _ q2, va_u2_n _ _ q2, hB2 _ (by omega)]
      have := hother 12 g (by omega) hg (by omega)
      have hz := c4 g hg
      have h24 : C 2 (2 * 12 + g) = B 2 (24 + g) := hB2 _ (by omega)
      refine ⟨?_, hz.2.1, ?_⟩
      · unfold mTx; rw [this]; exact hz.1
      · rw [h24] at this
        have t2 : nfS (fun i => C 1 (12 * (24 + g) + i)) (B 2 (24 + g)) = nfS (fun i => B 1 (12 * (24 + g) + i)) (B 2 (24 + g)) := this
        rw [t2]; exact hz.2.2
  · have q : ¬ (i = n ∧ g = f) := fun q => by omega
    rw [va_u2_n _ _ q, va_u2_n _ _ q]
    exact c5 i g hi hi2 hg
  · have dd := d.2.2.2 hw
    refine ⟨dd.1, dd.2.1.cg rfl e16 fun q r hq hr => ?_, by rw [e16]; exact dd.2.2.1, by rw [e16]; exact dd.2.2.2⟩
    rw [mHo_mk, mHo_mk, mkL_c 11 0 rs e11 e12 e13 e14]
    unfold tV
    rw [tS_cg fun t ht => ?_]
    obtain ⟨i, -, hi, rfl⟩ := mkL_mem2 ht
    have hg : B 12 i ≤ 1 := (a4.2.2.2 i (by omega)).1
    show leafV _ _ _ (mTx C q (B 12 i)) (mTx C r (B 12 i)) = leafV _ _ _ (mTx B q (B 12 i)) (mTx B r (B 12 i))
    have hx1 : mTx C q (B 12 i) = mTx B q (B 12 i) := by unfold mTx; rw [hother q _ (by omega) hg (by omega)]
    have hx2 : mTx C r (B 12 i) = mTx B r (B 12 i) := by unfold mTx; rw [hother r _ (by omega) hg (by omega)]
    rw [hx1, hx2]
theorem PR.add (h0 : PR n h K tk w A F N Y W0 rs B) (hn : n ≠ 12) (hC : mAdd B C n) : PR (n + 1) h K tk 0 A F N Y W0 rs C ∧ stk C = stk B ∧ rul C rs = rul B rs := by
  obtain ⟨⟨⟨a1, a2, a3, a4, a5, a6, a7⟩, a8⟩, b, ⟨c1, c2, c3, c4, c5⟩, d⟩ := h0
  obtain ⟨hBk, hdr, ho2, ho1, hok⟩ := hC
  have e6 := hBk 6 (by decide) (by decide)
  have e10 := hBk 10 (by decide) (by decide)
  have e11 := hBk 11 (by decide) (by decide)
  have e12 := hBk 12 (by decide) (by decide)
  have e13 := hBk 13 (by decide) (by decide)
  have e14 := hBk 14 (by decide) (by decide)
  have e16 := hBk 16 (by decide) (by decide)
  have e17 := hBk 17 (by decide) (by decide)
  refine ⟨⟨⟨⟨hok, by omega, by omega, mRu_c a4 e11 e12 e13 e14, fun q => absurd q (by omega), by rw [e16]; exact a6, by rw [e17]; exact a7⟩, mSk_c a8 e6 e10⟩, by rw [e17]; exact b, ⟨c1, c2, fun i g hi hg => ?_, fun g hg => ?_, fun i g hi hi2 hg => c5 i g (by omega) hi2 hg⟩, ⟨d.1, d.2.1, d.2.2.1, fun q => absurd q (by omega)⟩⟩, ?_, mkL_c 11 _ _ e11 e12 e13 e14⟩
  · by_cases q : i = n
    · subst q
      have hz := hdr g hg
      have hd := (c4 g hg).1
      have hle := a1.2.1 (24 + g) (by omega)
      have : mTx C i g = mTx B 12 g := by
        unfold mTx
        rw [hz.1]
        show (nfS _ (B 2 (24 + g))).1 = (nfS _ (B 2 (24 + g))).1
        rw [nfS_cg fun k hk => hz.2.2 k hk]
      rw [this]; exact hd
    · have : mTx C i g = mTx B i g := by
        unfold mTx
        have hle := a1.2.1 (2 * i + g) (by omega)
        rw [ho2 _ (by omega), nfS_cg fun k hk => ho1 _ (by omega)]
      rw [this]
      exact c3 i g (by omega) hg
  · have hz := (hdr g hg).2.1
    have hy := c5 (n + 1) g (by omega) (by omega) hg
    have he : mTx C 12 g = [] := by
      unfold mTx
      rw [show C 2 (2 * 12 + g) = 0 from hz]
      rfl
    rw [he, hz, hy.1, hy.2]
    exact ⟨⟨rfl, fun j hj => absurd hj (by omega)⟩, rfl, fun q => absurd q (by omega)⟩
  · funext i
    unfold stk
    rw [e10]
    exact mkL_c 6 _ _ e6 (hBk 7 (by decide) (by decide)) (hBk 8 (by decide) (by decide)) (hBk 9 (by decide) (by decide))
end ZPR
