/-! The pure relation: the stack, the rule, the run. -/
section ZPS
variable {n h : Nat} {K : Nat → Nat} {tk w : Nat} {A : Nat → Nat → Nat} {F : Nat → Nat → Nat → Nat} {N Y : Nat → Nat → Nat} {W0 : Nat → Nat → Bool} {rs : Nat} {B C : Nat → Nat → Nat}
/-- only the stack's arrays 6 to 10 are other -/
theorem PR.st (h0 : PR n h K tk w A F N Y W0 rs B) {h2 : Nat} (hC : ∀ k, k < 6 ∨ 10 < k → C k = B k) (hk : mSk C h2) : PR n h2 K tk w A F N Y W0 rs C ∧ rul C rs = rul B rs := by
  obtain ⟨⟨⟨a1, a2, a3, a4, a5, a6, a7⟩, a8⟩, b, c, d⟩ := h0
  have e1 := hC 1 (by omega)
  have e2 := hC 2 (by omega)
  have e11 := hC 11 (by omega)
  have e12 := hC 12 (by omega)
  have e13 := hC 13 (by omega)
  have e14 := hC 14 (by omega)
  have e16 := hC 16 (by omega)
  have e17 := hC 17 (by omega)
  have hok : mOk C := by
    unfold mOk
    rw [e1, e2, hC 3 (by omega), hC 4 (by omega), hC 15 (by omega)]
    exact a1
  exact ⟨⟨⟨⟨hok, a2, a3, mRu_c a4 e11 e12 e13 e14, a5, by rw [e16]; exact a6, by rw [e17]; exact a7⟩, hk⟩, by rw [e17]; exact b, c.cg e1 e2, d.cg e1 e2 e16 e11 e12 e13 e14⟩, mkL_c 11 _ _ e11 e12 e13 e14⟩
theorem mMk_k (t k f nu de : Nat) {a : Nat} (ha : a < 6 ∨ 9 < a) : mMk B t k f nu de a = B a := by
  unfold mMk
  rw [up2_f (by omega), up2_f (by omega), up2_f (by omega), up2_f (by omega)]
theorem mMk_1 (t k f nu de : Nat) {j : Nat} (hj : j ≠ B 10 t) : mk1 (mMk B t k f nu de) 6 j = mk1 B 6 j := by
  unfold mk1 mMk
  rw [up2_i hj, up2_i hj, up2_i hj, up2_i hj, up2_i hj, up2_i hj, up2_i hj, up2_i hj, up2_i hj, up2_i hj, up2_i hj, up2_i hj, up2_i hj, up2_i hj, up2_i hj, up2_i hj]
theorem mMk_s (t k f nu de : Nat) : mk1 (mMk B t k f nu de) 6 (B 10 t) = (k, f, nu, de) := by
  unfold mk1 mMk
  simp [up2]
theorem mMk_6 (t k f nu de j : Nat) (hk : k < 4) (h6 : B 6 j < 4) : mMk B t k f nu de 6 j < 4 := by
  unfold mMk
  rw [up2_k (by decide), up2_k (by decide), up2_k (by decide)]
  unfold up2
  split <;> omega
theorem mk1_u10 (i x j : Nat) : mk1 (up2 B 10 i x) 6 j = mk1 B 6 j := by
  unfold mk1
  rw [up2_f (by decide), up2_f (by decide), up2_f (by decide), up2_f (by decide)]
theorem PR.push (h0 : PR n h K tk w A F N Y W0 rs B) (hh : h ≠ 6) {k f nu de : Nat} (hk : k < 2) : PR n (h + 1) K tk w A F N Y W0 rs (up2 (mMk B h k f nu de) 10 (h + 1) (B 10 h + 1)) ∧ rul (up2 (mMk B h k f nu de) 10 (h + 1) (B 10 h + 1)) rs = rul B rs ∧ (∀ i, i < h → stk (up2 (mMk B h k f nu de) 10 (h + 1) (B 10 h + 1)) i = stk B i) ∧ stk (up2 (mMk B h k f nu de) 10 (h + 1) (B 10 h + 1)) h = [(k, f, nu, de)] := by
  obtain ⟨s1, s2, s3, s4, s5⟩ := h0.1.2
  have e10 : ∀ i, i ≠ h + 1 → up2 (mMk B h k f nu de) 10 (h + 1) (B 10 h + 1) 10 i = B 10 i := fun i hi => by rw [up2_i hi, mMk_k _ _ _ _ _ (by omega)]
  have e10s : up2 (mMk B h k f nu de) 10 (h + 1) (B 10 h + 1) 10 (h + 1) = B 10 h + 1 := up2_s
  have em : ∀ j, j ≠ B 10 h → mk1 (up2 (mMk B h k f nu de) 10 (h + 1) (B 10 h + 1)) 6 j = mk1 B 6 j := fun j hj => by rw [mk1_u10, mMk_1 _ _ _ _ _ hj]
  have ems : mk1 (up2 (mMk B h k f nu de) 10 (h + 1) (B 10 h + 1)) 6 (B 10 h) = (k, f, nu, de) := by rw [mk1_u10, mMk_s]
  have e6 : ∀ j, j < 140 → up2 (mMk B h k f nu de) 10 (h + 1) (B 10 h + 1) 6 j < 4 := fun j hj => by rw [up2_k (by decide)]; exact mMk_6 _ _ _ _ _ _ (by omega) (s5 j hj)
  have eo : ∀ a, a < 6 ∨ 10 < a → up2 (mMk B h k f nu de) 10 (h + 1) (B 10 h + 1) a = B a := fun a ha => by rw [up2_f (by omega), mMk_k _ _ _ _ _ (by omega)]
  generalize up2 (mMk B h k f nu de) 10 (h + 1) (B 10 h + 1) = C at *
  have hx := h0.st (h2 := h + 1) eo ⟨by omega, by rw [e10 0 (by omega)]; exact s2, fun i j hi hj => by
    by_cases q : j = h + 1
    · subst q
      rw [e10s]
      by_cases q2 : i = h + 1
      · subst q2; rw [e10s]; exact Nat.le_refl _
      · rw [e10 i q2]
        have := s3 i h (by omega) (Nat.le_refl _)
        omega
    · rw [e10 j q, e10 i (by omega)]; exact s3 i j hi (by omega), fun i hi => by
    by_cases q : i = h + 1
    · subst q
      rw [e10s]
      have := s4 h (Nat.le_refl _)
      omega
    · rw [e10 i q]; exact s4 i (by omega), e6⟩
  refine ⟨hx.1, hx.2, fun i hi => ?_, ?_⟩
  · unfold stk
    rw [e10 i (by omega), e10 (i + 1) (by omega)]
    refine mkL_cg fun j h1 h2 => em j ?_
    have := s3 i (i + 1) (by omega) (by omega)
    have := s3 (i + 1) h (by omega) (Nat.le_refl _)
    omega
  · unfold stk
    rw [e10 h (by omega), e10s, Nat.add_sub_cancel_left]
    simp only [mkL]
    rw [Nat.add_zero, ems]
    rfl
theorem PR.join (h0 : PR n h K tk w A F N Y W0 rs B) (hh : 2 ≤ h) (g1 : tG (stk B (h - 2))) (g2 : tG (stk B (h - 1))) (hl : tLv (stk B (h - 2)) + tLv (stk B (h - 1)) ≤ 12) {all : Bool} : PR n (h - 1) K tk w A F N Y W0 rs (up2 (mMk B h (if all = true then 2 else 3) 0 0 0) 10 (h - 1) (B 10 h + 1)) ∧ rul (up2 (mMk B h (if all = true then 2 else 3) 0 0 0) 10 (h - 1) (B 10 h + 1)) rs = rul B rs ∧ (∀ i, i < h - 2 → stk (up2 (mMk B h (if all = true then 2 else 3) 0 0 0) 10 (h - 1) (B 10 h + 1)) i = stk B i) ∧ stk (up2 (mMk B h (if all = true then 2 else 3) 0 0 0) 10 (h - 1) (B 10 h + 1)) (h - 2) = stk B (h - 2) ++ stk B (h - 1) ++ [(if all = true then 2 else 3, 0, 0, 0)] := by
  obtain ⟨s1, s2, s3, s4, s5⟩ := h0.1.2
  obtain ⟨m, rfl⟩ : ∃ m, h = m + 2 := ⟨h - 2, by omega⟩
  have hk : (if all = true then 2 else 3) < 4 := by cases all <;> decide
  generalize (if all = true then 2 else 3) = k at *
  rw [show m + 2 - 1 = m + 1 from rfl, show m + 2 - 2 = m from rfl] at *
  have e10 : ∀ i, i ≠ m + 1 → up2 (mMk B (m + 2) k 0 0 0) 10 (m + 1) (B 10 (m + 2) + 1) 10 i = B 10 i := fun i hi => by rw [up2_i hi, mMk_k _ _ _ _ _ (by omega)]
  have e10s : up2 (mMk B (m + 2) k 0 0 0) 10 (m + 1) (B 10 (m + 2) + 1) 10 (m + 1) = B 10 (m + 2) + 1 := up2_s
  have em : ∀ j, j ≠ B 10 (m + 2) → mk1 (up2 (mMk B (m + 2) k 0 0 0) 10 (m + 1) (B 10 (m + 2) + 1)) 6 j = mk1 B 6 j := fun j hj => by rw [mk1_u10, mMk_1 _ _ _ _ _ hj]
  have ems : mk1 (up2 (mMk B (m + 2) k 0 0 0) 10 (m + 1) (B 10 (m + 2) + 1)) 6 (B 10 (m + 2)) = (k, 0, 0, 0) := by rw [mk1_u10, mMk_s]
  have e6 : ∀ j, j < 140 → up2 (mMk B (m + 2) k 0 0 0) 10 (m + 1) (B 10 (m + 2) + 1) 6 j < 4 := fun j hj => by rw [up2_k (by decide)]; exact mMk_6 _ _ _ _ _ _ hk (s5 j hj)
  have eo : ∀ a, a < 6 ∨ 10 < a → up2 (mMk B (m + 2) k 0 0 0) 10 (m + 1) (B 10 (m + 2) + 1) a = B a := fun a ha => by rw [up2_f (by omega), mMk_k _ _ _ _ _ (by omega)]
  generalize up2 (mMk B (m + 2) k 0 0 0) 10 (m + 1) (B 10 (m + 2) + 1) = C at *
  have m1 := s3 m (m + 1) (by omega) (by omega)
  have m2 := s3 (m + 1) (m + 2) (by omega) (by omega)
  have g1l := g1.2.1
  have g2l := g2.2.1
  have l1 : (stk B m).length = B 10 (m + 1) - B 10 m := mkL_len _ _ _ _
  have l2 : (stk B (m + 1)).length = B 10 (m + 2) - B 10 (m + 1) := mkL_len _ _ _ _
  have b0 := s4 m (by omega)
  have hx := h0.st (h2 := m + 1) eo ⟨by omega, by rw [e10 0 (by omega)]; exact s2, fun i j hi hj => by
    by_cases q : j = m + 1
    · subst q
      rw [e10s]
      by_cases q2 : i = m + 1
      · subst q2; rw [e10s]; exact Nat.le_refl _
      · rw [e10 i q2]
        have := s3 i (m + 2) (by omega) (Nat.le_refl _)
        omega
    · rw [e10 j q, e10 i (by omega)]; exact s3 i j hi (by omega), fun i hi => by
    by_cases q : i = m + 1
    · subst q
      rw [e10s]
      omega
    · rw [e10 i q]; exact s4 i (by omega), e6⟩
  refine ⟨hx.1, hx.2, fun i hi => ?_, ?_⟩
  · unfold stk
    rw [e10 i (by omega), e10 (i + 1) (by omega)]
    refine mkL_cg fun j h1 h2 => em j ?_
    have := s3 i (i + 1) (by omega) (by omega)
    have := s3 (i + 1) (m + 1) (by omega) (by omega)
    omega
  · have hc : ∀ a mm, a + mm = B 10 (m + 2) → mkL C 6 a mm = mkL B 6 a mm := fun a mm e => mkL_cg fun j _ _ => em j (by omega)
    unfold stk
    rw [e10 m (by omega), e10s, show B 10 (m + 2) + 1 - B 10 m = ((B 10 (m + 1) - B 10 m) + (B 10 (m + 2) - B 10 (m + 1))) + 1 by omega]
    show mkL C 6 (B 10 m) ((B 10 (m + 1) - B 10 m) + (B 10 (m + 2) - B 10 (m + 1))) ++ [mk1 C 6 (B 10 m + ((B 10 (m + 1) - B 10 m) + (B 10 (m + 2) - B 10 (m + 1))))] = _
    rw [hc _ _ (by omega), show B 10 m + ((B 10 (m + 1) - B 10 m) + (B 10 (m + 2) - B 10 (m + 1))) = B 10 (m + 2) by omega, ems, mkL_app, show B 10 m + (B 10 (m + 1) - B 10 m) = B 10 (m + 1) by omega]
theorem PR.join_t (h0 : PR n h K tk w A F N Y W0 rs B) : aJoin B h = (decide (2 ≤ h) && decide (tLv (stk B (h - 2)) + tLv (stk B (h - 1)) ≤ 12)) := by
  obtain ⟨s1, s2, s3, s4, s5⟩ := h0.1.2
  unfold aJoin
  by_cases hh : 2 ≤ h
  · obtain ⟨m, rfl⟩ : ∃ m, h = m + 2 := ⟨h - 2, by omega⟩
    have m1 := s3 m (m + 1) (by omega) (by omega)
    have m2 := s3 (m + 1) (m + 2) (by omega) (by omega)
    have : mLv B (B 10 (m + 2 - 2)) (B 10 (m + 2)) = tLv (stk B m) + tLv (stk B (m + 1)) := by
      show mLv B (B 10 m) (B 10 (m + 2)) = _
      rw [show B 10 (m + 2) = B 10 m + ((B 10 (m + 1) - B 10 m) + (B 10 (m + 2) - B 10 (m + 1))) by omega, mLv_mk, mkL_app, tLv_app, show B 10 m + (B 10 (m + 1) - B 10 m) = B 10 (m + 1) by omega]
      rfl
    rw [this]
    rfl
  · simp [hh]
theorem PR.discard (h0 : PR n h K tk w A F N Y W0 rs B) : PR n (h - 1) K tk w A F N Y W0 rs B := by
  obtain ⟨⟨a, s1, s2, s3, s4, s5⟩, r⟩ := h0
  exact ⟨⟨a, by omega, s2, fun i j hi hj => s3 i j hi (by omega), fun i hi => s4 i (by omega), s5⟩, r⟩
theorem PR.one (h0 : PR n h K tk w A F N Y W0 rs B) (hh : h = 1) : stk B 0 = mkL B 6 0 (B 10 1) := by
  unfold stk
  rw [h0.1.2.2.1, Nat.sub_zero]
theorem PR.acc (h0 : PR n h K tk w A F N Y W0 rs B) (hh : 1 ≤ h) : cAcc h (tLv (stk B (h - 1))) (tDr (stk B (h - 1))) = aAcc B h ∧ bAcc2 h (tDr (stk B (h - 1))) = bAcc B h := by
  unfold cAcc aAcc bAcc2 bAcc
  by_cases q : h = 1
  · subst q
    have e := h0.one rfl
    rw [show (1 : Nat) - 1 = 0 from rfl, e, if_neg (show ¬ 1 ≠ 1 by decide), if_neg (show ¬ 1 ≠ 1 by decide), mDr_mk, ← mLv_mk, Nat.zero_add]
    exact ⟨rfl, rfl⟩
  · rw [if_pos q, if_pos q]
    exact ⟨rfl, by simp [q]⟩
theorem PR.acc0 (hh : h = 0) : (-1 : Int32) = aAcc B h ∧ bAcc B h = false := by
  subst hh
  exact ⟨rfl, rfl⟩
theorem PR.accW (h0 : PR n h K tk w A F N Y W0 rs B) (hh : h = 1) (g : tG (stk B 0)) (hl : tLv (stk B 0) ≤ 12) : smW (B 6) (B 10 h) ∧ smD (B 6) (B 10 h) = 1 := by
  have e := h0.one hh
  rw [e] at g hl
  subst hh
  have := g.2.2.1 0 (by omega)
  exact ⟨smW_mk this.1, by rw [smD_mk]; exact this.2⟩
theorem PR.accept (h0 : PR n h K tk w A F N Y W0 rs B) (hh : h = 1) (g : tG (stk B 0)) (hl : tLv (stk B 0) ≤ 12) (hok : mOk C) (hC : ∀ a, a ≠ 3 → a ≠ 4 → a ≠ 5 → a ≠ 15 → a ≠ 11 → a ≠ 12 → a ≠ 13 → a ≠ 14 → C a = B a) (hr : ∀ u, u < B 10 h → C 11 u = B 6 u ∧ C 12 u = B 7 u ∧ C 13 u = B 8 u ∧ C 14 u = B 9 u) : PR n 0 K tk 0 A F N Y W0 (B 10 h) C ∧ rul C (B 10 h) = stk B 0 ∧ 0 < B 10 h := by
  have e := h0.one hh
  obtain ⟨⟨⟨a1, a2, a3, a4, a5, a6, a7⟩, a8⟩, b, c, d⟩ := h0
  subst hh
  have ec : ∀ a, a = 1 ∨ a = 2 ∨ a = 6 ∨ a = 10 ∨ a = 16 ∨ a = 17 → C a = B a := fun a ha => hC a (by omega) (by omega) (by omega) (by omega) (by omega) (by omega) (by omega) (by omega)
  have e1 := ec 1 (by omega)
  have e2 := ec 2 (by omega)
  have e6 := ec 6 (by omega)
  have e10 := ec 10 (by omega)
  have e16 := ec 16 (by omega)
  have e17 := ec 17 (by omega)
  have er : mkL C 11 0 (B 10 1) = mkL B 6 0 (B 10 1) := mkL_cg fun k _ hk => by
    obtain ⟨r1, r2, r3, r4⟩ := hr k (by omega)
    unfold mk1
    rw [r1, r2, r3, r4]
  have hlen : (stk B 0).length = B 10 1 := by rw [e, mkL_len]
  have hg1 := g.1
  have hg2 := g.2.1
  rw [e, ← er] at g hl
  have a8c := mSk_c (C := C) a8 e6 e10
  refine ⟨⟨⟨⟨hok, a2, by omega, g.ru hl, fun q => absurd q (by omega), by rw [e16]; exact a6, by rw [e17]; exact a7⟩, ⟨by omega, a8c.2.1, fun i j hi hj => a8c.2.2.1 i j hi (by omega), fun i hi => a8c.2.2.2.1 i (by omega), a8c.2.2.2.2⟩⟩, by rw [e17]; exact b, c.cg e1 e2, ⟨d.1, d.2.1, d.2.2.1, fun q => absurd q (by omega)⟩⟩, by rw [e, ← er]; rfl, by omega⟩
theorem PR.keep (h0 : PR n h K tk w A F N Y W0 rs B) {f x : Nat} (hx : x ≤ 2) : PR n h (va_up K f x) tk w A F N Y W0 rs (up2 B 17 f x) ∧ stk (up2 B 17 f x) = stk B ∧ rul (up2 B 17 f x) rs = rul B rs := by
  obtain ⟨⟨⟨a1, a2, a3, a4, a5, a6, a7⟩, a8⟩, b, c, d⟩ := h0
  have hC : ∀ k, k ≠ 17 → up2 B 17 f x k = B k := fun k hk => up2_f hk
  have h17 : ∀ j, up2 B 17 f x 17 j = if j = f then x else B 17 j := fun j => by unfold up2; simp
  generalize up2 B 17 f x = C at *
  have e1 := hC 1 (by omega)
  have e2 := hC 2 (by omega)
  have e6 := hC 6 (by omega)
  have e10 := hC 10 (by omega)
  have e11 := hC 11 (by omega)
  have e12 := hC 12 (by omega)
  have e13 := hC 13 (by omega)
  have e14 := hC 14 (by omega)
  have e16 := hC 16 (by omega)
  have hok : mOk C := by
    unfold mOk
    rw [e1, e2, hC 3 (by omega), hC 4 (by omega), hC 15 (by omega)]
    exact a1
  refine ⟨⟨⟨⟨hok, a2, a3, mRu_c a4 e11 e12 e13 e14, a5, by rw [e16]; exact a6, fun g hg => ?_⟩, mSk_c a8 e6 e10⟩, fun g hg => ?_, c.cg e1 e2, d.cg e1 e2 e16 e11 e12 e13 e14⟩, ?_, mkL_c 11 _ _ e11 e12 e13 e14⟩
  · rw [h17]; split
    · exact hx
    · exact a7 g hg
  · rw [h17]; unfold va_up; split
    · rfl
    · exact b g hg
  · funext i
    unfold stk
    rw [e10]
    exact mkL_c 6 _ _ e6 (hC 7 (by omega)) (hC 8 (by omega)) (hC 9 (by omega))
/-- only the array 16 is other -/
theorem PR.r16 (h0 : PR n h K tk w A F N Y W0 rs B) {tk2 w2 : Nat} {A2 : Nat → Nat → Nat} (hC : ∀ k, k ≠ 16 → C k = B k) (hw : w2 ≤ 4) (hrs : 0 < w2 → 0 < rs) (h16 : ∀ v, v < 4 → C 16 v ≤ 12) (hR : RunR n tk2 w2 rs A2 C) : PR n h K tk2 w2 A2 F N Y W0 rs C ∧ stk C = stk B ∧ rul C rs = rul B rs := by
  obtain ⟨⟨⟨a1, a2, a3, a4, a5, a6, a7⟩, a8⟩, b, c, d⟩ := h0
  have e1 := hC 1 (by omega)
  have e2 := hC 2 (by omega)
  have e6 := hC 6 (by omega)
  have e10 := hC 10 (by omega)
  have e11 := hC 11 (by omega)
  have e12 := hC 12 (by omega)
  have e13 := hC 13 (by omega)
  have e14 := hC 14 (by omega)
  have e17 := hC 17 (by omega)
  have hok : mOk C := by
    unfold mOk
    rw [e1, e2, hC 3 (by omega), hC 4 (by omega), hC 15 (by omega)]
    exact a1
  refine ⟨⟨⟨⟨hok, a2, hw, mRu_c a4 e11 e12 e13 e14, hrs, h16, by rw [e17]; exact a7⟩, mSk_c a8 e6 e10⟩, by rw [e17]; exact b, c.cg e1 e2, hR⟩, ?_, mkL_c 11 _ _ e11 e12 e13 e14⟩
  funext i
  unfold stk
  rw [e10]
  exact mkL_c 6 _ _ e6 (hC 7 (by omega)) (hC 8 (by omega)) (hC 9 (by omega))
theorem PR.start (h0 : PR n h K tk w A F N Y W0 rs B) {A2 : Nat → Nat → Nat} (hrs : 0 < rs) {x : Int32} (hb : bStart rs x = true) (hC : ∀ k, k ≠ 16 → C k = B k) (hC0 : ∀ v, v < 4 → C 16 v = 0) (hA1 : ∀ v, v < 4 → A2 1 v = 0) (hA2 : ∀ j, j < 144 → A2 2 j = 0) : PR n h K n (cN x) A2 F N Y W0 rs C ∧ stk C = stk B ∧ rul C rs = rul B rs := by
  have hn := h0.1.1.2.1
  unfold bStart at hb
  simp only [Bool.and_eq_true, decide_eq_true_eq] at hb
  obtain ⟨v, hv, rfl⟩ := zisR_nat hb.1.2 (by decide)
  rw [cN_n (by omega)]
  have hv0 : 0 < v := Nat.pos_of_ne_zero fun q => hb.2 (by rw [q]; exact nI_0)
  exact h0.r16 hC (by omega) (fun _ => hrs) (fun u hu => by rw [hC0 u hu]; omega) ⟨hn, fun j hj => by rw [hA2 j hj]; omega, fun u hu => by rw [hA1 u hu]; omega, fun _ => ⟨rfl, NtR.none hn hA2 hC0 hv0 (by omega), fun u hu => by rw [hA1 u hu, hC0 u hu], fun u hu => by rw [hC0 u (by omega)]; omega⟩⟩
theorem start_t (n : Nat) (hrs : 0 < rs) (x : Int32) : aStart n 1 x = aStart n rs x ∧ bStart 1 x = bStart rs x := by
  unfold aStart bStart
  rw [if_neg (show ¬ 1 = 0 by decide), if_neg (show ¬ rs = 0 by omega)]
  refine ⟨rfl, ?_⟩
  simp [show rs ≠ 0 by omega]
theorem PR.tkn (h0 : PR n h K tk w A F N Y W0 rs B) (hw : 0 < w) : tk = n := (h0.2.2.2.2.2.2 hw).1
theorem PR.work (h0 : PR n h K tk w A F N Y W0 rs B) {x : Int32} (hb : bWork n w (B 16) x = true) : PR n h K tk w (up2 (wB A (cN x + A 1 (cN x) * w) (xHo F N (rul B rs)) (cN x + A 1 (cN x) * w)) 1 (cN x) (A 1 (cN x) + 1)) F N Y W0 rs (up2 B 16 (cN x) (B 16 (cN x) + 1)) ∧ stk (up2 B 16 (cN x) (B 16 (cN x) + 1)) = stk B ∧ rul (up2 B 16 (cN x) (B 16 (cN x) + 1)) rs = rul B rs := by
  have hP := h0
  obtain ⟨⟨⟨a1, a2, a3, a4, a5, a6, a7⟩, a8⟩, b, c, d⟩ := h0
  unfold bWork at hb
  simp only [Bool.and_eq_true, decide_eq_true_eq] at hb
  have hw : 0 < w := by omega
  obtain ⟨d1, d2, d3, d4⟩ := d
  obtain ⟨f1, f2, f3, f4⟩ := d4 hw
  obtain ⟨v, hv, rfl⟩ := zisR_nat hb.1.2 (by omega)
  rw [cN_n (by omega)] at *
  have hlt : B 16 v < mTk n w v := Nat.lt_of_le_of_ne (f4 v hv) hb.2
  have ht := (mTk_iff hw a3 hv).mp hlt
  rw [f3 v (by omega)]
  have hv12 : B 16 v + 1 ≤ 12 := by
    have : B 16 v ≤ B 16 v * w := Nat.le_mul_of_pos_right _ hw
    omega
  refine hP.r16 (fun k hk => up2_f hk) a3 (fun _ => a5 hw) (fun u hu => ?_) ⟨d1, fun j hj => ?_, fun u hu => ?_, fun _ => ⟨f1, f2.work hw a2 hv rfl ht (fun q r hq hr => hP.ho hq hr), fun u hu => ?_, fun u hu => ?_⟩⟩
  · by_cases q : u = v
    · subst q; rw [up2_s]; exact hv12
    · rw [up2_i q]; exact a6 u hu
  · rw [up2_k (by decide)]
    unfold wB
    split
    · exact Nat.le_refl _
    · exact d2 j hj
  · by_cases q : u = v
    · subst q; rw [up2_s]; exact hv12
    · rw [up2_i q]
      unfold wB
      rw [if_neg (fun z => absurd z.1 (by decide))]
      exact d3 u hu
  · by_cases q : u = v
    · subst q; rw [up2_s, up2_s]
    · rw [up2_i q, up2_i q]
      unfold wB
      rw [if_neg (fun z => absurd z.1 (by decide))]
      exact f3 u hu
  · by_cases q : u = v
    · subst q; rw [up2_s]; omega
    · rw [up2_i q]; exact f4 u hu
theorem PR.crash (h0 : PR n h K tk w A F N Y W0 rs B) {A2 : Nat → Nat → Nat} {x : Int32} (hw : 0 < w) (hx : zisR w x = true) (h1 : A2 1 = A 1) (hz : ∀ q t, q < t → t < 12 → (∃ m, m < A 1 (cN x) ∧ t = cN x + m * w) → A2 2 (t * 12 + q) = 0) (hs : ∀ q t, q < t → t < 12 → (¬ ∃ m, m < A 1 (cN x) ∧ t = cN x + m * w) → A2 2 (t * 12 + q) = A 2 (t * 12 + q)) (hle : ∀ j, j < 144 → A2 2 j ≤ 1) : PR n h K tk w (up2 A2 1 (cN x) 0) F N Y W0 rs (up2 B 16 (cN x) 0) ∧ stk (up2 B 16 (cN x) 0) = stk B ∧ rul (up2 B 16 (cN x) 0) rs = rul B rs := by
  have hP := h0
  obtain ⟨⟨⟨a1, a2, a3, a4, a5, a6, a7⟩, a8⟩, b, c, d⟩ := h0
  obtain ⟨d1, d2, d3, d4⟩ := d
  obtain ⟨f1, f2, f3, f4⟩ := d4 hw
  obtain ⟨v, hv, rfl⟩ := zisR_nat hx (by omega)
  rw [cN_n (by omega)] at *
  rw [f3 v (by omega)] at hz hs
  refine hP.r16 (fun k hk => up2_f hk) a3 (fun _ => a5 hw) (fun u hu => ?_) ⟨d1, fun j hj => ?_, fun u hu => ?_, fun _ => ⟨f1, f2.crash hw a2 rfl hz hs hv, fun u hu => ?_, fun u hu => ?_⟩⟩
  · by_cases q : u = v
    · subst q; rw [up2_s]; omega
    · rw [up2_i q]; exact a6 u hu
  · rw [up2_k (by decide)]; exact hle j hj
  · by_cases q : u = v
    · subst q; rw [up2_s]; omega
    · rw [up2_i q, h1]; exact d3 u hu
  · by_cases q : u = v
    · subst q; rw [up2_s, up2_s]
    · rw [up2_i q, up2_i q, h1]; exact f3 u hu
  · by_cases q : u = v
    · subst q; rw [up2_s]; omega
    · rw [up2_i q]; exact f4 u hu
/-- the run's other arrays do not matter -/
theorem PR.ru (h0 : PR n h K tk w A F N Y W0 rs B) {A2 : Nat → Nat → Nat} (h1 : A2 1 = A 1) (h2 : A2 2 = A 2) : PR n h K tk w A2 F N Y W0 rs B := by
  obtain ⟨a, b, c, d1, d2, d3, d4⟩ := h0
  exact ⟨a, b, c, d1, by rw [h2]; exact d2, by rw [h1]; exact d3, fun hw => ⟨(d4 hw).1, (d4 hw).2.1.cg h2 rfl fun _ _ _ _ => rfl, by rw [h1]; exact (d4 hw).2.2.1, (d4 hw).2.2.2⟩⟩
theorem PR.hts (h0 : PR n h K tk w A F N Y W0 rs B) : ∀ v, v < w → ∀ k, k < A 1 v → v + k * w < 12 := by
  intro v hv k hk
  have hw : 0 < w := by omega
  obtain ⟨f1, f2, f3, f4⟩ := h0.2.2.2.2.2.2 hw
  have a3 := h0.1.1.2.2.1
  have a2 := h0.1.1.2.1
  rw [f3 v (by omega)] at hk
  have := (mTk_iff (n := n) (d := k) hw a3 hv).mp (Nat.lt_of_lt_of_le hk (f4 v hv))
  omega
theorem PR.hnt (h0 : PR n h K tk w A F N Y W0 rs B) : (∀ f, f ≤ 1 → Y n f ≤ 12) ∧ ∀ f, f ≤ 1 → N n f + (if W0 n f = false ∧ 0 < N n f then 1 else 0) ≤ Y n f := by
  obtain ⟨⟨⟨a1, a2, a3, a4, a5, a6, a7⟩, a8⟩, b, ⟨c1, c2, c3, c4, c5⟩, d⟩ := h0
  refine ⟨fun f hf => by rw [(c4 f hf).2.1]; exact a1.2.1 _ (by omega), fun f hf => ?_⟩
  have hdr := c4 f hf
  have := nfS_len (fun i => B 1 (12 * (24 + f) + i)) (B 2 (24 + f))
  rw [hdr.2.1]
  have e : N n f = (nfS (fun i => B 1 (12 * (24 + f) + i)) (B 2 (24 + f))).1.length := hdr.1.1
  by_cases q : W0 n f = false ∧ 0 < N n f
  · rw [if_pos q]
    rw [if_pos ⟨by have := hdr.2.2 q.2; rw [q.1] at this; simpa using this.symm, by omega⟩] at this
    omega
  · rw [if_neg q]; omega
theorem PR.type_t (h0 : PR n h K tk w A F N Y W0 rs B) (x : Int32) (c0 : Nat) : cType (Y n) x c0 = aType (fun f => B 2 (24 + f)) x c0 := by
  unfold cType aType
  by_cases hx : zisF x = true
  · obtain ⟨f, hf, rfl⟩ := zisF_nat hx
    rw [cN_n (by omega), (h0.2.2.1.2.2.2.1 f hf).2.1]
    have := h0.1.1.1.2.1 (24 + f) (by omega)
    rw [show decide (B 2 (24 + f) < 12) = decide (B 2 (24 + f) ≠ 12) from decide_eq_decide.mpr ⟨fun _ => by omega, fun _ => by omega⟩]
  · simp [hx]
/-- at the start -/
theorem PR.init : PR 0 0 (fun _ => 0) 0 0 (fun _ _ => 0) (fun _ _ _ => 0) (fun _ _ => 0) (fun _ _ => 0) (fun _ _ => false) 0 (fun _ _ => 0) := by
  refine ⟨⟨⟨⟨fun _ _ => Nat.succ_pos _, fun _ _ => Nat.zero_le _, fun _ _ => Nat.succ_pos _, fun _ _ => Nat.zero_le _, fun _ _ => Nat.zero_le _⟩, by omega, by omega, mRu_0 _, fun h => absurd h (by omega), fun _ _ => Nat.zero_le _, fun _ _ => Nat.zero_le _⟩, by omega, rfl, fun _ _ _ _ => Nat.le_refl _, fun _ _ => Nat.zero_le _, fun _ _ => Nat.succ_pos _⟩, fun _ _ => rfl, ⟨fun _ _ => Nat.zero_le _, fun _ _ _ _ => Nat.succ_pos _, fun i f hi _ => absurd hi (by omega), fun f _ => ⟨⟨rfl, fun j hj => absurd hj (Nat.not_lt_zero j)⟩, rfl, fun q => absurd q (Nat.lt_irrefl 0)⟩, fun _ _ _ _ _ => ⟨rfl, rfl⟩⟩, ⟨by omega, fun _ _ => Nat.zero_le _, fun _ _ => Nat.zero_le _, fun q => absurd q (by omega)⟩⟩
end ZPS
