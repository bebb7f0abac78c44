/-! The class's runs against the reference's. -/
theorem zsum_eq {f g : Nat → Nat} : ∀ {k : Nat}, (∀ i, i < k → f i ≤ g i) → zsum f k ≤ zsum g k ∧ (zsum f k = zsum g k ↔ ∀ i, i < k → f i = g i)
  | 0, _ => ⟨Nat.le_refl _, ⟨fun _ i hi => absurd hi (by omega), fun _ => rfl⟩⟩
  | k + 1, h => by
    have ih := zsum_eq (k := k) fun i hi => h i (by omega)
    have hk := h k (by omega)
    simp only [zsum]
    refine ⟨by omega, ⟨fun e i hi => ?_, fun e => ?_⟩⟩
    · by_cases q : i = k
      · subst q; omega
      · exact ih.2.mp (by omega) i (by omega)
    · have := ih.2.mpr fun i hi => e i (by omega)
      have := e k (by omega)
      omega
theorem zsum_cg {f g : Nat → Nat} {k : Nat} (h : ∀ i, i < k → f i = g i) : zsum f k = zsum g k := ((zsum_eq fun i hi => Nat.le_of_eq (h i hi)).2).mpr h
theorem zsum_mTk {n w : Nat} (hw : 0 < w) (hw4 : w ≤ 4) : zsum (mTk n w) w = n := by
  rw [zsum_cg (g := fun v => (n + (w - 1 - v)) / w) fun v hv => mTk_eq hw hw4 hv n]
  have : w = 1 ∨ w = 2 ∨ w = 3 ∨ w = 4 := by omega
  rcases this with rfl | rfl | rfl | rfl <;> simp only [zsum] <;> omega
theorem done_t {n w : Nat} {d : Nat → Nat} (hw : 0 < w) (hw4 : w ≤ 4) (hd : ∀ v, v < w → d v ≤ mTk n w v) : decide (zsum d w = n) = zall (fun v => decide (d v = mTk n w v)) w := by
  have h := zsum_eq hd
  rw [zsum_mTk hw hw4] at h
  rw [Bool.eq_iff_iff, decide_eq_true_iff, zall_iff, h.2]
  exact ⟨fun q i hi => decide_eq_true (q i hi), fun q i hi => of_decide_eq_true (q i hi)⟩
theorem mTk_iff {n w v d : Nat} (hw : 0 < w) (hw4 : w ≤ 4) (hv : v < w) : d < mTk n w v ↔ v + d * w < n := by
  refine ⟨mTk_lt hw hw4 hv, fun h => ?_⟩
  rw [mTk_eq hw hw4 hv]
  refine (Nat.le_div_iff_mul_le hw).mpr ?_
  rw [Nat.succ_mul]
  omega
/-- the notes are those of the reference -/
def NtR (A B : Nat → Nat → Nat) (n w rs : Nat) : Prop := ∀ q r, q < r → r < n → rNt A q r = mFd B w rs q r
theorem mFd_lt {B : Nat → Nat → Nat} {w rs q r : Nat} (h : q < r) : mFd B w rs q r = (decide (r / w < B 16 (r % w)) && mHo B rs q r) := by
  unfold mFd; rw [if_pos h, if_pos h]
theorem rNt_wB {A : Nat → Nat → Nat} {t v x q r k : Nat} {ho : Nat → Nat → Bool} (hq : q < 12) : rNt (up2 (wB A t ho k) 1 v x) q r = ((decide (r = t) && decide (q < k) && ho q t) || rNt A q r) := by
  unfold rNt
  rw [up2_k (by decide)]
  unfold wB
  have h1 : (r * 12 + q) / 12 = r := by omega
  have h2 : (r * 12 + q) % 12 = q := by omega
  rw [h1, h2]
  by_cases a : r = t
  · subst a
    by_cases b : q < k
    · by_cases c : ho q r = true
      · simp [b, c]
      · simp [b, c]
    · simp [b]
  · simp [a]
theorem NtR.work {A B : Nat → Nat → Nat} {n w rs v d : Nat} {ho : Nat → Nat → Bool} (h : NtR A B n w rs) (hw : 0 < w) (hn : n ≤ 12) (hv : v < w) (hd : B 16 v = d) (ht : v + d * w < n) (hh : ∀ q r, q < n → r < n → ho q r = mHo B rs q r) : NtR (up2 (wB A (v + d * w) ho (v + d * w)) 1 v (d + 1)) (up2 B 16 v (d + 1)) n w rs := by
  intro q r hq hr
  rw [rNt_wB (by omega), h q r hq hr, mFd_lt hq, mFd_lt hq, mHo_up16]
  have hm := Nat.div_add_mod r w
  have hml := Nat.mod_lt r hw
  by_cases e : r % w = v
  · rw [e, up2_s, hd]
    by_cases e2 : r / w = d
    · have : r = v + d * w := by rw [← e2, Nat.mul_comm, ← e]; omega
      rw [← this, hh q r (by omega) hr, e2]
      simp [hq]
    · have : ¬ r = v + d * w := fun q => e2 (by
        rw [q, Nat.add_mul_div_right _ _ hw, Nat.div_eq_of_lt hv, Nat.zero_add])
      have h3 : (r / w < d + 1) = (r / w < d) := propext ⟨fun _ => by omega, fun _ => by omega⟩
      simp only [h3]
      simp [this]
  · have : ¬ r = v + d * w := fun q => e (by rw [q, Nat.add_mul_mod_self_right, Nat.mod_eq_of_lt hv])
    rw [up2_i e]
    simp [this]
theorem NtR.crash {A B C : Nat → Nat → Nat} {n w rs v d : Nat} (h : NtR A B n w rs) (hw : 0 < w) (hn : n ≤ 12) (hd : B 16 v = d) (h0 : ∀ q t, q < t → t < 12 → (∃ m, m < d ∧ t = v + m * w) → C 2 (t * 12 + q) = 0) (h1 : ∀ q t, q < t → t < 12 → (¬ ∃ m, m < d ∧ t = v + m * w) → C 2 (t * 12 + q) = A 2 (t * 12 + q)) (hv : v < w) : NtR (up2 C 1 v 0) (up2 B 16 v 0) n w rs := by
  intro q r hq hr
  have hx : rNt (up2 C 1 v 0) q r = rNt C q r := by unfold rNt; rw [up2_k (by decide)]
  rw [hx, mFd_lt hq, mHo_up16]
  have ho := h q r hq hr
  rw [mFd_lt hq] at ho
  have hm := Nat.div_add_mod r w
  by_cases m : ∃ m, m < d ∧ r = v + m * w
  · have hz := h0 q r hq (by omega) m
    obtain ⟨k, hk, e⟩ := m
    have e1 : r % w = v := by rw [e, Nat.add_mul_mod_self_right, Nat.mod_eq_of_lt hv]
    rw [e1, up2_s]
    simp [rNt, hz]
  · have hz := h1 q r hq (by omega) m
    have hy : rNt C q r = rNt A q r := by unfold rNt; rw [hz]
    rw [hy, ho]
    by_cases e : r % w = v
    · rw [e, up2_s, hd]
      have : ¬ r / w < d := fun k => m ⟨r / w, k, by rw [Nat.mul_comm, ← e]; omega⟩
      simp [this]
    · rw [up2_i e]
theorem NtR.none {A B : Nat → Nat → Nat} {n w rs : Nat} (hn : n ≤ 12) (hA : ∀ j, j < 144 → A 2 j = 0) (hB : ∀ v, v < 4 → B 16 v = 0) (hw : 0 < w) (hw4 : w ≤ 4) : NtR A B n w rs := by
  intro q r hq hr
  rw [mFd_lt hq, hB _ (Nat.lt_of_lt_of_le (Nat.mod_lt r hw) hw4)]
  simp [rNt, hA (r * 12 + q) (by omega)]
theorem NtR.cg {A A2 B B2 : Nat → Nat → Nat} {n w rs : Nat} (h : NtR A B n w rs) (hA : A2 2 = A 2) (h16 : B2 16 = B 16) (hh : ∀ q r, q < n → r < n → mHo B2 rs q r = mHo B rs q r) : NtR A2 B2 n w rs := by
  intro q r hq hr
  rw [mFd_lt hq, h16, hh q r (by omega) hr, ← mFd_lt hq, ← h q r hq hr]
  exact rNt_eq hA q r
theorem zpairs_cg {f g : Nat → Nat → Bool} : ∀ {n : Nat}, (∀ q r, q < r → r < n → f q r = g q r) → zpairs f n = zpairs g n
  | 0, _ => rfl
  | n + 1, h => by
    simp only [zpairs]
    rw [zpairs_cg fun q r a b => h q r a (by omega), zcnt_congr fun q hq => h q n hq (by omega)]
theorem pairs_t {A B : Nat → Nat → Nat} {n w rs : Nat} (h : 0 < w → NtR A B n w rs) : aPairs n w (rNt A) = aPairs n w (mFd B w rs) := by
  unfold aPairs
  by_cases hw : w = 0
  · rw [if_pos hw, if_pos hw]
  · rw [if_neg hw, if_neg hw, zpairs_cg (h (by omega))]
theorem cN_n {j : Nat} (h : j < 2 ^ 31) : cN (nI j) = j := nI_clamp h
theorem found_t {A B : Nat → Nat → Nat} {n w rs : Nat} (hn : n ≤ 12) (h : 0 < w → NtR A B n w rs) (x y : Int32) : cFound n w A x y = aFound n w (mFd B w rs) x y := by
  unfold cFound aFound
  by_cases hw : w = 0
  · rw [if_pos hw, if_pos hw]
  rw [if_neg hw, if_neg hw]
  by_cases hx : zisR n x = true ∧ zisR n y = true ∧ x ≠ y
  · rw [if_pos hx, if_pos (by unfold aTwo; simp [hx])]
    obtain ⟨j, hj, rfl⟩ := zisR_nat hx.1 (by omega)
    obtain ⟨k, hk, rfl⟩ := zisR_nat hx.2.1 (by omega)
    rw [cN_n (by omega), cN_n (by omega)]
    have hne : j ≠ k := fun e => hx.2.2 (by rw [e])
    by_cases hlt : j < k
    · rw [Nat.min_eq_left (by omega), Nat.max_eq_right (by omega), h (by omega) j k hlt hk]
    · rw [Nat.min_eq_right (by omega), Nat.max_eq_left (by omega), h (by omega) k j (by omega) hj, mFd_symm]
  · rw [if_neg hx, if_neg (by unfold aTwo; simp only [Bool.and_eq_true, decide_eq_true_eq]; exact fun q => hx ⟨q.1.1, q.1.2, q.2⟩)]
theorem rF_t {A B : Nat → Nat → Nat} {n w rs : Nat} (h : NtR A B n w rs) {a b : Nat} (ha : a < n) (hb : b < n) (hab : a ≠ b) : rF A a b = mFd B w rs a b := by
  unfold rF
  by_cases q : a < b
  · rw [if_pos q]; exact h a b q hb
  · rw [if_neg q, mFd_symm]; exact h b a (by omega) ha
theorem mCn_cg {n : Nat} {F G : Nat → Nat → Bool} (h : ∀ a b, a < n → b < n → a ≠ b → F a b = G a b) (x y : Nat) : mCn n F x y = mCn n G x y := by
  refine propext ⟨fun q g hg => q g fun a b ha hb e => ?_, fun q g hg => q g fun a b ha hb e => ?_⟩
  · by_cases hab : a = b
    · rw [hab]
    · exact hg a b ha hb (by rw [← h a b ha hb hab]; exact e)
  · by_cases hab : a = b
    · rw [hab]
    · exact hg a b ha hb (by rw [h a b ha hb hab]; exact e)
theorem lbl_cg {n : Nat} {F G : Nat → Nat → Bool} (h : ∀ a b, a < n → b < n → a ≠ b → F a b = G a b) : lbl n F = lbl n G := by
  funext r
  unfold lbl
  congr 1
  funext k
  simp only [mCn_cg h]
theorem lbl_sp (n : Nat) (F : Nat → Nat → Bool) (r : Nat) : mCn n F (lbl n F r) r ∧ ∀ j, j < lbl n F r → ¬ mCn n F j r := by
  have hx : ∃ k, mCn n F k r ∧ ∀ j, j < k → ¬ mCn n F j r := by
    have : ∀ m, (∃ k, k ≤ m ∧ mCn n F k r) → ∃ k, mCn n F k r ∧ ∀ j, j < k → ¬ mCn n F j r := by
      intro m
      induction m with
      | zero =>
        rintro ⟨k, hk, hc⟩
        exact ⟨k, hc, fun j hj => absurd hj (by omega)⟩
      | succ m ih =>
        rintro ⟨k, hk, hc⟩
        by_cases q : ∃ k, k ≤ m ∧ mCn n F k r
        · exact ih q
        · exact ⟨k, hc, fun j hj hj2 => q ⟨j, by omega, hj2⟩⟩
    exact this r ⟨r, Nat.le_refl _, fun g _ => rfl⟩
  exact Classical.epsilon_spec hx
theorem mCn_tr {n : Nat} {F : Nat → Nat → Bool} {a b c : Nat} (h : mCn n F a b) (h2 : mCn n F b c) : mCn n F a c := fun g hg => (h g hg).trans (h2 g hg)
theorem mCn_sy {n : Nat} {F : Nat → Nat → Bool} {a b : Nat} (h : mCn n F a b) : mCn n F b a := fun g hg => (h g hg).symm
theorem lbl_le (n : Nat) (F : Nat → Nat → Bool) (r : Nat) : lbl n F r ≤ r := Nat.le_of_not_lt fun h => (lbl_sp n F r).2 r h fun g _ => rfl
theorem lbl_lbl (n : Nat) (F : Nat → Nat → Bool) (r : Nat) : lbl n F (lbl n F r) = lbl n F r := by
  have h1 := lbl_sp n F r
  have h2 := lbl_sp n F (lbl n F r)
  have h3 := lbl_le n F (lbl n F r)
  exact Nat.le_antisymm h3 (Nat.le_of_not_lt fun h => h1.2 _ h (mCn_tr h2.1 h1.1))
theorem cluster_t {A B : Nat → Nat → Nat} {n w rs : Nat} (hw4 : w ≤ 4) (h : 0 < w → NtR A B n w rs) (h16 : 0 < w → ∀ v, v < w → A 1 v = B 16 v) (hd : 0 < w → ∀ v, v < w → B 16 v ≤ mTk n w v) (x : Int32) : aCluster n w (decide (zsum (A 1) w = n)) (rF A) x = aCluster n w (mDn B n w) (mFd B w rs) x := by
  by_cases hw : w = 0
  · unfold aCluster; rw [if_pos hw, if_pos hw]
  have hw0 : 0 < w := by omega
  have e1 : decide (zsum (A 1) w = n) = mDn B n w := by rw [zsum_cg (h16 hw0)]; exact done_t hw0 hw4 (hd hw0)
  have e2 : lbl n (rF A) = lbl n (mFd B w rs) := lbl_cg fun a b => rF_t (h hw0)
  unfold aCluster
  rw [e1, e2]
theorem crash_t {A B : Nat → Nat → Nat} {n w : Nat} (hw4 : w ≤ 4) (h16 : 0 < w → ∀ v, v < w → A 1 v = B 16 v) (hd : 0 < w → ∀ v, v < w → B 16 v ≤ mTk n w v) (x : Int32) : cCrash n w A x = aCrash w (mDn B n w) (B 16) x ∧ bCrash n w A x = (decide (w ≠ 0) && zisR w x && !(mDn B n w)) := by
  by_cases hw : w = 0
  · subst hw; exact ⟨by unfold cCrash aCrash; rw [if_pos rfl, if_pos rfl], by unfold bCrash; simp⟩
  have hw0 : 0 < w := by omega
  have e1 : decide (zsum (A 1) w = n) = mDn B n w := by rw [zsum_cg (h16 hw0)]; exact done_t hw0 hw4 (hd hw0)
  constructor
  · unfold cCrash aCrash
    rw [if_neg hw, if_neg hw]
    by_cases hx : zisR w x = false
    · rw [if_pos hx, if_pos hx]
    rw [if_neg hx, if_neg hx]
    obtain ⟨j, hj, rfl⟩ := zisR_nat (Bool.of_not_eq_false hx) (by omega)
    rw [cN_n (by omega), h16 hw0 j hj, ← e1]
    by_cases e : zsum (A 1) w = n
    · rw [if_pos e, if_pos (decide_eq_true e)]
    · rw [if_neg e, if_neg (fun q => e (of_decide_eq_true q))]
  · unfold bCrash
    rw [← e1]
    simp
theorem work_t {A B : Nat → Nat → Nat} {n w rs : Nat} {ho : Nat → Nat → Bool} (hw4 : w ≤ 4) (h16 : 0 < w → ∀ v, v < w → A 1 v = B 16 v) (hd : 0 < w → ∀ v, v < w → B 16 v ≤ mTk n w v) (hh : ∀ q r, q < n → r < n → ho q r = mHo B rs q r) (x : Int32) : cWork n w A ho x = aWork n w (B 16) (mHo B rs) x ∧ bWork2 n w A x = bWork n w (B 16) x := by
  by_cases hw : w = 0
  · subst hw; exact ⟨by unfold cWork aWork; rw [if_pos rfl, if_pos rfl], by unfold bWork2 bWork; simp⟩
  have hw0 : 0 < w := by omega
  unfold cWork aWork bWork2 bWork
  rw [if_neg hw, if_neg hw]
  by_cases hx : zisR w x = false
  · rw [if_pos hx, if_pos hx, hx]; simp
  rw [if_neg hx, if_neg hx]
  obtain ⟨j, hj, rfl⟩ := zisR_nat (Bool.of_not_eq_false hx) (by omega)
  rw [cN_n (by omega), h16 hw0 j hj]
  have i1 := mTk_iff (n := n) (d := B 16 j) hw0 hw4 hj
  have i2 := hd hw0 j hj
  by_cases e : B 16 j = mTk n w j
  · have : n ≤ j + B 16 j * w := Nat.le_of_not_lt fun q => by have := i1.mpr q; omega
    rw [if_pos this, if_pos e]
    exact ⟨rfl, by simp [e, show ¬ j + mTk n w j * w < n by rw [← e]; omega]⟩
  · have : j + B 16 j * w < n := i1.mp (by omega)
    rw [if_neg (by omega), if_neg e]
    exact ⟨by rw [zcnt_congr fun q hq => hh q _ (by omega) this], by simp [e, this]⟩
