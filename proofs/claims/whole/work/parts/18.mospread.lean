/-- only the scratch arrays and the labels are other -/
def mS8 (A B : Nat → Nat → Nat) : Prop := mOk B ∧ ∀ k, k ≠ 3 → k ≠ 4 → k ≠ 5 → k ≠ 15 → k ≠ 18 → B k = A k
theorem mS.s8 {A B : Nat → Nat → Nat} (h : mS A B) : mS8 A B := ⟨h.1, fun k a b c d _ => h.2 k a b c d⟩
theorem mS8.rf {A : Nat → Nat → Nat} (h : mOk A) : mS8 A A := ⟨h, fun _ _ _ _ _ _ => rfl⟩
theorem mS8.tr {A B C : Nat → Nat → Nat} (h1 : mS8 A B) (h2 : mS8 B C) : mS8 A C := ⟨h2.1, fun k a b c d e => (h2.2 k a b c d e).trans (h1.2 k a b c d e)⟩
theorem mS8.tx {A B : Nat → Nat → Nat} (h : mS8 A B) (rr f : Nat) : mTx B rr f = mTx A rr f := by
  unfold mTx
  rw [h.2 1 (by decide) (by decide) (by decide) (by decide) (by decide), h.2 2 (by decide) (by decide) (by decide) (by decide) (by decide)]
theorem mS8.lf {A B : Nat → Nat → Nat} (h : mS8 A B) (j rr k : Nat) : mLf B j rr k = mLf A j rr k := by
  unfold mLf
  rw [h.2 11 (by decide) (by decide) (by decide) (by decide) (by decide), h.2 12 (by decide) (by decide) (by decide) (by decide) (by decide), h.2 13 (by decide) (by decide) (by decide) (by decide) (by decide), h.2 14 (by decide) (by decide) (by decide) (by decide) (by decide), h.tx, h.tx]
theorem mS8.ho {A B : Nat → Nat → Nat} (h : mS8 A B) (rs j rr : Nat) : mHo B rs j rr = mHo A rs j rr := by
  unfold mHo
  rw [h.2 11 (by decide) (by decide) (by decide) (by decide) (by decide), show mLf B j rr = mLf A j rr from funext (h.lf j rr)]
theorem mS8.fd {A B : Nat → Nat → Nat} (h : mS8 A B) (w rs j k : Nat) : mFd B w rs j k = mFd A w rs j k := by
  unfold mFd
  rw [h.2 16 (by decide) (by decide) (by decide) (by decide) (by decide), h.ho]
theorem mS8.ru {A B : Nat → Nat → Nat} (h : mS8 A B) {rs : Nat} (hR : mRu A rs) : mRu B rs := by
  unfold mRu at hR ⊢
  rw [h.2 11 (by decide) (by decide) (by decide) (by decide) (by decide), h.2 12 (by decide) (by decide) (by decide) (by decide) (by decide), h.2 13 (by decide) (by decide) (by decide) (by decide) (by decide), h.2 14 (by decide) (by decide) (by decide) (by decide) (by decide)]
  exact hR
theorem mS8.dd {A B : Nat → Nat → Nat} (h : mS8 A B) (hd : ∀ v, v < 4 → A 16 v ≤ 12) : ∀ v, v < 4 → B 16 v ≤ 12 := by
  rw [h.2 16 (by decide) (by decide) (by decide) (by decide) (by decide)]
  exact hd
theorem mS8_up18 {A B : Nat → Nat → Nat} {i x : Nat} (h : mS8 A B) : mS8 A (up2 B 18 i x) := by
  refine ⟨⟨fun j hj => ?_, fun j hj => ?_, fun j hj => ?_, fun j hj => ?_, fun j hj => ?_⟩, fun k h3 h4 h5 h15 h18 => ?_⟩
  · rw [up2_k (by decide)]; exact h.1.1 j hj
  · rw [up2_k (by decide)]; exact h.1.2.1 j hj
  · rw [up2_k (by decide)]; exact h.1.2.2.1 j hj
  · rw [up2_k (by decide)]; exact h.1.2.2.2.1 j hj
  · rw [up2_k (by decide)]; exact h.1.2.2.2.2 j hj
  · funext j; rw [up2_k h18, h.2 k h3 h4 h5 h15 h18]
/-- one can go from x to y by pairs of F among the first n: what no pair tells apart -/
def mCn (n : Nat) (F : Nat → Nat → Bool) (x y : Nat) : Prop := ∀ g : Nat → Nat, (∀ a b, a < n → b < n → F a b = true → g a = g b) → g x = g y
/-- each has the name of one that it can go to, not above it -/
def mPl (n : Nat) (F : Nat → Nat → Bool) (L : Nat → Nat) : Prop := ∀ r, r < n → L r ≤ r ∧ mCn n F (L r) r
/-- and no pair tells names apart -/
def mSp (n : Nat) (F : Nat → Nat → Bool) (L : Nat → Nat) : Prop := mPl n F L ∧ ∀ j k, j < n → k < n → F j k = true → ¬ L k < L j
def zsum (g : Nat → Nat) : Nat → Nat
  | 0 => 0
  | n + 1 => zsum g n + g n
theorem zsum_up {B : Nat → Nat → Nat} {i x : Nat} : ∀ {n : Nat}, zsum (up2 B 18 i x 18) n + (if i < n then B 18 i else 0) = zsum (B 18) n + (if i < n then x else 0)
  | 0 => by simp [zsum]
  | n + 1 => by
    have ih := zsum_up (B := B) (i := i) (x := x) (n := n)
    simp only [zsum]
    by_cases hin : i = n
    · subst hin
      rw [if_neg (Nat.lt_irrefl _), if_neg (Nat.lt_irrefl _)] at ih
      rw [if_pos (by omega), if_pos (by omega), up2_s]
      omega
    · rw [up2_i (Ne.symm hin)]
      by_cases h2 : i < n
      · rw [if_pos h2, if_pos h2] at ih
        rw [if_pos (by omega), if_pos (by omega)]
        omega
      · rw [if_neg h2, if_neg h2] at ih
        rw [if_neg (by omega), if_neg (by omega)]
        omega
theorem mPl_up {n : Nat} {F : Nat → Nat → Bool} {B : Nat → Nat → Nat} {j k : Nat} (h : mPl n F (B 18)) (hj : j < n) (hk : k < n) (hf : F j k = true) (hlt : B 18 k < B 18 j) : mPl n F (up2 B 18 j (B 18 k) 18) := by
  intro r hr
  by_cases hrj : r = j
  · subst hrj
    rw [up2_s]
    refine ⟨by have := (h r hr).1; omega, fun g hg => ?_⟩
    rw [(h k hk).2 g hg, hg r k hr hk hf]
  · rw [up2_i hrj]
    exact h r hr

set_option maxHeartbeats 4000000 in
set_option maxRecDepth 100000 in
theorem k_Mo_spread (l : Launch) (D : va_G) (ca : Nat → ClassId) (r n t rs w : Nat) (A : Nat → Nat → Nat) (hn : n ≤ 12) (okA : mOk A) (hrs : 0 < rs) (hRu : mRu A rs) (hw : 0 < w) (hw4 : w ≤ 4) (hdd : ∀ v, v < 4 → A 16 v ≤ 12) : Met l y_Mo_spread w_Mo_spread (zr 7 0 0) (zz_P D ca [.ref r] (fun H => MoAt D ca H r n t rs w A)) (zz_Q (fun H H1 v => v = none ∧ zz_fr (moFr r) H H1 ∧ ∃ B, MoAt D ca H1 r n t rs w B ∧ mS8 A B ∧ mSp n (mFd A w rs) (B 18))) 0 0 (moFr r) := by
  refine zz_met (cc := c_Mo_spread) (by decide) (Nat.le_of_ble_eq_true rfl) ?_
  intro p e s m below meth c ls hE hr hlk hnm hM hl
  have hx := hE.1.1
  have hb := hE.1.2.1
  have hK := hE.2
  have hl : lv_has ls 5 [(0, .ref r)] := hl
  have hL : zz_L (moFr r) ([] : List Loc) := zz_L.nil
  have hS : zz_fr (moFr r) s.heap s.heap := zz_fr.rf
  refine lv_iconst (v := nI 0) hx hb d_Mo_spread_0 (by decide) ?_
  refine lv_istore_n hx hb d_Mo_spread_1 rfl hl (by decide) rfl (fun ls hl => ?_)
  have hl : lv_has ls 5 [(1, .int (nI 0)), (0, .ref r)] := hl
  have hl : lv_has ls 5 [(0, .ref r), (1, .int (nI 0))] := lv_sub hl [1, 0] rfl
  refine zz_loopH (σ := Nat × (Nat → Nat → Nat)) (fun ⟨i, B⟩ ls H locs => lv_has ls 5 [(0, .ref r), (1, .int (nI i))] ∧ i ≤ n ∧ MoAt D ca H r n t rs w B ∧ mS8 A B ∧ (∀ a, a < i → B 18 a = a) ∧ zz_fr (moFr r) s.heap H ∧ zz_L (moFr r) locs) (fun ⟨i, B⟩ => n - i) ?_ (0, A) ls _ _ ⟨hl, Nat.zero_le _, hM, mS8.rf okA, fun a h => absurd h (Nat.not_lt_zero _), hS, hL⟩
  rintro ⟨i, B⟩ ih ls H locs ⟨hl, hi, hM, hms, hid, hS, hL⟩
  refine lv_iload_n hx hb d_Mo_spread_2 rfl (lv_at hl 1 rfl) ?_
  refine lv_aload_n hx hb d_Mo_spread_3 rfl (lv_at hl 0 rfl) ?_
  refine fg_Mo_65 hE hM.1 rfl d_Mo_spread_4 ?_
  refine zz_ge hx hb (by omega) (by omega) d_Mo_spread_7 (tgt := 23) rfl (fun hT7 => ?_) (fun hF7 => ?_)
  · refine lv_iconst (v := nI 1) hx hb d_Mo_spread_23 (by decide) ?_
    refine lv_istore_n hx hb d_Mo_spread_24 rfl hl (by decide) rfl (fun ls hl => ?_)
    have hl : lv_has ls 5 [(1, .int (nI 1)), (0, .ref r)] := hl
    have hPl : mPl n (mFd A w rs) (B 18) := fun a ha => by rw [hid a (by omega)]; exact ⟨Nat.le_refl _, fun g _ => rfl⟩
    have hl : lv_has ls 5 [(0, .ref r), (1, .int (nI true.toNat))] := lv_sub hl [1, 0] rfl
    refine zz_loopH (σ := (Nat → Nat → Nat) × Bool) (fun ⟨B, b⟩ ls H locs => lv_has ls 5 [(0, .ref r), (1, .int (nI b.toNat))] ∧ MoAt D ca H r n t rs w B ∧ mS8 A B ∧ mPl n (mFd A w rs) (B 18) ∧ (b = false → ∀ j0 k0, j0 < n → k0 < n → (mFd A w rs) j0 k0 = true → ¬ B 18 k0 < B 18 j0) ∧ zz_fr (moFr r) s.heap H ∧ zz_L (moFr r) locs) (fun ⟨B, b⟩ => zsum (B 18) n + b.toNat) ?_ (B, true) ls _ _ ⟨hl, hM, hms, hPl, (fun h => by cases h), hS, hL⟩
    rintro ⟨B, b⟩ ih ls H locs ⟨hl, hM, hms, hPl, hst, hS, hL⟩
    refine lv_iload_n hx hb d_Mo_spread_25 rfl (lv_at hl 1 rfl) ?_
    refine zz_eqB hx hb d_Mo_spread_26 (tgt := 116) rfl (fun hT26 => ?_) (fun hF26 => ?_)
    · exact zz_vret hx hb hr hlk ⟨rfl, hS, _, hM, hms, hPl, fun j k hj hk hf => hst hT26 j k hj hk hf⟩ hL d_Mo_spread_116
    · have ihw := ih
      subst hF26
      obtain ⟨S0, hS0⟩ : ∃ z, z = zsum (B 18) n := ⟨_, rfl⟩
      refine lv_iconst (v := nI 0) hx hb d_Mo_spread_29 (by decide) ?_
      refine lv_istore_n hx hb d_Mo_spread_30 rfl hl (by decide) rfl (fun ls hl => ?_)
      have hl : lv_has ls 5 [(1, .int (nI 0)), (0, .ref r)] := hl
      refine lv_iconst (v := nI 0) hx hb d_Mo_spread_31 (by decide) ?_
      refine lv_istore_n hx hb d_Mo_spread_32 rfl hl (by decide) rfl (fun ls hl => ?_)
      have hl : lv_has ls 5 [(2, .int (nI 0)), (1, .int (nI 0)), (0, .ref r)] := hl
      have hl : lv_has ls 5 [(0, .ref r), (1, .int (nI false.toNat)), (2, .int (nI 0))] := lv_sub hl [2, 1, 0] rfl
      refine zz_loopH (σ := Nat × (Nat → Nat → Nat) × Bool) (fun ⟨j, B, b⟩ ls H locs => lv_has ls 5 [(0, .ref r), (1, .int (nI b.toNat)), (2, .int (nI j))] ∧ j ≤ n ∧ MoAt D ca H r n t rs w B ∧ mS8 A B ∧ mPl n (mFd A w rs) (B 18) ∧ zsum (B 18) n + b.toNat ≤ S0 ∧ (b = false → ∀ j0 k0, j0 < j → k0 < n → (mFd A w rs) j0 k0 = true → ¬ B 18 k0 < B 18 j0) ∧ zz_fr (moFr r) s.heap H ∧ zz_L (moFr r) locs) (fun ⟨j, B, b⟩ => n - j) ?_ (0, B, false) ls _ _ ⟨hl, Nat.zero_le _, hM, hms, hPl, (by show _ + 0 ≤ S0; omega), fun _ j0 k0 h => absurd h (Nat.not_lt_zero _), hS, hL⟩
      rintro ⟨j, B, b⟩ ih ls H locs ⟨hl, hj, hM, hms, hPl, hsum, hst, hS, hL⟩
      have ihj := ih
      refine lv_iload_n hx hb d_Mo_spread_33 rfl (lv_at hl 2 rfl) ?_
      refine lv_aload_n hx hb d_Mo_spread_34 rfl (lv_at hl 0 rfl) ?_
      refine fg_Mo_65 hE hM.1 rfl d_Mo_spread_35 ?_
      refine zz_ge hx hb (by omega) (by omega) d_Mo_spread_38 (tgt := 113) rfl (fun hT38 => ?_) (fun hF38 => ?_)
      · refine lv_goto hx hb d_Mo_spread_113 (tgt := 25) rfl ?_
        have hst9 : (b = false → ∀ j0 k0, j0 < n → k0 < n → mFd A w rs j0 k0 = true → ¬ B 18 k0 < B 18 j0) := fun hbf j0 k0 hj0 hk0 hf => hst hbf j0 k0 (by omega) hk0 hf
        have hl : lv_has ls 5 [(0, .ref r), (1, .int (nI b.toNat))] := lv_sub hl [0, 1] rfl
        exact ihw (B, b) ls _ _ ⟨hl, hM, hms, hPl, hst9, hS, hL⟩ (by have h := hsum; rw [hS0] at h; show _ + _ < _ + 1; omega)
      · refine lv_iconst (v := nI 0) hx hb d_Mo_spread_41 (by decide) ?_
        refine lv_istore_n hx hb d_Mo_spread_42 rfl hl (by decide) rfl (fun ls hl => ?_)
        have hl : lv_has ls 5 [(3, .int (nI 0)), (0, .ref r), (1, .int (nI b.toNat)), (2, .int (nI j))] := hl
        have hl : lv_has ls 5 [(0, .ref r), (1, .int (nI b.toNat)), (2, .int (nI j)), (3, .int (nI 0))] := lv_sub hl [1, 2, 3, 0] rfl
        refine zz_loopH (σ := Nat × (Nat → Nat → Nat) × Bool) (fun ⟨k, B, b⟩ ls H locs => lv_has ls 5 [(0, .ref r), (1, .int (nI b.toNat)), (2, .int (nI j)), (3, .int (nI k))] ∧ k ≤ n ∧ MoAt D ca H r n t rs w B ∧ mS8 A B ∧ mPl n (mFd A w rs) (B 18) ∧ zsum (B 18) n + b.toNat ≤ S0 ∧ (b = false → ∀ j0 k0, j0 < j → k0 < n → (mFd A w rs) j0 k0 = true → ¬ B 18 k0 < B 18 j0) ∧ (b = false → ∀ k0, k0 < k → (mFd A w rs) j k0 = true → ¬ B 18 k0 < B 18 j) ∧ zz_fr (moFr r) s.heap H ∧ zz_L (moFr r) locs) (fun ⟨k, B, b⟩ => n - k) ?_ (0, B, b) ls _ _ ⟨hl, Nat.zero_le _, hM, hms, hPl, hsum, hst, fun _ k0 h => absurd h (Nat.not_lt_zero _), hS, hL⟩
        rintro ⟨k, B, b⟩ ih ls H locs ⟨hl, hk, hM, hms, hPl, hsum, hst, hrow, hS, hL⟩
        refine lv_iload_n hx hb d_Mo_spread_43 rfl (lv_at hl 3 rfl) ?_
        refine lv_aload_n hx hb d_Mo_spread_44 rfl (lv_at hl 0 rfl) ?_
        refine fg_Mo_65 hE hM.1 rfl d_Mo_spread_45 ?_
        refine zz_ge hx hb (by omega) (by omega) d_Mo_spread_48 (tgt := 107) rfl (fun hT48 => ?_) (fun hF48 => ?_)
        · refine lv_iinc (k := 2) (v := nI (j + 1)) hx hb d_Mo_spread_107 hl rfl (zz_inc _) (by decide) rfl (fun ls hl => ?_)
          have hl : lv_has ls 5 [(2, .int (nI (j + 1))), (0, .ref r), (1, .int (nI b.toNat)), (3, .int (nI k))] := hl
          refine lv_goto hx hb d_Mo_spread_110 (tgt := 33) rfl ?_
          have hst9 : (b = false → ∀ j0 k0, j0 < j + 1 → k0 < n → mFd A w rs j0 k0 = true → ¬ B 18 k0 < B 18 j0) := by
            intro hbf j0 k0 hj0 hk0 hf
            by_cases hjj : j0 = j
            · subst hjj; exact hrow hbf k0 (by omega) hf
            · exact hst hbf j0 k0 (by omega) hk0 hf
          have hl : lv_has ls 5 [(0, .ref r), (1, .int (nI b.toNat)), (2, .int (nI (j + 1)))] := lv_sub hl [1, 2, 0] rfl
          exact ihj (j + 1, B, b) ls _ _ ⟨hl, by omega, hM, hms, hPl, hsum, hst9, hS, hL⟩ (by show n - (j + 1) < n - j; omega)
        · have g1 := (hPl j (by omega)).1
          have g2 := (hPl k (by omega)).1
          refine lv_aload_n hx hb d_Mo_spread_51 rfl (lv_at hl 0 rfl) ?_
          refine fg_Mo_62 hE hM.1 rfl d_Mo_spread_52 ?_
          refine lv_iload_n hx hb d_Mo_spread_55 rfl (lv_at hl 3 rfl) ?_
          refine mo_ld hE hM 18 (by decide) (i := k) (show k < 12 by omega) d_Mo_spread_56 ?_
          refine lv_aload_n hx hb d_Mo_spread_57 rfl (lv_at hl 0 rfl) ?_
          refine fg_Mo_62 hE hM.1 rfl d_Mo_spread_58 ?_
          refine lv_iload_n hx hb d_Mo_spread_61 rfl (lv_at hl 2 rfl) ?_
          refine mo_ld hE hM 18 (by decide) (i := j) (show j < 12 by omega) d_Mo_spread_62 ?_
          refine zz_ge hx hb (by omega) (by omega) d_Mo_spread_63 (tgt := 70) rfl (fun hT63 => ?_) (fun hF63 => ?_)
          · refine lv_iconst (v := nI 0) hx hb d_Mo_spread_70 (by decide) ?_
            refine lv_istore hx hb d_Mo_spread_71 hl (by decide) rfl (fun ls hl => ?_)
            have hl : lv_has ls 5 [(4, .int (nI 0)), (0, .ref r), (1, .int (nI b.toNat)), (2, .int (nI j)), (3, .int (nI k))] := hl
            refine lv_iload hx hb d_Mo_spread_73 (lv_at hl 0 rfl) ?_
            refine zz_eq0 hx hb (by decide) d_Mo_spread_75 (tgt := 101) rfl (fun _ => ?_) (fun h => absurd h (by decide))
            refine lv_iinc (k := 4) (v := nI (k + 1)) hx hb d_Mo_spread_101 hl rfl (zz_inc _) (by decide) rfl (fun ls hl => ?_)
            have hl : lv_has ls 5 [(3, .int (nI (k + 1))), (4, .int (nI 0)), (0, .ref r), (1, .int (nI b.toNat)), (2, .int (nI j))] := hl
            refine lv_goto hx hb d_Mo_spread_104 (tgt := 43) rfl ?_
            have hPl9 := hPl
            have hms9 := hms
            have hsum9 := hsum
            have hst9 := hst
            have hrow9 : (b = false → ∀ k0, k0 < k + 1 → mFd A w rs j k0 = true → ¬ B 18 k0 < B 18 j) := by
              intro hbf k0 hk0 hf
              by_cases hkk : k0 = k
              · subst hkk; omega
              · exact hrow hbf k0 (by omega) hf
            have hl : lv_has ls 5 [(0, .ref r), (1, .int (nI b.toNat)), (2, .int (nI j)), (3, .int (nI (k + 1)))] := lv_sub hl [2, 3, 4, 0] rfl
            exact ih (k + 1, B, b) ls _ _ ⟨hl, by omega, hM, hms9, hPl9, hsum9, hst9, hrow9, hS, hL⟩ (by show n - (k + 1) < n - k; omega)
          · refine lv_iconst (v := nI 1) hx hb d_Mo_spread_66 (by decide) ?_
            refine lv_goto hx hb d_Mo_spread_67 (tgt := 71) rfl ?_
            refine lv_istore hx hb d_Mo_spread_71 hl (by decide) rfl (fun ls hl => ?_)
            have hl : lv_has ls 5 [(4, .int (nI 1)), (0, .ref r), (1, .int (nI b.toNat)), (2, .int (nI j)), (3, .int (nI k))] := hl
            refine lv_iload hx hb d_Mo_spread_73 (lv_at hl 0 rfl) ?_
            refine zz_eq0 hx hb (by decide) d_Mo_spread_75 (tgt := 101) rfl (fun h => absurd h (by decide)) (fun _ => ?_)
            refine lv_aload_n hx hb d_Mo_spread_78 rfl (lv_at hl 1 rfl) ?_
            refine lv_iload_n hx hb d_Mo_spread_79 rfl (lv_at hl 3 rfl) ?_
            refine lv_iload_n hx hb d_Mo_spread_80 rfl (lv_at hl 4 rfl) ?_
            refine zz_callI (cl_Mo_152 (rest := []) hE (k_Mo_isFound l D ca r n t rs w B j k (by omega) (by omega) hms.1 hrs (hms.ru hRu) hw hw4 (hms.dd hdd)) ⟨rfl, rfl, by decide, by decide⟩ hM hM.1 rfl hl.1 rfl (Nat.le_of_ble_eq_true rfl) d_Mo_spread_81 ⟨by decide, by decide⟩) hL (fun _ h => h) (fun H locs hpost hL => ?_)
            obtain ⟨hfrB1, B1, hM, hms1⟩ := hpost
            have hS := hS.tr hfrB1
            have e18 : B1 18 = B 18 := hms1.2 18 (by decide) (by decide) (by decide) (by decide)
            have hms1 := hms.tr hms1.s8
            have hfd := hms.fd w rs j k
            refine zz_eqB hx hb d_Mo_spread_84 (tgt := 101) rfl (fun hT84 => ?_) (fun hF84 => ?_)
            · refine lv_iinc (k := 4) (v := nI (k + 1)) hx hb d_Mo_spread_101 hl rfl (zz_inc _) (by decide) rfl (fun ls hl => ?_)
              have hl : lv_has ls 5 [(3, .int (nI (k + 1))), (4, .int (nI 1)), (0, .ref r), (1, .int (nI b.toNat)), (2, .int (nI j))] := hl
              refine lv_goto hx hb d_Mo_spread_104 (tgt := 43) rfl ?_
              have hPl9 : mPl n (mFd A w rs) (B1 18) := by rw [e18]; exact hPl
              have hms9 := hms1
              have hsum9 : zsum (B1 18) n + b.toNat ≤ S0 := by rw [e18]; exact hsum
              have hst9 : (b = false → ∀ j0 k0, j0 < j → k0 < n → mFd A w rs j0 k0 = true → ¬ B1 18 k0 < B1 18 j0) := by rw [e18]; exact hst
              have hrow9 : (b = false → ∀ k0, k0 < k + 1 → mFd A w rs j k0 = true → ¬ B1 18 k0 < B1 18 j) := by
                rw [e18]
                intro hbf k0 hk0 hf
                by_cases hkk : k0 = k
                · subst hkk; rw [hfd] at hT84; rw [hT84] at hf; cases hf
                · exact hrow hbf k0 (by omega) hf
              have hl : lv_has ls 5 [(0, .ref r), (1, .int (nI b.toNat)), (2, .int (nI j)), (3, .int (nI (k + 1)))] := lv_sub hl [2, 3, 4, 0] rfl
              exact ih (k + 1, B1, b) ls _ _ ⟨hl, by omega, hM, hms9, hPl9, hsum9, hst9, hrow9, hS, hL⟩ (by show n - (k + 1) < n - k; omega)
            · refine lv_aload_n hx hb d_Mo_spread_87 rfl (lv_at hl 1 rfl) ?_
              refine fg_Mo_62 hE hM.1 rfl d_Mo_spread_88 ?_
              refine lv_iload_n hx hb d_Mo_spread_91 rfl (lv_at hl 3 rfl) ?_
              refine lv_aload_n hx hb d_Mo_spread_92 rfl (lv_at hl 1 rfl) ?_
              refine fg_Mo_62 hE hM.1 rfl d_Mo_spread_93 ?_
              refine lv_iload_n hx hb d_Mo_spread_96 rfl (lv_at hl 4 rfl) ?_
              refine mo_ld hE hM 18 (by decide) (i := k) (show k < 12 by omega) d_Mo_spread_97 ?_
              refine mo_st hE hM hS hL 18 (by decide) (i := j) (x := B1 18 k) (show j < 12 by omega) d_Mo_spread_98 (fun H locs hM hS hL => ?_)
              refine lv_iconst (v := nI 1) hx hb d_Mo_spread_99 (by decide) ?_
              refine lv_istore_n hx hb d_Mo_spread_100 rfl hl (by decide) rfl (fun ls hl => ?_)
              have hl : lv_has ls 5 [(1, .int (nI 1)), (4, .int (nI 1)), (0, .ref r), (2, .int (nI j)), (3, .int (nI k))] := hl
              refine lv_iinc (k := 4) (v := nI (k + 1)) hx hb d_Mo_spread_101 hl rfl (zz_inc _) (by decide) rfl (fun ls hl => ?_)
              have hl : lv_has ls 5 [(3, .int (nI (k + 1))), (1, .int (nI 1)), (4, .int (nI 1)), (0, .ref r), (2, .int (nI j))] := hl
              refine lv_goto hx hb d_Mo_spread_104 (tgt := 43) rfl ?_
              have q1 : B1 18 k = B 18 k := congrFun e18 k
              have q2 : B1 18 j = B 18 j := congrFun e18 j
              have hPl1 : mPl n (mFd A w rs) (B1 18) := by rw [e18]; exact hPl
              have hPl9 := mPl_up hPl1 (by omega) (by omega) (show mFd A w rs j k = true by rw [← hfd]; exact hF84) (by omega)
              have hms9 : mS8 A (up2 B1 18 j (B1 18 k)) := mS8_up18 hms1
              have hsm := zsum_up (B := B1) (i := j) (x := B1 18 k) (n := n)
              rw [if_pos (by omega), if_pos (by omega), e18] at hsm
              have hsum9 : zsum (up2 B1 18 j (B1 18 k) 18) n + true.toNat ≤ S0 := by
                rw [e18]
                show _ + 1 ≤ S0
                omega
              have hl : lv_has ls 5 [(0, .ref r), (1, .int (nI true.toNat)), (2, .int (nI j)), (3, .int (nI (k + 1)))] := lv_sub hl [3, 1, 4, 0] rfl
              exact ih (k + 1, (up2 B1 18 j (B1 18 k)), true) ls _ _ ⟨hl, by omega, hM, hms9, hPl9, hsum9, (fun h => by cases h), (fun h => by cases h), hS, hL⟩ (by show n - (k + 1) < n - k; omega)
  · refine lv_aload_n hx hb d_Mo_spread_10 rfl (lv_at hl 0 rfl) ?_
    refine fg_Mo_62 hE hM.1 rfl d_Mo_spread_11 ?_
    refine lv_iload_n hx hb d_Mo_spread_14 rfl (lv_at hl 1 rfl) ?_
    refine lv_iload_n hx hb d_Mo_spread_15 rfl (lv_at hl 1 rfl) ?_
    refine mo_st hE hM hS hL 18 (by decide) (i := i) (x := i) (show i < 12 by omega) d_Mo_spread_16 (fun H locs hM hS hL => ?_)
    refine lv_iinc (k := 1) (v := nI (i + 1)) hx hb d_Mo_spread_17 hl rfl (zz_inc _) (by decide) rfl (fun ls hl => ?_)
    have hl : lv_has ls 5 [(1, .int (nI (i + 1))), (0, .ref r)] := hl
    refine lv_goto hx hb d_Mo_spread_20 (tgt := 2) rfl ?_
    have hl : lv_has ls 5 [(0, .ref r), (1, .int (nI (i + 1)))] := lv_sub hl [1, 0] rfl
    exact ih (i + 1, (up2 B 18 i i)) ls _ _ ⟨hl, by omega, hM, mS8_up18 hms, fun a ha => by
        by_cases hai : a = i
        · subst hai; exact up2_s
        · rw [up2_i hai]; exact hid a (by omega), hS, hL⟩ (by show n - (i + 1) < n - i; omega)
