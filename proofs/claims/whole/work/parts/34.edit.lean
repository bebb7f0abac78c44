set_option maxHeartbeats 4000000 in
set_option maxRecDepth 100000 in
theorem k_Ed_countSteps (l : Launch) (D : va_G) (ca : Nat → ClassId) (x fl mo : Nat) (R : Nat → Nat) (a n ty : Nat) (iw : Bool) (f : Nat → Nat) (b n2 ty2 : Nat) (iw2 : Bool) (g : Nat → Nat) (hn : n ≤ 12) (hn2 : n2 ≤ 12) (hf : ∀ j, j < 12 → f j < 65536) (hg : ∀ j, j < 12 → g j < 65536) (ha1 : a ≠ x + 1) (ha2 : a + 1 ≠ x + 1) (hb1 : b ≠ x + 1) (hb2 : b + 1 ≠ x + 1) : Met l y_Ed_countSteps w_Ed_countSteps (zr 2 0 0) (zz_P D ca [.ref x, .ref a, .ref b] (fun H => EdAt D ca H x fl mo R ∧ TeAt D ca H a f n ty iw ∧ TeAt D ca H b g n2 ty2 iw2)) (zz_Q (fun H H1 v => v = some (.int (nI (dst f g n n2))) ∧ zz_fr (edFr x) H H1 ∧ ∃ B, EdAt D ca H1 x fl mo B)) 0 0 (edFr x) := by
  refine zz_met (cc := c_Ed_countSteps) (by decide) (Nat.le_of_ble_eq_true rfl) ?_
  intro p e s m below meth c ls hE hr hlk hnm ⟨hM, hT, hU⟩ hl
  have hx := hE.1.1
  have hb := hE.1.2.1
  have hK := hE.2
  have hl : lv_has ls 4 [(0, .ref x), (1, .ref a), (2, .ref b)] := hl
  have hL : zz_L (edFr x) ([] : List Loc) := zz_L.nil
  have hS : zz_fr (edFr x) s.heap s.heap := zz_fr.rf
  refine lv_iconst (v := nI 0) hx hb d_Ed_countSteps_0 (by decide) ?_
  refine lv_istore_n hx hb d_Ed_countSteps_1 rfl hl (by decide) rfl (fun ls hl => ?_)
  have hl : lv_has ls 4 [(3, .int (nI 0)), (0, .ref x), (1, .ref a), (2, .ref b)] := hl
  have hl : lv_has ls 4 [(0, .ref x), (1, .ref a), (2, .ref b), (3, .int (nI 0))] := lv_sub hl [1, 2, 3, 0] rfl
  refine zz_loopH (σ := Nat × (Nat → Nat)) (fun ⟨j, B⟩ ls H locs => lv_has ls 4 [(0, .ref x), (1, .ref a), (2, .ref b), (3, .int (nI j))] ∧ j ≤ n2 + 1 ∧ EdAt D ca H x fl mo B ∧ TeAt D ca H a f n ty iw ∧ TeAt D ca H b g n2 ty2 iw2 ∧ (∀ k, k < j → B k = k) ∧ zz_fr (edFr x) s.heap H ∧ zz_L (edFr x) locs) (fun ⟨j, B⟩ => n2 + 1 - j) ?_ (0, R) ls _ _ ⟨hl, Nat.zero_le _, hM, hT, hU, fun k h => absurd h (Nat.not_lt_zero _), hS, hL⟩
  rintro ⟨j, B⟩ ih ls H locs ⟨hl, hj, hM, hT, hU, h0, hS, hL⟩
  refine lv_iload_n hx hb d_Ed_countSteps_2 rfl (lv_at hl 3 rfl) ?_
  refine lv_aload_n hx hb d_Ed_countSteps_3 rfl (lv_at hl 2 rfl) ?_
  refine fg_Ed_32 hE hU.1 rfl d_Ed_countSteps_4 ?_
  refine zz_gt hx hb (by omega) (by omega) d_Ed_countSteps_7 (tgt := 23) rfl (fun hT7 => ?_) (fun hF7 => ?_)
  · refine lv_iconst (v := nI 0) hx hb d_Ed_countSteps_23 (by decide) ?_
    refine lv_istore_n hx hb d_Ed_countSteps_24 rfl hl (by decide) rfl (fun ls hl => ?_)
    have hl : lv_has ls 4 [(3, .int (nI 0)), (0, .ref x), (1, .ref a), (2, .ref b)] := hl
    have hd : ∀ k, k ≤ n2 → B k = dst f g 0 k := fun k hk => by rw [h0 k (by omega), dst_0]
    have hl : lv_has ls 4 [(0, .ref x), (1, .ref a), (2, .ref b), (3, .int (nI 0))] := lv_sub hl [1, 2, 3, 0] rfl
    refine zz_loopH (σ := Nat × (Nat → Nat)) (fun ⟨i, B⟩ ls H locs => lv_has ls 4 [(0, .ref x), (1, .ref a), (2, .ref b), (3, .int (nI i))] ∧ i ≤ n ∧ EdAt D ca H x fl mo B ∧ TeAt D ca H a f n ty iw ∧ TeAt D ca H b g n2 ty2 iw2 ∧ (∀ k, k ≤ n2 → B k = dst f g i k) ∧ zz_fr (edFr x) s.heap H ∧ zz_L (edFr x) locs) (fun ⟨i, B⟩ => n - i) ?_ (0, B) ls _ _ ⟨hl, Nat.zero_le _, hM, hT, hU, hd, hS, hL⟩
    rintro ⟨i, B⟩ ih ls H locs ⟨hl, hi, hM, hT, hU, hd, hS, hL⟩
    refine lv_iload_n hx hb d_Ed_countSteps_25 rfl (lv_at hl 3 rfl) ?_
    refine lv_aload_n hx hb d_Ed_countSteps_26 rfl (lv_at hl 1 rfl) ?_
    refine fg_Ed_32 hE hT.1 rfl d_Ed_countSteps_27 ?_
    refine zz_ge hx hb (by omega) (by omega) d_Ed_countSteps_30 (tgt := 50) rfl (fun hT30 => ?_) (fun hF30 => ?_)
    · refine lv_aload_n hx hb d_Ed_countSteps_50 rfl (lv_at hl 0 rfl) ?_
      refine fg_Ed_9 hE hM.1 rfl d_Ed_countSteps_51 ?_
      refine lv_aload_n hx hb d_Ed_countSteps_54 rfl (lv_at hl 2 rfl) ?_
      refine fg_Ed_32 hE hU.1 rfl d_Ed_countSteps_55 ?_
      refine zz_iald hx hb hK.1 hM.2 0 rfl (i := n2) (by omega) (by omega) d_Ed_countSteps_58 ?_
      exact zz_iret hx hb hr hlk rfl ⟨by rw [hd n2 (Nat.le_refl _), show i = n by omega], hS, B, hM⟩ hL d_Ed_countSteps_59
    · refine lv_aload_n hx hb d_Ed_countSteps_33 rfl (lv_at hl 0 rfl) ?_
      refine lv_aload_n hx hb d_Ed_countSteps_34 rfl (lv_at hl 1 rfl) ?_
      refine fg_Ed_37 hE hT.1 rfl d_Ed_countSteps_35 ?_
      refine lv_iload_n hx hb d_Ed_countSteps_38 rfl (lv_at hl 3 rfl) ?_
      refine zz_cald hx hb hK.1 hT.2 1 rfl (i := i) (by omega) (by omega) d_Ed_countSteps_39 ?_
      refine lv_aload_n hx hb d_Ed_countSteps_40 rfl (lv_at hl 2 rfl) ?_
      refine zz_callN (cl_Ed_41 (rest := []) hE (k_Ed_goThrough l D ca x fl mo B b n2 ty2 iw2 g (f i) (hf i (by omega)) hn2 hg hb1 hb2 (fun k hk => by rw [hd k hk]; have := dst_le f g i k; omega)) ⟨rfl, rfl, by decide, by decide⟩ ⟨hM, hU⟩ hM.1 rfl hl.1 rfl (Nat.le_of_ble_eq_true rfl) d_Ed_countSteps_41 ⟨by decide, by decide⟩) hL (fun _ h => h) (fun H locs hpost hL => ?_)
      obtain ⟨hfr1, B1, hM, hrow1⟩ := hpost
      have hS := hS.tr hfr1
      have hT := hT.kp (hfr1.2 _ ha1) (hfr1.2 _ ha2)
      have hU := hU.kp (hfr1.2 _ hb1) (hfr1.2 _ hb2)
      have hd9 : ∀ k, k ≤ n2 → B1 k = dst f g (i + 1) k := fun k hk => by rw [hrow1 k hk]; exact rowS_dst hd k hk
      refine lv_iinc (k := 3) (v := nI (i + 1)) hx hb d_Ed_countSteps_44 hl rfl (zz_inc _) (by decide) rfl (fun ls hl => ?_)
      have hl : lv_has ls 4 [(3, .int (nI (i + 1))), (0, .ref x), (1, .ref a), (2, .ref b)] := hl
      refine lv_goto hx hb d_Ed_countSteps_47 (tgt := 25) rfl ?_
      have hl : lv_has ls 4 [(0, .ref x), (1, .ref a), (2, .ref b), (3, .int (nI (i + 1)))] := lv_sub hl [1, 2, 3, 0] rfl
      exact ih (i + 1, B1) ls _ _ ⟨hl, by omega, hM, hT, hU, hd9, hS, hL⟩ (by show n - (i + 1) < n - i; omega)
  · refine lv_aload_n hx hb d_Ed_countSteps_10 rfl (lv_at hl 0 rfl) ?_
    refine fg_Ed_9 hE hM.1 rfl d_Ed_countSteps_11 ?_
    refine lv_iload_n hx hb d_Ed_countSteps_14 rfl (lv_at hl 3 rfl) ?_
    refine lv_iload_n hx hb d_Ed_countSteps_15 rfl (lv_at hl 3 rfl) ?_
    refine zz_iast hx hb hK.1 hM.2 hL (show edFr x (x + 1) from rfl) 0 rfl (i := j) (by omega) (by decide) d_Ed_countSteps_16 (fun H locs h1 hu hL => ?_)
    rw [te_up] at h1
    have hS := hS.up hu (show edFr x (x + 1) from rfl)
    have hM : EdAt D ca H x fl mo (va_up B j j) := ⟨zz_keep hu (show x ≠ x + 1 by omega) hM.1, h1⟩
    have hU := hU.kp (hu.2 _ hb1) (hu.2 _ hb2)
    have hT := hT.kp (hu.2 _ ha1) (hu.2 _ ha2)
    refine lv_iinc (k := 3) (v := nI (j + 1)) hx hb d_Ed_countSteps_17 hl rfl (zz_inc _) (by decide) rfl (fun ls hl => ?_)
    have hl : lv_has ls 4 [(3, .int (nI (j + 1))), (0, .ref x), (1, .ref a), (2, .ref b)] := hl
    refine lv_goto hx hb d_Ed_countSteps_20 (tgt := 2) rfl ?_
    have hl : lv_has ls 4 [(0, .ref x), (1, .ref a), (2, .ref b), (3, .int (nI (j + 1)))] := lv_sub hl [1, 2, 3, 0] rfl
    exact ih (j + 1, va_up B j j) ls _ _ ⟨hl, by omega, hM, hT, hU, (fun k hk => by
        by_cases hkj : k = j
        · subst hkj; exact va_up_self _ _ _
        · rw [va_up_ne _ _ hkj]; exact h0 k (by omega)), hS, hL⟩ (by show n2 + 1 - (j + 1) < n2 + 1 - j; omega)

set_option maxHeartbeats 4000000 in
set_option maxRecDepth 100000 in
theorem k_Ed_holdsOf (l : Launch) (D : va_G) (ca : Nat → ClassId) (x fl mo : Nat) (R : Nat → Nat) (hfl : fl ≤ 1) (hmo : mo ≤ 8) (a : Nat) (F : Nat → Nat → Nat) (N Y : Nat → Nat) (W0 : Nat → Bool) (b : Nat) (F2 : Nat → Nat → Nat) (N2 Y2 : Nat → Nat) (W2 : Nat → Bool) (hN : N fl ≤ 12) (hN2 : N2 fl ≤ 12) (hf : ∀ j, j < 12 → F fl j < 65536) (hg : ∀ j, j < 12 → F2 fl j < 65536) (ha1 : a + 1 + 2 * fl ≠ x + 1) (ha2 : a + 1 + 2 * fl + 1 ≠ x + 1) (hb1 : b + 1 + 2 * fl ≠ x + 1) (hb2 : b + 1 + 2 * fl + 1 ≠ x + 1) : Met l y_Ed_holdsOf w_Ed_holdsOf (zr 3 0 0) (zz_P D ca [.ref x, .ref a, .ref b] (fun H => EdAt D ca H x fl mo R ∧ EnAt D ca H a F N Y W0 ∧ EnAt D ca H b F2 N2 Y2 W2)) (zz_Q (fun H H1 v => v = some (.int (nI (decide (dst (F fl) (F2 fl) (N fl) (N2 fl) ≤ mo)).toNat)) ∧ zz_fr (edFr x) H H1 ∧ ∃ B, EdAt D ca H1 x fl mo B)) 0 0 (edFr x) := by
  refine zz_met (cc := c_Ed_holdsOf) (by decide) (Nat.le_of_ble_eq_true rfl) ?_
  intro p e s m below meth c ls hE hr hlk hnm ⟨hM, hA, hB⟩ hl
  have hx := hE.1.1
  have hb := hE.1.2.1
  have hK := hE.2
  have hl : lv_has ls 3 [(0, .ref x), (1, .ref a), (2, .ref b)] := hl
  have hL : zz_L (edFr x) ([] : List Loc) := zz_L.nil
  have hS : zz_fr (edFr x) s.heap s.heap := zz_fr.rf
  have hT := hA.tx hfl
  have hU := hB.tx hfl
  refine lv_aload_n hx hb d_Ed_holdsOf_0 rfl (lv_at hl 0 rfl) ?_
  refine lv_aload_n hx hb d_Ed_holdsOf_1 rfl (lv_at hl 1 rfl) ?_
  refine lv_aload_n hx hb d_Ed_holdsOf_2 rfl (lv_at hl 0 rfl) ?_
  refine fg_Ed_15 hE hM.1 rfl d_Ed_holdsOf_3 ?_
  refine zz_callP (cl_Ed_22 (rest := [.ref x]) hE (k_En_text l D ca a fl hfl F N Y W0) ⟨rfl, rfl, by decide, by decide⟩ hA hA.1 rfl hl.1 rfl (Nat.le_of_ble_eq_true rfl) d_Ed_holdsOf_6 ⟨by decide, by decide⟩) ?_
  refine lv_aload_n hx hb d_Ed_holdsOf_9 rfl (lv_at hl 2 rfl) ?_
  refine lv_aload_n hx hb d_Ed_holdsOf_10 rfl (lv_at hl 0 rfl) ?_
  refine fg_Ed_15 hE hM.1 rfl d_Ed_holdsOf_11 ?_
  refine zz_callP (cl_Ed_22 (rest := [.ref (a + 1 + 2 * fl), .ref x]) hE (k_En_text l D ca b fl hfl F2 N2 Y2 W2) ⟨rfl, rfl, by decide, by decide⟩ hB hB.1 rfl hl.1 rfl (Nat.le_of_ble_eq_true rfl) d_Ed_holdsOf_14 ⟨by decide, by decide⟩) ?_
  refine zz_callI (cl_Ed_28 (rest := []) hE (k_Ed_countSteps l D ca x fl mo R (a + 1 + 2 * fl) (N fl) (Y fl) (W0 fl) (F fl) (b + 1 + 2 * fl) (N2 fl) (Y2 fl) (W2 fl) (F2 fl) hN hN2 hf hg ha1 ha2 hb1 hb2) ⟨rfl, rfl, by decide, by decide⟩ ⟨hM, hT, hU⟩ hM.1 rfl hl.1 rfl (Nat.le_of_ble_eq_true rfl) d_Ed_holdsOf_17 ⟨by decide, by decide⟩) hL (fun _ h => h) (fun H locs hpost hL => ?_)
  obtain ⟨hfr1, B1, hM⟩ := hpost
  have hS := hS.tr hfr1
  have hdl := dst_le (F fl) (F2 fl) (N fl) (N2 fl)
  refine lv_aload_n hx hb d_Ed_holdsOf_20 rfl (lv_at hl 0 rfl) ?_
  refine fg_Ed_19 hE hM.1 rfl d_Ed_holdsOf_21 ?_
  refine zz_gt hx hb (by omega) (by omega) d_Ed_holdsOf_24 (tgt := 31) rfl (fun hT24 => ?_) (fun hF24 => ?_)
  · refine lv_iconst (v := nI 0) hx hb d_Ed_holdsOf_31 (by decide) ?_
    have hval : decide (dst (F fl) (F2 fl) (N fl) (N2 fl) ≤ mo) = false := by simp; omega
    exact zz_iret hx hb hr hlk rfl ⟨by rw [hval]; rfl, hS, B1, hM⟩ hL d_Ed_holdsOf_32
  · refine lv_iconst (v := nI 1) hx hb d_Ed_holdsOf_27 (by decide) ?_
    refine lv_goto hx hb d_Ed_holdsOf_28 (tgt := 32) rfl ?_
    have hval : decide (dst (F fl) (F2 fl) (N fl) (N2 fl) ≤ mo) = true := by simp; omega
    exact zz_iret hx hb hr hlk rfl ⟨by rw [hval]; rfl, hS, B1, hM⟩ hL d_Ed_holdsOf_32
