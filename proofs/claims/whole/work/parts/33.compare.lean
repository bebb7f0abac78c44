theorem EnAt.tx {D : va_G} {ca : Nat → ClassId} {H : Heap} {a fl : Nat} {F : Nat → Nat → Nat} {N Y : Nat → Nat} {W : Nat → Bool} (h : EnAt D ca H a F N Y W) (hf : fl ≤ 1) : TeAt D ca H (a + 1 + 2 * fl) (F fl) (N fl) (Y fl) (W fl) := by
  rcases (show fl = 0 ∨ fl = 1 by omega) with rfl | rfl
  · exact h.2.1
  · exact h.2.2
def cJa (nu de : Nat) (f : Nat → Nat) (n : Nat) (g : Nat → Nat) (n2 : Nat) : Bool := decide (0 < cWs f n n + cWs g n2 n2 - cSh f n g n2 n) && decide (nu * (cWs f n n + cWs g n2 n2 - cSh f n g n2 n) ≤ cSh f n g n2 n * de)
theorem cSh_le (f : Nat → Nat) (n : Nat) (g : Nat → Nat) (n2 k : Nat) : cSh f n g n2 k ≤ cWs f n k := zcnt_mono fun i _ h => by
  simp only [Bool.and_eq_true] at h
  simp [h.1.1, h.1.2]
/-- a row of steps out of the one before -/
def rowS (c : Nat) (g R : Nat → Nat) : Nat → Nat
  | 0 => R 0 + 1
  | j + 1 => min (R j + (if g j = c then 0 else 1)) (min (R (j + 1)) (rowS c g R j) + 1)
theorem rowS_le (c : Nat) (g R : Nat → Nat) : ∀ j, rowS c g R j ≤ R 0 + 1 + j
  | 0 => by simp [rowS]
  | j + 1 => by
    have h := rowS_le c g R j
    simp only [rowS]
    omega
theorem rowS_dst {x y R : Nat → Nat} {i : Nat} {n2 : Nat} (h : ∀ j, j ≤ n2 → R j = dst x y i j) : ∀ j, j ≤ n2 → rowS (x i) y R j = dst x y (i + 1) j
  | 0, _ => by
    rw [dst_s0]
    simp only [rowS]
    rw [h 0 (by omega), dst_s0]
  | j + 1, hj => by
    have ih := rowS_dst h j (by omega)
    rw [dst_ss]
    simp only [rowS]
    rw [h j (by omega), h (j + 1) hj, ih]
    by_cases he : y j = x i
    · rw [if_pos he, if_pos he.symm]; omega
    · rw [if_neg he, if_neg (fun q => he q.symm)]; omega
def EdAt (D : va_G) (ca : Nat → ClassId) (H : Heap) (x fl mo : Nat) (R : Nat → Nat) : Prop := va_at D zC (x, .inr (3, [.int (nI 1), .int (nI 0), .int (nI fl), .int (nI mo), .ref (x + 1)])) H ∧ va_at D zC (x + 1, .inl (ca 0, 13, .inl (fun j => nI (R j)))) H
def edFr (x q : Nat) : Prop := q = x + 1

set_option maxHeartbeats 4000000 in
set_option maxRecDepth 100000 in
theorem k_Ja_holdsOf (l : Launch) (D : va_G) (ca : Nat → ClassId) (x fl nu de : Nat) (hfl : fl ≤ 1) (hnu : nu ≤ 100) (hde : de ≤ 100) (a : Nat) (F : Nat → Nat → Nat) (N Y : Nat → Nat) (W0 : Nat → Bool) (b : Nat) (F2 : Nat → Nat → Nat) (N2 Y2 : Nat → Nat) (W2 : Nat → Bool) (hN : N fl ≤ 12) (hN2 : N2 fl ≤ 12) (hf : ∀ j, j < 12 → F fl j < 65536) (hg : ∀ j, j < 12 → F2 fl j < 65536) : Met l y_Ja_holdsOf w_Ja_holdsOf (zr 4 0 0) (zz_P D ca [.ref x, .ref a, .ref b] (fun H => va_at D zC (x, .inr (2, [.int (nI 1), .int (nI 1), .int (nI fl), .int (nI nu), .int (nI de)])) H ∧ EnAt D ca H a F N Y W0 ∧ EnAt D ca H b F2 N2 Y2 W2)) (zz_Q (fun H H1 v => H1 = H ∧ v = some (.int (nI (cJa nu de (F fl) (N fl) (F2 fl) (N2 fl)).toNat)))) 0 0 (fun _ => False) := by
  refine zz_met (cc := c_Ja_holdsOf) (by decide) (Nat.le_of_ble_eq_true rfl) ?_
  intro p e s m below meth c ls hE hr hlk hnm ⟨hJ, hA, hB⟩ hl
  have hx := hE.1.1
  have hb := hE.1.2.1
  have hK := hE.2
  have hl : lv_has ls 7 [(0, .ref x), (1, .ref a), (2, .ref b)] := hl
  have hL : zz_L (fun _ => False) ([] : List Loc) := zz_L.nil
  have hT := hA.tx hfl
  have hU := hB.tx hfl
  have i1 : cWs (F fl) (N fl) (N fl) ≤ N fl := zcnt_le _ _
  have i2 : cWs (F2 fl) (N2 fl) (N2 fl) ≤ N2 fl := zcnt_le _ _
  have i3 := cSh_le (F fl) (N fl) (F2 fl) (N2 fl) (N fl)
  refine lv_aload_n hx hb d_Ja_holdsOf_0 rfl (lv_at hl 1 rfl) ?_
  refine lv_aload_n hx hb d_Ja_holdsOf_1 rfl (lv_at hl 0 rfl) ?_
  refine fg_Ja_7 hE hJ rfl d_Ja_holdsOf_2 ?_
  refine zz_callP (cl_Ja_19 (rest := []) hE (k_En_text l D ca a fl hfl F N Y W0) ⟨rfl, rfl, by decide, by decide⟩ hA hA.1 rfl hl.1 rfl (Nat.le_of_ble_eq_true rfl) d_Ja_holdsOf_5 ⟨by decide, by decide⟩) ?_
  refine lv_astore_n hx hb d_Ja_holdsOf_8 rfl hl (by decide) rfl (fun ls hl => ?_)
  have hl : lv_has ls 7 [(3, .ref (a + 1 + 2 * fl)), (0, .ref x), (1, .ref a), (2, .ref b)] := hl
  refine lv_aload_n hx hb d_Ja_holdsOf_9 rfl (lv_at hl 3 rfl) ?_
  refine lv_aload_n hx hb d_Ja_holdsOf_10 rfl (lv_at hl 1 rfl) ?_
  refine fg_Ja_7 hE hJ rfl d_Ja_holdsOf_11 ?_
  refine zz_callP (cl_Ja_19 (rest := []) hE (k_En_text l D ca b fl hfl F2 N2 Y2 W2) ⟨rfl, rfl, by decide, by decide⟩ hB hB.1 rfl hl.1 rfl (Nat.le_of_ble_eq_true rfl) d_Ja_holdsOf_14 ⟨by decide, by decide⟩) ?_
  refine lv_astore hx hb d_Ja_holdsOf_17 hl (by decide) rfl (fun ls hl => ?_)
  have hl : lv_has ls 7 [(4, .ref (b + 1 + 2 * fl)), (3, .ref (a + 1 + 2 * fl)), (0, .ref x), (1, .ref a), (2, .ref b)] := hl
  refine lv_aload_n hx hb d_Ja_holdsOf_19 rfl (lv_at hl 1 rfl) ?_
  refine lv_aload hx hb d_Ja_holdsOf_20 (lv_at hl 0 rfl) ?_
  refine zz_callP (cl_Ja_25 (rest := []) hE (k_Te_countWordsSharedWith l D ca (a + 1 + 2 * fl) (N fl) (Y fl) (W0 fl) (F fl) (b + 1 + 2 * fl) (N2 fl) (Y2 fl) (W2 fl) (F2 fl) hN hN2 hf hg) ⟨rfl, rfl, by decide, by decide⟩ ⟨hT, hU⟩ hT.1 rfl hl.1 rfl (Nat.le_of_ble_eq_true rfl) d_Ja_holdsOf_22 ⟨by decide, by decide⟩) ?_
  refine lv_istore hx hb d_Ja_holdsOf_25 hl (by decide) rfl (fun ls hl => ?_)
  have hl : lv_has ls 7 [(5, .int (nI (cSh (F fl) (N fl) (F2 fl) (N2 fl) (N fl)))), (4, .ref (b + 1 + 2 * fl)), (3, .ref (a + 1 + 2 * fl)), (0, .ref x), (1, .ref a), (2, .ref b)] := hl
  refine lv_aload_n hx hb d_Ja_holdsOf_27 rfl (lv_at hl 2 rfl) ?_
  refine zz_callP (cl_Ja_31 (rest := []) hE (k_Te_wordSetSize l D ca (a + 1 + 2 * fl) (N fl) (Y fl) (W0 fl) (F fl) hN hf) ⟨rfl, rfl, by decide, by decide⟩ hT hT.1 rfl hl.1 rfl (Nat.le_of_ble_eq_true rfl) d_Ja_holdsOf_28 ⟨by decide, by decide⟩) ?_
  refine lv_aload hx hb d_Ja_holdsOf_31 (lv_at hl 1 rfl) ?_
  refine zz_callP (cl_Ja_31 (rest := [.int (nI (cWs (F fl) (N fl) (N fl)))]) hE (k_Te_wordSetSize l D ca (b + 1 + 2 * fl) (N2 fl) (Y2 fl) (W2 fl) (F2 fl) hN2 hg) ⟨rfl, rfl, by decide, by decide⟩ hU hU.1 rfl hl.1 rfl (Nat.le_of_ble_eq_true rfl) d_Ja_holdsOf_33 ⟨by decide, by decide⟩) ?_
  refine zz_iadd hx hb d_Ja_holdsOf_36 ?_
  refine lv_iload hx hb d_Ja_holdsOf_37 (lv_at hl 0 rfl) ?_
  refine zz_isub (by omega) hx hb d_Ja_holdsOf_39 ?_
  refine lv_istore hx hb d_Ja_holdsOf_40 hl (by decide) rfl (fun ls hl => ?_)
  have hl : lv_has ls 7 [(6, .int (nI (((cWs (F fl) (N fl) (N fl)) + (cWs (F2 fl) (N2 fl) (N2 fl))) - (cSh (F fl) (N fl) (F2 fl) (N2 fl) (N fl))))), (5, .int (nI (cSh (F fl) (N fl) (F2 fl) (N2 fl) (N fl)))), (4, .ref (b + 1 + 2 * fl)), (3, .ref (a + 1 + 2 * fl)), (0, .ref x), (1, .ref a), (2, .ref b)] := hl
  refine lv_iload hx hb d_Ja_holdsOf_42 (lv_at hl 0 rfl) ?_
  refine zz_le0 hx hb (by omega) d_Ja_holdsOf_44 (tgt := 68) rfl (fun hT44 => ?_) (fun hF44 => ?_)
  · refine lv_iconst (v := nI 0) hx hb d_Ja_holdsOf_68 (by decide) ?_
    have hval : cJa nu de (F fl) (N fl) (F2 fl) (N2 fl) = false := by
        unfold cJa
        rw [decide_eq_false (show ¬ 0 < cWs (F fl) (N fl) (N fl) + cWs (F2 fl) (N2 fl) (N2 fl) - cSh (F fl) (N fl) (F2 fl) (N2 fl) (N fl) by omega)]; rfl
    exact zz_iret hx hb hr hlk rfl ⟨rfl, by rw [hval]; rfl⟩ hL d_Ja_holdsOf_69
  · have p1 := zmul_le (show cSh (F fl) (N fl) (F2 fl) (N2 fl) (N fl) ≤ 12 by omega) hde
    have p2 := zmul_le hnu (show cWs (F fl) (N fl) (N fl) + cWs (F2 fl) (N2 fl) (N2 fl) - cSh (F fl) (N fl) (F2 fl) (N2 fl) (N fl) ≤ 24 by omega)
    refine lv_iload hx hb d_Ja_holdsOf_47 (lv_at hl 1 rfl) ?_
    refine lv_aload_n hx hb d_Ja_holdsOf_49 rfl (lv_at hl 4 rfl) ?_
    refine fg_Ja_16 hE hJ rfl d_Ja_holdsOf_50 ?_
    refine zz_imul hx hb d_Ja_holdsOf_53 ?_
    refine lv_aload_n hx hb d_Ja_holdsOf_54 rfl (lv_at hl 4 rfl) ?_
    refine fg_Ja_13 hE hJ rfl d_Ja_holdsOf_55 ?_
    refine lv_iload hx hb d_Ja_holdsOf_58 (lv_at hl 0 rfl) ?_
    refine zz_imul hx hb d_Ja_holdsOf_60 ?_
    refine zz_lt hx hb (by omega) (by omega) d_Ja_holdsOf_61 (tgt := 68) rfl (fun hT61 => ?_) (fun hF61 => ?_)
    · refine lv_iconst (v := nI 0) hx hb d_Ja_holdsOf_68 (by decide) ?_
      have hval : cJa nu de (F fl) (N fl) (F2 fl) (N2 fl) = false := by
          unfold cJa
          rw [decide_eq_true (show 0 < cWs (F fl) (N fl) (N fl) + cWs (F2 fl) (N2 fl) (N2 fl) - cSh (F fl) (N fl) (F2 fl) (N2 fl) (N fl) by omega), Bool.true_and]; simp; omega
      exact zz_iret hx hb hr hlk rfl ⟨rfl, by rw [hval]; rfl⟩ hL d_Ja_holdsOf_69
    · refine lv_iconst (v := nI 1) hx hb d_Ja_holdsOf_64 (by decide) ?_
      refine lv_goto hx hb d_Ja_holdsOf_65 (tgt := 69) rfl ?_
      have hval : cJa nu de (F fl) (N fl) (F2 fl) (N2 fl) = true := by
          unfold cJa
          rw [decide_eq_true (show 0 < cWs (F fl) (N fl) (N fl) + cWs (F2 fl) (N2 fl) (N2 fl) - cSh (F fl) (N fl) (F2 fl) (N2 fl) (N fl) by omega), Bool.true_and]; simp; omega
      exact zz_iret hx hb hr hlk rfl ⟨rfl, by rw [hval]; rfl⟩ hL d_Ja_holdsOf_69

set_option maxHeartbeats 4000000 in
set_option maxRecDepth 100000 in
theorem k_Ed_goThrough (l : Launch) (D : va_G) (ca : Nat → ClassId) (x fl mo : Nat) (R : Nat → Nat) (b n2 ty2 : Nat) (iw2 : Bool) (g : Nat → Nat) (c0 : Nat) (hc0 : c0 < 65536) (hn2 : n2 ≤ 12) (hg : ∀ j, j < 12 → g j < 65536) (hb1 : b ≠ x + 1) (hb2 : b + 1 ≠ x + 1) (hR : ∀ k, k ≤ n2 → R k ≤ 100) : Met l y_Ed_goThrough w_Ed_goThrough (zr 1 0 0) (zz_P D ca [.ref x, .int (nI c0), .ref b] (fun H => EdAt D ca H x fl mo R ∧ TeAt D ca H b g n2 ty2 iw2)) (zz_Q (fun H H1 v => v = none ∧ zz_fr (edFr x) H H1 ∧ ∃ B, EdAt D ca H1 x fl mo B ∧ ∀ k, k ≤ n2 → B k = rowS c0 g R k)) 0 0 (edFr x) := by
  refine zz_met (cc := c_Ed_goThrough) (by decide) (Nat.le_of_ble_eq_true rfl) ?_
  intro p e s m below meth c ls hE hr hlk hnm ⟨hM, hU⟩ hl
  have hx := hE.1.1
  have hb := hE.1.2.1
  have hK := hE.2
  have hl : lv_has ls 6 [(0, .ref x), (1, .int (nI c0)), (2, .ref b)] := hl
  have hL : zz_L (edFr x) ([] : List Loc) := zz_L.nil
  have hS : zz_fr (edFr x) s.heap s.heap := zz_fr.rf
  have hR0 := hR 0 (by omega)
  refine lv_aload_n hx hb d_Ed_goThrough_0 rfl (lv_at hl 0 rfl) ?_
  refine fg_Ed_9 hE hM.1 rfl d_Ed_goThrough_1 ?_
  refine lv_iconst (v := nI 0) hx hb d_Ed_goThrough_4 (by decide) ?_
  refine zz_iald hx hb hK.1 hM.2 0 rfl (i := 0) (by omega) (by omega) d_Ed_goThrough_5 ?_
  refine lv_istore_n hx hb d_Ed_goThrough_6 rfl hl (by decide) rfl (fun ls hl => ?_)
  have hl : lv_has ls 6 [(3, .int (nI (R 0))), (0, .ref x), (1, .int (nI c0)), (2, .ref b)] := hl
  refine lv_aload_n hx hb d_Ed_goThrough_7 rfl (lv_at hl 1 rfl) ?_
  refine fg_Ed_9 hE hM.1 rfl d_Ed_goThrough_8 ?_
  refine lv_iconst (v := nI 0) hx hb d_Ed_goThrough_11 (by decide) ?_
  refine lv_dup2_11 hx hb d_Ed_goThrough_12 rfl rfl ?_
  refine zz_iald hx hb hK.1 hM.2 0 rfl (i := 0) (by omega) (by omega) d_Ed_goThrough_13 ?_
  refine lv_iconst (v := nI 1) hx hb d_Ed_goThrough_14 (by decide) ?_
  refine zz_iadd hx hb d_Ed_goThrough_15 ?_
  refine zz_iast hx hb hK.1 hM.2 hL (show edFr x (x + 1) from rfl) 0 rfl (i := 0) (by omega) (by decide) d_Ed_goThrough_16 (fun H locs h1 hu hL => ?_)
  rw [te_up] at h1
  have hS := hS.up hu (show edFr x (x + 1) from rfl)
  have hM : EdAt D ca H x fl mo (va_up R 0 ((R 0) + 1)) := ⟨zz_keep hu (show x ≠ x + 1 by omega) hM.1, h1⟩
  have hU := hU.kp (hu.2 _ hb1) (hu.2 _ hb2)
  refine lv_iconst (v := nI 1) hx hb d_Ed_goThrough_17 (by decide) ?_
  refine lv_istore hx hb d_Ed_goThrough_18 hl (by decide) rfl (fun ls hl => ?_)
  have hl : lv_has ls 6 [(4, .int (nI 1)), (3, .int (nI (R 0))), (0, .ref x), (1, .int (nI c0)), (2, .ref b)] := hl
  have hl : lv_has ls 6 [(0, .ref x), (1, .int (nI c0)), (2, .ref b), (3, .int (nI (R 0))), (4, .int (nI 1))] := lv_sub hl [2, 3, 4, 1, 0] rfl
  refine zz_loopH (σ := Nat × (Nat → Nat)) (fun ⟨j, B⟩ ls H locs => lv_has ls 6 [(0, .ref x), (1, .int (nI c0)), (2, .ref b), (3, .int (nI (R (j - 1)))), (4, .int (nI j))] ∧ 1 ≤ j ∧ j ≤ n2 + 1 ∧ EdAt D ca H x fl mo B ∧ TeAt D ca H b g n2 ty2 iw2 ∧ (∀ k, k < j → B k = rowS c0 g R k) ∧ (∀ k, j ≤ k → B k = R k) ∧ zz_fr (edFr x) s.heap H ∧ zz_L (edFr x) locs) (fun ⟨j, B⟩ => n2 + 1 - j) ?_ (1, va_up R 0 (R 0 + 1)) ls _ _ ⟨hl, Nat.le_refl _, by omega, hM, hU, (fun k hk => by rw [show k = 0 by omega, va_up_self]; rfl), (fun k hk => va_up_ne _ _ (by omega)), hS, hL⟩
  rintro ⟨j, B⟩ ih ls H locs ⟨hl, hj1, hj2, hM, hU, hrow, hold, hS, hL⟩
  refine lv_iload hx hb d_Ed_goThrough_20 (lv_at hl 4 rfl) ?_
  refine lv_aload_n hx hb d_Ed_goThrough_22 rfl (lv_at hl 2 rfl) ?_
  refine fg_Ed_32 hE hU.1 rfl d_Ed_goThrough_23 ?_
  refine zz_gt hx hb (by omega) (by omega) d_Ed_goThrough_26 (tgt := 98) rfl (fun hT26 => ?_) (fun hF26 => ?_)
  · exact zz_vret hx hb hr hlk ⟨rfl, hS, B, hM, fun k hk => hrow k (by omega)⟩ hL d_Ed_goThrough_98
  · have q1 := hold j (Nat.le_refl _)
    have q2 := hrow (j - 1) (by omega)
    have q3 := rowS_le c0 g R (j - 1)
    have q4 := hR j (by omega)
    have q5 := hR (j - 1) (by omega)
    have q6 := hg (j - 1) (by omega)
    refine lv_aload_n hx hb d_Ed_goThrough_29 rfl (lv_at hl 2 rfl) ?_
    refine fg_Ed_37 hE hU.1 rfl d_Ed_goThrough_30 ?_
    refine lv_iload hx hb d_Ed_goThrough_33 (lv_at hl 4 rfl) ?_
    refine lv_iconst (v := nI 1) hx hb d_Ed_goThrough_35 (by decide) ?_
    refine zz_isub (by omega) hx hb d_Ed_goThrough_36 ?_
    refine zz_cald hx hb hK.1 hU.2 1 rfl (i := j - 1) (by omega) (by omega) d_Ed_goThrough_37 ?_
    refine lv_iload_n hx hb d_Ed_goThrough_38 rfl (lv_at hl 1 rfl) ?_
    refine zz_ne hx hb (by omega) (by omega) d_Ed_goThrough_39 (tgt := 46) rfl (fun hT39 => ?_) (fun hF39 => ?_)
    · refine lv_iload_n hx hb d_Ed_goThrough_46 rfl (lv_at hl 3 rfl) ?_
      refine lv_iconst (v := nI 1) hx hb d_Ed_goThrough_47 (by decide) ?_
      refine zz_iadd hx hb d_Ed_goThrough_48 ?_
      refine lv_istore hx hb d_Ed_goThrough_49 hl (by decide) rfl (fun ls hl => ?_)
      have hl : lv_has ls 6 [(5, .int (nI ((R (j - 1)) + 1))), (0, .ref x), (1, .int (nI c0)), (2, .ref b), (3, .int (nI (R (j - 1)))), (4, .int (nI j))] := hl
      refine lv_aload_n hx hb d_Ed_goThrough_51 rfl (lv_at hl 1 rfl) ?_
      refine fg_Ed_9 hE hM.1 rfl d_Ed_goThrough_52 ?_
      refine lv_iload hx hb d_Ed_goThrough_55 (lv_at hl 5 rfl) ?_
      refine zz_iald hx hb hK.1 hM.2 0 rfl (i := j) (by omega) (by omega) d_Ed_goThrough_57 ?_
      refine lv_istore_n hx hb d_Ed_goThrough_58 rfl hl (by decide) rfl (fun ls hl => ?_)
      have hl : lv_has ls 6 [(3, .int (nI (B j))), (5, .int (nI ((R (j - 1)) + 1))), (0, .ref x), (1, .int (nI c0)), (2, .ref b), (4, .int (nI j))] := hl
      refine lv_aload_n hx hb d_Ed_goThrough_59 rfl (lv_at hl 2 rfl) ?_
      refine fg_Ed_9 hE hM.1 rfl d_Ed_goThrough_60 ?_
      refine lv_iload hx hb d_Ed_goThrough_63 (lv_at hl 5 rfl) ?_
      refine lv_iload hx hb d_Ed_goThrough_65 (lv_at hl 1 rfl) ?_
      refine lv_aload_n hx hb d_Ed_goThrough_67 rfl (lv_at hl 2 rfl) ?_
      refine fg_Ed_9 hE hM.1 rfl d_Ed_goThrough_68 ?_
      refine lv_iload hx hb d_Ed_goThrough_71 (lv_at hl 5 rfl) ?_
      refine zz_iald hx hb hK.1 hM.2 0 rfl (i := j) (by omega) (by omega) d_Ed_goThrough_73 ?_
      refine lv_aload_n hx hb d_Ed_goThrough_74 rfl (lv_at hl 2 rfl) ?_
      refine fg_Ed_9 hE hM.1 rfl d_Ed_goThrough_75 ?_
      refine lv_iload hx hb d_Ed_goThrough_78 (lv_at hl 5 rfl) ?_
      refine lv_iconst (v := nI 1) hx hb d_Ed_goThrough_80 (by decide) ?_
      refine zz_isub (by omega) hx hb d_Ed_goThrough_81 ?_
      refine zz_iald hx hb hK.1 hM.2 0 rfl (i := j - 1) (by omega) (by omega) d_Ed_goThrough_82 ?_
      refine va_mmin (rest := [.int (nI ((R (j - 1)) + 1)), .int (nI j), .ref (x + 1)]) hx hb (by rw [hE.1.2.2.1]; exact hl.1.symm) hE.1.2.2.2.1 (hE.1.2.2.2.2 _ zm_300) (hE.1.2.2.2.2 _ zm_301) (hE.1.2.2.2.2 _ zm_10) (hE.1.2.2.2.2 _ zm_302) (Nat.le_of_ble_eq_true rfl) (Nat.le_of_ble_eq_true rfl) (by decide) (by decide) d_Ed_goThrough_83 ?_
      refine zz_top (zz_min (x := B j) (y := B (j - 1)) (by omega) (by omega)) ?_
      refine lv_iconst (v := nI 1) hx hb d_Ed_goThrough_86 (by decide) ?_
      refine zz_iadd hx hb d_Ed_goThrough_87 ?_
      refine va_mmin (rest := [.int (nI j), .ref (x + 1)]) hx hb (by rw [hE.1.2.2.1]; exact hl.1.symm) hE.1.2.2.2.1 (hE.1.2.2.2.2 _ zm_300) (hE.1.2.2.2.2 _ zm_301) (hE.1.2.2.2.2 _ zm_10) (hE.1.2.2.2.2 _ zm_302) (Nat.le_of_ble_eq_true rfl) (Nat.le_of_ble_eq_true rfl) (by decide) (by decide) d_Ed_goThrough_88 ?_
      refine zz_top (zz_min (x := (R (j - 1)) + 1) (y := (min (B j) (B (j - 1))) + 1) (by omega) (by omega)) ?_
      refine zz_iast hx hb hK.1 hM.2 hL (show edFr x (x + 1) from rfl) 0 rfl (i := j) (by omega) (by decide) d_Ed_goThrough_91 (fun H locs h1 hu hL => ?_)
      rw [te_up] at h1
      have hS := hS.up hu (show edFr x (x + 1) from rfl)
      have hM : EdAt D ca H x fl mo (va_up B j (min ((R (j - 1)) + 1) ((min (B j) (B (j - 1))) + 1))) := ⟨zz_keep hu (show x ≠ x + 1 by omega) hM.1, h1⟩
      have hU := hU.kp (hu.2 _ hb1) (hu.2 _ hb2)
      refine lv_iinc (k := 5) (v := nI (j + 1)) hx hb d_Ed_goThrough_92 hl rfl (zz_inc _) (by decide) rfl (fun ls hl => ?_)
      have hl : lv_has ls 6 [(4, .int (nI (j + 1))), (3, .int (nI (B j))), (5, .int (nI ((R (j - 1)) + 1))), (0, .ref x), (1, .int (nI c0)), (2, .ref b)] := hl
      refine lv_goto hx hb d_Ed_goThrough_95 (tgt := 20) rfl ?_
      have hrow9 : ∀ k, k < j + 1 → (va_up B j (min ((R (j - 1)) + 1) ((min (B j) (B (j - 1))) + 1))) k = rowS c0 g R k := fun k hk => by
        by_cases hkj : k = j
        · subst hkj
          rw [va_up_self]
          obtain ⟨j0, rfl⟩ : ∃ z, k = z + 1 := ⟨k - 1, by omega⟩
          simp only [rowS]
          rw [hold (j0 + 1) (Nat.le_refl _), show j0 + 1 - 1 = j0 by omega] at *
          rw [hrow j0 (by omega)]
          rw [if_neg hT39]
        · rw [va_up_ne _ _ hkj]; exact hrow k (by omega)
      have hold9 : ∀ k, j + 1 ≤ k → (va_up B j (min ((R (j - 1)) + 1) ((min (B j) (B (j - 1))) + 1))) k = R k := fun k hk => by rw [va_up_ne _ _ (by omega)]; exact hold k (by omega)
      have hdg9 : B j = R (j + 1 - 1) := by rw [hold j (Nat.le_refl _), show j + 1 - 1 = j by omega]
      have hl : lv_has ls 6 [(0, .ref x), (1, .int (nI c0)), (2, .ref b), (3, .int (nI (R (j + 1 - 1)))), (4, .int (nI (j + 1)))] := (by rw [← hdg9]; exact lv_sub hl [3, 4, 5, 1, 0] rfl)
      exact ih (j + 1, va_up B j (min ((R (j - 1)) + 1) ((min (B j) (B (j - 1))) + 1))) ls _ _ ⟨hl, by omega, by omega, hM, hU, hrow9, hold9, hS, hL⟩ (by show n2 + 1 - (j + 1) < n2 + 1 - j; omega)
    · refine lv_iload_n hx hb d_Ed_goThrough_42 rfl (lv_at hl 3 rfl) ?_
      refine lv_goto hx hb d_Ed_goThrough_43 (tgt := 49) rfl ?_
      refine lv_istore hx hb d_Ed_goThrough_49 hl (by decide) rfl (fun ls hl => ?_)
      have hl : lv_has ls 6 [(5, .int (nI (R (j - 1)))), (0, .ref x), (1, .int (nI c0)), (2, .ref b), (3, .int (nI (R (j - 1)))), (4, .int (nI j))] := hl
      refine lv_aload_n hx hb d_Ed_goThrough_51 rfl (lv_at hl 1 rfl) ?_
      refine fg_Ed_9 hE hM.1 rfl d_Ed_goThrough_52 ?_
      refine lv_iload hx hb d_Ed_goThrough_55 (lv_at hl 5 rfl) ?_
      refine zz_iald hx hb hK.1 hM.2 0 rfl (i := j) (by omega) (by omega) d_Ed_goThrough_57 ?_
      refine lv_istore_n hx hb d_Ed_goThrough_58 rfl hl (by decide) rfl (fun ls hl => ?_)
      have hl : lv_has ls 6 [(3, .int (nI (B j))), (5, .int (nI (R (j - 1)))), (0, .ref x), (1, .int (nI c0)), (2, .ref b), (4, .int (nI j))] := hl
      refine lv_aload_n hx hb d_Ed_goThrough_59 rfl (lv_at hl 2 rfl) ?_
      refine fg_Ed_9 hE hM.1 rfl d_Ed_goThrough_60 ?_
      refine lv_iload hx hb d_Ed_goThrough_63 (lv_at hl 5 rfl) ?_
      refine lv_iload hx hb d_Ed_goThrough_65 (lv_at hl 1 rfl) ?_
      refine lv_aload_n hx hb d_Ed_goThrough_67 rfl (lv_at hl 2 rfl) ?_
      refine fg_Ed_9 hE hM.1 rfl d_Ed_goThrough_68 ?_
      refine lv_iload hx hb d_Ed_goThrough_71 (lv_at hl 5 rfl) ?_
      refine zz_iald hx hb hK.1 hM.2 0 rfl (i := j) (by omega) (by omega) d_Ed_goThrough_73 ?_
      refine lv_aload_n hx hb d_Ed_goThrough_74 rfl (lv_at hl 2 rfl) ?_
      refine fg_Ed_9 hE hM.1 rfl d_Ed_goThrough_75 ?_
      refine lv_iload hx hb d_Ed_goThrough_78 (lv_at hl 5 rfl) ?_
      refine lv_iconst (v := nI 1) hx hb d_Ed_goThrough_80 (by decide) ?_
      refine zz_isub (by omega) hx hb d_Ed_goThrough_81 ?_
      refine zz_iald hx hb hK.1 hM.2 0 rfl (i := j - 1) (by omega) (by omega) d_Ed_goThrough_82 ?_
      refine va_mmin (rest := [.int (nI (R (j - 1))), .int (nI j), .ref (x + 1)]) hx hb (by rw [hE.1.2.2.1]; exact hl.1.symm) hE.1.2.2.2.1 (hE.1.2.2.2.2 _ zm_300) (hE.1.2.2.2.2 _ zm_301) (hE.1.2.2.2.2 _ zm_10) (hE.1.2.2.2.2 _ zm_302) (Nat.le_of_ble_eq_true rfl) (Nat.le_of_ble_eq_true rfl) (by decide) (by decide) d_Ed_goThrough_83 ?_
      refine zz_top (zz_min (x := B j) (y := B (j - 1)) (by omega) (by omega)) ?_
      refine lv_iconst (v := nI 1) hx hb d_Ed_goThrough_86 (by decide) ?_
      refine zz_iadd hx hb d_Ed_goThrough_87 ?_
      refine va_mmin (rest := [.int (nI j), .ref (x + 1)]) hx hb (by rw [hE.1.2.2.1]; exact hl.1.symm) hE.1.2.2.2.1 (hE.1.2.2.2.2 _ zm_300) (hE.1.2.2.2.2 _ zm_301) (hE.1.2.2.2.2 _ zm_10) (hE.1.2.2.2.2 _ zm_302) (Nat.le_of_ble_eq_true rfl) (Nat.le_of_ble_eq_true rfl) (by decide) (by decide) d_Ed_goThrough_88 ?_
      refine zz_top (zz_min (x := R (j - 1)) (y := (min (B j) (B (j - 1))) + 1) (by omega) (by omega)) ?_
      refine zz_iast hx hb hK.1 hM.2 hL (show edFr x (x + 1) from rfl) 0 rfl (i := j) (by omega) (by decide) d_Ed_goThrough_91 (fun H locs h1 hu hL => ?_)
      rw [te_up] at h1
      have hS := hS.up hu (show edFr x (x + 1) from rfl)
      have hM : EdAt D ca H x fl mo (va_up B j (min (R (j - 1)) ((min (B j) (B (j - 1))) + 1))) := ⟨zz_keep hu (show x ≠ x + 1 by omega) hM.1, h1⟩
      have hU := hU.kp (hu.2 _ hb1) (hu.2 _ hb2)
      refine lv_iinc (k := 5) (v := nI (j + 1)) hx hb d_Ed_goThrough_92 hl rfl (zz_inc _) (by decide) rfl (fun ls hl => ?_)
      have hl : lv_has ls 6 [(4, .int (nI (j + 1))), (3, .int (nI (B j))), (5, .int (nI (R (j - 1)))), (0, .ref x), (1, .int (nI c0)), (2, .ref b)] := hl
      refine lv_goto hx hb d_Ed_goThrough_95 (tgt := 20) rfl ?_
      have hrow9 : ∀ k, k < j + 1 → (va_up B j (min (R (j - 1)) ((min (B j) (B (j - 1))) + 1))) k = rowS c0 g R k := fun k hk => by
        by_cases hkj : k = j
        · subst hkj
          rw [va_up_self]
          obtain ⟨j0, rfl⟩ : ∃ z, k = z + 1 := ⟨k - 1, by omega⟩
          simp only [rowS]
          rw [hold (j0 + 1) (Nat.le_refl _), show j0 + 1 - 1 = j0 by omega] at *
          rw [hrow j0 (by omega)]
          rw [if_pos hF39]; rfl
        · rw [va_up_ne _ _ hkj]; exact hrow k (by omega)
      have hold9 : ∀ k, j + 1 ≤ k → (va_up B j (min (R (j - 1)) ((min (B j) (B (j - 1))) + 1))) k = R k := fun k hk => by rw [va_up_ne _ _ (by omega)]; exact hold k (by omega)
      have hdg9 : B j = R (j + 1 - 1) := by rw [hold j (Nat.le_refl _), show j + 1 - 1 = j by omega]
      have hl : lv_has ls 6 [(0, .ref x), (1, .int (nI c0)), (2, .ref b), (3, .int (nI (R (j + 1 - 1)))), (4, .int (nI (j + 1)))] := (by rw [← hdg9]; exact lv_sub hl [3, 4, 5, 1, 0] rfl)
      exact ih (j + 1, va_up B j (min (R (j - 1)) ((min (B j) (B (j - 1))) + 1))) ls _ _ ⟨hl, by omega, by omega, hM, hU, hrow9, hold9, hS, hL⟩ (by show n2 + 1 - (j + 1) < n2 + 1 - j; omega)
