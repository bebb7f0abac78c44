/-- how many records of the same name have a record's text -/
def cHv (A : Nat → Nat → Nat) (F : Nat → Nat → Nat → Nat) (N : Nat → Nat → Nat) (r1 f1 : Nat) : Nat → Nat := zcnt (fun r => decide (A 3 r = A 3 r1) && decide (cCmp (F r f1) (N r f1) (F r1 f1) (N r1 f1) = 0))
def cBt (n : Nat) (A : Nat → Nat → Nat) (F : Nat → Nat → Nat → Nat) (N : Nat → Nat → Nat) (K : Nat → Nat) (r1 r2 f1 : Nat) : Bool := if K f1 = 0 ∨ N r1 f1 = 0 ∨ N r2 f1 = 0 then decide (N r2 f1 < N r1 f1) else if K f1 = 1 then decide (cHv A F N r2 f1 n < cHv A F N r1 f1 n) else decide (cCmp (F r1 f1) (N r1 f1) (F r2 f1) (N r2 f1) < 0)

set_option maxHeartbeats 4000000 in
set_option maxRecDepth 100000 in
theorem k_RM_countHavingTextOf (l : Launch) (D : va_G) (ca : Nat → ClassId) (o n h : Nat) (rl : Option Nat) (S : Nat → Option Nat) (K : Nat → Nat) (tk wk : Nat) (A : Nat → Nat → Nat) (F : Nat → Nat → Nat → Nat) (N Y : Nat → Nat → Nat) (W0 : Nat → Nat → Bool) (hn : n ≤ 12) (hN : ∀ i f, N i f ≤ 12) (hF : ∀ i f j, j < 12 → F i f j < 65536) (hld : ∀ a, a < n → A 3 a < 12) (r1 f1 : Nat) (hr1 : r1 < n) (hf1 : f1 ≤ 1) : Met l y_RM_countHavingTextOf w_RM_countHavingTextOf (zr 2 0 0) (zz_P D ca [.ref o, .int (nI r1), .int (nI f1)] (fun H => RmAt D ca H o n h rl S K ∧ RuAt D ca H (o + 3) tk wk A ∧ EnAll D ca H o F N Y W0)) (zz_Q (fun H H1 v => H1 = H ∧ v = some (.int (nI (cHv A F N r1 f1 n))))) 0 0 (fun _ => False) := by
  refine zz_met (cc := c_RM_countHavingTextOf) (by decide) (Nat.le_of_ble_eq_true rfl) ?_
  intro p e s m below meth c ls hE hr hlk hnm ⟨hM, hR, hA⟩ hl
  have hx := hE.1.1
  have hb := hE.1.2.1
  have hK := hE.2
  have hl : lv_has ls 6 [(0, .ref o), (1, .int (nI r1)), (2, .int (nI f1))] := hl
  have hL : zz_L (fun _ => False) ([] : List Loc) := zz_L.nil
  have hLd : va_at D zC (o + 3 + 3, .inl (ca 0, 12, .inl (fun j => nI (A 3 j)))) s.heap := hR.2 3 (by decide) (by decide)
  have hU := (hA r1 (by omega)).tx hf1
  have q1 := hld r1 hr1
  refine lv_aload_n hx hb d_RM_countHavingTextOf_0 rfl (lv_at hl 0 rfl) ?_
  refine lv_iload_n hx hb d_RM_countHavingTextOf_1 rfl (lv_at hl 1 rfl) ?_
  refine lv_iload_n hx hb d_RM_countHavingTextOf_2 rfl (lv_at hl 2 rfl) ?_
  refine zz_callP (cl_RM_41 (rest := []) hE (k_RM_textOf l D ca o n h rl S K r1 f1 (by omega) (by omega) (F r1) (N r1) (Y r1) (W0 r1)) ⟨rfl, rfl, by decide, by decide⟩ ⟨hM, hA _ (by omega)⟩ hM.1 rfl hl.1 rfl (Nat.le_of_ble_eq_true rfl) d_RM_countHavingTextOf_3 ⟨by decide, by decide⟩) ?_
  refine lv_astore_n hx hb d_RM_countHavingTextOf_6 rfl hl (by decide) rfl (fun ls hl => ?_)
  have hl : lv_has ls 6 [(3, .ref (o + 8 + 5 * r1 + 1 + 2 * f1)), (0, .ref o), (1, .int (nI r1)), (2, .int (nI f1))] := hl
  refine lv_iconst (v := nI 0) hx hb d_RM_countHavingTextOf_7 (by decide) ?_
  refine lv_istore hx hb d_RM_countHavingTextOf_8 hl (by decide) rfl (fun ls hl => ?_)
  have hl : lv_has ls 6 [(4, .int (nI 0)), (3, .ref (o + 8 + 5 * r1 + 1 + 2 * f1)), (0, .ref o), (1, .int (nI r1)), (2, .int (nI f1))] := hl
  refine lv_iconst (v := nI 0) hx hb d_RM_countHavingTextOf_10 (by decide) ?_
  refine lv_istore hx hb d_RM_countHavingTextOf_11 hl (by decide) rfl (fun ls hl => ?_)
  have hl : lv_has ls 6 [(5, .int (nI 0)), (4, .int (nI 0)), (3, .ref (o + 8 + 5 * r1 + 1 + 2 * f1)), (0, .ref o), (1, .int (nI r1)), (2, .int (nI f1))] := hl
  have hl : lv_has ls 6 [(0, .ref o), (1, .int (nI r1)), (2, .int (nI f1)), (3, .ref (o + 8 + 5 * r1 + 1 + 2 * f1)), (4, .int (nI 0)), (5, .int (nI 0))] := lv_sub hl [3, 4, 5, 2, 1, 0] rfl
  refine zz_loopP (σ := Nat) (fun k ls => lv_has ls 6 [(0, .ref o), (1, .int (nI r1)), (2, .int (nI f1)), (3, .ref (o + 8 + 5 * r1 + 1 + 2 * f1)), (4, .int (nI (cHv A F N r1 f1 k))), (5, .int (nI k))] ∧ k ≤ n) (fun k => n - k) ?_ 0 ls ⟨hl, Nat.zero_le _⟩
  rintro k ih ls ⟨hl, hk⟩
  refine lv_iload hx hb d_RM_countHavingTextOf_13 (lv_at hl 5 rfl) ?_
  refine lv_aload_n hx hb d_RM_countHavingTextOf_15 rfl (lv_at hl 0 rfl) ?_
  refine fg_RM_37 hE hM.1 rfl d_RM_countHavingTextOf_16 ?_
  refine zz_ge hx hb (by omega) (by omega) d_RM_countHavingTextOf_19 (tgt := 67) rfl (fun hT19 => ?_) (fun hF19 => ?_)
  · refine lv_iload hx hb d_RM_countHavingTextOf_67 (lv_at hl 4 rfl) ?_
    exact zz_iret hx hb hr hlk rfl ⟨rfl, congrArg (fun z => some (Value.int z)) (by rw [show k = n by omega])⟩ hL d_RM_countHavingTextOf_69
  · have q2 := hld k (by omega)
    have hT := (hA k (by omega)).tx hf1
    refine lv_aload_n hx hb d_RM_countHavingTextOf_22 rfl (lv_at hl 0 rfl) ?_
    refine fg_RM_24 hE hM.1 rfl d_RM_countHavingTextOf_23 ?_
    refine fg_RM_161 hE hR.1 rfl d_RM_countHavingTextOf_26 ?_
    refine lv_iload hx hb d_RM_countHavingTextOf_29 (lv_at hl 5 rfl) ?_
    refine zz_iald hx hb hK.1 hLd 0 rfl (i := k) (by omega) (by omega) d_RM_countHavingTextOf_31 ?_
    refine lv_aload_n hx hb d_RM_countHavingTextOf_32 rfl (lv_at hl 0 rfl) ?_
    refine fg_RM_24 hE hM.1 rfl d_RM_countHavingTextOf_33 ?_
    refine fg_RM_161 hE hR.1 rfl d_RM_countHavingTextOf_36 ?_
    refine lv_iload_n hx hb d_RM_countHavingTextOf_39 rfl (lv_at hl 1 rfl) ?_
    refine zz_iald hx hb hK.1 hLd 0 rfl (i := r1) (by omega) (by omega) d_RM_countHavingTextOf_40 ?_
    refine zz_ne hx hb (by omega) (by omega) d_RM_countHavingTextOf_41 (tgt := 61) rfl (fun hT41 => ?_) (fun hF41 => ?_)
    · refine lv_iinc (k := 5) (v := nI (k + 1)) hx hb d_RM_countHavingTextOf_61 hl rfl (zz_inc _) (by decide) rfl (fun ls hl => ?_)
      have hl : lv_has ls 6 [(5, .int (nI (k + 1))), (0, .ref o), (1, .int (nI r1)), (2, .int (nI f1)), (3, .ref (o + 8 + 5 * r1 + 1 + 2 * f1)), (4, .int (nI (cHv A F N r1 f1 k)))] := hl
      refine lv_goto hx hb d_RM_countHavingTextOf_64 (tgt := 13) rfl ?_
      have hl : lv_has ls 6 [(0, .ref o), (1, .int (nI r1)), (2, .int (nI f1)), (3, .ref (o + 8 + 5 * r1 + 1 + 2 * f1)), (4, .int (nI (cHv A F N r1 f1 (k + 1)))), (5, .int (nI (k + 1)))] := (by rw [show cHv A F N r1 f1 (k + 1) = cHv A F N r1 f1 k from by rw [show cHv A F N r1 f1 (k + 1) = cHv A F N r1 f1 k + (decide (A 3 k = A 3 r1) && decide (cCmp (F k f1) (N k f1) (F r1 f1) (N r1 f1) = 0)).toNat from rfl]; rw [decide_eq_false hT41]; simp]; exact lv_sub hl [1, 2, 3, 4, 5, 0] rfl)
      exact ih (k + 1) ls ⟨hl, by omega⟩ (by omega)
    · refine lv_aload_n hx hb d_RM_countHavingTextOf_44 rfl (lv_at hl 0 rfl) ?_
      refine lv_iload hx hb d_RM_countHavingTextOf_45 (lv_at hl 5 rfl) ?_
      refine lv_iload_n hx hb d_RM_countHavingTextOf_47 rfl (lv_at hl 2 rfl) ?_
      refine zz_callP (cl_RM_41 (rest := []) hE (k_RM_textOf l D ca o n h rl S K k f1 (by omega) (by omega) (F k) (N k) (Y k) (W0 k)) ⟨rfl, rfl, by decide, by decide⟩ ⟨hM, hA _ (by omega)⟩ hM.1 rfl hl.1 rfl (Nat.le_of_ble_eq_true rfl) d_RM_countHavingTextOf_48 ⟨by decide, by decide⟩) ?_
      refine lv_aload_n hx hb d_RM_countHavingTextOf_51 rfl (lv_at hl 3 rfl) ?_
      refine zz_callP (cl_RM_178 (rest := []) hE (k_Te_compareWith l D ca (o + 8 + 5 * k + 1 + 2 * f1) (N k f1) (Y k f1) (W0 k f1) (F k f1) (o + 8 + 5 * r1 + 1 + 2 * f1) (N r1 f1) (Y r1 f1) (W0 r1 f1) (F r1 f1) (hN _ _) (hN _ _) (hF _ _) (hF _ _)) ⟨rfl, rfl, by decide, by decide⟩ ⟨hT, hU⟩ hT.1 rfl hl.1 rfl (Nat.le_of_ble_eq_true rfl) d_RM_countHavingTextOf_52 ⟨by decide, by decide⟩) ?_
      refine lv_if_ne hx hb d_RM_countHavingTextOf_55 (tgt := 61) rfl (fun hT55 => ?_) (fun hF55 => ?_)
      · refine lv_iinc (k := 5) (v := nI (k + 1)) hx hb d_RM_countHavingTextOf_61 hl rfl (zz_inc _) (by decide) rfl (fun ls hl => ?_)
        have hl : lv_has ls 6 [(5, .int (nI (k + 1))), (0, .ref o), (1, .int (nI r1)), (2, .int (nI f1)), (3, .ref (o + 8 + 5 * r1 + 1 + 2 * f1)), (4, .int (nI (cHv A F N r1 f1 k)))] := hl
        refine lv_goto hx hb d_RM_countHavingTextOf_64 (tgt := 13) rfl ?_
        have hl : lv_has ls 6 [(0, .ref o), (1, .int (nI r1)), (2, .int (nI f1)), (3, .ref (o + 8 + 5 * r1 + 1 + 2 * f1)), (4, .int (nI (cHv A F N r1 f1 (k + 1)))), (5, .int (nI (k + 1)))] := (by rw [show cHv A F N r1 f1 (k + 1) = cHv A F N r1 f1 k from by rw [show cHv A F N r1 f1 (k + 1) = cHv A F N r1 f1 k + (decide (A 3 k = A 3 r1) && decide (cCmp (F k f1) (N k f1) (F r1 f1) (N r1 f1) = 0)).toNat from rfl]; rw [decide_eq_true hF41]; simp [hT55]]; exact lv_sub hl [1, 2, 3, 4, 5, 0] rfl)
        exact ih (k + 1) ls ⟨hl, by omega⟩ (by omega)
      · refine lv_iinc (k := 4) (v := nI (cHv A F N r1 f1 k + 1)) hx hb d_RM_countHavingTextOf_58 hl rfl (zz_inc _) (by decide) rfl (fun ls hl => ?_)
        have hl : lv_has ls 6 [(4, .int (nI (cHv A F N r1 f1 k + 1))), (0, .ref o), (1, .int (nI r1)), (2, .int (nI f1)), (3, .ref (o + 8 + 5 * r1 + 1 + 2 * f1)), (5, .int (nI k))] := hl
        refine lv_iinc (k := 5) (v := nI (k + 1)) hx hb d_RM_countHavingTextOf_61 hl rfl (zz_inc _) (by decide) rfl (fun ls hl => ?_)
        have hl : lv_has ls 6 [(5, .int (nI (k + 1))), (4, .int (nI (cHv A F N r1 f1 k + 1))), (0, .ref o), (1, .int (nI r1)), (2, .int (nI f1)), (3, .ref (o + 8 + 5 * r1 + 1 + 2 * f1))] := hl
        refine lv_goto hx hb d_RM_countHavingTextOf_64 (tgt := 13) rfl ?_
        have hl : lv_has ls 6 [(0, .ref o), (1, .int (nI r1)), (2, .int (nI f1)), (3, .ref (o + 8 + 5 * r1 + 1 + 2 * f1)), (4, .int (nI (cHv A F N r1 f1 (k + 1)))), (5, .int (nI (k + 1)))] := (by rw [show cHv A F N r1 f1 (k + 1) = cHv A F N r1 f1 k + 1 from by rw [show cHv A F N r1 f1 (k + 1) = cHv A F N r1 f1 k + (decide (A 3 k = A 3 r1) && decide (cCmp (F k f1) (N k f1) (F r1 f1) (N r1 f1) = 0)).toNat from rfl]; rw [decide_eq_true hF41]; simp [hF55]]; exact lv_sub hl [2, 3, 4, 5, 1, 0] rfl)
        exact ih (k + 1) ls ⟨hl, by omega⟩ (by omega)

set_option maxHeartbeats 4000000 in
set_option maxRecDepth 100000 in
theorem k_RM_isBetter (l : Launch) (D : va_G) (ca : Nat → ClassId) (o n h : Nat) (rl : Option Nat) (S : Nat → Option Nat) (K : Nat → Nat) (tk wk : Nat) (A : Nat → Nat → Nat) (F : Nat → Nat → Nat → Nat) (N Y : Nat → Nat → Nat) (W0 : Nat → Nat → Bool) (hn : n ≤ 12) (hN : ∀ i f, N i f ≤ 12) (hF : ∀ i f j, j < 12 → F i f j < 65536) (hld : ∀ a, a < n → A 3 a < 12) (r1 r2 f1 : Nat) (hr1 : r1 < n) (hr2 : r2 < n) (hf1 : f1 ≤ 1) (hK2 : K f1 ≤ 2) : Met l y_RM_isBetter w_RM_isBetter (zr 3 0 0) (zz_P D ca [.ref o, .int (nI r1), .int (nI r2), .int (nI f1)] (fun H => RmAt D ca H o n h rl S K ∧ RuAt D ca H (o + 3) tk wk A ∧ EnAll D ca H o F N Y W0)) (zz_Q (fun H H1 v => H1 = H ∧ v = some (.int (nI (cBt n A F N K r1 r2 f1).toNat)))) 0 0 (fun _ => False) := by
  refine zz_met (cc := c_RM_isBetter) (by decide) (Nat.le_of_ble_eq_true rfl) ?_
  intro p e s m below meth c ls hE hr hlk hnm ⟨hM, hR, hA⟩ hl
  have hx := hE.1.1
  have hb := hE.1.2.1
  have hK := hE.2
  have hl : lv_has ls 6 [(0, .ref o), (1, .int (nI r1)), (2, .int (nI r2)), (3, .int (nI f1))] := hl
  have hL : zz_L (fun _ => False) ([] : List Loc) := zz_L.nil
  have hLd : va_at D zC (o + 3 + 3, .inl (ca 0, 12, .inl (fun j => nI (A 3 j)))) s.heap := hR.2 3 (by decide) (by decide)
  have hT := (hA r1 (by omega)).tx hf1
  have hU := (hA r2 (by omega)).tx hf1
  have n1 := hN r1 f1
  have n2 := hN r2 f1
  have c1 : cHv A F N r1 f1 n ≤ n := zcnt_le _ _
  have c2 : cHv A F N r2 f1 n ≤ n := zcnt_le _ _
  refine lv_aload_n hx hb d_RM_isBetter_0 rfl (lv_at hl 0 rfl) ?_
  refine lv_iload_n hx hb d_RM_isBetter_1 rfl (lv_at hl 1 rfl) ?_
  refine lv_iload_n hx hb d_RM_isBetter_2 rfl (lv_at hl 3 rfl) ?_
  refine zz_callP (cl_RM_41 (rest := []) hE (k_RM_textOf l D ca o n h rl S K r1 f1 (by omega) (by omega) (F r1) (N r1) (Y r1) (W0 r1)) ⟨rfl, rfl, by decide, by decide⟩ ⟨hM, hA _ (by omega)⟩ hM.1 rfl hl.1 rfl (Nat.le_of_ble_eq_true rfl) d_RM_isBetter_3 ⟨by decide, by decide⟩) ?_
  refine lv_astore hx hb d_RM_isBetter_6 hl (by decide) rfl (fun ls hl => ?_)
  have hl : lv_has ls 6 [(4, .ref (o + 8 + 5 * r1 + 1 + 2 * f1)), (0, .ref o), (1, .int (nI r1)), (2, .int (nI r2)), (3, .int (nI f1))] := hl
  refine lv_aload_n hx hb d_RM_isBetter_8 rfl (lv_at hl 1 rfl) ?_
  refine lv_iload_n hx hb d_RM_isBetter_9 rfl (lv_at hl 3 rfl) ?_
  refine lv_iload_n hx hb d_RM_isBetter_10 rfl (lv_at hl 4 rfl) ?_
  refine zz_callP (cl_RM_41 (rest := []) hE (k_RM_textOf l D ca o n h rl S K r2 f1 (by omega) (by omega) (F r2) (N r2) (Y r2) (W0 r2)) ⟨rfl, rfl, by decide, by decide⟩ ⟨hM, hA _ (by omega)⟩ hM.1 rfl hl.1 rfl (Nat.le_of_ble_eq_true rfl) d_RM_isBetter_11 ⟨by decide, by decide⟩) ?_
  refine lv_astore hx hb d_RM_isBetter_14 hl (by decide) rfl (fun ls hl => ?_)
  have hl : lv_has ls 6 [(5, .ref (o + 8 + 5 * r2 + 1 + 2 * f1)), (4, .ref (o + 8 + 5 * r1 + 1 + 2 * f1)), (0, .ref o), (1, .int (nI r1)), (2, .int (nI r2)), (3, .int (nI f1))] := hl
  refine lv_aload_n hx hb d_RM_isBetter_16 rfl (lv_at hl 2 rfl) ?_
  refine fg_RM_28 hE hM.1 rfl d_RM_isBetter_17 ?_
  refine lv_iload_n hx hb d_RM_isBetter_20 rfl (lv_at hl 5 rfl) ?_
  refine zz_iald hx hb hK.1 hM.2.2.2 0 rfl (i := f1) (by omega) (by omega) d_RM_isBetter_21 ?_
  refine zz_eq0 hx hb (by omega) d_RM_isBetter_22 (tgt := 41) rfl (fun hT22 => ?_) (fun hF22 => ?_)
  · refine lv_aload hx hb d_RM_isBetter_41 (lv_at hl 1 rfl) ?_
    refine fg_RM_61 hE hT.1 rfl d_RM_isBetter_43 ?_
    refine lv_aload hx hb d_RM_isBetter_46 (lv_at hl 0 rfl) ?_
    refine fg_RM_61 hE hU.1 rfl d_RM_isBetter_48 ?_
    refine zz_le hx hb (by omega) (by omega) d_RM_isBetter_51 (tgt := 58) rfl (fun hT51 => ?_) (fun hF51 => ?_)
    · refine lv_iconst (v := nI 0) hx hb d_RM_isBetter_58 (by decide) ?_
      have hval : cBt n A F N K r1 r2 f1 = false := by
          unfold cBt
          rw [if_pos (by omega)]; simp; omega
      exact zz_iret hx hb hr hlk rfl ⟨rfl, by rw [hval]; rfl⟩ hL d_RM_isBetter_59
    · refine lv_iconst (v := nI 1) hx hb d_RM_isBetter_54 (by decide) ?_
      refine lv_goto hx hb d_RM_isBetter_55 (tgt := 59) rfl ?_
      have hval : cBt n A F N K r1 r2 f1 = true := by
          unfold cBt
          rw [if_pos (by omega)]; simp; omega
      exact zz_iret hx hb hr hlk rfl ⟨rfl, by rw [hval]; rfl⟩ hL d_RM_isBetter_59
  · refine lv_aload hx hb d_RM_isBetter_25 (lv_at hl 1 rfl) ?_
    refine fg_RM_61 hE hT.1 rfl d_RM_isBetter_27 ?_
    refine zz_eq0 hx hb (by omega) d_RM_isBetter_30 (tgt := 41) rfl (fun hT30 => ?_) (fun hF30 => ?_)
    · refine lv_aload hx hb d_RM_isBetter_41 (lv_at hl 1 rfl) ?_
      refine fg_RM_61 hE hT.1 rfl d_RM_isBetter_43 ?_
      refine lv_aload hx hb d_RM_isBetter_46 (lv_at hl 0 rfl) ?_
      refine fg_RM_61 hE hU.1 rfl d_RM_isBetter_48 ?_
      refine zz_le hx hb (by omega) (by omega) d_RM_isBetter_51 (tgt := 58) rfl (fun hT51 => ?_) (fun hF51 => ?_)
      · refine lv_iconst (v := nI 0) hx hb d_RM_isBetter_58 (by decide) ?_
        have hval : cBt n A F N K r1 r2 f1 = false := by
            unfold cBt
            rw [if_pos (by omega)]; simp; omega
        exact zz_iret hx hb hr hlk rfl ⟨rfl, by rw [hval]; rfl⟩ hL d_RM_isBetter_59
      · refine lv_iconst (v := nI 1) hx hb d_RM_isBetter_54 (by decide) ?_
        refine lv_goto hx hb d_RM_isBetter_55 (tgt := 59) rfl ?_
        have hval : cBt n A F N K r1 r2 f1 = true := by
            unfold cBt
            rw [if_pos (by omega)]; simp; omega
        exact zz_iret hx hb hr hlk rfl ⟨rfl, by rw [hval]; rfl⟩ hL d_RM_isBetter_59
    · refine lv_aload hx hb d_RM_isBetter_33 (lv_at hl 0 rfl) ?_
      refine fg_RM_61 hE hU.1 rfl d_RM_isBetter_35 ?_
      refine zz_ne0 hx hb (by omega) d_RM_isBetter_38 (tgt := 60) rfl (fun hT38 => ?_) (fun hF38 => ?_)
      · refine lv_aload_n hx hb d_RM_isBetter_60 rfl (lv_at hl 2 rfl) ?_
        refine fg_RM_28 hE hM.1 rfl d_RM_isBetter_61 ?_
        refine lv_iload_n hx hb d_RM_isBetter_64 rfl (lv_at hl 5 rfl) ?_
        refine zz_iald hx hb hK.1 hM.2.2.2 0 rfl (i := f1) (by omega) (by omega) d_RM_isBetter_65 ?_
        refine lv_iconst (v := nI 1) hx hb d_RM_isBetter_66 (by decide) ?_
        refine zz_ne hx hb (by omega) (by omega) d_RM_isBetter_67 (tgt := 91) rfl (fun hT67 => ?_) (fun hF67 => ?_)
        · refine lv_aload hx hb d_RM_isBetter_91 (lv_at hl 1 rfl) ?_
          refine lv_aload hx hb d_RM_isBetter_93 (lv_at hl 0 rfl) ?_
          refine zz_callP (cl_RM_178 (rest := []) hE (k_Te_compareWith l D ca (o + 8 + 5 * r1 + 1 + 2 * f1) (N r1 f1) (Y r1 f1) (W0 r1 f1) (F r1 f1) (o + 8 + 5 * r2 + 1 + 2 * f1) (N r2 f1) (Y r2 f1) (W0 r2 f1) (F r2 f1) (hN _ _) (hN _ _) (hF _ _) (hF _ _)) ⟨rfl, rfl, by decide, by decide⟩ ⟨hT, hU⟩ hT.1 rfl hl.1 rfl (Nat.le_of_ble_eq_true rfl) d_RM_isBetter_95 ⟨by decide, by decide⟩) ?_
          refine lv_if_ge hx hb d_RM_isBetter_98 (tgt := 105) rfl (fun hT98 => ?_) (fun hF98 => ?_)
          · refine lv_iconst (v := nI 0) hx hb d_RM_isBetter_105 (by decide) ?_
            have hval : cBt n A F N K r1 r2 f1 = false := by
                unfold cBt
                rw [if_neg (by omega), if_neg (by omega)]; simp only [decide_eq_true_eq, decide_eq_false_iff_not]; first | exact k2_lt hT98 | exact k2_nlt hT98
            exact zz_iret hx hb hr hlk rfl ⟨rfl, by rw [hval]; rfl⟩ hL d_RM_isBetter_106
          · refine lv_iconst (v := nI 1) hx hb d_RM_isBetter_101 (by decide) ?_
            refine lv_goto hx hb d_RM_isBetter_102 (tgt := 106) rfl ?_
            have hval : cBt n A F N K r1 r2 f1 = true := by
                unfold cBt
                rw [if_neg (by omega), if_neg (by omega)]; simp only [decide_eq_true_eq, decide_eq_false_iff_not]; first | exact k2_lt hF98 | exact k2_nlt hF98
            exact zz_iret hx hb hr hlk rfl ⟨rfl, by rw [hval]; rfl⟩ hL d_RM_isBetter_106
        · refine lv_aload_n hx hb d_RM_isBetter_70 rfl (lv_at hl 2 rfl) ?_
          refine lv_iload_n hx hb d_RM_isBetter_71 rfl (lv_at hl 3 rfl) ?_
          refine lv_iload_n hx hb d_RM_isBetter_72 rfl (lv_at hl 5 rfl) ?_
          refine zz_callP (cl_RM_175 (rest := []) hE (k_RM_countHavingTextOf l D ca o n h rl S K tk wk A F N Y W0 hn hN hF hld r1 f1 (by omega) hf1) ⟨rfl, rfl, by decide, by decide⟩ ⟨hM, hR, hA⟩ hM.1 rfl hl.1 rfl (Nat.le_of_ble_eq_true rfl) d_RM_isBetter_73 ⟨by decide, by decide⟩) ?_
          refine lv_aload_n hx hb d_RM_isBetter_76 rfl (lv_at hl 2 rfl) ?_
          refine lv_iload_n hx hb d_RM_isBetter_77 rfl (lv_at hl 4 rfl) ?_
          refine lv_iload_n hx hb d_RM_isBetter_78 rfl (lv_at hl 5 rfl) ?_
          refine zz_callP (cl_RM_175 (rest := [.int (nI (cHv A F N r1 f1 n))]) hE (k_RM_countHavingTextOf l D ca o n h rl S K tk wk A F N Y W0 hn hN hF hld r2 f1 (by omega) hf1) ⟨rfl, rfl, by decide, by decide⟩ ⟨hM, hR, hA⟩ hM.1 rfl hl.1 rfl (Nat.le_of_ble_eq_true rfl) d_RM_isBetter_79 ⟨by decide, by decide⟩) ?_
          refine zz_le hx hb (by omega) (by omega) d_RM_isBetter_82 (tgt := 89) rfl (fun hT82 => ?_) (fun hF82 => ?_)
          · refine lv_iconst (v := nI 0) hx hb d_RM_isBetter_89 (by decide) ?_
            have hval : cBt n A F N K r1 r2 f1 = false := by
                unfold cBt
                rw [if_neg (by omega), if_pos (by omega)]; simp; omega
            exact zz_iret hx hb hr hlk rfl ⟨rfl, by rw [hval]; rfl⟩ hL d_RM_isBetter_90
          · refine lv_iconst (v := nI 1) hx hb d_RM_isBetter_85 (by decide) ?_
            refine lv_goto hx hb d_RM_isBetter_86 (tgt := 90) rfl ?_
            have hval : cBt n A F N K r1 r2 f1 = true := by
                unfold cBt
                rw [if_neg (by omega), if_pos (by omega)]; simp; omega
            exact zz_iret hx hb hr hlk rfl ⟨rfl, by rw [hval]; rfl⟩ hL d_RM_isBetter_90
      · refine lv_aload hx hb d_RM_isBetter_41 (lv_at hl 1 rfl) ?_
        refine fg_RM_61 hE hT.1 rfl d_RM_isBetter_43 ?_
        refine lv_aload hx hb d_RM_isBetter_46 (lv_at hl 0 rfl) ?_
        refine fg_RM_61 hE hU.1 rfl d_RM_isBetter_48 ?_
        refine zz_le hx hb (by omega) (by omega) d_RM_isBetter_51 (tgt := 58) rfl (fun hT51 => ?_) (fun hF51 => ?_)
        · refine lv_iconst (v := nI 0) hx hb d_RM_isBetter_58 (by decide) ?_
          have hval : cBt n A F N K r1 r2 f1 = false := by
              unfold cBt
              rw [if_pos (by omega)]; simp; omega
          exact zz_iret hx hb hr hlk rfl ⟨rfl, by rw [hval]; rfl⟩ hL d_RM_isBetter_59
        · refine lv_iconst (v := nI 1) hx hb d_RM_isBetter_54 (by decide) ?_
          refine lv_goto hx hb d_RM_isBetter_55 (tgt := 59) rfl ?_
          have hval : cBt n A F N K r1 r2 f1 = true := by
              unfold cBt
              rw [if_pos (by omega)]; simp; omega
          exact zz_iret hx hb hr hlk rfl ⟨rfl, by rw [hval]; rfl⟩ hL d_RM_isBetter_59

set_option maxHeartbeats 4000000 in
set_option maxRecDepth 100000 in
theorem k_RM_bestOfCluster (l : Launch) (D : va_G) (ca : Nat → ClassId) (o n h : Nat) (rl : Option Nat) (S : Nat → Option Nat) (K : Nat → Nat) (tk wk : Nat) (A : Nat → Nat → Nat) (F : Nat → Nat → Nat → Nat) (N Y : Nat → Nat → Nat) (W0 : Nat → Nat → Bool) (hn : n ≤ 12) (hN : ∀ i f, N i f ≤ 12) (hF : ∀ i f j, j < 12 → F i f j < 65536) (hld : ∀ a, a < n → A 3 a < 12) (ld f1 : Nat) (hl1 : ld < n) (hf1 : f1 ≤ 1) (hK2 : K f1 ≤ 2) : Met l y_RM_bestOfCluster w_RM_bestOfCluster (zr 4 0 0) (zz_P D ca [.ref o, .int (nI ld), .int (nI f1)] (fun H => RmAt D ca H o n h rl S K ∧ RuAt D ca H (o + 3) tk wk A ∧ EnAll D ca H o F N Y W0)) (zz_Q (fun H H1 v => H1 = H ∧ v = some (.int (nI (zbest (fun a b => decide (A 3 a = ld) && cBt n A F N K a b f1) ld (n - 1 - ld)))))) 0 0 (fun _ => False) := by
  refine zz_met (cc := c_RM_bestOfCluster) (by decide) (Nat.le_of_ble_eq_true rfl) ?_
  intro p e s m below meth c ls hE hr hlk hnm ⟨hM, hR, hA⟩ hl
  have hx := hE.1.1
  have hb := hE.1.2.1
  have hK := hE.2
  have hl : lv_has ls 5 [(0, .ref o), (1, .int (nI ld)), (2, .int (nI f1))] := hl
  have hL : zz_L (fun _ => False) ([] : List Loc) := zz_L.nil
  have hLd : va_at D zC (o + 3 + 3, .inl (ca 0, 12, .inl (fun j => nI (A 3 j)))) s.heap := hR.2 3 (by decide) (by decide)
  refine lv_iload_n hx hb d_RM_bestOfCluster_0 rfl (lv_at hl 1 rfl) ?_
  refine lv_istore_n hx hb d_RM_bestOfCluster_1 rfl hl (by decide) rfl (fun ls hl => ?_)
  have hl : lv_has ls 5 [(3, .int (nI ld)), (0, .ref o), (1, .int (nI ld)), (2, .int (nI f1))] := hl
  refine lv_iload_n hx hb d_RM_bestOfCluster_2 rfl (lv_at hl 2 rfl) ?_
  refine lv_iconst (v := nI 1) hx hb d_RM_bestOfCluster_3 (by decide) ?_
  refine zz_iadd hx hb d_RM_bestOfCluster_4 ?_
  refine lv_istore hx hb d_RM_bestOfCluster_5 hl (by decide) rfl (fun ls hl => ?_)
  have hl : lv_has ls 5 [(4, .int (nI (ld + 1))), (3, .int (nI ld)), (0, .ref o), (1, .int (nI ld)), (2, .int (nI f1))] := hl
  have hl : lv_has ls 5 [(0, .ref o), (1, .int (nI ld)), (2, .int (nI f1)), (3, .int (nI ld)), (4, .int (nI (ld + 1)))] := lv_sub hl [2, 3, 4, 1, 0] rfl
  refine zz_loopP (σ := Nat) (fun k ls => lv_has ls 5 [(0, .ref o), (1, .int (nI ld)), (2, .int (nI f1)), (3, .int (nI (zbest (fun a b => decide (A 3 a = ld) && cBt n A F N K a b f1) ld k))), (4, .int (nI (ld + 1 + k)))] ∧ k ≤ n - 1 - ld) (fun k => n - 1 - ld - k) ?_ 0 ls ⟨hl, Nat.zero_le _⟩
  rintro k ih ls ⟨hl, hk⟩
  have zle := zbest_le (fun a b => decide (A 3 a = ld) && cBt n A F N K a b f1) ld k
  refine lv_iload hx hb d_RM_bestOfCluster_7 (lv_at hl 4 rfl) ?_
  refine lv_aload_n hx hb d_RM_bestOfCluster_9 rfl (lv_at hl 0 rfl) ?_
  refine fg_RM_37 hE hM.1 rfl d_RM_bestOfCluster_10 ?_
  refine zz_ge hx hb (by omega) (by omega) d_RM_bestOfCluster_13 (tgt := 50) rfl (fun hT13 => ?_) (fun hF13 => ?_)
  · refine lv_iload_n hx hb d_RM_bestOfCluster_50 rfl (lv_at hl 3 rfl) ?_
    exact zz_iret hx hb hr hlk rfl ⟨rfl, congrArg (fun z => some (Value.int z)) (by rw [show k = n - 1 - ld by omega])⟩ hL d_RM_bestOfCluster_51
  · have q2 := hld (ld + 1 + k) (by omega)
    refine lv_aload_n hx hb d_RM_bestOfCluster_16 rfl (lv_at hl 0 rfl) ?_
    refine fg_RM_24 hE hM.1 rfl d_RM_bestOfCluster_17 ?_
    refine fg_RM_161 hE hR.1 rfl d_RM_bestOfCluster_20 ?_
    refine lv_iload hx hb d_RM_bestOfCluster_23 (lv_at hl 4 rfl) ?_
    refine zz_iald hx hb hK.1 hLd 0 rfl (i := ld + 1 + k) (by omega) (by omega) d_RM_bestOfCluster_25 ?_
    refine lv_iload_n hx hb d_RM_bestOfCluster_26 rfl (lv_at hl 1 rfl) ?_
    refine zz_ne hx hb (by omega) (by omega) d_RM_bestOfCluster_27 (tgt := 44) rfl (fun hT27 => ?_) (fun hF27 => ?_)
    · refine lv_iinc (k := 4) (v := nI (ld + 1 + k + 1)) hx hb d_RM_bestOfCluster_44 hl rfl (zz_inc _) (by decide) rfl (fun ls hl => ?_)
      have hl : lv_has ls 5 [(4, .int (nI (ld + 1 + k + 1))), (0, .ref o), (1, .int (nI ld)), (2, .int (nI f1)), (3, .int (nI (zbest (fun a b => decide (A 3 a = ld) && cBt n A F N K a b f1) ld k)))] := hl
      refine lv_goto hx hb d_RM_bestOfCluster_47 (tgt := 7) rfl ?_
      have hz9 : zbest (fun a b => decide (A 3 a = ld) && cBt n A F N K a b f1) ld (k + 1) = zbest (fun a b => decide (A 3 a = ld) && cBt n A F N K a b f1) ld k := by
          show (if (decide (A 3 (ld + 1 + k) = ld) && cBt n A F N K (ld + 1 + k) (zbest (fun a b => decide (A 3 a = ld) && cBt n A F N K a b f1) ld k) f1) = true then ld + 1 + k else zbest (fun a b => decide (A 3 a = ld) && cBt n A F N K a b f1) ld k) = _
          rw [decide_eq_false hT27]; simp
      have hl : lv_has ls 5 [(0, .ref o), (1, .int (nI ld)), (2, .int (nI f1)), (3, .int (nI (zbest (fun a b => decide (A 3 a = ld) && cBt n A F N K a b f1) ld (k + 1)))), (4, .int (nI (ld + 1 + (k + 1))))] := (by rw [hz9]; exact lv_sub hl [1, 2, 3, 4, 0] rfl)
      exact ih (k + 1) ls ⟨hl, by omega⟩ (by omega)
    · refine lv_aload_n hx hb d_RM_bestOfCluster_30 rfl (lv_at hl 0 rfl) ?_
      refine lv_iload hx hb d_RM_bestOfCluster_31 (lv_at hl 4 rfl) ?_
      refine lv_iload_n hx hb d_RM_bestOfCluster_33 rfl (lv_at hl 3 rfl) ?_
      refine lv_iload_n hx hb d_RM_bestOfCluster_34 rfl (lv_at hl 2 rfl) ?_
      refine zz_callP (cl_RM_171 (rest := []) hE (k_RM_isBetter l D ca o n h rl S K tk wk A F N Y W0 hn hN hF hld (ld + 1 + k) (zbest (fun a b => decide (A 3 a = ld) && cBt n A F N K a b f1) ld k) f1 (by omega) (by omega) hf1 hK2) ⟨rfl, rfl, by decide, by decide⟩ ⟨hM, hR, hA⟩ hM.1 rfl hl.1 rfl (Nat.le_of_ble_eq_true rfl) d_RM_bestOfCluster_35 ⟨by decide, by decide⟩) ?_
      refine zz_eqB hx hb d_RM_bestOfCluster_38 (tgt := 44) rfl (fun hT38 => ?_) (fun hF38 => ?_)
      · refine lv_iinc (k := 4) (v := nI (ld + 1 + k + 1)) hx hb d_RM_bestOfCluster_44 hl rfl (zz_inc _) (by decide) rfl (fun ls hl => ?_)
        have hl : lv_has ls 5 [(4, .int (nI (ld + 1 + k + 1))), (0, .ref o), (1, .int (nI ld)), (2, .int (nI f1)), (3, .int (nI (zbest (fun a b => decide (A 3 a = ld) && cBt n A F N K a b f1) ld k)))] := hl
        refine lv_goto hx hb d_RM_bestOfCluster_47 (tgt := 7) rfl ?_
        have hz9 : zbest (fun a b => decide (A 3 a = ld) && cBt n A F N K a b f1) ld (k + 1) = zbest (fun a b => decide (A 3 a = ld) && cBt n A F N K a b f1) ld k := by
            show (if (decide (A 3 (ld + 1 + k) = ld) && cBt n A F N K (ld + 1 + k) (zbest (fun a b => decide (A 3 a = ld) && cBt n A F N K a b f1) ld k) f1) = true then ld + 1 + k else zbest (fun a b => decide (A 3 a = ld) && cBt n A F N K a b f1) ld k) = _
            rw [decide_eq_true hF27, hT38]; simp
        have hl : lv_has ls 5 [(0, .ref o), (1, .int (nI ld)), (2, .int (nI f1)), (3, .int (nI (zbest (fun a b => decide (A 3 a = ld) && cBt n A F N K a b f1) ld (k + 1)))), (4, .int (nI (ld + 1 + (k + 1))))] := (by rw [hz9]; exact lv_sub hl [1, 2, 3, 4, 0] rfl)
        exact ih (k + 1) ls ⟨hl, by omega⟩ (by omega)
      · refine lv_iload hx hb d_RM_bestOfCluster_41 (lv_at hl 4 rfl) ?_
        refine lv_istore_n hx hb d_RM_bestOfCluster_43 rfl hl (by decide) rfl (fun ls hl => ?_)
        have hl : lv_has ls 5 [(3, .int (nI (ld + 1 + k))), (0, .ref o), (1, .int (nI ld)), (2, .int (nI f1)), (4, .int (nI (ld + 1 + k)))] := hl
        refine lv_iinc (k := 4) (v := nI (ld + 1 + k + 1)) hx hb d_RM_bestOfCluster_44 hl rfl (zz_inc _) (by decide) rfl (fun ls hl => ?_)
        have hl : lv_has ls 5 [(4, .int (nI (ld + 1 + k + 1))), (3, .int (nI (ld + 1 + k))), (0, .ref o), (1, .int (nI ld)), (2, .int (nI f1))] := hl
        refine lv_goto hx hb d_RM_bestOfCluster_47 (tgt := 7) rfl ?_
        have hz9 : zbest (fun a b => decide (A 3 a = ld) && cBt n A F N K a b f1) ld (k + 1) = ld + 1 + k := by
            show (if (decide (A 3 (ld + 1 + k) = ld) && cBt n A F N K (ld + 1 + k) (zbest (fun a b => decide (A 3 a = ld) && cBt n A F N K a b f1) ld k) f1) = true then ld + 1 + k else zbest (fun a b => decide (A 3 a = ld) && cBt n A F N K a b f1) ld k) = _
            rw [decide_eq_true hF27, hF38]; simp
        have hl : lv_has ls 5 [(0, .ref o), (1, .int (nI ld)), (2, .int (nI f1)), (3, .int (nI (zbest (fun a b => decide (A 3 a = ld) && cBt n A F N K a b f1) ld (k + 1)))), (4, .int (nI (ld + 1 + (k + 1))))] := (by rw [hz9]; exact lv_sub hl [2, 3, 4, 1, 0] rfl)
        exact ih (k + 1) ls ⟨hl, by omega⟩ (by omega)
