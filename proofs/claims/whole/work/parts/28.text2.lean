theorem zz_min {x y : Nat} (hx : x < 2 ^ 31) (hy : y < 2 ^ 31) : (if nI y < nI x then nI y else nI x) = nI (min x y) := by
  by_cases h : y < x
  · rw [if_pos (nI_lt h hx), Nat.min_eq_right (by omega)]
  · rw [if_neg (nI_nlt (by omega) hy), Nat.min_eq_left (by omega)]
theorem zz_max {x y : Nat} (hx : x < 2 ^ 31) (hy : y < 2 ^ 31) : (if nI x < nI y then nI y else nI x) = nI (max x y) := by
  by_cases h : x < y
  · rw [if_pos (nI_lt h hy), Nat.max_eq_right (by omega)]
  · rw [if_neg (nI_nlt (by omega) hx), Nat.max_eq_left (by omega)]
theorem zz_i2c {q : Nat} (h : q < 65536) : ((nI q).toUInt32 % 65536).toInt32 = nI q := by rw [pk_char, pk_tn (by omega), Nat.mod_eq_of_lt h]
theorem te_up {f : Nat → Nat} {i x : Nat} : upd (fun j => nI (f j)) i (nI x) = fun j => nI (va_up f i x j) := by
  funext j
  by_cases h : j = i
  · subst h; simp [upd, va_up]
  · simp [upd, va_up, h]
def teFr (a q : Nat) : Prop := q = a ∨ q = a + 1

set_option maxHeartbeats 4000000 in
set_option maxRecDepth 100000 in
theorem k_Te_compareWith (l : Launch) (D : va_G) (ca : Nat → ClassId) (a n ty : Nat) (iw : Bool) (f : Nat → Nat) (b n2 ty2 : Nat) (iw2 : Bool) (g : Nat → Nat) (hn : n ≤ 12) (hn2 : n2 ≤ 12) (hf : ∀ j, j < 12 → f j < 65536) (hg : ∀ j, j < 12 → g j < 65536) : Met l y_Te_compareWith w_Te_compareWith (zr 1 0 0) (zz_P D ca [.ref a, .ref b] (fun H => TeAt D ca H a f n ty iw ∧ TeAt D ca H b g n2 ty2 iw2)) (zz_Q (fun H H1 v => H1 = H ∧ v = some (.int (cCmp f n g n2)))) 0 0 (fun _ => False) := by
  refine zz_met (cc := c_Te_compareWith) (by decide) (Nat.le_of_ble_eq_true rfl) ?_
  intro p e s m below meth c ls hE hr hlk hnm ⟨hT, hU⟩ hl
  have hx := hE.1.1
  have hb := hE.1.2.1
  have hK := hE.2
  have hl : lv_has ls 4 [(0, .ref a), (1, .ref b)] := hl
  have hL : zz_L (fun _ => False) ([] : List Loc) := zz_L.nil
  refine lv_aload_n hx hb d_Te_compareWith_0 rfl (lv_at hl 0 rfl) ?_
  refine fg_Te_27 hE hT.1 rfl d_Te_compareWith_1 ?_
  refine lv_aload_n hx hb d_Te_compareWith_4 rfl (lv_at hl 1 rfl) ?_
  refine fg_Te_27 hE hU.1 rfl d_Te_compareWith_5 ?_
  refine va_mmin (rest := []) hx hb (by rw [hE.1.2.2.1]; exact hl.1.symm) hE.1.2.2.2.1 (hE.1.2.2.2.2 _ zm_430) (hE.1.2.2.2.2 _ zm_301) (hE.1.2.2.2.2 _ zm_10) (hE.1.2.2.2.2 _ zm_302) (Nat.le_of_ble_eq_true rfl) (Nat.le_of_ble_eq_true rfl) (by decide) (by decide) d_Te_compareWith_8 ?_
  refine zz_top (zz_min (x := n) (y := n2) (by omega) (by omega)) ?_
  refine lv_istore_n hx hb d_Te_compareWith_11 rfl hl (by decide) rfl (fun ls hl => ?_)
  have hl : lv_has ls 4 [(2, .int (nI (min n n2))), (0, .ref a), (1, .ref b)] := hl
  refine lv_iconst (v := nI 0) hx hb d_Te_compareWith_12 (by decide) ?_
  refine lv_istore_n hx hb d_Te_compareWith_13 rfl hl (by decide) rfl (fun ls hl => ?_)
  have hl : lv_has ls 4 [(3, .int (nI 0)), (2, .int (nI (min n n2))), (0, .ref a), (1, .ref b)] := hl
  have hl : lv_has ls 4 [(0, .ref a), (1, .ref b), (2, .int (nI (min n n2))), (3, .int (nI 0))] := lv_sub hl [2, 3, 1, 0] rfl
  refine zz_loopP (σ := Nat × Nat) (fun ⟨u, i⟩ ls => lv_has ls 4 [(0, .ref a), (1, .ref b), (2, .int (nI (min n n2))), (3, .int (nI i))] ∧ i + u = min n n2 ∧ cCmpF f n g n2 u i = cCmp f n g n2) (fun ⟨u, i⟩ => u) ?_ (min n n2, 0) ls ⟨hl, Nat.zero_add _, rfl⟩
  rintro ⟨u, i⟩ ih ls ⟨hl, hiu, hv⟩
  have hmn : min n n2 ≤ 12 := by omega
  refine lv_iload_n hx hb d_Te_compareWith_14 rfl (lv_at hl 3 rfl) ?_
  refine lv_iload_n hx hb d_Te_compareWith_15 rfl (lv_at hl 2 rfl) ?_
  refine zz_ge hx hb (by omega) (by omega) d_Te_compareWith_16 (tgt := 54) rfl (fun hT16 => ?_) (fun hF16 => ?_)
  · refine lv_aload_n hx hb d_Te_compareWith_54 rfl (lv_at hl 0 rfl) ?_
    refine fg_Te_27 hE hT.1 rfl d_Te_compareWith_55 ?_
    refine lv_aload_n hx hb d_Te_compareWith_58 rfl (lv_at hl 1 rfl) ?_
    refine fg_Te_27 hE hU.1 rfl d_Te_compareWith_59 ?_
    refine lv_isub hx hb d_Te_compareWith_62 ?_
    have hval : cCmp f n g n2 = (nI n) - (nI n2) := by
        have h9 : u = 0 := by omega
        subst h9
        exact hv.symm
    exact zz_iret hx hb hr hlk rfl ⟨rfl, by rw [hval]⟩ hL d_Te_compareWith_63
  · have hf1 := hf i (by omega)
    have hg1 := hg i (by omega)
    refine lv_aload_n hx hb d_Te_compareWith_19 rfl (lv_at hl 0 rfl) ?_
    refine fg_Te_9 hE hT.1 rfl d_Te_compareWith_20 ?_
    refine lv_iload_n hx hb d_Te_compareWith_23 rfl (lv_at hl 3 rfl) ?_
    refine zz_cald hx hb hK.1 hT.2 1 rfl (i := i) (by omega) (by omega) d_Te_compareWith_24 ?_
    refine lv_aload_n hx hb d_Te_compareWith_25 rfl (lv_at hl 1 rfl) ?_
    refine fg_Te_9 hE hU.1 rfl d_Te_compareWith_26 ?_
    refine lv_iload_n hx hb d_Te_compareWith_29 rfl (lv_at hl 3 rfl) ?_
    refine zz_cald hx hb hK.1 hU.2 1 rfl (i := i) (by omega) (by omega) d_Te_compareWith_30 ?_
    refine zz_eq hx hb (by omega) (by omega) d_Te_compareWith_31 (tgt := 48) rfl (fun hT31 => ?_) (fun hF31 => ?_)
    · refine lv_iinc (k := 3) (v := nI (i + 1)) hx hb d_Te_compareWith_48 hl rfl (zz_inc _) (by decide) rfl (fun ls hl => ?_)
      have hl : lv_has ls 4 [(3, .int (nI (i + 1))), (0, .ref a), (1, .ref b), (2, .int (nI (min n n2)))] := hl
      refine lv_goto hx hb d_Te_compareWith_51 (tgt := 14) rfl ?_
      obtain ⟨u, rfl⟩ : ∃ z, u = z + 1 := ⟨u - 1, by omega⟩
      simp only [cCmpF] at hv
      rw [if_pos hT31] at hv
      have hl : lv_has ls 4 [(0, .ref a), (1, .ref b), (2, .int (nI (min n n2))), (3, .int (nI (i + 1)))] := lv_sub hl [1, 2, 3, 0] rfl
      exact ih (u, i + 1) ls ⟨hl, by omega, hv⟩ (Nat.lt_succ_self _)
    · refine lv_aload_n hx hb d_Te_compareWith_34 rfl (lv_at hl 0 rfl) ?_
      refine fg_Te_9 hE hT.1 rfl d_Te_compareWith_35 ?_
      refine lv_iload_n hx hb d_Te_compareWith_38 rfl (lv_at hl 3 rfl) ?_
      refine zz_cald hx hb hK.1 hT.2 1 rfl (i := i) (by omega) (by omega) d_Te_compareWith_39 ?_
      refine lv_aload_n hx hb d_Te_compareWith_40 rfl (lv_at hl 1 rfl) ?_
      refine fg_Te_9 hE hU.1 rfl d_Te_compareWith_41 ?_
      refine lv_iload_n hx hb d_Te_compareWith_44 rfl (lv_at hl 3 rfl) ?_
      refine zz_cald hx hb hK.1 hU.2 1 rfl (i := i) (by omega) (by omega) d_Te_compareWith_45 ?_
      refine lv_isub hx hb d_Te_compareWith_46 ?_
      have hval : cCmp f n g n2 = (nI (f i)) - (nI (g i)) := by
          obtain ⟨u, rfl⟩ : ∃ z, u = z + 1 := ⟨u - 1, by omega⟩
          simp only [cCmpF] at hv
          rw [if_neg hF31] at hv
          exact hv.symm
      exact zz_iret hx hb hr hlk rfl ⟨rfl, by rw [hval]⟩ hL d_Te_compareWith_47

set_option maxHeartbeats 4000000 in
set_option maxRecDepth 100000 in
theorem k_Te_isOfWord (l : Launch) (D : va_G) (ca : Nat → ClassId) (c0 : Nat) (hc0 : c0 < 65536) : Met l y_Te_isOfWord w_Te_isOfWord (zr 0 0 0) (zz_P D ca [.int (nI c0)] (fun H => True)) (zz_Q (fun H H1 v => H1 = H ∧ v = some (.int (nI (decide (mLet c0 ≠ 0)).toNat)))) 0 0 (fun _ => False) := by
  refine zz_met (cc := c_Te_isOfWord) (by decide) (Nat.le_of_ble_eq_true rfl) ?_
  intro p e s m below meth c ls hE hr hlk hnm hM hl
  have hx := hE.1.1
  have hb := hE.1.2.1
  have hK := hE.2
  have hl : lv_has ls 1 [(0, .int (nI c0))] := hl
  have hL : zz_L (fun _ => False) ([] : List Loc) := zz_L.nil
  refine lv_iload_n hx hb d_Te_isOfWord_0 rfl (lv_at hl 0 rfl) ?_
  refine lv_bipush (v := nI 97) hx hb d_Te_isOfWord_1 (by decide) ?_
  refine zz_lt hx hb (by omega) (by omega) d_Te_isOfWord_3 (tgt := 12) rfl (fun hT3 => ?_) (fun hF3 => ?_)
  · refine lv_iload_n hx hb d_Te_isOfWord_12 rfl (lv_at hl 0 rfl) ?_
    refine lv_bipush (v := nI 65) hx hb d_Te_isOfWord_13 (by decide) ?_
    refine zz_lt hx hb (by omega) (by omega) d_Te_isOfWord_15 (tgt := 24) rfl (fun hT15 => ?_) (fun hF15 => ?_)
    · refine lv_iload_n hx hb d_Te_isOfWord_24 rfl (lv_at hl 0 rfl) ?_
      refine lv_bipush (v := nI 48) hx hb d_Te_isOfWord_25 (by decide) ?_
      refine zz_lt hx hb (by omega) (by omega) d_Te_isOfWord_27 (tgt := 40) rfl (fun hT27 => ?_) (fun hF27 => ?_)
      · refine lv_iconst (v := nI 0) hx hb d_Te_isOfWord_40 (by decide) ?_
        have hval : decide (mLet c0 ≠ 0) = false := by
            unfold mLet
            simp only [decide_eq_true_eq, decide_eq_false_iff_not]
            split <;> (try split) <;> omega
        exact zz_iret hx hb hr hlk rfl ⟨rfl, by rw [hval]; rfl⟩ hL d_Te_isOfWord_41
      · refine lv_iload_n hx hb d_Te_isOfWord_30 rfl (lv_at hl 0 rfl) ?_
        refine lv_bipush (v := nI 57) hx hb d_Te_isOfWord_31 (by decide) ?_
        refine zz_gt hx hb (by omega) (by omega) d_Te_isOfWord_33 (tgt := 40) rfl (fun hT33 => ?_) (fun hF33 => ?_)
        · refine lv_iconst (v := nI 0) hx hb d_Te_isOfWord_40 (by decide) ?_
          have hval : decide (mLet c0 ≠ 0) = false := by
              unfold mLet
              simp only [decide_eq_true_eq, decide_eq_false_iff_not]
              split <;> (try split) <;> omega
          exact zz_iret hx hb hr hlk rfl ⟨rfl, by rw [hval]; rfl⟩ hL d_Te_isOfWord_41
        · refine lv_iconst (v := nI 1) hx hb d_Te_isOfWord_36 (by decide) ?_
          refine lv_goto hx hb d_Te_isOfWord_37 (tgt := 41) rfl ?_
          have hval : decide (mLet c0 ≠ 0) = true := by
              unfold mLet
              simp only [decide_eq_true_eq, decide_eq_false_iff_not]
              split <;> (try split) <;> omega
          exact zz_iret hx hb hr hlk rfl ⟨rfl, by rw [hval]; rfl⟩ hL d_Te_isOfWord_41
    · refine lv_iload_n hx hb d_Te_isOfWord_18 rfl (lv_at hl 0 rfl) ?_
      refine lv_bipush (v := nI 90) hx hb d_Te_isOfWord_19 (by decide) ?_
      refine zz_le hx hb (by omega) (by omega) d_Te_isOfWord_21 (tgt := 36) rfl (fun hT21 => ?_) (fun hF21 => ?_)
      · refine lv_iconst (v := nI 1) hx hb d_Te_isOfWord_36 (by decide) ?_
        refine lv_goto hx hb d_Te_isOfWord_37 (tgt := 41) rfl ?_
        have hval : decide (mLet c0 ≠ 0) = true := by
            unfold mLet
            simp only [decide_eq_true_eq, decide_eq_false_iff_not]
            split <;> (try split) <;> omega
        exact zz_iret hx hb hr hlk rfl ⟨rfl, by rw [hval]; rfl⟩ hL d_Te_isOfWord_41
      · refine lv_iload_n hx hb d_Te_isOfWord_24 rfl (lv_at hl 0 rfl) ?_
        refine lv_bipush (v := nI 48) hx hb d_Te_isOfWord_25 (by decide) ?_
        refine zz_lt hx hb (by omega) (by omega) d_Te_isOfWord_27 (tgt := 40) rfl (fun hT27 => ?_) (fun hF27 => ?_)
        · refine lv_iconst (v := nI 0) hx hb d_Te_isOfWord_40 (by decide) ?_
          have hval : decide (mLet c0 ≠ 0) = false := by
              unfold mLet
              simp only [decide_eq_true_eq, decide_eq_false_iff_not]
              split <;> (try split) <;> omega
          exact zz_iret hx hb hr hlk rfl ⟨rfl, by rw [hval]; rfl⟩ hL d_Te_isOfWord_41
        · refine lv_iload_n hx hb d_Te_isOfWord_30 rfl (lv_at hl 0 rfl) ?_
          refine lv_bipush (v := nI 57) hx hb d_Te_isOfWord_31 (by decide) ?_
          refine zz_gt hx hb (by omega) (by omega) d_Te_isOfWord_33 (tgt := 40) rfl (fun hT33 => ?_) (fun hF33 => ?_)
          · refine lv_iconst (v := nI 0) hx hb d_Te_isOfWord_40 (by decide) ?_
            have hval : decide (mLet c0 ≠ 0) = false := by
                unfold mLet
                simp only [decide_eq_true_eq, decide_eq_false_iff_not]
                split <;> (try split) <;> omega
            exact zz_iret hx hb hr hlk rfl ⟨rfl, by rw [hval]; rfl⟩ hL d_Te_isOfWord_41
          · refine lv_iconst (v := nI 1) hx hb d_Te_isOfWord_36 (by decide) ?_
            refine lv_goto hx hb d_Te_isOfWord_37 (tgt := 41) rfl ?_
            have hval : decide (mLet c0 ≠ 0) = true := by
                unfold mLet
                simp only [decide_eq_true_eq, decide_eq_false_iff_not]
                split <;> (try split) <;> omega
            exact zz_iret hx hb hr hlk rfl ⟨rfl, by rw [hval]; rfl⟩ hL d_Te_isOfWord_41
  · refine lv_iload_n hx hb d_Te_isOfWord_6 rfl (lv_at hl 0 rfl) ?_
    refine lv_bipush (v := nI 122) hx hb d_Te_isOfWord_7 (by decide) ?_
    refine zz_le hx hb (by omega) (by omega) d_Te_isOfWord_9 (tgt := 36) rfl (fun hT9 => ?_) (fun hF9 => ?_)
    · refine lv_iconst (v := nI 1) hx hb d_Te_isOfWord_36 (by decide) ?_
      refine lv_goto hx hb d_Te_isOfWord_37 (tgt := 41) rfl ?_
      have hval : decide (mLet c0 ≠ 0) = true := by
          unfold mLet
          simp only [decide_eq_true_eq, decide_eq_false_iff_not]
          split <;> (try split) <;> omega
      exact zz_iret hx hb hr hlk rfl ⟨rfl, by rw [hval]; rfl⟩ hL d_Te_isOfWord_41
    · refine lv_iload_n hx hb d_Te_isOfWord_12 rfl (lv_at hl 0 rfl) ?_
      refine lv_bipush (v := nI 65) hx hb d_Te_isOfWord_13 (by decide) ?_
      refine zz_lt hx hb (by omega) (by omega) d_Te_isOfWord_15 (tgt := 24) rfl (fun hT15 => ?_) (fun hF15 => ?_)
      · refine lv_iload_n hx hb d_Te_isOfWord_24 rfl (lv_at hl 0 rfl) ?_
        refine lv_bipush (v := nI 48) hx hb d_Te_isOfWord_25 (by decide) ?_
        refine zz_lt hx hb (by omega) (by omega) d_Te_isOfWord_27 (tgt := 40) rfl (fun hT27 => ?_) (fun hF27 => ?_)
        · refine lv_iconst (v := nI 0) hx hb d_Te_isOfWord_40 (by decide) ?_
          have hval : decide (mLet c0 ≠ 0) = false := by
              unfold mLet
              simp only [decide_eq_true_eq, decide_eq_false_iff_not]
              split <;> (try split) <;> omega
          exact zz_iret hx hb hr hlk rfl ⟨rfl, by rw [hval]; rfl⟩ hL d_Te_isOfWord_41
        · refine lv_iload_n hx hb d_Te_isOfWord_30 rfl (lv_at hl 0 rfl) ?_
          refine lv_bipush (v := nI 57) hx hb d_Te_isOfWord_31 (by decide) ?_
          refine zz_gt hx hb (by omega) (by omega) d_Te_isOfWord_33 (tgt := 40) rfl (fun hT33 => ?_) (fun hF33 => ?_)
          · refine lv_iconst (v := nI 0) hx hb d_Te_isOfWord_40 (by decide) ?_
            have hval : decide (mLet c0 ≠ 0) = false := by
                unfold mLet
                simp only [decide_eq_true_eq, decide_eq_false_iff_not]
                split <;> (try split) <;> omega
            exact zz_iret hx hb hr hlk rfl ⟨rfl, by rw [hval]; rfl⟩ hL d_Te_isOfWord_41
          · refine lv_iconst (v := nI 1) hx hb d_Te_isOfWord_36 (by decide) ?_
            refine lv_goto hx hb d_Te_isOfWord_37 (tgt := 41) rfl ?_
            have hval : decide (mLet c0 ≠ 0) = true := by
                unfold mLet
                simp only [decide_eq_true_eq, decide_eq_false_iff_not]
                split <;> (try split) <;> omega
            exact zz_iret hx hb hr hlk rfl ⟨rfl, by rw [hval]; rfl⟩ hL d_Te_isOfWord_41
      · refine lv_iload_n hx hb d_Te_isOfWord_18 rfl (lv_at hl 0 rfl) ?_
        refine lv_bipush (v := nI 90) hx hb d_Te_isOfWord_19 (by decide) ?_
        refine zz_le hx hb (by omega) (by omega) d_Te_isOfWord_21 (tgt := 36) rfl (fun hT21 => ?_) (fun hF21 => ?_)
        · refine lv_iconst (v := nI 1) hx hb d_Te_isOfWord_36 (by decide) ?_
          refine lv_goto hx hb d_Te_isOfWord_37 (tgt := 41) rfl ?_
          have hval : decide (mLet c0 ≠ 0) = true := by
              unfold mLet
              simp only [decide_eq_true_eq, decide_eq_false_iff_not]
              split <;> (try split) <;> omega
          exact zz_iret hx hb hr hlk rfl ⟨rfl, by rw [hval]; rfl⟩ hL d_Te_isOfWord_41
        · refine lv_iload_n hx hb d_Te_isOfWord_24 rfl (lv_at hl 0 rfl) ?_
          refine lv_bipush (v := nI 48) hx hb d_Te_isOfWord_25 (by decide) ?_
          refine zz_lt hx hb (by omega) (by omega) d_Te_isOfWord_27 (tgt := 40) rfl (fun hT27 => ?_) (fun hF27 => ?_)
          · refine lv_iconst (v := nI 0) hx hb d_Te_isOfWord_40 (by decide) ?_
            have hval : decide (mLet c0 ≠ 0) = false := by
                unfold mLet
                simp only [decide_eq_true_eq, decide_eq_false_iff_not]
                split <;> (try split) <;> omega
            exact zz_iret hx hb hr hlk rfl ⟨rfl, by rw [hval]; rfl⟩ hL d_Te_isOfWord_41
          · refine lv_iload_n hx hb d_Te_isOfWord_30 rfl (lv_at hl 0 rfl) ?_
            refine lv_bipush (v := nI 57) hx hb d_Te_isOfWord_31 (by decide) ?_
            refine zz_gt hx hb (by omega) (by omega) d_Te_isOfWord_33 (tgt := 40) rfl (fun hT33 => ?_) (fun hF33 => ?_)
            · refine lv_iconst (v := nI 0) hx hb d_Te_isOfWord_40 (by decide) ?_
              have hval : decide (mLet c0 ≠ 0) = false := by
                  unfold mLet
                  simp only [decide_eq_true_eq, decide_eq_false_iff_not]
                  split <;> (try split) <;> omega
              exact zz_iret hx hb hr hlk rfl ⟨rfl, by rw [hval]; rfl⟩ hL d_Te_isOfWord_41
            · refine lv_iconst (v := nI 1) hx hb d_Te_isOfWord_36 (by decide) ?_
              refine lv_goto hx hb d_Te_isOfWord_37 (tgt := 41) rfl ?_
              have hval : decide (mLet c0 ≠ 0) = true := by
                  unfold mLet
                  simp only [decide_eq_true_eq, decide_eq_false_iff_not]
                  split <;> (try split) <;> omega
              exact zz_iret hx hb hr hlk rfl ⟨rfl, by rw [hval]; rfl⟩ hL d_Te_isOfWord_41

set_option maxHeartbeats 4000000 in
set_option maxRecDepth 100000 in
theorem k_Te_small (l : Launch) (D : va_G) (ca : Nat → ClassId) (c0 : Nat) (hc0 : c0 < 256) (hw0 : mLet c0 ≠ 0) : Met l y_Te_small w_Te_small (zr 0 0 0) (zz_P D ca [.int (nI c0)] (fun H => True)) (zz_Q (fun H H1 v => H1 = H ∧ v = some (.int (nI (mLet c0))))) 0 0 (fun _ => False) := by
  refine zz_met (cc := c_Te_small) (by decide) (Nat.le_of_ble_eq_true rfl) ?_
  intro p e s m below meth c ls hE hr hlk hnm hM hl
  have hx := hE.1.1
  have hb := hE.1.2.1
  have hK := hE.2
  have hl : lv_has ls 1 [(0, .int (nI c0))] := hl
  have hL : zz_L (fun _ => False) ([] : List Loc) := zz_L.nil
  have hlt := mLet_lt hc0
  refine lv_iload_n hx hb d_Te_small_0 rfl (lv_at hl 0 rfl) ?_
  refine lv_bipush (v := nI 65) hx hb d_Te_small_1 (by decide) ?_
  refine zz_lt hx hb (by omega) (by omega) d_Te_small_3 (tgt := 23) rfl (fun hT3 => ?_) (fun hF3 => ?_)
  · refine lv_iload_n hx hb d_Te_small_23 rfl (lv_at hl 0 rfl) ?_
    have hval : mLet c0 = c0 := by
        revert hw0
        unfold mLet
        split <;> (try split) <;> intro hw0 <;> omega
    exact zz_iret hx hb hr hlk (pk_charN (show c0 < 65536 by omega)).1 ⟨rfl, by rw [hval]⟩ hL d_Te_small_24
  · refine lv_iload_n hx hb d_Te_small_6 rfl (lv_at hl 0 rfl) ?_
    refine lv_bipush (v := nI 90) hx hb d_Te_small_7 (by decide) ?_
    refine zz_gt hx hb (by omega) (by omega) d_Te_small_9 (tgt := 23) rfl (fun hT9 => ?_) (fun hF9 => ?_)
    · refine lv_iload_n hx hb d_Te_small_23 rfl (lv_at hl 0 rfl) ?_
      have hval : mLet c0 = c0 := by
          revert hw0
          unfold mLet
          split <;> (try split) <;> intro hw0 <;> omega
      exact zz_iret hx hb hr hlk (pk_charN (show c0 < 65536 by omega)).1 ⟨rfl, by rw [hval]⟩ hL d_Te_small_24
    · refine lv_iload_n hx hb d_Te_small_12 rfl (lv_at hl 0 rfl) ?_
      refine lv_bipush (v := nI 65) hx hb d_Te_small_13 (by decide) ?_
      refine zz_isub (by omega) hx hb d_Te_small_15 ?_
      refine lv_bipush (v := nI 97) hx hb d_Te_small_16 (by decide) ?_
      refine zz_iadd hx hb d_Te_small_18 ?_
      refine lv_i2c (v := nI ((c0 - 65) + 97)) hx hb d_Te_small_19 (zz_i2c (by omega)) ?_
      refine lv_goto hx hb d_Te_small_20 (tgt := 24) rfl ?_
      have hval : mLet c0 = (c0 - 65) + 97 := by
          revert hw0
          unfold mLet
          split <;> (try split) <;> intro hw0 <;> omega
      exact zz_iret hx hb hr hlk (pk_charN (show (c0 - 65) + 97 < 65536 by omega)).1 ⟨rfl, by rw [hval]⟩ hL d_Te_small_24

set_option maxHeartbeats 4000000 in
set_option maxRecDepth 100000 in
theorem k_Te_put (l : Launch) (D : va_G) (ca : Nat → ClassId) (a n ty : Nat) (iw : Bool) (f : Nat → Nat) (c0 : Nat) (hc0 : c0 < 65536) (hn : n < 12) : Met l y_Te_put w_Te_put (zr 0 0 0) (zz_P D ca [.ref a, .int (nI c0)] (fun H => TeAt D ca H a f n ty iw)) (zz_Q (fun H H1 v => v = none ∧ zz_fr (teFr a) H H1 ∧ TeAt D ca H1 a (va_up f n c0) (n + 1) ty iw)) 0 0 (teFr a) := by
  refine zz_met (cc := c_Te_put) (by decide) (Nat.le_of_ble_eq_true rfl) ?_
  intro p e s m below meth c ls hE hr hlk hnm hT hl
  have hx := hE.1.1
  have hb := hE.1.2.1
  have hK := hE.2
  have hl : lv_has ls 2 [(0, .ref a), (1, .int (nI c0))] := hl
  have hL : zz_L (teFr a) ([] : List Loc) := zz_L.nil
  have hS : zz_fr (teFr a) s.heap s.heap := zz_fr.rf
  refine lv_aload_n hx hb d_Te_put_0 rfl (lv_at hl 0 rfl) ?_
  refine fg_Te_9 hE hT.1 rfl d_Te_put_1 ?_
  refine lv_aload_n hx hb d_Te_put_4 rfl (lv_at hl 0 rfl) ?_
  refine fg_Te_27 hE hT.1 rfl d_Te_put_5 ?_
  refine lv_iload_n hx hb d_Te_put_8 rfl (lv_at hl 1 rfl) ?_
  refine zz_cast hx hb hK.1 hT.2 hL (show teFr a (a + 1) from Or.inr rfl) 1 rfl (i := n) (by omega) (by decide) (pk_charN (show c0 < 65536 by omega)).1 d_Te_put_9 (fun H locs h1 hu hL => ?_)
  rw [te_up] at h1
  have hS := hS.up hu (show teFr a (a + 1) from Or.inr rfl)
  have hT : TeAt D ca H a (va_up f n c0) n ty iw := ⟨zz_keep hu (show a ≠ a + 1 by omega) hT.1, h1⟩
  refine lv_aload_n hx hb d_Te_put_10 rfl (lv_at hl 0 rfl) ?_
  refine lv_dup hx hb d_Te_put_11 rfl ?_
  refine fg_Te_27 hE hT.1 rfl d_Te_put_12 ?_
  refine lv_iconst (v := nI 1) hx hb d_Te_put_15 (by decide) ?_
  refine zz_iadd hx hb d_Te_put_16 ?_
  refine fp_Te_27 hE hT.1 hL (show teFr a a from Or.inl rfl) (Nat.le_of_ble_eq_true rfl) d_Te_put_17 (fun H locs h1 hu hL => ?_)
  have hS := hS.up hu (show teFr a a from Or.inl rfl)
  have hT : TeAt D ca H a (va_up f n c0) (n + 1) ty iw := ⟨h1, zz_keep hu (show a + 1 ≠ a by omega) hT.2⟩
  exact zz_vret hx hb hr hlk ⟨rfl, hS, hT⟩ hL d_Te_put_20

/-- a text with a character more -/
def cTk (f : Nat → Nat) (n : Nat) (iw : Bool) (c0 : Nat) : (Nat → Nat) × Nat := if mLet c0 = 0 then (f, n) else if iw = false ∧ 0 < n then (va_up (va_up f n 32) (n + 1) (mLet c0), n + 1 + 1) else (va_up f n (mLet c0), n + 1)

set_option maxHeartbeats 4000000 in
set_option maxRecDepth 100000 in
theorem k_Te_take (l : Launch) (D : va_G) (ca : Nat → ClassId) (a n ty : Nat) (iw : Bool) (f : Nat → Nat) (c0 : Nat) (hc0 : c0 < 256) (hty : ty ≤ 12) (hnt : n + (if iw = false ∧ 0 < n then 1 else 0) ≤ ty) : Met l y_Te_take w_Te_take (zr 1 0 0) (zz_P D ca [.ref a, .int (nI c0)] (fun H => TeAt D ca H a f n ty iw)) (zz_Q (fun H H1 v => v = some (.int (nI (decide (ty < 12)).toNat)) ∧ zz_fr (teFr a) H H1 ∧ (if ty < 12 then TeAt D ca H1 a (cTk f n iw c0).1 (cTk f n iw c0).2 (ty + 1) (decide (mLet c0 ≠ 0)) else TeAt D ca H1 a f n ty iw))) 0 0 (teFr a) := by
  refine zz_met (cc := c_Te_take) (by decide) (Nat.le_of_ble_eq_true rfl) ?_
  intro p e s m below meth c ls hE hr hlk hnm hT hl
  have hx := hE.1.1
  have hb := hE.1.2.1
  have hK := hE.2
  have hl : lv_has ls 3 [(0, .ref a), (1, .int (nI c0))] := hl
  have hL : zz_L (teFr a) ([] : List Loc) := zz_L.nil
  have hS : zz_fr (teFr a) s.heap s.heap := zz_fr.rf
  have hlt := mLet_lt hc0
  have hnt0 : n ≤ ty := by omega
  refine lv_aload_n hx hb d_Te_take_0 rfl (lv_at hl 0 rfl) ?_
  refine fg_Te_15 hE hT.1 rfl d_Te_take_1 ?_
  refine lv_bipush (v := nI 12) hx hb d_Te_take_4 (by decide) ?_
  refine zz_lt hx hb (by omega) (by omega) d_Te_take_6 (tgt := 11) rfl (fun hT6 => ?_) (fun hF6 => ?_)
  · refine lv_aload_n hx hb d_Te_take_11 rfl (lv_at hl 0 rfl) ?_
    refine lv_dup hx hb d_Te_take_12 rfl ?_
    refine fg_Te_15 hE hT.1 rfl d_Te_take_13 ?_
    refine lv_iconst (v := nI 1) hx hb d_Te_take_16 (by decide) ?_
    refine zz_iadd hx hb d_Te_take_17 ?_
    refine fp_Te_15 hE hT.1 hL (show teFr a a from Or.inl rfl) (Nat.le_of_ble_eq_true rfl) d_Te_take_18 (fun H locs h1 hu hL => ?_)
    have hS := hS.up hu (show teFr a a from Or.inl rfl)
    have hT : TeAt D ca H a f n (ty + 1) iw := ⟨h1, zz_keep hu (show a + 1 ≠ a by omega) hT.2⟩
    refine lv_aload_n hx hb d_Te_take_21 rfl (lv_at hl 0 rfl) ?_
    refine fg_Te_19 hE hT.1 rfl d_Te_take_22 ?_
    refine lv_istore_n hx hb d_Te_take_25 rfl hl (by decide) rfl (fun ls hl => ?_)
    have hl : lv_has ls 3 [(2, .int (nI iw.toNat)), (0, .ref a), (1, .int (nI c0))] := hl
    refine lv_aload_n hx hb d_Te_take_26 rfl (lv_at hl 1 rfl) ?_
    refine lv_iload_n hx hb d_Te_take_27 rfl (lv_at hl 2 rfl) ?_
    refine zz_callP (cl_Te_23 (rest := [.ref a]) hE (k_Te_isOfWord l D ca c0 (by omega)) ⟨rfl, rfl, by decide, by decide⟩ trivial rfl hl.1 rfl (Nat.le_of_ble_eq_true rfl) d_Te_take_28 ⟨by decide, by decide⟩) ?_
    refine fp_Te_19 hE hT.1 hL (show teFr a a from Or.inl rfl) (Nat.le_of_ble_eq_true rfl) d_Te_take_31 (fun H locs h1 hu hL => ?_)
    have hS := hS.up hu (show teFr a a from Or.inl rfl)
    have hT : TeAt D ca H a f n (ty + 1) (decide (mLet c0 ≠ 0)) := ⟨h1, zz_keep hu (show a + 1 ≠ a by omega) hT.2⟩
    refine lv_aload_n hx hb d_Te_take_34 rfl (lv_at hl 1 rfl) ?_
    refine fg_Te_19 hE hT.1 rfl d_Te_take_35 ?_
    refine zz_neB hx hb d_Te_take_38 (tgt := 43) rfl (fun hT38 => ?_) (fun hF38 => ?_)
    · refine lv_iload_n hx hb d_Te_take_43 rfl (lv_at hl 0 rfl) ?_
      refine zz_neB hx hb d_Te_take_44 (tgt := 60) rfl (fun hT44 => ?_) (fun hF44 => ?_)
      · refine lv_aload_n hx hb d_Te_take_60 rfl (lv_at hl 1 rfl) ?_
        refine lv_iload_n hx hb d_Te_take_61 rfl (lv_at hl 2 rfl) ?_
        refine zz_callP (cl_Te_34 (rest := [.ref a]) hE (k_Te_small l D ca c0 (by omega) (of_decide_eq_true hT38)) ⟨rfl, rfl, by decide, by decide⟩ trivial rfl hl.1 rfl (Nat.le_of_ble_eq_true rfl) d_Te_take_62 ⟨by decide, by decide⟩) ?_
        refine zz_callN (cl_Te_30 (rest := []) hE (k_Te_put l D ca a n (ty + 1) (decide (mLet c0 ≠ 0)) f (mLet c0) (by omega) (by omega)) ⟨rfl, rfl, by decide, by decide⟩ hT hT.1 rfl hl.1 rfl (Nat.le_of_ble_eq_true rfl) d_Te_take_65 ⟨by decide, by decide⟩) hL (fun _ h => h) (fun H locs hpost hL => ?_)
        obtain ⟨hfr9, hT⟩ := hpost
        have hS := hS.tr hfr9
        have hT : TeAt D ca H a (va_up f n (mLet c0)) (n + 1) (ty + 1) (decide (mLet c0 ≠ 0)) := hT
        refine lv_iconst (v := nI 1) hx hb d_Te_take_68 (by decide) ?_
        have hck : cTk f n iw c0 = (va_up f n (mLet c0), n + 1) := by
            unfold cTk
            rw [if_neg (of_decide_eq_true hT38), if_neg (by simp [hT44])]
        exact zz_iret hx hb hr hlk rfl ⟨by rw [decide_eq_true (show ty < 12 by omega)]; rfl, hS, by rw [if_pos (by omega), hck]; exact hT⟩ hL d_Te_take_69
      · refine lv_aload_n hx hb d_Te_take_47 rfl (lv_at hl 1 rfl) ?_
        refine fg_Te_27 hE hT.1 rfl d_Te_take_48 ?_
        refine zz_le0 hx hb (by omega) d_Te_take_51 (tgt := 60) rfl (fun hT51 => ?_) (fun hF51 => ?_)
        · refine lv_aload_n hx hb d_Te_take_60 rfl (lv_at hl 1 rfl) ?_
          refine lv_iload_n hx hb d_Te_take_61 rfl (lv_at hl 2 rfl) ?_
          refine zz_callP (cl_Te_34 (rest := [.ref a]) hE (k_Te_small l D ca c0 (by omega) (of_decide_eq_true hT38)) ⟨rfl, rfl, by decide, by decide⟩ trivial rfl hl.1 rfl (Nat.le_of_ble_eq_true rfl) d_Te_take_62 ⟨by decide, by decide⟩) ?_
          refine zz_callN (cl_Te_30 (rest := []) hE (k_Te_put l D ca a n (ty + 1) (decide (mLet c0 ≠ 0)) f (mLet c0) (by omega) (by omega)) ⟨rfl, rfl, by decide, by decide⟩ hT hT.1 rfl hl.1 rfl (Nat.le_of_ble_eq_true rfl) d_Te_take_65 ⟨by decide, by decide⟩) hL (fun _ h => h) (fun H locs hpost hL => ?_)
          obtain ⟨hfr9, hT⟩ := hpost
          have hS := hS.tr hfr9
          have hT : TeAt D ca H a (va_up f n (mLet c0)) (n + 1) (ty + 1) (decide (mLet c0 ≠ 0)) := hT
          refine lv_iconst (v := nI 1) hx hb d_Te_take_68 (by decide) ?_
          have hck : cTk f n iw c0 = (va_up f n (mLet c0), n + 1) := by
              unfold cTk
              rw [if_neg (of_decide_eq_true hT38), if_neg (by omega)]
          exact zz_iret hx hb hr hlk rfl ⟨by rw [decide_eq_true (show ty < 12 by omega)]; rfl, hS, by rw [if_pos (by omega), hck]; exact hT⟩ hL d_Te_take_69
        · rw [if_pos ⟨hF44, hF51⟩] at hnt
          refine lv_aload_n hx hb d_Te_take_54 rfl (lv_at hl 1 rfl) ?_
          refine lv_bipush (v := nI 32) hx hb d_Te_take_55 (by decide) ?_
          refine zz_callN (cl_Te_30 (rest := []) hE (k_Te_put l D ca a n (ty + 1) (decide (mLet c0 ≠ 0)) f 32 (by omega) (by omega)) ⟨rfl, rfl, by decide, by decide⟩ hT hT.1 rfl hl.1 rfl (Nat.le_of_ble_eq_true rfl) d_Te_take_57 ⟨by decide, by decide⟩) hL (fun _ h => h) (fun H locs hpost hL => ?_)
          obtain ⟨hfr9, hT⟩ := hpost
          have hS := hS.tr hfr9
          have hT : TeAt D ca H a (va_up f n 32) (n + 1) (ty + 1) (decide (mLet c0 ≠ 0)) := hT
          refine lv_aload_n hx hb d_Te_take_60 rfl (lv_at hl 1 rfl) ?_
          refine lv_iload_n hx hb d_Te_take_61 rfl (lv_at hl 2 rfl) ?_
          refine zz_callP (cl_Te_34 (rest := [.ref a]) hE (k_Te_small l D ca c0 (by omega) (of_decide_eq_true hT38)) ⟨rfl, rfl, by decide, by decide⟩ trivial rfl hl.1 rfl (Nat.le_of_ble_eq_true rfl) d_Te_take_62 ⟨by decide, by decide⟩) ?_
          refine zz_callN (cl_Te_30 (rest := []) hE (k_Te_put l D ca a (n + 1) (ty + 1) (decide (mLet c0 ≠ 0)) (va_up f n 32) (mLet c0) (by omega) (by omega)) ⟨rfl, rfl, by decide, by decide⟩ hT hT.1 rfl hl.1 rfl (Nat.le_of_ble_eq_true rfl) d_Te_take_65 ⟨by decide, by decide⟩) hL (fun _ h => h) (fun H locs hpost hL => ?_)
          obtain ⟨hfr9, hT⟩ := hpost
          have hS := hS.tr hfr9
          have hT : TeAt D ca H a (va_up (va_up f n 32) (n + 1) (mLet c0)) (n + 1 + 1) (ty + 1) (decide (mLet c0 ≠ 0)) := hT
          refine lv_iconst (v := nI 1) hx hb d_Te_take_68 (by decide) ?_
          have hck : cTk f n iw c0 = (va_up (va_up f n 32) (n + 1) (mLet c0), n + 1 + 1) := by
              unfold cTk
              rw [if_neg (of_decide_eq_true hT38), if_pos ⟨hF44, hF51⟩]
          exact zz_iret hx hb hr hlk rfl ⟨by rw [decide_eq_true (show ty < 12 by omega)]; rfl, hS, by rw [if_pos (by omega), hck]; exact hT⟩ hL d_Te_take_69
    · refine lv_iconst (v := nI 1) hx hb d_Te_take_41 (by decide) ?_
      have hck : cTk f n iw c0 = (f, n) := by
          unfold cTk
          rw [if_pos (by simpa using hF38)]
      exact zz_iret hx hb hr hlk rfl ⟨by rw [decide_eq_true (show ty < 12 by omega)]; rfl, hS, by rw [if_pos (by omega), hck]; exact hT⟩ hL d_Te_take_42
  · refine lv_iconst (v := nI 0) hx hb d_Te_take_9 (by decide) ?_
    exact zz_iret hx hb hr hlk rfl ⟨by rw [decide_eq_false (show ¬ ty < 12 by omega)]; rfl, hS, by rw [if_neg (by omega)]; exact hT⟩ hL d_Te_take_10
