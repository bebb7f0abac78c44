/-! The class's texts: an object at a, its codes behind it. -/
def TeAt (D : va_G) (ca : Nat → ClassId) (H : Heap) (a : Nat) (f : Nat → Nat) (n ty : Nat) (iw : Bool) : Prop := va_at D zC (a, .inr (0, [.ref (a + 1), .int (nI n), .int (nI ty), .int (nI iw.toNat)])) H ∧ va_at D zC (a + 1, .inl (ca 1, 12, .inl (fun j => nI (f j)))) H
def cBw (f : Nat → Nat) (i : Nat) : Bool := decide (i = 0) || decide (f (i - 1) = 32)
def cEw (f : Nat → Nat) (n i : Nat) : Bool := decide (n ≤ i) || decide (f i = 32)
def cSwF (f : Nat → Nat) (n : Nat) (g : Nat → Nat) (n2 i j : Nat) : Nat → Nat → Bool
  | 0, _ => true
  | u + 1, k => if (cEw f n (i + k) || cEw g n2 (j + k)) = true then cEw f n (i + k) && cEw g n2 (j + k) else if f (i + k) = g (j + k) then cSwF f n g n2 i j u (k + 1) else false
def cSw (f : Nat → Nat) (n : Nat) (g : Nat → Nat) (n2 i j : Nat) : Bool := cSwF f n g n2 i j 12 0
def cHw (f : Nat → Nat) (n : Nat) (g : Nat → Nat) (n2 j : Nat) : Nat → Bool := zany (fun i => cBw f i && cSw f n g n2 i j)
def cWs (f : Nat → Nat) (n : Nat) : Nat → Nat := zcnt (fun i => cBw f i && !(cHw f n f n i i))
def cSh (f : Nat → Nat) (n : Nat) (g : Nat → Nat) (n2 : Nat) : Nat → Nat := zcnt (fun i => cBw f i && !(cHw f n f n i i) && cHw g n2 f n i n2)
def cCmpF (f : Nat → Nat) (n : Nat) (g : Nat → Nat) (n2 : Nat) : Nat → Nat → Int32
  | 0, _ => nI n - nI n2
  | u + 1, i => if f i = g i then cCmpF f n g n2 u (i + 1) else nI (f i) - nI (g i)
def cCmp (f : Nat → Nat) (n : Nat) (g : Nat → Nat) (n2 : Nat) : Int32 := cCmpF f n g n2 (min n n2) 0

set_option maxHeartbeats 4000000 in
set_option maxRecDepth 100000 in
theorem k_Te_beginsWord (l : Launch) (D : va_G) (ca : Nat → ClassId) (a n ty : Nat) (iw : Bool) (f : Nat → Nat) (i : Nat) (hi : i ≤ 12) (hf : ∀ j, j < 12 → f j < 65536) : Met l y_Te_beginsWord w_Te_beginsWord (zr 0 0 0) (zz_P D ca [.ref a, .int (nI i)] (fun H => TeAt D ca H a f n ty iw)) (zz_Q (fun H H1 v => H1 = H ∧ v = some (.int (nI (cBw f i).toNat)))) 0 0 (fun _ => False) := by
  refine zz_met (cc := c_Te_beginsWord) (by decide) (Nat.le_of_ble_eq_true rfl) ?_
  intro p e s m below meth c ls hE hr hlk hnm hT hl
  have hx := hE.1.1
  have hb := hE.1.2.1
  have hK := hE.2
  have hl : lv_has ls 2 [(0, .ref a), (1, .int (nI i))] := hl
  have hL : zz_L (fun _ => False) ([] : List Loc) := zz_L.nil
  refine lv_iload_n hx hb d_Te_beginsWord_0 rfl (lv_at hl 1 rfl) ?_
  refine zz_eq0 hx hb (by omega) d_Te_beginsWord_1 (tgt := 17) rfl (fun hT1 => ?_) (fun hF1 => ?_)
  · refine lv_iconst (v := nI 1) hx hb d_Te_beginsWord_17 (by decide) ?_
    refine lv_goto hx hb d_Te_beginsWord_18 (tgt := 22) rfl ?_
    exact zz_iret hx hb hr hlk rfl ⟨rfl, congrArg (fun z => some (Value.int z)) (by simp [cBw, hT1])⟩ hL d_Te_beginsWord_22
  · have hf1 := hf (i - 1) (by omega)
    refine lv_aload_n hx hb d_Te_beginsWord_4 rfl (lv_at hl 0 rfl) ?_
    refine fg_Te_9 hE hT.1 rfl d_Te_beginsWord_5 ?_
    refine lv_iload_n hx hb d_Te_beginsWord_8 rfl (lv_at hl 1 rfl) ?_
    refine lv_iconst (v := nI 1) hx hb d_Te_beginsWord_9 (by decide) ?_
    refine zz_isub (by omega) hx hb d_Te_beginsWord_10 ?_
    refine zz_cald hx hb hK.1 hT.2 1 rfl (i := i - 1) (by omega) (by omega) d_Te_beginsWord_11 ?_
    refine lv_bipush (v := nI 32) hx hb d_Te_beginsWord_12 (by decide) ?_
    refine zz_ne hx hb (by omega) (by omega) d_Te_beginsWord_14 (tgt := 21) rfl (fun hT14 => ?_) (fun hF14 => ?_)
    · refine lv_iconst (v := nI 0) hx hb d_Te_beginsWord_21 (by decide) ?_
      exact zz_iret hx hb hr hlk rfl ⟨rfl, congrArg (fun z => some (Value.int z)) (by rw [show cBw f i = (decide (i = 0) || decide (f (i - 1) = 32)) from rfl, decide_eq_false (show ¬ i = 0 by omega)]; simp [hT14])⟩ hL d_Te_beginsWord_22
    · refine lv_iconst (v := nI 1) hx hb d_Te_beginsWord_17 (by decide) ?_
      refine lv_goto hx hb d_Te_beginsWord_18 (tgt := 22) rfl ?_
      exact zz_iret hx hb hr hlk rfl ⟨rfl, congrArg (fun z => some (Value.int z)) (by rw [show cBw f i = (decide (i = 0) || decide (f (i - 1) = 32)) from rfl, decide_eq_false (show ¬ i = 0 by omega)]; simp [hF14])⟩ hL d_Te_beginsWord_22

set_option maxHeartbeats 4000000 in
set_option maxRecDepth 100000 in
theorem k_Te_endsWord (l : Launch) (D : va_G) (ca : Nat → ClassId) (a n ty : Nat) (iw : Bool) (f : Nat → Nat) (i : Nat) (hi : i < 64) (hn : n ≤ 12) (hf : ∀ j, j < 12 → f j < 65536) : Met l y_Te_endsWord w_Te_endsWord (zr 0 0 0) (zz_P D ca [.ref a, .int (nI i)] (fun H => TeAt D ca H a f n ty iw)) (zz_Q (fun H H1 v => H1 = H ∧ v = some (.int (nI (cEw f n i).toNat)))) 0 0 (fun _ => False) := by
  refine zz_met (cc := c_Te_endsWord) (by decide) (Nat.le_of_ble_eq_true rfl) ?_
  intro p e s m below meth c ls hE hr hlk hnm hT hl
  have hx := hE.1.1
  have hb := hE.1.2.1
  have hK := hE.2
  have hl : lv_has ls 2 [(0, .ref a), (1, .int (nI i))] := hl
  have hL : zz_L (fun _ => False) ([] : List Loc) := zz_L.nil
  refine lv_iload_n hx hb d_Te_endsWord_0 rfl (lv_at hl 1 rfl) ?_
  refine lv_aload_n hx hb d_Te_endsWord_1 rfl (lv_at hl 0 rfl) ?_
  refine fg_Te_27 hE hT.1 rfl d_Te_endsWord_2 ?_
  refine zz_ge hx hb (by omega) (by omega) d_Te_endsWord_5 (tgt := 19) rfl (fun hT5 => ?_) (fun hF5 => ?_)
  · refine lv_iconst (v := nI 1) hx hb d_Te_endsWord_19 (by decide) ?_
    refine lv_goto hx hb d_Te_endsWord_20 (tgt := 24) rfl ?_
    exact zz_iret hx hb hr hlk rfl ⟨rfl, congrArg (fun z => some (Value.int z)) (by simp [cEw, hT5])⟩ hL d_Te_endsWord_24
  · have hf1 := hf i (by omega)
    refine lv_aload_n hx hb d_Te_endsWord_8 rfl (lv_at hl 0 rfl) ?_
    refine fg_Te_9 hE hT.1 rfl d_Te_endsWord_9 ?_
    refine lv_iload_n hx hb d_Te_endsWord_12 rfl (lv_at hl 1 rfl) ?_
    refine zz_cald hx hb hK.1 hT.2 1 rfl (i := i) (by omega) (by omega) d_Te_endsWord_13 ?_
    refine lv_bipush (v := nI 32) hx hb d_Te_endsWord_14 (by decide) ?_
    refine zz_ne hx hb (by omega) (by omega) d_Te_endsWord_16 (tgt := 23) rfl (fun hT16 => ?_) (fun hF16 => ?_)
    · refine lv_iconst (v := nI 0) hx hb d_Te_endsWord_23 (by decide) ?_
      exact zz_iret hx hb hr hlk rfl ⟨rfl, congrArg (fun z => some (Value.int z)) (by rw [show cEw f n i = (decide (n ≤ i) || decide (f i = 32)) from rfl, decide_eq_false (show ¬ n ≤ i by omega)]; simp [hT16])⟩ hL d_Te_endsWord_24
    · refine lv_iconst (v := nI 1) hx hb d_Te_endsWord_19 (by decide) ?_
      refine lv_goto hx hb d_Te_endsWord_20 (tgt := 24) rfl ?_
      exact zz_iret hx hb hr hlk rfl ⟨rfl, congrArg (fun z => some (Value.int z)) (by rw [show cEw f n i = (decide (n ≤ i) || decide (f i = 32)) from rfl, decide_eq_false (show ¬ n ≤ i by omega)]; simp [hF16])⟩ hL d_Te_endsWord_24

set_option maxHeartbeats 4000000 in
set_option maxRecDepth 100000 in
theorem k_Te_isSameWord (l : Launch) (D : va_G) (ca : Nat → ClassId) (a n ty : Nat) (iw : Bool) (f : Nat → Nat) (b n2 ty2 : Nat) (iw2 : Bool) (g : Nat → Nat) (i j : Nat) (hi : i < 16) (hj : j < 16) (hn : n ≤ 12) (hn2 : n2 ≤ 12) (hf : ∀ j, j < 12 → f j < 65536) (hg : ∀ j, j < 12 → g j < 65536) : Met l y_Te_isSameWord w_Te_isSameWord (zr 1 0 0) (zz_P D ca [.ref a, .int (nI i), .ref b, .int (nI j)] (fun H => TeAt D ca H a f n ty iw ∧ TeAt D ca H b g n2 ty2 iw2)) (zz_Q (fun H H1 v => H1 = H ∧ v = some (.int (nI (cSw f n g n2 i j).toNat)))) 0 0 (fun _ => False) := by
  refine zz_met (cc := c_Te_isSameWord) (by decide) (Nat.le_of_ble_eq_true rfl) ?_
  intro p e s m below meth c ls hE hr hlk hnm ⟨hT, hU⟩ hl
  have hx := hE.1.1
  have hb := hE.1.2.1
  have hK := hE.2
  have hl : lv_has ls 5 [(0, .ref a), (1, .int (nI i)), (2, .ref b), (3, .int (nI j))] := hl
  have hL : zz_L (fun _ => False) ([] : List Loc) := zz_L.nil
  refine lv_iconst (v := nI 0) hx hb d_Te_isSameWord_0 (by decide) ?_
  refine lv_istore hx hb d_Te_isSameWord_1 hl (by decide) rfl (fun ls hl => ?_)
  have hl : lv_has ls 5 [(4, .int (nI 0)), (0, .ref a), (1, .int (nI i)), (2, .ref b), (3, .int (nI j))] := hl
  have hl : lv_has ls 5 [(0, .ref a), (1, .int (nI i)), (2, .ref b), (3, .int (nI j)), (4, .int (nI 0))] := lv_sub hl [1, 2, 3, 4, 0] rfl
  refine zz_loopP (σ := Nat × Nat) (fun ⟨u, k⟩ ls => lv_has ls 5 [(0, .ref a), (1, .int (nI i)), (2, .ref b), (3, .int (nI j)), (4, .int (nI k))] ∧ k + u = 12 ∧ cSwF f n g n2 i j u k = cSw f n g n2 i j) (fun ⟨u, k⟩ => u) ?_ (12, 0) ls ⟨hl, rfl, rfl⟩
  rintro ⟨u, k⟩ ih ls ⟨hl, hku, hv⟩
  refine lv_iload hx hb d_Te_isSameWord_3 (lv_at hl 4 rfl) ?_
  refine lv_bipush (v := nI 12) hx hb d_Te_isSameWord_5 (by decide) ?_
  refine zz_ge hx hb (by omega) (by omega) d_Te_isSameWord_7 (tgt := 89) rfl (fun hT7 => ?_) (fun hF7 => ?_)
  · refine lv_iconst (v := nI 1) hx hb d_Te_isSameWord_89 (by decide) ?_
    have hval : cSw f n g n2 i j = true := by
        have h9 : u = 0 := by omega
        subst h9
        exact hv.symm
    exact zz_iret hx hb hr hlk rfl ⟨rfl, by rw [hval]; rfl⟩ hL d_Te_isSameWord_90
  · refine lv_aload_n hx hb d_Te_isSameWord_10 rfl (lv_at hl 0 rfl) ?_
    refine lv_iload_n hx hb d_Te_isSameWord_11 rfl (lv_at hl 1 rfl) ?_
    refine lv_iload hx hb d_Te_isSameWord_12 (lv_at hl 4 rfl) ?_
    refine zz_iadd hx hb d_Te_isSameWord_14 ?_
    refine zz_callP (cl_Te_49 (rest := []) hE (k_Te_endsWord l D ca a n ty iw f (i + k) (by omega) hn hf) ⟨rfl, rfl, by decide, by decide⟩ hT hT.1 rfl hl.1 rfl (Nat.le_of_ble_eq_true rfl) d_Te_isSameWord_15 ⟨by decide, by decide⟩) ?_
    refine zz_neB hx hb d_Te_isSameWord_18 (tgt := 32) rfl (fun hT18 => ?_) (fun hF18 => ?_)
    · refine lv_aload_n hx hb d_Te_isSameWord_32 rfl (lv_at hl 0 rfl) ?_
      refine lv_iload_n hx hb d_Te_isSameWord_33 rfl (lv_at hl 1 rfl) ?_
      refine lv_iload hx hb d_Te_isSameWord_34 (lv_at hl 4 rfl) ?_
      refine zz_iadd hx hb d_Te_isSameWord_36 ?_
      refine zz_callP (cl_Te_49 (rest := []) hE (k_Te_endsWord l D ca a n ty iw f (i + k) (by omega) hn hf) ⟨rfl, rfl, by decide, by decide⟩ hT hT.1 rfl hl.1 rfl (Nat.le_of_ble_eq_true rfl) d_Te_isSameWord_37 ⟨by decide, by decide⟩) ?_
      refine zz_eqB hx hb d_Te_isSameWord_40 (tgt := 58) rfl (fun hT40 => ?_) (fun hF40 => ?_)
      · refine lv_iconst (v := nI 0) hx hb d_Te_isSameWord_58 (by decide) ?_
        rw [hT18] at hT40
        cases hT40
      · refine lv_aload_n hx hb d_Te_isSameWord_43 rfl (lv_at hl 2 rfl) ?_
        refine lv_iload_n hx hb d_Te_isSameWord_44 rfl (lv_at hl 3 rfl) ?_
        refine lv_iload hx hb d_Te_isSameWord_45 (lv_at hl 4 rfl) ?_
        refine zz_iadd hx hb d_Te_isSameWord_47 ?_
        refine zz_callP (cl_Te_49 (rest := []) hE (k_Te_endsWord l D ca b n2 ty2 iw2 g (j + k) (by omega) hn2 hg) ⟨rfl, rfl, by decide, by decide⟩ hU hU.1 rfl hl.1 rfl (Nat.le_of_ble_eq_true rfl) d_Te_isSameWord_48 ⟨by decide, by decide⟩) ?_
        refine zz_eqB hx hb d_Te_isSameWord_51 (tgt := 58) rfl (fun hT51 => ?_) (fun hF51 => ?_)
        · refine lv_iconst (v := nI 0) hx hb d_Te_isSameWord_58 (by decide) ?_
          have hval : cSw f n g n2 i j = false := by
              obtain ⟨u, rfl⟩ : ∃ z, u = z + 1 := ⟨u - 1, by omega⟩
              simp only [cSwF] at hv
              rw [if_pos (by simp [hT18, hF40, hT51])] at hv
              rw [← hv] <;> simp [hT18, hF40, hT51]
          exact zz_iret hx hb hr hlk rfl ⟨rfl, by rw [hval]; rfl⟩ hL d_Te_isSameWord_59
        · refine lv_iconst (v := nI 1) hx hb d_Te_isSameWord_54 (by decide) ?_
          refine lv_goto hx hb d_Te_isSameWord_55 (tgt := 59) rfl ?_
          have hval : cSw f n g n2 i j = true := by
              obtain ⟨u, rfl⟩ : ∃ z, u = z + 1 := ⟨u - 1, by omega⟩
              simp only [cSwF] at hv
              rw [if_pos (by simp [hT18, hF40, hF51])] at hv
              rw [← hv] <;> simp [hT18, hF40, hF51]
          exact zz_iret hx hb hr hlk rfl ⟨rfl, by rw [hval]; rfl⟩ hL d_Te_isSameWord_59
    · refine lv_aload_n hx hb d_Te_isSameWord_21 rfl (lv_at hl 2 rfl) ?_
      refine lv_iload_n hx hb d_Te_isSameWord_22 rfl (lv_at hl 3 rfl) ?_
      refine lv_iload hx hb d_Te_isSameWord_23 (lv_at hl 4 rfl) ?_
      refine zz_iadd hx hb d_Te_isSameWord_25 ?_
      refine zz_callP (cl_Te_49 (rest := []) hE (k_Te_endsWord l D ca b n2 ty2 iw2 g (j + k) (by omega) hn2 hg) ⟨rfl, rfl, by decide, by decide⟩ hU hU.1 rfl hl.1 rfl (Nat.le_of_ble_eq_true rfl) d_Te_isSameWord_26 ⟨by decide, by decide⟩) ?_
      refine zz_eqB hx hb d_Te_isSameWord_29 (tgt := 60) rfl (fun hT29 => ?_) (fun hF29 => ?_)
      · have hik : i + k < n := by simp [cEw] at hF18; omega
        have hjk : j + k < n2 := by simp [cEw] at hT29; omega
        have hf1 := hf (i + k) (by omega)
        have hg1 := hg (j + k) (by omega)
        refine lv_aload_n hx hb d_Te_isSameWord_60 rfl (lv_at hl 0 rfl) ?_
        refine fg_Te_9 hE hT.1 rfl d_Te_isSameWord_61 ?_
        refine lv_iload_n hx hb d_Te_isSameWord_64 rfl (lv_at hl 1 rfl) ?_
        refine lv_iload hx hb d_Te_isSameWord_65 (lv_at hl 4 rfl) ?_
        refine zz_iadd hx hb d_Te_isSameWord_67 ?_
        refine zz_cald hx hb hK.1 hT.2 1 rfl (i := i + k) (by omega) (by omega) d_Te_isSameWord_68 ?_
        refine lv_aload_n hx hb d_Te_isSameWord_69 rfl (lv_at hl 2 rfl) ?_
        refine fg_Te_9 hE hU.1 rfl d_Te_isSameWord_70 ?_
        refine lv_iload_n hx hb d_Te_isSameWord_73 rfl (lv_at hl 3 rfl) ?_
        refine lv_iload hx hb d_Te_isSameWord_74 (lv_at hl 4 rfl) ?_
        refine zz_iadd hx hb d_Te_isSameWord_76 ?_
        refine zz_cald hx hb hK.1 hU.2 1 rfl (i := j + k) (by omega) (by omega) d_Te_isSameWord_77 ?_
        refine zz_eq hx hb (by omega) (by omega) d_Te_isSameWord_78 (tgt := 83) rfl (fun hT78 => ?_) (fun hF78 => ?_)
        · refine lv_iinc (k := 4) (v := nI (k + 1)) hx hb d_Te_isSameWord_83 hl rfl (zz_inc _) (by decide) rfl (fun ls hl => ?_)
          have hl : lv_has ls 5 [(4, .int (nI (k + 1))), (0, .ref a), (1, .int (nI i)), (2, .ref b), (3, .int (nI j))] := hl
          refine lv_goto hx hb d_Te_isSameWord_86 (tgt := 3) rfl ?_
          obtain ⟨u, rfl⟩ : ∃ z, u = z + 1 := ⟨u - 1, by omega⟩
          simp only [cSwF] at hv
          rw [if_neg (by simp [hF18, hT29]), if_pos hT78] at hv
          have hl : lv_has ls 5 [(0, .ref a), (1, .int (nI i)), (2, .ref b), (3, .int (nI j)), (4, .int (nI (k + 1)))] := lv_sub hl [1, 2, 3, 4, 0] rfl
          exact ih (u, k + 1) ls ⟨hl, by omega, hv⟩ (Nat.lt_succ_self _)
        · refine lv_iconst (v := nI 0) hx hb d_Te_isSameWord_81 (by decide) ?_
          have hval : cSw f n g n2 i j = false := by
              obtain ⟨u, rfl⟩ : ∃ z, u = z + 1 := ⟨u - 1, by omega⟩
              simp only [cSwF] at hv
              rw [if_neg (by simp [hF18, hT29]), if_neg hF78] at hv
              rw [← hv] <;> simp [hF18, hT29]
          exact zz_iret hx hb hr hlk rfl ⟨rfl, by rw [hval]; rfl⟩ hL d_Te_isSameWord_82
      · refine lv_aload_n hx hb d_Te_isSameWord_32 rfl (lv_at hl 0 rfl) ?_
        refine lv_iload_n hx hb d_Te_isSameWord_33 rfl (lv_at hl 1 rfl) ?_
        refine lv_iload hx hb d_Te_isSameWord_34 (lv_at hl 4 rfl) ?_
        refine zz_iadd hx hb d_Te_isSameWord_36 ?_
        refine zz_callP (cl_Te_49 (rest := []) hE (k_Te_endsWord l D ca a n ty iw f (i + k) (by omega) hn hf) ⟨rfl, rfl, by decide, by decide⟩ hT hT.1 rfl hl.1 rfl (Nat.le_of_ble_eq_true rfl) d_Te_isSameWord_37 ⟨by decide, by decide⟩) ?_
        refine zz_eqB hx hb d_Te_isSameWord_40 (tgt := 58) rfl (fun hT40 => ?_) (fun hF40 => ?_)
        · refine lv_iconst (v := nI 0) hx hb d_Te_isSameWord_58 (by decide) ?_
          have hval : cSw f n g n2 i j = false := by
              obtain ⟨u, rfl⟩ : ∃ z, u = z + 1 := ⟨u - 1, by omega⟩
              simp only [cSwF] at hv
              rw [if_pos (by simp [hF18, hF29, hT40])] at hv
              rw [← hv] <;> simp [hF18, hF29, hT40]
          exact zz_iret hx hb hr hlk rfl ⟨rfl, by rw [hval]; rfl⟩ hL d_Te_isSameWord_59
        · refine lv_aload_n hx hb d_Te_isSameWord_43 rfl (lv_at hl 2 rfl) ?_
          refine lv_iload_n hx hb d_Te_isSameWord_44 rfl (lv_at hl 3 rfl) ?_
          refine lv_iload hx hb d_Te_isSameWord_45 (lv_at hl 4 rfl) ?_
          refine zz_iadd hx hb d_Te_isSameWord_47 ?_
          refine zz_callP (cl_Te_49 (rest := []) hE (k_Te_endsWord l D ca b n2 ty2 iw2 g (j + k) (by omega) hn2 hg) ⟨rfl, rfl, by decide, by decide⟩ hU hU.1 rfl hl.1 rfl (Nat.le_of_ble_eq_true rfl) d_Te_isSameWord_48 ⟨by decide, by decide⟩) ?_
          refine zz_eqB hx hb d_Te_isSameWord_51 (tgt := 58) rfl (fun hT51 => ?_) (fun hF51 => ?_)
          · refine lv_iconst (v := nI 0) hx hb d_Te_isSameWord_58 (by decide) ?_
            rw [hF18] at hF40
            cases hF40
          · refine lv_iconst (v := nI 1) hx hb d_Te_isSameWord_54 (by decide) ?_
            refine lv_goto hx hb d_Te_isSameWord_55 (tgt := 59) rfl ?_
            rw [hF18] at hF40
            cases hF40

set_option maxHeartbeats 4000000 in
set_option maxRecDepth 100000 in
theorem k_Te_hasWordBefore (l : Launch) (D : va_G) (ca : Nat → ClassId) (a n ty : Nat) (iw : Bool) (f : Nat → Nat) (b n2 ty2 : Nat) (iw2 : Bool) (g : Nat → Nat) (en j : Nat) (hen : en ≤ 12) (hj : j < 16) (hn : n ≤ 12) (hn2 : n2 ≤ 12) (hf : ∀ j, j < 12 → f j < 65536) (hg : ∀ j, j < 12 → g j < 65536) : Met l y_Te_hasWordBefore w_Te_hasWordBefore (zr 2 0 0) (zz_P D ca [.ref a, .int (nI en), .ref b, .int (nI j)] (fun H => TeAt D ca H a f n ty iw ∧ TeAt D ca H b g n2 ty2 iw2)) (zz_Q (fun H H1 v => H1 = H ∧ v = some (.int (nI (cHw f n g n2 j en).toNat)))) 0 0 (fun _ => False) := by
  refine zz_met (cc := c_Te_hasWordBefore) (by decide) (Nat.le_of_ble_eq_true rfl) ?_
  intro p e s m below meth c ls hE hr hlk hnm ⟨hT, hU⟩ hl
  have hx := hE.1.1
  have hb := hE.1.2.1
  have hK := hE.2
  have hl : lv_has ls 5 [(0, .ref a), (1, .int (nI en)), (2, .ref b), (3, .int (nI j))] := hl
  have hL : zz_L (fun _ => False) ([] : List Loc) := zz_L.nil
  refine lv_iconst (v := nI 0) hx hb d_Te_hasWordBefore_0 (by decide) ?_
  refine lv_istore hx hb d_Te_hasWordBefore_1 hl (by decide) rfl (fun ls hl => ?_)
  have hl : lv_has ls 5 [(4, .int (nI 0)), (0, .ref a), (1, .int (nI en)), (2, .ref b), (3, .int (nI j))] := hl
  have hl : lv_has ls 5 [(0, .ref a), (1, .int (nI en)), (2, .ref b), (3, .int (nI j)), (4, .int (nI 0))] := lv_sub hl [1, 2, 3, 4, 0] rfl
  refine zz_loopP (σ := Nat) (fun i ls => lv_has ls 5 [(0, .ref a), (1, .int (nI en)), (2, .ref b), (3, .int (nI j)), (4, .int (nI i))] ∧ i ≤ en ∧ cHw f n g n2 j i = false) (fun i => en - i) ?_ 0 ls ⟨hl, Nat.zero_le _, rfl⟩
  rintro i ih ls ⟨hl, hi, hno⟩
  refine lv_iload hx hb d_Te_hasWordBefore_3 (lv_at hl 4 rfl) ?_
  refine lv_iload_n hx hb d_Te_hasWordBefore_5 rfl (lv_at hl 1 rfl) ?_
  refine zz_ge hx hb (by omega) (by omega) d_Te_hasWordBefore_6 (tgt := 37) rfl (fun hT6 => ?_) (fun hF6 => ?_)
  · refine lv_iconst (v := nI 0) hx hb d_Te_hasWordBefore_37 (by decide) ?_
    exact zz_iret hx hb hr hlk rfl ⟨rfl, congrArg (fun z => some (Value.int z)) (by rw [← show i = en by omega, hno]; rfl)⟩ hL d_Te_hasWordBefore_38
  · refine lv_aload_n hx hb d_Te_hasWordBefore_9 rfl (lv_at hl 0 rfl) ?_
    refine lv_iload hx hb d_Te_hasWordBefore_10 (lv_at hl 4 rfl) ?_
    refine zz_callP (cl_Te_38 (rest := []) hE (k_Te_beginsWord l D ca a n ty iw f i (by omega) hf) ⟨rfl, rfl, by decide, by decide⟩ hT hT.1 rfl hl.1 rfl (Nat.le_of_ble_eq_true rfl) d_Te_hasWordBefore_12 ⟨by decide, by decide⟩) ?_
    refine zz_eqB hx hb d_Te_hasWordBefore_15 (tgt := 31) rfl (fun hT15 => ?_) (fun hF15 => ?_)
    · refine lv_iinc (k := 4) (v := nI (i + 1)) hx hb d_Te_hasWordBefore_31 hl rfl (zz_inc _) (by decide) rfl (fun ls hl => ?_)
      have hl : lv_has ls 5 [(4, .int (nI (i + 1))), (0, .ref a), (1, .int (nI en)), (2, .ref b), (3, .int (nI j))] := hl
      refine lv_goto hx hb d_Te_hasWordBefore_34 (tgt := 3) rfl ?_
      have hno9 : cHw f n g n2 j (i + 1) = false := by rw [show cHw f n g n2 j (i + 1) = (cHw f n g n2 j i || (cBw f i && cSw f n g n2 i j)) from rfl, hno]; simp [hT15]
      have hl : lv_has ls 5 [(0, .ref a), (1, .int (nI en)), (2, .ref b), (3, .int (nI j)), (4, .int (nI (i + 1)))] := lv_sub hl [1, 2, 3, 4, 0] rfl
      exact ih (i + 1) ls ⟨hl, by omega, hno9⟩ (by omega)
    · refine lv_aload_n hx hb d_Te_hasWordBefore_18 rfl (lv_at hl 0 rfl) ?_
      refine lv_iload hx hb d_Te_hasWordBefore_19 (lv_at hl 4 rfl) ?_
      refine lv_aload_n hx hb d_Te_hasWordBefore_21 rfl (lv_at hl 2 rfl) ?_
      refine lv_iload_n hx hb d_Te_hasWordBefore_22 rfl (lv_at hl 3 rfl) ?_
      refine zz_callP (cl_Te_46 (rest := []) hE (k_Te_isSameWord l D ca a n ty iw f b n2 ty2 iw2 g i j (by omega) (by omega) hn hn2 hf hg) ⟨rfl, rfl, by decide, by decide⟩ ⟨hT, hU⟩ hT.1 rfl hl.1 rfl (Nat.le_of_ble_eq_true rfl) d_Te_hasWordBefore_23 ⟨by decide, by decide⟩) ?_
      refine zz_eqB hx hb d_Te_hasWordBefore_26 (tgt := 31) rfl (fun hT26 => ?_) (fun hF26 => ?_)
      · refine lv_iinc (k := 4) (v := nI (i + 1)) hx hb d_Te_hasWordBefore_31 hl rfl (zz_inc _) (by decide) rfl (fun ls hl => ?_)
        have hl : lv_has ls 5 [(4, .int (nI (i + 1))), (0, .ref a), (1, .int (nI en)), (2, .ref b), (3, .int (nI j))] := hl
        refine lv_goto hx hb d_Te_hasWordBefore_34 (tgt := 3) rfl ?_
        have hno9 : cHw f n g n2 j (i + 1) = false := by rw [show cHw f n g n2 j (i + 1) = (cHw f n g n2 j i || (cBw f i && cSw f n g n2 i j)) from rfl, hno]; simp [hF15, hT26]
        have hl : lv_has ls 5 [(0, .ref a), (1, .int (nI en)), (2, .ref b), (3, .int (nI j)), (4, .int (nI (i + 1)))] := lv_sub hl [1, 2, 3, 4, 0] rfl
        exact ih (i + 1) ls ⟨hl, by omega, hno9⟩ (by omega)
      · refine lv_iconst (v := nI 1) hx hb d_Te_hasWordBefore_29 (by decide) ?_
        exact zz_iret hx hb hr hlk rfl ⟨rfl, congrArg (fun z => some (Value.int z)) (by rw [show cHw f n g n2 j en = true from zany_iff.2 ⟨i, by omega, by simp [hF15, hF26]⟩]; rfl)⟩ hL d_Te_hasWordBefore_30

set_option maxHeartbeats 4000000 in
set_option maxRecDepth 100000 in
theorem k_Te_wordSetSize (l : Launch) (D : va_G) (ca : Nat → ClassId) (a n ty : Nat) (iw : Bool) (f : Nat → Nat) (hn : n ≤ 12) (hf : ∀ j, j < 12 → f j < 65536) : Met l y_Te_wordSetSize w_Te_wordSetSize (zr 3 0 0) (zz_P D ca [.ref a] (fun H => TeAt D ca H a f n ty iw)) (zz_Q (fun H H1 v => H1 = H ∧ v = some (.int (nI (cWs f n n))))) 0 0 (fun _ => False) := by
  refine zz_met (cc := c_Te_wordSetSize) (by decide) (Nat.le_of_ble_eq_true rfl) ?_
  intro p e s m below meth c ls hE hr hlk hnm hT hl
  have hx := hE.1.1
  have hb := hE.1.2.1
  have hK := hE.2
  have hl : lv_has ls 3 [(0, .ref a)] := hl
  have hL : zz_L (fun _ => False) ([] : List Loc) := zz_L.nil
  refine lv_iconst (v := nI 0) hx hb d_Te_wordSetSize_0 (by decide) ?_
  refine lv_istore_n hx hb d_Te_wordSetSize_1 rfl hl (by decide) rfl (fun ls hl => ?_)
  have hl : lv_has ls 3 [(1, .int (nI 0)), (0, .ref a)] := hl
  refine lv_iconst (v := nI 0) hx hb d_Te_wordSetSize_2 (by decide) ?_
  refine lv_istore_n hx hb d_Te_wordSetSize_3 rfl hl (by decide) rfl (fun ls hl => ?_)
  have hl : lv_has ls 3 [(2, .int (nI 0)), (1, .int (nI 0)), (0, .ref a)] := hl
  have hl : lv_has ls 3 [(0, .ref a), (1, .int (nI 0)), (2, .int (nI 0))] := lv_sub hl [2, 1, 0] rfl
  refine zz_loopP (σ := Nat) (fun i ls => lv_has ls 3 [(0, .ref a), (1, .int (nI (cWs f n i))), (2, .int (nI i))] ∧ i ≤ n) (fun i => n - i) ?_ 0 ls ⟨hl, Nat.zero_le _⟩
  rintro i ih ls ⟨hl, hi⟩
  refine lv_iload_n hx hb d_Te_wordSetSize_4 rfl (lv_at hl 2 rfl) ?_
  refine lv_aload_n hx hb d_Te_wordSetSize_5 rfl (lv_at hl 0 rfl) ?_
  refine fg_Te_27 hE hT.1 rfl d_Te_wordSetSize_6 ?_
  refine zz_ge hx hb (by omega) (by omega) d_Te_wordSetSize_9 (tgt := 39) rfl (fun hT9 => ?_) (fun hF9 => ?_)
  · refine lv_iload_n hx hb d_Te_wordSetSize_39 rfl (lv_at hl 1 rfl) ?_
    exact zz_iret hx hb hr hlk rfl ⟨rfl, congrArg (fun z => some (Value.int z)) (by rw [show i = n by omega])⟩ hL d_Te_wordSetSize_40
  · refine lv_aload_n hx hb d_Te_wordSetSize_12 rfl (lv_at hl 0 rfl) ?_
    refine lv_iload_n hx hb d_Te_wordSetSize_13 rfl (lv_at hl 2 rfl) ?_
    refine zz_callP (cl_Te_38 (rest := []) hE (k_Te_beginsWord l D ca a n ty iw f i (by omega) hf) ⟨rfl, rfl, by decide, by decide⟩ hT hT.1 rfl hl.1 rfl (Nat.le_of_ble_eq_true rfl) d_Te_wordSetSize_14 ⟨by decide, by decide⟩) ?_
    refine zz_eqB hx hb d_Te_wordSetSize_17 (tgt := 33) rfl (fun hT17 => ?_) (fun hF17 => ?_)
    · refine lv_iinc (k := 2) (v := nI (i + 1)) hx hb d_Te_wordSetSize_33 hl rfl (zz_inc _) (by decide) rfl (fun ls hl => ?_)
      have hl : lv_has ls 3 [(2, .int (nI (i + 1))), (0, .ref a), (1, .int (nI (cWs f n i)))] := hl
      refine lv_goto hx hb d_Te_wordSetSize_36 (tgt := 4) rfl ?_
      have hl : lv_has ls 3 [(0, .ref a), (1, .int (nI (cWs f n (i + 1)))), (2, .int (nI (i + 1)))] := (by rw [show cWs f n (i + 1) = cWs f n i from by rw [show cWs f n (i + 1) = cWs f n i + (cBw f i && !(cHw f n f n i i)).toNat from rfl]; simp [hT17]]; exact lv_sub hl [1, 2, 0] rfl)
      exact ih (i + 1) ls ⟨hl, by omega⟩ (by omega)
    · refine lv_aload_n hx hb d_Te_wordSetSize_20 rfl (lv_at hl 0 rfl) ?_
      refine lv_iload_n hx hb d_Te_wordSetSize_21 rfl (lv_at hl 2 rfl) ?_
      refine lv_aload_n hx hb d_Te_wordSetSize_22 rfl (lv_at hl 0 rfl) ?_
      refine lv_iload_n hx hb d_Te_wordSetSize_23 rfl (lv_at hl 2 rfl) ?_
      refine zz_callP (cl_Te_42 (rest := []) hE (k_Te_hasWordBefore l D ca a n ty iw f a n ty iw f i i (by omega) (by omega) hn hn hf hf) ⟨rfl, rfl, by decide, by decide⟩ ⟨hT, hT⟩ hT.1 rfl hl.1 rfl (Nat.le_of_ble_eq_true rfl) d_Te_wordSetSize_24 ⟨by decide, by decide⟩) ?_
      refine zz_neB hx hb d_Te_wordSetSize_27 (tgt := 33) rfl (fun hT27 => ?_) (fun hF27 => ?_)
      · refine lv_iinc (k := 2) (v := nI (i + 1)) hx hb d_Te_wordSetSize_33 hl rfl (zz_inc _) (by decide) rfl (fun ls hl => ?_)
        have hl : lv_has ls 3 [(2, .int (nI (i + 1))), (0, .ref a), (1, .int (nI (cWs f n i)))] := hl
        refine lv_goto hx hb d_Te_wordSetSize_36 (tgt := 4) rfl ?_
        have hl : lv_has ls 3 [(0, .ref a), (1, .int (nI (cWs f n (i + 1)))), (2, .int (nI (i + 1)))] := (by rw [show cWs f n (i + 1) = cWs f n i from by rw [show cWs f n (i + 1) = cWs f n i + (cBw f i && !(cHw f n f n i i)).toNat from rfl]; simp [hF17, hT27]]; exact lv_sub hl [1, 2, 0] rfl)
        exact ih (i + 1) ls ⟨hl, by omega⟩ (by omega)
      · refine lv_iinc (k := 1) (v := nI (cWs f n i + 1)) hx hb d_Te_wordSetSize_30 hl rfl (zz_inc _) (by decide) rfl (fun ls hl => ?_)
        have hl : lv_has ls 3 [(1, .int (nI (cWs f n i + 1))), (0, .ref a), (2, .int (nI i))] := hl
        refine lv_iinc (k := 2) (v := nI (i + 1)) hx hb d_Te_wordSetSize_33 hl rfl (zz_inc _) (by decide) rfl (fun ls hl => ?_)
        have hl : lv_has ls 3 [(2, .int (nI (i + 1))), (1, .int (nI (cWs f n i + 1))), (0, .ref a)] := hl
        refine lv_goto hx hb d_Te_wordSetSize_36 (tgt := 4) rfl ?_
        have hl : lv_has ls 3 [(0, .ref a), (1, .int (nI (cWs f n (i + 1)))), (2, .int (nI (i + 1)))] := (by rw [show cWs f n (i + 1) = cWs f n i + 1 from by rw [show cWs f n (i + 1) = cWs f n i + (cBw f i && !(cHw f n f n i i)).toNat from rfl]; simp [hF17, hF27]]; exact lv_sub hl [2, 1, 0] rfl)
        exact ih (i + 1) ls ⟨hl, by omega⟩ (by omega)

set_option maxHeartbeats 4000000 in
set_option maxRecDepth 100000 in
theorem k_Te_countWordsSharedWith (l : Launch) (D : va_G) (ca : Nat → ClassId) (a n ty : Nat) (iw : Bool) (f : Nat → Nat) (b n2 ty2 : Nat) (iw2 : Bool) (g : Nat → Nat) (hn : n ≤ 12) (hn2 : n2 ≤ 12) (hf : ∀ j, j < 12 → f j < 65536) (hg : ∀ j, j < 12 → g j < 65536) : Met l y_Te_countWordsSharedWith w_Te_countWordsSharedWith (zr 3 0 0) (zz_P D ca [.ref a, .ref b] (fun H => TeAt D ca H a f n ty iw ∧ TeAt D ca H b g n2 ty2 iw2)) (zz_Q (fun H H1 v => H1 = H ∧ v = some (.int (nI (cSh f n g n2 n))))) 0 0 (fun _ => False) := by
  refine zz_met (cc := c_Te_countWordsSharedWith) (by decide) (Nat.le_of_ble_eq_true rfl) ?_
  intro p e s m below meth c ls hE hr hlk hnm ⟨hT, hU⟩ hl
  have hx := hE.1.1
  have hb := hE.1.2.1
  have hK := hE.2
  have hl : lv_has ls 4 [(0, .ref a), (1, .ref b)] := hl
  have hL : zz_L (fun _ => False) ([] : List Loc) := zz_L.nil
  refine lv_iconst (v := nI 0) hx hb d_Te_countWordsSharedWith_0 (by decide) ?_
  refine lv_istore_n hx hb d_Te_countWordsSharedWith_1 rfl hl (by decide) rfl (fun ls hl => ?_)
  have hl : lv_has ls 4 [(2, .int (nI 0)), (0, .ref a), (1, .ref b)] := hl
  refine lv_iconst (v := nI 0) hx hb d_Te_countWordsSharedWith_2 (by decide) ?_
  refine lv_istore_n hx hb d_Te_countWordsSharedWith_3 rfl hl (by decide) rfl (fun ls hl => ?_)
  have hl : lv_has ls 4 [(3, .int (nI 0)), (2, .int (nI 0)), (0, .ref a), (1, .ref b)] := hl
  have hl : lv_has ls 4 [(0, .ref a), (1, .ref b), (2, .int (nI 0)), (3, .int (nI 0))] := lv_sub hl [2, 3, 1, 0] rfl
  refine zz_loopP (σ := Nat) (fun i ls => lv_has ls 4 [(0, .ref a), (1, .ref b), (2, .int (nI (cSh f n g n2 i))), (3, .int (nI i))] ∧ i ≤ n) (fun i => n - i) ?_ 0 ls ⟨hl, Nat.zero_le _⟩
  rintro i ih ls ⟨hl, hi⟩
  refine lv_iload_n hx hb d_Te_countWordsSharedWith_4 rfl (lv_at hl 3 rfl) ?_
  refine lv_aload_n hx hb d_Te_countWordsSharedWith_5 rfl (lv_at hl 0 rfl) ?_
  refine fg_Te_27 hE hT.1 rfl d_Te_countWordsSharedWith_6 ?_
  refine zz_ge hx hb (by omega) (by omega) d_Te_countWordsSharedWith_9 (tgt := 52) rfl (fun hT9 => ?_) (fun hF9 => ?_)
  · refine lv_iload_n hx hb d_Te_countWordsSharedWith_52 rfl (lv_at hl 2 rfl) ?_
    exact zz_iret hx hb hr hlk rfl ⟨rfl, congrArg (fun z => some (Value.int z)) (by rw [show i = n by omega])⟩ hL d_Te_countWordsSharedWith_53
  · refine lv_aload_n hx hb d_Te_countWordsSharedWith_12 rfl (lv_at hl 0 rfl) ?_
    refine lv_iload_n hx hb d_Te_countWordsSharedWith_13 rfl (lv_at hl 3 rfl) ?_
    refine zz_callP (cl_Te_38 (rest := []) hE (k_Te_beginsWord l D ca a n ty iw f i (by omega) hf) ⟨rfl, rfl, by decide, by decide⟩ hT hT.1 rfl hl.1 rfl (Nat.le_of_ble_eq_true rfl) d_Te_countWordsSharedWith_14 ⟨by decide, by decide⟩) ?_
    refine zz_eqB hx hb d_Te_countWordsSharedWith_17 (tgt := 46) rfl (fun hT17 => ?_) (fun hF17 => ?_)
    · refine lv_iinc (k := 3) (v := nI (i + 1)) hx hb d_Te_countWordsSharedWith_46 hl rfl (zz_inc _) (by decide) rfl (fun ls hl => ?_)
      have hl : lv_has ls 4 [(3, .int (nI (i + 1))), (0, .ref a), (1, .ref b), (2, .int (nI (cSh f n g n2 i)))] := hl
      refine lv_goto hx hb d_Te_countWordsSharedWith_49 (tgt := 4) rfl ?_
      have hl : lv_has ls 4 [(0, .ref a), (1, .ref b), (2, .int (nI (cSh f n g n2 (i + 1)))), (3, .int (nI (i + 1)))] := (by rw [show cSh f n g n2 (i + 1) = cSh f n g n2 i from by rw [show cSh f n g n2 (i + 1) = cSh f n g n2 i + (cBw f i && !(cHw f n f n i i) && cHw g n2 f n i n2).toNat from rfl]; simp [hT17]]; exact lv_sub hl [1, 2, 3, 0] rfl)
      exact ih (i + 1) ls ⟨hl, by omega⟩ (by omega)
    · refine lv_aload_n hx hb d_Te_countWordsSharedWith_20 rfl (lv_at hl 0 rfl) ?_
      refine lv_iload_n hx hb d_Te_countWordsSharedWith_21 rfl (lv_at hl 3 rfl) ?_
      refine lv_aload_n hx hb d_Te_countWordsSharedWith_22 rfl (lv_at hl 0 rfl) ?_
      refine lv_iload_n hx hb d_Te_countWordsSharedWith_23 rfl (lv_at hl 3 rfl) ?_
      refine zz_callP (cl_Te_42 (rest := []) hE (k_Te_hasWordBefore l D ca a n ty iw f a n ty iw f i i (by omega) (by omega) hn hn hf hf) ⟨rfl, rfl, by decide, by decide⟩ ⟨hT, hT⟩ hT.1 rfl hl.1 rfl (Nat.le_of_ble_eq_true rfl) d_Te_countWordsSharedWith_24 ⟨by decide, by decide⟩) ?_
      refine zz_neB hx hb d_Te_countWordsSharedWith_27 (tgt := 46) rfl (fun hT27 => ?_) (fun hF27 => ?_)
      · refine lv_iinc (k := 3) (v := nI (i + 1)) hx hb d_Te_countWordsSharedWith_46 hl rfl (zz_inc _) (by decide) rfl (fun ls hl => ?_)
        have hl : lv_has ls 4 [(3, .int (nI (i + 1))), (0, .ref a), (1, .ref b), (2, .int (nI (cSh f n g n2 i)))] := hl
        refine lv_goto hx hb d_Te_countWordsSharedWith_49 (tgt := 4) rfl ?_
        have hl : lv_has ls 4 [(0, .ref a), (1, .ref b), (2, .int (nI (cSh f n g n2 (i + 1)))), (3, .int (nI (i + 1)))] := (by rw [show cSh f n g n2 (i + 1) = cSh f n g n2 i from by rw [show cSh f n g n2 (i + 1) = cSh f n g n2 i + (cBw f i && !(cHw f n f n i i) && cHw g n2 f n i n2).toNat from rfl]; simp [hF17, hT27]]; exact lv_sub hl [1, 2, 3, 0] rfl)
        exact ih (i + 1) ls ⟨hl, by omega⟩ (by omega)
      · refine lv_aload_n hx hb d_Te_countWordsSharedWith_30 rfl (lv_at hl 1 rfl) ?_
        refine lv_aload_n hx hb d_Te_countWordsSharedWith_31 rfl (lv_at hl 1 rfl) ?_
        refine fg_Te_27 hE hU.1 rfl d_Te_countWordsSharedWith_32 ?_
        refine lv_aload_n hx hb d_Te_countWordsSharedWith_35 rfl (lv_at hl 0 rfl) ?_
        refine lv_iload_n hx hb d_Te_countWordsSharedWith_36 rfl (lv_at hl 3 rfl) ?_
        refine zz_callP (cl_Te_42 (rest := []) hE (k_Te_hasWordBefore l D ca b n2 ty2 iw2 g a n ty iw f n2 i (by omega) (by omega) hn2 hn hg hf) ⟨rfl, rfl, by decide, by decide⟩ ⟨hU, hT⟩ hU.1 rfl hl.1 rfl (Nat.le_of_ble_eq_true rfl) d_Te_countWordsSharedWith_37 ⟨by decide, by decide⟩) ?_
        refine zz_eqB hx hb d_Te_countWordsSharedWith_40 (tgt := 46) rfl (fun hT40 => ?_) (fun hF40 => ?_)
        · refine lv_iinc (k := 3) (v := nI (i + 1)) hx hb d_Te_countWordsSharedWith_46 hl rfl (zz_inc _) (by decide) rfl (fun ls hl => ?_)
          have hl : lv_has ls 4 [(3, .int (nI (i + 1))), (0, .ref a), (1, .ref b), (2, .int (nI (cSh f n g n2 i)))] := hl
          refine lv_goto hx hb d_Te_countWordsSharedWith_49 (tgt := 4) rfl ?_
          have hl : lv_has ls 4 [(0, .ref a), (1, .ref b), (2, .int (nI (cSh f n g n2 (i + 1)))), (3, .int (nI (i + 1)))] := (by rw [show cSh f n g n2 (i + 1) = cSh f n g n2 i from by rw [show cSh f n g n2 (i + 1) = cSh f n g n2 i + (cBw f i && !(cHw f n f n i i) && cHw g n2 f n i n2).toNat from rfl]; simp [hF17, hF27, hT40]]; exact lv_sub hl [1, 2, 3, 0] rfl)
          exact ih (i + 1) ls ⟨hl, by omega⟩ (by omega)
        · refine lv_iinc (k := 2) (v := nI (cSh f n g n2 i + 1)) hx hb d_Te_countWordsSharedWith_43 hl rfl (zz_inc _) (by decide) rfl (fun ls hl => ?_)
          have hl : lv_has ls 4 [(2, .int (nI (cSh f n g n2 i + 1))), (0, .ref a), (1, .ref b), (3, .int (nI i))] := hl
          refine lv_iinc (k := 3) (v := nI (i + 1)) hx hb d_Te_countWordsSharedWith_46 hl rfl (zz_inc _) (by decide) rfl (fun ls hl => ?_)
          have hl : lv_has ls 4 [(3, .int (nI (i + 1))), (2, .int (nI (cSh f n g n2 i + 1))), (0, .ref a), (1, .ref b)] := hl
          refine lv_goto hx hb d_Te_countWordsSharedWith_49 (tgt := 4) rfl ?_
          have hl : lv_has ls 4 [(0, .ref a), (1, .ref b), (2, .int (nI (cSh f n g n2 (i + 1)))), (3, .int (nI (i + 1)))] := (by rw [show cSh f n g n2 (i + 1) = cSh f n g n2 i + 1 from by rw [show cSh f n g n2 (i + 1) = cSh f n g n2 i + (cBw f i && !(cHw f n f n i i) && cHw g n2 f n i n2).toNat from rfl]; simp [hF17, hF27, hF40]]; exact lv_sub hl [2, 3, 1, 0] rfl)
          exact ih (i + 1) ls ⟨hl, by omega⟩ (by omega)
