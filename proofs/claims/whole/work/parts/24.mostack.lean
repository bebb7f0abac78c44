def mMk (A : Nat → Nat → Nat) (t k f n d : Nat) : Nat → Nat → Nat := up2 (up2 (up2 (up2 A 6 (A 10 t) k) 7 (A 10 t) f) 8 (A 10 t) n) 9 (A 10 t) d
theorem mMk_f {A : Nat → Nat → Nat} {t k f n d a : Nat} (h6 : a ≠ 6) (h7 : a ≠ 7) (h8 : a ≠ 8) (h9 : a ≠ 9) : mMk A t k f n d a = A a := by
  unfold mMk
  rw [up2_f h9, up2_f h8, up2_f h7, up2_f h6]
def aJac (t : Nat) (x y z : Int32) : Bool := zisF x && !(decide (y < nI 1)) && !(decide (z < y)) && !(decide (nI 100 < z)) && decide (t ≠ 6)
def aEdt (t : Nat) (x y : Int32) : Bool := zisF x && !(decide (y < 0)) && !(decide (nI 8 < y)) && decide (t ≠ 6)
theorem zz_jac {y z : Int32} (h1 : ¬ y < nI 1) (h2 : ¬ z < y) (h3 : ¬ nI 100 < z) : ∃ n0 d0, y = nI n0 ∧ z = nI d0 ∧ 1 ≤ n0 ∧ n0 ≤ d0 ∧ d0 ≤ 100 := by
  rw [Int32.lt_iff_toInt_lt, nI_toInt (by decide)] at h1 h3
  rw [Int32.lt_iff_toInt_lt] at h2
  have a1 : ¬ y < 0 := by rw [Int32.lt_iff_toInt_lt, Int32.toInt_zero]; omega
  have a2 : ¬ z < 0 := by rw [Int32.lt_iff_toInt_lt, Int32.toInt_zero]; omega
  obtain ⟨n0, hn, rfl⟩ := nI_of a1
  obtain ⟨d0, hd, rfl⟩ := nI_of a2
  rw [nI_toInt hn] at h1 h2
  rw [nI_toInt hd] at h2 h3
  exact ⟨n0, d0, rfl, rfl, by omega, by omega, by omega⟩
theorem zz_edt {y : Int32} (h1 : ¬ y < 0) (h3 : ¬ nI 8 < y) : ∃ d0, y = nI d0 ∧ d0 ≤ 8 := by
  obtain ⟨d0, hd, rfl⟩ := nI_of h1
  rw [Int32.lt_iff_toInt_lt, nI_toInt (by decide), nI_toInt hd] at h3
  exact ⟨d0, rfl, by omega⟩
/-- the stack's marks: where each expression ends -/
def mSk (A : Nat → Nat → Nat) (t : Nat) : Prop := t ≤ 6 ∧ A 10 0 = 0 ∧ (∀ i j, i ≤ j → j ≤ t → A 10 i ≤ A 10 j) ∧ (∀ i, i ≤ t → A 10 i ≤ 23 * i) ∧ ∀ j, j < 140 → A 6 j < 4
def aJoin (A : Nat → Nat → Nat) (t : Nat) : Bool := decide (2 ≤ t) && decide (mLv A (A 10 (t - 2)) (A 10 t) ≤ 12)

set_option maxHeartbeats 4000000 in
set_option maxRecDepth 100000 in
theorem k_Mo_jaccard (l : Launch) (D : va_G) (ca : Nat → ClassId) (r n t rs w : Nat) (A : Nat → Nat → Nat) (x y z : Int32) (hSk : mSk A t) : Met l y_Mo_jaccard w_Mo_jaccard (zr 2 0 0) (zz_P D ca [.ref r, .int x, .int y, .int z] (fun H => MoAt D ca H r n t rs w A)) (zz_Q (fun H H1 v => v = some (.int (nI (aJac t x y z).toNat)) ∧ zz_fr (moFr r) H H1 ∧ MoAt D ca H1 r n (if aJac t x y z = true then t + 1 else t) rs w (if aJac t x y z = true then (up2 (mMk A t 0 (cN x) (cN y) (cN z)) 10 (t + 1) (A 10 t + 1)) else A))) 0 0 (moFr r) := by
  refine zz_met (cc := c_Mo_jaccard) (by decide) (Nat.le_of_ble_eq_true rfl) ?_
  intro p e s m below meth c ls hE hr hlk hnm hM hl
  have hx := hE.1.1
  have hb := hE.1.2.1
  have hK := hE.2
  have hl : lv_has ls 4 [(0, .ref r), (1, .int x), (2, .int y), (3, .int z)] := hl
  have hL : zz_L (moFr r) ([] : List Loc) := zz_L.nil
  have hS : zz_fr (moFr r) s.heap s.heap := zz_fr.rf
  obtain ⟨ht6, h100, hmono, h23, hkd⟩ := hSk
  refine lv_iload_n hx hb d_Mo_jaccard_0 rfl (lv_at hl 1 rfl) ?_
  refine zz_callP (cl_Mo_69 (rest := []) hE (k_Mo_isField l D ca x) ⟨rfl, rfl, by decide, by decide⟩ trivial rfl hl.1 rfl (Nat.le_of_ble_eq_true rfl) d_Mo_jaccard_1 ⟨by decide, by decide⟩) ?_
  refine zz_eqB hx hb d_Mo_jaccard_4 (tgt := 32) rfl (fun hT4 => ?_) (fun hF4 => ?_)
  · refine lv_iconst (v := nI 0) hx hb d_Mo_jaccard_32 (by decide) ?_
    have hval : aJac t x y z = false := by simp [aJac, hT4]
    exact zz_iret hx hb hr hlk rfl ⟨by rw [hval]; rfl, hS, by rw [hval]; exact hM⟩ hL d_Mo_jaccard_33
  · refine lv_iload_n hx hb d_Mo_jaccard_7 rfl (lv_at hl 2 rfl) ?_
    refine lv_iconst (v := nI 1) hx hb d_Mo_jaccard_8 (by decide) ?_
    refine lv_icmp_lt hx hb d_Mo_jaccard_9 (tgt := 32) rfl (fun hT9 => ?_) (fun hF9 => ?_)
    · refine lv_iconst (v := nI 0) hx hb d_Mo_jaccard_32 (by decide) ?_
      have hval : aJac t x y z = false := by simp [aJac, hT9]
      exact zz_iret hx hb hr hlk rfl ⟨by rw [hval]; rfl, hS, by rw [hval]; exact hM⟩ hL d_Mo_jaccard_33
    · refine lv_iload_n hx hb d_Mo_jaccard_12 rfl (lv_at hl 2 rfl) ?_
      refine lv_iload_n hx hb d_Mo_jaccard_13 rfl (lv_at hl 3 rfl) ?_
      refine lv_icmp_gt hx hb d_Mo_jaccard_14 (tgt := 32) rfl (fun hT14 => ?_) (fun hF14 => ?_)
      · refine lv_iconst (v := nI 0) hx hb d_Mo_jaccard_32 (by decide) ?_
        have hval : aJac t x y z = false := by simp [aJac, hT14]
        exact zz_iret hx hb hr hlk rfl ⟨by rw [hval]; rfl, hS, by rw [hval]; exact hM⟩ hL d_Mo_jaccard_33
      · refine lv_iload_n hx hb d_Mo_jaccard_17 rfl (lv_at hl 3 rfl) ?_
        refine lv_bipush (v := nI 100) hx hb d_Mo_jaccard_18 (by decide) ?_
        refine lv_icmp_gt hx hb d_Mo_jaccard_20 (tgt := 32) rfl (fun hT20 => ?_) (fun hF20 => ?_)
        · refine lv_iconst (v := nI 0) hx hb d_Mo_jaccard_32 (by decide) ?_
          have hval : aJac t x y z = false := by simp [aJac, hT20]
          exact zz_iret hx hb hr hlk rfl ⟨by rw [hval]; rfl, hS, by rw [hval]; exact hM⟩ hL d_Mo_jaccard_33
        · refine lv_aload_n hx hb d_Mo_jaccard_23 rfl (lv_at hl 0 rfl) ?_
          refine fg_Mo_109 hE hM.1 rfl d_Mo_jaccard_24 ?_
          refine lv_bipush (v := nI 6) hx hb d_Mo_jaccard_27 (by decide) ?_
          refine zz_ne hx hb (by omega) (by omega) d_Mo_jaccard_29 (tgt := 34) rfl (fun hT29 => ?_) (fun hF29 => ?_)
          · have hx4 := hF4
            have hy9 := hF9
            have hy14 := hF14
            have hy20 := hF20
            obtain ⟨x0, hx0, rfl⟩ := zisF_nat hF4
            obtain ⟨n0, d0, rfl, rfl, hn1, hnd, hd1⟩ := zz_jac hF9 hF14 hF20
            have cx : cN (nI x0) = x0 := nI_clamp (by omega)
            have cn : cN (nI n0) = n0 := nI_clamp (by omega)
            have cd : cN (nI d0) = d0 := nI_clamp (by omega)
            have h23t := h23 t (by omega)
            refine lv_aload_n hx hb d_Mo_jaccard_34 rfl (lv_at hl 0 rfl) ?_
            refine lv_iconst (v := nI 0) hx hb d_Mo_jaccard_35 (by decide) ?_
            refine lv_iload_n hx hb d_Mo_jaccard_36 rfl (lv_at hl 1 rfl) ?_
            refine lv_iload_n hx hb d_Mo_jaccard_37 rfl (lv_at hl 2 rfl) ?_
            refine lv_iload_n hx hb d_Mo_jaccard_38 rfl (lv_at hl 3 rfl) ?_
            refine zz_callN (cl_Mo_116 (rest := []) hE (k_Mo_mark l D ca r n t rs w A 0 x0 n0 d0 (by omega) (by omega)) ⟨rfl, rfl, by decide, by decide⟩ hM hM.1 rfl hl.1 rfl (Nat.le_of_ble_eq_true rfl) d_Mo_jaccard_39 ⟨by decide, by decide⟩) hL (fun _ h => h) (fun H locs hpost hL => ?_)
            obtain ⟨hfr1, hM⟩ := hpost
            have hS := hS.tr hfr1
            have hM : MoAt D ca H r n t rs w (mMk A t 0 x0 n0 d0) := hM
            have h10 : (mMk A t 0 x0 n0 d0) 10 = A 10 := mMk_f (by decide) (by decide) (by decide) (by decide)
            refine lv_aload_n hx hb d_Mo_jaccard_42 rfl (lv_at hl 0 rfl) ?_
            refine zz_callN (cl_Mo_120 (rest := []) hE (k_Mo_push l D ca r n t rs w (mMk A t 0 x0 n0 d0) (by omega)) ⟨rfl, rfl, by decide, by decide⟩ hM hM.1 rfl hl.1 rfl (Nat.le_of_ble_eq_true rfl) d_Mo_jaccard_43 ⟨by decide, by decide⟩) hL (fun _ h => h) (fun H locs hpost hL => ?_)
            obtain ⟨hfr2, hM⟩ := hpost
            have hS := hS.tr hfr2
            rw [h10] at hM
            refine lv_iconst (v := nI 1) hx hb d_Mo_jaccard_46 (by decide) ?_
            have hval : aJac t (nI x0) (nI n0) (nI d0) = true := by simp only [aJac, hx4, decide_eq_false hy9, decide_eq_false hy14, decide_eq_false hy20, decide_eq_true hT29]; rfl
            exact zz_iret hx hb hr hlk rfl ⟨by rw [hval]; rfl, hS, by rw [hval, if_pos rfl, if_pos rfl, cx, cn, cd]; exact hM⟩ hL d_Mo_jaccard_47
          · refine lv_iconst (v := nI 0) hx hb d_Mo_jaccard_32 (by decide) ?_
            have hval : aJac t x y z = false := by simp only [aJac, hF29]; simp
            exact zz_iret hx hb hr hlk rfl ⟨by rw [hval]; rfl, hS, by rw [hval]; exact hM⟩ hL d_Mo_jaccard_33

set_option maxHeartbeats 4000000 in
set_option maxRecDepth 100000 in
theorem k_Mo_edit (l : Launch) (D : va_G) (ca : Nat → ClassId) (r n t rs w : Nat) (A : Nat → Nat → Nat) (x y : Int32) (hSk : mSk A t) : Met l y_Mo_edit w_Mo_edit (zr 2 0 0) (zz_P D ca [.ref r, .int x, .int y] (fun H => MoAt D ca H r n t rs w A)) (zz_Q (fun H H1 v => v = some (.int (nI (aEdt t x y).toNat)) ∧ zz_fr (moFr r) H H1 ∧ MoAt D ca H1 r n (if aEdt t x y = true then t + 1 else t) rs w (if aEdt t x y = true then (up2 (mMk A t 1 (cN x) 0 (cN y)) 10 (t + 1) (A 10 t + 1)) else A))) 0 0 (moFr r) := by
  refine zz_met (cc := c_Mo_edit) (by decide) (Nat.le_of_ble_eq_true rfl) ?_
  intro p e s m below meth c ls hE hr hlk hnm hM hl
  have hx := hE.1.1
  have hb := hE.1.2.1
  have hK := hE.2
  have hl : lv_has ls 3 [(0, .ref r), (1, .int x), (2, .int y)] := hl
  have hL : zz_L (moFr r) ([] : List Loc) := zz_L.nil
  have hS : zz_fr (moFr r) s.heap s.heap := zz_fr.rf
  obtain ⟨ht6, h100, hmono, h23, hkd⟩ := hSk
  refine lv_iload_n hx hb d_Mo_edit_0 rfl (lv_at hl 1 rfl) ?_
  refine zz_callP (cl_Mo_69 (rest := []) hE (k_Mo_isField l D ca x) ⟨rfl, rfl, by decide, by decide⟩ trivial rfl hl.1 rfl (Nat.le_of_ble_eq_true rfl) d_Mo_edit_1 ⟨by decide, by decide⟩) ?_
  refine zz_eqB hx hb d_Mo_edit_4 (tgt := 26) rfl (fun hT4 => ?_) (fun hF4 => ?_)
  · refine lv_iconst (v := nI 0) hx hb d_Mo_edit_26 (by decide) ?_
    have hval : aEdt t x y = false := by simp [aEdt, hT4]
    exact zz_iret hx hb hr hlk rfl ⟨by rw [hval]; rfl, hS, by rw [hval]; exact hM⟩ hL d_Mo_edit_27
  · refine lv_iload_n hx hb d_Mo_edit_7 rfl (lv_at hl 2 rfl) ?_
    refine lv_if_lt hx hb d_Mo_edit_8 (tgt := 26) rfl (fun hT8 => ?_) (fun hF8 => ?_)
    · refine lv_iconst (v := nI 0) hx hb d_Mo_edit_26 (by decide) ?_
      have hval : aEdt t x y = false := by simp [aEdt, hT8]
      exact zz_iret hx hb hr hlk rfl ⟨by rw [hval]; rfl, hS, by rw [hval]; exact hM⟩ hL d_Mo_edit_27
    · refine lv_iload_n hx hb d_Mo_edit_11 rfl (lv_at hl 2 rfl) ?_
      refine lv_bipush (v := nI 8) hx hb d_Mo_edit_12 (by decide) ?_
      refine lv_icmp_gt hx hb d_Mo_edit_14 (tgt := 26) rfl (fun hT14 => ?_) (fun hF14 => ?_)
      · refine lv_iconst (v := nI 0) hx hb d_Mo_edit_26 (by decide) ?_
        have hval : aEdt t x y = false := by simp [aEdt, hT14]
        exact zz_iret hx hb hr hlk rfl ⟨by rw [hval]; rfl, hS, by rw [hval]; exact hM⟩ hL d_Mo_edit_27
      · refine lv_aload_n hx hb d_Mo_edit_17 rfl (lv_at hl 0 rfl) ?_
        refine fg_Mo_109 hE hM.1 rfl d_Mo_edit_18 ?_
        refine lv_bipush (v := nI 6) hx hb d_Mo_edit_21 (by decide) ?_
        refine zz_ne hx hb (by omega) (by omega) d_Mo_edit_23 (tgt := 28) rfl (fun hT23 => ?_) (fun hF23 => ?_)
        · have hx4 := hF4
          have hy8 := hF8
          have hy14 := hF14
          obtain ⟨x0, hx0, rfl⟩ := zisF_nat hF4
          obtain ⟨d0, rfl, hd1⟩ := zz_edt hF8 hF14
          have cx : cN (nI x0) = x0 := nI_clamp (by omega)
          have cd : cN (nI d0) = d0 := nI_clamp (by omega)
          have h23t := h23 t (by omega)
          refine lv_aload_n hx hb d_Mo_edit_28 rfl (lv_at hl 0 rfl) ?_
          refine lv_iconst (v := nI 1) hx hb d_Mo_edit_29 (by decide) ?_
          refine lv_iload_n hx hb d_Mo_edit_30 rfl (lv_at hl 1 rfl) ?_
          refine lv_iconst (v := nI 0) hx hb d_Mo_edit_31 (by decide) ?_
          refine lv_iload_n hx hb d_Mo_edit_32 rfl (lv_at hl 2 rfl) ?_
          refine zz_callN (cl_Mo_116 (rest := []) hE (k_Mo_mark l D ca r n t rs w A 1 x0 0 d0 (by omega) (by omega)) ⟨rfl, rfl, by decide, by decide⟩ hM hM.1 rfl hl.1 rfl (Nat.le_of_ble_eq_true rfl) d_Mo_edit_33 ⟨by decide, by decide⟩) hL (fun _ h => h) (fun H locs hpost hL => ?_)
          obtain ⟨hfr1, hM⟩ := hpost
          have hS := hS.tr hfr1
          have hM : MoAt D ca H r n t rs w (mMk A t 1 x0 0 d0) := hM
          have h10 : (mMk A t 1 x0 0 d0) 10 = A 10 := mMk_f (by decide) (by decide) (by decide) (by decide)
          refine lv_aload_n hx hb d_Mo_edit_36 rfl (lv_at hl 0 rfl) ?_
          refine zz_callN (cl_Mo_120 (rest := []) hE (k_Mo_push l D ca r n t rs w (mMk A t 1 x0 0 d0) (by omega)) ⟨rfl, rfl, by decide, by decide⟩ hM hM.1 rfl hl.1 rfl (Nat.le_of_ble_eq_true rfl) d_Mo_edit_37 ⟨by decide, by decide⟩) hL (fun _ h => h) (fun H locs hpost hL => ?_)
          obtain ⟨hfr2, hM⟩ := hpost
          have hS := hS.tr hfr2
          rw [h10] at hM
          refine lv_iconst (v := nI 1) hx hb d_Mo_edit_40 (by decide) ?_
          have hval : aEdt t (nI x0) (nI d0) = true := by simp only [aEdt, hx4, decide_eq_false hy8, decide_eq_false hy14, decide_eq_true hT23]; rfl
          exact zz_iret hx hb hr hlk rfl ⟨by rw [hval]; rfl, hS, by rw [hval, if_pos rfl, if_pos rfl, cx, cd]; exact hM⟩ hL d_Mo_edit_41
        · refine lv_iconst (v := nI 0) hx hb d_Mo_edit_26 (by decide) ?_
          have hval : aEdt t x y = false := by simp only [aEdt, hF23]; simp
          exact zz_iret hx hb hr hlk rfl ⟨by rw [hval]; rfl, hS, by rw [hval]; exact hM⟩ hL d_Mo_edit_27

set_option maxHeartbeats 4000000 in
set_option maxRecDepth 100000 in
theorem k_Mo_join (l : Launch) (D : va_G) (ca : Nat → ClassId) (r n t rs w : Nat) (A : Nat → Nat → Nat) (all : Bool) (hSk : mSk A t) : Met l y_Mo_join w_Mo_join (zr 2 0 0) (zz_P D ca [.ref r, .int (nI all.toNat)] (fun H => MoAt D ca H r n t rs w A)) (zz_Q (fun H H1 v => v = some (.int (nI (aJoin A t).toNat)) ∧ zz_fr (moFr r) H H1 ∧ MoAt D ca H1 r n (if aJoin A t = true then t - 1 else t) rs w (if aJoin A t = true then up2 (mMk A t (if all = true then 2 else 3) 0 0 0) 10 (t - 1) (A 10 t + 1) else A))) 0 0 (moFr r) := by
  refine zz_met (cc := c_Mo_join) (by decide) (Nat.le_of_ble_eq_true rfl) ?_
  intro p e s m below meth c ls hE hr hlk hnm hM hl
  have hx := hE.1.1
  have hb := hE.1.2.1
  have hK := hE.2
  have hl : lv_has ls 3 [(0, .ref r), (1, .int (nI all.toNat))] := hl
  have hL : zz_L (moFr r) ([] : List Loc) := zz_L.nil
  have hS : zz_fr (moFr r) s.heap s.heap := zz_fr.rf
  obtain ⟨ht6, h100, hmono, h23, hkd⟩ := hSk
  refine lv_aload_n hx hb d_Mo_join_0 rfl (lv_at hl 0 rfl) ?_
  refine fg_Mo_109 hE hM.1 rfl d_Mo_join_1 ?_
  refine lv_iconst (v := nI 2) hx hb d_Mo_join_4 (by decide) ?_
  refine zz_lt hx hb (by omega) (by omega) d_Mo_join_5 (tgt := 32) rfl (fun hT5 => ?_) (fun hF5 => ?_)
  · refine lv_iconst (v := nI 0) hx hb d_Mo_join_32 (by decide) ?_
    have hval : aJoin A t = false := by simp only [aJoin, decide_eq_false (show ¬ 2 ≤ t by omega)]; simp
    exact zz_iret hx hb hr hlk rfl ⟨by rw [hval]; rfl, hS, by rw [hval]; exact hM⟩ hL d_Mo_join_33
  · have h23t := h23 t (by omega)
    have hlv : mLv A (A 10 (t - 2)) (A 10 t) ≤ A 10 t := zcnt_le _ _
    refine lv_aload_n hx hb d_Mo_join_8 rfl (lv_at hl 0 rfl) ?_
    refine lv_aload_n hx hb d_Mo_join_9 rfl (lv_at hl 0 rfl) ?_
    refine fg_Mo_37 hE hM.1 rfl d_Mo_join_10 ?_
    refine lv_aload_n hx hb d_Mo_join_13 rfl (lv_at hl 0 rfl) ?_
    refine fg_Mo_109 hE hM.1 rfl d_Mo_join_14 ?_
    refine lv_iconst (v := nI 2) hx hb d_Mo_join_17 (by decide) ?_
    refine zz_isub (by omega) hx hb d_Mo_join_18 ?_
    refine mo_ld hE hM 10 (by decide) (i := t - 2) (show t - 2 < 7 by omega) d_Mo_join_19 ?_
    refine lv_aload_n hx hb d_Mo_join_20 rfl (lv_at hl 0 rfl) ?_
    refine zz_callP (cl_Mo_112 (rest := [.int (nI (A 10 (t - 2))), .ref r]) hE (k_Mo_marks l D ca r n t rs w A (by omega)) ⟨rfl, rfl, by decide, by decide⟩ hM hM.1 rfl hl.1 rfl (Nat.le_of_ble_eq_true rfl) d_Mo_join_21 ⟨by decide, by decide⟩) ?_
    refine zz_callP (cl_Mo_123 (rest := []) hE (k_Mo_leaves l D ca r n t rs w A (A 10 (t - 2)) (A 10 t) (by omega) (hmono _ _ (by omega) (by omega)) hkd) ⟨rfl, rfl, by decide, by decide⟩ hM hM.1 rfl hl.1 rfl (Nat.le_of_ble_eq_true rfl) d_Mo_join_24 ⟨by decide, by decide⟩) ?_
    refine lv_bipush (v := nI 12) hx hb d_Mo_join_27 (by decide) ?_
    refine zz_le hx hb (by omega) (by omega) d_Mo_join_29 (tgt := 34) rfl (fun hT29 => ?_) (fun hF29 => ?_)
    · refine lv_aload_n hx hb d_Mo_join_34 rfl (lv_at hl 0 rfl) ?_
      refine lv_iload_n hx hb d_Mo_join_35 rfl (lv_at hl 1 rfl) ?_
      refine zz_eqB hx hb d_Mo_join_36 (tgt := 43) rfl (fun hT36 => ?_) (fun hF36 => ?_)
      · refine lv_iconst (v := nI 3) hx hb d_Mo_join_43 (by decide) ?_
        refine lv_iconst (v := nI 0) hx hb d_Mo_join_44 (by decide) ?_
        refine lv_iconst (v := nI 0) hx hb d_Mo_join_45 (by decide) ?_
        refine lv_iconst (v := nI 0) hx hb d_Mo_join_46 (by decide) ?_
        refine zz_callN (cl_Mo_116 (rest := []) hE (k_Mo_mark l D ca r n t rs w A 3 0 0 0 (by omega) (by omega)) ⟨rfl, rfl, by decide, by decide⟩ hM hM.1 rfl hl.1 rfl (Nat.le_of_ble_eq_true rfl) d_Mo_join_47 ⟨by decide, by decide⟩) hL (fun _ h => h) (fun H locs hpost hL => ?_)
        obtain ⟨hfr1, hM⟩ := hpost
        have hS := hS.tr hfr1
        have hM : MoAt D ca H r n t rs w (mMk A t 3 0 0 0) := hM
        have h10 : (mMk A t 3 0 0 0) 10 = A 10 := mMk_f (by decide) (by decide) (by decide) (by decide)
        refine lv_aload_n hx hb d_Mo_join_50 rfl (lv_at hl 0 rfl) ?_
        refine zz_callP (cl_Mo_112 (rest := []) hE (k_Mo_marks l D ca r n t rs w (mMk A t 3 0 0 0) (by omega)) ⟨rfl, rfl, by decide, by decide⟩ hM hM.1 rfl hl.1 rfl (Nat.le_of_ble_eq_true rfl) d_Mo_join_51 ⟨by decide, by decide⟩) ?_
        refine zz_top (y := nI (A 10 t)) (by rw [h10]) ?_
        refine lv_iconst (v := nI 1) hx hb d_Mo_join_54 (by decide) ?_
        refine zz_iadd hx hb d_Mo_join_55 ?_
        refine lv_istore_n hx hb d_Mo_join_56 rfl hl (by decide) rfl (fun ls hl => ?_)
        have hl : lv_has ls 3 [(2, .int (nI ((A 10 t) + 1))), (0, .ref r), (1, .int (nI all.toNat))] := hl
        refine lv_aload_n hx hb d_Mo_join_57 rfl (lv_at hl 1 rfl) ?_
        refine lv_dup hx hb d_Mo_join_58 rfl ?_
        refine fg_Mo_109 hE hM.1 rfl d_Mo_join_59 ?_
        refine lv_iconst (v := nI 1) hx hb d_Mo_join_62 (by decide) ?_
        refine zz_isub (by omega) hx hb d_Mo_join_63 ?_
        refine fp_Mo_109 hE hM.1 hL (show moFr r r from ⟨by omega, by omega⟩) (Nat.le_of_ble_eq_true rfl) d_Mo_join_64 (fun H locs h1 hu hL => ?_)
        have hS := hS.up hu (show moFr r r from ⟨by omega, by omega⟩)
        have hM : MoAt D ca H r n (t - 1) rs w (mMk A t 3 0 0 0) := mo_fld hM h1 hu
        refine lv_aload_n hx hb d_Mo_join_67 rfl (lv_at hl 1 rfl) ?_
        refine fg_Mo_37 hE hM.1 rfl d_Mo_join_68 ?_
        refine lv_aload_n hx hb d_Mo_join_71 rfl (lv_at hl 1 rfl) ?_
        refine fg_Mo_109 hE hM.1 rfl d_Mo_join_72 ?_
        refine lv_iload_n hx hb d_Mo_join_75 rfl (lv_at hl 0 rfl) ?_
        refine mo_st hE hM hS hL 10 (by decide) (i := t - 1) (x := (A 10 t) + 1) (show t - 1 < 7 by omega) d_Mo_join_76 (fun H locs hM hS hL => ?_)
        refine lv_iconst (v := nI 1) hx hb d_Mo_join_77 (by decide) ?_
        have hval : aJoin A t = true := by simp only [aJoin, decide_eq_true hF5, decide_eq_true hT29]; rfl
        exact zz_iret hx hb hr hlk rfl ⟨by rw [hval]; rfl, hS, by rw [hval, if_pos rfl, if_pos rfl, hT36]; exact hM⟩ hL d_Mo_join_78
      · refine lv_iconst (v := nI 2) hx hb d_Mo_join_39 (by decide) ?_
        refine lv_goto hx hb d_Mo_join_40 (tgt := 44) rfl ?_
        refine lv_iconst (v := nI 0) hx hb d_Mo_join_44 (by decide) ?_
        refine lv_iconst (v := nI 0) hx hb d_Mo_join_45 (by decide) ?_
        refine lv_iconst (v := nI 0) hx hb d_Mo_join_46 (by decide) ?_
        refine zz_callN (cl_Mo_116 (rest := []) hE (k_Mo_mark l D ca r n t rs w A 2 0 0 0 (by omega) (by omega)) ⟨rfl, rfl, by decide, by decide⟩ hM hM.1 rfl hl.1 rfl (Nat.le_of_ble_eq_true rfl) d_Mo_join_47 ⟨by decide, by decide⟩) hL (fun _ h => h) (fun H locs hpost hL => ?_)
        obtain ⟨hfr1, hM⟩ := hpost
        have hS := hS.tr hfr1
        have hM : MoAt D ca H r n t rs w (mMk A t 2 0 0 0) := hM
        have h10 : (mMk A t 2 0 0 0) 10 = A 10 := mMk_f (by decide) (by decide) (by decide) (by decide)
        refine lv_aload_n hx hb d_Mo_join_50 rfl (lv_at hl 0 rfl) ?_
        refine zz_callP (cl_Mo_112 (rest := []) hE (k_Mo_marks l D ca r n t rs w (mMk A t 2 0 0 0) (by omega)) ⟨rfl, rfl, by decide, by decide⟩ hM hM.1 rfl hl.1 rfl (Nat.le_of_ble_eq_true rfl) d_Mo_join_51 ⟨by decide, by decide⟩) ?_
        refine zz_top (y := nI (A 10 t)) (by rw [h10]) ?_
        refine lv_iconst (v := nI 1) hx hb d_Mo_join_54 (by decide) ?_
        refine zz_iadd hx hb d_Mo_join_55 ?_
        refine lv_istore_n hx hb d_Mo_join_56 rfl hl (by decide) rfl (fun ls hl => ?_)
        have hl : lv_has ls 3 [(2, .int (nI ((A 10 t) + 1))), (0, .ref r), (1, .int (nI all.toNat))] := hl
        refine lv_aload_n hx hb d_Mo_join_57 rfl (lv_at hl 1 rfl) ?_
        refine lv_dup hx hb d_Mo_join_58 rfl ?_
        refine fg_Mo_109 hE hM.1 rfl d_Mo_join_59 ?_
        refine lv_iconst (v := nI 1) hx hb d_Mo_join_62 (by decide) ?_
        refine zz_isub (by omega) hx hb d_Mo_join_63 ?_
        refine fp_Mo_109 hE hM.1 hL (show moFr r r from ⟨by omega, by omega⟩) (Nat.le_of_ble_eq_true rfl) d_Mo_join_64 (fun H locs h1 hu hL => ?_)
        have hS := hS.up hu (show moFr r r from ⟨by omega, by omega⟩)
        have hM : MoAt D ca H r n (t - 1) rs w (mMk A t 2 0 0 0) := mo_fld hM h1 hu
        refine lv_aload_n hx hb d_Mo_join_67 rfl (lv_at hl 1 rfl) ?_
        refine fg_Mo_37 hE hM.1 rfl d_Mo_join_68 ?_
        refine lv_aload_n hx hb d_Mo_join_71 rfl (lv_at hl 1 rfl) ?_
        refine fg_Mo_109 hE hM.1 rfl d_Mo_join_72 ?_
        refine lv_iload_n hx hb d_Mo_join_75 rfl (lv_at hl 0 rfl) ?_
        refine mo_st hE hM hS hL 10 (by decide) (i := t - 1) (x := (A 10 t) + 1) (show t - 1 < 7 by omega) d_Mo_join_76 (fun H locs hM hS hL => ?_)
        refine lv_iconst (v := nI 1) hx hb d_Mo_join_77 (by decide) ?_
        have hval : aJoin A t = true := by simp only [aJoin, decide_eq_true hF5, decide_eq_true hT29]; rfl
        exact zz_iret hx hb hr hlk rfl ⟨by rw [hval]; rfl, hS, by rw [hval, if_pos rfl, if_pos rfl, hF36]; exact hM⟩ hL d_Mo_join_78
    · refine lv_iconst (v := nI 0) hx hb d_Mo_join_32 (by decide) ?_
      have hval : aJoin A t = false := by simp only [aJoin, decide_eq_false (show ¬ mLv A (A 10 (t - 2)) (A 10 t) ≤ 12 by omega)]; simp
      exact zz_iret hx hb hr hlk rfl ⟨by rw [hval]; rfl, hS, by rw [hval]; exact hM⟩ hL d_Mo_join_33
