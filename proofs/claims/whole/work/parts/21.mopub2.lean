theorem mTk_eq {w v : Nat} (hw : 0 < w) (hw4 : w ≤ 4) (hv : v < w) : ∀ n, mTk n w v = (n + (w - 1 - v)) / w
  | 0 => by
    show 0 = _
    rw [Nat.div_eq_of_lt (by omega)]
  | n + 1 => by
    have ih := mTk_eq hw hw4 hv n
    show mTk n w v + (decide (n % w = v)).toNat = _
    rw [ih]
    by_cases h : n % w = v
    · rw [decide_eq_true h]
      show _ + 1 = _
      rcases (by omega : w = 1 ∨ w = 2 ∨ w = 3 ∨ w = 4) with rfl | rfl | rfl | rfl <;> omega
    · rw [decide_eq_false h]
      show _ + 0 = _
      rcases (by omega : w = 1 ∨ w = 2 ∨ w = 3 ∨ w = 4) with rfl | rfl | rfl | rfl <;> omega
theorem mTk_lt {n w v d : Nat} (hw : 0 < w) (hw4 : w ≤ 4) (hv : v < w) (h : d < mTk n w v) : v + d * w < n := by
  rw [mTk_eq hw hw4 hv] at h
  rcases (by omega : w = 1 ∨ w = 2 ∨ w = 3 ∨ w = 4) with rfl | rfl | rfl | rfl <;> omega
def aWork (n w : Nat) (dd : Nat → Nat) (ho : Nat → Nat → Bool) (x : Int32) : Int32 := if w = 0 then -4 else if zisR w x = false then -1 else if dd (cN x) = mTk n w (cN x) then -5 else nI (zcnt (fun q => ho q (cN x + dd (cN x) * w)) (cN x + dd (cN x) * w))
/-- whether a call of work does a task -/
def bWork (n w : Nat) (dd : Nat → Nat) (x : Int32) : Bool := decide (w ≠ 0) && zisR w x && decide (dd (cN x) ≠ mTk n w (cN x))
def zpairs (fd : Nat → Nat → Bool) : Nat → Nat
  | 0 => 0
  | r + 1 => zpairs fd r + zcnt (fun q => fd q r) r
theorem zpairs_le (fd : Nat → Nat → Bool) : ∀ r, zpairs fd r ≤ r * r
  | 0 => Nat.le_refl _
  | r + 1 => by
    have h := zpairs_le fd r
    have h2 := zcnt_le (fun q => fd q r) r
    have h3 : (r + 1) * (r + 1) = r * r + r + r + 1 := by rw [Nat.add_mul, Nat.mul_add]; omega
    simp only [zpairs]
    omega
def aPairs (n w : Nat) (fd : Nat → Nat → Bool) : Int32 := if w = 0 then -4 else nI (zpairs fd n)
theorem zz_m1 {i : Int32} (h : ¬ i < 0) : (-1 : Int32) ≤ i := by
  rw [Int32.lt_iff_toInt_lt, Int32.toInt_zero] at h
  rw [Int32.le_iff_toInt_le, show (-1 : Int32).toInt = -1 from rfl]
  omega
theorem zz_st4 {x : Int32} (h1 : ¬ x < nI 1) (h2 : x ≤ nI 4) : ∃ j, 1 ≤ j ∧ j ≤ 4 ∧ x = nI j := by
  rw [Int32.lt_iff_toInt_lt, nI_toInt (by decide)] at h1
  rw [Int32.le_iff_toInt_le, nI_toInt (by decide)] at h2
  have h3 : ¬ x < 0 := by rw [Int32.lt_iff_toInt_lt, Int32.toInt_zero]; omega
  obtain ⟨j, hj, rfl⟩ := nI_of h3
  rw [nI_toInt hj] at h1 h2
  exact ⟨j, by omega, by omega, rfl⟩
theorem zz_st4n {x : Int32} (h : x < nI 1 ∨ ¬ x ≤ nI 4) : ¬ (zisR 5 x = true ∧ x ≠ 0) := by
  rintro ⟨h1, h2⟩
  obtain ⟨j, hj, rfl⟩ := zisR_nat h1 (by decide)
  rcases h with h | h
  · have h3 := (nI_ltI (by omega) (by decide)).1 h
    exact h2 (by rw [show j = 0 by omega]; rfl)
  · exact h (nI_le (by omega) (by decide))

set_option maxHeartbeats 4000000 in
set_option maxRecDepth 100000 in
theorem k_Mo_type (l : Launch) (D : va_G) (ca : Nat → ClassId) (r n t rs w : Nat) (A : Nat → Nat → Nat) (x : Int32) (c0 : Nat) (hc0 : c0 < 65536) (hA : mAll A n rs w) : Met l y_Mo_type w_Mo_type (zr 1 0 0) (zz_P D ca [.ref r, .int x, .int (nI c0)] (fun H => MoAt D ca H r n t rs w A)) (zz_Q (fun H H1 v => v = some (.int (nI (aType (fun f => A 2 (24 + f)) x c0).toNat)) ∧ zz_fr (moFr r) H H1 ∧ MoAt D ca H1 r n t rs w (if aType (fun f => A 2 (24 + f)) x c0 = true then (up2 (up2 A 1 (12 * (24 + cN x) + A 2 (24 + cN x)) c0) 2 (24 + cN x) (A 2 (24 + cN x) + 1)) else A))) 0 0 (moFr r) := by
  refine zz_met (cc := c_Mo_type) (by decide) (Nat.le_of_ble_eq_true rfl) ?_
  intro p e s m below meth c ls hE hr hlk hnm hM hl
  have hx := hE.1.1
  have hb := hE.1.2.1
  have hK := hE.2
  have hl : lv_has ls 3 [(0, .ref r), (1, .int x), (2, .int (nI c0))] := hl
  have hL : zz_L (moFr r) ([] : List Loc) := zz_L.nil
  have hS : zz_fr (moFr r) s.heap s.heap := zz_fr.rf
  obtain ⟨okA, hn, hw4, hRu, hwr, hdd, hkp⟩ := hA
  have hrs24 := hRu.1
  refine lv_iload_n hx hb d_Mo_type_0 rfl (lv_at hl 1 rfl) ?_
  refine zz_callP (cl_Mo_69 (rest := []) hE (k_Mo_isField l D ca x) ⟨rfl, rfl, by decide, by decide⟩ trivial rfl hl.1 rfl (Nat.le_of_ble_eq_true rfl) d_Mo_type_1 ⟨by decide, by decide⟩) ?_
  refine zz_eqB hx hb d_Mo_type_4 (tgt := 28) rfl (fun hT4 => ?_) (fun hF4 => ?_)
  · refine lv_iconst (v := nI 0) hx hb d_Mo_type_28 (by decide) ?_
    have hval : aType (fun f => A 2 (24 + f)) x c0 = false := by simp [aType, hT4]
    exact zz_iret hx hb hr hlk rfl ⟨by rw [hval]; rfl, hS, by rw [hval]; exact hM⟩ hL d_Mo_type_29
  · refine lv_iload_n hx hb d_Mo_type_7 rfl (lv_at hl 2 rfl) ?_
    refine lv_sipush (v := nI 255) hx hb d_Mo_type_8 (by decide) ?_
    refine zz_gt hx hb (by omega) (by omega) d_Mo_type_11 (tgt := 28) rfl (fun hT11 => ?_) (fun hF11 => ?_)
    · refine lv_iconst (v := nI 0) hx hb d_Mo_type_28 (by decide) ?_
      have hval : aType (fun f => A 2 (24 + f)) x c0 = false := by simp only [aType, decide_eq_false (show ¬ c0 ≤ 255 by omega)]; simp
      exact zz_iret hx hb hr hlk rfl ⟨by rw [hval]; rfl, hS, by rw [hval]; exact hM⟩ hL d_Mo_type_29
    · have hx4 := hF4
      obtain ⟨x0, hx0, rfl⟩ := zisF_nat hF4
      have cx : cN (nI x0) = x0 := nI_clamp (by omega)
      have hs := okA.2.1 (24 + x0) (by omega)
      refine lv_aload_n hx hb d_Mo_type_14 rfl (lv_at hl 0 rfl) ?_
      refine fg_Mo_13 hE hM.1 rfl d_Mo_type_15 ?_
      refine lv_bipush (v := nI 24) hx hb d_Mo_type_18 (by decide) ?_
      refine lv_iload_n hx hb d_Mo_type_20 rfl (lv_at hl 1 rfl) ?_
      refine zz_iadd hx hb d_Mo_type_21 ?_
      refine mo_ld hE hM 2 (by decide) (i := 24 + x0) (show 24 + x0 < 26 by omega) d_Mo_type_22 ?_
      refine lv_bipush (v := nI 12) hx hb d_Mo_type_23 (by decide) ?_
      refine zz_ne hx hb (by omega) (by omega) d_Mo_type_25 (tgt := 30) rfl (fun hT25 => ?_) (fun hF25 => ?_)
      · refine lv_aload_n hx hb d_Mo_type_30 rfl (lv_at hl 0 rfl) ?_
        refine fg_Mo_7 hE hM.1 rfl d_Mo_type_31 ?_
        refine lv_bipush (v := nI 12) hx hb d_Mo_type_34 (by decide) ?_
        refine lv_bipush (v := nI 24) hx hb d_Mo_type_36 (by decide) ?_
        refine lv_iload_n hx hb d_Mo_type_38 rfl (lv_at hl 1 rfl) ?_
        refine zz_iadd hx hb d_Mo_type_39 ?_
        refine zz_imul hx hb d_Mo_type_40 ?_
        refine lv_aload_n hx hb d_Mo_type_41 rfl (lv_at hl 0 rfl) ?_
        refine fg_Mo_13 hE hM.1 rfl d_Mo_type_42 ?_
        refine lv_bipush (v := nI 24) hx hb d_Mo_type_45 (by decide) ?_
        refine lv_iload_n hx hb d_Mo_type_47 rfl (lv_at hl 1 rfl) ?_
        refine zz_iadd hx hb d_Mo_type_48 ?_
        refine mo_ld hE hM 2 (by decide) (i := 24 + x0) (show 24 + x0 < 26 by omega) d_Mo_type_49 ?_
        refine zz_iadd hx hb d_Mo_type_50 ?_
        refine lv_iload_n hx hb d_Mo_type_51 rfl (lv_at hl 2 rfl) ?_
        refine mo_st hE hM hS hL 1 (by decide) (i := (12 * (24 + x0)) + (A 2 (24 + x0))) (x := c0) (show (12 * (24 + x0)) + (A 2 (24 + x0)) < 312 by omega) d_Mo_type_52 (fun H locs hM hS hL => ?_)
        refine lv_aload_n hx hb d_Mo_type_53 rfl (lv_at hl 0 rfl) ?_
        refine fg_Mo_13 hE hM.1 rfl d_Mo_type_54 ?_
        refine lv_bipush (v := nI 24) hx hb d_Mo_type_57 (by decide) ?_
        refine lv_iload_n hx hb d_Mo_type_59 rfl (lv_at hl 1 rfl) ?_
        refine zz_iadd hx hb d_Mo_type_60 ?_
        refine lv_dup2_11 hx hb d_Mo_type_61 rfl rfl ?_
        have hup : (up2 A 1 (12 * (24 + x0) + A 2 (24 + x0)) c0) 2 (24 + x0) = A 2 (24 + x0) := up2_k (by decide)
        refine mo_ld hE hM 2 (by decide) (i := 24 + x0) (show 24 + x0 < 26 by omega) d_Mo_type_62 ?_
        refine lv_iconst (v := nI 1) hx hb d_Mo_type_63 (by decide) ?_
        refine zz_iadd hx hb d_Mo_type_64 ?_
        refine mo_st hE hM hS hL 2 (by decide) (i := 24 + x0) (x := ((up2 A 1 ((12 * (24 + x0)) + (A 2 (24 + x0))) c0) 2 (24 + x0)) + 1) (show 24 + x0 < 26 by omega) d_Mo_type_65 (fun H locs hM hS hL => ?_)
        refine lv_iconst (v := nI 1) hx hb d_Mo_type_66 (by decide) ?_
        have hval : aType (fun f => A 2 (24 + f)) (nI x0) c0 = true := by simp only [aType, cx, hx4, decide_eq_true (show c0 ≤ 255 by omega), decide_eq_true hT25]; rfl
        rw [up2_k (show (2 : Nat) ≠ 1 by decide)] at hM
        exact zz_iret hx hb hr hlk rfl ⟨by rw [hval]; rfl, hS, by rw [hval]; rw [if_pos rfl]; simpa only [cx] using hM⟩ hL d_Mo_type_67
      · refine lv_iconst (v := nI 0) hx hb d_Mo_type_28 (by decide) ?_
        have hval : aType (fun f => A 2 (24 + f)) (nI x0) c0 = false := by simp only [aType, cx, hF25]; simp
        exact zz_iret hx hb hr hlk rfl ⟨by rw [hval]; rfl, hS, by rw [hval]; exact hM⟩ hL d_Mo_type_29

set_option maxHeartbeats 4000000 in
set_option maxRecDepth 100000 in
theorem k_Mo_unit (l : Launch) (D : va_G) (ca : Nat → ClassId) (r n t rs w : Nat) (A : Nat → Nat → Nat) (x y i : Int32) (hA : mAll A n rs w) : Met l y_Mo_unit w_Mo_unit (zr 6 0 0) (zz_P D ca [.ref r, .int x, .int y, .int i] (fun H => MoAt D ca H r n t rs w A)) (zz_Q (fun H H1 v => v = some (.int (aUnit n (mTx A) x y i)) ∧ zz_fr (moFr r) H H1 ∧ ∃ B, MoAt D ca H1 r n t rs w B ∧ mS A B)) 0 0 (moFr r) := by
  refine zz_met (cc := c_Mo_unit) (by decide) (Nat.le_of_ble_eq_true rfl) ?_
  intro p e s m below meth c ls hE hr hlk hnm hM hl
  have hx := hE.1.1
  have hb := hE.1.2.1
  have hK := hE.2
  have hl : lv_has ls 5 [(0, .ref r), (1, .int x), (2, .int y), (3, .int i)] := hl
  have hL : zz_L (moFr r) ([] : List Loc) := zz_L.nil
  have hS : zz_fr (moFr r) s.heap s.heap := zz_fr.rf
  have hA0 := hA
  obtain ⟨okA, hn, hw4, hRu, hwr, hdd, hkp⟩ := hA0
  refine lv_aload_n hx hb d_Mo_unit_0 rfl (lv_at hl 0 rfl) ?_
  refine lv_iload_n hx hb d_Mo_unit_1 rfl (lv_at hl 1 rfl) ?_
  refine lv_iload_n hx hb d_Mo_unit_2 rfl (lv_at hl 2 rfl) ?_
  refine zz_callI (cl_Mo_106 (rest := []) hE (k_Mo_length l D ca r n t rs w A x y hA) ⟨rfl, rfl, by decide, by decide⟩ hM hM.1 rfl hl.1 rfl (Nat.le_of_ble_eq_true rfl) d_Mo_unit_3 ⟨by decide, by decide⟩) hL (fun _ h => h) (fun H locs hpost hL => ?_)
  obtain ⟨hfr1, B1, hM, hms1, hun⟩ := hpost
  have hS := hS.tr hfr1
  refine lv_istore hx hb d_Mo_unit_6 hl (by decide) rfl (fun ls hl => ?_)
  have hl : lv_has ls 5 [(4, .int (aLength n (mTx A) x y)), (0, .ref r), (1, .int x), (2, .int y), (3, .int i)] := hl
  refine lv_iload_n hx hb d_Mo_unit_8 rfl (lv_at hl 4 rfl) ?_
  refine lv_if_lt hx hb d_Mo_unit_9 (tgt := 27) rfl (fun hT9 => ?_) (fun hF9 => ?_)
  · refine lv_iconst (v := (-1 : Int32)) hx hb d_Mo_unit_27 (by decide) ?_
    have hval : aUnit n (mTx A) x y i = (-1 : Int32) := by
        unfold aUnit
        rw [if_neg (by simp [zisR, hT9])]
    exact zz_iret hx hb hr hlk rfl ⟨by rw [hval], hS, _, hM, hms1⟩ hL d_Mo_unit_28
  · refine lv_iload_n hx hb d_Mo_unit_12 rfl (lv_at hl 4 rfl) ?_
    refine lv_iload hx hb d_Mo_unit_13 (lv_at hl 0 rfl) ?_
    refine lv_icmp_ge hx hb d_Mo_unit_15 (tgt := 27) rfl (fun hT15 => ?_) (fun hF15 => ?_)
    · refine lv_iconst (v := (-1 : Int32)) hx hb d_Mo_unit_27 (by decide) ?_
      have hval : aUnit n (mTx A) x y i = (-1 : Int32) := by
          unfold aUnit
          rw [if_neg]
          rintro ⟨hv, hz⟩
          have hlen : aLength n (mTx A) x y = nI (mTx A (cN x) (cN y)).length := by unfold aLength; rw [if_pos hv]
          rw [hlen] at hT15
          simp [zisR] at hz
          exact k2_nle hz.2 hT15
      exact zz_iret hx hb hr hlk rfl ⟨by rw [hval], hS, _, hM, hms1⟩ hL d_Mo_unit_28
    · have hv : zisR n x = true ∧ zisF y = true := by
        apply Classical.byContradiction
        intro h
        have h2 : aLength n (mTx A) x y = -1 := by unfold aLength; rw [if_neg h]
        rw [h2] at hF15
        exact hF15 (zz_m1 hF9)
      have hlen : aLength n (mTx A) x y = nI (mTx A (cN x) (cN y)).length := by unfold aLength; rw [if_pos hv]
      have hcx : cN x ≤ 12 ∧ cN y ≤ 1 := by
        obtain ⟨x0, hx0, h1⟩ := zisR_nat hv.1 (show n < 2 ^ 31 by omega)
        obtain ⟨y0, hy0, h2⟩ := zisF_nat hv.2
        rw [h1, h2]
        simp only [cN, nI_clamp (show x0 < 2 ^ 31 by omega), nI_clamp (show y0 < 2 ^ 31 by omega)]
        exact ⟨by omega, hy0⟩
      have hl12 := (mTx_lt okA hcx.1 hcx.2).1
      have hzi : zisR (mTx A (cN x) (cN y)).length i = true := by
        rw [hlen] at hF15
        simp only [zisR, decide_eq_false hF9, decide_eq_false hF15]
        rfl
      have hzi2 := hzi
      obtain ⟨i0, hi0, rfl⟩ := zisR_nat hzi (by omega)
      have ci : cN (nI i0) = i0 := nI_clamp (by omega)
      refine lv_aload_n hx hb d_Mo_unit_18 rfl (lv_at hl 1 rfl) ?_
      refine fg_Mo_16 hE hM.1 rfl d_Mo_unit_19 ?_
      refine lv_iload_n hx hb d_Mo_unit_22 rfl (lv_at hl 4 rfl) ?_
      refine mo_ld hE hM 3 (by decide) (i := i0) (show i0 < 24 by omega) d_Mo_unit_23 ?_
      refine lv_goto hx hb d_Mo_unit_24 (tgt := 28) rfl ?_
      have hval : aUnit n (mTx A) x y (nI i0) = nI (B1 3 i0) := by unfold aUnit; rw [if_pos ⟨hv, hzi2⟩, ci, hun hv.1 hv.2 i0 hi0]
      exact zz_iret hx hb hr hlk rfl ⟨by rw [hval], hS, _, hM, hms1⟩ hL d_Mo_unit_28

set_option maxHeartbeats 4000000 in
set_option maxRecDepth 100000 in
theorem k_Mo_similar (l : Launch) (D : va_G) (ca : Nat → ClassId) (r n t rs w : Nat) (A : Nat → Nat → Nat) (x y : Int32) (hA : mAll A n rs w) : Met l y_Mo_similar w_Mo_similar (zr 7 0 0) (zz_P D ca [.ref r, .int x, .int y] (fun H => MoAt D ca H r n t rs w A)) (zz_Q (fun H H1 v => v = some (.int (aSimilar n rs (mHo A rs) x y)) ∧ zz_fr (moFr r) H H1 ∧ ∃ B, MoAt D ca H1 r n t rs w B ∧ mS A B)) 0 0 (moFr r) := by
  refine zz_met (cc := c_Mo_similar) (by decide) (Nat.le_of_ble_eq_true rfl) ?_
  intro p e s m below meth c ls hE hr hlk hnm hM hl
  have hx := hE.1.1
  have hb := hE.1.2.1
  have hK := hE.2
  have hl : lv_has ls 3 [(0, .ref r), (1, .int x), (2, .int y)] := hl
  have hL : zz_L (moFr r) ([] : List Loc) := zz_L.nil
  have hS : zz_fr (moFr r) s.heap s.heap := zz_fr.rf
  obtain ⟨okA, hn, hw4, hRu, hwr, hdd, hkp⟩ := hA
  have hrs24 := hRu.1
  refine lv_aload_n hx hb d_Mo_similar_0 rfl (lv_at hl 0 rfl) ?_
  refine fg_Mo_130 hE hM.1 rfl d_Mo_similar_1 ?_
  refine zz_ne0 hx hb (by omega) d_Mo_similar_4 (tgt := 10) rfl (fun hT4 => ?_) (fun hF4 => ?_)
  · refine lv_aload_n hx hb d_Mo_similar_10 rfl (lv_at hl 0 rfl) ?_
    refine lv_iload_n hx hb d_Mo_similar_11 rfl (lv_at hl 1 rfl) ?_
    refine zz_callP (cl_Mo_95 (rest := []) hE (k_Mo_isRecord l D ca r n t rs w A x) ⟨rfl, rfl, by decide, by decide⟩ hM hM.1 rfl hl.1 rfl (Nat.le_of_ble_eq_true rfl) d_Mo_similar_12 ⟨by decide, by decide⟩) ?_
    refine zz_eqB hx hb d_Mo_similar_15 (tgt := 31) rfl (fun hT15 => ?_) (fun hF15 => ?_)
    · refine lv_iconst (v := (-1 : Int32)) hx hb d_Mo_similar_31 (by decide) ?_
      have hval : aSimilar n rs (mHo A rs) x y = (-1 : Int32) := by
          unfold aSimilar
          rw [if_neg (by omega), if_neg (by simp [hT15])]
      exact zz_iret hx hb hr hlk rfl ⟨by rw [hval], hS, _, hM, mS.rf okA⟩ hL d_Mo_similar_32
    · refine lv_aload_n hx hb d_Mo_similar_18 rfl (lv_at hl 0 rfl) ?_
      refine lv_iload_n hx hb d_Mo_similar_19 rfl (lv_at hl 2 rfl) ?_
      refine zz_callP (cl_Mo_95 (rest := []) hE (k_Mo_isRecord l D ca r n t rs w A y) ⟨rfl, rfl, by decide, by decide⟩ hM hM.1 rfl hl.1 rfl (Nat.le_of_ble_eq_true rfl) d_Mo_similar_20 ⟨by decide, by decide⟩) ?_
      refine zz_eqB hx hb d_Mo_similar_23 (tgt := 31) rfl (fun hT23 => ?_) (fun hF23 => ?_)
      · refine lv_iconst (v := (-1 : Int32)) hx hb d_Mo_similar_31 (by decide) ?_
        have hval : aSimilar n rs (mHo A rs) x y = (-1 : Int32) := by
            unfold aSimilar
            rw [if_neg (by omega), if_neg (by simp [hF15, hT23])]
        exact zz_iret hx hb hr hlk rfl ⟨by rw [hval], hS, _, hM, mS.rf okA⟩ hL d_Mo_similar_32
      · have hx15 := hF15
        have hx23 := hF23
        obtain ⟨x0, hx0, rfl⟩ := zisR_nat hF15 (by omega)
        obtain ⟨y0, hy0, rfl⟩ := zisR_nat hF23 (by omega)
        refine lv_iload_n hx hb d_Mo_similar_26 rfl (lv_at hl 1 rfl) ?_
        refine lv_iload_n hx hb d_Mo_similar_27 rfl (lv_at hl 2 rfl) ?_
        refine zz_ne hx hb (by omega) (by omega) d_Mo_similar_28 (tgt := 33) rfl (fun hT28 => ?_) (fun hF28 => ?_)
        · have hrs : 0 < rs := by omega
          refine lv_aload_n hx hb d_Mo_similar_33 rfl (lv_at hl 0 rfl) ?_
          refine lv_iload_n hx hb d_Mo_similar_34 rfl (lv_at hl 1 rfl) ?_
          refine lv_iload_n hx hb d_Mo_similar_35 rfl (lv_at hl 2 rfl) ?_
          refine zz_callI (cl_Mo_140 (rest := []) hE (k_Mo_holds l D ca r n t rs w A x0 y0 (by omega) (by omega) okA hrs hRu) ⟨rfl, rfl, by decide, by decide⟩ hM hM.1 rfl hl.1 rfl (Nat.le_of_ble_eq_true rfl) d_Mo_similar_36 ⟨by decide, by decide⟩) hL (fun _ h => h) (fun H locs hpost hL => ?_)
          obtain ⟨hfrB1, B1, hM, hmsB1⟩ := hpost
          have hS := hS.tr hfrB1
          refine zz_eqB hx hb d_Mo_similar_39 (tgt := 46) rfl (fun hT39 => ?_) (fun hF39 => ?_)
          · refine lv_iconst (v := nI 0) hx hb d_Mo_similar_46 (by decide) ?_
            have hval : aSimilar n rs (mHo A rs) (nI x0) (nI y0) = nI 0 := by
                unfold aSimilar
                rw [if_neg (by omega), if_pos ⟨hx15, hx23, fun h => hT28 ((nI_eq (by omega) (by omega)).1 h)⟩]; simp only [cN, nI_clamp (show x0 < 2 ^ 31 by omega), nI_clamp (show y0 < 2 ^ 31 by omega)]; rw [hT39]; rfl
            exact zz_iret hx hb hr hlk rfl ⟨by rw [hval], hS, _, hM, hmsB1⟩ hL d_Mo_similar_47
          · refine lv_iconst (v := nI 1) hx hb d_Mo_similar_42 (by decide) ?_
            refine lv_goto hx hb d_Mo_similar_43 (tgt := 47) rfl ?_
            have hval : aSimilar n rs (mHo A rs) (nI x0) (nI y0) = nI 1 := by
                unfold aSimilar
                rw [if_neg (by omega), if_pos ⟨hx15, hx23, fun h => hT28 ((nI_eq (by omega) (by omega)).1 h)⟩]; simp only [cN, nI_clamp (show x0 < 2 ^ 31 by omega), nI_clamp (show y0 < 2 ^ 31 by omega)]; rw [hF39]; rfl
            exact zz_iret hx hb hr hlk rfl ⟨by rw [hval], hS, _, hM, hmsB1⟩ hL d_Mo_similar_47
        · refine lv_iconst (v := (-1 : Int32)) hx hb d_Mo_similar_31 (by decide) ?_
          have hval : aSimilar n rs (mHo A rs) (nI x0) (nI y0) = (-1 : Int32) := by
              unfold aSimilar
              rw [if_neg (by omega), if_neg (by rintro ⟨-, -, h⟩; exact h (congrArg nI hF28))]
          exact zz_iret hx hb hr hlk rfl ⟨by rw [hval], hS, _, hM, mS.rf okA⟩ hL d_Mo_similar_32
  · refine lv_bipush (v := (-4 : Int32)) hx hb d_Mo_similar_7 (by decide) ?_
    have hval : aSimilar n rs (mHo A rs) x y = (-4 : Int32) := by
        unfold aSimilar
        rw [if_pos (by omega)]
    exact zz_iret hx hb hr hlk rfl ⟨by rw [hval], hS, _, hM, mS.rf okA⟩ hL d_Mo_similar_9

set_option maxHeartbeats 4000000 in
set_option maxRecDepth 100000 in
theorem k_Mo_found (l : Launch) (D : va_G) (ca : Nat → ClassId) (r n t rs w : Nat) (A : Nat → Nat → Nat) (x y : Int32) (hA : mAll A n rs w) : Met l y_Mo_found w_Mo_found (zr 8 0 0) (zz_P D ca [.ref r, .int x, .int y] (fun H => MoAt D ca H r n t rs w A)) (zz_Q (fun H H1 v => v = some (.int (aFound n w (mFd A w rs) x y)) ∧ zz_fr (moFr r) H H1 ∧ ∃ B, MoAt D ca H1 r n t rs w B ∧ mS A B)) 0 0 (moFr r) := by
  refine zz_met (cc := c_Mo_found) (by decide) (Nat.le_of_ble_eq_true rfl) ?_
  intro p e s m below meth c ls hE hr hlk hnm hM hl
  have hx := hE.1.1
  have hb := hE.1.2.1
  have hK := hE.2
  have hl : lv_has ls 3 [(0, .ref r), (1, .int x), (2, .int y)] := hl
  have hL : zz_L (moFr r) ([] : List Loc) := zz_L.nil
  have hS : zz_fr (moFr r) s.heap s.heap := zz_fr.rf
  obtain ⟨okA, hn, hw4, hRu, hwr, hdd, hkp⟩ := hA
  have hrs24 := hRu.1
  refine lv_aload_n hx hb d_Mo_found_0 rfl (lv_at hl 0 rfl) ?_
  refine fg_Mo_73 hE hM.1 rfl d_Mo_found_1 ?_
  refine zz_ne0 hx hb (by omega) d_Mo_found_4 (tgt := 10) rfl (fun hT4 => ?_) (fun hF4 => ?_)
  · refine lv_aload_n hx hb d_Mo_found_10 rfl (lv_at hl 0 rfl) ?_
    refine lv_iload_n hx hb d_Mo_found_11 rfl (lv_at hl 1 rfl) ?_
    refine zz_callP (cl_Mo_95 (rest := []) hE (k_Mo_isRecord l D ca r n t rs w A x) ⟨rfl, rfl, by decide, by decide⟩ hM hM.1 rfl hl.1 rfl (Nat.le_of_ble_eq_true rfl) d_Mo_found_12 ⟨by decide, by decide⟩) ?_
    refine zz_eqB hx hb d_Mo_found_15 (tgt := 31) rfl (fun hT15 => ?_) (fun hF15 => ?_)
    · refine lv_iconst (v := (-1 : Int32)) hx hb d_Mo_found_31 (by decide) ?_
      have hval : aFound n w (mFd A w rs) x y = (-1 : Int32) := by
          unfold aFound
          rw [if_neg (by omega), if_neg (by simp [hT15])]
      exact zz_iret hx hb hr hlk rfl ⟨by rw [hval], hS, _, hM, mS.rf okA⟩ hL d_Mo_found_32
    · refine lv_aload_n hx hb d_Mo_found_18 rfl (lv_at hl 0 rfl) ?_
      refine lv_iload_n hx hb d_Mo_found_19 rfl (lv_at hl 2 rfl) ?_
      refine zz_callP (cl_Mo_95 (rest := []) hE (k_Mo_isRecord l D ca r n t rs w A y) ⟨rfl, rfl, by decide, by decide⟩ hM hM.1 rfl hl.1 rfl (Nat.le_of_ble_eq_true rfl) d_Mo_found_20 ⟨by decide, by decide⟩) ?_
      refine zz_eqB hx hb d_Mo_found_23 (tgt := 31) rfl (fun hT23 => ?_) (fun hF23 => ?_)
      · refine lv_iconst (v := (-1 : Int32)) hx hb d_Mo_found_31 (by decide) ?_
        have hval : aFound n w (mFd A w rs) x y = (-1 : Int32) := by
            unfold aFound
            rw [if_neg (by omega), if_neg (by simp [hF15, hT23])]
        exact zz_iret hx hb hr hlk rfl ⟨by rw [hval], hS, _, hM, mS.rf okA⟩ hL d_Mo_found_32
      · have hx15 := hF15
        have hx23 := hF23
        obtain ⟨x0, hx0, rfl⟩ := zisR_nat hF15 (by omega)
        obtain ⟨y0, hy0, rfl⟩ := zisR_nat hF23 (by omega)
        refine lv_iload_n hx hb d_Mo_found_26 rfl (lv_at hl 1 rfl) ?_
        refine lv_iload_n hx hb d_Mo_found_27 rfl (lv_at hl 2 rfl) ?_
        refine zz_ne hx hb (by omega) (by omega) d_Mo_found_28 (tgt := 33) rfl (fun hT28 => ?_) (fun hF28 => ?_)
        · have hw : 0 < w := by omega
          have hrs : 0 < rs := hwr hw
          refine lv_aload_n hx hb d_Mo_found_33 rfl (lv_at hl 0 rfl) ?_
          refine lv_iload_n hx hb d_Mo_found_34 rfl (lv_at hl 1 rfl) ?_
          refine lv_iload_n hx hb d_Mo_found_35 rfl (lv_at hl 2 rfl) ?_
          refine zz_callI (cl_Mo_152 (rest := []) hE (k_Mo_isFound l D ca r n t rs w A x0 y0 (by omega) (by omega) okA hrs hRu hw hw4 hdd) ⟨rfl, rfl, by decide, by decide⟩ hM hM.1 rfl hl.1 rfl (Nat.le_of_ble_eq_true rfl) d_Mo_found_36 ⟨by decide, by decide⟩) hL (fun _ h => h) (fun H locs hpost hL => ?_)
          obtain ⟨hfrB1, B1, hM, hmsB1⟩ := hpost
          have hS := hS.tr hfrB1
          refine zz_eqB hx hb d_Mo_found_39 (tgt := 46) rfl (fun hT39 => ?_) (fun hF39 => ?_)
          · refine lv_iconst (v := nI 0) hx hb d_Mo_found_46 (by decide) ?_
            have hval : aFound n w (mFd A w rs) (nI x0) (nI y0) = nI 0 := by
                unfold aFound
                rw [if_neg (by omega), if_pos ⟨hx15, hx23, fun h => hT28 ((nI_eq (by omega) (by omega)).1 h)⟩]; simp only [cN, nI_clamp (show x0 < 2 ^ 31 by omega), nI_clamp (show y0 < 2 ^ 31 by omega)]; rw [hT39]; rfl
            exact zz_iret hx hb hr hlk rfl ⟨by rw [hval], hS, _, hM, hmsB1⟩ hL d_Mo_found_47
          · refine lv_iconst (v := nI 1) hx hb d_Mo_found_42 (by decide) ?_
            refine lv_goto hx hb d_Mo_found_43 (tgt := 47) rfl ?_
            have hval : aFound n w (mFd A w rs) (nI x0) (nI y0) = nI 1 := by
                unfold aFound
                rw [if_neg (by omega), if_pos ⟨hx15, hx23, fun h => hT28 ((nI_eq (by omega) (by omega)).1 h)⟩]; simp only [cN, nI_clamp (show x0 < 2 ^ 31 by omega), nI_clamp (show y0 < 2 ^ 31 by omega)]; rw [hF39]; rfl
            exact zz_iret hx hb hr hlk rfl ⟨by rw [hval], hS, _, hM, hmsB1⟩ hL d_Mo_found_47
        · refine lv_iconst (v := (-1 : Int32)) hx hb d_Mo_found_31 (by decide) ?_
          have hval : aFound n w (mFd A w rs) (nI x0) (nI y0) = (-1 : Int32) := by
              unfold aFound
              rw [if_neg (by omega), if_neg (by rintro ⟨-, -, h⟩; exact h (congrArg nI hF28))]
          exact zz_iret hx hb hr hlk rfl ⟨by rw [hval], hS, _, hM, mS.rf okA⟩ hL d_Mo_found_32
  · refine lv_bipush (v := (-4 : Int32)) hx hb d_Mo_found_7 (by decide) ?_
    have hval : aFound n w (mFd A w rs) x y = (-4 : Int32) := by
        unfold aFound
        rw [if_pos (by omega)]
    exact zz_iret hx hb hr hlk rfl ⟨by rw [hval], hS, _, hM, mS.rf okA⟩ hL d_Mo_found_9

set_option maxHeartbeats 4000000 in
set_option maxRecDepth 100000 in
theorem k_Mo_crash (l : Launch) (D : va_G) (ca : Nat → ClassId) (r n t rs w : Nat) (A : Nat → Nat → Nat) (x : Int32) (hA : mAll A n rs w) : Met l y_Mo_crash w_Mo_crash (zr 2 0 0) (zz_P D ca [.ref r, .int x] (fun H => MoAt D ca H r n t rs w A)) (zz_Q (fun H H1 v => v = some (.int (aCrash w (mDn A n w) (A 16) x)) ∧ zz_fr (moFr r) H H1 ∧ MoAt D ca H1 r n t rs w (if (decide (w ≠ 0) && zisR w x && !(mDn A n w)) = true then up2 A 16 (cN x) 0 else A))) 0 0 (moFr r) := by
  refine zz_met (cc := c_Mo_crash) (by decide) (Nat.le_of_ble_eq_true rfl) ?_
  intro p e s m below meth c ls hE hr hlk hnm hM hl
  have hx := hE.1.1
  have hb := hE.1.2.1
  have hK := hE.2
  have hl : lv_has ls 3 [(0, .ref r), (1, .int x)] := hl
  have hL : zz_L (moFr r) ([] : List Loc) := zz_L.nil
  have hS : zz_fr (moFr r) s.heap s.heap := zz_fr.rf
  obtain ⟨okA, hn, hw4, hRu, hwr, hdd, hkp⟩ := hA
  have hrs24 := hRu.1
  refine lv_aload_n hx hb d_Mo_crash_0 rfl (lv_at hl 0 rfl) ?_
  refine fg_Mo_73 hE hM.1 rfl d_Mo_crash_1 ?_
  refine zz_ne0 hx hb (by omega) d_Mo_crash_4 (tgt := 10) rfl (fun hT4 => ?_) (fun hF4 => ?_)
  · have hw : 0 < w := by omega
    refine lv_aload_n hx hb d_Mo_crash_10 rfl (lv_at hl 0 rfl) ?_
    refine lv_iload_n hx hb d_Mo_crash_11 rfl (lv_at hl 1 rfl) ?_
    refine zz_callP (cl_Mo_146 (rest := []) hE (k_Mo_isWorker l D ca r n t rs w A x) ⟨rfl, rfl, by decide, by decide⟩ hM hM.1 rfl hl.1 rfl (Nat.le_of_ble_eq_true rfl) d_Mo_crash_12 ⟨by decide, by decide⟩) ?_
    refine zz_neB hx hb d_Mo_crash_15 (tgt := 20) rfl (fun hT15 => ?_) (fun hF15 => ?_)
    · refine lv_aload_n hx hb d_Mo_crash_20 rfl (lv_at hl 0 rfl) ?_
      refine zz_callP (cl_Mo_149 (rest := []) hE (k_Mo_isDone l D ca r n t rs w A hn hw hw4 hdd) ⟨rfl, rfl, by decide, by decide⟩ hM hM.1 rfl hl.1 rfl (Nat.le_of_ble_eq_true rfl) d_Mo_crash_21 ⟨by decide, by decide⟩) ?_
      refine zz_eqB hx hb d_Mo_crash_24 (tgt := 30) rfl (fun hT24 => ?_) (fun hF24 => ?_)
      · have hx15 := hT15
        obtain ⟨x0, hx0, rfl⟩ := zisR_nat hT15 (by omega)
        have cx : cN (nI x0) = x0 := nI_clamp (by omega)
        have hd0 := hdd x0 (by omega)
        refine lv_aload_n hx hb d_Mo_crash_30 rfl (lv_at hl 0 rfl) ?_
        refine fg_Mo_56 hE hM.1 rfl d_Mo_crash_31 ?_
        refine lv_iload_n hx hb d_Mo_crash_34 rfl (lv_at hl 1 rfl) ?_
        refine mo_ld hE hM 16 (by decide) (i := x0) (show x0 < 4 by omega) d_Mo_crash_35 ?_
        refine lv_istore_n hx hb d_Mo_crash_36 rfl hl (by decide) rfl (fun ls hl => ?_)
        have hl : lv_has ls 3 [(2, .int (nI (A 16 x0))), (0, .ref r), (1, .int (nI x0))] := hl
        refine lv_aload_n hx hb d_Mo_crash_37 rfl (lv_at hl 1 rfl) ?_
        refine fg_Mo_56 hE hM.1 rfl d_Mo_crash_38 ?_
        refine lv_iload_n hx hb d_Mo_crash_41 rfl (lv_at hl 2 rfl) ?_
        refine lv_iconst (v := nI 0) hx hb d_Mo_crash_42 (by decide) ?_
        refine mo_st hE hM hS hL 16 (by decide) (i := x0) (x := 0) (show x0 < 4 by omega) d_Mo_crash_43 (fun H locs hM hS hL => ?_)
        refine lv_iload_n hx hb d_Mo_crash_44 rfl (lv_at hl 0 rfl) ?_
        have hval : aCrash w (mDn A n w) (A 16) (nI x0) = nI (A 16 x0) := by
            unfold aCrash
            rw [if_neg (by omega), if_neg (by simp [hx15]), if_neg (by simp [hT24]), cx]
        exact zz_iret hx hb hr hlk rfl ⟨by rw [hval], hS, by rw [if_pos (by simp [hx15, hT24]; omega), cx]; exact hM⟩ hL d_Mo_crash_45
      · refine lv_bipush (v := (-5 : Int32)) hx hb d_Mo_crash_27 (by decide) ?_
        have hval : aCrash w (mDn A n w) (A 16) x = (-5 : Int32) := by
            unfold aCrash
            rw [if_neg (by omega), if_neg (by simp [hT15]), if_pos hF24]
        exact zz_iret hx hb hr hlk rfl ⟨by rw [hval], hS, by rw [if_neg (by simp [hF24])]; exact hM⟩ hL d_Mo_crash_29
    · refine lv_iconst (v := (-1 : Int32)) hx hb d_Mo_crash_18 (by decide) ?_
      have hval : aCrash w (mDn A n w) (A 16) x = (-1 : Int32) := by
          unfold aCrash
          rw [if_neg (by omega), if_pos hF15]
      exact zz_iret hx hb hr hlk rfl ⟨by rw [hval], hS, by rw [if_neg (by simp [hF15])]; exact hM⟩ hL d_Mo_crash_19
  · refine lv_bipush (v := (-4 : Int32)) hx hb d_Mo_crash_7 (by decide) ?_
    have hval : aCrash w (mDn A n w) (A 16) x = (-4 : Int32) := by
        unfold aCrash
        rw [if_pos (by omega)]
    exact zz_iret hx hb hr hlk rfl ⟨by rw [hval], hS, by rw [if_neg (by simp [hF4])]; exact hM⟩ hL d_Mo_crash_9
