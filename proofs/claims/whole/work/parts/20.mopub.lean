/-! The public calls' answers, over the records' texts tx. -/
theorem zisR_nat {n : Nat} {x : Int32} (h : zisR n x = true) (hn : n < 2 ^ 31) : ∃ j, j < n ∧ x = nI j := by
  simp [zisR] at h
  rcases pk_ix x hn with h1 | h1 | h1
  · exact absurd h1 (k2_nlt h.1)
  · exact absurd h1 (k2_nle h.2)
  · exact h1
theorem zisR_nI {n j : Nat} (h : j < n) (hn : n < 2 ^ 31) : zisR n (nI j) = true := by
  have h1 := nI_pos (n := j) (by omega)
  have h2 := nI_ge h hn
  simp only [zisR, decide_eq_false h1, decide_eq_false h2]
  rfl
theorem zisF_nat {x : Int32} (h : zisF x = true) : ∃ f, f ≤ 1 ∧ x = nI f := by
  simp [zisF] at h
  rcases h with h | h
  · exact ⟨0, by decide, h⟩
  · exact ⟨1, by decide, h⟩
abbrev cN (x : Int32) : Nat := x.toNatClampNeg
def aType (dl : Nat → Nat) (x : Int32) (c : Nat) : Bool := zisF x && decide (c ≤ 255) && decide (dl (cN x) ≠ 12)
def aWords (n : Nat) (tx : Nat → Nat → List Nat) (x y : Int32) : Int32 := if zisR n x = true ∧ zisF y = true then nI (lIn (tx (cN x) (cN y)) (tx (cN x) (cN y)) false) else -1
def aLength (n : Nat) (tx : Nat → Nat → List Nat) (x y : Int32) : Int32 := if zisR n x = true ∧ zisF y = true then nI (tx (cN x) (cN y)).length else -1
def aUnit (n : Nat) (tx : Nat → Nat → List Nat) (x y i : Int32) : Int32 := if (zisR n x = true ∧ zisF y = true) ∧ zisR (tx (cN x) (cN y)).length i = true then nI (tAt (tx (cN x) (cN y)) (cN i)) else -1
def aKeep (x y : Int32) : Bool := zisF x && zisR 3 y
def aSimilar (n rs : Nat) (ho : Nat → Nat → Bool) (x y : Int32) : Int32 := if rs = 0 then -4 else if zisR n x = true ∧ zisR n y = true ∧ x ≠ y then nI (ho (cN x) (cN y)).toNat else -1
def aFound (n w : Nat) (fd : Nat → Nat → Bool) (x y : Int32) : Int32 := if w = 0 then -4 else if zisR n x = true ∧ zisR n y = true ∧ x ≠ y then nI (fd (cN x) (cN y)).toNat else -1
def aStart (n rs : Nat) (x : Int32) : Int32 := if rs = 0 then -4 else if zisR 5 x = true ∧ x ≠ 0 then nI n else -1
def aCrash (w : Nat) (dn : Bool) (dd : Nat → Nat) (x : Int32) : Int32 := if w = 0 then -4 else if zisR w x = false then -1 else if dn = true then -5 else nI (dd (cN x))
/-- the reference's arrays as they are between calls -/
def mAll (A : Nat → Nat → Nat) (n rs w : Nat) : Prop := mOk A ∧ n ≤ 12 ∧ w ≤ 4 ∧ mRu A rs ∧ (0 < w → 0 < rs) ∧ (∀ v, v < 4 → A 16 v ≤ 12) ∧ (∀ f, f ≤ 1 → A 17 f ≤ 2)

set_option maxHeartbeats 4000000 in
set_option maxRecDepth 100000 in
theorem k_Mo_records (l : Launch) (D : va_G) (ca : Nat → ClassId) (r n t rs w : Nat) (A : Nat → Nat → Nat) : Met l y_Mo_records w_Mo_records (zr 0 0 0) (zz_P D ca [.ref r] (fun H => MoAt D ca H r n t rs w A)) (zz_Q (fun H H1 v => H1 = H ∧ v = some (.int (nI n)))) 0 0 (fun _ => False) := by
  refine zz_met (cc := c_Mo_records) (by decide) (Nat.le_of_ble_eq_true rfl) ?_
  intro p e s m below meth c ls hE hr hlk hnm hM hl
  have hx := hE.1.1
  have hb := hE.1.2.1
  have hK := hE.2
  have hl : lv_has ls 1 [(0, .ref r)] := hl
  have hL : zz_L (fun _ => False) ([] : List Loc) := zz_L.nil
  refine lv_aload_n hx hb d_Mo_records_0 rfl (lv_at hl 0 rfl) ?_
  refine fg_Mo_65 hE hM.1 rfl d_Mo_records_1 ?_
  exact zz_iret hx hb hr hlk rfl ⟨rfl, congrArg (fun z => some (Value.int z)) (rfl)⟩ hL d_Mo_records_4

set_option maxHeartbeats 4000000 in
set_option maxRecDepth 100000 in
theorem k_Mo_words (l : Launch) (D : va_G) (ca : Nat → ClassId) (r n t rs w : Nat) (A : Nat → Nat → Nat) (x y : Int32) (hA : mAll A n rs w) : Met l y_Mo_words w_Mo_words (zr 5 0 0) (zz_P D ca [.ref r, .int x, .int y] (fun H => MoAt D ca H r n t rs w A)) (zz_Q (fun H H1 v => v = some (.int (aWords n (mTx A) x y)) ∧ zz_fr (moFr r) H H1 ∧ ∃ B, MoAt D ca H1 r n t rs w B ∧ mS A B)) 0 0 (moFr r) := by
  refine zz_met (cc := c_Mo_words) (by decide) (Nat.le_of_ble_eq_true rfl) ?_
  intro p e s m below meth c ls hE hr hlk hnm hM hl
  have hx := hE.1.1
  have hb := hE.1.2.1
  have hK := hE.2
  have hl : lv_has ls 3 [(0, .ref r), (1, .int x), (2, .int y)] := hl
  have hL : zz_L (moFr r) ([] : List Loc) := zz_L.nil
  have hS : zz_fr (moFr r) s.heap s.heap := zz_fr.rf
  obtain ⟨okA, hn, hw4, hRu, hwr, hdd, hkp⟩ := hA
  have hrs24 := hRu.1
  refine lv_aload_n hx hb d_Mo_words_0 rfl (lv_at hl 0 rfl) ?_
  refine lv_iload_n hx hb d_Mo_words_1 rfl (lv_at hl 1 rfl) ?_
  refine zz_callP (cl_Mo_95 (rest := []) hE (k_Mo_isRecord l D ca r n t rs w A x) ⟨rfl, rfl, by decide, by decide⟩ hM hM.1 rfl hl.1 rfl (Nat.le_of_ble_eq_true rfl) d_Mo_words_2 ⟨by decide, by decide⟩) ?_
  refine zz_eqB hx hb d_Mo_words_5 (tgt := 15) rfl (fun hT5 => ?_) (fun hF5 => ?_)
  · refine lv_iconst (v := (-1 : Int32)) hx hb d_Mo_words_15 (by decide) ?_
    have hval : aWords n (mTx A) x y = (-1 : Int32) := by
        unfold aWords; rw [if_neg (by simp [hT5])]
    exact zz_iret hx hb hr hlk rfl ⟨by rw [hval], hS, _, hM, mS.rf okA⟩ hL d_Mo_words_16
  · refine lv_iload_n hx hb d_Mo_words_8 rfl (lv_at hl 2 rfl) ?_
    refine zz_callP (cl_Mo_69 (rest := []) hE (k_Mo_isField l D ca y) ⟨rfl, rfl, by decide, by decide⟩ trivial rfl hl.1 rfl (Nat.le_of_ble_eq_true rfl) d_Mo_words_9 ⟨by decide, by decide⟩) ?_
    refine zz_neB hx hb d_Mo_words_12 (tgt := 17) rfl (fun hT12 => ?_) (fun hF12 => ?_)
    · have hx5 := hF5
      have hx12 := hT12
      obtain ⟨x0, hx0, rfl⟩ := zisR_nat hF5 (by omega)
      obtain ⟨y0, hy0, rfl⟩ := zisF_nat hT12
      refine lv_aload_n hx hb d_Mo_words_17 rfl (lv_at hl 0 rfl) ?_
      refine lv_iconst (v := nI 0) hx hb d_Mo_words_18 (by decide) ?_
      refine lv_iload_n hx hb d_Mo_words_19 rfl (lv_at hl 1 rfl) ?_
      refine lv_iload_n hx hb d_Mo_words_20 rfl (lv_at hl 2 rfl) ?_
      refine zz_callN (cl_Mo_98 (rest := []) hE (k_Mo_look l D ca r n t rs w A 0 x0 y0 (by decide) (by omega) (by omega) (okA.2.1 _ (by omega)) okA.1) ⟨rfl, rfl, by decide, by decide⟩ hM hM.1 rfl hl.1 rfl (Nat.le_of_ble_eq_true rfl) d_Mo_words_21 ⟨by decide, by decide⟩) hL (fun _ h => h) (fun H locs hpost hL => ?_)
      obtain ⟨hfrB1, B1, hM, hlkB1⟩ := hpost
      have hS := hS.tr hfrB1
      obtain ⟨msB1, atB1, lnB1, otB1⟩ := mLook_ok (q := 0) (rr := x0) (f := y0) okA (by decide) (by omega) (by omega) hlkB1
      have okB1 := msB1.1
      have s0 := okB1.2.2.2.1 0 (by decide)
      refine lv_aload_n hx hb d_Mo_words_24 rfl (lv_at hl 0 rfl) ?_
      refine lv_iconst (v := nI 0) hx hb d_Mo_words_25 (by decide) ?_
      refine lv_iconst (v := nI 0) hx hb d_Mo_words_26 (by decide) ?_
      refine lv_iconst (v := nI 0) hx hb d_Mo_words_27 (by decide) ?_
      refine zz_callP (cl_Mo_102 (rest := []) hE (k_Mo_inSet l D ca r n t rs w B1 0 0 false (by decide) (by decide) s0 s0 okB1.2.2.1) ⟨rfl, rfl, by decide, by decide⟩ hM hM.1 rfl hl.1 rfl (Nat.le_of_ble_eq_true rfl) d_Mo_words_28 ⟨by decide, by decide⟩) ?_
      have hval : aWords n (mTx A) (nI x0) (nI y0) = nI (mIn B1 0 0 false (B1 4 0)) := by
          unfold aWords; rw [if_pos ⟨hx5, hx12⟩]; simp only [cN, nI_clamp (show x0 < 2 ^ 31 by omega), nI_clamp (show y0 < 2 ^ 31 by omega)]; rw [mIn_eq (both := false) atB1 atB1 lnB1 lnB1]
      exact zz_iret hx hb hr hlk rfl ⟨by rw [hval], hS, _, hM, msB1⟩ hL d_Mo_words_31
    · refine lv_iconst (v := (-1 : Int32)) hx hb d_Mo_words_15 (by decide) ?_
      have hval : aWords n (mTx A) x y = (-1 : Int32) := by
          unfold aWords; rw [if_neg (by simp [hF5, hF12])]
      exact zz_iret hx hb hr hlk rfl ⟨by rw [hval], hS, _, hM, mS.rf okA⟩ hL d_Mo_words_16

set_option maxHeartbeats 4000000 in
set_option maxRecDepth 100000 in
theorem k_Mo_length (l : Launch) (D : va_G) (ca : Nat → ClassId) (r n t rs w : Nat) (A : Nat → Nat → Nat) (x y : Int32) (hA : mAll A n rs w) : Met l y_Mo_length w_Mo_length (zr 5 0 0) (zz_P D ca [.ref r, .int x, .int y] (fun H => MoAt D ca H r n t rs w A)) (zz_Q (fun H H1 v => v = some (.int (aLength n (mTx A) x y)) ∧ zz_fr (moFr r) H H1 ∧ ∃ B, MoAt D ca H1 r n t rs w B ∧ mS A B ∧ (zisR n x = true → zisF y = true → ∀ i, i < (mTx A (cN x) (cN y)).length → B 3 i = tAt (mTx A (cN x) (cN y)) i))) 0 0 (moFr r) := by
  refine zz_met (cc := c_Mo_length) (by decide) (Nat.le_of_ble_eq_true rfl) ?_
  intro p e s m below meth c ls hE hr hlk hnm hM hl
  have hx := hE.1.1
  have hb := hE.1.2.1
  have hK := hE.2
  have hl : lv_has ls 3 [(0, .ref r), (1, .int x), (2, .int y)] := hl
  have hL : zz_L (moFr r) ([] : List Loc) := zz_L.nil
  have hS : zz_fr (moFr r) s.heap s.heap := zz_fr.rf
  obtain ⟨okA, hn, hw4, hRu, hwr, hdd, hkp⟩ := hA
  have hrs24 := hRu.1
  refine lv_aload_n hx hb d_Mo_length_0 rfl (lv_at hl 0 rfl) ?_
  refine lv_iload_n hx hb d_Mo_length_1 rfl (lv_at hl 1 rfl) ?_
  refine zz_callP (cl_Mo_95 (rest := []) hE (k_Mo_isRecord l D ca r n t rs w A x) ⟨rfl, rfl, by decide, by decide⟩ hM hM.1 rfl hl.1 rfl (Nat.le_of_ble_eq_true rfl) d_Mo_length_2 ⟨by decide, by decide⟩) ?_
  refine zz_eqB hx hb d_Mo_length_5 (tgt := 15) rfl (fun hT5 => ?_) (fun hF5 => ?_)
  · refine lv_iconst (v := (-1 : Int32)) hx hb d_Mo_length_15 (by decide) ?_
    have hval : aLength n (mTx A) x y = (-1 : Int32) := by
        unfold aLength; rw [if_neg (by simp [hT5])]
    exact zz_iret hx hb hr hlk rfl ⟨by rw [hval], hS, _, hM, mS.rf okA, fun h1 h2 => by simp [hT5] at h1 h2⟩ hL d_Mo_length_16
  · refine lv_iload_n hx hb d_Mo_length_8 rfl (lv_at hl 2 rfl) ?_
    refine zz_callP (cl_Mo_69 (rest := []) hE (k_Mo_isField l D ca y) ⟨rfl, rfl, by decide, by decide⟩ trivial rfl hl.1 rfl (Nat.le_of_ble_eq_true rfl) d_Mo_length_9 ⟨by decide, by decide⟩) ?_
    refine zz_neB hx hb d_Mo_length_12 (tgt := 17) rfl (fun hT12 => ?_) (fun hF12 => ?_)
    · have hx5 := hF5
      have hx12 := hT12
      obtain ⟨x0, hx0, rfl⟩ := zisR_nat hF5 (by omega)
      obtain ⟨y0, hy0, rfl⟩ := zisF_nat hT12
      refine lv_aload_n hx hb d_Mo_length_17 rfl (lv_at hl 0 rfl) ?_
      refine lv_iconst (v := nI 0) hx hb d_Mo_length_18 (by decide) ?_
      refine lv_iload_n hx hb d_Mo_length_19 rfl (lv_at hl 1 rfl) ?_
      refine lv_iload_n hx hb d_Mo_length_20 rfl (lv_at hl 2 rfl) ?_
      refine zz_callN (cl_Mo_98 (rest := []) hE (k_Mo_look l D ca r n t rs w A 0 x0 y0 (by decide) (by omega) (by omega) (okA.2.1 _ (by omega)) okA.1) ⟨rfl, rfl, by decide, by decide⟩ hM hM.1 rfl hl.1 rfl (Nat.le_of_ble_eq_true rfl) d_Mo_length_21 ⟨by decide, by decide⟩) hL (fun _ h => h) (fun H locs hpost hL => ?_)
      obtain ⟨hfrB1, B1, hM, hlkB1⟩ := hpost
      have hS := hS.tr hfrB1
      obtain ⟨msB1, atB1, lnB1, otB1⟩ := mLook_ok (q := 0) (rr := x0) (f := y0) okA (by decide) (by omega) (by omega) hlkB1
      have okB1 := msB1.1
      have s0 := okB1.2.2.2.1 0 (by decide)
      refine lv_aload_n hx hb d_Mo_length_24 rfl (lv_at hl 0 rfl) ?_
      refine fg_Mo_19 hE hM.1 rfl d_Mo_length_25 ?_
      refine lv_iconst (v := nI 0) hx hb d_Mo_length_28 (by decide) ?_
      refine mo_ld hE hM 4 (by decide) (i := 0) (show 0 < 2 by omega) d_Mo_length_29 ?_
      have hval : aLength n (mTx A) (nI x0) (nI y0) = nI (B1 4 0) := by
          unfold aLength; rw [if_pos ⟨hx5, hx12⟩]; simp only [cN, nI_clamp (show x0 < 2 ^ 31 by omega), nI_clamp (show y0 < 2 ^ 31 by omega)]; rw [lnB1]
      have hun : ∀ i, i < (mTx A (cN (nI x0)) (cN (nI y0))).length → B1 3 i = tAt (mTx A (cN (nI x0)) (cN (nI y0))) i := by
          simp only [cN, nI_clamp (show x0 < 2 ^ 31 by omega), nI_clamp (show y0 < 2 ^ 31 by omega)]
          intro i hi
          rw [← congrFun atB1 i]
          unfold mAt
          rw [if_pos (by omega)]
          simp
      exact zz_iret hx hb hr hlk rfl ⟨by rw [hval], hS, _, hM, msB1, fun _ _ => hun⟩ hL d_Mo_length_30
    · refine lv_iconst (v := (-1 : Int32)) hx hb d_Mo_length_15 (by decide) ?_
      have hval : aLength n (mTx A) x y = (-1 : Int32) := by
          unfold aLength; rw [if_neg (by simp [hF5, hF12])]
      exact zz_iret hx hb hr hlk rfl ⟨by rw [hval], hS, _, hM, mS.rf okA, fun h1 h2 => by simp [hF5, hF12] at h1 h2⟩ hL d_Mo_length_16

theorem zz_gt2 {y : Int32} (h : nI 2 < y) : nI 3 ≤ y := by
  rw [Int32.lt_iff_toInt_lt, nI_toInt (by decide)] at h
  rw [Int32.le_iff_toInt_le, nI_toInt (by decide)]
  omega
theorem zz_ngt2 {y : Int32} (h : y ≤ nI 2) : ¬ nI 3 ≤ y := by
  rw [Int32.le_iff_toInt_le, nI_toInt (by decide)] at h
  rw [Int32.le_iff_toInt_le, nI_toInt (by decide)]
  omega

set_option maxHeartbeats 4000000 in
set_option maxRecDepth 100000 in
theorem k_Mo_keep (l : Launch) (D : va_G) (ca : Nat → ClassId) (r n t rs w : Nat) (A : Nat → Nat → Nat) (x y : Int32) (hA : mAll A n rs w) : Met l y_Mo_keep w_Mo_keep (zr 1 0 0) (zz_P D ca [.ref r, .int x, .int y] (fun H => MoAt D ca H r n t rs w A)) (zz_Q (fun H H1 v => v = some (.int (nI (aKeep x y).toNat)) ∧ zz_fr (moFr r) H H1 ∧ MoAt D ca H1 r n t rs w (if aKeep x y = true then up2 A 17 (cN x) (cN y) else A))) 0 0 (moFr r) := by
  refine zz_met (cc := c_Mo_keep) (by decide) (Nat.le_of_ble_eq_true rfl) ?_
  intro p e s m below meth c ls hE hr hlk hnm hM hl
  have hx := hE.1.1
  have hb := hE.1.2.1
  have hK := hE.2
  have hl : lv_has ls 3 [(0, .ref r), (1, .int x), (2, .int y)] := hl
  have hL : zz_L (moFr r) ([] : List Loc) := zz_L.nil
  have hS : zz_fr (moFr r) s.heap s.heap := zz_fr.rf
  obtain ⟨okA, hn, hw4, hRu, hwr, hdd, hkp⟩ := hA
  have hrs24 := hRu.1
  refine lv_iload_n hx hb d_Mo_keep_0 rfl (lv_at hl 1 rfl) ?_
  refine zz_callP (cl_Mo_69 (rest := []) hE (k_Mo_isField l D ca x) ⟨rfl, rfl, by decide, by decide⟩ trivial rfl hl.1 rfl (Nat.le_of_ble_eq_true rfl) d_Mo_keep_1 ⟨by decide, by decide⟩) ?_
  refine zz_eqB hx hb d_Mo_keep_4 (tgt := 16) rfl (fun hT4 => ?_) (fun hF4 => ?_)
  · refine lv_iconst (v := nI 0) hx hb d_Mo_keep_16 (by decide) ?_
    have hval : aKeep x y = false := by unfold aKeep; simp [hT4]
    exact zz_iret hx hb hr hlk rfl ⟨by rw [hval]; rfl, hS, by rw [hval]; exact hM⟩ hL d_Mo_keep_17
  · refine lv_iload_n hx hb d_Mo_keep_7 rfl (lv_at hl 2 rfl) ?_
    refine lv_if_lt hx hb d_Mo_keep_8 (tgt := 16) rfl (fun hT8 => ?_) (fun hF8 => ?_)
    · refine lv_iconst (v := nI 0) hx hb d_Mo_keep_16 (by decide) ?_
      have hval : aKeep x y = false := by unfold aKeep; simp [zisR, hT8]
      exact zz_iret hx hb hr hlk rfl ⟨by rw [hval]; rfl, hS, by rw [hval]; exact hM⟩ hL d_Mo_keep_17
    · refine lv_iload_n hx hb d_Mo_keep_11 rfl (lv_at hl 2 rfl) ?_
      refine lv_iconst (v := nI 2) hx hb d_Mo_keep_12 (by decide) ?_
      refine lv_icmp_le hx hb d_Mo_keep_13 (tgt := 18) rfl (fun hT13 => ?_) (fun hF13 => ?_)
      · have hx4 := hF4
        have hy4 : zisR 3 y = true := by simp only [zisR, decide_eq_false hF8, decide_eq_false (zz_ngt2 hT13)]; rfl
        obtain ⟨x0, hx0, rfl⟩ := zisF_nat hF4
        obtain ⟨y0, hy0, rfl⟩ := zisR_nat hy4 (by decide)
        have cx : cN (nI x0) = x0 := nI_clamp (by omega)
        have cy : cN (nI y0) = y0 := nI_clamp (by omega)
        refine lv_aload_n hx hb d_Mo_keep_18 rfl (lv_at hl 0 rfl) ?_
        refine fg_Mo_59 hE hM.1 rfl d_Mo_keep_19 ?_
        refine lv_iload_n hx hb d_Mo_keep_22 rfl (lv_at hl 1 rfl) ?_
        refine lv_iload_n hx hb d_Mo_keep_23 rfl (lv_at hl 2 rfl) ?_
        refine mo_st hE hM hS hL 17 (by decide) (i := x0) (x := y0) (show x0 < 2 by omega) d_Mo_keep_24 (fun H locs hM hS hL => ?_)
        have hM : MoAt D ca H r n t rs w (if (true : Bool) = true then up2 A 17 (cN (nI x0)) (cN (nI y0)) else A) := by rw [if_pos rfl, cx, cy]; exact hM
        refine lv_iconst (v := nI 1) hx hb d_Mo_keep_25 (by decide) ?_
        have hval : aKeep (nI x0) (nI y0) = true := by unfold aKeep; rw [hx4, hy4]; rfl
        exact zz_iret hx hb hr hlk rfl ⟨by rw [hval]; rfl, hS, by rw [hval]; exact hM⟩ hL d_Mo_keep_26
      · refine lv_iconst (v := nI 0) hx hb d_Mo_keep_16 (by decide) ?_
        have hval : aKeep x y = false := by unfold aKeep; simp [zisR, zz_gt2 (k2_lt hF13)]
        exact zz_iret hx hb hr hlk rfl ⟨by rw [hval]; rfl, hS, by rw [hval]; exact hM⟩ hL d_Mo_keep_17

set_option maxHeartbeats 4000000 in
set_option maxRecDepth 100000 in
theorem k_Mo_discard (l : Launch) (D : va_G) (ca : Nat → ClassId) (r n t rs w : Nat) (A : Nat → Nat → Nat) (ht : t ≤ 6) : Met l y_Mo_discard w_Mo_discard (zr 1 0 0) (zz_P D ca [.ref r] (fun H => MoAt D ca H r n t rs w A)) (zz_Q (fun H H1 v => v = some (.int (nI (decide (0 < t)).toNat)) ∧ zz_fr (moFr r) H H1 ∧ MoAt D ca H1 r n (t - 1) rs w A)) 0 0 (moFr r) := by
  refine zz_met (cc := c_Mo_discard) (by decide) (Nat.le_of_ble_eq_true rfl) ?_
  intro p e s m below meth c ls hE hr hlk hnm hM hl
  have hx := hE.1.1
  have hb := hE.1.2.1
  have hK := hE.2
  have hl : lv_has ls 1 [(0, .ref r)] := hl
  have hL : zz_L (moFr r) ([] : List Loc) := zz_L.nil
  have hS : zz_fr (moFr r) s.heap s.heap := zz_fr.rf
  refine lv_aload_n hx hb d_Mo_discard_0 rfl (lv_at hl 0 rfl) ?_
  refine fg_Mo_109 hE hM.1 rfl d_Mo_discard_1 ?_
  refine zz_ne0 hx hb (by omega) d_Mo_discard_4 (tgt := 9) rfl (fun hT4 => ?_) (fun hF4 => ?_)
  · refine lv_aload_n hx hb d_Mo_discard_9 rfl (lv_at hl 0 rfl) ?_
    refine lv_dup hx hb d_Mo_discard_10 rfl ?_
    refine fg_Mo_109 hE hM.1 rfl d_Mo_discard_11 ?_
    refine lv_iconst (v := nI 1) hx hb d_Mo_discard_14 (by decide) ?_
    refine zz_isub (by omega) hx hb d_Mo_discard_15 ?_
    refine fp_Mo_109 hE hM.1 hL (show moFr r r from ⟨by omega, by omega⟩) (Nat.le_of_ble_eq_true rfl) d_Mo_discard_16 (fun H locs h1 hu hL => ?_)
    have hS := hS.up hu (show moFr r r from ⟨by omega, by omega⟩)
    have hM : MoAt D ca H r n (t - 1) rs w A := mo_fld hM h1 hu
    refine lv_iconst (v := nI 1) hx hb d_Mo_discard_19 (by decide) ?_
    exact zz_iret hx hb hr hlk rfl ⟨by simp [hT4], hS, by exact hM⟩ hL d_Mo_discard_20
  · refine lv_iconst (v := nI 0) hx hb d_Mo_discard_7 (by decide) ?_
    exact zz_iret hx hb hr hlk rfl ⟨by simp [hF4], hS, by subst hF4; exact hM⟩ hL d_Mo_discard_8
