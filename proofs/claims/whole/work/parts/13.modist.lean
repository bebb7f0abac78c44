theorem zz_dec {i : Nat} (h : 0 < i) : nI i + Int32.ofInt (-1) = nI (i - 1) := by rw [litm1]; exact sb_m1 h
theorem zz_inc4 (i : Nat) : nI i + Int32.ofInt 4 = nI (i + 4) := by rw [lit4]; exact nI_add i 4
/-- the leaves among the marks from fr on, below k -/
def mLv (A : Nat → Nat → Nat) (fr : Nat) : Nat → Nat := zcnt (fun k => decide (fr ≤ k) && decide (A 6 k < 2))
theorem mLv_0 (A : Nat → Nat → Nat) (fr : Nat) : ∀ k, k ≤ fr → mLv A fr k = 0
  | 0, _ => rfl
  | k + 1, h => by
    show mLv A fr k + (decide (fr ≤ k) && decide (A 6 k < 2)).toNat = 0
    rw [mLv_0 A fr k (by omega), decide_eq_false (by omega : ¬ fr ≤ k)]
    rfl
theorem mLv_s (A : Nat → Nat → Nat) {fr k : Nat} (h : fr ≤ k) : mLv A fr (k + 1) = mLv A fr k + (decide (A 6 k < 2)).toNat := by
  show mLv A fr k + (decide (fr ≤ k) && decide (A 6 k < 2)).toNat = _
  rw [decide_eq_true h, Bool.true_and]
/-- how many steps make the first i of x the first j of y -/
def dst (x y : Nat → Nat) : Nat → Nat → Nat
  | 0, j => j
  | i + 1, 0 => i + 1
  | i + 1, j + 1 => min (min (dst x y i j + (if x i = y j then 0 else 1)) (dst x y i (j + 1) + 1)) (dst x y (i + 1) j + 1)
termination_by i j => (i, j)
theorem dst_0 (x y : Nat → Nat) (j : Nat) : dst x y 0 j = j := by rw [dst]
theorem dst_s0 (x y : Nat → Nat) (i : Nat) : dst x y i 0 = i := by cases i <;> rw [dst]
theorem dst_ss (x y : Nat → Nat) (i j : Nat) : dst x y (i + 1) (j + 1) = min (min (dst x y i j + (if x i = y j then 0 else 1)) (dst x y i (j + 1) + 1)) (dst x y (i + 1) j + 1) := by rw [dst]
theorem dst_le (x y : Nat → Nat) : ∀ i j, dst x y i j ≤ i + j
  | 0, j => by rw [dst_0]; omega
  | i + 1, 0 => by rw [dst_s0]; omega
  | i + 1, j + 1 => by
    have h := dst_le x y i (j + 1)
    rw [dst_ss]
    omega

set_option maxHeartbeats 4000000 in
set_option maxRecDepth 100000 in
theorem k_Mo_marks (l : Launch) (D : va_G) (ca : Nat → ClassId) (r n t rs w : Nat) (A : Nat → Nat → Nat) (ht : t ≤ 6) : Met l y_Mo_marks w_Mo_marks (zr 0 0 0) (zz_P D ca [.ref r] (fun H => MoAt D ca H r n t rs w A)) (zz_Q (fun H H1 v => H1 = H ∧ v = some (.int (nI (A 10 t))))) 0 0 (fun _ => False) := by
  refine zz_met (cc := c_Mo_marks) (by decide) (Nat.le_of_ble_eq_true rfl) ?_
  intro p e s m below meth c ls hE hr hlk hnm hM hl
  have hx := hE.1.1
  have hb := hE.1.2.1
  have hK := hE.2
  have hl : lv_has ls 1 [(0, .ref r)] := hl
  have hL : zz_L (fun _ => False) ([] : List Loc) := zz_L.nil
  refine lv_aload_n hx hb d_Mo_marks_0 rfl (lv_at hl 0 rfl) ?_
  refine fg_Mo_37 hE hM.1 rfl d_Mo_marks_1 ?_
  refine lv_aload_n hx hb d_Mo_marks_4 rfl (lv_at hl 0 rfl) ?_
  refine fg_Mo_109 hE hM.1 rfl d_Mo_marks_5 ?_
  refine mo_ld hE hM 10 (by decide) (i := t) (show t < 7 by omega) d_Mo_marks_8 ?_
  exact zz_iret hx hb hr hlk rfl ⟨rfl, congrArg (fun z => some (Value.int z)) (rfl)⟩ hL d_Mo_marks_9

set_option maxHeartbeats 4000000 in
set_option maxRecDepth 100000 in
theorem k_Mo_mark (l : Launch) (D : va_G) (ca : Nat → ClassId) (r n t rs w : Nat) (A : Nat → Nat → Nat) (k0 f0 n0 d0 : Nat) (ht : t ≤ 6) (hm : A 10 t < 140) : Met l y_Mo_mark w_Mo_mark (zr 1 0 0) (zz_P D ca [.ref r, .int (nI k0), .int (nI f0), .int (nI n0), .int (nI d0)] (fun H => MoAt D ca H r n t rs w A)) (zz_Q (fun H H1 v => v = none ∧ zz_fr (moFr r) H H1 ∧ MoAt D ca H1 r n t rs w (up2 (up2 (up2 (up2 A 6 (A 10 t) k0) 7 (A 10 t) f0) 8 (A 10 t) n0) 9 (A 10 t) d0))) 0 0 (moFr r) := by
  refine zz_met (cc := c_Mo_mark) (by decide) (Nat.le_of_ble_eq_true rfl) ?_
  intro p e s m below meth c ls hE hr hlk hnm hM hl
  have hx := hE.1.1
  have hb := hE.1.2.1
  have hK := hE.2
  have hl : lv_has ls 6 [(0, .ref r), (1, .int (nI k0)), (2, .int (nI f0)), (3, .int (nI n0)), (4, .int (nI d0))] := hl
  have hL : zz_L (moFr r) ([] : List Loc) := zz_L.nil
  have hS : zz_fr (moFr r) s.heap s.heap := zz_fr.rf
  refine lv_aload_n hx hb d_Mo_mark_0 rfl (lv_at hl 0 rfl) ?_
  refine zz_callP (cl_Mo_112 (rest := []) hE (k_Mo_marks l D ca r n t rs w A (by omega)) ⟨rfl, rfl, by decide, by decide⟩ hM hM.1 rfl hl.1 rfl (Nat.le_of_ble_eq_true rfl) d_Mo_mark_1 ⟨by decide, by decide⟩) ?_
  refine lv_istore hx hb d_Mo_mark_4 hl (by decide) rfl (fun ls hl => ?_)
  have hl : lv_has ls 6 [(5, .int (nI (A 10 t))), (0, .ref r), (1, .int (nI k0)), (2, .int (nI f0)), (3, .int (nI n0)), (4, .int (nI d0))] := hl
  refine lv_aload_n hx hb d_Mo_mark_6 rfl (lv_at hl 1 rfl) ?_
  refine fg_Mo_25 hE hM.1 rfl d_Mo_mark_7 ?_
  refine lv_iload hx hb d_Mo_mark_10 (lv_at hl 0 rfl) ?_
  refine lv_iload_n hx hb d_Mo_mark_12 rfl (lv_at hl 2 rfl) ?_
  refine mo_st hE hM hS hL 6 (by decide) (i := A 10 t) (x := k0) (show A 10 t < 140 by omega) d_Mo_mark_13 (fun H locs hM hS hL => ?_)
  refine lv_aload_n hx hb d_Mo_mark_14 rfl (lv_at hl 1 rfl) ?_
  refine fg_Mo_28 hE hM.1 rfl d_Mo_mark_15 ?_
  refine lv_iload hx hb d_Mo_mark_18 (lv_at hl 0 rfl) ?_
  refine lv_iload_n hx hb d_Mo_mark_20 rfl (lv_at hl 3 rfl) ?_
  refine mo_st hE hM hS hL 7 (by decide) (i := A 10 t) (x := f0) (show A 10 t < 140 by omega) d_Mo_mark_21 (fun H locs hM hS hL => ?_)
  refine lv_aload_n hx hb d_Mo_mark_22 rfl (lv_at hl 1 rfl) ?_
  refine fg_Mo_31 hE hM.1 rfl d_Mo_mark_23 ?_
  refine lv_iload hx hb d_Mo_mark_26 (lv_at hl 0 rfl) ?_
  refine lv_iload_n hx hb d_Mo_mark_28 rfl (lv_at hl 4 rfl) ?_
  refine mo_st hE hM hS hL 8 (by decide) (i := A 10 t) (x := n0) (show A 10 t < 140 by omega) d_Mo_mark_29 (fun H locs hM hS hL => ?_)
  refine lv_aload_n hx hb d_Mo_mark_30 rfl (lv_at hl 1 rfl) ?_
  refine fg_Mo_34 hE hM.1 rfl d_Mo_mark_31 ?_
  refine lv_iload hx hb d_Mo_mark_34 (lv_at hl 0 rfl) ?_
  refine lv_iload hx hb d_Mo_mark_36 (lv_at hl 5 rfl) ?_
  refine mo_st hE hM hS hL 9 (by decide) (i := A 10 t) (x := d0) (show A 10 t < 140 by omega) d_Mo_mark_38 (fun H locs hM hS hL => ?_)
  exact zz_vret hx hb hr hlk ⟨rfl, hS, hM⟩ hL d_Mo_mark_39

set_option maxHeartbeats 4000000 in
set_option maxRecDepth 100000 in
theorem k_Mo_push (l : Launch) (D : va_G) (ca : Nat → ClassId) (r n t rs w : Nat) (A : Nat → Nat → Nat) (ht : t ≤ 5) : Met l y_Mo_push w_Mo_push (zr 1 0 0) (zz_P D ca [.ref r] (fun H => MoAt D ca H r n t rs w A)) (zz_Q (fun H H1 v => v = none ∧ zz_fr (moFr r) H H1 ∧ MoAt D ca H1 r n (t + 1) rs w (up2 A 10 (t + 1) (A 10 t + 1)))) 0 0 (moFr r) := by
  refine zz_met (cc := c_Mo_push) (by decide) (Nat.le_of_ble_eq_true rfl) ?_
  intro p e s m below meth c ls hE hr hlk hnm hM hl
  have hx := hE.1.1
  have hb := hE.1.2.1
  have hK := hE.2
  have hl : lv_has ls 2 [(0, .ref r)] := hl
  have hL : zz_L (moFr r) ([] : List Loc) := zz_L.nil
  have hS : zz_fr (moFr r) s.heap s.heap := zz_fr.rf
  refine lv_aload_n hx hb d_Mo_push_0 rfl (lv_at hl 0 rfl) ?_
  refine zz_callP (cl_Mo_112 (rest := []) hE (k_Mo_marks l D ca r n t rs w A (by omega)) ⟨rfl, rfl, by decide, by decide⟩ hM hM.1 rfl hl.1 rfl (Nat.le_of_ble_eq_true rfl) d_Mo_push_1 ⟨by decide, by decide⟩) ?_
  refine lv_iconst (v := nI 1) hx hb d_Mo_push_4 (by decide) ?_
  refine zz_iadd hx hb d_Mo_push_5 ?_
  refine lv_istore_n hx hb d_Mo_push_6 rfl hl (by decide) rfl (fun ls hl => ?_)
  have hl : lv_has ls 2 [(1, .int (nI ((A 10 t) + 1))), (0, .ref r)] := hl
  refine lv_aload_n hx hb d_Mo_push_7 rfl (lv_at hl 1 rfl) ?_
  refine lv_dup hx hb d_Mo_push_8 rfl ?_
  refine fg_Mo_109 hE hM.1 rfl d_Mo_push_9 ?_
  refine lv_iconst (v := nI 1) hx hb d_Mo_push_12 (by decide) ?_
  refine zz_iadd hx hb d_Mo_push_13 ?_
  refine fp_Mo_109 hE hM.1 hL (show moFr r r from ⟨by omega, by omega⟩) (Nat.le_of_ble_eq_true rfl) d_Mo_push_14 (fun H locs h1 hu hL => ?_)
  have hS := hS.up hu (show moFr r r from ⟨by omega, by omega⟩)
  have hM : MoAt D ca H r n (t + 1) rs w A := mo_fld hM h1 hu
  refine lv_aload_n hx hb d_Mo_push_17 rfl (lv_at hl 1 rfl) ?_
  refine fg_Mo_37 hE hM.1 rfl d_Mo_push_18 ?_
  refine lv_aload_n hx hb d_Mo_push_21 rfl (lv_at hl 1 rfl) ?_
  refine fg_Mo_109 hE hM.1 rfl d_Mo_push_22 ?_
  refine lv_iload_n hx hb d_Mo_push_25 rfl (lv_at hl 0 rfl) ?_
  refine mo_st hE hM hS hL 10 (by decide) (i := t + 1) (x := (A 10 t) + 1) (show t + 1 < 7 by omega) d_Mo_push_26 (fun H locs hM hS hL => ?_)
  exact zz_vret hx hb hr hlk ⟨rfl, hS, hM⟩ hL d_Mo_push_27

set_option maxHeartbeats 4000000 in
set_option maxRecDepth 100000 in
theorem k_Mo_leaves (l : Launch) (D : va_G) (ca : Nat → ClassId) (r n t rs w : Nat) (A : Nat → Nat → Nat) (fr to : Nat) (hto : to ≤ 140) (hfr : fr ≤ to) (hkd : ∀ j, j < 140 → A 6 j < 4) : Met l y_Mo_leaves w_Mo_leaves (zr 0 0 0) (zz_P D ca [.ref r, .int (nI fr), .int (nI to)] (fun H => MoAt D ca H r n t rs w A)) (zz_Q (fun H H1 v => H1 = H ∧ v = some (.int (nI (mLv A fr to))))) 0 0 (fun _ => False) := by
  refine zz_met (cc := c_Mo_leaves) (by decide) (Nat.le_of_ble_eq_true rfl) ?_
  intro p e s m below meth c ls hE hr hlk hnm hM hl
  have hx := hE.1.1
  have hb := hE.1.2.1
  have hK := hE.2
  have hl : lv_has ls 5 [(0, .ref r), (1, .int (nI fr)), (2, .int (nI to))] := hl
  have hL : zz_L (fun _ => False) ([] : List Loc) := zz_L.nil
  refine lv_iconst (v := nI 0) hx hb d_Mo_leaves_0 (by decide) ?_
  refine lv_istore_n hx hb d_Mo_leaves_1 rfl hl (by decide) rfl (fun ls hl => ?_)
  have hl : lv_has ls 5 [(3, .int (nI 0)), (0, .ref r), (1, .int (nI fr)), (2, .int (nI to))] := hl
  refine lv_iload_n hx hb d_Mo_leaves_2 rfl (lv_at hl 2 rfl) ?_
  refine lv_istore hx hb d_Mo_leaves_3 hl (by decide) rfl (fun ls hl => ?_)
  have hl : lv_has ls 5 [(4, .int (nI fr)), (3, .int (nI 0)), (0, .ref r), (1, .int (nI fr)), (2, .int (nI to))] := hl
  have hl : lv_has ls 5 [(0, .ref r), (1, .int (nI fr)), (2, .int (nI to)), (3, .int (nI (mLv A fr fr))), (4, .int (nI fr))] := (by rw [mLv_0 A fr fr (Nat.le_refl _)]; exact lv_sub hl [2, 3, 4, 1, 0] rfl)
  refine zz_loopP (σ := Nat) (fun k ls => lv_has ls 5 [(0, .ref r), (1, .int (nI fr)), (2, .int (nI to)), (3, .int (nI (mLv A fr k))), (4, .int (nI k))] ∧ fr ≤ k ∧ k ≤ to) (fun k => to - k) ?_ fr ls ⟨hl, Nat.le_refl _, hfr⟩
  rintro k ih ls ⟨hl, hk1, hk2⟩
  refine lv_iload hx hb d_Mo_leaves_5 (lv_at hl 4 rfl) ?_
  refine lv_iload_n hx hb d_Mo_leaves_7 rfl (lv_at hl 2 rfl) ?_
  refine zz_ge hx hb (by omega) (by omega) d_Mo_leaves_8 (tgt := 36) rfl (fun hT8 => ?_) (fun hF8 => ?_)
  · refine lv_iload_n hx hb d_Mo_leaves_36 rfl (lv_at hl 3 rfl) ?_
    exact zz_iret hx hb hr hlk rfl ⟨rfl, congrArg (fun z => some (Value.int z)) (by rw [show k = to by omega])⟩ hL d_Mo_leaves_37
  · refine lv_iload_n hx hb d_Mo_leaves_11 rfl (lv_at hl 3 rfl) ?_
    have hkd1 := hkd k (by omega)
    refine lv_aload_n hx hb d_Mo_leaves_12 rfl (lv_at hl 0 rfl) ?_
    refine fg_Mo_25 hE hM.1 rfl d_Mo_leaves_13 ?_
    refine lv_iload hx hb d_Mo_leaves_16 (lv_at hl 4 rfl) ?_
    refine mo_ld hE hM 6 (by decide) (i := k) (show k < 140 by omega) d_Mo_leaves_18 ?_
    refine lv_iconst (v := nI 2) hx hb d_Mo_leaves_19 (by decide) ?_
    refine zz_ge hx hb (by omega) (by omega) d_Mo_leaves_20 (tgt := 27) rfl (fun hT20 => ?_) (fun hF20 => ?_)
    · refine lv_iconst (v := nI 0) hx hb d_Mo_leaves_27 (by decide) ?_
      refine zz_iadd hx hb d_Mo_leaves_28 ?_
      refine lv_istore_n hx hb d_Mo_leaves_29 rfl hl (by decide) rfl (fun ls hl => ?_)
      have hl : lv_has ls 5 [(3, .int (nI ((mLv A fr k) + 0))), (0, .ref r), (1, .int (nI fr)), (2, .int (nI to)), (4, .int (nI k))] := hl
      refine lv_iinc (k := 4) (v := nI (k + 1)) hx hb d_Mo_leaves_30 hl rfl (zz_inc _) (by decide) rfl (fun ls hl => ?_)
      have hl : lv_has ls 5 [(4, .int (nI (k + 1))), (3, .int (nI ((mLv A fr k) + 0))), (0, .ref r), (1, .int (nI fr)), (2, .int (nI to))] := hl
      refine lv_goto hx hb d_Mo_leaves_33 (tgt := 5) rfl ?_
      have hl : lv_has ls 5 [(0, .ref r), (1, .int (nI fr)), (2, .int (nI to)), (3, .int (nI (mLv A fr (k + 1)))), (4, .int (nI (k + 1)))] := (by rw [show mLv A fr (k + 1) = mLv A fr k + 0 from by rw [mLv_s A hk1]; simp; omega]; exact lv_sub hl [2, 3, 4, 1, 0] rfl)
      exact ih (k + 1) ls ⟨hl, by omega, by omega⟩ (by omega)
    · refine lv_iconst (v := nI 1) hx hb d_Mo_leaves_23 (by decide) ?_
      refine lv_goto hx hb d_Mo_leaves_24 (tgt := 28) rfl ?_
      refine zz_iadd hx hb d_Mo_leaves_28 ?_
      refine lv_istore_n hx hb d_Mo_leaves_29 rfl hl (by decide) rfl (fun ls hl => ?_)
      have hl : lv_has ls 5 [(3, .int (nI ((mLv A fr k) + 1))), (0, .ref r), (1, .int (nI fr)), (2, .int (nI to)), (4, .int (nI k))] := hl
      refine lv_iinc (k := 4) (v := nI (k + 1)) hx hb d_Mo_leaves_30 hl rfl (zz_inc _) (by decide) rfl (fun ls hl => ?_)
      have hl : lv_has ls 5 [(4, .int (nI (k + 1))), (3, .int (nI ((mLv A fr k) + 1))), (0, .ref r), (1, .int (nI fr)), (2, .int (nI to))] := hl
      refine lv_goto hx hb d_Mo_leaves_33 (tgt := 5) rfl ?_
      have hl : lv_has ls 5 [(0, .ref r), (1, .int (nI fr)), (2, .int (nI to)), (3, .int (nI (mLv A fr (k + 1)))), (4, .int (nI (k + 1)))] := (by rw [show mLv A fr (k + 1) = mLv A fr k + 1 from by rw [mLv_s A hk1]; simp; omega]; exact lv_sub hl [2, 3, 4, 1, 0] rfl)
      exact ih (k + 1) ls ⟨hl, by omega, by omega⟩ (by omega)

set_option maxHeartbeats 4000000 in
set_option maxRecDepth 100000 in
theorem k_Mo_distance (l : Launch) (D : va_G) (ca : Nat → ClassId) (r n t rs w : Nat) (A : Nat → Nat → Nat) (hs0 : A 4 0 ≤ 12) (hs1 : A 4 1 ≤ 12) (hc : ∀ j, j < 24 → A 3 j < 256) : Met l y_Mo_distance w_Mo_distance (zr 1 0 0) (zz_P D ca [.ref r] (fun H => MoAt D ca H r n t rs w A)) (zz_Q (fun H H1 v => v = some (.int (nI (dst (mAt A 0) (mAt A 1) (A 4 0) (A 4 1)))) ∧ zz_fr (moFr r) H H1 ∧ ∃ B, MoAt D ca H1 r n t rs w B ∧ (∀ k, k ≠ 5 → B k = A k))) 0 0 (moFr r) := by
  refine zz_met (cc := c_Mo_distance) (by decide) (Nat.le_of_ble_eq_true rfl) ?_
  intro p e s m below meth c ls hE hr hlk hnm hM hl
  have hx := hE.1.1
  have hb := hE.1.2.1
  have hK := hE.2
  have hl : lv_has ls 6 [(0, .ref r)] := hl
  have hL : zz_L (moFr r) ([] : List Loc) := zz_L.nil
  have hS : zz_fr (moFr r) s.heap s.heap := zz_fr.rf
  refine lv_iconst (v := nI 0) hx hb d_Mo_distance_0 (by decide) ?_
  refine lv_istore_n hx hb d_Mo_distance_1 rfl hl (by decide) rfl (fun ls hl => ?_)
  have hl : lv_has ls 6 [(1, .int (nI 0)), (0, .ref r)] := hl
  have hl : lv_has ls 6 [(0, .ref r), (1, .int (nI 0))] := lv_sub hl [1, 0] rfl
  refine zz_loopH (σ := Nat × (Nat → Nat → Nat)) (fun ⟨i, B⟩ ls H locs => lv_has ls 6 [(0, .ref r), (1, .int (nI i))] ∧ i ≤ A 4 0 + 1 ∧ MoAt D ca H r n t rs w B ∧ (∀ k, k ≠ 5 → B k = A k) ∧ (∀ a b, a < i → b ≤ A 4 1 → B 5 (13 * a + b) = dst (mAt A 0) (mAt A 1) a b) ∧ zz_fr (moFr r) s.heap H ∧ zz_L (moFr r) locs) (fun ⟨i, B⟩ => A 4 0 + 1 - i) ?_ (0, A) ls _ _ ⟨hl, Nat.zero_le _, hM, fun _ _ => rfl, fun a b ha => absurd ha (Nat.not_lt_zero _), hS, hL⟩
  rintro ⟨i, B⟩ ih ls H locs ⟨hl, hi, hM, hk, hrw, hS, hL⟩
  have iho := ih
  have hB4 : ∀ x, B 4 x = A 4 x := fun x => congrFun (hk 4 (by decide)) x
  have hB3 : ∀ x, B 3 x = A 3 x := fun x => congrFun (hk 3 (by decide)) x
  have hBm : ∀ a b, mAt B a b = mAt A a b := fun a b => by unfold mAt; rw [hB4, hB3]
  have h40 := hB4 0
  have h41 := hB4 1
  refine lv_iload_n hx hb d_Mo_distance_2 rfl (lv_at hl 1 rfl) ?_
  refine lv_aload_n hx hb d_Mo_distance_3 rfl (lv_at hl 0 rfl) ?_
  refine fg_Mo_19 hE hM.1 rfl d_Mo_distance_4 ?_
  refine lv_iconst (v := nI 0) hx hb d_Mo_distance_7 (by decide) ?_
  refine mo_ld hE hM 4 (by decide) (i := 0) (show 0 < 2 by omega) d_Mo_distance_8 ?_
  refine zz_gt hx hb (by omega) (by omega) d_Mo_distance_9 (tgt := 173) rfl (fun hT9 => ?_) (fun hF9 => ?_)
  · refine lv_aload_n hx hb d_Mo_distance_173 rfl (lv_at hl 0 rfl) ?_
    refine fg_Mo_22 hE hM.1 rfl d_Mo_distance_174 ?_
    refine lv_bipush (v := nI 13) hx hb d_Mo_distance_177 (by decide) ?_
    refine lv_aload_n hx hb d_Mo_distance_179 rfl (lv_at hl 0 rfl) ?_
    refine fg_Mo_19 hE hM.1 rfl d_Mo_distance_180 ?_
    refine lv_iconst (v := nI 0) hx hb d_Mo_distance_183 (by decide) ?_
    refine mo_ld hE hM 4 (by decide) (i := 0) (show 0 < 2 by omega) d_Mo_distance_184 ?_
    refine zz_imul hx hb d_Mo_distance_185 ?_
    refine lv_aload_n hx hb d_Mo_distance_186 rfl (lv_at hl 0 rfl) ?_
    refine fg_Mo_19 hE hM.1 rfl d_Mo_distance_187 ?_
    refine lv_iconst (v := nI 1) hx hb d_Mo_distance_190 (by decide) ?_
    refine mo_ld hE hM 4 (by decide) (i := 1) (show 1 < 2 by omega) d_Mo_distance_191 ?_
    refine zz_iadd hx hb d_Mo_distance_192 ?_
    refine mo_ld hE hM 5 (by decide) (i := (13 * (B 4 0)) + (B 4 1)) (show (13 * (B 4 0)) + (B 4 1) < 169 by omega) d_Mo_distance_193 ?_
    have hfin : B 5 (13 * B 4 0 + B 4 1) = dst (mAt A 0) (mAt A 1) (A 4 0) (A 4 1) := by rw [h40, h41]; exact hrw _ _ (by omega) (by omega)
    exact zz_iret hx hb hr hlk rfl ⟨congrArg (fun z => some (Value.int (nI z))) (by simpa using hfin), hS, _, hM, hk⟩ hL d_Mo_distance_194
  · refine lv_iconst (v := nI 0) hx hb d_Mo_distance_12 (by decide) ?_
    refine lv_istore_n hx hb d_Mo_distance_13 rfl hl (by decide) rfl (fun ls hl => ?_)
    have hl : lv_has ls 6 [(2, .int (nI 0)), (0, .ref r), (1, .int (nI i))] := hl
    have hl : lv_has ls 6 [(0, .ref r), (1, .int (nI i)), (2, .int (nI 0))] := lv_sub hl [1, 2, 0] rfl
    refine zz_loopH (σ := Nat × (Nat → Nat → Nat)) (fun ⟨j, B⟩ ls H locs => lv_has ls 6 [(0, .ref r), (1, .int (nI i)), (2, .int (nI j))] ∧ j ≤ A 4 1 + 1 ∧ MoAt D ca H r n t rs w B ∧ (∀ k, k ≠ 5 → B k = A k) ∧ (∀ a b, a < i → b ≤ A 4 1 → B 5 (13 * a + b) = dst (mAt A 0) (mAt A 1) a b) ∧ (∀ b, b < j → B 5 (13 * i + b) = dst (mAt A 0) (mAt A 1) i b) ∧ zz_fr (moFr r) s.heap H ∧ zz_L (moFr r) locs) (fun ⟨j, B⟩ => A 4 1 + 1 - j) ?_ (0, B) ls _ _ ⟨hl, Nat.zero_le _, hM, hk, hrw, fun b hb9 => absurd hb9 (Nat.not_lt_zero _), hS, hL⟩
    rintro ⟨j, B⟩ ih ls H locs ⟨hl, hj, hM, hk, hrw, hcl, hS, hL⟩
    have hB4 : ∀ x, B 4 x = A 4 x := fun x => congrFun (hk 4 (by decide)) x
    have hB3 : ∀ x, B 3 x = A 3 x := fun x => congrFun (hk 3 (by decide)) x
    have hBm : ∀ a b, mAt B a b = mAt A a b := fun a b => by unfold mAt; rw [hB4, hB3]
    have h40 := hB4 0
    have h41 := hB4 1
    refine lv_iload_n hx hb d_Mo_distance_14 rfl (lv_at hl 2 rfl) ?_
    refine lv_aload_n hx hb d_Mo_distance_15 rfl (lv_at hl 0 rfl) ?_
    refine fg_Mo_19 hE hM.1 rfl d_Mo_distance_16 ?_
    refine lv_iconst (v := nI 1) hx hb d_Mo_distance_19 (by decide) ?_
    refine mo_ld hE hM 4 (by decide) (i := 1) (show 1 < 2 by omega) d_Mo_distance_20 ?_
    refine zz_gt hx hb (by omega) (by omega) d_Mo_distance_21 (tgt := 167) rfl (fun hT21 => ?_) (fun hF21 => ?_)
    · refine lv_iinc (k := 1) (v := nI (i + 1)) hx hb d_Mo_distance_167 hl rfl (zz_inc _) (by decide) rfl (fun ls hl => ?_)
      have hl : lv_has ls 6 [(1, .int (nI (i + 1))), (0, .ref r), (2, .int (nI j))] := hl
      refine lv_goto hx hb d_Mo_distance_170 (tgt := 2) rfl ?_
      have hrw9 : (∀ a b, a < (i + 1) → b ≤ A 4 1 → B 5 (13 * a + b) = dst (mAt A 0) (mAt A 1) a b) := fun a b ha hb9 => by
        by_cases hai : a = i
        · subst hai; exact hcl b (by omega)
        · exact hrw a b (by omega) hb9
      have hl : lv_has ls 6 [(0, .ref r), (1, .int (nI (i + 1)))] := lv_sub hl [1, 0] rfl
      exact iho (i + 1, B) ls _ _ ⟨hl, by omega, hM, hk, hrw9, hS, hL⟩ (by show _ - (i + 1) < _ - i; omega)
    · refine lv_iload_n hx hb d_Mo_distance_24 rfl (lv_at hl 1 rfl) ?_
      refine zz_ne0 hx hb (by omega) d_Mo_distance_25 (tgt := 32) rfl (fun hT25 => ?_) (fun hF25 => ?_)
      · refine lv_iload_n hx hb d_Mo_distance_32 rfl (lv_at hl 2 rfl) ?_
        refine zz_ne0 hx hb (by omega) d_Mo_distance_33 (tgt := 40) rfl (fun hT33 => ?_) (fun hF33 => ?_)
        · have r1 : B 5 (13 * (i - 1) + j - 1) = dst (mAt A 0) (mAt A 1) (i - 1) (j - 1) := by rw [show 13 * (i - 1) + j - 1 = 13 * (i - 1) + (j - 1) by omega]; exact hrw _ _ (by omega) (by omega)
          have r2 : B 5 (13 * (i - 1) + j) = dst (mAt A 0) (mAt A 1) (i - 1) j := hrw _ _ (by omega) (by omega)
          have r3 : B 5 (13 * i + j - 1) = dst (mAt A 0) (mAt A 1) i (j - 1) := by rw [show 13 * i + j - 1 = 13 * i + (j - 1) by omega]; exact hcl _ (by omega)
          have q1 := dst_le (mAt A 0) (mAt A 1) (i - 1) (j - 1)
          have q2 := dst_le (mAt A 0) (mAt A 1) (i - 1) j
          have q3 := dst_le (mAt A 0) (mAt A 1) i (j - 1)
          have m1 := mAt_lt (i := i - 1) hc (show 0 ≤ 1 by decide) hs0
          have m2 := mAt_lt (i := j - 1) hc (show 1 ≤ 1 by decide) hs1
          have m3 := hBm 0 (i - 1)
          have m4 := hBm 1 (j - 1)
          have hd := dst_ss (mAt A 0) (mAt A 1) (i - 1) (j - 1)
          rw [show i - 1 + 1 = i by omega, show j - 1 + 1 = j by omega] at hd
          refine lv_aload_n hx hb d_Mo_distance_40 rfl (lv_at hl 0 rfl) ?_
          refine fg_Mo_22 hE hM.1 rfl d_Mo_distance_41 ?_
          refine lv_bipush (v := nI 13) hx hb d_Mo_distance_44 (by decide) ?_
          refine lv_iload_n hx hb d_Mo_distance_46 rfl (lv_at hl 1 rfl) ?_
          refine lv_iconst (v := nI 1) hx hb d_Mo_distance_47 (by decide) ?_
          refine zz_isub (by omega) hx hb d_Mo_distance_48 ?_
          refine zz_imul hx hb d_Mo_distance_49 ?_
          refine lv_iload_n hx hb d_Mo_distance_50 rfl (lv_at hl 2 rfl) ?_
          refine zz_iadd hx hb d_Mo_distance_51 ?_
          refine lv_iconst (v := nI 1) hx hb d_Mo_distance_52 (by decide) ?_
          refine zz_isub (by omega) hx hb d_Mo_distance_53 ?_
          refine mo_ld hE hM 5 (by decide) (i := ((13 * (i - 1)) + j) - 1) (show ((13 * (i - 1)) + j) - 1 < 169 by omega) d_Mo_distance_54 ?_
          refine lv_aload_n hx hb d_Mo_distance_55 rfl (lv_at hl 0 rfl) ?_
          refine lv_iconst (v := nI 0) hx hb d_Mo_distance_56 (by decide) ?_
          refine lv_iload_n hx hb d_Mo_distance_57 rfl (lv_at hl 1 rfl) ?_
          refine lv_iconst (v := nI 1) hx hb d_Mo_distance_58 (by decide) ?_
          refine zz_isub (by omega) hx hb d_Mo_distance_59 ?_
          refine zz_callP (cl_Mo_80 (rest := [.int (nI (B 5 (((13 * (i - 1)) + j) - 1)))]) hE (k_Mo_at l D ca r n t rs w B 0 (i - 1) (by omega) (by omega) (by omega)) ⟨rfl, rfl, by decide, by decide⟩ hM hM.1 rfl hl.1 rfl (Nat.le_of_ble_eq_true rfl) d_Mo_distance_60 ⟨by decide, by decide⟩) ?_
          refine lv_aload_n hx hb d_Mo_distance_63 rfl (lv_at hl 0 rfl) ?_
          refine lv_iconst (v := nI 1) hx hb d_Mo_distance_64 (by decide) ?_
          refine lv_iload_n hx hb d_Mo_distance_65 rfl (lv_at hl 2 rfl) ?_
          refine lv_iconst (v := nI 1) hx hb d_Mo_distance_66 (by decide) ?_
          refine zz_isub (by omega) hx hb d_Mo_distance_67 ?_
          refine zz_callP (cl_Mo_80 (rest := [.int (nI (mAt B 0 (i - 1))), .int (nI (B 5 (((13 * (i - 1)) + j) - 1)))]) hE (k_Mo_at l D ca r n t rs w B 1 (j - 1) (by omega) (by omega) (by omega)) ⟨rfl, rfl, by decide, by decide⟩ hM hM.1 rfl hl.1 rfl (Nat.le_of_ble_eq_true rfl) d_Mo_distance_68 ⟨by decide, by decide⟩) ?_
          refine zz_ne hx hb (by omega) (by omega) d_Mo_distance_71 (tgt := 78) rfl (fun hT71 => ?_) (fun hF71 => ?_)
          · refine lv_iconst (v := nI 1) hx hb d_Mo_distance_78 (by decide) ?_
            refine zz_iadd hx hb d_Mo_distance_79 ?_
            refine lv_istore_n hx hb d_Mo_distance_80 rfl hl (by decide) rfl (fun ls hl => ?_)
            have hl : lv_has ls 6 [(3, .int (nI ((B 5 (((13 * (i - 1)) + j) - 1)) + 1))), (0, .ref r), (1, .int (nI i)), (2, .int (nI j))] := hl
            refine lv_iload_n hx hb d_Mo_distance_81 rfl (lv_at hl 2 rfl) ?_
            refine zz_le0 hx hb (by omega) d_Mo_distance_82 (tgt := 149) rfl (fun hT82 => ?_) (fun hF82 => ?_)
            · refine lv_aload_n hx hb d_Mo_distance_149 rfl (lv_at hl 1 rfl) ?_
              refine fg_Mo_22 hE hM.1 rfl d_Mo_distance_150 ?_
              refine lv_bipush (v := nI 13) hx hb d_Mo_distance_153 (by decide) ?_
              refine lv_iload_n hx hb d_Mo_distance_155 rfl (lv_at hl 2 rfl) ?_
              refine zz_imul hx hb d_Mo_distance_156 ?_
              refine lv_iload_n hx hb d_Mo_distance_157 rfl (lv_at hl 3 rfl) ?_
              refine zz_iadd hx hb d_Mo_distance_158 ?_
              refine lv_iload_n hx hb d_Mo_distance_159 rfl (lv_at hl 0 rfl) ?_
              refine mo_st hE hM hS hL 5 (by decide) (i := (13 * i) + j) (x := (B 5 (((13 * (i - 1)) + j) - 1)) + 1) (show (13 * i) + j < 169 by omega) d_Mo_distance_160 (fun H locs hM hS hL => ?_)
              refine lv_iinc (k := 3) (v := nI (j + 1)) hx hb d_Mo_distance_161 hl rfl (zz_inc _) (by decide) rfl (fun ls hl => ?_)
              have hl : lv_has ls 6 [(2, .int (nI (j + 1))), (3, .int (nI ((B 5 (((13 * (i - 1)) + j) - 1)) + 1))), (0, .ref r), (1, .int (nI i))] := hl
              refine lv_goto hx hb d_Mo_distance_164 (tgt := 14) rfl ?_
              have hval : (B 5 (((13 * (i - 1)) + j) - 1)) + 1 = dst (mAt A 0) (mAt A 1) i j := by
                first
                  | (rw [show i = 0 by omega, dst_0]; done)
                  | (rw [show j = 0 by omega, dst_s0]; done)
                  | (rw [hd]; split <;> omega)
                  | omega
              have hk9 : ∀ k, k ≠ 5 → (up2 B 5 ((13 * i) + j) ((B 5 (((13 * (i - 1)) + j) - 1)) + 1)) k = A k := fun k h5 => by funext x; rw [up2_k h5, hk k h5]
              have hrw9 : (∀ a b, a < i → b ≤ A 4 1 → (up2 B 5 ((13 * i) + j) ((B 5 (((13 * (i - 1)) + j) - 1)) + 1)) 5 (13 * a + b) = dst (mAt A 0) (mAt A 1) a b) := fun a b ha hb9 => by rw [up2_i (by omega)]; exact hrw a b ha hb9
              have hcl9 : (∀ b, b < (j + 1) → (up2 B 5 ((13 * i) + j) ((B 5 (((13 * (i - 1)) + j) - 1)) + 1)) 5 (13 * i + b) = dst (mAt A 0) (mAt A 1) i b) := fun b hb9 => by
                by_cases hbj : b = j
                · subst hbj; rw [up2_s]; exact hval
                · rw [up2_i (by omega)]; exact hcl b (by omega)
              have hl : lv_has ls 6 [(0, .ref r), (1, .int (nI i)), (2, .int (nI (j + 1)))] := lv_sub hl [2, 3, 0] rfl
              exact ih (j + 1, (up2 B 5 ((13 * i) + j) ((B 5 (((13 * (i - 1)) + j) - 1)) + 1))) ls _ _ ⟨hl, by omega, hM, hk9, hrw9, hcl9, hS, hL⟩ (by show _ - (j + 1) < _ - j; omega)
            · refine lv_iload_n hx hb d_Mo_distance_85 rfl (lv_at hl 3 rfl) ?_
              refine zz_le0 hx hb (by omega) d_Mo_distance_86 (tgt := 149) rfl (fun hT86 => ?_) (fun hF86 => ?_)
              · refine lv_aload_n hx hb d_Mo_distance_149 rfl (lv_at hl 1 rfl) ?_
                refine fg_Mo_22 hE hM.1 rfl d_Mo_distance_150 ?_
                refine lv_bipush (v := nI 13) hx hb d_Mo_distance_153 (by decide) ?_
                refine lv_iload_n hx hb d_Mo_distance_155 rfl (lv_at hl 2 rfl) ?_
                refine zz_imul hx hb d_Mo_distance_156 ?_
                refine lv_iload_n hx hb d_Mo_distance_157 rfl (lv_at hl 3 rfl) ?_
                refine zz_iadd hx hb d_Mo_distance_158 ?_
                refine lv_iload_n hx hb d_Mo_distance_159 rfl (lv_at hl 0 rfl) ?_
                refine mo_st hE hM hS hL 5 (by decide) (i := (13 * i) + j) (x := (B 5 (((13 * (i - 1)) + j) - 1)) + 1) (show (13 * i) + j < 169 by omega) d_Mo_distance_160 (fun H locs hM hS hL => ?_)
                refine lv_iinc (k := 3) (v := nI (j + 1)) hx hb d_Mo_distance_161 hl rfl (zz_inc _) (by decide) rfl (fun ls hl => ?_)
                have hl : lv_has ls 6 [(2, .int (nI (j + 1))), (3, .int (nI ((B 5 (((13 * (i - 1)) + j) - 1)) + 1))), (0, .ref r), (1, .int (nI i))] := hl
                refine lv_goto hx hb d_Mo_distance_164 (tgt := 14) rfl ?_
                have hval : (B 5 (((13 * (i - 1)) + j) - 1)) + 1 = dst (mAt A 0) (mAt A 1) i j := by
                  first
                    | (rw [show i = 0 by omega, dst_0]; done)
                    | (rw [show j = 0 by omega, dst_s0]; done)
                    | (rw [hd]; split <;> omega)
                    | omega
                have hk9 : ∀ k, k ≠ 5 → (up2 B 5 ((13 * i) + j) ((B 5 (((13 * (i - 1)) + j) - 1)) + 1)) k = A k := fun k h5 => by funext x; rw [up2_k h5, hk k h5]
                have hrw9 : (∀ a b, a < i → b ≤ A 4 1 → (up2 B 5 ((13 * i) + j) ((B 5 (((13 * (i - 1)) + j) - 1)) + 1)) 5 (13 * a + b) = dst (mAt A 0) (mAt A 1) a b) := fun a b ha hb9 => by rw [up2_i (by omega)]; exact hrw a b ha hb9
                have hcl9 : (∀ b, b < (j + 1) → (up2 B 5 ((13 * i) + j) ((B 5 (((13 * (i - 1)) + j) - 1)) + 1)) 5 (13 * i + b) = dst (mAt A 0) (mAt A 1) i b) := fun b hb9 => by
                  by_cases hbj : b = j
                  · subst hbj; rw [up2_s]; exact hval
                  · rw [up2_i (by omega)]; exact hcl b (by omega)
                have hl : lv_has ls 6 [(0, .ref r), (1, .int (nI i)), (2, .int (nI (j + 1)))] := lv_sub hl [2, 3, 0] rfl
                exact ih (j + 1, (up2 B 5 ((13 * i) + j) ((B 5 (((13 * (i - 1)) + j) - 1)) + 1))) ls _ _ ⟨hl, by omega, hM, hk9, hrw9, hcl9, hS, hL⟩ (by show _ - (j + 1) < _ - j; omega)
              · refine lv_aload_n hx hb d_Mo_distance_89 rfl (lv_at hl 1 rfl) ?_
                refine fg_Mo_22 hE hM.1 rfl d_Mo_distance_90 ?_
                refine lv_bipush (v := nI 13) hx hb d_Mo_distance_93 (by decide) ?_
                refine lv_iload_n hx hb d_Mo_distance_95 rfl (lv_at hl 2 rfl) ?_
                refine lv_iconst (v := nI 1) hx hb d_Mo_distance_96 (by decide) ?_
                refine zz_isub (by omega) hx hb d_Mo_distance_97 ?_
                refine zz_imul hx hb d_Mo_distance_98 ?_
                refine lv_iload_n hx hb d_Mo_distance_99 rfl (lv_at hl 3 rfl) ?_
                refine zz_iadd hx hb d_Mo_distance_100 ?_
                refine mo_ld hE hM 5 (by decide) (i := (13 * (i - 1)) + j) (show (13 * (i - 1)) + j < 169 by omega) d_Mo_distance_101 ?_
                refine lv_iconst (v := nI 1) hx hb d_Mo_distance_102 (by decide) ?_
                refine zz_iadd hx hb d_Mo_distance_103 ?_
                refine lv_istore hx hb d_Mo_distance_104 hl (by decide) rfl (fun ls hl => ?_)
                have hl : lv_has ls 6 [(4, .int (nI ((B 5 ((13 * (i - 1)) + j)) + 1))), (3, .int (nI ((B 5 (((13 * (i - 1)) + j) - 1)) + 1))), (0, .ref r), (1, .int (nI i)), (2, .int (nI j))] := hl
                refine lv_aload_n hx hb d_Mo_distance_106 rfl (lv_at hl 2 rfl) ?_
                refine fg_Mo_22 hE hM.1 rfl d_Mo_distance_107 ?_
                refine lv_bipush (v := nI 13) hx hb d_Mo_distance_110 (by decide) ?_
                refine lv_iload_n hx hb d_Mo_distance_112 rfl (lv_at hl 3 rfl) ?_
                refine zz_imul hx hb d_Mo_distance_113 ?_
                refine lv_iload_n hx hb d_Mo_distance_114 rfl (lv_at hl 4 rfl) ?_
                refine zz_iadd hx hb d_Mo_distance_115 ?_
                refine lv_iconst (v := nI 1) hx hb d_Mo_distance_116 (by decide) ?_
                refine zz_isub (by omega) hx hb d_Mo_distance_117 ?_
                refine mo_ld hE hM 5 (by decide) (i := ((13 * i) + j) - 1) (show ((13 * i) + j) - 1 < 169 by omega) d_Mo_distance_118 ?_
                refine lv_iconst (v := nI 1) hx hb d_Mo_distance_119 (by decide) ?_
                refine zz_iadd hx hb d_Mo_distance_120 ?_
                refine lv_istore hx hb d_Mo_distance_121 hl (by decide) rfl (fun ls hl => ?_)
                have hl : lv_has ls 6 [(5, .int (nI ((B 5 (((13 * i) + j) - 1)) + 1))), (4, .int (nI ((B 5 ((13 * (i - 1)) + j)) + 1))), (3, .int (nI ((B 5 (((13 * (i - 1)) + j) - 1)) + 1))), (0, .ref r), (1, .int (nI i)), (2, .int (nI j))] := hl
                refine lv_iload hx hb d_Mo_distance_123 (lv_at hl 1 rfl) ?_
                refine lv_iload_n hx hb d_Mo_distance_125 rfl (lv_at hl 2 rfl) ?_
                refine zz_ge hx hb (by omega) (by omega) d_Mo_distance_126 (tgt := 134) rfl (fun hT126 => ?_) (fun hF126 => ?_)
                · refine lv_iload_n hx hb d_Mo_distance_134 rfl (lv_at hl 2 rfl) ?_
                  refine lv_istore_n hx hb d_Mo_distance_135 rfl hl (by decide) rfl (fun ls hl => ?_)
                  have hl : lv_has ls 6 [(3, .int (nI ((B 5 (((13 * (i - 1)) + j) - 1)) + 1))), (5, .int (nI ((B 5 (((13 * i) + j) - 1)) + 1))), (4, .int (nI ((B 5 ((13 * (i - 1)) + j)) + 1))), (0, .ref r), (1, .int (nI i)), (2, .int (nI j))] := hl
                  refine lv_iload hx hb d_Mo_distance_136 (lv_at hl 1 rfl) ?_
                  refine lv_iload_n hx hb d_Mo_distance_138 rfl (lv_at hl 0 rfl) ?_
                  refine zz_ge hx hb (by omega) (by omega) d_Mo_distance_139 (tgt := 147) rfl (fun hT139 => ?_) (fun hF139 => ?_)
                  · refine lv_iload_n hx hb d_Mo_distance_147 rfl (lv_at hl 0 rfl) ?_
                    refine lv_istore_n hx hb d_Mo_distance_148 rfl hl (by decide) rfl (fun ls hl => ?_)
                    have hl : lv_has ls 6 [(3, .int (nI ((B 5 (((13 * (i - 1)) + j) - 1)) + 1))), (5, .int (nI ((B 5 (((13 * i) + j) - 1)) + 1))), (4, .int (nI ((B 5 ((13 * (i - 1)) + j)) + 1))), (0, .ref r), (1, .int (nI i)), (2, .int (nI j))] := hl
                    refine lv_aload_n hx hb d_Mo_distance_149 rfl (lv_at hl 3 rfl) ?_
                    refine fg_Mo_22 hE hM.1 rfl d_Mo_distance_150 ?_
                    refine lv_bipush (v := nI 13) hx hb d_Mo_distance_153 (by decide) ?_
                    refine lv_iload_n hx hb d_Mo_distance_155 rfl (lv_at hl 4 rfl) ?_
                    refine zz_imul hx hb d_Mo_distance_156 ?_
                    refine lv_iload_n hx hb d_Mo_distance_157 rfl (lv_at hl 5 rfl) ?_
                    refine zz_iadd hx hb d_Mo_distance_158 ?_
                    refine lv_iload_n hx hb d_Mo_distance_159 rfl (lv_at hl 0 rfl) ?_
                    refine mo_st hE hM hS hL 5 (by decide) (i := (13 * i) + j) (x := (B 5 (((13 * (i - 1)) + j) - 1)) + 1) (show (13 * i) + j < 169 by omega) d_Mo_distance_160 (fun H locs hM hS hL => ?_)
                    refine lv_iinc (k := 5) (v := nI (j + 1)) hx hb d_Mo_distance_161 hl rfl (zz_inc _) (by decide) rfl (fun ls hl => ?_)
                    have hl : lv_has ls 6 [(2, .int (nI (j + 1))), (3, .int (nI ((B 5 (((13 * (i - 1)) + j) - 1)) + 1))), (5, .int (nI ((B 5 (((13 * i) + j) - 1)) + 1))), (4, .int (nI ((B 5 ((13 * (i - 1)) + j)) + 1))), (0, .ref r), (1, .int (nI i))] := hl
                    refine lv_goto hx hb d_Mo_distance_164 (tgt := 14) rfl ?_
                    have hval : (B 5 (((13 * (i - 1)) + j) - 1)) + 1 = dst (mAt A 0) (mAt A 1) i j := by
                      first
                        | (rw [show i = 0 by omega, dst_0]; done)
                        | (rw [show j = 0 by omega, dst_s0]; done)
                        | (rw [hd]; split <;> omega)
                        | omega
                    have hk9 : ∀ k, k ≠ 5 → (up2 B 5 ((13 * i) + j) ((B 5 (((13 * (i - 1)) + j) - 1)) + 1)) k = A k := fun k h5 => by funext x; rw [up2_k h5, hk k h5]
                    have hrw9 : (∀ a b, a < i → b ≤ A 4 1 → (up2 B 5 ((13 * i) + j) ((B 5 (((13 * (i - 1)) + j) - 1)) + 1)) 5 (13 * a + b) = dst (mAt A 0) (mAt A 1) a b) := fun a b ha hb9 => by rw [up2_i (by omega)]; exact hrw a b ha hb9
                    have hcl9 : (∀ b, b < (j + 1) → (up2 B 5 ((13 * i) + j) ((B 5 (((13 * (i - 1)) + j) - 1)) + 1)) 5 (13 * i + b) = dst (mAt A 0) (mAt A 1) i b) := fun b hb9 => by
                      by_cases hbj : b = j
                      · subst hbj; rw [up2_s]; exact hval
                      · rw [up2_i (by omega)]; exact hcl b (by omega)
                    have hl : lv_has ls 6 [(0, .ref r), (1, .int (nI i)), (2, .int (nI (j + 1)))] := lv_sub hl [4, 5, 0] rfl
                    exact ih (j + 1, (up2 B 5 ((13 * i) + j) ((B 5 (((13 * (i - 1)) + j) - 1)) + 1))) ls _ _ ⟨hl, by omega, hM, hk9, hrw9, hcl9, hS, hL⟩ (by show _ - (j + 1) < _ - j; omega)
                  · refine lv_iload hx hb d_Mo_distance_142 (lv_at hl 1 rfl) ?_
                    refine lv_goto hx hb d_Mo_distance_144 (tgt := 148) rfl ?_
                    refine lv_istore_n hx hb d_Mo_distance_148 rfl hl (by decide) rfl (fun ls hl => ?_)
                    have hl : lv_has ls 6 [(3, .int (nI ((B 5 (((13 * i) + j) - 1)) + 1))), (5, .int (nI ((B 5 (((13 * i) + j) - 1)) + 1))), (4, .int (nI ((B 5 ((13 * (i - 1)) + j)) + 1))), (0, .ref r), (1, .int (nI i)), (2, .int (nI j))] := hl
                    refine lv_aload_n hx hb d_Mo_distance_149 rfl (lv_at hl 3 rfl) ?_
                    refine fg_Mo_22 hE hM.1 rfl d_Mo_distance_150 ?_
                    refine lv_bipush (v := nI 13) hx hb d_Mo_distance_153 (by decide) ?_
                    refine lv_iload_n hx hb d_Mo_distance_155 rfl (lv_at hl 4 rfl) ?_
                    refine zz_imul hx hb d_Mo_distance_156 ?_
                    refine lv_iload_n hx hb d_Mo_distance_157 rfl (lv_at hl 5 rfl) ?_
                    refine zz_iadd hx hb d_Mo_distance_158 ?_
                    refine lv_iload_n hx hb d_Mo_distance_159 rfl (lv_at hl 0 rfl) ?_
                    refine mo_st hE hM hS hL 5 (by decide) (i := (13 * i) + j) (x := (B 5 (((13 * i) + j) - 1)) + 1) (show (13 * i) + j < 169 by omega) d_Mo_distance_160 (fun H locs hM hS hL => ?_)
                    refine lv_iinc (k := 5) (v := nI (j + 1)) hx hb d_Mo_distance_161 hl rfl (zz_inc _) (by decide) rfl (fun ls hl => ?_)
                    have hl : lv_has ls 6 [(2, .int (nI (j + 1))), (3, .int (nI ((B 5 (((13 * i) + j) - 1)) + 1))), (5, .int (nI ((B 5 (((13 * i) + j) - 1)) + 1))), (4, .int (nI ((B 5 ((13 * (i - 1)) + j)) + 1))), (0, .ref r), (1, .int (nI i))] := hl
                    refine lv_goto hx hb d_Mo_distance_164 (tgt := 14) rfl ?_
                    have hval : (B 5 (((13 * i) + j) - 1)) + 1 = dst (mAt A 0) (mAt A 1) i j := by
                      first
                        | (rw [show i = 0 by omega, dst_0]; done)
                        | (rw [show j = 0 by omega, dst_s0]; done)
                        | (rw [hd]; split <;> omega)
                        | omega
                    have hk9 : ∀ k, k ≠ 5 → (up2 B 5 ((13 * i) + j) ((B 5 (((13 * i) + j) - 1)) + 1)) k = A k := fun k h5 => by funext x; rw [up2_k h5, hk k h5]
                    have hrw9 : (∀ a b, a < i → b ≤ A 4 1 → (up2 B 5 ((13 * i) + j) ((B 5 (((13 * i) + j) - 1)) + 1)) 5 (13 * a + b) = dst (mAt A 0) (mAt A 1) a b) := fun a b ha hb9 => by rw [up2_i (by omega)]; exact hrw a b ha hb9
                    have hcl9 : (∀ b, b < (j + 1) → (up2 B 5 ((13 * i) + j) ((B 5 (((13 * i) + j) - 1)) + 1)) 5 (13 * i + b) = dst (mAt A 0) (mAt A 1) i b) := fun b hb9 => by
                      by_cases hbj : b = j
                      · subst hbj; rw [up2_s]; exact hval
                      · rw [up2_i (by omega)]; exact hcl b (by omega)
                    have hl : lv_has ls 6 [(0, .ref r), (1, .int (nI i)), (2, .int (nI (j + 1)))] := lv_sub hl [4, 5, 0] rfl
                    exact ih (j + 1, (up2 B 5 ((13 * i) + j) ((B 5 (((13 * i) + j) - 1)) + 1))) ls _ _ ⟨hl, by omega, hM, hk9, hrw9, hcl9, hS, hL⟩ (by show _ - (j + 1) < _ - j; omega)
                · refine lv_iload hx hb d_Mo_distance_129 (lv_at hl 1 rfl) ?_
                  refine lv_goto hx hb d_Mo_distance_131 (tgt := 135) rfl ?_
                  refine lv_istore_n hx hb d_Mo_distance_135 rfl hl (by decide) rfl (fun ls hl => ?_)
                  have hl : lv_has ls 6 [(3, .int (nI ((B 5 ((13 * (i - 1)) + j)) + 1))), (5, .int (nI ((B 5 (((13 * i) + j) - 1)) + 1))), (4, .int (nI ((B 5 ((13 * (i - 1)) + j)) + 1))), (0, .ref r), (1, .int (nI i)), (2, .int (nI j))] := hl
                  refine lv_iload hx hb d_Mo_distance_136 (lv_at hl 1 rfl) ?_
                  refine lv_iload_n hx hb d_Mo_distance_138 rfl (lv_at hl 0 rfl) ?_
                  refine zz_ge hx hb (by omega) (by omega) d_Mo_distance_139 (tgt := 147) rfl (fun hT139 => ?_) (fun hF139 => ?_)
                  · refine lv_iload_n hx hb d_Mo_distance_147 rfl (lv_at hl 0 rfl) ?_
                    refine lv_istore_n hx hb d_Mo_distance_148 rfl hl (by decide) rfl (fun ls hl => ?_)
                    have hl : lv_has ls 6 [(3, .int (nI ((B 5 ((13 * (i - 1)) + j)) + 1))), (5, .int (nI ((B 5 (((13 * i) + j) - 1)) + 1))), (4, .int (nI ((B 5 ((13 * (i - 1)) + j)) + 1))), (0, .ref r), (1, .int (nI i)), (2, .int (nI j))] := hl
                    refine lv_aload_n hx hb d_Mo_distance_149 rfl (lv_at hl 3 rfl) ?_
                    refine fg_Mo_22 hE hM.1 rfl d_Mo_distance_150 ?_
                    refine lv_bipush (v := nI 13) hx hb d_Mo_distance_153 (by decide) ?_
                    refine lv_iload_n hx hb d_Mo_distance_155 rfl (lv_at hl 4 rfl) ?_
                    refine zz_imul hx hb d_Mo_distance_156 ?_
                    refine lv_iload_n hx hb d_Mo_distance_157 rfl (lv_at hl 5 rfl) ?_
                    refine zz_iadd hx hb d_Mo_distance_158 ?_
                    refine lv_iload_n hx hb d_Mo_distance_159 rfl (lv_at hl 0 rfl) ?_
                    refine mo_st hE hM hS hL 5 (by decide) (i := (13 * i) + j) (x := (B 5 ((13 * (i - 1)) + j)) + 1) (show (13 * i) + j < 169 by omega) d_Mo_distance_160 (fun H locs hM hS hL => ?_)
                    refine lv_iinc (k := 5) (v := nI (j + 1)) hx hb d_Mo_distance_161 hl rfl (zz_inc _) (by decide) rfl (fun ls hl => ?_)
                    have hl : lv_has ls 6 [(2, .int (nI (j + 1))), (3, .int (nI ((B 5 ((13 * (i - 1)) + j)) + 1))), (5, .int (nI ((B 5 (((13 * i) + j) - 1)) + 1))), (4, .int (nI ((B 5 ((13 * (i - 1)) + j)) + 1))), (0, .ref r), (1, .int (nI i))] := hl
                    refine lv_goto hx hb d_Mo_distance_164 (tgt := 14) rfl ?_
                    have hval : (B 5 ((13 * (i - 1)) + j)) + 1 = dst (mAt A 0) (mAt A 1) i j := by
                      first
                        | (rw [show i = 0 by omega, dst_0]; done)
                        | (rw [show j = 0 by omega, dst_s0]; done)
                        | (rw [hd]; split <;> omega)
                        | omega
                    have hk9 : ∀ k, k ≠ 5 → (up2 B 5 ((13 * i) + j) ((B 5 ((13 * (i - 1)) + j)) + 1)) k = A k := fun k h5 => by funext x; rw [up2_k h5, hk k h5]
                    have hrw9 : (∀ a b, a < i → b ≤ A 4 1 → (up2 B 5 ((13 * i) + j) ((B 5 ((13 * (i - 1)) + j)) + 1)) 5 (13 * a + b) = dst (mAt A 0) (mAt A 1) a b) := fun a b ha hb9 => by rw [up2_i (by omega)]; exact hrw a b ha hb9
                    have hcl9 : (∀ b, b < (j + 1) → (up2 B 5 ((13 * i) + j) ((B 5 ((13 * (i - 1)) + j)) + 1)) 5 (13 * i + b) = dst (mAt A 0) (mAt A 1) i b) := fun b hb9 => by
                      by_cases hbj : b = j
                      · subst hbj; rw [up2_s]; exact hval
                      · rw [up2_i (by omega)]; exact hcl b (by omega)
                    have hl : lv_has ls 6 [(0, .ref r), (1, .int (nI i)), (2, .int (nI (j + 1)))] := lv_sub hl [4, 5, 0] rfl
                    exact ih (j + 1, (up2 B 5 ((13 * i) + j) ((B 5 ((13 * (i - 1)) + j)) + 1))) ls _ _ ⟨hl, by omega, hM, hk9, hrw9, hcl9, hS, hL⟩ (by show _ - (j + 1) < _ - j; omega)
                  · refine lv_iload hx hb d_Mo_distance_142 (lv_at hl 1 rfl) ?_
                    refine lv_goto hx hb d_Mo_distance_144 (tgt := 148) rfl ?_
                    refine lv_istore_n hx hb d_Mo_distance_148 rfl hl (by decide) rfl (fun ls hl => ?_)
                    have hl : lv_has ls 6 [(3, .int (nI ((B 5 (((13 * i) + j) - 1)) + 1))), (5, .int (nI ((B 5 (((13 * i) + j) - 1)) + 1))), (4, .int (nI ((B 5 ((13 * (i - 1)) + j)) + 1))), (0, .ref r), (1, .int (nI i)), (2, .int (nI j))] := hl
                    refine lv_aload_n hx hb d_Mo_distance_149 rfl (lv_at hl 3 rfl) ?_
                    refine fg_Mo_22 hE hM.1 rfl d_Mo_distance_150 ?_
                    refine lv_bipush (v := nI 13) hx hb d_Mo_distance_153 (by decide) ?_
                    refine lv_iload_n hx hb d_Mo_distance_155 rfl (lv_at hl 4 rfl) ?_
                    refine zz_imul hx hb d_Mo_distance_156 ?_
                    refine lv_iload_n hx hb d_Mo_distance_157 rfl (lv_at hl 5 rfl) ?_
                    refine zz_iadd hx hb d_Mo_distance_158 ?_
                    refine lv_iload_n hx hb d_Mo_distance_159 rfl (lv_at hl 0 rfl) ?_
                    refine mo_st hE hM hS hL 5 (by decide) (i := (13 * i) + j) (x := (B 5 (((13 * i) + j) - 1)) + 1) (show (13 * i) + j < 169 by omega) d_Mo_distance_160 (fun H locs hM hS hL => ?_)
                    refine lv_iinc (k := 5) (v := nI (j + 1)) hx hb d_Mo_distance_161 hl rfl (zz_inc _) (by decide) rfl (fun ls hl => ?_)
                    have hl : lv_has ls 6 [(2, .int (nI (j + 1))), (3, .int (nI ((B 5 (((13 * i) + j) - 1)) + 1))), (5, .int (nI ((B 5 (((13 * i) + j) - 1)) + 1))), (4, .int (nI ((B 5 ((13 * (i - 1)) + j)) + 1))), (0, .ref r), (1, .int (nI i))] := hl
                    refine lv_goto hx hb d_Mo_distance_164 (tgt := 14) rfl ?_
                    have hval : (B 5 (((13 * i) + j) - 1)) + 1 = dst (mAt A 0) (mAt A 1) i j := by
                      first
                        | (rw [show i = 0 by omega, dst_0]; done)
                        | (rw [show j = 0 by omega, dst_s0]; done)
                        | (rw [hd]; split <;> omega)
                        | omega
                    have hk9 : ∀ k, k ≠ 5 → (up2 B 5 ((13 * i) + j) ((B 5 (((13 * i) + j) - 1)) + 1)) k = A k := fun k h5 => by funext x; rw [up2_k h5, hk k h5]
                    have hrw9 : (∀ a b, a < i → b ≤ A 4 1 → (up2 B 5 ((13 * i) + j) ((B 5 (((13 * i) + j) - 1)) + 1)) 5 (13 * a + b) = dst (mAt A 0) (mAt A 1) a b) := fun a b ha hb9 => by rw [up2_i (by omega)]; exact hrw a b ha hb9
                    have hcl9 : (∀ b, b < (j + 1) → (up2 B 5 ((13 * i) + j) ((B 5 (((13 * i) + j) - 1)) + 1)) 5 (13 * i + b) = dst (mAt A 0) (mAt A 1) i b) := fun b hb9 => by
                      by_cases hbj : b = j
                      · subst hbj; rw [up2_s]; exact hval
                      · rw [up2_i (by omega)]; exact hcl b (by omega)
                    have hl : lv_has ls 6 [(0, .ref r), (1, .int (nI i)), (2, .int (nI (j + 1)))] := lv_sub hl [4, 5, 0] rfl
                    exact ih (j + 1, (up2 B 5 ((13 * i) + j) ((B 5 (((13 * i) + j) - 1)) + 1))) ls _ _ ⟨hl, by omega, hM, hk9, hrw9, hcl9, hS, hL⟩ (by show _ - (j + 1) < _ - j; omega)
          · refine lv_iconst (v := nI 0) hx hb d_Mo_distance_74 (by decide) ?_
            refine lv_goto hx hb d_Mo_distance_75 (tgt := 79) rfl ?_
            refine zz_iadd hx hb d_Mo_distance_79 ?_
            refine lv_istore_n hx hb d_Mo_distance_80 rfl hl (by decide) rfl (fun ls hl => ?_)
            have hl : lv_has ls 6 [(3, .int (nI ((B 5 (((13 * (i - 1)) + j) - 1)) + 0))), (0, .ref r), (1, .int (nI i)), (2, .int (nI j))] := hl
            refine lv_iload_n hx hb d_Mo_distance_81 rfl (lv_at hl 2 rfl) ?_
            refine zz_le0 hx hb (by omega) d_Mo_distance_82 (tgt := 149) rfl (fun hT82 => ?_) (fun hF82 => ?_)
            · refine lv_aload_n hx hb d_Mo_distance_149 rfl (lv_at hl 1 rfl) ?_
              refine fg_Mo_22 hE hM.1 rfl d_Mo_distance_150 ?_
              refine lv_bipush (v := nI 13) hx hb d_Mo_distance_153 (by decide) ?_
              refine lv_iload_n hx hb d_Mo_distance_155 rfl (lv_at hl 2 rfl) ?_
              refine zz_imul hx hb d_Mo_distance_156 ?_
              refine lv_iload_n hx hb d_Mo_distance_157 rfl (lv_at hl 3 rfl) ?_
              refine zz_iadd hx hb d_Mo_distance_158 ?_
              refine lv_iload_n hx hb d_Mo_distance_159 rfl (lv_at hl 0 rfl) ?_
              refine mo_st hE hM hS hL 5 (by decide) (i := (13 * i) + j) (x := (B 5 (((13 * (i - 1)) + j) - 1)) + 0) (show (13 * i) + j < 169 by omega) d_Mo_distance_160 (fun H locs hM hS hL => ?_)
              refine lv_iinc (k := 3) (v := nI (j + 1)) hx hb d_Mo_distance_161 hl rfl (zz_inc _) (by decide) rfl (fun ls hl => ?_)
              have hl : lv_has ls 6 [(2, .int (nI (j + 1))), (3, .int (nI ((B 5 (((13 * (i - 1)) + j) - 1)) + 0))), (0, .ref r), (1, .int (nI i))] := hl
              refine lv_goto hx hb d_Mo_distance_164 (tgt := 14) rfl ?_
              have hval : (B 5 (((13 * (i - 1)) + j) - 1)) + 0 = dst (mAt A 0) (mAt A 1) i j := by
                first
                  | (rw [show i = 0 by omega, dst_0]; done)
                  | (rw [show j = 0 by omega, dst_s0]; done)
                  | (rw [hd]; split <;> omega)
                  | omega
              have hk9 : ∀ k, k ≠ 5 → (up2 B 5 ((13 * i) + j) ((B 5 (((13 * (i - 1)) + j) - 1)) + 0)) k = A k := fun k h5 => by funext x; rw [up2_k h5, hk k h5]
              have hrw9 : (∀ a b, a < i → b ≤ A 4 1 → (up2 B 5 ((13 * i) + j) ((B 5 (((13 * (i - 1)) + j) - 1)) + 0)) 5 (13 * a + b) = dst (mAt A 0) (mAt A 1) a b) := fun a b ha hb9 => by rw [up2_i (by omega)]; exact hrw a b ha hb9
              have hcl9 : (∀ b, b < (j + 1) → (up2 B 5 ((13 * i) + j) ((B 5 (((13 * (i - 1)) + j) - 1)) + 0)) 5 (13 * i + b) = dst (mAt A 0) (mAt A 1) i b) := fun b hb9 => by
                by_cases hbj : b = j
                · subst hbj; rw [up2_s]; exact hval
                · rw [up2_i (by omega)]; exact hcl b (by omega)
              have hl : lv_has ls 6 [(0, .ref r), (1, .int (nI i)), (2, .int (nI (j + 1)))] := lv_sub hl [2, 3, 0] rfl
              exact ih (j + 1, (up2 B 5 ((13 * i) + j) ((B 5 (((13 * (i - 1)) + j) - 1)) + 0))) ls _ _ ⟨hl, by omega, hM, hk9, hrw9, hcl9, hS, hL⟩ (by show _ - (j + 1) < _ - j; omega)
            · refine lv_iload_n hx hb d_Mo_distance_85 rfl (lv_at hl 3 rfl) ?_
              refine zz_le0 hx hb (by omega) d_Mo_distance_86 (tgt := 149) rfl (fun hT86 => ?_) (fun hF86 => ?_)
              · refine lv_aload_n hx hb d_Mo_distance_149 rfl (lv_at hl 1 rfl) ?_
                refine fg_Mo_22 hE hM.1 rfl d_Mo_distance_150 ?_
                refine lv_bipush (v := nI 13) hx hb d_Mo_distance_153 (by decide) ?_
                refine lv_iload_n hx hb d_Mo_distance_155 rfl (lv_at hl 2 rfl) ?_
                refine zz_imul hx hb d_Mo_distance_156 ?_
                refine lv_iload_n hx hb d_Mo_distance_157 rfl (lv_at hl 3 rfl) ?_
                refine zz_iadd hx hb d_Mo_distance_158 ?_
                refine lv_iload_n hx hb d_Mo_distance_159 rfl (lv_at hl 0 rfl) ?_
                refine mo_st hE hM hS hL 5 (by decide) (i := (13 * i) + j) (x := (B 5 (((13 * (i - 1)) + j) - 1)) + 0) (show (13 * i) + j < 169 by omega) d_Mo_distance_160 (fun H locs hM hS hL => ?_)
                refine lv_iinc (k := 3) (v := nI (j + 1)) hx hb d_Mo_distance_161 hl rfl (zz_inc _) (by decide) rfl (fun ls hl => ?_)
                have hl : lv_has ls 6 [(2, .int (nI (j + 1))), (3, .int (nI ((B 5 (((13 * (i - 1)) + j) - 1)) + 0))), (0, .ref r), (1, .int (nI i))] := hl
                refine lv_goto hx hb d_Mo_distance_164 (tgt := 14) rfl ?_
                have hval : (B 5 (((13 * (i - 1)) + j) - 1)) + 0 = dst (mAt A 0) (mAt A 1) i j := by
                  first
                    | (rw [show i = 0 by omega, dst_0]; done)
                    | (rw [show j = 0 by omega, dst_s0]; done)
                    | (rw [hd]; split <;> omega)
                    | omega
                have hk9 : ∀ k, k ≠ 5 → (up2 B 5 ((13 * i) + j) ((B 5 (((13 * (i - 1)) + j) - 1)) + 0)) k = A k := fun k h5 => by funext x; rw [up2_k h5, hk k h5]
                have hrw9 : (∀ a b, a < i → b ≤ A 4 1 → (up2 B 5 ((13 * i) + j) ((B 5 (((13 * (i - 1)) + j) - 1)) + 0)) 5 (13 * a + b) = dst (mAt A 0) (mAt A 1) a b) := fun a b ha hb9 => by rw [up2_i (by omega)]; exact hrw a b ha hb9
                have hcl9 : (∀ b, b < (j + 1) → (up2 B 5 ((13 * i) + j) ((B 5 (((13 * (i - 1)) + j) - 1)) + 0)) 5 (13 * i + b) = dst (mAt A 0) (mAt A 1) i b) := fun b hb9 => by
                  by_cases hbj : b = j
                  · subst hbj; rw [up2_s]; exact hval
                  · rw [up2_i (by omega)]; exact hcl b (by omega)
                have hl : lv_has ls 6 [(0, .ref r), (1, .int (nI i)), (2, .int (nI (j + 1)))] := lv_sub hl [2, 3, 0] rfl
                exact ih (j + 1, (up2 B 5 ((13 * i) + j) ((B 5 (((13 * (i - 1)) + j) - 1)) + 0))) ls _ _ ⟨hl, by omega, hM, hk9, hrw9, hcl9, hS, hL⟩ (by show _ - (j + 1) < _ - j; omega)
              · refine lv_aload_n hx hb d_Mo_distance_89 rfl (lv_at hl 1 rfl) ?_
                refine fg_Mo_22 hE hM.1 rfl d_Mo_distance_90 ?_
                refine lv_bipush (v := nI 13) hx hb d_Mo_distance_93 (by decide) ?_
                refine lv_iload_n hx hb d_Mo_distance_95 rfl (lv_at hl 2 rfl) ?_
                refine lv_iconst (v := nI 1) hx hb d_Mo_distance_96 (by decide) ?_
                refine zz_isub (by omega) hx hb d_Mo_distance_97 ?_
                refine zz_imul hx hb d_Mo_distance_98 ?_
                refine lv_iload_n hx hb d_Mo_distance_99 rfl (lv_at hl 3 rfl) ?_
                refine zz_iadd hx hb d_Mo_distance_100 ?_
                refine mo_ld hE hM 5 (by decide) (i := (13 * (i - 1)) + j) (show (13 * (i - 1)) + j < 169 by omega) d_Mo_distance_101 ?_
                refine lv_iconst (v := nI 1) hx hb d_Mo_distance_102 (by decide) ?_
                refine zz_iadd hx hb d_Mo_distance_103 ?_
                refine lv_istore hx hb d_Mo_distance_104 hl (by decide) rfl (fun ls hl => ?_)
                have hl : lv_has ls 6 [(4, .int (nI ((B 5 ((13 * (i - 1)) + j)) + 1))), (3, .int (nI ((B 5 (((13 * (i - 1)) + j) - 1)) + 0))), (0, .ref r), (1, .int (nI i)), (2, .int (nI j))] := hl
                refine lv_aload_n hx hb d_Mo_distance_106 rfl (lv_at hl 2 rfl) ?_
                refine fg_Mo_22 hE hM.1 rfl d_Mo_distance_107 ?_
                refine lv_bipush (v := nI 13) hx hb d_Mo_distance_110 (by decide) ?_
                refine lv_iload_n hx hb d_Mo_distance_112 rfl (lv_at hl 3 rfl) ?_
                refine zz_imul hx hb d_Mo_distance_113 ?_
                refine lv_iload_n hx hb d_Mo_distance_114 rfl (lv_at hl 4 rfl) ?_
                refine zz_iadd hx hb d_Mo_distance_115 ?_
                refine lv_iconst (v := nI 1) hx hb d_Mo_distance_116 (by decide) ?_
                refine zz_isub (by omega) hx hb d_Mo_distance_117 ?_
                refine mo_ld hE hM 5 (by decide) (i := ((13 * i) + j) - 1) (show ((13 * i) + j) - 1 < 169 by omega) d_Mo_distance_118 ?_
                refine lv_iconst (v := nI 1) hx hb d_Mo_distance_119 (by decide) ?_
                refine zz_iadd hx hb d_Mo_distance_120 ?_
                refine lv_istore hx hb d_Mo_distance_121 hl (by decide) rfl (fun ls hl => ?_)
                have hl : lv_has ls 6 [(5, .int (nI ((B 5 (((13 * i) + j) - 1)) + 1))), (4, .int (nI ((B 5 ((13 * (i - 1)) + j)) + 1))), (3, .int (nI ((B 5 (((13 * (i - 1)) + j) - 1)) + 0))), (0, .ref r), (1, .int (nI i)), (2, .int (nI j))] := hl
                refine lv_iload hx hb d_Mo_distance_123 (lv_at hl 1 rfl) ?_
                refine lv_iload_n hx hb d_Mo_distance_125 rfl (lv_at hl 2 rfl) ?_
                refine zz_ge hx hb (by omega) (by omega) d_Mo_distance_126 (tgt := 134) rfl (fun hT126 => ?_) (fun hF126 => ?_)
                · refine lv_iload_n hx hb d_Mo_distance_134 rfl (lv_at hl 2 rfl) ?_
                  refine lv_istore_n hx hb d_Mo_distance_135 rfl hl (by decide) rfl (fun ls hl => ?_)
                  have hl : lv_has ls 6 [(3, .int (nI ((B 5 (((13 * (i - 1)) + j) - 1)) + 0))), (5, .int (nI ((B 5 (((13 * i) + j) - 1)) + 1))), (4, .int (nI ((B 5 ((13 * (i - 1)) + j)) + 1))), (0, .ref r), (1, .int (nI i)), (2, .int (nI j))] := hl
                  refine lv_iload hx hb d_Mo_distance_136 (lv_at hl 1 rfl) ?_
                  refine lv_iload_n hx hb d_Mo_distance_138 rfl (lv_at hl 0 rfl) ?_
                  refine zz_ge hx hb (by omega) (by omega) d_Mo_distance_139 (tgt := 147) rfl (fun hT139 => ?_) (fun hF139 => ?_)
                  · refine lv_iload_n hx hb d_Mo_distance_147 rfl (lv_at hl 0 rfl) ?_
                    refine lv_istore_n hx hb d_Mo_distance_148 rfl hl (by decide) rfl (fun ls hl => ?_)
                    have hl : lv_has ls 6 [(3, .int (nI ((B 5 (((13 * (i - 1)) + j) - 1)) + 0))), (5, .int (nI ((B 5 (((13 * i) + j) - 1)) + 1))), (4, .int (nI ((B 5 ((13 * (i - 1)) + j)) + 1))), (0, .ref r), (1, .int (nI i)), (2, .int (nI j))] := hl
                    refine lv_aload_n hx hb d_Mo_distance_149 rfl (lv_at hl 3 rfl) ?_
                    refine fg_Mo_22 hE hM.1 rfl d_Mo_distance_150 ?_
                    refine lv_bipush (v := nI 13) hx hb d_Mo_distance_153 (by decide) ?_
                    refine lv_iload_n hx hb d_Mo_distance_155 rfl (lv_at hl 4 rfl) ?_
                    refine zz_imul hx hb d_Mo_distance_156 ?_
                    refine lv_iload_n hx hb d_Mo_distance_157 rfl (lv_at hl 5 rfl) ?_
                    refine zz_iadd hx hb d_Mo_distance_158 ?_
                    refine lv_iload_n hx hb d_Mo_distance_159 rfl (lv_at hl 0 rfl) ?_
                    refine mo_st hE hM hS hL 5 (by decide) (i := (13 * i) + j) (x := (B 5 (((13 * (i - 1)) + j) - 1)) + 0) (show (13 * i) + j < 169 by omega) d_Mo_distance_160 (fun H locs hM hS hL => ?_)
                    refine lv_iinc (k := 5) (v := nI (j + 1)) hx hb d_Mo_distance_161 hl rfl (zz_inc _) (by decide) rfl (fun ls hl => ?_)
                    have hl : lv_has ls 6 [(2, .int (nI (j + 1))), (3, .int (nI ((B 5 (((13 * (i - 1)) + j) - 1)) + 0))), (5, .int (nI ((B 5 (((13 * i) + j) - 1)) + 1))), (4, .int (nI ((B 5 ((13 * (i - 1)) + j)) + 1))), (0, .ref r), (1, .int (nI i))] := hl
                    refine lv_goto hx hb d_Mo_distance_164 (tgt := 14) rfl ?_
                    have hval : (B 5 (((13 * (i - 1)) + j) - 1)) + 0 = dst (mAt A 0) (mAt A 1) i j := by
                      first
                        | (rw [show i = 0 by omega, dst_0]; done)
                        | (rw [show j = 0 by omega, dst_s0]; done)
                        | (rw [hd]; split <;> omega)
                        | omega
                    have hk9 : ∀ k, k ≠ 5 → (up2 B 5 ((13 * i) + j) ((B 5 (((13 * (i - 1)) + j) - 1)) + 0)) k = A k := fun k h5 => by funext x; rw [up2_k h5, hk k h5]
                    have hrw9 : (∀ a b, a < i → b ≤ A 4 1 → (up2 B 5 ((13 * i) + j) ((B 5 (((13 * (i - 1)) + j) - 1)) + 0)) 5 (13 * a + b) = dst (mAt A 0) (mAt A 1) a b) := fun a b ha hb9 => by rw [up2_i (by omega)]; exact hrw a b ha hb9
                    have hcl9 : (∀ b, b < (j + 1) → (up2 B 5 ((13 * i) + j) ((B 5 (((13 * (i - 1)) + j) - 1)) + 0)) 5 (13 * i + b) = dst (mAt A 0) (mAt A 1) i b) := fun b hb9 => by
                      by_cases hbj : b = j
                      · subst hbj; rw [up2_s]; exact hval
                      · rw [up2_i (by omega)]; exact hcl b (by omega)
                    have hl : lv_has ls 6 [(0, .ref r), (1, .int (nI i)), (2, .int (nI (j + 1)))] := lv_sub hl [4, 5, 0] rfl
                    exact ih (j + 1, (up2 B 5 ((13 * i) + j) ((B 5 (((13 * (i - 1)) + j) - 1)) + 0))) ls _ _ ⟨hl, by omega, hM, hk9, hrw9, hcl9, hS, hL⟩ (by show _ - (j + 1) < _ - j; omega)
                  · refine lv_iload hx hb d_Mo_distance_142 (lv_at hl 1 rfl) ?_
                    refine lv_goto hx hb d_Mo_distance_144 (tgt := 148) rfl ?_
                    refine lv_istore_n hx hb d_Mo_distance_148 rfl hl (by decide) rfl (fun ls hl => ?_)
                    have hl : lv_has ls 6 [(3, .int (nI ((B 5 (((13 * i) + j) - 1)) + 1))), (5, .int (nI ((B 5 (((13 * i) + j) - 1)) + 1))), (4, .int (nI ((B 5 ((13 * (i - 1)) + j)) + 1))), (0, .ref r), (1, .int (nI i)), (2, .int (nI j))] := hl
                    refine lv_aload_n hx hb d_Mo_distance_149 rfl (lv_at hl 3 rfl) ?_
                    refine fg_Mo_22 hE hM.1 rfl d_Mo_distance_150 ?_
                    refine lv_bipush (v := nI 13) hx hb d_Mo_distance_153 (by decide) ?_
                    refine lv_iload_n hx hb d_Mo_distance_155 rfl (lv_at hl 4 rfl) ?_
                    refine zz_imul hx hb d_Mo_distance_156 ?_
                    refine lv_iload_n hx hb d_Mo_distance_157 rfl (lv_at hl 5 rfl) ?_
                    refine zz_iadd hx hb d_Mo_distance_158 ?_
                    refine lv_iload_n hx hb d_Mo_distance_159 rfl (lv_at hl 0 rfl) ?_
                    refine mo_st hE hM hS hL 5 (by decide) (i := (13 * i) + j) (x := (B 5 (((13 * i) + j) - 1)) + 1) (show (13 * i) + j < 169 by omega) d_Mo_distance_160 (fun H locs hM hS hL => ?_)
                    refine lv_iinc (k := 5) (v := nI (j + 1)) hx hb d_Mo_distance_161 hl rfl (zz_inc _) (by decide) rfl (fun ls hl => ?_)
                    have hl : lv_has ls 6 [(2, .int (nI (j + 1))), (3, .int (nI ((B 5 (((13 * i) + j) - 1)) + 1))), (5, .int (nI ((B 5 (((13 * i) + j) - 1)) + 1))), (4, .int (nI ((B 5 ((13 * (i - 1)) + j)) + 1))), (0, .ref r), (1, .int (nI i))] := hl
                    refine lv_goto hx hb d_Mo_distance_164 (tgt := 14) rfl ?_
                    have hval : (B 5 (((13 * i) + j) - 1)) + 1 = dst (mAt A 0) (mAt A 1) i j := by
                      first
                        | (rw [show i = 0 by omega, dst_0]; done)
                        | (rw [show j = 0 by omega, dst_s0]; done)
                        | (rw [hd]; split <;> omega)
                        | omega
                    have hk9 : ∀ k, k ≠ 5 → (up2 B 5 ((13 * i) + j) ((B 5 (((13 * i) + j) - 1)) + 1)) k = A k := fun k h5 => by funext x; rw [up2_k h5, hk k h5]
                    have hrw9 : (∀ a b, a < i → b ≤ A 4 1 → (up2 B 5 ((13 * i) + j) ((B 5 (((13 * i) + j) - 1)) + 1)) 5 (13 * a + b) = dst (mAt A 0) (mAt A 1) a b) := fun a b ha hb9 => by rw [up2_i (by omega)]; exact hrw a b ha hb9
                    have hcl9 : (∀ b, b < (j + 1) → (up2 B 5 ((13 * i) + j) ((B 5 (((13 * i) + j) - 1)) + 1)) 5 (13 * i + b) = dst (mAt A 0) (mAt A 1) i b) := fun b hb9 => by
                      by_cases hbj : b = j
                      · subst hbj; rw [up2_s]; exact hval
                      · rw [up2_i (by omega)]; exact hcl b (by omega)
                    have hl : lv_has ls 6 [(0, .ref r), (1, .int (nI i)), (2, .int (nI (j + 1)))] := lv_sub hl [4, 5, 0] rfl
                    exact ih (j + 1, (up2 B 5 ((13 * i) + j) ((B 5 (((13 * i) + j) - 1)) + 1))) ls _ _ ⟨hl, by omega, hM, hk9, hrw9, hcl9, hS, hL⟩ (by show _ - (j + 1) < _ - j; omega)
                · refine lv_iload hx hb d_Mo_distance_129 (lv_at hl 1 rfl) ?_
                  refine lv_goto hx hb d_Mo_distance_131 (tgt := 135) rfl ?_
                  refine lv_istore_n hx hb d_Mo_distance_135 rfl hl (by decide) rfl (fun ls hl => ?_)
                  have hl : lv_has ls 6 [(3, .int (nI ((B 5 ((13 * (i - 1)) + j)) + 1))), (5, .int (nI ((B 5 (((13 * i) + j) - 1)) + 1))), (4, .int (nI ((B 5 ((13 * (i - 1)) + j)) + 1))), (0, .ref r), (1, .int (nI i)), (2, .int (nI j))] := hl
                  refine lv_iload hx hb d_Mo_distance_136 (lv_at hl 1 rfl) ?_
                  refine lv_iload_n hx hb d_Mo_distance_138 rfl (lv_at hl 0 rfl) ?_
                  refine zz_ge hx hb (by omega) (by omega) d_Mo_distance_139 (tgt := 147) rfl (fun hT139 => ?_) (fun hF139 => ?_)
                  · refine lv_iload_n hx hb d_Mo_distance_147 rfl (lv_at hl 0 rfl) ?_
                    refine lv_istore_n hx hb d_Mo_distance_148 rfl hl (by decide) rfl (fun ls hl => ?_)
                    have hl : lv_has ls 6 [(3, .int (nI ((B 5 ((13 * (i - 1)) + j)) + 1))), (5, .int (nI ((B 5 (((13 * i) + j) - 1)) + 1))), (4, .int (nI ((B 5 ((13 * (i - 1)) + j)) + 1))), (0, .ref r), (1, .int (nI i)), (2, .int (nI j))] := hl
                    refine lv_aload_n hx hb d_Mo_distance_149 rfl (lv_at hl 3 rfl) ?_
                    refine fg_Mo_22 hE hM.1 rfl d_Mo_distance_150 ?_
                    refine lv_bipush (v := nI 13) hx hb d_Mo_distance_153 (by decide) ?_
                    refine lv_iload_n hx hb d_Mo_distance_155 rfl (lv_at hl 4 rfl) ?_
                    refine zz_imul hx hb d_Mo_distance_156 ?_
                    refine lv_iload_n hx hb d_Mo_distance_157 rfl (lv_at hl 5 rfl) ?_
                    refine zz_iadd hx hb d_Mo_distance_158 ?_
                    refine lv_iload_n hx hb d_Mo_distance_159 rfl (lv_at hl 0 rfl) ?_
                    refine mo_st hE hM hS hL 5 (by decide) (i := (13 * i) + j) (x := (B 5 ((13 * (i - 1)) + j)) + 1) (show (13 * i) + j < 169 by omega) d_Mo_distance_160 (fun H locs hM hS hL => ?_)
                    refine lv_iinc (k := 5) (v := nI (j + 1)) hx hb d_Mo_distance_161 hl rfl (zz_inc _) (by decide) rfl (fun ls hl => ?_)
                    have hl : lv_has ls 6 [(2, .int (nI (j + 1))), (3, .int (nI ((B 5 ((13 * (i - 1)) + j)) + 1))), (5, .int (nI ((B 5 (((13 * i) + j) - 1)) + 1))), (4, .int (nI ((B 5 ((13 * (i - 1)) + j)) + 1))), (0, .ref r), (1, .int (nI i))] := hl
                    refine lv_goto hx hb d_Mo_distance_164 (tgt := 14) rfl ?_
                    have hval : (B 5 ((13 * (i - 1)) + j)) + 1 = dst (mAt A 0) (mAt A 1) i j := by
                      first
                        | (rw [show i = 0 by omega, dst_0]; done)
                        | (rw [show j = 0 by omega, dst_s0]; done)
                        | (rw [hd]; split <;> omega)
                        | omega
                    have hk9 : ∀ k, k ≠ 5 → (up2 B 5 ((13 * i) + j) ((B 5 ((13 * (i - 1)) + j)) + 1)) k = A k := fun k h5 => by funext x; rw [up2_k h5, hk k h5]
                    have hrw9 : (∀ a b, a < i → b ≤ A 4 1 → (up2 B 5 ((13 * i) + j) ((B 5 ((13 * (i - 1)) + j)) + 1)) 5 (13 * a + b) = dst (mAt A 0) (mAt A 1) a b) := fun a b ha hb9 => by rw [up2_i (by omega)]; exact hrw a b ha hb9
                    have hcl9 : (∀ b, b < (j + 1) → (up2 B 5 ((13 * i) + j) ((B 5 ((13 * (i - 1)) + j)) + 1)) 5 (13 * i + b) = dst (mAt A 0) (mAt A 1) i b) := fun b hb9 => by
                      by_cases hbj : b = j
                      · subst hbj; rw [up2_s]; exact hval
                      · rw [up2_i (by omega)]; exact hcl b (by omega)
                    have hl : lv_has ls 6 [(0, .ref r), (1, .int (nI i)), (2, .int (nI (j + 1)))] := lv_sub hl [4, 5, 0] rfl
                    exact ih (j + 1, (up2 B 5 ((13 * i) + j) ((B 5 ((13 * (i - 1)) + j)) + 1))) ls _ _ ⟨hl, by omega, hM, hk9, hrw9, hcl9, hS, hL⟩ (by show _ - (j + 1) < _ - j; omega)
                  · refine lv_iload hx hb d_Mo_distance_142 (lv_at hl 1 rfl) ?_
                    refine lv_goto hx hb d_Mo_distance_144 (tgt := 148) rfl ?_
                    refine lv_istore_n hx hb d_Mo_distance_148 rfl hl (by decide) rfl (fun ls hl => ?_)
                    have hl : lv_has ls 6 [(3, .int (nI ((B 5 (((13 * i) + j) - 1)) + 1))), (5, .int (nI ((B 5 (((13 * i) + j) - 1)) + 1))), (4, .int (nI ((B 5 ((13 * (i - 1)) + j)) + 1))), (0, .ref r), (1, .int (nI i)), (2, .int (nI j))] := hl
                    refine lv_aload_n hx hb d_Mo_distance_149 rfl (lv_at hl 3 rfl) ?_
                    refine fg_Mo_22 hE hM.1 rfl d_Mo_distance_150 ?_
                    refine lv_bipush (v := nI 13) hx hb d_Mo_distance_153 (by decide) ?_
                    refine lv_iload_n hx hb d_Mo_distance_155 rfl (lv_at hl 4 rfl) ?_
                    refine zz_imul hx hb d_Mo_distance_156 ?_
                    refine lv_iload_n hx hb d_Mo_distance_157 rfl (lv_at hl 5 rfl) ?_
                    refine zz_iadd hx hb d_Mo_distance_158 ?_
                    refine lv_iload_n hx hb d_Mo_distance_159 rfl (lv_at hl 0 rfl) ?_
                    refine mo_st hE hM hS hL 5 (by decide) (i := (13 * i) + j) (x := (B 5 (((13 * i) + j) - 1)) + 1) (show (13 * i) + j < 169 by omega) d_Mo_distance_160 (fun H locs hM hS hL => ?_)
                    refine lv_iinc (k := 5) (v := nI (j + 1)) hx hb d_Mo_distance_161 hl rfl (zz_inc _) (by decide) rfl (fun ls hl => ?_)
                    have hl : lv_has ls 6 [(2, .int (nI (j + 1))), (3, .int (nI ((B 5 (((13 * i) + j) - 1)) + 1))), (5, .int (nI ((B 5 (((13 * i) + j) - 1)) + 1))), (4, .int (nI ((B 5 ((13 * (i - 1)) + j)) + 1))), (0, .ref r), (1, .int (nI i))] := hl
                    refine lv_goto hx hb d_Mo_distance_164 (tgt := 14) rfl ?_
                    have hval : (B 5 (((13 * i) + j) - 1)) + 1 = dst (mAt A 0) (mAt A 1) i j := by
                      first
                        | (rw [show i = 0 by omega, dst_0]; done)
                        | (rw [show j = 0 by omega, dst_s0]; done)
                        | (rw [hd]; split <;> omega)
                        | omega
                    have hk9 : ∀ k, k ≠ 5 → (up2 B 5 ((13 * i) + j) ((B 5 (((13 * i) + j) - 1)) + 1)) k = A k := fun k h5 => by funext x; rw [up2_k h5, hk k h5]
                    have hrw9 : (∀ a b, a < i → b ≤ A 4 1 → (up2 B 5 ((13 * i) + j) ((B 5 (((13 * i) + j) - 1)) + 1)) 5 (13 * a + b) = dst (mAt A 0) (mAt A 1) a b) := fun a b ha hb9 => by rw [up2_i (by omega)]; exact hrw a b ha hb9
                    have hcl9 : (∀ b, b < (j + 1) → (up2 B 5 ((13 * i) + j) ((B 5 (((13 * i) + j) - 1)) + 1)) 5 (13 * i + b) = dst (mAt A 0) (mAt A 1) i b) := fun b hb9 => by
                      by_cases hbj : b = j
                      · subst hbj; rw [up2_s]; exact hval
                      · rw [up2_i (by omega)]; exact hcl b (by omega)
                    have hl : lv_has ls 6 [(0, .ref r), (1, .int (nI i)), (2, .int (nI (j + 1)))] := lv_sub hl [4, 5, 0] rfl
                    exact ih (j + 1, (up2 B 5 ((13 * i) + j) ((B 5 (((13 * i) + j) - 1)) + 1))) ls _ _ ⟨hl, by omega, hM, hk9, hrw9, hcl9, hS, hL⟩ (by show _ - (j + 1) < _ - j; omega)
        · refine lv_iload_n hx hb d_Mo_distance_36 rfl (lv_at hl 1 rfl) ?_
          refine lv_goto hx hb d_Mo_distance_37 (tgt := 80) rfl ?_
          refine lv_istore_n hx hb d_Mo_distance_80 rfl hl (by decide) rfl (fun ls hl => ?_)
          have hl : lv_has ls 6 [(3, .int (nI i)), (0, .ref r), (1, .int (nI i)), (2, .int (nI j))] := hl
          refine lv_iload_n hx hb d_Mo_distance_81 rfl (lv_at hl 2 rfl) ?_
          refine zz_le0 hx hb (by omega) d_Mo_distance_82 (tgt := 149) rfl (fun hT82 => ?_) (fun hF82 => ?_)
          · refine lv_aload_n hx hb d_Mo_distance_149 rfl (lv_at hl 1 rfl) ?_
            refine fg_Mo_22 hE hM.1 rfl d_Mo_distance_150 ?_
            refine lv_bipush (v := nI 13) hx hb d_Mo_distance_153 (by decide) ?_
            refine lv_iload_n hx hb d_Mo_distance_155 rfl (lv_at hl 2 rfl) ?_
            refine zz_imul hx hb d_Mo_distance_156 ?_
            refine lv_iload_n hx hb d_Mo_distance_157 rfl (lv_at hl 3 rfl) ?_
            refine zz_iadd hx hb d_Mo_distance_158 ?_
            refine lv_iload_n hx hb d_Mo_distance_159 rfl (lv_at hl 0 rfl) ?_
            refine mo_st hE hM hS hL 5 (by decide) (i := (13 * i) + j) (x := i) (show (13 * i) + j < 169 by omega) d_Mo_distance_160 (fun H locs hM hS hL => ?_)
            refine lv_iinc (k := 3) (v := nI (j + 1)) hx hb d_Mo_distance_161 hl rfl (zz_inc _) (by decide) rfl (fun ls hl => ?_)
            have hl : lv_has ls 6 [(2, .int (nI (j + 1))), (3, .int (nI i)), (0, .ref r), (1, .int (nI i))] := hl
            refine lv_goto hx hb d_Mo_distance_164 (tgt := 14) rfl ?_
            have hval : i = dst (mAt A 0) (mAt A 1) i j := by
              first
                | (rw [show i = 0 by omega, dst_0]; done)
                | (rw [show j = 0 by omega, dst_s0]; done)
                | (rw [hd]; split <;> omega)
                | omega
            have hk9 : ∀ k, k ≠ 5 → (up2 B 5 ((13 * i) + j) i) k = A k := fun k h5 => by funext x; rw [up2_k h5, hk k h5]
            have hrw9 : (∀ a b, a < i → b ≤ A 4 1 → (up2 B 5 ((13 * i) + j) i) 5 (13 * a + b) = dst (mAt A 0) (mAt A 1) a b) := fun a b ha hb9 => by rw [up2_i (by omega)]; exact hrw a b ha hb9
            have hcl9 : (∀ b, b < (j + 1) → (up2 B 5 ((13 * i) + j) i) 5 (13 * i + b) = dst (mAt A 0) (mAt A 1) i b) := fun b hb9 => by
              by_cases hbj : b = j
              · subst hbj; rw [up2_s]; exact hval
              · rw [up2_i (by omega)]; exact hcl b (by omega)
            have hl : lv_has ls 6 [(0, .ref r), (1, .int (nI i)), (2, .int (nI (j + 1)))] := lv_sub hl [2, 3, 0] rfl
            exact ih (j + 1, (up2 B 5 ((13 * i) + j) i)) ls _ _ ⟨hl, by omega, hM, hk9, hrw9, hcl9, hS, hL⟩ (by show _ - (j + 1) < _ - j; omega)
          · refine lv_iload_n hx hb d_Mo_distance_85 rfl (lv_at hl 3 rfl) ?_
            refine zz_le0 hx hb (by omega) d_Mo_distance_86 (tgt := 149) rfl (fun hT86 => ?_) (fun hF86 => ?_)
            · refine lv_aload_n hx hb d_Mo_distance_149 rfl (lv_at hl 1 rfl) ?_
              refine fg_Mo_22 hE hM.1 rfl d_Mo_distance_150 ?_
              refine lv_bipush (v := nI 13) hx hb d_Mo_distance_153 (by decide) ?_
              refine lv_iload_n hx hb d_Mo_distance_155 rfl (lv_at hl 2 rfl) ?_
              refine zz_imul hx hb d_Mo_distance_156 ?_
              refine lv_iload_n hx hb d_Mo_distance_157 rfl (lv_at hl 3 rfl) ?_
              refine zz_iadd hx hb d_Mo_distance_158 ?_
              refine lv_iload_n hx hb d_Mo_distance_159 rfl (lv_at hl 0 rfl) ?_
              refine mo_st hE hM hS hL 5 (by decide) (i := (13 * i) + j) (x := i) (show (13 * i) + j < 169 by omega) d_Mo_distance_160 (fun H locs hM hS hL => ?_)
              refine lv_iinc (k := 3) (v := nI (j + 1)) hx hb d_Mo_distance_161 hl rfl (zz_inc _) (by decide) rfl (fun ls hl => ?_)
              have hl : lv_has ls 6 [(2, .int (nI (j + 1))), (3, .int (nI i)), (0, .ref r), (1, .int (nI i))] := hl
              refine lv_goto hx hb d_Mo_distance_164 (tgt := 14) rfl ?_
              have hval : i = dst (mAt A 0) (mAt A 1) i j := by
                first
                  | (rw [show i = 0 by omega, dst_0]; done)
                  | (rw [show j = 0 by omega, dst_s0]; done)
                  | (rw [hd]; split <;> omega)
                  | omega
              have hk9 : ∀ k, k ≠ 5 → (up2 B 5 ((13 * i) + j) i) k = A k := fun k h5 => by funext x; rw [up2_k h5, hk k h5]
              have hrw9 : (∀ a b, a < i → b ≤ A 4 1 → (up2 B 5 ((13 * i) + j) i) 5 (13 * a + b) = dst (mAt A 0) (mAt A 1) a b) := fun a b ha hb9 => by rw [up2_i (by omega)]; exact hrw a b ha hb9
              have hcl9 : (∀ b, b < (j + 1) → (up2 B 5 ((13 * i) + j) i) 5 (13 * i + b) = dst (mAt A 0) (mAt A 1) i b) := fun b hb9 => by
                by_cases hbj : b = j
                · subst hbj; rw [up2_s]; exact hval
                · rw [up2_i (by omega)]; exact hcl b (by omega)
              have hl : lv_has ls 6 [(0, .ref r), (1, .int (nI i)), (2, .int (nI (j + 1)))] := lv_sub hl [2, 3, 0] rfl
              exact ih (j + 1, (up2 B 5 ((13 * i) + j) i)) ls _ _ ⟨hl, by omega, hM, hk9, hrw9, hcl9, hS, hL⟩ (by show _ - (j + 1) < _ - j; omega)
            · refine lv_aload_n hx hb d_Mo_distance_89 rfl (lv_at hl 1 rfl) ?_
              refine fg_Mo_22 hE hM.1 rfl d_Mo_distance_90 ?_
              refine lv_bipush (v := nI 13) hx hb d_Mo_distance_93 (by decide) ?_
              refine lv_iload_n hx hb d_Mo_distance_95 rfl (lv_at hl 2 rfl) ?_
              refine lv_iconst (v := nI 1) hx hb d_Mo_distance_96 (by decide) ?_
              refine zz_isub (by omega) hx hb d_Mo_distance_97 ?_
              refine zz_imul hx hb d_Mo_distance_98 ?_
              refine lv_iload_n hx hb d_Mo_distance_99 rfl (lv_at hl 3 rfl) ?_
              refine zz_iadd hx hb d_Mo_distance_100 ?_
              refine mo_ld hE hM 5 (by decide) (i := (13 * (i - 1)) + j) (show (13 * (i - 1)) + j < 169 by omega) d_Mo_distance_101 ?_
              refine lv_iconst (v := nI 1) hx hb d_Mo_distance_102 (by decide) ?_
              refine zz_iadd hx hb d_Mo_distance_103 ?_
              refine lv_istore hx hb d_Mo_distance_104 hl (by decide) rfl (fun ls hl => ?_)
              have hl : lv_has ls 6 [(4, .int (nI ((B 5 ((13 * (i - 1)) + j)) + 1))), (3, .int (nI i)), (0, .ref r), (1, .int (nI i)), (2, .int (nI j))] := hl
              refine lv_aload_n hx hb d_Mo_distance_106 rfl (lv_at hl 2 rfl) ?_
              refine fg_Mo_22 hE hM.1 rfl d_Mo_distance_107 ?_
              refine lv_bipush (v := nI 13) hx hb d_Mo_distance_110 (by decide) ?_
              refine lv_iload_n hx hb d_Mo_distance_112 rfl (lv_at hl 3 rfl) ?_
              refine zz_imul hx hb d_Mo_distance_113 ?_
              refine lv_iload_n hx hb d_Mo_distance_114 rfl (lv_at hl 4 rfl) ?_
              refine zz_iadd hx hb d_Mo_distance_115 ?_
              refine lv_iconst (v := nI 1) hx hb d_Mo_distance_116 (by decide) ?_
              refine zz_isub (by omega) hx hb d_Mo_distance_117 ?_
              refine mo_ld hE hM 5 (by decide) (i := ((13 * i) + j) - 1) (show ((13 * i) + j) - 1 < 169 by omega) d_Mo_distance_118 ?_
              refine lv_iconst (v := nI 1) hx hb d_Mo_distance_119 (by decide) ?_
              refine zz_iadd hx hb d_Mo_distance_120 ?_
              refine lv_istore hx hb d_Mo_distance_121 hl (by decide) rfl (fun ls hl => ?_)
              have hl : lv_has ls 6 [(5, .int (nI ((B 5 (((13 * i) + j) - 1)) + 1))), (4, .int (nI ((B 5 ((13 * (i - 1)) + j)) + 1))), (3, .int (nI i)), (0, .ref r), (1, .int (nI i)), (2, .int (nI j))] := hl
              refine lv_iload hx hb d_Mo_distance_123 (lv_at hl 1 rfl) ?_
              refine lv_iload_n hx hb d_Mo_distance_125 rfl (lv_at hl 2 rfl) ?_
              refine zz_ge hx hb (by omega) (by omega) d_Mo_distance_126 (tgt := 134) rfl (fun hT126 => ?_) (fun hF126 => ?_)
              · refine lv_iload_n hx hb d_Mo_distance_134 rfl (lv_at hl 2 rfl) ?_
                refine lv_istore_n hx hb d_Mo_distance_135 rfl hl (by decide) rfl (fun ls hl => ?_)
                have hl : lv_has ls 6 [(3, .int (nI i)), (5, .int (nI ((B 5 (((13 * i) + j) - 1)) + 1))), (4, .int (nI ((B 5 ((13 * (i - 1)) + j)) + 1))), (0, .ref r), (1, .int (nI i)), (2, .int (nI j))] := hl
                refine lv_iload hx hb d_Mo_distance_136 (lv_at hl 1 rfl) ?_
                refine lv_iload_n hx hb d_Mo_distance_138 rfl (lv_at hl 0 rfl) ?_
                refine zz_ge hx hb (by omega) (by omega) d_Mo_distance_139 (tgt := 147) rfl (fun hT139 => ?_) (fun hF139 => ?_)
                · refine lv_iload_n hx hb d_Mo_distance_147 rfl (lv_at hl 0 rfl) ?_
                  refine lv_istore_n hx hb d_Mo_distance_148 rfl hl (by decide) rfl (fun ls hl => ?_)
                  have hl : lv_has ls 6 [(3, .int (nI i)), (5, .int (nI ((B 5 (((13 * i) + j) - 1)) + 1))), (4, .int (nI ((B 5 ((13 * (i - 1)) + j)) + 1))), (0, .ref r), (1, .int (nI i)), (2, .int (nI j))] := hl
                  refine lv_aload_n hx hb d_Mo_distance_149 rfl (lv_at hl 3 rfl) ?_
                  refine fg_Mo_22 hE hM.1 rfl d_Mo_distance_150 ?_
                  refine lv_bipush (v := nI 13) hx hb d_Mo_distance_153 (by decide) ?_
                  refine lv_iload_n hx hb d_Mo_distance_155 rfl (lv_at hl 4 rfl) ?_
                  refine zz_imul hx hb d_Mo_distance_156 ?_
                  refine lv_iload_n hx hb d_Mo_distance_157 rfl (lv_at hl 5 rfl) ?_
                  refine zz_iadd hx hb d_Mo_distance_158 ?_
                  refine lv_iload_n hx hb d_Mo_distance_159 rfl (lv_at hl 0 rfl) ?_
                  refine mo_st hE hM hS hL 5 (by decide) (i := (13 * i) + j) (x := i) (show (13 * i) + j < 169 by omega) d_Mo_distance_160 (fun H locs hM hS hL => ?_)
                  refine lv_iinc (k := 5) (v := nI (j + 1)) hx hb d_Mo_distance_161 hl rfl (zz_inc _) (by decide) rfl (fun ls hl => ?_)
                  have hl : lv_has ls 6 [(2, .int (nI (j + 1))), (3, .int (nI i)), (5, .int (nI ((B 5 (((13 * i) + j) - 1)) + 1))), (4, .int (nI ((B 5 ((13 * (i - 1)) + j)) + 1))), (0, .ref r), (1, .int (nI i))] := hl
                  refine lv_goto hx hb d_Mo_distance_164 (tgt := 14) rfl ?_
                  have hval : i = dst (mAt A 0) (mAt A 1) i j := by
                    first
                      | (rw [show i = 0 by omega, dst_0]; done)
                      | (rw [show j = 0 by omega, dst_s0]; done)
                      | (rw [hd]; split <;> omega)
                      | omega
                  have hk9 : ∀ k, k ≠ 5 → (up2 B 5 ((13 * i) + j) i) k = A k := fun k h5 => by funext x; rw [up2_k h5, hk k h5]
                  have hrw9 : (∀ a b, a < i → b ≤ A 4 1 → (up2 B 5 ((13 * i) + j) i) 5 (13 * a + b) = dst (mAt A 0) (mAt A 1) a b) := fun a b ha hb9 => by rw [up2_i (by omega)]; exact hrw a b ha hb9
                  have hcl9 : (∀ b, b < (j + 1) → (up2 B 5 ((13 * i) + j) i) 5 (13 * i + b) = dst (mAt A 0) (mAt A 1) i b) := fun b hb9 => by
                    by_cases hbj : b = j
                    · subst hbj; rw [up2_s]; exact hval
                    · rw [up2_i (by omega)]; exact hcl b (by omega)
                  have hl : lv_has ls 6 [(0, .ref r), (1, .int (nI i)), (2, .int (nI (j + 1)))] := lv_sub hl [4, 5, 0] rfl
                  exact ih (j + 1, (up2 B 5 ((13 * i) + j) i)) ls _ _ ⟨hl, by omega, hM, hk9, hrw9, hcl9, hS, hL⟩ (by show _ - (j + 1) < _ - j; omega)
                · refine lv_iload hx hb d_Mo_distance_142 (lv_at hl 1 rfl) ?_
                  refine lv_goto hx hb d_Mo_distance_144 (tgt := 148) rfl ?_
                  refine lv_istore_n hx hb d_Mo_distance_148 rfl hl (by decide) rfl (fun ls hl => ?_)
                  have hl : lv_has ls 6 [(3, .int (nI ((B 5 (((13 * i) + j) - 1)) + 1))), (5, .int (nI ((B 5 (((13 * i) + j) - 1)) + 1))), (4, .int (nI ((B 5 ((13 * (i - 1)) + j)) + 1))), (0, .ref r), (1, .int (nI i)), (2, .int (nI j))] := hl
                  refine lv_aload_n hx hb d_Mo_distance_149 rfl (lv_at hl 3 rfl) ?_
                  refine fg_Mo_22 hE hM.1 rfl d_Mo_distance_150 ?_
                  refine lv_bipush (v := nI 13) hx hb d_Mo_distance_153 (by decide) ?_
                  refine lv_iload_n hx hb d_Mo_distance_155 rfl (lv_at hl 4 rfl) ?_
                  refine zz_imul hx hb d_Mo_distance_156 ?_
                  refine lv_iload_n hx hb d_Mo_distance_157 rfl (lv_at hl 5 rfl) ?_
                  refine zz_iadd hx hb d_Mo_distance_158 ?_
                  refine lv_iload_n hx hb d_Mo_distance_159 rfl (lv_at hl 0 rfl) ?_
                  refine mo_st hE hM hS hL 5 (by decide) (i := (13 * i) + j) (x := (B 5 (((13 * i) + j) - 1)) + 1) (show (13 * i) + j < 169 by omega) d_Mo_distance_160 (fun H locs hM hS hL => ?_)
                  refine lv_iinc (k := 5) (v := nI (j + 1)) hx hb d_Mo_distance_161 hl rfl (zz_inc _) (by decide) rfl (fun ls hl => ?_)
                  have hl : lv_has ls 6 [(2, .int (nI (j + 1))), (3, .int (nI ((B 5 (((13 * i) + j) - 1)) + 1))), (5, .int (nI ((B 5 (((13 * i) + j) - 1)) + 1))), (4, .int (nI ((B 5 ((13 * (i - 1)) + j)) + 1))), (0, .ref r), (1, .int (nI i))] := hl
                  refine lv_goto hx hb d_Mo_distance_164 (tgt := 14) rfl ?_
                  have hval : (B 5 (((13 * i) + j) - 1)) + 1 = dst (mAt A 0) (mAt A 1) i j := by
                    first
                      | (rw [show i = 0 by omega, dst_0]; done)
                      | (rw [show j = 0 by omega, dst_s0]; done)
                      | (rw [hd]; split <;> omega)
                      | omega
                  have hk9 : ∀ k, k ≠ 5 → (up2 B 5 ((13 * i) + j) ((B 5 (((13 * i) + j) - 1)) + 1)) k = A k := fun k h5 => by funext x; rw [up2_k h5, hk k h5]
                  have hrw9 : (∀ a b, a < i → b ≤ A 4 1 → (up2 B 5 ((13 * i) + j) ((B 5 (((13 * i) + j) - 1)) + 1)) 5 (13 * a + b) = dst (mAt A 0) (mAt A 1) a b) := fun a b ha hb9 => by rw [up2_i (by omega)]; exact hrw a b ha hb9
                  have hcl9 : (∀ b, b < (j + 1) → (up2 B 5 ((13 * i) + j) ((B 5 (((13 * i) + j) - 1)) + 1)) 5 (13 * i + b) = dst (mAt A 0) (mAt A 1) i b) := fun b hb9 => by
                    by_cases hbj : b = j
                    · subst hbj; rw [up2_s]; exact hval
                    · rw [up2_i (by omega)]; exact hcl b (by omega)
                  have hl : lv_has ls 6 [(0, .ref r), (1, .int (nI i)), (2, .int (nI (j + 1)))] := lv_sub hl [4, 5, 0] rfl
                  exact ih (j + 1, (up2 B 5 ((13 * i) + j) ((B 5 (((13 * i) + j) - 1)) + 1))) ls _ _ ⟨hl, by omega, hM, hk9, hrw9, hcl9, hS, hL⟩ (by show _ - (j + 1) < _ - j; omega)
              · refine lv_iload hx hb d_Mo_distance_129 (lv_at hl 1 rfl) ?_
                refine lv_goto hx hb d_Mo_distance_131 (tgt := 135) rfl ?_
                refine lv_istore_n hx hb d_Mo_distance_135 rfl hl (by decide) rfl (fun ls hl => ?_)
                have hl : lv_has ls 6 [(3, .int (nI ((B 5 ((13 * (i - 1)) + j)) + 1))), (5, .int (nI ((B 5 (((13 * i) + j) - 1)) + 1))), (4, .int (nI ((B 5 ((13 * (i - 1)) + j)) + 1))), (0, .ref r), (1, .int (nI i)), (2, .int (nI j))] := hl
                refine lv_iload hx hb d_Mo_distance_136 (lv_at hl 1 rfl) ?_
                refine lv_iload_n hx hb d_Mo_distance_138 rfl (lv_at hl 0 rfl) ?_
                refine zz_ge hx hb (by omega) (by omega) d_Mo_distance_139 (tgt := 147) rfl (fun hT139 => ?_) (fun hF139 => ?_)
                · refine lv_iload_n hx hb d_Mo_distance_147 rfl (lv_at hl 0 rfl) ?_
                  refine lv_istore_n hx hb d_Mo_distance_148 rfl hl (by decide) rfl (fun ls hl => ?_)
                  have hl : lv_has ls 6 [(3, .int (nI ((B 5 ((13 * (i - 1)) + j)) + 1))), (5, .int (nI ((B 5 (((13 * i) + j) - 1)) + 1))), (4, .int (nI ((B 5 ((13 * (i - 1)) + j)) + 1))), (0, .ref r), (1, .int (nI i)), (2, .int (nI j))] := hl
                  refine lv_aload_n hx hb d_Mo_distance_149 rfl (lv_at hl 3 rfl) ?_
                  refine fg_Mo_22 hE hM.1 rfl d_Mo_distance_150 ?_
                  refine lv_bipush (v := nI 13) hx hb d_Mo_distance_153 (by decide) ?_
                  refine lv_iload_n hx hb d_Mo_distance_155 rfl (lv_at hl 4 rfl) ?_
                  refine zz_imul hx hb d_Mo_distance_156 ?_
                  refine lv_iload_n hx hb d_Mo_distance_157 rfl (lv_at hl 5 rfl) ?_
                  refine zz_iadd hx hb d_Mo_distance_158 ?_
                  refine lv_iload_n hx hb d_Mo_distance_159 rfl (lv_at hl 0 rfl) ?_
                  refine mo_st hE hM hS hL 5 (by decide) (i := (13 * i) + j) (x := (B 5 ((13 * (i - 1)) + j)) + 1) (show (13 * i) + j < 169 by omega) d_Mo_distance_160 (fun H locs hM hS hL => ?_)
                  refine lv_iinc (k := 5) (v := nI (j + 1)) hx hb d_Mo_distance_161 hl rfl (zz_inc _) (by decide) rfl (fun ls hl => ?_)
                  have hl : lv_has ls 6 [(2, .int (nI (j + 1))), (3, .int (nI ((B 5 ((13 * (i - 1)) + j)) + 1))), (5, .int (nI ((B 5 (((13 * i) + j) - 1)) + 1))), (4, .int (nI ((B 5 ((13 * (i - 1)) + j)) + 1))), (0, .ref r), (1, .int (nI i))] := hl
                  refine lv_goto hx hb d_Mo_distance_164 (tgt := 14) rfl ?_
                  have hval : (B 5 ((13 * (i - 1)) + j)) + 1 = dst (mAt A 0) (mAt A 1) i j := by
                    first
                      | (rw [show i = 0 by omega, dst_0]; done)
                      | (rw [show j = 0 by omega, dst_s0]; done)
                      | (rw [hd]; split <;> omega)
                      | omega
                  have hk9 : ∀ k, k ≠ 5 → (up2 B 5 ((13 * i) + j) ((B 5 ((13 * (i - 1)) + j)) + 1)) k = A k := fun k h5 => by funext x; rw [up2_k h5, hk k h5]
                  have hrw9 : (∀ a b, a < i → b ≤ A 4 1 → (up2 B 5 ((13 * i) + j) ((B 5 ((13 * (i - 1)) + j)) + 1)) 5 (13 * a + b) = dst (mAt A 0) (mAt A 1) a b) := fun a b ha hb9 => by rw [up2_i (by omega)]; exact hrw a b ha hb9
                  have hcl9 : (∀ b, b < (j + 1) → (up2 B 5 ((13 * i) + j) ((B 5 ((13 * (i - 1)) + j)) + 1)) 5 (13 * i + b) = dst (mAt A 0) (mAt A 1) i b) := fun b hb9 => by
                    by_cases hbj : b = j
                    · subst hbj; rw [up2_s]; exact hval
                    · rw [up2_i (by omega)]; exact hcl b (by omega)
                  have hl : lv_has ls 6 [(0, .ref r), (1, .int (nI i)), (2, .int (nI (j + 1)))] := lv_sub hl [4, 5, 0] rfl
                  exact ih (j + 1, (up2 B 5 ((13 * i) + j) ((B 5 ((13 * (i - 1)) + j)) + 1))) ls _ _ ⟨hl, by omega, hM, hk9, hrw9, hcl9, hS, hL⟩ (by show _ - (j + 1) < _ - j; omega)
                · refine lv_iload hx hb d_Mo_distance_142 (lv_at hl 1 rfl) ?_
                  refine lv_goto hx hb d_Mo_distance_144 (tgt := 148) rfl ?_
                  refine lv_istore_n hx hb d_Mo_distance_148 rfl hl (by decide) rfl (fun ls hl => ?_)
                  have hl : lv_has ls 6 [(3, .int (nI ((B 5 (((13 * i) + j) - 1)) + 1))), (5, .int (nI ((B 5 (((13 * i) + j) - 1)) + 1))), (4, .int (nI ((B 5 ((13 * (i - 1)) + j)) + 1))), (0, .ref r), (1, .int (nI i)), (2, .int (nI j))] := hl
                  refine lv_aload_n hx hb d_Mo_distance_149 rfl (lv_at hl 3 rfl) ?_
                  refine fg_Mo_22 hE hM.1 rfl d_Mo_distance_150 ?_
                  refine lv_bipush (v := nI 13) hx hb d_Mo_distance_153 (by decide) ?_
                  refine lv_iload_n hx hb d_Mo_distance_155 rfl (lv_at hl 4 rfl) ?_
                  refine zz_imul hx hb d_Mo_distance_156 ?_
                  refine lv_iload_n hx hb d_Mo_distance_157 rfl (lv_at hl 5 rfl) ?_
                  refine zz_iadd hx hb d_Mo_distance_158 ?_
                  refine lv_iload_n hx hb d_Mo_distance_159 rfl (lv_at hl 0 rfl) ?_
                  refine mo_st hE hM hS hL 5 (by decide) (i := (13 * i) + j) (x := (B 5 (((13 * i) + j) - 1)) + 1) (show (13 * i) + j < 169 by omega) d_Mo_distance_160 (fun H locs hM hS hL => ?_)
                  refine lv_iinc (k := 5) (v := nI (j + 1)) hx hb d_Mo_distance_161 hl rfl (zz_inc _) (by decide) rfl (fun ls hl => ?_)
                  have hl : lv_has ls 6 [(2, .int (nI (j + 1))), (3, .int (nI ((B 5 (((13 * i) + j) - 1)) + 1))), (5, .int (nI ((B 5 (((13 * i) + j) - 1)) + 1))), (4, .int (nI ((B 5 ((13 * (i - 1)) + j)) + 1))), (0, .ref r), (1, .int (nI i))] := hl
                  refine lv_goto hx hb d_Mo_distance_164 (tgt := 14) rfl ?_
                  have hval : (B 5 (((13 * i) + j) - 1)) + 1 = dst (mAt A 0) (mAt A 1) i j := by
                    first
                      | (rw [show i = 0 by omega, dst_0]; done)
                      | (rw [show j = 0 by omega, dst_s0]; done)
                      | (rw [hd]; split <;> omega)
                      | omega
                  have hk9 : ∀ k, k ≠ 5 → (up2 B 5 ((13 * i) + j) ((B 5 (((13 * i) + j) - 1)) + 1)) k = A k := fun k h5 => by funext x; rw [up2_k h5, hk k h5]
                  have hrw9 : (∀ a b, a < i → b ≤ A 4 1 → (up2 B 5 ((13 * i) + j) ((B 5 (((13 * i) + j) - 1)) + 1)) 5 (13 * a + b) = dst (mAt A 0) (mAt A 1) a b) := fun a b ha hb9 => by rw [up2_i (by omega)]; exact hrw a b ha hb9
                  have hcl9 : (∀ b, b < (j + 1) → (up2 B 5 ((13 * i) + j) ((B 5 (((13 * i) + j) - 1)) + 1)) 5 (13 * i + b) = dst (mAt A 0) (mAt A 1) i b) := fun b hb9 => by
                    by_cases hbj : b = j
                    · subst hbj; rw [up2_s]; exact hval
                    · rw [up2_i (by omega)]; exact hcl b (by omega)
                  have hl : lv_has ls 6 [(0, .ref r), (1, .int (nI i)), (2, .int (nI (j + 1)))] := lv_sub hl [4, 5, 0] rfl
                  exact ih (j + 1, (up2 B 5 ((13 * i) + j) ((B 5 (((13 * i) + j) - 1)) + 1))) ls _ _ ⟨hl, by omega, hM, hk9, hrw9, hcl9, hS, hL⟩ (by show _ - (j + 1) < _ - j; omega)
      · refine lv_iload_n hx hb d_Mo_distance_28 rfl (lv_at hl 2 rfl) ?_
        refine lv_goto hx hb d_Mo_distance_29 (tgt := 80) rfl ?_
        refine lv_istore_n hx hb d_Mo_distance_80 rfl hl (by decide) rfl (fun ls hl => ?_)
        have hl : lv_has ls 6 [(3, .int (nI j)), (0, .ref r), (1, .int (nI i)), (2, .int (nI j))] := hl
        refine lv_iload_n hx hb d_Mo_distance_81 rfl (lv_at hl 2 rfl) ?_
        refine zz_le0 hx hb (by omega) d_Mo_distance_82 (tgt := 149) rfl (fun hT82 => ?_) (fun hF82 => ?_)
        · refine lv_aload_n hx hb d_Mo_distance_149 rfl (lv_at hl 1 rfl) ?_
          refine fg_Mo_22 hE hM.1 rfl d_Mo_distance_150 ?_
          refine lv_bipush (v := nI 13) hx hb d_Mo_distance_153 (by decide) ?_
          refine lv_iload_n hx hb d_Mo_distance_155 rfl (lv_at hl 2 rfl) ?_
          refine zz_imul hx hb d_Mo_distance_156 ?_
          refine lv_iload_n hx hb d_Mo_distance_157 rfl (lv_at hl 3 rfl) ?_
          refine zz_iadd hx hb d_Mo_distance_158 ?_
          refine lv_iload_n hx hb d_Mo_distance_159 rfl (lv_at hl 0 rfl) ?_
          refine mo_st hE hM hS hL 5 (by decide) (i := (13 * i) + j) (x := j) (show (13 * i) + j < 169 by omega) d_Mo_distance_160 (fun H locs hM hS hL => ?_)
          refine lv_iinc (k := 3) (v := nI (j + 1)) hx hb d_Mo_distance_161 hl rfl (zz_inc _) (by decide) rfl (fun ls hl => ?_)
          have hl : lv_has ls 6 [(2, .int (nI (j + 1))), (3, .int (nI j)), (0, .ref r), (1, .int (nI i))] := hl
          refine lv_goto hx hb d_Mo_distance_164 (tgt := 14) rfl ?_
          have hval : j = dst (mAt A 0) (mAt A 1) i j := by
            first
              | (rw [show i = 0 by omega, dst_0]; done)
              | (rw [show j = 0 by omega, dst_s0]; done)
              | (rw [hd]; split <;> omega)
              | omega
          have hk9 : ∀ k, k ≠ 5 → (up2 B 5 ((13 * i) + j) j) k = A k := fun k h5 => by funext x; rw [up2_k h5, hk k h5]
          have hrw9 : (∀ a b, a < i → b ≤ A 4 1 → (up2 B 5 ((13 * i) + j) j) 5 (13 * a + b) = dst (mAt A 0) (mAt A 1) a b) := fun a b ha hb9 => by rw [up2_i (by omega)]; exact hrw a b ha hb9
          have hcl9 : (∀ b, b < (j + 1) → (up2 B 5 ((13 * i) + j) j) 5 (13 * i + b) = dst (mAt A 0) (mAt A 1) i b) := fun b hb9 => by
            by_cases hbj : b = j
            · subst hbj; rw [up2_s]; exact hval
            · rw [up2_i (by omega)]; exact hcl b (by omega)
          have hl : lv_has ls 6 [(0, .ref r), (1, .int (nI i)), (2, .int (nI (j + 1)))] := lv_sub hl [2, 3, 0] rfl
          exact ih (j + 1, (up2 B 5 ((13 * i) + j) j)) ls _ _ ⟨hl, by omega, hM, hk9, hrw9, hcl9, hS, hL⟩ (by show _ - (j + 1) < _ - j; omega)
        · refine lv_iload_n hx hb d_Mo_distance_85 rfl (lv_at hl 3 rfl) ?_
          refine zz_le0 hx hb (by omega) d_Mo_distance_86 (tgt := 149) rfl (fun hT86 => ?_) (fun hF86 => ?_)
          · refine lv_aload_n hx hb d_Mo_distance_149 rfl (lv_at hl 1 rfl) ?_
            refine fg_Mo_22 hE hM.1 rfl d_Mo_distance_150 ?_
            refine lv_bipush (v := nI 13) hx hb d_Mo_distance_153 (by decide) ?_
            refine lv_iload_n hx hb d_Mo_distance_155 rfl (lv_at hl 2 rfl) ?_
            refine zz_imul hx hb d_Mo_distance_156 ?_
            refine lv_iload_n hx hb d_Mo_distance_157 rfl (lv_at hl 3 rfl) ?_
            refine zz_iadd hx hb d_Mo_distance_158 ?_
            refine lv_iload_n hx hb d_Mo_distance_159 rfl (lv_at hl 0 rfl) ?_
            refine mo_st hE hM hS hL 5 (by decide) (i := (13 * i) + j) (x := j) (show (13 * i) + j < 169 by omega) d_Mo_distance_160 (fun H locs hM hS hL => ?_)
            refine lv_iinc (k := 3) (v := nI (j + 1)) hx hb d_Mo_distance_161 hl rfl (zz_inc _) (by decide) rfl (fun ls hl => ?_)
            have hl : lv_has ls 6 [(2, .int (nI (j + 1))), (3, .int (nI j)), (0, .ref r), (1, .int (nI i))] := hl
            refine lv_goto hx hb d_Mo_distance_164 (tgt := 14) rfl ?_
            have hval : j = dst (mAt A 0) (mAt A 1) i j := by
              first
                | (rw [show i = 0 by omega, dst_0]; done)
                | (rw [show j = 0 by omega, dst_s0]; done)
                | (rw [hd]; split <;> omega)
                | omega
            have hk9 : ∀ k, k ≠ 5 → (up2 B 5 ((13 * i) + j) j) k = A k := fun k h5 => by funext x; rw [up2_k h5, hk k h5]
            have hrw9 : (∀ a b, a < i → b ≤ A 4 1 → (up2 B 5 ((13 * i) + j) j) 5 (13 * a + b) = dst (mAt A 0) (mAt A 1) a b) := fun a b ha hb9 => by rw [up2_i (by omega)]; exact hrw a b ha hb9
            have hcl9 : (∀ b, b < (j + 1) → (up2 B 5 ((13 * i) + j) j) 5 (13 * i + b) = dst (mAt A 0) (mAt A 1) i b) := fun b hb9 => by
              by_cases hbj : b = j
              · subst hbj; rw [up2_s]; exact hval
              · rw [up2_i (by omega)]; exact hcl b (by omega)
            have hl : lv_has ls 6 [(0, .ref r), (1, .int (nI i)), (2, .int (nI (j + 1)))] := lv_sub hl [2, 3, 0] rfl
            exact ih (j + 1, (up2 B 5 ((13 * i) + j) j)) ls _ _ ⟨hl, by omega, hM, hk9, hrw9, hcl9, hS, hL⟩ (by show _ - (j + 1) < _ - j; omega)
          · refine lv_aload_n hx hb d_Mo_distance_89 rfl (lv_at hl 1 rfl) ?_
            refine fg_Mo_22 hE hM.1 rfl d_Mo_distance_90 ?_
            refine lv_bipush (v := nI 13) hx hb d_Mo_distance_93 (by decide) ?_
            refine lv_iload_n hx hb d_Mo_distance_95 rfl (lv_at hl 2 rfl) ?_
            refine lv_iconst (v := nI 1) hx hb d_Mo_distance_96 (by decide) ?_
            refine zz_isub (by omega) hx hb d_Mo_distance_97 ?_
            refine zz_imul hx hb d_Mo_distance_98 ?_
            refine lv_iload_n hx hb d_Mo_distance_99 rfl (lv_at hl 3 rfl) ?_
            refine zz_iadd hx hb d_Mo_distance_100 ?_
            refine mo_ld hE hM 5 (by decide) (i := (13 * (i - 1)) + j) (show (13 * (i - 1)) + j < 169 by omega) d_Mo_distance_101 ?_
            refine lv_iconst (v := nI 1) hx hb d_Mo_distance_102 (by decide) ?_
            refine zz_iadd hx hb d_Mo_distance_103 ?_
            refine lv_istore hx hb d_Mo_distance_104 hl (by decide) rfl (fun ls hl => ?_)
            have hl : lv_has ls 6 [(4, .int (nI ((B 5 ((13 * (i - 1)) + j)) + 1))), (3, .int (nI j)), (0, .ref r), (1, .int (nI i)), (2, .int (nI j))] := hl
            refine lv_aload_n hx hb d_Mo_distance_106 rfl (lv_at hl 2 rfl) ?_
            refine fg_Mo_22 hE hM.1 rfl d_Mo_distance_107 ?_
            refine lv_bipush (v := nI 13) hx hb d_Mo_distance_110 (by decide) ?_
            refine lv_iload_n hx hb d_Mo_distance_112 rfl (lv_at hl 3 rfl) ?_
            refine zz_imul hx hb d_Mo_distance_113 ?_
            refine lv_iload_n hx hb d_Mo_distance_114 rfl (lv_at hl 4 rfl) ?_
            refine zz_iadd hx hb d_Mo_distance_115 ?_
            refine lv_iconst (v := nI 1) hx hb d_Mo_distance_116 (by decide) ?_
            refine zz_isub (by omega) hx hb d_Mo_distance_117 ?_
            refine mo_ld hE hM 5 (by decide) (i := ((13 * i) + j) - 1) (show ((13 * i) + j) - 1 < 169 by omega) d_Mo_distance_118 ?_
            refine lv_iconst (v := nI 1) hx hb d_Mo_distance_119 (by decide) ?_
            refine zz_iadd hx hb d_Mo_distance_120 ?_
            refine lv_istore hx hb d_Mo_distance_121 hl (by decide) rfl (fun ls hl => ?_)
            have hl : lv_has ls 6 [(5, .int (nI ((B 5 (((13 * i) + j) - 1)) + 1))), (4, .int (nI ((B 5 ((13 * (i - 1)) + j)) + 1))), (3, .int (nI j)), (0, .ref r), (1, .int (nI i)), (2, .int (nI j))] := hl
            refine lv_iload hx hb d_Mo_distance_123 (lv_at hl 1 rfl) ?_
            refine lv_iload_n hx hb d_Mo_distance_125 rfl (lv_at hl 2 rfl) ?_
            refine zz_ge hx hb (by omega) (by omega) d_Mo_distance_126 (tgt := 134) rfl (fun hT126 => ?_) (fun hF126 => ?_)
            · refine lv_iload_n hx hb d_Mo_distance_134 rfl (lv_at hl 2 rfl) ?_
              refine lv_istore_n hx hb d_Mo_distance_135 rfl hl (by decide) rfl (fun ls hl => ?_)
              have hl : lv_has ls 6 [(3, .int (nI j)), (5, .int (nI ((B 5 (((13 * i) + j) - 1)) + 1))), (4, .int (nI ((B 5 ((13 * (i - 1)) + j)) + 1))), (0, .ref r), (1, .int (nI i)), (2, .int (nI j))] := hl
              refine lv_iload hx hb d_Mo_distance_136 (lv_at hl 1 rfl) ?_
              refine lv_iload_n hx hb d_Mo_distance_138 rfl (lv_at hl 0 rfl) ?_
              refine zz_ge hx hb (by omega) (by omega) d_Mo_distance_139 (tgt := 147) rfl (fun hT139 => ?_) (fun hF139 => ?_)
              · refine lv_iload_n hx hb d_Mo_distance_147 rfl (lv_at hl 0 rfl) ?_
                refine lv_istore_n hx hb d_Mo_distance_148 rfl hl (by decide) rfl (fun ls hl => ?_)
                have hl : lv_has ls 6 [(3, .int (nI j)), (5, .int (nI ((B 5 (((13 * i) + j) - 1)) + 1))), (4, .int (nI ((B 5 ((13 * (i - 1)) + j)) + 1))), (0, .ref r), (1, .int (nI i)), (2, .int (nI j))] := hl
                refine lv_aload_n hx hb d_Mo_distance_149 rfl (lv_at hl 3 rfl) ?_
                refine fg_Mo_22 hE hM.1 rfl d_Mo_distance_150 ?_
                refine lv_bipush (v := nI 13) hx hb d_Mo_distance_153 (by decide) ?_
                refine lv_iload_n hx hb d_Mo_distance_155 rfl (lv_at hl 4 rfl) ?_
                refine zz_imul hx hb d_Mo_distance_156 ?_
                refine lv_iload_n hx hb d_Mo_distance_157 rfl (lv_at hl 5 rfl) ?_
                refine zz_iadd hx hb d_Mo_distance_158 ?_
                refine lv_iload_n hx hb d_Mo_distance_159 rfl (lv_at hl 0 rfl) ?_
                refine mo_st hE hM hS hL 5 (by decide) (i := (13 * i) + j) (x := j) (show (13 * i) + j < 169 by omega) d_Mo_distance_160 (fun H locs hM hS hL => ?_)
                refine lv_iinc (k := 5) (v := nI (j + 1)) hx hb d_Mo_distance_161 hl rfl (zz_inc _) (by decide) rfl (fun ls hl => ?_)
                have hl : lv_has ls 6 [(2, .int (nI (j + 1))), (3, .int (nI j)), (5, .int (nI ((B 5 (((13 * i) + j) - 1)) + 1))), (4, .int (nI ((B 5 ((13 * (i - 1)) + j)) + 1))), (0, .ref r), (1, .int (nI i))] := hl
                refine lv_goto hx hb d_Mo_distance_164 (tgt := 14) rfl ?_
                have hval : j = dst (mAt A 0) (mAt A 1) i j := by
                  first
                    | (rw [show i = 0 by omega, dst_0]; done)
                    | (rw [show j = 0 by omega, dst_s0]; done)
                    | (rw [hd]; split <;> omega)
                    | omega
                have hk9 : ∀ k, k ≠ 5 → (up2 B 5 ((13 * i) + j) j) k = A k := fun k h5 => by funext x; rw [up2_k h5, hk k h5]
                have hrw9 : (∀ a b, a < i → b ≤ A 4 1 → (up2 B 5 ((13 * i) + j) j) 5 (13 * a + b) = dst (mAt A 0) (mAt A 1) a b) := fun a b ha hb9 => by rw [up2_i (by omega)]; exact hrw a b ha hb9
                have hcl9 : (∀ b, b < (j + 1) → (up2 B 5 ((13 * i) + j) j) 5 (13 * i + b) = dst (mAt A 0) (mAt A 1) i b) := fun b hb9 => by
                  by_cases hbj : b = j
                  · subst hbj; rw [up2_s]; exact hval
                  · rw [up2_i (by omega)]; exact hcl b (by omega)
                have hl : lv_has ls 6 [(0, .ref r), (1, .int (nI i)), (2, .int (nI (j + 1)))] := lv_sub hl [4, 5, 0] rfl
                exact ih (j + 1, (up2 B 5 ((13 * i) + j) j)) ls _ _ ⟨hl, by omega, hM, hk9, hrw9, hcl9, hS, hL⟩ (by show _ - (j + 1) < _ - j; omega)
              · refine lv_iload hx hb d_Mo_distance_142 (lv_at hl 1 rfl) ?_
                refine lv_goto hx hb d_Mo_distance_144 (tgt := 148) rfl ?_
                refine lv_istore_n hx hb d_Mo_distance_148 rfl hl (by decide) rfl (fun ls hl => ?_)
                have hl : lv_has ls 6 [(3, .int (nI ((B 5 (((13 * i) + j) - 1)) + 1))), (5, .int (nI ((B 5 (((13 * i) + j) - 1)) + 1))), (4, .int (nI ((B 5 ((13 * (i - 1)) + j)) + 1))), (0, .ref r), (1, .int (nI i)), (2, .int (nI j))] := hl
                refine lv_aload_n hx hb d_Mo_distance_149 rfl (lv_at hl 3 rfl) ?_
                refine fg_Mo_22 hE hM.1 rfl d_Mo_distance_150 ?_
                refine lv_bipush (v := nI 13) hx hb d_Mo_distance_153 (by decide) ?_
                refine lv_iload_n hx hb d_Mo_distance_155 rfl (lv_at hl 4 rfl) ?_
                refine zz_imul hx hb d_Mo_distance_156 ?_
                refine lv_iload_n hx hb d_Mo_distance_157 rfl (lv_at hl 5 rfl) ?_
                refine zz_iadd hx hb d_Mo_distance_158 ?_
                refine lv_iload_n hx hb d_Mo_distance_159 rfl (lv_at hl 0 rfl) ?_
                refine mo_st hE hM hS hL 5 (by decide) (i := (13 * i) + j) (x := (B 5 (((13 * i) + j) - 1)) + 1) (show (13 * i) + j < 169 by omega) d_Mo_distance_160 (fun H locs hM hS hL => ?_)
                refine lv_iinc (k := 5) (v := nI (j + 1)) hx hb d_Mo_distance_161 hl rfl (zz_inc _) (by decide) rfl (fun ls hl => ?_)
                have hl : lv_has ls 6 [(2, .int (nI (j + 1))), (3, .int (nI ((B 5 (((13 * i) + j) - 1)) + 1))), (5, .int (nI ((B 5 (((13 * i) + j) - 1)) + 1))), (4, .int (nI ((B 5 ((13 * (i - 1)) + j)) + 1))), (0, .ref r), (1, .int (nI i))] := hl
                refine lv_goto hx hb d_Mo_distance_164 (tgt := 14) rfl ?_
                have hval : (B 5 (((13 * i) + j) - 1)) + 1 = dst (mAt A 0) (mAt A 1) i j := by
                  first
                    | (rw [show i = 0 by omega, dst_0]; done)
                    | (rw [show j = 0 by omega, dst_s0]; done)
                    | (rw [hd]; split <;> omega)
                    | omega
                have hk9 : ∀ k, k ≠ 5 → (up2 B 5 ((13 * i) + j) ((B 5 (((13 * i) + j) - 1)) + 1)) k = A k := fun k h5 => by funext x; rw [up2_k h5, hk k h5]
                have hrw9 : (∀ a b, a < i → b ≤ A 4 1 → (up2 B 5 ((13 * i) + j) ((B 5 (((13 * i) + j) - 1)) + 1)) 5 (13 * a + b) = dst (mAt A 0) (mAt A 1) a b) := fun a b ha hb9 => by rw [up2_i (by omega)]; exact hrw a b ha hb9
                have hcl9 : (∀ b, b < (j + 1) → (up2 B 5 ((13 * i) + j) ((B 5 (((13 * i) + j) - 1)) + 1)) 5 (13 * i + b) = dst (mAt A 0) (mAt A 1) i b) := fun b hb9 => by
                  by_cases hbj : b = j
                  · subst hbj; rw [up2_s]; exact hval
                  · rw [up2_i (by omega)]; exact hcl b (by omega)
                have hl : lv_has ls 6 [(0, .ref r), (1, .int (nI i)), (2, .int (nI (j + 1)))] := lv_sub hl [4, 5, 0] rfl
                exact ih (j + 1, (up2 B 5 ((13 * i) + j) ((B 5 (((13 * i) + j) - 1)) + 1))) ls _ _ ⟨hl, by omega, hM, hk9, hrw9, hcl9, hS, hL⟩ (by show _ - (j + 1) < _ - j; omega)
            · refine lv_iload hx hb d_Mo_distance_129 (lv_at hl 1 rfl) ?_
              refine lv_goto hx hb d_Mo_distance_131 (tgt := 135) rfl ?_
              refine lv_istore_n hx hb d_Mo_distance_135 rfl hl (by decide) rfl (fun ls hl => ?_)
              have hl : lv_has ls 6 [(3, .int (nI ((B 5 ((13 * (i - 1)) + j)) + 1))), (5, .int (nI ((B 5 (((13 * i) + j) - 1)) + 1))), (4, .int (nI ((B 5 ((13 * (i - 1)) + j)) + 1))), (0, .ref r), (1, .int (nI i)), (2, .int (nI j))] := hl
              refine lv_iload hx hb d_Mo_distance_136 (lv_at hl 1 rfl) ?_
              refine lv_iload_n hx hb d_Mo_distance_138 rfl (lv_at hl 0 rfl) ?_
              refine zz_ge hx hb (by omega) (by omega) d_Mo_distance_139 (tgt := 147) rfl (fun hT139 => ?_) (fun hF139 => ?_)
              · refine lv_iload_n hx hb d_Mo_distance_147 rfl (lv_at hl 0 rfl) ?_
                refine lv_istore_n hx hb d_Mo_distance_148 rfl hl (by decide) rfl (fun ls hl => ?_)
                have hl : lv_has ls 6 [(3, .int (nI ((B 5 ((13 * (i - 1)) + j)) + 1))), (5, .int (nI ((B 5 (((13 * i) + j) - 1)) + 1))), (4, .int (nI ((B 5 ((13 * (i - 1)) + j)) + 1))), (0, .ref r), (1, .int (nI i)), (2, .int (nI j))] := hl
                refine lv_aload_n hx hb d_Mo_distance_149 rfl (lv_at hl 3 rfl) ?_
                refine fg_Mo_22 hE hM.1 rfl d_Mo_distance_150 ?_
                refine lv_bipush (v := nI 13) hx hb d_Mo_distance_153 (by decide) ?_
                refine lv_iload_n hx hb d_Mo_distance_155 rfl (lv_at hl 4 rfl) ?_
                refine zz_imul hx hb d_Mo_distance_156 ?_
                refine lv_iload_n hx hb d_Mo_distance_157 rfl (lv_at hl 5 rfl) ?_
                refine zz_iadd hx hb d_Mo_distance_158 ?_
                refine lv_iload_n hx hb d_Mo_distance_159 rfl (lv_at hl 0 rfl) ?_
                refine mo_st hE hM hS hL 5 (by decide) (i := (13 * i) + j) (x := (B 5 ((13 * (i - 1)) + j)) + 1) (show (13 * i) + j < 169 by omega) d_Mo_distance_160 (fun H locs hM hS hL => ?_)
                refine lv_iinc (k := 5) (v := nI (j + 1)) hx hb d_Mo_distance_161 hl rfl (zz_inc _) (by decide) rfl (fun ls hl => ?_)
                have hl : lv_has ls 6 [(2, .int (nI (j + 1))), (3, .int (nI ((B 5 ((13 * (i - 1)) + j)) + 1))), (5, .int (nI ((B 5 (((13 * i) + j) - 1)) + 1))), (4, .int (nI ((B 5 ((13 * (i - 1)) + j)) + 1))), (0, .ref r), (1, .int (nI i))] := hl
                refine lv_goto hx hb d_Mo_distance_164 (tgt := 14) rfl ?_
                have hval : (B 5 ((13 * (i - 1)) + j)) + 1 = dst (mAt A 0) (mAt A 1) i j := by
                  first
                    | (rw [show i = 0 by omega, dst_0]; done)
                    | (rw [show j = 0 by omega, dst_s0]; done)
                    | (rw [hd]; split <;> omega)
                    | omega
                have hk9 : ∀ k, k ≠ 5 → (up2 B 5 ((13 * i) + j) ((B 5 ((13 * (i - 1)) + j)) + 1)) k = A k := fun k h5 => by funext x; rw [up2_k h5, hk k h5]
                have hrw9 : (∀ a b, a < i → b ≤ A 4 1 → (up2 B 5 ((13 * i) + j) ((B 5 ((13 * (i - 1)) + j)) + 1)) 5 (13 * a + b) = dst (mAt A 0) (mAt A 1) a b) := fun a b ha hb9 => by rw [up2_i (by omega)]; exact hrw a b ha hb9
                have hcl9 : (∀ b, b < (j + 1) → (up2 B 5 ((13 * i) + j) ((B 5 ((13 * (i - 1)) + j)) + 1)) 5 (13 * i + b) = dst (mAt A 0) (mAt A 1) i b) := fun b hb9 => by
                  by_cases hbj : b = j
                  · subst hbj; rw [up2_s]; exact hval
                  · rw [up2_i (by omega)]; exact hcl b (by omega)
                have hl : lv_has ls 6 [(0, .ref r), (1, .int (nI i)), (2, .int (nI (j + 1)))] := lv_sub hl [4, 5, 0] rfl
                exact ih (j + 1, (up2 B 5 ((13 * i) + j) ((B 5 ((13 * (i - 1)) + j)) + 1))) ls _ _ ⟨hl, by omega, hM, hk9, hrw9, hcl9, hS, hL⟩ (by show _ - (j + 1) < _ - j; omega)
              · refine lv_iload hx hb d_Mo_distance_142 (lv_at hl 1 rfl) ?_
                refine lv_goto hx hb d_Mo_distance_144 (tgt := 148) rfl ?_
                refine lv_istore_n hx hb d_Mo_distance_148 rfl hl (by decide) rfl (fun ls hl => ?_)
                have hl : lv_has ls 6 [(3, .int (nI ((B 5 (((13 * i) + j) - 1)) + 1))), (5, .int (nI ((B 5 (((13 * i) + j) - 1)) + 1))), (4, .int (nI ((B 5 ((13 * (i - 1)) + j)) + 1))), (0, .ref r), (1, .int (nI i)), (2, .int (nI j))] := hl
                refine lv_aload_n hx hb d_Mo_distance_149 rfl (lv_at hl 3 rfl) ?_
                refine fg_Mo_22 hE hM.1 rfl d_Mo_distance_150 ?_
                refine lv_bipush (v := nI 13) hx hb d_Mo_distance_153 (by decide) ?_
                refine lv_iload_n hx hb d_Mo_distance_155 rfl (lv_at hl 4 rfl) ?_
                refine zz_imul hx hb d_Mo_distance_156 ?_
                refine lv_iload_n hx hb d_Mo_distance_157 rfl (lv_at hl 5 rfl) ?_
                refine zz_iadd hx hb d_Mo_distance_158 ?_
                refine lv_iload_n hx hb d_Mo_distance_159 rfl (lv_at hl 0 rfl) ?_
                refine mo_st hE hM hS hL 5 (by decide) (i := (13 * i) + j) (x := (B 5 (((13 * i) + j) - 1)) + 1) (show (13 * i) + j < 169 by omega) d_Mo_distance_160 (fun H locs hM hS hL => ?_)
                refine lv_iinc (k := 5) (v := nI (j + 1)) hx hb d_Mo_distance_161 hl rfl (zz_inc _) (by decide) rfl (fun ls hl => ?_)
                have hl : lv_has ls 6 [(2, .int (nI (j + 1))), (3, .int (nI ((B 5 (((13 * i) + j) - 1)) + 1))), (5, .int (nI ((B 5 (((13 * i) + j) - 1)) + 1))), (4, .int (nI ((B 5 ((13 * (i - 1)) + j)) + 1))), (0, .ref r), (1, .int (nI i))] := hl
                refine lv_goto hx hb d_Mo_distance_164 (tgt := 14) rfl ?_
                have hval : (B 5 (((13 * i) + j) - 1)) + 1 = dst (mAt A 0) (mAt A 1) i j := by
                  first
                    | (rw [show i = 0 by omega, dst_0]; done)
                    | (rw [show j = 0 by omega, dst_s0]; done)
                    | (rw [hd]; split <;> omega)
                    | omega
                have hk9 : ∀ k, k ≠ 5 → (up2 B 5 ((13 * i) + j) ((B 5 (((13 * i) + j) - 1)) + 1)) k = A k := fun k h5 => by funext x; rw [up2_k h5, hk k h5]
                have hrw9 : (∀ a b, a < i → b ≤ A 4 1 → (up2 B 5 ((13 * i) + j) ((B 5 (((13 * i) + j) - 1)) + 1)) 5 (13 * a + b) = dst (mAt A 0) (mAt A 1) a b) := fun a b ha hb9 => by rw [up2_i (by omega)]; exact hrw a b ha hb9
                have hcl9 : (∀ b, b < (j + 1) → (up2 B 5 ((13 * i) + j) ((B 5 (((13 * i) + j) - 1)) + 1)) 5 (13 * i + b) = dst (mAt A 0) (mAt A 1) i b) := fun b hb9 => by
                  by_cases hbj : b = j
                  · subst hbj; rw [up2_s]; exact hval
                  · rw [up2_i (by omega)]; exact hcl b (by omega)
                have hl : lv_has ls 6 [(0, .ref r), (1, .int (nI i)), (2, .int (nI (j + 1)))] := lv_sub hl [4, 5, 0] rfl
                exact ih (j + 1, (up2 B 5 ((13 * i) + j) ((B 5 (((13 * i) + j) - 1)) + 1))) ls _ _ ⟨hl, by omega, hM, hk9, hrw9, hcl9, hS, hL⟩ (by show _ - (j + 1) < _ - j; omega)
