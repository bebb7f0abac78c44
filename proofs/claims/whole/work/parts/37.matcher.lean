/-! The class's own object at o, its arrays of references, its ways. -/
def RmAt (D : va_G) (ca : Nat → ClassId) (H : Heap) (o n h : Nat) (rl : Option Nat) (S : Nat → Option Nat) (K : Nat → Nat) : Prop := va_at D zC (o, .inr (6, [.ref (o + 1), .int (nI n), .ref (o + 2), .int (nI h), va_rf rl, .ref (o + 3), .ref (o + 7)])) H ∧ va_at D zC (o + 1, .inl (ca 3, 13, .inr (.inr (.inr (.inr (fun i => some (o + 8 + 5 * i))))))) H ∧ va_at D zC (o + 2, .inl (ca 4, 6, .inr (.inr (.inr (.inr S))))) H ∧ va_at D zC (o + 7, .inl (ca 0, 2, .inl (fun j => nI (K j)))) H
def rmFr (o q : Nat) : Prop := q = o ∨ q = o + 2 ∨ q = o + 7
theorem zisF_2 (x : Int32) : zisF x = zisR 2 x := by
  cases h : zisR 2 x
  · cases h2 : zisF x
    · rfl
    · obtain ⟨f, hf, rfl⟩ := zisF_nat h2
      rw [zisR_nI (by omega) (by decide)] at h
      cases h
  · obtain ⟨j, hj, rfl⟩ := zisR_nat h (by decide)
    rcases (show j = 0 ∨ j = 1 by omega) with rfl | rfl <;> rfl
theorem rm_asg {p : Program} {s : State} {m : MethodId} {args : Array Value} {c : Code} {cc : ByteArray} {nL : Nat} {own : String} {D : va_G} {ca : Nat → ClassId} {ci : Nat} {r : vw_C} (hE : zz_E p m c cc nL s args own D ca) (hc : zC[ci]? = some r) (hw : Cond.castable r.1 "RecordMatcher$Expression" ∈ zN) : ∀ comp : ClassId, s.vm.findClass "RecordMatcher$Expression" = some comp → s.vm.assignable (D.1 ci) comp = true ∧ ∃ kc : Class, s.vm.classes[comp]? = some kc := by
  intro comp h
  obtain ⟨c0, t1, f1, f2, f3⟩ := Cond.castable_spec (va_Nw.use (A := args) rfl (hE.2.2.1 _ hw))
  have h2 : s.vm.findClass r.1 = some (D.1 ci) := (hE.2.1.1 ci r hc).2.1
  have e1 : c0 = D.1 ci := Option.some.inj (f1.symm.trans h2)
  have e2 : t1 = comp := Option.some.inj (f2.symm.trans h)
  subst e1
  subst e2
  obtain ⟨kE, hkE, -⟩ := Vm.findClass_spec h
  exact ⟨f3, kE, hkE⟩
def aTwo (n : Nat) (x y : Int32) : Bool := zisR n x && zisR n y && decide (x ≠ y)

set_option maxHeartbeats 4000000 in
set_option maxRecDepth 100000 in
theorem k_RM_isRecord (l : Launch) (D : va_G) (ca : Nat → ClassId) (o n h : Nat) (rl : Option Nat) (S : Nat → Option Nat) (K : Nat → Nat) (x : Int32) : Met l y_RM_isRecord w_RM_isRecord (zr 0 0 0) (zz_P D ca [.ref o, .int x] (fun H => RmAt D ca H o n h rl S K)) (zz_Q (fun H H1 v => H1 = H ∧ v = some (.int (nI (zisR n x).toNat)))) 0 0 (fun _ => False) := by
  refine zz_met (cc := c_RM_isRecord) (by decide) (Nat.le_of_ble_eq_true rfl) ?_
  intro p e s m below meth c ls hE hr hlk hnm hM hl
  have hx := hE.1.1
  have hb := hE.1.2.1
  have hK := hE.2
  have hl : lv_has ls 2 [(0, .ref o), (1, .int x)] := hl
  have hL : zz_L (fun _ => False) ([] : List Loc) := zz_L.nil
  refine lv_iload_n hx hb d_RM_isRecord_0 rfl (lv_at hl 1 rfl) ?_
  refine lv_if_lt hx hb d_RM_isRecord_1 (tgt := 16) rfl (fun hT1 => ?_) (fun hF1 => ?_)
  · refine lv_iconst (v := nI 0) hx hb d_RM_isRecord_16 (by decide) ?_
    exact zz_iret hx hb hr hlk rfl ⟨rfl, congrArg (fun z => some (Value.int z)) (by simp [zisR, hT1])⟩ hL d_RM_isRecord_17
  · refine lv_iload_n hx hb d_RM_isRecord_4 rfl (lv_at hl 1 rfl) ?_
    refine lv_aload_n hx hb d_RM_isRecord_5 rfl (lv_at hl 0 rfl) ?_
    refine fg_RM_37 hE hM.1 rfl d_RM_isRecord_6 ?_
    refine lv_icmp_ge hx hb d_RM_isRecord_9 (tgt := 16) rfl (fun hT9 => ?_) (fun hF9 => ?_)
    · refine lv_iconst (v := nI 0) hx hb d_RM_isRecord_16 (by decide) ?_
      exact zz_iret hx hb hr hlk rfl ⟨rfl, congrArg (fun z => some (Value.int z)) (by simp [zisR, hF1, hT9])⟩ hL d_RM_isRecord_17
    · refine lv_iconst (v := nI 1) hx hb d_RM_isRecord_12 (by decide) ?_
      refine lv_goto hx hb d_RM_isRecord_13 (tgt := 17) rfl ?_
      exact zz_iret hx hb hr hlk rfl ⟨rfl, congrArg (fun z => some (Value.int z)) (by simp [zisR, hF1, hF9])⟩ hL d_RM_isRecord_17

set_option maxHeartbeats 4000000 in
set_option maxRecDepth 100000 in
theorem k_RM_isField (l : Launch) (D : va_G) (ca : Nat → ClassId) (x : Int32) : Met l y_RM_isField w_RM_isField (zr 0 0 0) (zz_P D ca [.int x] (fun H => True)) (zz_Q (fun H H1 v => H1 = H ∧ v = some (.int (nI (zisF x).toNat)))) 0 0 (fun _ => False) := by
  refine zz_met (cc := c_RM_isField) (by decide) (Nat.le_of_ble_eq_true rfl) ?_
  intro p e s m below meth c ls hE hr hlk hnm hM hl
  have hx := hE.1.1
  have hb := hE.1.2.1
  have hK := hE.2
  have hl : lv_has ls 1 [(0, .int x)] := hl
  have hL : zz_L (fun _ => False) ([] : List Loc) := zz_L.nil
  refine lv_iload_n hx hb d_RM_isField_0 rfl (lv_at hl 0 rfl) ?_
  refine lv_if_lt hx hb d_RM_isField_1 (tgt := 13) rfl (fun hT1 => ?_) (fun hF1 => ?_)
  · refine lv_iconst (v := nI 0) hx hb d_RM_isField_13 (by decide) ?_
    exact zz_iret hx hb hr hlk rfl ⟨rfl, congrArg (fun z => some (Value.int z)) (by rw [zisF_2]; simp [zisR, hT1])⟩ hL d_RM_isField_14
  · refine lv_iload_n hx hb d_RM_isField_4 rfl (lv_at hl 0 rfl) ?_
    refine lv_iconst (v := nI 2) hx hb d_RM_isField_5 (by decide) ?_
    refine lv_icmp_ge hx hb d_RM_isField_6 (tgt := 13) rfl (fun hT6 => ?_) (fun hF6 => ?_)
    · refine lv_iconst (v := nI 0) hx hb d_RM_isField_13 (by decide) ?_
      exact zz_iret hx hb hr hlk rfl ⟨rfl, congrArg (fun z => some (Value.int z)) (by rw [zisF_2]; simp [zisR, hF1, hT6])⟩ hL d_RM_isField_14
    · refine lv_iconst (v := nI 1) hx hb d_RM_isField_9 (by decide) ?_
      refine lv_goto hx hb d_RM_isField_10 (tgt := 14) rfl ?_
      exact zz_iret hx hb hr hlk rfl ⟨rfl, congrArg (fun z => some (Value.int z)) (by rw [zisF_2]; simp [zisR, hF1, hF6])⟩ hL d_RM_isField_14

set_option maxHeartbeats 4000000 in
set_option maxRecDepth 100000 in
theorem k_RM_areTwoRecords (l : Launch) (D : va_G) (ca : Nat → ClassId) (o n h : Nat) (rl : Option Nat) (S : Nat → Option Nat) (K : Nat → Nat) (x y : Int32) : Met l y_RM_areTwoRecords w_RM_areTwoRecords (zr 1 0 0) (zz_P D ca [.ref o, .int x, .int y] (fun H => RmAt D ca H o n h rl S K)) (zz_Q (fun H H1 v => H1 = H ∧ v = some (.int (nI (aTwo n x y).toNat)))) 0 0 (fun _ => False) := by
  refine zz_met (cc := c_RM_areTwoRecords) (by decide) (Nat.le_of_ble_eq_true rfl) ?_
  intro p e s m below meth c ls hE hr hlk hnm hM hl
  have hx := hE.1.1
  have hb := hE.1.2.1
  have hK := hE.2
  have hl : lv_has ls 3 [(0, .ref o), (1, .int x), (2, .int y)] := hl
  have hL : zz_L (fun _ => False) ([] : List Loc) := zz_L.nil
  refine lv_aload_n hx hb d_RM_areTwoRecords_0 rfl (lv_at hl 0 rfl) ?_
  refine lv_iload_n hx hb d_RM_areTwoRecords_1 rfl (lv_at hl 1 rfl) ?_
  refine zz_callP (cl_RM_54 (rest := []) hE (k_RM_isRecord l D ca o n h rl S K x) ⟨rfl, rfl, by decide, by decide⟩ hM hM.1 rfl hl.1 rfl (Nat.le_of_ble_eq_true rfl) d_RM_areTwoRecords_2 ⟨by decide, by decide⟩) ?_
  refine zz_eqB hx hb d_RM_areTwoRecords_5 (tgt := 25) rfl (fun hT5 => ?_) (fun hF5 => ?_)
  · refine lv_iconst (v := nI 0) hx hb d_RM_areTwoRecords_25 (by decide) ?_
    exact zz_iret hx hb hr hlk rfl ⟨rfl, congrArg (fun z => some (Value.int z)) (by simp [aTwo, hT5])⟩ hL d_RM_areTwoRecords_26
  · refine lv_aload_n hx hb d_RM_areTwoRecords_8 rfl (lv_at hl 0 rfl) ?_
    refine lv_iload_n hx hb d_RM_areTwoRecords_9 rfl (lv_at hl 2 rfl) ?_
    refine zz_callP (cl_RM_54 (rest := []) hE (k_RM_isRecord l D ca o n h rl S K y) ⟨rfl, rfl, by decide, by decide⟩ hM hM.1 rfl hl.1 rfl (Nat.le_of_ble_eq_true rfl) d_RM_areTwoRecords_10 ⟨by decide, by decide⟩) ?_
    refine zz_eqB hx hb d_RM_areTwoRecords_13 (tgt := 25) rfl (fun hT13 => ?_) (fun hF13 => ?_)
    · refine lv_iconst (v := nI 0) hx hb d_RM_areTwoRecords_25 (by decide) ?_
      exact zz_iret hx hb hr hlk rfl ⟨rfl, congrArg (fun z => some (Value.int z)) (by simp [aTwo, hF5, hT13])⟩ hL d_RM_areTwoRecords_26
    · refine lv_iload_n hx hb d_RM_areTwoRecords_16 rfl (lv_at hl 1 rfl) ?_
      refine lv_iload_n hx hb d_RM_areTwoRecords_17 rfl (lv_at hl 2 rfl) ?_
      refine lv_icmp_eq hx hb d_RM_areTwoRecords_18 (tgt := 25) rfl (fun hT18 => ?_) (fun hF18 => ?_)
      · refine lv_iconst (v := nI 0) hx hb d_RM_areTwoRecords_25 (by decide) ?_
        exact zz_iret hx hb hr hlk rfl ⟨rfl, congrArg (fun z => some (Value.int z)) (by simp [aTwo, hF5, hF13, hT18])⟩ hL d_RM_areTwoRecords_26
      · refine lv_iconst (v := nI 1) hx hb d_RM_areTwoRecords_21 (by decide) ?_
        refine lv_goto hx hb d_RM_areTwoRecords_22 (tgt := 26) rfl ?_
        exact zz_iret hx hb hr hlk rfl ⟨rfl, congrArg (fun z => some (Value.int z)) (by simp [aTwo, hF5, hF13, hF18])⟩ hL d_RM_areTwoRecords_26

set_option maxHeartbeats 4000000 in
set_option maxRecDepth 100000 in
theorem k_RM_textOf (l : Launch) (D : va_G) (ca : Nat → ClassId) (o n h : Nat) (rl : Option Nat) (S : Nat → Option Nat) (K : Nat → Nat) (i f0 : Nat) (hi : i < 13) (hf0 : f0 ≤ 1) (F : Nat → Nat → Nat) (N Y : Nat → Nat) (W0 : Nat → Bool) : Met l y_RM_textOf w_RM_textOf (zr 1 0 0) (zz_P D ca [.ref o, .int (nI i), .int (nI f0)] (fun H => RmAt D ca H o n h rl S K ∧ EnAt D ca H (o + 8 + 5 * i) F N Y W0)) (zz_Q (fun H H1 v => H1 = H ∧ v = some (.ref (o + 8 + 5 * i + 1 + 2 * f0)))) 0 0 (fun _ => False) := by
  refine zz_met (cc := c_RM_textOf) (by decide) (Nat.le_of_ble_eq_true rfl) ?_
  intro p e s m below meth c ls hE hr hlk hnm ⟨hM, hA⟩ hl
  have hx := hE.1.1
  have hb := hE.1.2.1
  have hK := hE.2
  have hl : lv_has ls 3 [(0, .ref o), (1, .int (nI i)), (2, .int (nI f0))] := hl
  have hL : zz_L (fun _ => False) ([] : List Loc) := zz_L.nil
  refine lv_aload_n hx hb d_RM_textOf_0 rfl (lv_at hl 0 rfl) ?_
  refine fg_RM_11 hE hM.1 rfl d_RM_textOf_1 ?_
  refine lv_iload_n hx hb d_RM_textOf_4 rfl (lv_at hl 1 rfl) ?_
  refine zz_aald hx hb hK.1 hM.2.1 3 rfl (i := i) (by omega) (by omega) d_RM_textOf_5 ?_
  refine lv_iload_n hx hb d_RM_textOf_6 rfl (lv_at hl 2 rfl) ?_
  refine zz_callP (cl_RM_167 (rest := []) hE (k_En_text l D ca (o + 8 + 5 * i) f0 hf0 F N Y W0) ⟨rfl, rfl, by decide, by decide⟩ hA hA.1 rfl hl.1 rfl (Nat.le_of_ble_eq_true rfl) d_RM_textOf_7 ⟨by decide, by decide⟩) ?_
  exact zz_aret hx hb hr hlk (Or.inr ⟨_, rfl⟩) ⟨rfl, rfl⟩ hL d_RM_textOf_10

set_option maxHeartbeats 4000000 in
set_option maxRecDepth 100000 in
theorem k_RM_fromTop (l : Launch) (D : va_G) (ca : Nat → ClassId) (o n h : Nat) (rl : Option Nat) (S : Nat → Option Nat) (K : Nat → Nat) (k : Nat) (hh : h ≤ 6) (hk : k < 6) : Met l y_RM_fromTop w_RM_fromTop (zr 0 0 0) (zz_P D ca [.ref o, .int (nI k)] (fun H => RmAt D ca H o n h rl S K)) (zz_Q (fun H H1 v => H1 = H ∧ v = some (va_rf (if k < h then S (h - 1 - k) else none)))) 0 0 (fun _ => False) := by
  refine zz_met (cc := c_RM_fromTop) (by decide) (Nat.le_of_ble_eq_true rfl) ?_
  intro p e s m below meth c ls hE hr hlk hnm hM hl
  have hx := hE.1.1
  have hb := hE.1.2.1
  have hK := hE.2
  have hl : lv_has ls 2 [(0, .ref o), (1, .int (nI k))] := hl
  have hL : zz_L (fun _ => False) ([] : List Loc) := zz_L.nil
  refine lv_iload_n hx hb d_RM_fromTop_0 rfl (lv_at hl 1 rfl) ?_
  refine lv_aload_n hx hb d_RM_fromTop_1 rfl (lv_at hl 0 rfl) ?_
  refine fg_RM_68 hE hM.1 rfl d_RM_fromTop_2 ?_
  refine zz_ge hx hb (by omega) (by omega) d_RM_fromTop_5 (tgt := 24) rfl (fun hT5 => ?_) (fun hF5 => ?_)
  · refine lv_null hx hb d_RM_fromTop_24 ?_
    exact zz_aret hx hb hr hlk (va_rf_or none) ⟨rfl, by rw [if_neg (by omega)] <;> rfl⟩ hL d_RM_fromTop_25
  · refine lv_aload_n hx hb d_RM_fromTop_8 rfl (lv_at hl 0 rfl) ?_
    refine fg_RM_17 hE hM.1 rfl d_RM_fromTop_9 ?_
    refine lv_aload_n hx hb d_RM_fromTop_12 rfl (lv_at hl 0 rfl) ?_
    refine fg_RM_68 hE hM.1 rfl d_RM_fromTop_13 ?_
    refine lv_iconst (v := nI 1) hx hb d_RM_fromTop_16 (by decide) ?_
    refine zz_isub (by omega) hx hb d_RM_fromTop_17 ?_
    refine lv_iload_n hx hb d_RM_fromTop_18 rfl (lv_at hl 1 rfl) ?_
    refine zz_isub (by omega) hx hb d_RM_fromTop_19 ?_
    refine zz_aald hx hb hK.1 hM.2.2.1 4 rfl (i := (h - 1) - k) (by omega) (by omega) d_RM_fromTop_20 ?_
    refine lv_goto hx hb d_RM_fromTop_21 (tgt := 25) rfl ?_
    exact zz_aret hx hb hr hlk (va_rf_or _) ⟨rfl, by rw [if_pos (by omega)] <;> rfl⟩ hL d_RM_fromTop_25

set_option maxHeartbeats 4000000 in
set_option maxRecDepth 100000 in
theorem k_RM_records (l : Launch) (D : va_G) (ca : Nat → ClassId) (o n h : Nat) (rl : Option Nat) (S : Nat → Option Nat) (K : Nat → Nat) : Met l y_RM_records w_RM_records (zr 0 0 0) (zz_P D ca [.ref o] (fun H => RmAt D ca H o n h rl S K)) (zz_Q (fun H H1 v => H1 = H ∧ v = some (.int (nI n)))) 0 0 (fun _ => False) := by
  refine zz_met (cc := c_RM_records) (by decide) (Nat.le_of_ble_eq_true rfl) ?_
  intro p e s m below meth c ls hE hr hlk hnm hM hl
  have hx := hE.1.1
  have hb := hE.1.2.1
  have hK := hE.2
  have hl : lv_has ls 1 [(0, .ref o)] := hl
  have hL : zz_L (fun _ => False) ([] : List Loc) := zz_L.nil
  refine lv_aload_n hx hb d_RM_records_0 rfl (lv_at hl 0 rfl) ?_
  refine fg_RM_37 hE hM.1 rfl d_RM_records_1 ?_
  exact zz_iret hx hb hr hlk rfl ⟨rfl, congrArg (fun z => some (Value.int z)) (rfl)⟩ hL d_RM_records_4

set_option maxHeartbeats 4000000 in
set_option maxRecDepth 100000 in
theorem k_RM_push_Ja (l : Launch) (D : va_G) (ca : Nat → ClassId) (o n h : Nat) (rl : Option Nat) (S : Nat → Option Nat) (K : Nat → Nat) (y : Nat) (vs : List Value) (hh : h < 6) : Met l y_RM_push w_RM_push (zr 0 0 0) (zz_P D ca [.ref o, .ref y] (fun H => RmAt D ca H o n h rl S K ∧ va_at D zC (y, .inr (2, vs)) H)) (zz_Q (fun H H1 v => v = none ∧ zz_fr (rmFr o) H H1 ∧ RmAt D ca H1 o n (h + 1) rl (va_up S h (some y)) K)) 0 0 (rmFr o) := by
  refine zz_met (cc := c_RM_push) (by decide) (Nat.le_of_ble_eq_true rfl) ?_
  intro p e s m below meth c ls hE hr hlk hnm ⟨hM, hX⟩ hl
  have hx := hE.1.1
  have hb := hE.1.2.1
  have hK := hE.2
  have hl : lv_has ls 2 [(0, .ref o), (1, .ref y)] := hl
  have hL : zz_L (rmFr o) ([] : List Loc) := zz_L.nil
  have hS : zz_fr (rmFr o) s.heap s.heap := zz_fr.rf
  refine lv_aload_n hx hb d_RM_push_0 rfl (lv_at hl 0 rfl) ?_
  refine fg_RM_17 hE hM.1 rfl d_RM_push_1 ?_
  refine lv_aload_n hx hb d_RM_push_4 rfl (lv_at hl 0 rfl) ?_
  refine fg_RM_68 hE hM.1 rfl d_RM_push_5 ?_
  refine lv_aload_n hx hb d_RM_push_8 rfl (lv_at hl 1 rfl) ?_
  refine zz_aast hx hb hK.1 hM.2.2.1 hX rfl hL (show rmFr o (o + 2) from Or.inr (Or.inl rfl)) 4 rfl (rm_asg hE rfl zn_688) (i := h) (by omega) (by decide) d_RM_push_9 (fun H locs h1 hu hL => ?_)
  have hS := hS.up hu (show rmFr o (o + 2) from Or.inr (Or.inl rfl))
  have hM : RmAt D ca H o n h rl (va_up S h (some y)) K := ⟨zz_keep hu (show o ≠ o + 2 by omega) hM.1, zz_keep hu (show o + 1 ≠ o + 2 by omega) hM.2.1, h1, zz_keep hu (show o + 7 ≠ o + 2 by omega) hM.2.2.2⟩
  refine lv_aload_n hx hb d_RM_push_10 rfl (lv_at hl 0 rfl) ?_
  refine lv_dup hx hb d_RM_push_11 rfl ?_
  refine fg_RM_68 hE hM.1 rfl d_RM_push_12 ?_
  refine lv_iconst (v := nI 1) hx hb d_RM_push_15 (by decide) ?_
  refine zz_iadd hx hb d_RM_push_16 ?_
  refine fp_RM_68 hE hM.1 hL (show rmFr o o from Or.inl rfl) (Nat.le_of_ble_eq_true rfl) d_RM_push_17 (fun H locs h1 hu hL => ?_)
  have hS := hS.up hu (show rmFr o o from Or.inl rfl)
  have hM : RmAt D ca H o n (h + 1) rl (va_up S h (some y)) K := ⟨h1, zz_keep hu (show o + 1 ≠ o by omega) hM.2.1, zz_keep hu (show o + 2 ≠ o by omega) hM.2.2.1, zz_keep hu (show o + 7 ≠ o by omega) hM.2.2.2⟩
  exact zz_vret hx hb hr hlk ⟨rfl, hS, hM⟩ hL d_RM_push_20

set_option maxHeartbeats 4000000 in
set_option maxRecDepth 100000 in
theorem k_RM_push_Ed (l : Launch) (D : va_G) (ca : Nat → ClassId) (o n h : Nat) (rl : Option Nat) (S : Nat → Option Nat) (K : Nat → Nat) (y : Nat) (vs : List Value) (hh : h < 6) : Met l y_RM_push w_RM_push (zr 0 0 0) (zz_P D ca [.ref o, .ref y] (fun H => RmAt D ca H o n h rl S K ∧ va_at D zC (y, .inr (3, vs)) H)) (zz_Q (fun H H1 v => v = none ∧ zz_fr (rmFr o) H H1 ∧ RmAt D ca H1 o n (h + 1) rl (va_up S h (some y)) K)) 0 0 (rmFr o) := by
  refine zz_met (cc := c_RM_push) (by decide) (Nat.le_of_ble_eq_true rfl) ?_
  intro p e s m below meth c ls hE hr hlk hnm ⟨hM, hX⟩ hl
  have hx := hE.1.1
  have hb := hE.1.2.1
  have hK := hE.2
  have hl : lv_has ls 2 [(0, .ref o), (1, .ref y)] := hl
  have hL : zz_L (rmFr o) ([] : List Loc) := zz_L.nil
  have hS : zz_fr (rmFr o) s.heap s.heap := zz_fr.rf
  refine lv_aload_n hx hb d_RM_push_0 rfl (lv_at hl 0 rfl) ?_
  refine fg_RM_17 hE hM.1 rfl d_RM_push_1 ?_
  refine lv_aload_n hx hb d_RM_push_4 rfl (lv_at hl 0 rfl) ?_
  refine fg_RM_68 hE hM.1 rfl d_RM_push_5 ?_
  refine lv_aload_n hx hb d_RM_push_8 rfl (lv_at hl 1 rfl) ?_
  refine zz_aast hx hb hK.1 hM.2.2.1 hX rfl hL (show rmFr o (o + 2) from Or.inr (Or.inl rfl)) 4 rfl (rm_asg hE rfl zn_687) (i := h) (by omega) (by decide) d_RM_push_9 (fun H locs h1 hu hL => ?_)
  have hS := hS.up hu (show rmFr o (o + 2) from Or.inr (Or.inl rfl))
  have hM : RmAt D ca H o n h rl (va_up S h (some y)) K := ⟨zz_keep hu (show o ≠ o + 2 by omega) hM.1, zz_keep hu (show o + 1 ≠ o + 2 by omega) hM.2.1, h1, zz_keep hu (show o + 7 ≠ o + 2 by omega) hM.2.2.2⟩
  refine lv_aload_n hx hb d_RM_push_10 rfl (lv_at hl 0 rfl) ?_
  refine lv_dup hx hb d_RM_push_11 rfl ?_
  refine fg_RM_68 hE hM.1 rfl d_RM_push_12 ?_
  refine lv_iconst (v := nI 1) hx hb d_RM_push_15 (by decide) ?_
  refine zz_iadd hx hb d_RM_push_16 ?_
  refine fp_RM_68 hE hM.1 hL (show rmFr o o from Or.inl rfl) (Nat.le_of_ble_eq_true rfl) d_RM_push_17 (fun H locs h1 hu hL => ?_)
  have hS := hS.up hu (show rmFr o o from Or.inl rfl)
  have hM : RmAt D ca H o n (h + 1) rl (va_up S h (some y)) K := ⟨h1, zz_keep hu (show o + 1 ≠ o by omega) hM.2.1, zz_keep hu (show o + 2 ≠ o by omega) hM.2.2.1, zz_keep hu (show o + 7 ≠ o by omega) hM.2.2.2⟩
  exact zz_vret hx hb hr hlk ⟨rfl, hS, hM⟩ hL d_RM_push_20

set_option maxHeartbeats 4000000 in
set_option maxRecDepth 100000 in
theorem k_RM_push_Jo (l : Launch) (D : va_G) (ca : Nat → ClassId) (o n h : Nat) (rl : Option Nat) (S : Nat → Option Nat) (K : Nat → Nat) (y : Nat) (vs : List Value) (hh : h < 6) : Met l y_RM_push w_RM_push (zr 0 0 0) (zz_P D ca [.ref o, .ref y] (fun H => RmAt D ca H o n h rl S K ∧ va_at D zC (y, .inr (4, vs)) H)) (zz_Q (fun H H1 v => v = none ∧ zz_fr (rmFr o) H H1 ∧ RmAt D ca H1 o n (h + 1) rl (va_up S h (some y)) K)) 0 0 (rmFr o) := by
  refine zz_met (cc := c_RM_push) (by decide) (Nat.le_of_ble_eq_true rfl) ?_
  intro p e s m below meth c ls hE hr hlk hnm ⟨hM, hX⟩ hl
  have hx := hE.1.1
  have hb := hE.1.2.1
  have hK := hE.2
  have hl : lv_has ls 2 [(0, .ref o), (1, .ref y)] := hl
  have hL : zz_L (rmFr o) ([] : List Loc) := zz_L.nil
  have hS : zz_fr (rmFr o) s.heap s.heap := zz_fr.rf
  refine lv_aload_n hx hb d_RM_push_0 rfl (lv_at hl 0 rfl) ?_
  refine fg_RM_17 hE hM.1 rfl d_RM_push_1 ?_
  refine lv_aload_n hx hb d_RM_push_4 rfl (lv_at hl 0 rfl) ?_
  refine fg_RM_68 hE hM.1 rfl d_RM_push_5 ?_
  refine lv_aload_n hx hb d_RM_push_8 rfl (lv_at hl 1 rfl) ?_
  refine zz_aast hx hb hK.1 hM.2.2.1 hX rfl hL (show rmFr o (o + 2) from Or.inr (Or.inl rfl)) 4 rfl (rm_asg hE rfl zn_689) (i := h) (by omega) (by decide) d_RM_push_9 (fun H locs h1 hu hL => ?_)
  have hS := hS.up hu (show rmFr o (o + 2) from Or.inr (Or.inl rfl))
  have hM : RmAt D ca H o n h rl (va_up S h (some y)) K := ⟨zz_keep hu (show o ≠ o + 2 by omega) hM.1, zz_keep hu (show o + 1 ≠ o + 2 by omega) hM.2.1, h1, zz_keep hu (show o + 7 ≠ o + 2 by omega) hM.2.2.2⟩
  refine lv_aload_n hx hb d_RM_push_10 rfl (lv_at hl 0 rfl) ?_
  refine lv_dup hx hb d_RM_push_11 rfl ?_
  refine fg_RM_68 hE hM.1 rfl d_RM_push_12 ?_
  refine lv_iconst (v := nI 1) hx hb d_RM_push_15 (by decide) ?_
  refine zz_iadd hx hb d_RM_push_16 ?_
  refine fp_RM_68 hE hM.1 hL (show rmFr o o from Or.inl rfl) (Nat.le_of_ble_eq_true rfl) d_RM_push_17 (fun H locs h1 hu hL => ?_)
  have hS := hS.up hu (show rmFr o o from Or.inl rfl)
  have hM : RmAt D ca H o n (h + 1) rl (va_up S h (some y)) K := ⟨h1, zz_keep hu (show o + 1 ≠ o by omega) hM.2.1, zz_keep hu (show o + 2 ≠ o by omega) hM.2.2.1, zz_keep hu (show o + 7 ≠ o by omega) hM.2.2.2⟩
  exact zz_vret hx hb hr hlk ⟨rfl, hS, hM⟩ hL d_RM_push_20

set_option maxHeartbeats 4000000 in
set_option maxRecDepth 100000 in
theorem k_RM_discard (l : Launch) (D : va_G) (ca : Nat → ClassId) (o n h : Nat) (rl : Option Nat) (S : Nat → Option Nat) (K : Nat → Nat) (hh : h ≤ 6) : Met l y_RM_discard w_RM_discard (zr 0 0 0) (zz_P D ca [.ref o] (fun H => RmAt D ca H o n h rl S K)) (zz_Q (fun H H1 v => v = some (.int (nI (decide (0 < h)).toNat)) ∧ zz_fr (rmFr o) H H1 ∧ RmAt D ca H1 o n (h - 1) rl S K)) 0 0 (rmFr o) := by
  refine zz_met (cc := c_RM_discard) (by decide) (Nat.le_of_ble_eq_true rfl) ?_
  intro p e s m below meth c ls hE hr hlk hnm hM hl
  have hx := hE.1.1
  have hb := hE.1.2.1
  have hK := hE.2
  have hl : lv_has ls 1 [(0, .ref o)] := hl
  have hL : zz_L (rmFr o) ([] : List Loc) := zz_L.nil
  have hS : zz_fr (rmFr o) s.heap s.heap := zz_fr.rf
  refine lv_aload_n hx hb d_RM_discard_0 rfl (lv_at hl 0 rfl) ?_
  refine fg_RM_68 hE hM.1 rfl d_RM_discard_1 ?_
  refine zz_ne0 hx hb (by omega) d_RM_discard_4 (tgt := 9) rfl (fun hT4 => ?_) (fun hF4 => ?_)
  · refine lv_aload_n hx hb d_RM_discard_9 rfl (lv_at hl 0 rfl) ?_
    refine lv_dup hx hb d_RM_discard_10 rfl ?_
    refine fg_RM_68 hE hM.1 rfl d_RM_discard_11 ?_
    refine lv_iconst (v := nI 1) hx hb d_RM_discard_14 (by decide) ?_
    refine zz_isub (by omega) hx hb d_RM_discard_15 ?_
    refine fp_RM_68 hE hM.1 hL (show rmFr o o from Or.inl rfl) (Nat.le_of_ble_eq_true rfl) d_RM_discard_16 (fun H locs h1 hu hL => ?_)
    have hS := hS.up hu (show rmFr o o from Or.inl rfl)
    have hM : RmAt D ca H o n (h - 1) rl S K := ⟨h1, zz_keep hu (show o + 1 ≠ o by omega) hM.2.1, zz_keep hu (show o + 2 ≠ o by omega) hM.2.2.1, zz_keep hu (show o + 7 ≠ o by omega) hM.2.2.2⟩
    refine lv_iconst (v := nI 1) hx hb d_RM_discard_19 (by decide) ?_
    exact zz_iret hx hb hr hlk rfl ⟨by simp [hT4], hS, by exact hM⟩ hL d_RM_discard_20
  · refine lv_iconst (v := nI 0) hx hb d_RM_discard_7 (by decide) ?_
    exact zz_iret hx hb hr hlk rfl ⟨by simp [hF4], hS, by subst hF4; exact hM⟩ hL d_RM_discard_8

set_option maxHeartbeats 4000000 in
set_option maxRecDepth 100000 in
theorem k_RM_keep (l : Launch) (D : va_G) (ca : Nat → ClassId) (o n h : Nat) (rl : Option Nat) (S : Nat → Option Nat) (K : Nat → Nat) (x y : Int32) : Met l y_RM_keep w_RM_keep (zr 1 0 0) (zz_P D ca [.ref o, .int x, .int y] (fun H => RmAt D ca H o n h rl S K)) (zz_Q (fun H H1 v => v = some (.int (nI (aKeep x y).toNat)) ∧ zz_fr (rmFr o) H H1 ∧ RmAt D ca H1 o n h rl S (if aKeep x y = true then va_up K (cN x) (cN y) else K))) 0 0 (rmFr o) := by
  refine zz_met (cc := c_RM_keep) (by decide) (Nat.le_of_ble_eq_true rfl) ?_
  intro p e s m below meth c ls hE hr hlk hnm hM hl
  have hx := hE.1.1
  have hb := hE.1.2.1
  have hK := hE.2
  have hl : lv_has ls 3 [(0, .ref o), (1, .int x), (2, .int y)] := hl
  have hL : zz_L (rmFr o) ([] : List Loc) := zz_L.nil
  have hS : zz_fr (rmFr o) s.heap s.heap := zz_fr.rf
  refine lv_iload_n hx hb d_RM_keep_0 rfl (lv_at hl 1 rfl) ?_
  refine zz_callP (cl_RM_33 (rest := []) hE (k_RM_isField l D ca x) ⟨rfl, rfl, by decide, by decide⟩ trivial rfl hl.1 rfl (Nat.le_of_ble_eq_true rfl) d_RM_keep_1 ⟨by decide, by decide⟩) ?_
  refine zz_eqB hx hb d_RM_keep_4 (tgt := 16) rfl (fun hT4 => ?_) (fun hF4 => ?_)
  · refine lv_iconst (v := nI 0) hx hb d_RM_keep_16 (by decide) ?_
    have hval : aKeep x y = false := by unfold aKeep; simp [hT4]
    exact zz_iret hx hb hr hlk rfl ⟨by rw [hval]; rfl, hS, by rw [hval]; exact hM⟩ hL d_RM_keep_17
  · refine lv_iload_n hx hb d_RM_keep_7 rfl (lv_at hl 2 rfl) ?_
    refine lv_if_lt hx hb d_RM_keep_8 (tgt := 16) rfl (fun hT8 => ?_) (fun hF8 => ?_)
    · refine lv_iconst (v := nI 0) hx hb d_RM_keep_16 (by decide) ?_
      have hval : aKeep x y = false := by unfold aKeep; simp [zisR, hT8]
      exact zz_iret hx hb hr hlk rfl ⟨by rw [hval]; rfl, hS, by rw [hval]; exact hM⟩ hL d_RM_keep_17
    · refine lv_iload_n hx hb d_RM_keep_11 rfl (lv_at hl 2 rfl) ?_
      refine lv_iconst (v := nI 2) hx hb d_RM_keep_12 (by decide) ?_
      refine lv_icmp_le hx hb d_RM_keep_13 (tgt := 18) rfl (fun hT13 => ?_) (fun hF13 => ?_)
      · have hx4 := hF4
        have hy4 : zisR 3 y = true := by simp only [zisR, decide_eq_false hF8, decide_eq_false (zz_ngt2 hT13)]; rfl
        obtain ⟨x0, hx0, rfl⟩ := zisF_nat hF4
        obtain ⟨y0, hy0, rfl⟩ := zisR_nat hy4 (by decide)
        have cx : cN (nI x0) = x0 := nI_clamp (by omega)
        have cy : cN (nI y0) = y0 := nI_clamp (by omega)
        refine lv_aload_n hx hb d_RM_keep_18 rfl (lv_at hl 0 rfl) ?_
        refine fg_RM_28 hE hM.1 rfl d_RM_keep_19 ?_
        refine lv_iload_n hx hb d_RM_keep_22 rfl (lv_at hl 1 rfl) ?_
        refine lv_iload_n hx hb d_RM_keep_23 rfl (lv_at hl 2 rfl) ?_
        refine zz_iast hx hb hK.1 hM.2.2.2 hL (show rmFr o (o + 7) from Or.inr (Or.inr rfl)) 0 rfl (i := x0) (by omega) (by decide) d_RM_keep_24 (fun H locs h1 hu hL => ?_)
        rw [te_up] at h1
        have hS := hS.up hu (show rmFr o (o + 7) from Or.inr (Or.inr rfl))
        have hM : RmAt D ca H o n h rl S (va_up K x0 y0) := ⟨zz_keep hu (show o ≠ o + 7 by omega) hM.1, zz_keep hu (show o + 1 ≠ o + 7 by omega) hM.2.1, zz_keep hu (show o + 2 ≠ o + 7 by omega) hM.2.2.1, h1⟩
        refine lv_iconst (v := nI 1) hx hb d_RM_keep_25 (by decide) ?_
        have hval : aKeep (nI x0) (nI y0) = true := by unfold aKeep; rw [hx4, hy4]; rfl
        exact zz_iret hx hb hr hlk rfl ⟨by rw [hval]; rfl, hS, by rw [hval]; rw [if_pos rfl, cx, cy]; exact hM⟩ hL d_RM_keep_26
      · refine lv_iconst (v := nI 0) hx hb d_RM_keep_16 (by decide) ?_
        have hval : aKeep x y = false := by unfold aKeep; simp [zisR, zz_gt2 (k2_lt hF13)]
        exact zz_iret hx hb hr hlk rfl ⟨by rw [hval]; rfl, hS, by rw [hval]; exact hM⟩ hL d_RM_keep_17
