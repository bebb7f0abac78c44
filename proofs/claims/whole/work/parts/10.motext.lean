set_option maxHeartbeats 4000000 in
set_option maxRecDepth 100000 in
theorem k_Mo_isRecord (l : Launch) (D : va_G) (ca : Nat → ClassId) (r n t rs w : Nat) (A : Nat → Nat → Nat) (x : Int32) : Met l y_Mo_isRecord w_Mo_isRecord (zr 0 0 0) (zz_P D ca [.ref r, .int x] (fun H => MoAt D ca H r n t rs w A)) (zz_Q (fun H H1 v => H1 = H ∧ v = some (.int (nI (zisR n x).toNat)))) 0 0 (fun _ => False) := by
  refine zz_met (cc := c_Mo_isRecord) (by decide) (Nat.le_of_ble_eq_true rfl) ?_
  intro p e s m below meth c ls hE hr hlk hnm hM hl
  have hx := hE.1.1
  have hb := hE.1.2.1
  have hK := hE.2
  have hl : lv_has ls 2 [(0, .ref r), (1, .int x)] := hl
  have hL : zz_L (fun _ => False) ([] : List Loc) := zz_L.nil
  refine lv_iload_n hx hb d_Mo_isRecord_0 rfl (lv_at hl 1 rfl) ?_
  refine lv_if_lt hx hb d_Mo_isRecord_1 (tgt := 16) rfl (fun hT1 => ?_) (fun hF1 => ?_)
  · refine lv_iconst (v := nI 0) hx hb d_Mo_isRecord_16 (by decide) ?_
    exact zz_iret hx hb hr hlk rfl ⟨rfl, congrArg (fun z => some (Value.int z)) (by simp [zisR, hT1])⟩ hL d_Mo_isRecord_17
  · refine lv_iload_n hx hb d_Mo_isRecord_4 rfl (lv_at hl 1 rfl) ?_
    refine lv_aload_n hx hb d_Mo_isRecord_5 rfl (lv_at hl 0 rfl) ?_
    refine fg_Mo_65 hE hM.1 rfl d_Mo_isRecord_6 ?_
    refine lv_icmp_ge hx hb d_Mo_isRecord_9 (tgt := 16) rfl (fun hT9 => ?_) (fun hF9 => ?_)
    · refine lv_iconst (v := nI 0) hx hb d_Mo_isRecord_16 (by decide) ?_
      exact zz_iret hx hb hr hlk rfl ⟨rfl, congrArg (fun z => some (Value.int z)) (by simp [zisR, hF1, hT9])⟩ hL d_Mo_isRecord_17
    · refine lv_iconst (v := nI 1) hx hb d_Mo_isRecord_12 (by decide) ?_
      refine lv_goto hx hb d_Mo_isRecord_13 (tgt := 17) rfl ?_
      exact zz_iret hx hb hr hlk rfl ⟨rfl, congrArg (fun z => some (Value.int z)) (by simp [zisR, hF1, hF9])⟩ hL d_Mo_isRecord_17

set_option maxHeartbeats 4000000 in
set_option maxRecDepth 100000 in
theorem k_Mo_isField (l : Launch) (D : va_G) (ca : Nat → ClassId) (x : Int32) : Met l y_Mo_isField w_Mo_isField (zr 0 0 0) (zz_P D ca [.int x] (fun H => True)) (zz_Q (fun H H1 v => H1 = H ∧ v = some (.int (nI (zisF x).toNat)))) 0 0 (fun _ => False) := by
  refine zz_met (cc := c_Mo_isField) (by decide) (Nat.le_of_ble_eq_true rfl) ?_
  intro p e s m below meth c ls hE hr hlk hnm hM hl
  have hx := hE.1.1
  have hb := hE.1.2.1
  have hK := hE.2
  have hl : lv_has ls 1 [(0, .int x)] := hl
  have hL : zz_L (fun _ => False) ([] : List Loc) := zz_L.nil
  refine lv_iload_n hx hb d_Mo_isField_0 rfl (lv_at hl 0 rfl) ?_
  refine lv_if_eq hx hb d_Mo_isField_1 (tgt := 9) rfl (fun hT1 => ?_) (fun hF1 => ?_)
  · refine lv_iconst (v := nI 1) hx hb d_Mo_isField_9 (by decide) ?_
    refine lv_goto hx hb d_Mo_isField_10 (tgt := 14) rfl ?_
    exact zz_iret hx hb hr hlk rfl ⟨rfl, congrArg (fun z => some (Value.int z)) (by simp_all [zisF, show nI 1 = (1 : Int32) from rfl])⟩ hL d_Mo_isField_14
  · refine lv_iload_n hx hb d_Mo_isField_4 rfl (lv_at hl 0 rfl) ?_
    refine lv_iconst (v := nI 1) hx hb d_Mo_isField_5 (by decide) ?_
    refine lv_icmp_ne hx hb d_Mo_isField_6 (tgt := 13) rfl (fun hT6 => ?_) (fun hF6 => ?_)
    · refine lv_iconst (v := nI 0) hx hb d_Mo_isField_13 (by decide) ?_
      exact zz_iret hx hb hr hlk rfl ⟨rfl, congrArg (fun z => some (Value.int z)) (by simp_all [zisF, show nI 1 = (1 : Int32) from rfl])⟩ hL d_Mo_isField_14
    · refine lv_iconst (v := nI 1) hx hb d_Mo_isField_9 (by decide) ?_
      refine lv_goto hx hb d_Mo_isField_10 (tgt := 14) rfl ?_
      exact zz_iret hx hb hr hlk rfl ⟨rfl, congrArg (fun z => some (Value.int z)) (by simp_all [zisF, show nI 1 = (1 : Int32) from rfl])⟩ hL d_Mo_isField_14

set_option maxHeartbeats 4000000 in
set_option maxRecDepth 100000 in
theorem k_Mo_letter (l : Launch) (D : va_G) (ca : Nat → ClassId) (x : Nat) (hx0 : x < 256) : Met l y_Mo_letter w_Mo_letter (zr 0 0 0) (zz_P D ca [.int (nI x)] (fun H => True)) (zz_Q (fun H H1 v => H1 = H ∧ v = some (.int (nI (mLet x))))) 0 0 (fun _ => False) := by
  refine zz_met (cc := c_Mo_letter) (by decide) (Nat.le_of_ble_eq_true rfl) ?_
  intro p e s m below meth c ls hE hr hlk hnm hM hl
  have hx := hE.1.1
  have hb := hE.1.2.1
  have hK := hE.2
  have hl : lv_has ls 1 [(0, .int (nI x))] := hl
  have hL : zz_L (fun _ => False) ([] : List Loc) := zz_L.nil
  refine lv_iload_n hx hb d_Mo_letter_0 rfl (lv_at hl 0 rfl) ?_
  refine lv_bipush (v := nI 48) hx hb d_Mo_letter_1 (by decide) ?_
  refine zz_lt hx hb (by omega) (by omega) d_Mo_letter_3 (tgt := 12) rfl (fun hT3 => ?_) (fun hF3 => ?_)
  · refine lv_iload_n hx hb d_Mo_letter_12 rfl (lv_at hl 0 rfl) ?_
    refine lv_bipush (v := nI 97) hx hb d_Mo_letter_13 (by decide) ?_
    refine zz_lt hx hb (by omega) (by omega) d_Mo_letter_15 (tgt := 28) rfl (fun hT15 => ?_) (fun hF15 => ?_)
    · refine lv_iload_n hx hb d_Mo_letter_28 rfl (lv_at hl 0 rfl) ?_
      refine lv_bipush (v := nI 65) hx hb d_Mo_letter_29 (by decide) ?_
      refine zz_lt hx hb (by omega) (by omega) d_Mo_letter_31 (tgt := 47) rfl (fun hT31 => ?_) (fun hF31 => ?_)
      · refine lv_iconst (v := nI 0) hx hb d_Mo_letter_47 (by decide) ?_
        exact zz_iret hx hb hr hlk rfl ⟨rfl, congrArg (fun z => some (Value.int z)) (congrArg nI (by unfold mLet; split <;> (try split) <;> omega : 0 = mLet x))⟩ hL d_Mo_letter_48
      · refine lv_iload_n hx hb d_Mo_letter_34 rfl (lv_at hl 0 rfl) ?_
        refine lv_bipush (v := nI 90) hx hb d_Mo_letter_35 (by decide) ?_
        refine zz_gt hx hb (by omega) (by omega) d_Mo_letter_37 (tgt := 47) rfl (fun hT37 => ?_) (fun hF37 => ?_)
        · refine lv_iconst (v := nI 0) hx hb d_Mo_letter_47 (by decide) ?_
          exact zz_iret hx hb hr hlk rfl ⟨rfl, congrArg (fun z => some (Value.int z)) (congrArg nI (by unfold mLet; split <;> (try split) <;> omega : 0 = mLet x))⟩ hL d_Mo_letter_48
        · refine lv_iload_n hx hb d_Mo_letter_40 rfl (lv_at hl 0 rfl) ?_
          refine lv_bipush (v := nI 32) hx hb d_Mo_letter_41 (by decide) ?_
          refine zz_iadd hx hb d_Mo_letter_43 ?_
          refine lv_goto hx hb d_Mo_letter_44 (tgt := 48) rfl ?_
          exact zz_iret hx hb hr hlk rfl ⟨rfl, congrArg (fun z => some (Value.int z)) (congrArg nI (by unfold mLet; split <;> (try split) <;> omega : x + 32 = mLet x))⟩ hL d_Mo_letter_48
    · refine lv_iload_n hx hb d_Mo_letter_18 rfl (lv_at hl 0 rfl) ?_
      refine lv_bipush (v := nI 122) hx hb d_Mo_letter_19 (by decide) ?_
      refine zz_gt hx hb (by omega) (by omega) d_Mo_letter_21 (tgt := 28) rfl (fun hT21 => ?_) (fun hF21 => ?_)
      · refine lv_iload_n hx hb d_Mo_letter_28 rfl (lv_at hl 0 rfl) ?_
        refine lv_bipush (v := nI 65) hx hb d_Mo_letter_29 (by decide) ?_
        refine zz_lt hx hb (by omega) (by omega) d_Mo_letter_31 (tgt := 47) rfl (fun hT31 => ?_) (fun hF31 => ?_)
        · refine lv_iconst (v := nI 0) hx hb d_Mo_letter_47 (by decide) ?_
          exact zz_iret hx hb hr hlk rfl ⟨rfl, congrArg (fun z => some (Value.int z)) (congrArg nI (by unfold mLet; split <;> (try split) <;> omega : 0 = mLet x))⟩ hL d_Mo_letter_48
        · refine lv_iload_n hx hb d_Mo_letter_34 rfl (lv_at hl 0 rfl) ?_
          refine lv_bipush (v := nI 90) hx hb d_Mo_letter_35 (by decide) ?_
          refine zz_gt hx hb (by omega) (by omega) d_Mo_letter_37 (tgt := 47) rfl (fun hT37 => ?_) (fun hF37 => ?_)
          · refine lv_iconst (v := nI 0) hx hb d_Mo_letter_47 (by decide) ?_
            exact zz_iret hx hb hr hlk rfl ⟨rfl, congrArg (fun z => some (Value.int z)) (congrArg nI (by unfold mLet; split <;> (try split) <;> omega : 0 = mLet x))⟩ hL d_Mo_letter_48
          · refine lv_iload_n hx hb d_Mo_letter_40 rfl (lv_at hl 0 rfl) ?_
            refine lv_bipush (v := nI 32) hx hb d_Mo_letter_41 (by decide) ?_
            refine zz_iadd hx hb d_Mo_letter_43 ?_
            refine lv_goto hx hb d_Mo_letter_44 (tgt := 48) rfl ?_
            exact zz_iret hx hb hr hlk rfl ⟨rfl, congrArg (fun z => some (Value.int z)) (congrArg nI (by unfold mLet; split <;> (try split) <;> omega : x + 32 = mLet x))⟩ hL d_Mo_letter_48
      · refine lv_iload_n hx hb d_Mo_letter_24 rfl (lv_at hl 0 rfl) ?_
        refine lv_goto hx hb d_Mo_letter_25 (tgt := 48) rfl ?_
        exact zz_iret hx hb hr hlk rfl ⟨rfl, congrArg (fun z => some (Value.int z)) (congrArg nI (by unfold mLet; split <;> (try split) <;> omega : x = mLet x))⟩ hL d_Mo_letter_48
  · refine lv_iload_n hx hb d_Mo_letter_6 rfl (lv_at hl 0 rfl) ?_
    refine lv_bipush (v := nI 57) hx hb d_Mo_letter_7 (by decide) ?_
    refine zz_le hx hb (by omega) (by omega) d_Mo_letter_9 (tgt := 24) rfl (fun hT9 => ?_) (fun hF9 => ?_)
    · refine lv_iload_n hx hb d_Mo_letter_24 rfl (lv_at hl 0 rfl) ?_
      refine lv_goto hx hb d_Mo_letter_25 (tgt := 48) rfl ?_
      exact zz_iret hx hb hr hlk rfl ⟨rfl, congrArg (fun z => some (Value.int z)) (congrArg nI (by unfold mLet; split <;> (try split) <;> omega : x = mLet x))⟩ hL d_Mo_letter_48
    · refine lv_iload_n hx hb d_Mo_letter_12 rfl (lv_at hl 0 rfl) ?_
      refine lv_bipush (v := nI 97) hx hb d_Mo_letter_13 (by decide) ?_
      refine zz_lt hx hb (by omega) (by omega) d_Mo_letter_15 (tgt := 28) rfl (fun hT15 => ?_) (fun hF15 => ?_)
      · refine lv_iload_n hx hb d_Mo_letter_28 rfl (lv_at hl 0 rfl) ?_
        refine lv_bipush (v := nI 65) hx hb d_Mo_letter_29 (by decide) ?_
        refine zz_lt hx hb (by omega) (by omega) d_Mo_letter_31 (tgt := 47) rfl (fun hT31 => ?_) (fun hF31 => ?_)
        · refine lv_iconst (v := nI 0) hx hb d_Mo_letter_47 (by decide) ?_
          exact zz_iret hx hb hr hlk rfl ⟨rfl, congrArg (fun z => some (Value.int z)) (congrArg nI (by unfold mLet; split <;> (try split) <;> omega : 0 = mLet x))⟩ hL d_Mo_letter_48
        · refine lv_iload_n hx hb d_Mo_letter_34 rfl (lv_at hl 0 rfl) ?_
          refine lv_bipush (v := nI 90) hx hb d_Mo_letter_35 (by decide) ?_
          refine zz_gt hx hb (by omega) (by omega) d_Mo_letter_37 (tgt := 47) rfl (fun hT37 => ?_) (fun hF37 => ?_)
          · refine lv_iconst (v := nI 0) hx hb d_Mo_letter_47 (by decide) ?_
            exact zz_iret hx hb hr hlk rfl ⟨rfl, congrArg (fun z => some (Value.int z)) (congrArg nI (by unfold mLet; split <;> (try split) <;> omega : 0 = mLet x))⟩ hL d_Mo_letter_48
          · refine lv_iload_n hx hb d_Mo_letter_40 rfl (lv_at hl 0 rfl) ?_
            refine lv_bipush (v := nI 32) hx hb d_Mo_letter_41 (by decide) ?_
            refine zz_iadd hx hb d_Mo_letter_43 ?_
            refine lv_goto hx hb d_Mo_letter_44 (tgt := 48) rfl ?_
            exact zz_iret hx hb hr hlk rfl ⟨rfl, congrArg (fun z => some (Value.int z)) (congrArg nI (by unfold mLet; split <;> (try split) <;> omega : x + 32 = mLet x))⟩ hL d_Mo_letter_48
      · refine lv_iload_n hx hb d_Mo_letter_18 rfl (lv_at hl 0 rfl) ?_
        refine lv_bipush (v := nI 122) hx hb d_Mo_letter_19 (by decide) ?_
        refine zz_gt hx hb (by omega) (by omega) d_Mo_letter_21 (tgt := 28) rfl (fun hT21 => ?_) (fun hF21 => ?_)
        · refine lv_iload_n hx hb d_Mo_letter_28 rfl (lv_at hl 0 rfl) ?_
          refine lv_bipush (v := nI 65) hx hb d_Mo_letter_29 (by decide) ?_
          refine zz_lt hx hb (by omega) (by omega) d_Mo_letter_31 (tgt := 47) rfl (fun hT31 => ?_) (fun hF31 => ?_)
          · refine lv_iconst (v := nI 0) hx hb d_Mo_letter_47 (by decide) ?_
            exact zz_iret hx hb hr hlk rfl ⟨rfl, congrArg (fun z => some (Value.int z)) (congrArg nI (by unfold mLet; split <;> (try split) <;> omega : 0 = mLet x))⟩ hL d_Mo_letter_48
          · refine lv_iload_n hx hb d_Mo_letter_34 rfl (lv_at hl 0 rfl) ?_
            refine lv_bipush (v := nI 90) hx hb d_Mo_letter_35 (by decide) ?_
            refine zz_gt hx hb (by omega) (by omega) d_Mo_letter_37 (tgt := 47) rfl (fun hT37 => ?_) (fun hF37 => ?_)
            · refine lv_iconst (v := nI 0) hx hb d_Mo_letter_47 (by decide) ?_
              exact zz_iret hx hb hr hlk rfl ⟨rfl, congrArg (fun z => some (Value.int z)) (congrArg nI (by unfold mLet; split <;> (try split) <;> omega : 0 = mLet x))⟩ hL d_Mo_letter_48
            · refine lv_iload_n hx hb d_Mo_letter_40 rfl (lv_at hl 0 rfl) ?_
              refine lv_bipush (v := nI 32) hx hb d_Mo_letter_41 (by decide) ?_
              refine zz_iadd hx hb d_Mo_letter_43 ?_
              refine lv_goto hx hb d_Mo_letter_44 (tgt := 48) rfl ?_
              exact zz_iret hx hb hr hlk rfl ⟨rfl, congrArg (fun z => some (Value.int z)) (congrArg nI (by unfold mLet; split <;> (try split) <;> omega : x + 32 = mLet x))⟩ hL d_Mo_letter_48
        · refine lv_iload_n hx hb d_Mo_letter_24 rfl (lv_at hl 0 rfl) ?_
          refine lv_goto hx hb d_Mo_letter_25 (tgt := 48) rfl ?_
          exact zz_iret hx hb hr hlk rfl ⟨rfl, congrArg (fun z => some (Value.int z)) (congrArg nI (by unfold mLet; split <;> (try split) <;> omega : x = mLet x))⟩ hL d_Mo_letter_48

set_option maxHeartbeats 4000000 in
set_option maxRecDepth 100000 in
theorem k_Mo_at (l : Launch) (D : va_G) (ca : Nat → ClassId) (r n t rs w : Nat) (A : Nat → Nat → Nat) (q i : Nat) (hq : q ≤ 1) (hs : A 4 q ≤ 12) (hi : i < 64) : Met l y_Mo_at w_Mo_at (zr 0 0 0) (zz_P D ca [.ref r, .int (nI q), .int (nI i)] (fun H => MoAt D ca H r n t rs w A)) (zz_Q (fun H H1 v => H1 = H ∧ v = some (.int (nI (mAt A q i))))) 0 0 (fun _ => False) := by
  refine zz_met (cc := c_Mo_at) (by decide) (Nat.le_of_ble_eq_true rfl) ?_
  intro p e s m below meth c ls hE hr hlk hnm hM hl
  have hx := hE.1.1
  have hb := hE.1.2.1
  have hK := hE.2
  have hl : lv_has ls 3 [(0, .ref r), (1, .int (nI q)), (2, .int (nI i))] := hl
  have hL : zz_L (fun _ => False) ([] : List Loc) := zz_L.nil
  refine lv_iload_n hx hb d_Mo_at_0 rfl (lv_at hl 2 rfl) ?_
  refine lv_if_lt hx hb d_Mo_at_1 (tgt := 28) rfl (fun hT1 => ?_) (fun hF1 => ?_)
  · exact absurd hT1 (nI_pos (by omega))
  · refine lv_iload_n hx hb d_Mo_at_4 rfl (lv_at hl 2 rfl) ?_
    refine lv_aload_n hx hb d_Mo_at_5 rfl (lv_at hl 0 rfl) ?_
    refine fg_Mo_19 hE hM.1 rfl d_Mo_at_6 ?_
    refine lv_iload_n hx hb d_Mo_at_9 rfl (lv_at hl 1 rfl) ?_
    refine mo_ld hE hM 4 (by decide) (i := q) (show q < 2 by omega) d_Mo_at_10 ?_
    refine zz_ge hx hb (by omega) (by omega) d_Mo_at_11 (tgt := 28) rfl (fun hT11 => ?_) (fun hF11 => ?_)
    · refine lv_bipush (v := nI 32) hx hb d_Mo_at_28 (by decide) ?_
      exact zz_iret hx hb hr hlk rfl ⟨rfl, congrArg (fun z => some (Value.int z)) (congrArg nI (by unfold mAt; split <;> omega : 32 = mAt A q i))⟩ hL d_Mo_at_30
    · refine lv_aload_n hx hb d_Mo_at_14 rfl (lv_at hl 0 rfl) ?_
      refine fg_Mo_16 hE hM.1 rfl d_Mo_at_15 ?_
      refine lv_bipush (v := nI 12) hx hb d_Mo_at_18 (by decide) ?_
      refine lv_iload_n hx hb d_Mo_at_20 rfl (lv_at hl 1 rfl) ?_
      refine zz_imul hx hb d_Mo_at_21 ?_
      refine lv_iload_n hx hb d_Mo_at_22 rfl (lv_at hl 2 rfl) ?_
      refine zz_iadd hx hb d_Mo_at_23 ?_
      refine mo_ld hE hM 3 (by decide) (i := (12 * q) + i) (show (12 * q) + i < 24 by omega) d_Mo_at_24 ?_
      refine lv_goto hx hb d_Mo_at_25 (tgt := 30) rfl ?_
      exact zz_iret hx hb hr hlk rfl ⟨rfl, congrArg (fun z => some (Value.int z)) (congrArg nI (by unfold mAt; split <;> omega : A 3 ((12 * q) + i) = mAt A q i))⟩ hL d_Mo_at_30

set_option maxHeartbeats 4000000 in
set_option maxRecDepth 100000 in
theorem k_Mo_atm (l : Launch) (D : va_G) (ca : Nat → ClassId) (r n t rs w : Nat) (A : Nat → Nat → Nat) (q : Nat) : Met l y_Mo_at w_Mo_at (zr 0 0 0) (zz_P D ca [.ref r, .int (nI q), .int (-1 : Int32)] (fun H => MoAt D ca H r n t rs w A)) (zz_Q (fun H H1 v => H1 = H ∧ v = some (.int (nI 32)))) 0 0 (fun _ => False) := by
  refine zz_met (cc := c_Mo_at) (by decide) (Nat.le_of_ble_eq_true rfl) ?_
  intro p e s m below meth c ls hE hr hlk hnm hM hl
  have hx := hE.1.1
  have hb := hE.1.2.1
  have hK := hE.2
  have hl : lv_has ls 3 [(0, .ref r), (1, .int (nI q)), (2, .int (-1 : Int32))] := hl
  have hL : zz_L (fun _ => False) ([] : List Loc) := zz_L.nil
  refine lv_iload_n hx hb d_Mo_at_0 rfl (lv_at hl 2 rfl) ?_
  refine lv_if_lt hx hb d_Mo_at_1 (tgt := 28) rfl (fun hT1 => ?_) (fun hF1 => ?_)
  · refine lv_bipush (v := nI 32) hx hb d_Mo_at_28 (by decide) ?_
    exact zz_iret hx hb hr hlk rfl ⟨rfl, congrArg (fun z => some (Value.int z)) (rfl)⟩ hL d_Mo_at_30
  · exact absurd (by decide) hF1

theorem mAt_lt {A : Nat → Nat → Nat} {q i : Nat} (h : ∀ j, j < 24 → A 3 j < 256) (hq : q ≤ 1) (hs : A 4 q ≤ 12) : mAt A q i < 256 := by
  unfold mAt
  split
  · exact h _ (by omega)
  · decide

set_option maxHeartbeats 4000000 in
set_option maxRecDepth 100000 in
theorem k_Mo_begins (l : Launch) (D : va_G) (ca : Nat → ClassId) (r n t rs w : Nat) (A : Nat → Nat → Nat) (q i : Nat) (hq : q ≤ 1) (hs : A 4 q ≤ 12) (hc : ∀ j, j < 24 → A 3 j < 256) (hi : i < 64) : Met l y_Mo_begins w_Mo_begins (zr 1 0 0) (zz_P D ca [.ref r, .int (nI q), .int (nI i)] (fun H => MoAt D ca H r n t rs w A)) (zz_Q (fun H H1 v => H1 = H ∧ v = some (.int (nI (mBg A q i).toNat)))) 0 0 (fun _ => False) := by
  refine zz_met (cc := c_Mo_begins) (by decide) (Nat.le_of_ble_eq_true rfl) ?_
  intro p e s m below meth c ls hE hr hlk hnm hM hl
  have hx := hE.1.1
  have hb := hE.1.2.1
  have hK := hE.2
  have hl : lv_has ls 3 [(0, .ref r), (1, .int (nI q)), (2, .int (nI i))] := hl
  have hL : zz_L (fun _ => False) ([] : List Loc) := zz_L.nil
  have hz := fun i => mAt_lt (i := i) hc hq hs
  have hz1 := hz i
  have hz2 := hz (i - 1)
  refine lv_aload_n hx hb d_Mo_begins_0 rfl (lv_at hl 0 rfl) ?_
  refine lv_iload_n hx hb d_Mo_begins_1 rfl (lv_at hl 1 rfl) ?_
  refine lv_iload_n hx hb d_Mo_begins_2 rfl (lv_at hl 2 rfl) ?_
  refine zz_callP (cl_Mo_80 (rest := []) hE (k_Mo_at l D ca r n t rs w A q i (by omega) (by omega) (by omega)) ⟨rfl, rfl, by decide, by decide⟩ hM hM.1 rfl hl.1 rfl (Nat.le_of_ble_eq_true rfl) d_Mo_begins_3 ⟨by decide, by decide⟩) ?_
  refine lv_bipush (v := nI 32) hx hb d_Mo_begins_6 (by decide) ?_
  refine zz_eq hx hb (by omega) (by omega) d_Mo_begins_8 (tgt := 28) rfl (fun hT8 => ?_) (fun hF8 => ?_)
  · refine lv_iconst (v := nI 0) hx hb d_Mo_begins_28 (by decide) ?_
    exact zz_iret hx hb hr hlk rfl ⟨rfl, congrArg (fun z => some (Value.int z)) (by simp_all [mBg])⟩ hL d_Mo_begins_29
  · refine lv_aload_n hx hb d_Mo_begins_11 rfl (lv_at hl 0 rfl) ?_
    refine lv_iload_n hx hb d_Mo_begins_12 rfl (lv_at hl 1 rfl) ?_
    refine lv_iload_n hx hb d_Mo_begins_13 rfl (lv_at hl 2 rfl) ?_
    refine lv_iconst (v := nI 1) hx hb d_Mo_begins_14 (by decide) ?_
    rcases Nat.eq_zero_or_pos i with h0 | h0
    · subst h0
      refine lv_isub hx hb d_Mo_begins_15 ?_
      refine zz_top (y := (-1 : Int32)) (by decide) ?_
      refine zz_callP (cl_Mo_80 (rest := []) hE (k_Mo_atm l D ca r n t rs w A q) ⟨rfl, rfl, by decide, by decide⟩ hM hM.1 rfl hl.1 rfl (Nat.le_of_ble_eq_true rfl) d_Mo_begins_16 ⟨by decide, by decide⟩) ?_
      refine lv_bipush (v := nI 32) hx hb d_Mo_begins_19 (by decide) ?_
      refine zz_ne hx hb (by omega) (by omega) d_Mo_begins_21 (tgt := 28) rfl (fun hT21 => ?_) (fun hF21 => ?_)
      · refine lv_iconst (v := nI 0) hx hb d_Mo_begins_28 (by decide) ?_
        exact zz_iret hx hb hr hlk rfl ⟨rfl, congrArg (fun z => some (Value.int z)) (by simp_all [mBg])⟩ hL d_Mo_begins_29
      · refine lv_iconst (v := nI 1) hx hb d_Mo_begins_24 (by decide) ?_
        refine lv_goto hx hb d_Mo_begins_25 (tgt := 29) rfl ?_
        exact zz_iret hx hb hr hlk rfl ⟨rfl, congrArg (fun z => some (Value.int z)) (by simp_all [mBg])⟩ hL d_Mo_begins_29
    · refine zz_isub (by omega) hx hb d_Mo_begins_15 ?_
      have hi0 : ¬ i = 0 := by omega
      refine zz_callP (cl_Mo_80 (rest := []) hE (k_Mo_at l D ca r n t rs w A q (i - 1) (by omega) (by omega) (by omega)) ⟨rfl, rfl, by decide, by decide⟩ hM hM.1 rfl hl.1 rfl (Nat.le_of_ble_eq_true rfl) d_Mo_begins_16 ⟨by decide, by decide⟩) ?_
      refine lv_bipush (v := nI 32) hx hb d_Mo_begins_19 (by decide) ?_
      refine zz_ne hx hb (by omega) (by omega) d_Mo_begins_21 (tgt := 28) rfl (fun hT21 => ?_) (fun hF21 => ?_)
      · refine lv_iconst (v := nI 0) hx hb d_Mo_begins_28 (by decide) ?_
        exact zz_iret hx hb hr hlk rfl ⟨rfl, congrArg (fun z => some (Value.int z)) (by simp_all [mBg])⟩ hL d_Mo_begins_29
      · refine lv_iconst (v := nI 1) hx hb d_Mo_begins_24 (by decide) ?_
        refine lv_goto hx hb d_Mo_begins_25 (tgt := 29) rfl ?_
        exact zz_iret hx hb hr hlk rfl ⟨rfl, congrArg (fun z => some (Value.int z)) (by simp_all [mBg])⟩ hL d_Mo_begins_29

set_option maxHeartbeats 4000000 in
set_option maxRecDepth 100000 in
theorem k_Mo_sameWord (l : Launch) (D : va_G) (ca : Nat → ClassId) (r n t rs w : Nat) (A : Nat → Nat → Nat) (a2 i b2 j : Nat) (ha : a2 ≤ 1) (hb2 : b2 ≤ 1) (hsa : A 4 a2 ≤ 12) (hsb : A 4 b2 ≤ 12) (hc : ∀ j, j < 24 → A 3 j < 256) (hi : i < 32) (hj : j < 32) : Met l y_Mo_sameWord w_Mo_sameWord (zr 1 0 0) (zz_P D ca [.ref r, .int (nI a2), .int (nI i), .int (nI b2), .int (nI j)] (fun H => MoAt D ca H r n t rs w A)) (zz_Q (fun H H1 v => H1 = H ∧ v = some (.int (nI (mSw A a2 i b2 j).toNat)))) 0 0 (fun _ => False) := by
  refine zz_met (cc := c_Mo_sameWord) (by decide) (Nat.le_of_ble_eq_true rfl) ?_
  intro p e s m below meth c ls hE hr hlk hnm hM hl
  have hx := hE.1.1
  have hb := hE.1.2.1
  have hK := hE.2
  have hl : lv_has ls 6 [(0, .ref r), (1, .int (nI a2)), (2, .int (nI i)), (3, .int (nI b2)), (4, .int (nI j))] := hl
  have hL : zz_L (fun _ => False) ([] : List Loc) := zz_L.nil
  have hza := fun i => mAt_lt (i := i) hc ha hsa
  have hzb := fun i => mAt_lt (i := i) hc hb2 hsb
  refine lv_iconst (v := nI 0) hx hb d_Mo_sameWord_0 (by decide) ?_
  refine lv_istore hx hb d_Mo_sameWord_1 hl (by decide) rfl (fun ls hl => ?_)
  have hl : lv_has ls 6 [(5, .int (nI 0)), (0, .ref r), (1, .int (nI a2)), (2, .int (nI i)), (3, .int (nI b2)), (4, .int (nI j))] := hl
  have hl : lv_has ls 6 [(0, .ref r), (1, .int (nI a2)), (2, .int (nI i)), (3, .int (nI b2)), (4, .int (nI j)), (5, .int (nI 0))] := lv_sub hl [1, 2, 3, 4, 5, 0] rfl
  refine zz_loopP (σ := Nat × Nat) (fun ⟨f, k⟩ ls => lv_has ls 6 [(0, .ref r), (1, .int (nI a2)), (2, .int (nI i)), (3, .int (nI b2)), (4, .int (nI j)), (5, .int (nI k))] ∧ k + f = 12 ∧ mSwF A a2 i b2 j (f + 1) k = mSw A a2 i b2 j) (fun ⟨f, k⟩ => f) ?_ (12, 0) ls ⟨hl, rfl, rfl⟩
  rintro ⟨f, k⟩ ih ls ⟨hl, hkf, hv⟩
  have hza1 := hza (i + k)
  have hzb1 := hzb (j + k)
  refine lv_aload_n hx hb d_Mo_sameWord_3 rfl (lv_at hl 0 rfl) ?_
  refine lv_iload_n hx hb d_Mo_sameWord_4 rfl (lv_at hl 1 rfl) ?_
  refine lv_iload_n hx hb d_Mo_sameWord_5 rfl (lv_at hl 2 rfl) ?_
  refine lv_iload hx hb d_Mo_sameWord_6 (lv_at hl 5 rfl) ?_
  refine zz_iadd hx hb d_Mo_sameWord_8 ?_
  refine zz_callP (cl_Mo_80 (rest := []) hE (k_Mo_at l D ca r n t rs w A a2 (i + k) (by omega) (by omega) (by omega)) ⟨rfl, rfl, by decide, by decide⟩ hM hM.1 rfl hl.1 rfl (Nat.le_of_ble_eq_true rfl) d_Mo_sameWord_9 ⟨by decide, by decide⟩) ?_
  refine lv_aload_n hx hb d_Mo_sameWord_12 rfl (lv_at hl 0 rfl) ?_
  refine lv_iload_n hx hb d_Mo_sameWord_13 rfl (lv_at hl 3 rfl) ?_
  refine lv_iload hx hb d_Mo_sameWord_14 (lv_at hl 4 rfl) ?_
  refine lv_iload hx hb d_Mo_sameWord_16 (lv_at hl 5 rfl) ?_
  refine zz_iadd hx hb d_Mo_sameWord_18 ?_
  refine zz_callP (cl_Mo_80 (rest := [.int (nI (mAt A a2 (i + k)))]) hE (k_Mo_at l D ca r n t rs w A b2 (j + k) (by omega) (by omega) (by omega)) ⟨rfl, rfl, by decide, by decide⟩ hM hM.1 rfl hl.1 rfl (Nat.le_of_ble_eq_true rfl) d_Mo_sameWord_19 ⟨by decide, by decide⟩) ?_
  refine zz_ne hx hb (by omega) (by omega) d_Mo_sameWord_22 (tgt := 45) rfl (fun hT22 => ?_) (fun hF22 => ?_)
  · refine lv_aload_n hx hb d_Mo_sameWord_45 rfl (lv_at hl 0 rfl) ?_
    refine lv_iload_n hx hb d_Mo_sameWord_46 rfl (lv_at hl 1 rfl) ?_
    refine lv_iload_n hx hb d_Mo_sameWord_47 rfl (lv_at hl 2 rfl) ?_
    refine lv_iload hx hb d_Mo_sameWord_48 (lv_at hl 5 rfl) ?_
    refine zz_iadd hx hb d_Mo_sameWord_50 ?_
    refine zz_callP (cl_Mo_80 (rest := []) hE (k_Mo_at l D ca r n t rs w A a2 (i + k) (by omega) (by omega) (by omega)) ⟨rfl, rfl, by decide, by decide⟩ hM hM.1 rfl hl.1 rfl (Nat.le_of_ble_eq_true rfl) d_Mo_sameWord_51 ⟨by decide, by decide⟩) ?_
    refine lv_aload_n hx hb d_Mo_sameWord_54 rfl (lv_at hl 0 rfl) ?_
    refine lv_iload_n hx hb d_Mo_sameWord_55 rfl (lv_at hl 3 rfl) ?_
    refine lv_iload hx hb d_Mo_sameWord_56 (lv_at hl 4 rfl) ?_
    refine lv_iload hx hb d_Mo_sameWord_58 (lv_at hl 5 rfl) ?_
    refine zz_iadd hx hb d_Mo_sameWord_60 ?_
    refine zz_callP (cl_Mo_80 (rest := [.int (nI (mAt A a2 (i + k)))]) hE (k_Mo_at l D ca r n t rs w A b2 (j + k) (by omega) (by omega) (by omega)) ⟨rfl, rfl, by decide, by decide⟩ hM hM.1 rfl hl.1 rfl (Nat.le_of_ble_eq_true rfl) d_Mo_sameWord_61 ⟨by decide, by decide⟩) ?_
    refine zz_ne hx hb (by omega) (by omega) d_Mo_sameWord_64 (tgt := 71) rfl (fun hT64 => ?_) (fun hF64 => ?_)
    · refine lv_iconst (v := nI 0) hx hb d_Mo_sameWord_71 (by decide) ?_
      exact zz_iret hx hb hr hlk rfl ⟨rfl, congrArg (fun z => some (Value.int z)) (by simp only [mSwF] at hv; rw [← hv, if_neg (by omega)]; simp [hT64])⟩ hL d_Mo_sameWord_72
    · refine lv_iconst (v := nI 1) hx hb d_Mo_sameWord_67 (by decide) ?_
      refine lv_goto hx hb d_Mo_sameWord_68 (tgt := 72) rfl ?_
      exact zz_iret hx hb hr hlk rfl ⟨rfl, congrArg (fun z => some (Value.int z)) (by simp only [mSwF] at hv; rw [← hv, if_neg (by omega)]; simp [hF64])⟩ hL d_Mo_sameWord_72
  · refine lv_aload_n hx hb d_Mo_sameWord_25 rfl (lv_at hl 0 rfl) ?_
    refine lv_iload_n hx hb d_Mo_sameWord_26 rfl (lv_at hl 1 rfl) ?_
    refine lv_iload_n hx hb d_Mo_sameWord_27 rfl (lv_at hl 2 rfl) ?_
    refine lv_iload hx hb d_Mo_sameWord_28 (lv_at hl 5 rfl) ?_
    refine zz_iadd hx hb d_Mo_sameWord_30 ?_
    refine zz_callP (cl_Mo_80 (rest := []) hE (k_Mo_at l D ca r n t rs w A a2 (i + k) (by omega) (by omega) (by omega)) ⟨rfl, rfl, by decide, by decide⟩ hM hM.1 rfl hl.1 rfl (Nat.le_of_ble_eq_true rfl) d_Mo_sameWord_31 ⟨by decide, by decide⟩) ?_
    refine lv_bipush (v := nI 32) hx hb d_Mo_sameWord_34 (by decide) ?_
    refine zz_eq hx hb (by omega) (by omega) d_Mo_sameWord_36 (tgt := 45) rfl (fun hT36 => ?_) (fun hF36 => ?_)
    · refine lv_aload_n hx hb d_Mo_sameWord_45 rfl (lv_at hl 0 rfl) ?_
      refine lv_iload_n hx hb d_Mo_sameWord_46 rfl (lv_at hl 1 rfl) ?_
      refine lv_iload_n hx hb d_Mo_sameWord_47 rfl (lv_at hl 2 rfl) ?_
      refine lv_iload hx hb d_Mo_sameWord_48 (lv_at hl 5 rfl) ?_
      refine zz_iadd hx hb d_Mo_sameWord_50 ?_
      refine zz_callP (cl_Mo_80 (rest := []) hE (k_Mo_at l D ca r n t rs w A a2 (i + k) (by omega) (by omega) (by omega)) ⟨rfl, rfl, by decide, by decide⟩ hM hM.1 rfl hl.1 rfl (Nat.le_of_ble_eq_true rfl) d_Mo_sameWord_51 ⟨by decide, by decide⟩) ?_
      refine lv_aload_n hx hb d_Mo_sameWord_54 rfl (lv_at hl 0 rfl) ?_
      refine lv_iload_n hx hb d_Mo_sameWord_55 rfl (lv_at hl 3 rfl) ?_
      refine lv_iload hx hb d_Mo_sameWord_56 (lv_at hl 4 rfl) ?_
      refine lv_iload hx hb d_Mo_sameWord_58 (lv_at hl 5 rfl) ?_
      refine zz_iadd hx hb d_Mo_sameWord_60 ?_
      refine zz_callP (cl_Mo_80 (rest := [.int (nI (mAt A a2 (i + k)))]) hE (k_Mo_at l D ca r n t rs w A b2 (j + k) (by omega) (by omega) (by omega)) ⟨rfl, rfl, by decide, by decide⟩ hM hM.1 rfl hl.1 rfl (Nat.le_of_ble_eq_true rfl) d_Mo_sameWord_61 ⟨by decide, by decide⟩) ?_
      refine zz_ne hx hb (by omega) (by omega) d_Mo_sameWord_64 (tgt := 71) rfl (fun hT64 => ?_) (fun hF64 => ?_)
      · refine lv_iconst (v := nI 0) hx hb d_Mo_sameWord_71 (by decide) ?_
        exact zz_iret hx hb hr hlk rfl ⟨rfl, congrArg (fun z => some (Value.int z)) (by simp only [mSwF] at hv; rw [← hv, if_neg (by omega)]; simp [hT64])⟩ hL d_Mo_sameWord_72
      · refine lv_iconst (v := nI 1) hx hb d_Mo_sameWord_67 (by decide) ?_
        refine lv_goto hx hb d_Mo_sameWord_68 (tgt := 72) rfl ?_
        exact zz_iret hx hb hr hlk rfl ⟨rfl, congrArg (fun z => some (Value.int z)) (by simp only [mSwF] at hv; rw [← hv, if_neg (by omega)]; simp [hF64])⟩ hL d_Mo_sameWord_72
    · refine lv_iinc (k := 5) (v := nI (k + 1)) hx hb d_Mo_sameWord_39 hl rfl (zz_inc _) (by decide) rfl (fun ls hl => ?_)
      have hl : lv_has ls 6 [(5, .int (nI (k + 1))), (0, .ref r), (1, .int (nI a2)), (2, .int (nI i)), (3, .int (nI b2)), (4, .int (nI j))] := hl
      refine lv_goto hx hb d_Mo_sameWord_42 (tgt := 3) rfl ?_
      have hk1 : i + k < A 4 a2 := by
        apply Classical.byContradiction
        intro h
        exact hF36 (by unfold mAt; rw [if_neg h])
      have hl : lv_has ls 6 [(0, .ref r), (1, .int (nI a2)), (2, .int (nI i)), (3, .int (nI b2)), (4, .int (nI j)), (5, .int (nI (k + 1)))] := lv_sub hl [1, 2, 3, 4, 5, 0] rfl
      exact ih (f - 1, k + 1) ls ⟨hl, by omega, by simp only [mSwF] at hv; rw [if_pos ⟨hF22, hF36⟩] at hv; obtain ⟨f, rfl⟩ : ∃ g, f = g + 1 := ⟨f - 1, by omega⟩; exact hv⟩ (by show f - 1 < f; omega)
