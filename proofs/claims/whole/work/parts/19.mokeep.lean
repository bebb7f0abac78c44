/-- a text's code at a place, -1 behind its end -/
def cI (L : List Nat) (i : Nat) : Int32 := if i < L.length then nI (tAt L i) else -1
def lCmpF (La Lb : List Nat) : Nat → Nat → Int32
  | 0, _ => 0
  | f + 1, i => if cI La i = cI Lb i then lCmpF La Lb f (i + 1) else if cI La i < cI Lb i then -1 else 1
def lCmp (La Lb : List Nat) : Int32 := lCmpF La Lb 12 0
theorem cI_in {B : Nat → Nat → Nat} {L : List Nat} {i : Nat} (a0 : mAt B 0 = tAt L) (l0 : B 4 0 = L.length) (h : i < B 4 0) : cI L i = nI (B 3 i) := by
  unfold cI
  rw [if_pos (by omega), ← congrFun a0 i]
  unfold mAt
  rw [if_pos h]
  simp
theorem cI_in1 {B : Nat → Nat → Nat} {L : List Nat} {i : Nat} (a0 : mAt B 1 = tAt L) (l0 : B 4 1 = L.length) (h : i < B 4 1) : cI L i = nI (B 3 (12 + i)) := by
  unfold cI
  rw [if_pos (by omega), ← congrFun a0 i]
  unfold mAt
  rw [if_pos h]
theorem cI_out {L : List Nat} {i : Nat} (h : L.length ≤ i) : cI L i = -1 := by
  unfold cI
  rw [if_neg (by omega)]
/-- how many of a name's records have a record's text -/
def mSa (A : Nat → Nat → Nat) (nm rr f : Nat) : Nat → Nat := zcnt (fun k => decide (A 18 k = nm) && decide (lCmp (mTx A k f) (mTx A rr f) = 0))
def mBt (A : Nat → Nat → Nat) (n nm rr b f : Nat) : Bool := if A 17 f = 0 then decide ((mTx A b f).length < (mTx A rr f).length) else if (mTx A rr f).length = 0 ∨ (mTx A b f).length = 0 then decide ((mTx A b f).length = 0) && decide (0 < (mTx A rr f).length) else if A 17 f = 2 then decide (lCmp (mTx A rr f) (mTx A b f) < 0) else decide (mSa A nm b f n < mSa A nm rr f n)
theorem mSa_eq {A B : Nat → Nat → Nat} (h : mS A B) (nm rr f n : Nat) : mSa B nm rr f n = mSa A nm rr f n := by
  refine zcnt_congr fun k _ => ?_
  rw [h.tx, h.tx, h.2 18 (by decide) (by decide) (by decide) (by decide)]

set_option maxHeartbeats 4000000 in
set_option maxRecDepth 100000 in
theorem k_Mo_sizeOf (l : Launch) (D : va_G) (ca : Nat → ClassId) (r n t rs w : Nat) (A : Nat → Nat → Nat) (rr f : Nat) (hrr : rr ≤ 12) (hf : f ≤ 1) (okA : mOk A) : Met l y_Mo_sizeOf w_Mo_sizeOf (zr 2 0 0) (zz_P D ca [.ref r, .int (nI rr), .int (nI f)] (fun H => MoAt D ca H r n t rs w A)) (zz_Q (fun H H1 v => v = some (.int (nI (mTx A rr f).length)) ∧ zz_fr (moFr r) H H1 ∧ ∃ B, MoAt D ca H1 r n t rs w B ∧ mS A B)) 0 0 (moFr r) := by
  refine zz_met (cc := c_Mo_sizeOf) (by decide) (Nat.le_of_ble_eq_true rfl) ?_
  intro p e s m below meth c ls hE hr hlk hnm hM hl
  have hx := hE.1.1
  have hb := hE.1.2.1
  have hK := hE.2
  have hl : lv_has ls 3 [(0, .ref r), (1, .int (nI rr)), (2, .int (nI f))] := hl
  have hL : zz_L (moFr r) ([] : List Loc) := zz_L.nil
  have hS : zz_fr (moFr r) s.heap s.heap := zz_fr.rf
  refine lv_aload_n hx hb d_Mo_sizeOf_0 rfl (lv_at hl 0 rfl) ?_
  refine lv_iconst (v := nI 0) hx hb d_Mo_sizeOf_1 (by decide) ?_
  refine lv_iload_n hx hb d_Mo_sizeOf_2 rfl (lv_at hl 1 rfl) ?_
  refine lv_iload_n hx hb d_Mo_sizeOf_3 rfl (lv_at hl 2 rfl) ?_
  refine zz_callN (cl_Mo_98 (rest := []) hE (k_Mo_look l D ca r n t rs w A 0 rr f (by decide) (by omega) (by omega) (okA.2.1 _ (by omega)) okA.1) ⟨rfl, rfl, by decide, by decide⟩ hM hM.1 rfl hl.1 rfl (Nat.le_of_ble_eq_true rfl) d_Mo_sizeOf_4 ⟨by decide, by decide⟩) hL (fun _ h => h) (fun H locs hpost hL => ?_)
  obtain ⟨hfrB1, B1, hM, hlkB1⟩ := hpost
  have hS := hS.tr hfrB1
  obtain ⟨msB1, atB1, lnB1, otB1⟩ := mLook_ok (q := 0) (rr := rr) (f := f) okA (by decide) (by omega) (by omega) hlkB1
  have okB1 := msB1.1
  refine lv_aload_n hx hb d_Mo_sizeOf_7 rfl (lv_at hl 0 rfl) ?_
  refine fg_Mo_19 hE hM.1 rfl d_Mo_sizeOf_8 ?_
  refine lv_iconst (v := nI 0) hx hb d_Mo_sizeOf_11 (by decide) ?_
  refine mo_ld hE hM 4 (by decide) (i := 0) (show 0 < 2 by omega) d_Mo_sizeOf_12 ?_
  exact zz_iret hx hb hr hlk rfl ⟨by rw [lnB1], hS, _, hM, msB1⟩ hL d_Mo_sizeOf_13

set_option maxHeartbeats 4000000 in
set_option maxRecDepth 100000 in
theorem k_Mo_compare (l : Launch) (D : va_G) (ca : Nat → ClassId) (r n t rs w : Nat) (A : Nat → Nat → Nat) (j k f : Nat) (hj : j ≤ 12) (hk : k ≤ 12) (hf : f ≤ 1) (okA : mOk A) : Met l y_Mo_compare w_Mo_compare (zr 2 0 0) (zz_P D ca [.ref r, .int (nI j), .int (nI k), .int (nI f)] (fun H => MoAt D ca H r n t rs w A)) (zz_Q (fun H H1 v => v = some (.int (lCmp (mTx A j f) (mTx A k f))) ∧ zz_fr (moFr r) H H1 ∧ ∃ B, MoAt D ca H1 r n t rs w B ∧ mS A B)) 0 0 (moFr r) := by
  refine zz_met (cc := c_Mo_compare) (by decide) (Nat.le_of_ble_eq_true rfl) ?_
  intro p e s m below meth c ls hE hr hlk hnm hM hl
  have hx := hE.1.1
  have hb := hE.1.2.1
  have hK := hE.2
  have hl : lv_has ls 7 [(0, .ref r), (1, .int (nI j)), (2, .int (nI k)), (3, .int (nI f))] := hl
  have hL : zz_L (moFr r) ([] : List Loc) := zz_L.nil
  have hS : zz_fr (moFr r) s.heap s.heap := zz_fr.rf
  refine lv_aload_n hx hb d_Mo_compare_0 rfl (lv_at hl 0 rfl) ?_
  refine lv_iconst (v := nI 0) hx hb d_Mo_compare_1 (by decide) ?_
  refine lv_iload_n hx hb d_Mo_compare_2 rfl (lv_at hl 1 rfl) ?_
  refine lv_iload_n hx hb d_Mo_compare_3 rfl (lv_at hl 3 rfl) ?_
  refine zz_callN (cl_Mo_98 (rest := []) hE (k_Mo_look l D ca r n t rs w A 0 j f (by decide) (by omega) (by omega) (okA.2.1 _ (by omega)) okA.1) ⟨rfl, rfl, by decide, by decide⟩ hM hM.1 rfl hl.1 rfl (Nat.le_of_ble_eq_true rfl) d_Mo_compare_4 ⟨by decide, by decide⟩) hL (fun _ h => h) (fun H locs hpost hL => ?_)
  obtain ⟨hfrB1, B1, hM, hlkB1⟩ := hpost
  have hS := hS.tr hfrB1
  obtain ⟨msB1, atB1, lnB1, otB1⟩ := mLook_ok (q := 0) (rr := j) (f := f) okA (by decide) (by omega) (by omega) hlkB1
  have okB1 := msB1.1
  refine lv_aload_n hx hb d_Mo_compare_7 rfl (lv_at hl 0 rfl) ?_
  refine lv_iconst (v := nI 1) hx hb d_Mo_compare_8 (by decide) ?_
  refine lv_iload_n hx hb d_Mo_compare_9 rfl (lv_at hl 2 rfl) ?_
  refine lv_iload_n hx hb d_Mo_compare_10 rfl (lv_at hl 3 rfl) ?_
  refine zz_callN (cl_Mo_98 (rest := []) hE (k_Mo_look l D ca r n t rs w B1 1 k f (by decide) (by omega) (by omega) (okB1.2.1 _ (by omega)) okB1.1) ⟨rfl, rfl, by decide, by decide⟩ hM hM.1 rfl hl.1 rfl (Nat.le_of_ble_eq_true rfl) d_Mo_compare_11 ⟨by decide, by decide⟩) hL (fun _ h => h) (fun H locs hpost hL => ?_)
  obtain ⟨hfrB2, B2, hM, hlkB2⟩ := hpost
  have hS := hS.tr hfrB2
  obtain ⟨msB2, atB2, lnB2, otB2⟩ := mLook_ok (q := 1) (rr := k) (f := f) okB1 (by decide) (by omega) (by omega) hlkB2
  have okB2 := msB2.1
  have a0 : mAt B2 0 = tAt (mTx A j f) := by rw [(otB2 0 (by decide) (by decide)).1, atB1]
  have l0 : B2 4 0 = (mTx A j f).length := by rw [(otB2 0 (by decide) (by decide)).2, lnB1]
  have a1 : mAt B2 1 = tAt (mTx A k f) := by rw [atB2, msB1.tx]
  have l1 : B2 4 1 = (mTx A k f).length := by rw [lnB2, msB1.tx]
  have s0 := okB2.2.2.2.1 0 (by decide)
  have s1 := okB2.2.2.2.1 1 (by decide)
  refine lv_iconst (v := nI 0) hx hb d_Mo_compare_14 (by decide) ?_
  refine lv_istore hx hb d_Mo_compare_15 hl (by decide) rfl (fun ls hl => ?_)
  have hl : lv_has ls 7 [(4, .int (nI 0)), (0, .ref r), (1, .int (nI j)), (2, .int (nI k)), (3, .int (nI f))] := hl
  have hl : lv_has ls 7 [(0, .ref r), (1, .int (nI j)), (2, .int (nI k)), (3, .int (nI f)), (4, .int (nI 0))] := lv_sub hl [1, 2, 3, 4, 0] rfl
  refine zz_loopP (σ := Nat × Nat) (fun ⟨f0, i⟩ ls => lv_has ls 7 [(0, .ref r), (1, .int (nI j)), (2, .int (nI k)), (3, .int (nI f)), (4, .int (nI i))] ∧ i + f0 = 12 ∧ lCmpF (mTx A j f) (mTx A k f) f0 i = lCmp (mTx A j f) (mTx A k f)) (fun ⟨f0, i⟩ => f0) ?_ (12, 0) ls ⟨hl, rfl, rfl⟩
  rintro ⟨f0, i⟩ ih ls ⟨hl, hfi, hv⟩
  refine lv_iload hx hb d_Mo_compare_17 (lv_at hl 4 rfl) ?_
  refine lv_bipush (v := nI 12) hx hb d_Mo_compare_19 (by decide) ?_
  refine zz_ge hx hb (by omega) (by omega) d_Mo_compare_21 (tgt := 101) rfl (fun hT21 => ?_) (fun hF21 => ?_)
  · refine lv_iconst (v := nI 0) hx hb d_Mo_compare_101 (by decide) ?_
    have h9 : f0 = 0 := by omega
    subst h9
    have hv9 : lCmp (mTx A j f) (mTx A k f) = 0 := hv.symm
    exact zz_iret hx hb hr hlk rfl ⟨by rw [hv9] <;> rfl, hS, _, hM, msB1.tr msB2⟩ hL d_Mo_compare_102
  · refine lv_iload hx hb d_Mo_compare_24 (lv_at hl 4 rfl) ?_
    refine lv_aload_n hx hb d_Mo_compare_26 rfl (lv_at hl 0 rfl) ?_
    refine fg_Mo_19 hE hM.1 rfl d_Mo_compare_27 ?_
    refine lv_iconst (v := nI 0) hx hb d_Mo_compare_30 (by decide) ?_
    refine mo_ld hE hM 4 (by decide) (i := 0) (show 0 < 2 by omega) d_Mo_compare_31 ?_
    refine zz_ge hx hb (by omega) (by omega) d_Mo_compare_32 (tgt := 45) rfl (fun hT32 => ?_) (fun hF32 => ?_)
    · refine lv_iconst (v := (-1 : Int32)) hx hb d_Mo_compare_45 (by decide) ?_
      refine lv_istore hx hb d_Mo_compare_46 hl (by decide) rfl (fun ls hl => ?_)
      have hl : lv_has ls 7 [(5, .int (-1 : Int32)), (0, .ref r), (1, .int (nI j)), (2, .int (nI k)), (3, .int (nI f)), (4, .int (nI i))] := hl
      refine lv_iload hx hb d_Mo_compare_48 (lv_at hl 5 rfl) ?_
      refine lv_aload_n hx hb d_Mo_compare_50 rfl (lv_at hl 1 rfl) ?_
      refine fg_Mo_19 hE hM.1 rfl d_Mo_compare_51 ?_
      refine lv_iconst (v := nI 1) hx hb d_Mo_compare_54 (by decide) ?_
      refine mo_ld hE hM 4 (by decide) (i := 1) (show 1 < 2 by omega) d_Mo_compare_55 ?_
      refine zz_ge hx hb (by omega) (by omega) d_Mo_compare_56 (tgt := 72) rfl (fun hT56 => ?_) (fun hF56 => ?_)
      · refine lv_iconst (v := (-1 : Int32)) hx hb d_Mo_compare_72 (by decide) ?_
        refine lv_istore hx hb d_Mo_compare_73 hl (by decide) rfl (fun ls hl => ?_)
        have hl : lv_has ls 7 [(6, .int (-1 : Int32)), (5, .int (-1 : Int32)), (0, .ref r), (1, .int (nI j)), (2, .int (nI k)), (3, .int (nI f)), (4, .int (nI i))] := hl
        have ca : cI (mTx A j f) i = (-1 : Int32) := cI_out (by omega)
        have cb : cI (mTx A k f) i = (-1 : Int32) := cI_out (by omega)
        refine lv_iload hx hb d_Mo_compare_75 (lv_at hl 1 rfl) ?_
        refine lv_iload hx hb d_Mo_compare_77 (lv_at hl 0 rfl) ?_
        refine lv_icmp_eq hx hb d_Mo_compare_79 (tgt := 95) rfl (fun hT79 => ?_) (fun hF79 => ?_)
        · refine lv_iinc (k := 6) (v := nI (i + 1)) hx hb d_Mo_compare_95 hl rfl (zz_inc _) (by decide) rfl (fun ls hl => ?_)
          have hl : lv_has ls 7 [(4, .int (nI (i + 1))), (6, .int (-1 : Int32)), (5, .int (-1 : Int32)), (0, .ref r), (1, .int (nI j)), (2, .int (nI k)), (3, .int (nI f))] := hl
          refine lv_goto hx hb d_Mo_compare_98 (tgt := 17) rfl ?_
          obtain ⟨f0, rfl⟩ : ∃ g, f0 = g + 1 := ⟨f0 - 1, by omega⟩
          simp only [lCmpF] at hv
          rw [if_pos (by rw [ca, cb] <;> first | exact hT79 | exact congrArg nI hT79)] at hv
          have hl : lv_has ls 7 [(0, .ref r), (1, .int (nI j)), (2, .int (nI k)), (3, .int (nI f)), (4, .int (nI (i + 1)))] := lv_sub hl [3, 4, 5, 6, 0] rfl
          exact ih (f0, i + 1) ls ⟨hl, by omega, hv⟩ (Nat.lt_succ_self _)
        · refine lv_iload hx hb d_Mo_compare_82 (lv_at hl 1 rfl) ?_
          refine lv_iload hx hb d_Mo_compare_84 (lv_at hl 0 rfl) ?_
          refine lv_icmp_ge hx hb d_Mo_compare_86 (tgt := 93) rfl (fun hT86 => ?_) (fun hF86 => ?_)
          · refine lv_iconst (v := nI 1) hx hb d_Mo_compare_93 (by decide) ?_
            obtain ⟨f0, rfl⟩ : ∃ g, f0 = g + 1 := ⟨f0 - 1, by omega⟩
            simp only [lCmpF] at hv
            rw [if_neg (by rw [ca, cb]; first | exact hF79 | (intro h9; have h8 := (nI_eq (by omega) (by omega)).1 h9; omega)), if_neg (by rw [ca, cb]; first | exact nI_lt hT86 (by omega) | exact nI_nlt hT86 (by omega) | exact hT86 | exact k2_lt hT86 | exact k2_nlt hT86)] at hv
            have hv9 : lCmp (mTx A j f) (mTx A k f) = 1 := hv.symm
            exact zz_iret hx hb hr hlk rfl ⟨by rw [hv9] <;> rfl, hS, _, hM, msB1.tr msB2⟩ hL d_Mo_compare_94
          · refine lv_iconst (v := (-1 : Int32)) hx hb d_Mo_compare_89 (by decide) ?_
            refine lv_goto hx hb d_Mo_compare_90 (tgt := 94) rfl ?_
            obtain ⟨f0, rfl⟩ : ∃ g, f0 = g + 1 := ⟨f0 - 1, by omega⟩
            simp only [lCmpF] at hv
            rw [if_neg (by rw [ca, cb]; first | exact hF79 | (intro h9; have h8 := (nI_eq (by omega) (by omega)).1 h9; omega)), if_pos (by rw [ca, cb]; first | exact nI_lt hF86 (by omega) | exact nI_nlt hF86 (by omega) | exact hF86 | exact k2_lt hF86 | exact k2_nlt hF86)] at hv
            have hv9 : lCmp (mTx A j f) (mTx A k f) = (-1) := hv.symm
            exact zz_iret hx hb hr hlk rfl ⟨by rw [hv9] <;> rfl, hS, _, hM, msB1.tr msB2⟩ hL d_Mo_compare_94
      · refine lv_aload_n hx hb d_Mo_compare_59 rfl (lv_at hl 1 rfl) ?_
        refine fg_Mo_16 hE hM.1 rfl d_Mo_compare_60 ?_
        refine lv_bipush (v := nI 12) hx hb d_Mo_compare_63 (by decide) ?_
        refine lv_iload hx hb d_Mo_compare_65 (lv_at hl 5 rfl) ?_
        refine zz_iadd hx hb d_Mo_compare_67 ?_
        refine mo_ld hE hM 3 (by decide) (i := 12 + i) (show 12 + i < 24 by omega) d_Mo_compare_68 ?_
        refine lv_goto hx hb d_Mo_compare_69 (tgt := 73) rfl ?_
        refine lv_istore hx hb d_Mo_compare_73 hl (by decide) rfl (fun ls hl => ?_)
        have hl : lv_has ls 7 [(6, .int (nI (B2 3 (12 + i)))), (5, .int (-1 : Int32)), (0, .ref r), (1, .int (nI j)), (2, .int (nI k)), (3, .int (nI f)), (4, .int (nI i))] := hl
        have ca : cI (mTx A j f) i = (-1 : Int32) := cI_out (by omega)
        have cb : cI (mTx A k f) i = nI (B2 3 (12 + i)) := cI_in1 a1 l1 hF56
        have k6 := okB2.2.2.1 (12 + i) (by omega)
        refine lv_iload hx hb d_Mo_compare_75 (lv_at hl 1 rfl) ?_
        refine lv_iload hx hb d_Mo_compare_77 (lv_at hl 0 rfl) ?_
        refine lv_icmp_eq hx hb d_Mo_compare_79 (tgt := 95) rfl (fun hT79 => ?_) (fun hF79 => ?_)
        · refine lv_iinc (k := 6) (v := nI (i + 1)) hx hb d_Mo_compare_95 hl rfl (zz_inc _) (by decide) rfl (fun ls hl => ?_)
          have hl : lv_has ls 7 [(4, .int (nI (i + 1))), (6, .int (nI (B2 3 (12 + i)))), (5, .int (-1 : Int32)), (0, .ref r), (1, .int (nI j)), (2, .int (nI k)), (3, .int (nI f))] := hl
          refine lv_goto hx hb d_Mo_compare_98 (tgt := 17) rfl ?_
          obtain ⟨f0, rfl⟩ : ∃ g, f0 = g + 1 := ⟨f0 - 1, by omega⟩
          simp only [lCmpF] at hv
          rw [if_pos (by rw [ca, cb] <;> first | exact hT79 | exact congrArg nI hT79)] at hv
          have hl : lv_has ls 7 [(0, .ref r), (1, .int (nI j)), (2, .int (nI k)), (3, .int (nI f)), (4, .int (nI (i + 1)))] := lv_sub hl [3, 4, 5, 6, 0] rfl
          exact ih (f0, i + 1) ls ⟨hl, by omega, hv⟩ (Nat.lt_succ_self _)
        · refine lv_iload hx hb d_Mo_compare_82 (lv_at hl 1 rfl) ?_
          refine lv_iload hx hb d_Mo_compare_84 (lv_at hl 0 rfl) ?_
          refine lv_icmp_ge hx hb d_Mo_compare_86 (tgt := 93) rfl (fun hT86 => ?_) (fun hF86 => ?_)
          · refine lv_iconst (v := nI 1) hx hb d_Mo_compare_93 (by decide) ?_
            obtain ⟨f0, rfl⟩ : ∃ g, f0 = g + 1 := ⟨f0 - 1, by omega⟩
            simp only [lCmpF] at hv
            rw [if_neg (by rw [ca, cb]; first | exact hF79 | (intro h9; have h8 := (nI_eq (by omega) (by omega)).1 h9; omega)), if_neg (by rw [ca, cb]; first | exact nI_lt hT86 (by omega) | exact nI_nlt hT86 (by omega) | exact hT86 | exact k2_lt hT86 | exact k2_nlt hT86)] at hv
            have hv9 : lCmp (mTx A j f) (mTx A k f) = 1 := hv.symm
            exact zz_iret hx hb hr hlk rfl ⟨by rw [hv9] <;> rfl, hS, _, hM, msB1.tr msB2⟩ hL d_Mo_compare_94
          · refine lv_iconst (v := (-1 : Int32)) hx hb d_Mo_compare_89 (by decide) ?_
            refine lv_goto hx hb d_Mo_compare_90 (tgt := 94) rfl ?_
            obtain ⟨f0, rfl⟩ : ∃ g, f0 = g + 1 := ⟨f0 - 1, by omega⟩
            simp only [lCmpF] at hv
            rw [if_neg (by rw [ca, cb]; first | exact hF79 | (intro h9; have h8 := (nI_eq (by omega) (by omega)).1 h9; omega)), if_pos (by rw [ca, cb]; first | exact nI_lt hF86 (by omega) | exact nI_nlt hF86 (by omega) | exact hF86 | exact k2_lt hF86 | exact k2_nlt hF86)] at hv
            have hv9 : lCmp (mTx A j f) (mTx A k f) = (-1) := hv.symm
            exact zz_iret hx hb hr hlk rfl ⟨by rw [hv9] <;> rfl, hS, _, hM, msB1.tr msB2⟩ hL d_Mo_compare_94
    · refine lv_aload_n hx hb d_Mo_compare_35 rfl (lv_at hl 0 rfl) ?_
      refine fg_Mo_16 hE hM.1 rfl d_Mo_compare_36 ?_
      refine lv_iload hx hb d_Mo_compare_39 (lv_at hl 4 rfl) ?_
      refine mo_ld hE hM 3 (by decide) (i := i) (show i < 24 by omega) d_Mo_compare_41 ?_
      refine lv_goto hx hb d_Mo_compare_42 (tgt := 46) rfl ?_
      refine lv_istore hx hb d_Mo_compare_46 hl (by decide) rfl (fun ls hl => ?_)
      have hl : lv_has ls 7 [(5, .int (nI (B2 3 i))), (0, .ref r), (1, .int (nI j)), (2, .int (nI k)), (3, .int (nI f)), (4, .int (nI i))] := hl
      refine lv_iload hx hb d_Mo_compare_48 (lv_at hl 5 rfl) ?_
      refine lv_aload_n hx hb d_Mo_compare_50 rfl (lv_at hl 1 rfl) ?_
      refine fg_Mo_19 hE hM.1 rfl d_Mo_compare_51 ?_
      refine lv_iconst (v := nI 1) hx hb d_Mo_compare_54 (by decide) ?_
      refine mo_ld hE hM 4 (by decide) (i := 1) (show 1 < 2 by omega) d_Mo_compare_55 ?_
      refine zz_ge hx hb (by omega) (by omega) d_Mo_compare_56 (tgt := 72) rfl (fun hT56 => ?_) (fun hF56 => ?_)
      · refine lv_iconst (v := (-1 : Int32)) hx hb d_Mo_compare_72 (by decide) ?_
        refine lv_istore hx hb d_Mo_compare_73 hl (by decide) rfl (fun ls hl => ?_)
        have hl : lv_has ls 7 [(6, .int (-1 : Int32)), (5, .int (nI (B2 3 i))), (0, .ref r), (1, .int (nI j)), (2, .int (nI k)), (3, .int (nI f)), (4, .int (nI i))] := hl
        have ca : cI (mTx A j f) i = nI (B2 3 i) := cI_in a0 l0 hF32
        have cb : cI (mTx A k f) i = (-1 : Int32) := cI_out (by omega)
        have k5 := okB2.2.2.1 i (by omega)
        refine lv_iload hx hb d_Mo_compare_75 (lv_at hl 1 rfl) ?_
        refine lv_iload hx hb d_Mo_compare_77 (lv_at hl 0 rfl) ?_
        refine lv_icmp_eq hx hb d_Mo_compare_79 (tgt := 95) rfl (fun hT79 => ?_) (fun hF79 => ?_)
        · refine lv_iinc (k := 6) (v := nI (i + 1)) hx hb d_Mo_compare_95 hl rfl (zz_inc _) (by decide) rfl (fun ls hl => ?_)
          have hl : lv_has ls 7 [(4, .int (nI (i + 1))), (6, .int (-1 : Int32)), (5, .int (nI (B2 3 i))), (0, .ref r), (1, .int (nI j)), (2, .int (nI k)), (3, .int (nI f))] := hl
          refine lv_goto hx hb d_Mo_compare_98 (tgt := 17) rfl ?_
          obtain ⟨f0, rfl⟩ : ∃ g, f0 = g + 1 := ⟨f0 - 1, by omega⟩
          simp only [lCmpF] at hv
          rw [if_pos (by rw [ca, cb] <;> first | exact hT79 | exact congrArg nI hT79)] at hv
          have hl : lv_has ls 7 [(0, .ref r), (1, .int (nI j)), (2, .int (nI k)), (3, .int (nI f)), (4, .int (nI (i + 1)))] := lv_sub hl [3, 4, 5, 6, 0] rfl
          exact ih (f0, i + 1) ls ⟨hl, by omega, hv⟩ (Nat.lt_succ_self _)
        · refine lv_iload hx hb d_Mo_compare_82 (lv_at hl 1 rfl) ?_
          refine lv_iload hx hb d_Mo_compare_84 (lv_at hl 0 rfl) ?_
          refine lv_icmp_ge hx hb d_Mo_compare_86 (tgt := 93) rfl (fun hT86 => ?_) (fun hF86 => ?_)
          · refine lv_iconst (v := nI 1) hx hb d_Mo_compare_93 (by decide) ?_
            obtain ⟨f0, rfl⟩ : ∃ g, f0 = g + 1 := ⟨f0 - 1, by omega⟩
            simp only [lCmpF] at hv
            rw [if_neg (by rw [ca, cb]; first | exact hF79 | (intro h9; have h8 := (nI_eq (by omega) (by omega)).1 h9; omega)), if_neg (by rw [ca, cb]; first | exact nI_lt hT86 (by omega) | exact nI_nlt hT86 (by omega) | exact hT86 | exact k2_lt hT86 | exact k2_nlt hT86)] at hv
            have hv9 : lCmp (mTx A j f) (mTx A k f) = 1 := hv.symm
            exact zz_iret hx hb hr hlk rfl ⟨by rw [hv9] <;> rfl, hS, _, hM, msB1.tr msB2⟩ hL d_Mo_compare_94
          · refine lv_iconst (v := (-1 : Int32)) hx hb d_Mo_compare_89 (by decide) ?_
            refine lv_goto hx hb d_Mo_compare_90 (tgt := 94) rfl ?_
            obtain ⟨f0, rfl⟩ : ∃ g, f0 = g + 1 := ⟨f0 - 1, by omega⟩
            simp only [lCmpF] at hv
            rw [if_neg (by rw [ca, cb]; first | exact hF79 | (intro h9; have h8 := (nI_eq (by omega) (by omega)).1 h9; omega)), if_pos (by rw [ca, cb]; first | exact nI_lt hF86 (by omega) | exact nI_nlt hF86 (by omega) | exact hF86 | exact k2_lt hF86 | exact k2_nlt hF86)] at hv
            have hv9 : lCmp (mTx A j f) (mTx A k f) = (-1) := hv.symm
            exact zz_iret hx hb hr hlk rfl ⟨by rw [hv9] <;> rfl, hS, _, hM, msB1.tr msB2⟩ hL d_Mo_compare_94
      · refine lv_aload_n hx hb d_Mo_compare_59 rfl (lv_at hl 1 rfl) ?_
        refine fg_Mo_16 hE hM.1 rfl d_Mo_compare_60 ?_
        refine lv_bipush (v := nI 12) hx hb d_Mo_compare_63 (by decide) ?_
        refine lv_iload hx hb d_Mo_compare_65 (lv_at hl 5 rfl) ?_
        refine zz_iadd hx hb d_Mo_compare_67 ?_
        refine mo_ld hE hM 3 (by decide) (i := 12 + i) (show 12 + i < 24 by omega) d_Mo_compare_68 ?_
        refine lv_goto hx hb d_Mo_compare_69 (tgt := 73) rfl ?_
        refine lv_istore hx hb d_Mo_compare_73 hl (by decide) rfl (fun ls hl => ?_)
        have hl : lv_has ls 7 [(6, .int (nI (B2 3 (12 + i)))), (5, .int (nI (B2 3 i))), (0, .ref r), (1, .int (nI j)), (2, .int (nI k)), (3, .int (nI f)), (4, .int (nI i))] := hl
        have ca : cI (mTx A j f) i = nI (B2 3 i) := cI_in a0 l0 hF32
        have cb : cI (mTx A k f) i = nI (B2 3 (12 + i)) := cI_in1 a1 l1 hF56
        have k5 := okB2.2.2.1 i (by omega)
        have k6 := okB2.2.2.1 (12 + i) (by omega)
        refine lv_iload hx hb d_Mo_compare_75 (lv_at hl 1 rfl) ?_
        refine lv_iload hx hb d_Mo_compare_77 (lv_at hl 0 rfl) ?_
        refine zz_eq hx hb (by omega) (by omega) d_Mo_compare_79 (tgt := 95) rfl (fun hT79 => ?_) (fun hF79 => ?_)
        · refine lv_iinc (k := 6) (v := nI (i + 1)) hx hb d_Mo_compare_95 hl rfl (zz_inc _) (by decide) rfl (fun ls hl => ?_)
          have hl : lv_has ls 7 [(4, .int (nI (i + 1))), (6, .int (nI (B2 3 (12 + i)))), (5, .int (nI (B2 3 i))), (0, .ref r), (1, .int (nI j)), (2, .int (nI k)), (3, .int (nI f))] := hl
          refine lv_goto hx hb d_Mo_compare_98 (tgt := 17) rfl ?_
          obtain ⟨f0, rfl⟩ : ∃ g, f0 = g + 1 := ⟨f0 - 1, by omega⟩
          simp only [lCmpF] at hv
          rw [if_pos (by rw [ca, cb] <;> first | exact hT79 | exact congrArg nI hT79)] at hv
          have hl : lv_has ls 7 [(0, .ref r), (1, .int (nI j)), (2, .int (nI k)), (3, .int (nI f)), (4, .int (nI (i + 1)))] := lv_sub hl [3, 4, 5, 6, 0] rfl
          exact ih (f0, i + 1) ls ⟨hl, by omega, hv⟩ (Nat.lt_succ_self _)
        · refine lv_iload hx hb d_Mo_compare_82 (lv_at hl 1 rfl) ?_
          refine lv_iload hx hb d_Mo_compare_84 (lv_at hl 0 rfl) ?_
          refine zz_ge hx hb (by omega) (by omega) d_Mo_compare_86 (tgt := 93) rfl (fun hT86 => ?_) (fun hF86 => ?_)
          · refine lv_iconst (v := nI 1) hx hb d_Mo_compare_93 (by decide) ?_
            obtain ⟨f0, rfl⟩ : ∃ g, f0 = g + 1 := ⟨f0 - 1, by omega⟩
            simp only [lCmpF] at hv
            rw [if_neg (by rw [ca, cb]; first | exact hF79 | (intro h9; have h8 := (nI_eq (by omega) (by omega)).1 h9; omega)), if_neg (by rw [ca, cb]; first | exact nI_lt hT86 (by omega) | exact nI_nlt hT86 (by omega) | exact hT86 | exact k2_lt hT86 | exact k2_nlt hT86)] at hv
            have hv9 : lCmp (mTx A j f) (mTx A k f) = 1 := hv.symm
            exact zz_iret hx hb hr hlk rfl ⟨by rw [hv9] <;> rfl, hS, _, hM, msB1.tr msB2⟩ hL d_Mo_compare_94
          · refine lv_iconst (v := (-1 : Int32)) hx hb d_Mo_compare_89 (by decide) ?_
            refine lv_goto hx hb d_Mo_compare_90 (tgt := 94) rfl ?_
            obtain ⟨f0, rfl⟩ : ∃ g, f0 = g + 1 := ⟨f0 - 1, by omega⟩
            simp only [lCmpF] at hv
            rw [if_neg (by rw [ca, cb]; first | exact hF79 | (intro h9; have h8 := (nI_eq (by omega) (by omega)).1 h9; omega)), if_pos (by rw [ca, cb]; first | exact nI_lt hF86 (by omega) | exact nI_nlt hF86 (by omega) | exact hF86 | exact k2_lt hF86 | exact k2_nlt hF86)] at hv
            have hv9 : lCmp (mTx A j f) (mTx A k f) = (-1) := hv.symm
            exact zz_iret hx hb hr hlk rfl ⟨by rw [hv9] <;> rfl, hS, _, hM, msB1.tr msB2⟩ hL d_Mo_compare_94

set_option maxHeartbeats 4000000 in
set_option maxRecDepth 100000 in
theorem k_Mo_same (l : Launch) (D : va_G) (ca : Nat → ClassId) (r n t rs w : Nat) (A : Nat → Nat → Nat) (nm rr f : Nat) (hn : n ≤ 12) (hnm2 : nm ≤ 12) (hrr : rr ≤ 12) (hf : f ≤ 1) (okA : mOk A) (hlab : ∀ k, k < n → A 18 k ≤ 12) : Met l y_Mo_same w_Mo_same (zr 3 0 0) (zz_P D ca [.ref r, .int (nI nm), .int (nI rr), .int (nI f)] (fun H => MoAt D ca H r n t rs w A)) (zz_Q (fun H H1 v => v = some (.int (nI (mSa A nm rr f n))) ∧ zz_fr (moFr r) H H1 ∧ ∃ B, MoAt D ca H1 r n t rs w B ∧ mS A B)) 0 0 (moFr r) := by
  refine zz_met (cc := c_Mo_same) (by decide) (Nat.le_of_ble_eq_true rfl) ?_
  intro p e s m below meth c ls hE hr hlk hnm hM hl
  have hx := hE.1.1
  have hb := hE.1.2.1
  have hK := hE.2
  have hl : lv_has ls 7 [(0, .ref r), (1, .int (nI nm)), (2, .int (nI rr)), (3, .int (nI f))] := hl
  have hL : zz_L (moFr r) ([] : List Loc) := zz_L.nil
  have hS : zz_fr (moFr r) s.heap s.heap := zz_fr.rf
  refine lv_iconst (v := nI 0) hx hb d_Mo_same_0 (by decide) ?_
  refine lv_istore hx hb d_Mo_same_1 hl (by decide) rfl (fun ls hl => ?_)
  have hl : lv_has ls 7 [(4, .int (nI 0)), (0, .ref r), (1, .int (nI nm)), (2, .int (nI rr)), (3, .int (nI f))] := hl
  refine lv_iconst (v := nI 0) hx hb d_Mo_same_3 (by decide) ?_
  refine lv_istore hx hb d_Mo_same_4 hl (by decide) rfl (fun ls hl => ?_)
  have hl : lv_has ls 7 [(5, .int (nI 0)), (4, .int (nI 0)), (0, .ref r), (1, .int (nI nm)), (2, .int (nI rr)), (3, .int (nI f))] := hl
  have hl : lv_has ls 7 [(0, .ref r), (1, .int (nI nm)), (2, .int (nI rr)), (3, .int (nI f)), (4, .int (nI 0)), (5, .int (nI 0))] := lv_sub hl [2, 3, 4, 5, 1, 0] rfl
  refine zz_loopH (σ := Nat × (Nat → Nat → Nat)) (fun ⟨k, B⟩ ls H locs => lv_has ls 7 [(0, .ref r), (1, .int (nI nm)), (2, .int (nI rr)), (3, .int (nI f)), (4, .int (nI (mSa A nm rr f k))), (5, .int (nI k))] ∧ k ≤ n ∧ MoAt D ca H r n t rs w B ∧ mS A B ∧ zz_fr (moFr r) s.heap H ∧ zz_L (moFr r) locs) (fun ⟨k, B⟩ => n - k) ?_ (0, A) ls _ _ ⟨hl, Nat.zero_le _, hM, mS.rf okA, hS, hL⟩
  rintro ⟨k, B⟩ ih ls H locs ⟨hl, hk, hM, hms, hS, hL⟩
  have e18 : B 18 k = A 18 k := congrFun (hms.2 18 (by decide) (by decide) (by decide) (by decide)) k
  refine lv_iload hx hb d_Mo_same_6 (lv_at hl 5 rfl) ?_
  refine lv_aload_n hx hb d_Mo_same_8 rfl (lv_at hl 0 rfl) ?_
  refine fg_Mo_65 hE hM.1 rfl d_Mo_same_9 ?_
  refine zz_ge hx hb (by omega) (by omega) d_Mo_same_12 (tgt := 65) rfl (fun hT12 => ?_) (fun hF12 => ?_)
  · refine lv_iload hx hb d_Mo_same_65 (lv_at hl 4 rfl) ?_
    exact zz_iret hx hb hr hlk rfl ⟨by rw [show k = n by omega], hS, _, hM, hms⟩ hL d_Mo_same_67
  · have hl18 := hlab k (by omega)
    refine lv_aload_n hx hb d_Mo_same_15 rfl (lv_at hl 0 rfl) ?_
    refine fg_Mo_62 hE hM.1 rfl d_Mo_same_16 ?_
    refine lv_iload hx hb d_Mo_same_19 (lv_at hl 5 rfl) ?_
    refine mo_ld hE hM 18 (by decide) (i := k) (show k < 12 by omega) d_Mo_same_21 ?_
    refine lv_iload_n hx hb d_Mo_same_22 rfl (lv_at hl 1 rfl) ?_
    refine zz_ne hx hb (by omega) (by omega) d_Mo_same_23 (tgt := 41) rfl (fun hT23 => ?_) (fun hF23 => ?_)
    · refine lv_iconst (v := nI 0) hx hb d_Mo_same_41 (by decide) ?_
      refine lv_istore hx hb d_Mo_same_42 hl (by decide) rfl (fun ls hl => ?_)
      have hl : lv_has ls 7 [(6, .int (nI 0)), (0, .ref r), (1, .int (nI nm)), (2, .int (nI rr)), (3, .int (nI f)), (4, .int (nI (mSa A nm rr f k))), (5, .int (nI k))] := hl
      refine lv_iload hx hb d_Mo_same_44 (lv_at hl 5 rfl) ?_
      refine lv_iload hx hb d_Mo_same_46 (lv_at hl 0 rfl) ?_
      refine zz_eq0 hx hb (by decide) d_Mo_same_48 (tgt := 55) rfl (fun _ => ?_) (fun h => absurd h (by decide))
      refine lv_iconst (v := nI 0) hx hb d_Mo_same_55 (by decide) ?_
      refine zz_iadd hx hb d_Mo_same_56 ?_
      refine lv_istore hx hb d_Mo_same_57 hl (by decide) rfl (fun ls hl => ?_)
      have hl : lv_has ls 7 [(4, .int (nI ((mSa A nm rr f k) + 0))), (6, .int (nI 0)), (0, .ref r), (1, .int (nI nm)), (2, .int (nI rr)), (3, .int (nI f)), (5, .int (nI k))] := hl
      refine lv_iinc (k := 6) (v := nI (k + 1)) hx hb d_Mo_same_59 hl rfl (zz_inc _) (by decide) rfl (fun ls hl => ?_)
      have hl : lv_has ls 7 [(5, .int (nI (k + 1))), (4, .int (nI ((mSa A nm rr f k) + 0))), (6, .int (nI 0)), (0, .ref r), (1, .int (nI nm)), (2, .int (nI rr)), (3, .int (nI f))] := hl
      refine lv_goto hx hb d_Mo_same_62 (tgt := 6) rfl ?_
      have hl : lv_has ls 7 [(0, .ref r), (1, .int (nI nm)), (2, .int (nI rr)), (3, .int (nI f)), (4, .int (nI (mSa A nm rr f (k + 1)))), (5, .int (nI (k + 1)))] := (by rw [show mSa A nm rr f (k + 1) = mSa A nm rr f k + 0 from by rw [show mSa A nm rr f (k + 1) = mSa A nm rr f k + (decide (A 18 k = nm) && decide (lCmp (mTx A k f) (mTx A rr f) = 0)).toNat from rfl]; rw [decide_eq_false (show ¬ A 18 k = nm by omega)]; simp]; exact lv_sub hl [3, 4, 5, 6, 1, 0] rfl)
      exact ih (k + 1, B) ls _ _ ⟨hl, by omega, hM, hms, hS, hL⟩ (by show n - (k + 1) < n - k; omega)
    · refine lv_aload_n hx hb d_Mo_same_26 rfl (lv_at hl 0 rfl) ?_
      refine lv_iload hx hb d_Mo_same_27 (lv_at hl 5 rfl) ?_
      refine lv_iload_n hx hb d_Mo_same_29 rfl (lv_at hl 2 rfl) ?_
      refine lv_iload_n hx hb d_Mo_same_30 rfl (lv_at hl 3 rfl) ?_
      refine zz_callI (cl_Mo_158 (rest := []) hE (k_Mo_compare l D ca r n t rs w B k rr f (by omega) (by omega) (by omega) hms.1) ⟨rfl, rfl, by decide, by decide⟩ hM hM.1 rfl hl.1 rfl (Nat.le_of_ble_eq_true rfl) d_Mo_same_31 ⟨by decide, by decide⟩) hL (fun _ h => h) (fun H locs hpost hL => ?_)
      obtain ⟨hfr1, B1, hM, hms1⟩ := hpost
      have hS := hS.tr hfr1
      have hms9 := hms.tr hms1
      refine lv_if_ne hx hb d_Mo_same_34 (tgt := 41) rfl (fun hT34 => ?_) (fun hF34 => ?_)
      · refine lv_iconst (v := nI 0) hx hb d_Mo_same_41 (by decide) ?_
        refine lv_istore hx hb d_Mo_same_42 hl (by decide) rfl (fun ls hl => ?_)
        have hl : lv_has ls 7 [(6, .int (nI 0)), (0, .ref r), (1, .int (nI nm)), (2, .int (nI rr)), (3, .int (nI f)), (4, .int (nI (mSa A nm rr f k))), (5, .int (nI k))] := hl
        refine lv_iload hx hb d_Mo_same_44 (lv_at hl 5 rfl) ?_
        refine lv_iload hx hb d_Mo_same_46 (lv_at hl 0 rfl) ?_
        refine zz_eq0 hx hb (by decide) d_Mo_same_48 (tgt := 55) rfl (fun _ => ?_) (fun h => absurd h (by decide))
        refine lv_iconst (v := nI 0) hx hb d_Mo_same_55 (by decide) ?_
        refine zz_iadd hx hb d_Mo_same_56 ?_
        refine lv_istore hx hb d_Mo_same_57 hl (by decide) rfl (fun ls hl => ?_)
        have hl : lv_has ls 7 [(4, .int (nI ((mSa A nm rr f k) + 0))), (6, .int (nI 0)), (0, .ref r), (1, .int (nI nm)), (2, .int (nI rr)), (3, .int (nI f)), (5, .int (nI k))] := hl
        refine lv_iinc (k := 6) (v := nI (k + 1)) hx hb d_Mo_same_59 hl rfl (zz_inc _) (by decide) rfl (fun ls hl => ?_)
        have hl : lv_has ls 7 [(5, .int (nI (k + 1))), (4, .int (nI ((mSa A nm rr f k) + 0))), (6, .int (nI 0)), (0, .ref r), (1, .int (nI nm)), (2, .int (nI rr)), (3, .int (nI f))] := hl
        refine lv_goto hx hb d_Mo_same_62 (tgt := 6) rfl ?_
        have hl : lv_has ls 7 [(0, .ref r), (1, .int (nI nm)), (2, .int (nI rr)), (3, .int (nI f)), (4, .int (nI (mSa A nm rr f (k + 1)))), (5, .int (nI (k + 1)))] := (by rw [show mSa A nm rr f (k + 1) = mSa A nm rr f k + 0 from by rw [show mSa A nm rr f (k + 1) = mSa A nm rr f k + (decide (A 18 k = nm) && decide (lCmp (mTx A k f) (mTx A rr f) = 0)).toNat from rfl]; rw [decide_eq_true (show A 18 k = nm by omega)]; rw [hms.tx, hms.tx] at hT34; simp [hT34]]; exact lv_sub hl [3, 4, 5, 6, 1, 0] rfl)
        exact ih (k + 1, B1) ls _ _ ⟨hl, by omega, hM, hms9, hS, hL⟩ (by show n - (k + 1) < n - k; omega)
      · refine lv_iconst (v := nI 1) hx hb d_Mo_same_37 (by decide) ?_
        refine lv_goto hx hb d_Mo_same_38 (tgt := 42) rfl ?_
        refine lv_istore hx hb d_Mo_same_42 hl (by decide) rfl (fun ls hl => ?_)
        have hl : lv_has ls 7 [(6, .int (nI 1)), (0, .ref r), (1, .int (nI nm)), (2, .int (nI rr)), (3, .int (nI f)), (4, .int (nI (mSa A nm rr f k))), (5, .int (nI k))] := hl
        refine lv_iload hx hb d_Mo_same_44 (lv_at hl 5 rfl) ?_
        refine lv_iload hx hb d_Mo_same_46 (lv_at hl 0 rfl) ?_
        refine zz_eq0 hx hb (by decide) d_Mo_same_48 (tgt := 55) rfl (fun h => absurd h (by decide)) (fun _ => ?_)
        refine lv_iconst (v := nI 1) hx hb d_Mo_same_51 (by decide) ?_
        refine lv_goto hx hb d_Mo_same_52 (tgt := 56) rfl ?_
        refine zz_iadd hx hb d_Mo_same_56 ?_
        refine lv_istore hx hb d_Mo_same_57 hl (by decide) rfl (fun ls hl => ?_)
        have hl : lv_has ls 7 [(4, .int (nI ((mSa A nm rr f k) + 1))), (6, .int (nI 1)), (0, .ref r), (1, .int (nI nm)), (2, .int (nI rr)), (3, .int (nI f)), (5, .int (nI k))] := hl
        refine lv_iinc (k := 6) (v := nI (k + 1)) hx hb d_Mo_same_59 hl rfl (zz_inc _) (by decide) rfl (fun ls hl => ?_)
        have hl : lv_has ls 7 [(5, .int (nI (k + 1))), (4, .int (nI ((mSa A nm rr f k) + 1))), (6, .int (nI 1)), (0, .ref r), (1, .int (nI nm)), (2, .int (nI rr)), (3, .int (nI f))] := hl
        refine lv_goto hx hb d_Mo_same_62 (tgt := 6) rfl ?_
        have hl : lv_has ls 7 [(0, .ref r), (1, .int (nI nm)), (2, .int (nI rr)), (3, .int (nI f)), (4, .int (nI (mSa A nm rr f (k + 1)))), (5, .int (nI (k + 1)))] := (by rw [show mSa A nm rr f (k + 1) = mSa A nm rr f k + 1 from by rw [show mSa A nm rr f (k + 1) = mSa A nm rr f k + (decide (A 18 k = nm) && decide (lCmp (mTx A k f) (mTx A rr f) = 0)).toNat from rfl]; rw [decide_eq_true (show A 18 k = nm by omega)]; rw [hms.tx, hms.tx] at hF34; simp [hF34]]; exact lv_sub hl [3, 4, 5, 6, 1, 0] rfl)
        exact ih (k + 1, B1) ls _ _ ⟨hl, by omega, hM, hms9, hS, hL⟩ (by show n - (k + 1) < n - k; omega)

set_option maxHeartbeats 4000000 in
set_option maxRecDepth 100000 in
theorem k_Mo_better (l : Launch) (D : va_G) (ca : Nat → ClassId) (r n t rs w : Nat) (A : Nat → Nat → Nat) (nm rr b0 f : Nat) (hn : n ≤ 12) (hnm2 : nm ≤ 12) (hrr : rr ≤ 12) (hb0 : b0 ≤ 12) (hf : f ≤ 1) (okA : mOk A) (hlab : ∀ k, k < n → A 18 k ≤ 12) (hkp : A 17 f ≤ 2) : Met l y_Mo_better w_Mo_better (zr 4 0 0) (zz_P D ca [.ref r, .int (nI nm), .int (nI rr), .int (nI b0), .int (nI f)] (fun H => MoAt D ca H r n t rs w A)) (zz_Q (fun H H1 v => v = some (.int (nI (mBt A n nm rr b0 f).toNat)) ∧ zz_fr (moFr r) H H1 ∧ ∃ B, MoAt D ca H1 r n t rs w B ∧ mS A B)) 0 0 (moFr r) := by
  refine zz_met (cc := c_Mo_better) (by decide) (Nat.le_of_ble_eq_true rfl) ?_
  intro p e s m below meth c ls hE hr hlk hnm hM hl
  have hx := hE.1.1
  have hb := hE.1.2.1
  have hK := hE.2
  have hl : lv_has ls 8 [(0, .ref r), (1, .int (nI nm)), (2, .int (nI rr)), (3, .int (nI b0)), (4, .int (nI f))] := hl
  have hL : zz_L (moFr r) ([] : List Loc) := zz_L.nil
  have hS : zz_fr (moFr r) s.heap s.heap := zz_fr.rf
  have hms : mS A A := mS.rf okA
  refine lv_aload_n hx hb d_Mo_better_0 rfl (lv_at hl 0 rfl) ?_
  refine lv_iload_n hx hb d_Mo_better_1 rfl (lv_at hl 2 rfl) ?_
  refine lv_iload hx hb d_Mo_better_2 (lv_at hl 4 rfl) ?_
  refine zz_callI (cl_Mo_162 (rest := []) hE (k_Mo_sizeOf l D ca r n t rs w A rr f (by omega) hf hms.1) ⟨rfl, rfl, by decide, by decide⟩ hM hM.1 rfl hl.1 rfl (Nat.le_of_ble_eq_true rfl) d_Mo_better_4 ⟨by decide, by decide⟩) hL (fun _ h => h) (fun H locs hpost hL => ?_)
  obtain ⟨hfrB1, B1, hM, hmsB10⟩ := hpost
  have hS := hS.tr hfrB1
  have hms := hms.tr hmsB10
  have e17B1 : B1 17 f = A 17 f := congrFun (hms.2 17 (by decide) (by decide) (by decide) (by decide)) f
  refine lv_istore hx hb d_Mo_better_7 hl (by decide) rfl (fun ls hl => ?_)
  have hl : lv_has ls 8 [(5, .int (nI ((mTx A rr f).length))), (0, .ref r), (1, .int (nI nm)), (2, .int (nI rr)), (3, .int (nI b0)), (4, .int (nI f))] := hl
  refine lv_aload_n hx hb d_Mo_better_9 rfl (lv_at hl 1 rfl) ?_
  refine lv_iload_n hx hb d_Mo_better_10 rfl (lv_at hl 4 rfl) ?_
  refine lv_iload hx hb d_Mo_better_11 (lv_at hl 5 rfl) ?_
  refine zz_callI (cl_Mo_162 (rest := []) hE (k_Mo_sizeOf l D ca r n t rs w B1 b0 f (by omega) hf hms.1) ⟨rfl, rfl, by decide, by decide⟩ hM hM.1 rfl hl.1 rfl (Nat.le_of_ble_eq_true rfl) d_Mo_better_13 ⟨by decide, by decide⟩) hL (fun _ h => h) (fun H locs hpost hL => ?_)
  obtain ⟨hfrB2, B2, hM, hmsB20⟩ := hpost
  have hS := hS.tr hfrB2
  have hms := hms.tr hmsB20
  have e17B2 : B2 17 f = A 17 f := congrFun (hms.2 17 (by decide) (by decide) (by decide) (by decide)) f
  refine lv_istore hx hb d_Mo_better_16 hl (by decide) rfl (fun ls hl => ?_)
  have hl : lv_has ls 8 [(6, .int (nI ((mTx B1 b0 f).length))), (5, .int (nI ((mTx A rr f).length))), (0, .ref r), (1, .int (nI nm)), (2, .int (nI rr)), (3, .int (nI b0)), (4, .int (nI f))] := hl
  have k0 : (mTx A rr f).length ≤ 12 := (mTx_lt okA hrr hf).1
  have k1 : (mTx A b0 f).length ≤ 12 := (mTx_lt okA hb0 hf).1
  have k2 : (mTx B1 b0 f).length = (mTx A b0 f).length := by rw [hmsB10.tx]
  refine lv_aload_n hx hb d_Mo_better_18 rfl (lv_at hl 2 rfl) ?_
  refine fg_Mo_59 hE hM.1 rfl d_Mo_better_19 ?_
  refine lv_iload hx hb d_Mo_better_22 (lv_at hl 6 rfl) ?_
  refine mo_ld hE hM 17 (by decide) (i := f) (show f < 2 by omega) d_Mo_better_24 ?_
  refine zz_ne0 hx hb (by omega) d_Mo_better_25 (tgt := 41) rfl (fun hT25 => ?_) (fun hF25 => ?_)
  · refine lv_iload hx hb d_Mo_better_41 (lv_at hl 1 rfl) ?_
    refine zz_eq0 hx hb (by omega) d_Mo_better_43 (tgt := 51) rfl (fun hT43 => ?_) (fun hF43 => ?_)
    · refine lv_iload hx hb d_Mo_better_51 (lv_at hl 0 rfl) ?_
      refine zz_ne0 hx hb (by omega) d_Mo_better_53 (tgt := 65) rfl (fun hT53 => ?_) (fun hF53 => ?_)
      · refine lv_iconst (v := nI 0) hx hb d_Mo_better_65 (by decide) ?_
        have hval : mBt A n nm rr b0 f = false := by
            unfold mBt
            rw [if_neg (by omega), if_pos (by omega)]; first | (rw [decide_eq_true (show (mTx A b0 f).length = 0 by omega), decide_eq_true (show 0 < (mTx A rr f).length by omega)]; rfl) | (rw [decide_eq_false (show ¬ (mTx A b0 f).length = 0 by omega)]; rfl) | (rw [decide_eq_false (show ¬ 0 < (mTx A rr f).length by omega)]; simp)
        exact zz_iret hx hb hr hlk rfl ⟨by rw [hval]; rfl, hS, _, hM, hms⟩ hL d_Mo_better_66
      · refine lv_iload hx hb d_Mo_better_56 (lv_at hl 1 rfl) ?_
        refine zz_le0 hx hb (by omega) d_Mo_better_58 (tgt := 65) rfl (fun hT58 => ?_) (fun hF58 => ?_)
        · refine lv_iconst (v := nI 0) hx hb d_Mo_better_65 (by decide) ?_
          have hval : mBt A n nm rr b0 f = false := by
              unfold mBt
              rw [if_neg (by omega), if_pos (by omega)]; first | (rw [decide_eq_true (show (mTx A b0 f).length = 0 by omega), decide_eq_true (show 0 < (mTx A rr f).length by omega)]; rfl) | (rw [decide_eq_false (show ¬ (mTx A b0 f).length = 0 by omega)]; rfl) | (rw [decide_eq_false (show ¬ 0 < (mTx A rr f).length by omega)]; simp)
          exact zz_iret hx hb hr hlk rfl ⟨by rw [hval]; rfl, hS, _, hM, hms⟩ hL d_Mo_better_66
        · refine lv_iconst (v := nI 1) hx hb d_Mo_better_61 (by decide) ?_
          refine lv_goto hx hb d_Mo_better_62 (tgt := 66) rfl ?_
          have hval : mBt A n nm rr b0 f = true := by
              unfold mBt
              rw [if_neg (by omega), if_pos (by omega)]; first | (rw [decide_eq_true (show (mTx A b0 f).length = 0 by omega), decide_eq_true (show 0 < (mTx A rr f).length by omega)]; rfl) | (rw [decide_eq_false (show ¬ (mTx A b0 f).length = 0 by omega)]; rfl) | (rw [decide_eq_false (show ¬ 0 < (mTx A rr f).length by omega)]; simp)
          exact zz_iret hx hb hr hlk rfl ⟨by rw [hval]; rfl, hS, _, hM, hms⟩ hL d_Mo_better_66
    · refine lv_iload hx hb d_Mo_better_46 (lv_at hl 0 rfl) ?_
      refine zz_ne0 hx hb (by omega) d_Mo_better_48 (tgt := 67) rfl (fun hT48 => ?_) (fun hF48 => ?_)
      · refine lv_aload_n hx hb d_Mo_better_67 rfl (lv_at hl 2 rfl) ?_
        refine fg_Mo_59 hE hM.1 rfl d_Mo_better_68 ?_
        refine lv_iload hx hb d_Mo_better_71 (lv_at hl 6 rfl) ?_
        refine mo_ld hE hM 17 (by decide) (i := f) (show f < 2 by omega) d_Mo_better_73 ?_
        refine lv_iconst (v := nI 2) hx hb d_Mo_better_74 (by decide) ?_
        refine zz_ne hx hb (by omega) (by omega) d_Mo_better_75 (tgt := 95) rfl (fun hT75 => ?_) (fun hF75 => ?_)
        · refine lv_aload_n hx hb d_Mo_better_95 rfl (lv_at hl 2 rfl) ?_
          refine lv_iload_n hx hb d_Mo_better_96 rfl (lv_at hl 3 rfl) ?_
          refine lv_iload_n hx hb d_Mo_better_97 rfl (lv_at hl 4 rfl) ?_
          refine lv_iload hx hb d_Mo_better_98 (lv_at hl 6 rfl) ?_
          refine zz_callI (cl_Mo_165 (rest := []) hE (k_Mo_same l D ca r n t rs w B2 nm rr f hn hnm2 (by omega) hf hms.1 (by rw [hms.2 18 (by decide) (by decide) (by decide) (by decide)]; exact hlab)) ⟨rfl, rfl, by decide, by decide⟩ hM hM.1 rfl hl.1 rfl (Nat.le_of_ble_eq_true rfl) d_Mo_better_100 ⟨by decide, by decide⟩) hL (fun _ h => h) (fun H locs hpost hL => ?_)
          obtain ⟨hfrB3, B3, hM, hmsB30⟩ := hpost
          have hS := hS.tr hfrB3
          have hms := hms.tr hmsB30
          have e17B3 : B3 17 f = A 17 f := congrFun (hms.2 17 (by decide) (by decide) (by decide) (by decide)) f
          refine lv_istore hx hb d_Mo_better_103 hl (by decide) rfl (fun ls hl => ?_)
          have hl : lv_has ls 8 [(7, .int (nI (mSa B2 nm rr f n))), (6, .int (nI ((mTx B1 b0 f).length))), (5, .int (nI ((mTx A rr f).length))), (0, .ref r), (1, .int (nI nm)), (2, .int (nI rr)), (3, .int (nI b0)), (4, .int (nI f))] := hl
          refine lv_iload hx hb d_Mo_better_105 (lv_at hl 0 rfl) ?_
          refine lv_aload_n hx hb d_Mo_better_107 rfl (lv_at hl 3 rfl) ?_
          refine lv_iload_n hx hb d_Mo_better_108 rfl (lv_at hl 4 rfl) ?_
          refine lv_iload_n hx hb d_Mo_better_109 rfl (lv_at hl 6 rfl) ?_
          refine lv_iload hx hb d_Mo_better_110 (lv_at hl 7 rfl) ?_
          refine zz_callI (cl_Mo_165 (rest := [.int (nI (mSa B2 nm rr f n))]) hE (k_Mo_same l D ca r n t rs w B3 nm b0 f hn hnm2 (by omega) hf hms.1 (by rw [hms.2 18 (by decide) (by decide) (by decide) (by decide)]; exact hlab)) ⟨rfl, rfl, by decide, by decide⟩ hM hM.1 rfl hl.1 rfl (Nat.le_of_ble_eq_true rfl) d_Mo_better_112 ⟨by decide, by decide⟩) hL (fun _ h => h) (fun H locs hpost hL => ?_)
          obtain ⟨hfrB4, B4, hM, hmsB40⟩ := hpost
          have hS := hS.tr hfrB4
          have hms := hms.tr hmsB40
          have e17B4 : B4 17 f = A 17 f := congrFun (hms.2 17 (by decide) (by decide) (by decide) (by decide)) f
          have k5 : mSa B2 nm rr f n = mSa A nm rr f n := by rw [mSa_eq hmsB20, mSa_eq hmsB10]
          have k6 : mSa B3 nm b0 f n = mSa A nm b0 f n := by rw [mSa_eq hmsB30, mSa_eq hmsB20, mSa_eq hmsB10]
          have k7 : mSa B2 nm rr f n ≤ n := zcnt_le _ _
          have k8 : mSa B3 nm b0 f n ≤ n := zcnt_le _ _
          refine zz_le hx hb (by omega) (by omega) d_Mo_better_115 (tgt := 122) rfl (fun hT115 => ?_) (fun hF115 => ?_)
          · refine lv_iconst (v := nI 0) hx hb d_Mo_better_122 (by decide) ?_
            have hval : mBt A n nm rr b0 f = false := by
                unfold mBt
                rw [if_neg (by omega), if_neg (by omega), if_neg (by omega)]; rw [k5, k6] at hT115; simp; omega
            exact zz_iret hx hb hr hlk rfl ⟨by rw [hval]; rfl, hS, _, hM, hms⟩ hL d_Mo_better_123
          · refine lv_iconst (v := nI 1) hx hb d_Mo_better_118 (by decide) ?_
            refine lv_goto hx hb d_Mo_better_119 (tgt := 123) rfl ?_
            have hval : mBt A n nm rr b0 f = true := by
                unfold mBt
                rw [if_neg (by omega), if_neg (by omega), if_neg (by omega)]; rw [k5, k6] at hF115; simp; omega
            exact zz_iret hx hb hr hlk rfl ⟨by rw [hval]; rfl, hS, _, hM, hms⟩ hL d_Mo_better_123
        · refine lv_aload_n hx hb d_Mo_better_78 rfl (lv_at hl 2 rfl) ?_
          refine lv_iload_n hx hb d_Mo_better_79 rfl (lv_at hl 4 rfl) ?_
          refine lv_iload_n hx hb d_Mo_better_80 rfl (lv_at hl 5 rfl) ?_
          refine lv_iload hx hb d_Mo_better_81 (lv_at hl 6 rfl) ?_
          refine zz_callI (cl_Mo_158 (rest := []) hE (k_Mo_compare l D ca r n t rs w B2 rr b0 f (by omega) (by omega) hf hms.1) ⟨rfl, rfl, by decide, by decide⟩ hM hM.1 rfl hl.1 rfl (Nat.le_of_ble_eq_true rfl) d_Mo_better_83 ⟨by decide, by decide⟩) hL (fun _ h => h) (fun H locs hpost hL => ?_)
          obtain ⟨hfrB3, B3, hM, hmsB30⟩ := hpost
          have hS := hS.tr hfrB3
          have hms := hms.tr hmsB30
          have e17B3 : B3 17 f = A 17 f := congrFun (hms.2 17 (by decide) (by decide) (by decide) (by decide)) f
          have k3 : mTx B2 rr f = mTx A rr f := by rw [hmsB20.tx, hmsB10.tx]
          have k4 : mTx B2 b0 f = mTx A b0 f := by rw [hmsB20.tx, hmsB10.tx]
          refine lv_if_ge hx hb d_Mo_better_86 (tgt := 93) rfl (fun hT86 => ?_) (fun hF86 => ?_)
          · refine lv_iconst (v := nI 0) hx hb d_Mo_better_93 (by decide) ?_
            have hval : mBt A n nm rr b0 f = false := by
                unfold mBt
                rw [if_neg (by omega), if_neg (by omega), if_pos (by omega)]; rw [k3, k4] at hT86; simp only [decide_eq_true_eq, decide_eq_false_iff_not]; first | exact k2_lt hT86 | exact k2_nlt hT86
            exact zz_iret hx hb hr hlk rfl ⟨by rw [hval]; rfl, hS, _, hM, hms⟩ hL d_Mo_better_94
          · refine lv_iconst (v := nI 1) hx hb d_Mo_better_89 (by decide) ?_
            refine lv_goto hx hb d_Mo_better_90 (tgt := 94) rfl ?_
            have hval : mBt A n nm rr b0 f = true := by
                unfold mBt
                rw [if_neg (by omega), if_neg (by omega), if_pos (by omega)]; rw [k3, k4] at hF86; simp only [decide_eq_true_eq, decide_eq_false_iff_not]; first | exact k2_lt hF86 | exact k2_nlt hF86
            exact zz_iret hx hb hr hlk rfl ⟨by rw [hval]; rfl, hS, _, hM, hms⟩ hL d_Mo_better_94
      · refine lv_iload hx hb d_Mo_better_51 (lv_at hl 0 rfl) ?_
        refine zz_ne0 hx hb (by omega) d_Mo_better_53 (tgt := 65) rfl (fun hT53 => ?_) (fun hF53 => ?_)
        · refine lv_iconst (v := nI 0) hx hb d_Mo_better_65 (by decide) ?_
          have hval : mBt A n nm rr b0 f = false := by
              unfold mBt
              rw [if_neg (by omega), if_pos (by omega)]; first | (rw [decide_eq_true (show (mTx A b0 f).length = 0 by omega), decide_eq_true (show 0 < (mTx A rr f).length by omega)]; rfl) | (rw [decide_eq_false (show ¬ (mTx A b0 f).length = 0 by omega)]; rfl) | (rw [decide_eq_false (show ¬ 0 < (mTx A rr f).length by omega)]; simp)
          exact zz_iret hx hb hr hlk rfl ⟨by rw [hval]; rfl, hS, _, hM, hms⟩ hL d_Mo_better_66
        · refine lv_iload hx hb d_Mo_better_56 (lv_at hl 1 rfl) ?_
          refine zz_le0 hx hb (by omega) d_Mo_better_58 (tgt := 65) rfl (fun hT58 => ?_) (fun hF58 => ?_)
          · refine lv_iconst (v := nI 0) hx hb d_Mo_better_65 (by decide) ?_
            have hval : mBt A n nm rr b0 f = false := by
                unfold mBt
                rw [if_neg (by omega), if_pos (by omega)]; first | (rw [decide_eq_true (show (mTx A b0 f).length = 0 by omega), decide_eq_true (show 0 < (mTx A rr f).length by omega)]; rfl) | (rw [decide_eq_false (show ¬ (mTx A b0 f).length = 0 by omega)]; rfl) | (rw [decide_eq_false (show ¬ 0 < (mTx A rr f).length by omega)]; simp)
            exact zz_iret hx hb hr hlk rfl ⟨by rw [hval]; rfl, hS, _, hM, hms⟩ hL d_Mo_better_66
          · refine lv_iconst (v := nI 1) hx hb d_Mo_better_61 (by decide) ?_
            refine lv_goto hx hb d_Mo_better_62 (tgt := 66) rfl ?_
            have hval : mBt A n nm rr b0 f = true := by
                unfold mBt
                rw [if_neg (by omega), if_pos (by omega)]; first | (rw [decide_eq_true (show (mTx A b0 f).length = 0 by omega), decide_eq_true (show 0 < (mTx A rr f).length by omega)]; rfl) | (rw [decide_eq_false (show ¬ (mTx A b0 f).length = 0 by omega)]; rfl) | (rw [decide_eq_false (show ¬ 0 < (mTx A rr f).length by omega)]; simp)
            exact zz_iret hx hb hr hlk rfl ⟨by rw [hval]; rfl, hS, _, hM, hms⟩ hL d_Mo_better_66
  · refine lv_iload hx hb d_Mo_better_28 (lv_at hl 1 rfl) ?_
    refine lv_iload hx hb d_Mo_better_30 (lv_at hl 0 rfl) ?_
    refine zz_le hx hb (by omega) (by omega) d_Mo_better_32 (tgt := 39) rfl (fun hT32 => ?_) (fun hF32 => ?_)
    · refine lv_iconst (v := nI 0) hx hb d_Mo_better_39 (by decide) ?_
      have hval : mBt A n nm rr b0 f = false := by
          unfold mBt
          rw [if_pos (by omega)]; simp; omega
      exact zz_iret hx hb hr hlk rfl ⟨by rw [hval]; rfl, hS, _, hM, hms⟩ hL d_Mo_better_40
    · refine lv_iconst (v := nI 1) hx hb d_Mo_better_35 (by decide) ?_
      refine lv_goto hx hb d_Mo_better_36 (tgt := 40) rfl ?_
      have hval : mBt A n nm rr b0 f = true := by
          unfold mBt
          rw [if_pos (by omega)]; simp; omega
      exact zz_iret hx hb hr hlk rfl ⟨by rw [hval]; rfl, hS, _, hM, hms⟩ hL d_Mo_better_40
