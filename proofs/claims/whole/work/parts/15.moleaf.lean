section ZC2
variable {p : Program} {l : Launch} {e : Env} {R : Room} {s : State} {m : MethodId} {args : Array Value} {below : List Frame} {meth : Method} {c : Code} {H : Heap} {locs : List Loc} {cells slots : Nat} {Q : State → Prop}
variable {pc : Nat} {ls : Array Slot} {rest st0 : List Value} {F : Nat → Prop} {P : Heap → Heap → Prop} {mc ms : Nat} {av : Array Value} {free : Addr → Prop}
theorem zz_callN (hr : va_Run p l e R s m args below meth c H locs cells slots mc ms (F0 m pc ls st0) rest (zz_Q (fun H H1 v => v = none ∧ P H H1) av) free) (hL : zz_L F locs) (hF : ∀ q : Nat, free q → F q)
    (kk : ∀ (H1 : Heap) (locs1 : List Loc), P H H1 → zz_L F locs1 → W p l e R s m args below meth c H1 locs1 (cells + mc) (slots + ms) Q (F0 m (pc + 3) ls rest)) : W p l e R s m args below meth c H locs cells slots Q (F0 m pc ls st0) :=
  zz_call hr hL hF fun v H1 locs1 h hL1 => by
    obtain ⟨rfl, h⟩ := h
    exact kk H1 locs1 h hL1
theorem zz_callI {x : Int32} (hr : va_Run p l e R s m args below meth c H locs cells slots mc ms (F0 m pc ls st0) rest (zz_Q (fun H H1 v => v = some (.int x) ∧ P H H1) av) free) (hL : zz_L F locs) (hF : ∀ q : Nat, free q → F q)
    (kk : ∀ (H1 : Heap) (locs1 : List Loc), P H H1 → zz_L F locs1 → W p l e R s m args below meth c H1 locs1 (cells + mc) (slots + ms) Q (F0 m (pc + 3) ls (.int x :: rest))) : W p l e R s m args below meth c H locs cells slots Q (F0 m pc ls st0) :=
  zz_call hr hL hF fun v H1 locs1 h hL1 => by
    obtain ⟨rfl, h⟩ := h
    exact kk H1 locs1 h hL1
theorem zz_callA {x : Nat} (hr : va_Run p l e R s m args below meth c H locs cells slots mc ms (F0 m pc ls st0) rest (zz_Q (fun H H1 v => v = some (.ref x) ∧ P H H1) av) free) (hL : zz_L F locs) (hF : ∀ q : Nat, free q → F q)
    (kk : ∀ (H1 : Heap) (locs1 : List Loc), P H H1 → zz_L F locs1 → W p l e R s m args below meth c H1 locs1 (cells + mc) (slots + ms) Q (F0 m (pc + 3) ls (.ref x :: rest))) : W p l e R s m args below meth c H locs cells slots Q (F0 m pc ls st0) :=
  zz_call hr hL hF fun v H1 locs1 h hL1 => by
    obtain ⟨rfl, h⟩ := h
    exact kk H1 locs1 h hL1
end ZC2
theorem zmul_le {a b c d : Nat} (h1 : a ≤ c) (h2 : b ≤ d) : a * b ≤ c * d := Nat.mul_le_mul h1 h2
theorem mIn_le (A : Nat → Nat → Nat) (a b : Nat) (both : Bool) (n : Nat) : mIn A a b both n ≤ n := zcnt_le _ n

set_option maxHeartbeats 4000000 in
set_option maxRecDepth 100000 in
theorem k_Mo_leafHolds (l : Launch) (D : va_G) (ca : Nat → ClassId) (r n t rs w : Nat) (A : Nat → Nat → Nat) (k j rr : Nat) (hk : k < 24) (hj : j ≤ 12) (hrr : rr ≤ 12) (okA : mOk A) (hkd : A 11 k < 4) (hfl : A 12 k ≤ 1) (hnu : A 13 k ≤ 100) (hdn : A 14 k ≤ 100) : Met l y_Mo_leafHolds w_Mo_leafHolds (zr 4 0 0) (zz_P D ca [.ref r, .int (nI k), .int (nI j), .int (nI rr)] (fun H => MoAt D ca H r n t rs w A)) (zz_Q (fun H H1 v => v = some (.int (nI (leafV (A 11 k) (A 13 k) (A 14 k) (mTx A j (A 12 k)) (mTx A rr (A 12 k))).toNat)) ∧ zz_fr (moFr r) H H1 ∧ ∃ B, MoAt D ca H1 r n t rs w B ∧ mS A B ∧ B 15 = A 15)) 0 0 (moFr r) := by
  refine zz_met (cc := c_Mo_leafHolds) (by decide) (Nat.le_of_ble_eq_true rfl) ?_
  intro p e s m below meth c ls hE hr hlk hnm hM hl
  have hx := hE.1.1
  have hb := hE.1.2.1
  have hK := hE.2
  have hl : lv_has ls 6 [(0, .ref r), (1, .int (nI k)), (2, .int (nI j)), (3, .int (nI rr))] := hl
  have hL : zz_L (moFr r) ([] : List Loc) := zz_L.nil
  have hS : zz_fr (moFr r) s.heap s.heap := zz_fr.rf
  refine lv_aload_n hx hb d_Mo_leafHolds_0 rfl (lv_at hl 0 rfl) ?_
  refine lv_iconst (v := nI 0) hx hb d_Mo_leafHolds_1 (by decide) ?_
  refine lv_iload_n hx hb d_Mo_leafHolds_2 rfl (lv_at hl 2 rfl) ?_
  refine lv_aload_n hx hb d_Mo_leafHolds_3 rfl (lv_at hl 0 rfl) ?_
  refine fg_Mo_43 hE hM.1 rfl d_Mo_leafHolds_4 ?_
  refine lv_iload_n hx hb d_Mo_leafHolds_7 rfl (lv_at hl 1 rfl) ?_
  refine mo_ld hE hM 12 (by decide) (i := k) (show k < 24 by omega) d_Mo_leafHolds_8 ?_
  refine zz_callN (cl_Mo_98 (rest := []) hE (k_Mo_look l D ca r n t rs w A 0 j (A 12 k) (by decide) (by omega) (by omega) (okA.2.1 _ (by omega)) okA.1) ⟨rfl, rfl, by decide, by decide⟩ hM hM.1 rfl hl.1 rfl (Nat.le_of_ble_eq_true rfl) d_Mo_leafHolds_9 ⟨by decide, by decide⟩) hL (fun _ h => h) (fun H locs hpost hL => ?_)
  obtain ⟨hfrB1, B1, hM, hlkB1⟩ := hpost
  have hS := hS.tr hfrB1
  obtain ⟨msB1, atB1, lnB1, otB1⟩ := mLook_ok (q := 0) (rr := j) (f := A 12 k) okA (by decide) (by omega) (by omega) hlkB1
  have okB1 := msB1.1
  have e11B1 : B1 11 k = A 11 k := congrFun (msB1.2 11 (by decide) (by decide) (by decide) (by decide)) k
  have e12B1 : B1 12 k = A 12 k := congrFun (msB1.2 12 (by decide) (by decide) (by decide) (by decide)) k
  have e13B1 : B1 13 k = A 13 k := congrFun (msB1.2 13 (by decide) (by decide) (by decide) (by decide)) k
  have e14B1 : B1 14 k = A 14 k := congrFun (msB1.2 14 (by decide) (by decide) (by decide) (by decide)) k
  refine lv_aload_n hx hb d_Mo_leafHolds_12 rfl (lv_at hl 0 rfl) ?_
  refine lv_iconst (v := nI 1) hx hb d_Mo_leafHolds_13 (by decide) ?_
  refine lv_iload_n hx hb d_Mo_leafHolds_14 rfl (lv_at hl 3 rfl) ?_
  refine lv_aload_n hx hb d_Mo_leafHolds_15 rfl (lv_at hl 0 rfl) ?_
  refine fg_Mo_43 hE hM.1 rfl d_Mo_leafHolds_16 ?_
  refine lv_iload_n hx hb d_Mo_leafHolds_19 rfl (lv_at hl 1 rfl) ?_
  refine mo_ld hE hM 12 (by decide) (i := k) (show k < 24 by omega) d_Mo_leafHolds_20 ?_
  refine zz_callN (cl_Mo_98 (rest := []) hE (k_Mo_look l D ca r n t rs w B1 1 rr (B1 12 k) (by decide) (by omega) (by omega) (okB1.2.1 _ (by omega)) okB1.1) ⟨rfl, rfl, by decide, by decide⟩ hM hM.1 rfl hl.1 rfl (Nat.le_of_ble_eq_true rfl) d_Mo_leafHolds_21 ⟨by decide, by decide⟩) hL (fun _ h => h) (fun H locs hpost hL => ?_)
  obtain ⟨hfrB2, B2, hM, hlkB2⟩ := hpost
  have hS := hS.tr hfrB2
  obtain ⟨msB2, atB2, lnB2, otB2⟩ := mLook_ok (q := 1) (rr := rr) (f := B1 12 k) okB1 (by decide) (by omega) (by omega) hlkB2
  have okB2 := msB2.1
  have e11B2 : B2 11 k = B1 11 k := congrFun (msB2.2 11 (by decide) (by decide) (by decide) (by decide)) k
  have e12B2 : B2 12 k = B1 12 k := congrFun (msB2.2 12 (by decide) (by decide) (by decide) (by decide)) k
  have e13B2 : B2 13 k = B1 13 k := congrFun (msB2.2 13 (by decide) (by decide) (by decide) (by decide)) k
  have e14B2 : B2 14 k = B1 14 k := congrFun (msB2.2 14 (by decide) (by decide) (by decide) (by decide)) k
  have a0 : mAt B2 0 = tAt (mTx A j (A 12 k)) := by rw [(otB2 0 (by decide) (by decide)).1, atB1]
  have l0 : B2 4 0 = (mTx A j (A 12 k)).length := by rw [(otB2 0 (by decide) (by decide)).2, lnB1]
  have a1 : mAt B2 1 = tAt (mTx A rr (A 12 k)) := by rw [atB2, msB1.tx, e12B1]
  have l1 : B2 4 1 = (mTx A rr (A 12 k)).length := by rw [lnB2, msB1.tx, e12B1]
  have s0 := okB2.2.2.2.1 0 (by decide)
  have s1 := okB2.2.2.2.1 1 (by decide)
  refine lv_aload_n hx hb d_Mo_leafHolds_24 rfl (lv_at hl 0 rfl) ?_
  refine fg_Mo_40 hE hM.1 rfl d_Mo_leafHolds_25 ?_
  refine lv_iload_n hx hb d_Mo_leafHolds_28 rfl (lv_at hl 1 rfl) ?_
  refine mo_ld hE hM 11 (by decide) (i := k) (show k < 24 by omega) d_Mo_leafHolds_29 ?_
  refine lv_iconst (v := nI 1) hx hb d_Mo_leafHolds_30 (by decide) ?_
  refine zz_ne hx hb (by omega) (by omega) d_Mo_leafHolds_31 (tgt := 53) rfl (fun hT31 => ?_) (fun hF31 => ?_)
  · have i1 := mIn_eq (both := true) a0 a1 l0 l1
    have i2 := mIn_eq (both := false) a0 a0 l0 l0
    have i3 := mIn_eq (both := false) a1 a1 l1 l1
    have i4 := mIn_le B2 0 1 true (B2 4 0)
    have i5 := mIn_le B2 0 0 false (B2 4 0)
    have i6 := mIn_le B2 1 1 false (B2 4 1)
    have i7 := mIn_mono B2 0 1 0 (B2 4 0)
    refine lv_aload_n hx hb d_Mo_leafHolds_53 rfl (lv_at hl 0 rfl) ?_
    refine lv_iconst (v := nI 0) hx hb d_Mo_leafHolds_54 (by decide) ?_
    refine lv_iconst (v := nI 1) hx hb d_Mo_leafHolds_55 (by decide) ?_
    refine lv_iconst (v := nI 1) hx hb d_Mo_leafHolds_56 (by decide) ?_
    refine zz_callP (cl_Mo_102 (rest := []) hE (k_Mo_inSet l D ca r n t rs w B2 0 1 true (by decide) (by decide) s0 s1 okB2.2.2.1) ⟨rfl, rfl, by decide, by decide⟩ hM hM.1 rfl hl.1 rfl (Nat.le_of_ble_eq_true rfl) d_Mo_leafHolds_57 ⟨by decide, by decide⟩) ?_
    refine lv_istore hx hb d_Mo_leafHolds_60 hl (by decide) rfl (fun ls hl => ?_)
    have hl : lv_has ls 6 [(4, .int (nI (mIn B2 0 1 true (B2 4 0)))), (0, .ref r), (1, .int (nI k)), (2, .int (nI j)), (3, .int (nI rr))] := hl
    refine lv_aload_n hx hb d_Mo_leafHolds_62 rfl (lv_at hl 1 rfl) ?_
    refine lv_iconst (v := nI 0) hx hb d_Mo_leafHolds_63 (by decide) ?_
    refine lv_iconst (v := nI 0) hx hb d_Mo_leafHolds_64 (by decide) ?_
    refine lv_iconst (v := nI 0) hx hb d_Mo_leafHolds_65 (by decide) ?_
    refine zz_callP (cl_Mo_102 (rest := []) hE (k_Mo_inSet l D ca r n t rs w B2 0 0 false (by decide) (by decide) s0 s0 okB2.2.2.1) ⟨rfl, rfl, by decide, by decide⟩ hM hM.1 rfl hl.1 rfl (Nat.le_of_ble_eq_true rfl) d_Mo_leafHolds_66 ⟨by decide, by decide⟩) ?_
    refine lv_aload_n hx hb d_Mo_leafHolds_69 rfl (lv_at hl 1 rfl) ?_
    refine lv_iconst (v := nI 1) hx hb d_Mo_leafHolds_70 (by decide) ?_
    refine lv_iconst (v := nI 1) hx hb d_Mo_leafHolds_71 (by decide) ?_
    refine lv_iconst (v := nI 0) hx hb d_Mo_leafHolds_72 (by decide) ?_
    refine zz_callP (cl_Mo_102 (rest := [.int (nI (mIn B2 0 0 false (B2 4 0)))]) hE (k_Mo_inSet l D ca r n t rs w B2 1 1 false (by decide) (by decide) s1 s1 okB2.2.2.1) ⟨rfl, rfl, by decide, by decide⟩ hM hM.1 rfl hl.1 rfl (Nat.le_of_ble_eq_true rfl) d_Mo_leafHolds_73 ⟨by decide, by decide⟩) ?_
    refine zz_iadd hx hb d_Mo_leafHolds_76 ?_
    refine lv_iload hx hb d_Mo_leafHolds_77 (lv_at hl 0 rfl) ?_
    refine zz_isub (by omega) hx hb d_Mo_leafHolds_79 ?_
    refine lv_istore hx hb d_Mo_leafHolds_80 hl (by decide) rfl (fun ls hl => ?_)
    have hl : lv_has ls 6 [(5, .int (nI (((mIn B2 0 0 false (B2 4 0)) + (mIn B2 1 1 false (B2 4 1))) - (mIn B2 0 1 true (B2 4 0))))), (4, .int (nI (mIn B2 0 1 true (B2 4 0)))), (0, .ref r), (1, .int (nI k)), (2, .int (nI j)), (3, .int (nI rr))] := hl
    refine lv_iload hx hb d_Mo_leafHolds_82 (lv_at hl 0 rfl) ?_
    refine zz_le0 hx hb (by omega) d_Mo_leafHolds_84 (tgt := 112) rfl (fun hT84 => ?_) (fun hF84 => ?_)
    · refine lv_iconst (v := nI 0) hx hb d_Mo_leafHolds_112 (by decide) ?_
      have hval : leafV (A 11 k) (A 13 k) (A 14 k) (mTx A j (A 12 k)) (mTx A rr (A 12 k)) = false := by
          unfold leafV; rw [if_neg (by omega)]
          simp; omega
      exact zz_iret hx hb hr hlk rfl ⟨by rw [hval]; rfl, hS, _, hM, (msB1.tr msB2), ((hlkB2.1 15 (by decide) (by decide)).trans (hlkB1.1 15 (by decide) (by decide)))⟩ hL d_Mo_leafHolds_113
    · have p1 := zmul_le i4 (show B2 14 k ≤ 100 by omega)
      have p2 := zmul_le (show B2 13 k ≤ 100 by omega) (show mIn B2 0 0 false (B2 4 0) + mIn B2 1 1 false (B2 4 1) - mIn B2 0 1 true (B2 4 0) ≤ 24 by omega)
      have p3 := zmul_le s0 (Nat.le_refl 100)
      refine lv_iload hx hb d_Mo_leafHolds_87 (lv_at hl 1 rfl) ?_
      refine lv_aload_n hx hb d_Mo_leafHolds_89 rfl (lv_at hl 2 rfl) ?_
      refine fg_Mo_49 hE hM.1 rfl d_Mo_leafHolds_90 ?_
      refine lv_iload_n hx hb d_Mo_leafHolds_93 rfl (lv_at hl 3 rfl) ?_
      refine mo_ld hE hM 14 (by decide) (i := k) (show k < 24 by omega) d_Mo_leafHolds_94 ?_
      refine zz_imul hx hb d_Mo_leafHolds_95 ?_
      refine lv_aload_n hx hb d_Mo_leafHolds_96 rfl (lv_at hl 2 rfl) ?_
      refine fg_Mo_46 hE hM.1 rfl d_Mo_leafHolds_97 ?_
      refine lv_iload_n hx hb d_Mo_leafHolds_100 rfl (lv_at hl 3 rfl) ?_
      refine mo_ld hE hM 13 (by decide) (i := k) (show k < 24 by omega) d_Mo_leafHolds_101 ?_
      refine lv_iload hx hb d_Mo_leafHolds_102 (lv_at hl 0 rfl) ?_
      refine zz_imul hx hb d_Mo_leafHolds_104 ?_
      refine zz_lt hx hb (by omega) (by omega) d_Mo_leafHolds_105 (tgt := 112) rfl (fun hT105 => ?_) (fun hF105 => ?_)
      · refine lv_iconst (v := nI 0) hx hb d_Mo_leafHolds_112 (by decide) ?_
        have hval : leafV (A 11 k) (A 13 k) (A 14 k) (mTx A j (A 12 k)) (mTx A rr (A 12 k)) = false := by
            unfold leafV; rw [if_neg (by omega)]
            have z1 : 0 < lIn (mTx A j (A 12 k)) (mTx A j (A 12 k)) false + lIn (mTx A rr (A 12 k)) (mTx A rr (A 12 k)) false - lIn (mTx A j (A 12 k)) (mTx A rr (A 12 k)) true := by omega
            rw [decide_eq_true z1, Bool.true_and]
            rw [e13B2, e13B1, e14B2, e14B1, i1, i2, i3] at hT105
            simp; omega
        exact zz_iret hx hb hr hlk rfl ⟨by rw [hval]; rfl, hS, _, hM, (msB1.tr msB2), ((hlkB2.1 15 (by decide) (by decide)).trans (hlkB1.1 15 (by decide) (by decide)))⟩ hL d_Mo_leafHolds_113
      · refine lv_iconst (v := nI 1) hx hb d_Mo_leafHolds_108 (by decide) ?_
        refine lv_goto hx hb d_Mo_leafHolds_109 (tgt := 113) rfl ?_
        have hval : leafV (A 11 k) (A 13 k) (A 14 k) (mTx A j (A 12 k)) (mTx A rr (A 12 k)) = true := by
            unfold leafV; rw [if_neg (by omega)]
            have z1 : 0 < lIn (mTx A j (A 12 k)) (mTx A j (A 12 k)) false + lIn (mTx A rr (A 12 k)) (mTx A rr (A 12 k)) false - lIn (mTx A j (A 12 k)) (mTx A rr (A 12 k)) true := by omega
            rw [decide_eq_true z1, Bool.true_and]
            rw [e13B2, e13B1, e14B2, e14B1, i1, i2, i3] at hF105
            simp; omega
        exact zz_iret hx hb hr hlk rfl ⟨by rw [hval]; rfl, hS, _, hM, (msB1.tr msB2), ((hlkB2.1 15 (by decide) (by decide)).trans (hlkB1.1 15 (by decide) (by decide)))⟩ hL d_Mo_leafHolds_113
  · refine lv_aload_n hx hb d_Mo_leafHolds_34 rfl (lv_at hl 0 rfl) ?_
    refine zz_callI (cl_Mo_133 (rest := []) hE (k_Mo_distance l D ca r n t rs w B2 s0 s1 okB2.2.2.1) ⟨rfl, rfl, by decide, by decide⟩ hM hM.1 rfl hl.1 rfl (Nat.le_of_ble_eq_true rfl) d_Mo_leafHolds_35 ⟨by decide, by decide⟩) hL (fun _ h => h) (fun H locs hpost hL => ?_)
    obtain ⟨hfrB3, B3, hM, hk5⟩ := hpost
    have hS := hS.tr hfrB3
    have e14B3 : B3 14 k = B2 14 k := congrFun (hk5 14 (by decide)) k
    have msB3 : mS B2 B3 := ⟨⟨by rw [hk5 1 (by decide)]; exact okB2.1, by rw [hk5 2 (by decide)]; exact okB2.2.1, by rw [hk5 3 (by decide)]; exact okB2.2.2.1, by rw [hk5 4 (by decide)]; exact okB2.2.2.2.1, by rw [hk5 15 (by decide)]; exact okB2.2.2.2.2⟩, fun k _ _ h _ => hk5 k h⟩
    have hdl := dst_le (mAt B2 0) (mAt B2 1) (B2 4 0) (B2 4 1)
    have hde : dst (mAt B2 0) (mAt B2 1) (B2 4 0) (B2 4 1) = lEd (mTx A j (A 12 k)) (mTx A rr (A 12 k)) := by rw [a0, a1, l0, l1]; rfl
    refine lv_aload_n hx hb d_Mo_leafHolds_38 rfl (lv_at hl 0 rfl) ?_
    refine fg_Mo_49 hE hM.1 rfl d_Mo_leafHolds_39 ?_
    refine lv_iload_n hx hb d_Mo_leafHolds_42 rfl (lv_at hl 1 rfl) ?_
    refine mo_ld hE hM 14 (by decide) (i := k) (show k < 24 by omega) d_Mo_leafHolds_43 ?_
    refine zz_gt hx hb (by omega) (by omega) d_Mo_leafHolds_44 (tgt := 51) rfl (fun hT44 => ?_) (fun hF44 => ?_)
    · refine lv_iconst (v := nI 0) hx hb d_Mo_leafHolds_51 (by decide) ?_
      have hval : leafV (A 11 k) (A 13 k) (A 14 k) (mTx A j (A 12 k)) (mTx A rr (A 12 k)) = false := by
          unfold leafV; rw [if_pos (by omega), ← hde]; simp; omega
      exact zz_iret hx hb hr hlk rfl ⟨by rw [hval]; rfl, hS, _, hM, (msB1.tr (msB2.tr msB3)), ((hk5 15 (by decide)).trans ((hlkB2.1 15 (by decide) (by decide)).trans (hlkB1.1 15 (by decide) (by decide))))⟩ hL d_Mo_leafHolds_52
    · refine lv_iconst (v := nI 1) hx hb d_Mo_leafHolds_47 (by decide) ?_
      refine lv_goto hx hb d_Mo_leafHolds_48 (tgt := 52) rfl ?_
      have hval : leafV (A 11 k) (A 13 k) (A 14 k) (mTx A j (A 12 k)) (mTx A rr (A 12 k)) = true := by
          unfold leafV; rw [if_pos (by omega), ← hde]; simp; omega
      exact zz_iret hx hb hr hlk rfl ⟨by rw [hval]; rfl, hS, _, hM, (msB1.tr (msB2.tr msB3)), ((hk5 15 (by decide)).trans ((hlkB2.1 15 (by decide) (by decide)).trans (hlkB1.1 15 (by decide) (by decide))))⟩ hL d_Mo_leafHolds_52
