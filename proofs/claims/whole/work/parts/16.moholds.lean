def mLf (A : Nat → Nat → Nat) (j rr k : Nat) : Bool := leafV (A 11 k) (A 13 k) (A 14 k) (mTx A j (A 12 k)) (mTx A rr (A 12 k))
/-- whether the rule holds of two records -/
def mHo (A : Nat → Nat → Nat) (rs j rr : Nat) : Bool := (smS (A 11) (mLf A j rr) opH rs).headD false
def mDr (A : Nat → Nat → Nat) (m : Nat) : Bool := (smS (A 6) (fun k => decide (A 6 k = 0)) opD m).headD false
theorem mLf_eq {A B : Nat → Nat → Nat} (h : mS A B) (j rr k : Nat) : mLf B j rr k = mLf A j rr k := by
  unfold mLf
  rw [h.2 11 (by decide) (by decide) (by decide) (by decide), h.2 12 (by decide) (by decide) (by decide) (by decide), h.2 13 (by decide) (by decide) (by decide) (by decide), h.2 14 (by decide) (by decide) (by decide) (by decide), h.tx, h.tx]
theorem mHo_eq {A B : Nat → Nat → Nat} (h : mS A B) (rs j rr : Nat) : mHo B rs j rr = mHo A rs j rr := by
  unfold mHo
  rw [h.2 11 (by decide) (by decide) (by decide) (by decide), show mLf B j rr = mLf A j rr from funext (mLf_eq h j rr)]
theorem smD_le {kd : Nat → Nat} {m : Nat} (h : smW kd m) : ∀ k, k ≤ m → smD kd k ≤ 12
  | 0, _ => by simp [smD]
  | k + 1, hk => (h k (by omega)).2.2
theorem mS_up15 {A B : Nat → Nat → Nat} {i : Nat} (h : mS A B) (b : Bool) : mS A (up2 B 15 i b.toNat) := by
  have hb : b.toNat ≤ 1 := Bool.toNat_le b
  refine ⟨⟨fun j hj => ?_, fun j hj => ?_, fun j hj => ?_, fun j hj => ?_, fun j hj => ?_⟩, fun k h3 h4 h5 h15 => ?_⟩
  · rw [up2_k (by decide)]; exact h.1.1 j hj
  · rw [up2_k (by decide)]; exact h.1.2.1 j hj
  · rw [up2_k (by decide)]; exact h.1.2.2.1 j hj
  · rw [up2_k (by decide)]; exact h.1.2.2.2.1 j hj
  · by_cases hji : j = i
    · subst hji; rw [up2_s]; exact hb
    · rw [up2_i hji]; exact h.1.2.2.2.2 j hj
  · funext j; rw [up2_k h15, h.2 k h3 h4 h5 h15]
theorem smR_one {g : Nat → Nat} {S : List Bool} (h : smR g S) (h1 : S.length = 1) : g 0 = (S.headD false).toNat := by
  rw [h 0 (by omega), h1]
  match S, h1 with
  | [x], _ => rfl
/-- the rule's marks -/
def mRu (A : Nat → Nat → Nat) (rs : Nat) : Prop := rs ≤ 24 ∧ smW (A 11) rs ∧ (0 < rs → smD (A 11) rs = 1) ∧ ∀ k, k < rs → A 12 k ≤ 1 ∧ A 13 k ≤ 100 ∧ A 14 k ≤ 100

set_option maxHeartbeats 4000000 in
set_option maxRecDepth 100000 in
theorem k_Mo_holds (l : Launch) (D : va_G) (ca : Nat → ClassId) (r n t rs w : Nat) (A : Nat → Nat → Nat) (j rr : Nat) (hj : j ≤ 12) (hrr : rr ≤ 12) (okA : mOk A) (hrs : 0 < rs) (hRu : mRu A rs) : Met l y_Mo_holds w_Mo_holds (zr 5 0 0) (zz_P D ca [.ref r, .int (nI j), .int (nI rr)] (fun H => MoAt D ca H r n t rs w A)) (zz_Q (fun H H1 v => v = some (.int (nI (mHo A rs j rr).toNat)) ∧ zz_fr (moFr r) H H1 ∧ ∃ B, MoAt D ca H1 r n t rs w B ∧ mS A B)) 0 0 (moFr r) := by
  refine zz_met (cc := c_Mo_holds) (by decide) (Nat.le_of_ble_eq_true rfl) ?_
  intro p e s m below meth c ls hE hr hlk hnm hM hl
  have hx := hE.1.1
  have hb := hE.1.2.1
  have hK := hE.2
  have hl : lv_has ls 5 [(0, .ref r), (1, .int (nI j)), (2, .int (nI rr))] := hl
  have hL : zz_L (moFr r) ([] : List Loc) := zz_L.nil
  have hS : zz_fr (moFr r) s.heap s.heap := zz_fr.rf
  have hrs24 := hRu.1
  have hW := hRu.2.1
  refine lv_iconst (v := nI 0) hx hb d_Mo_holds_0 (by decide) ?_
  refine lv_istore_n hx hb d_Mo_holds_1 rfl hl (by decide) rfl (fun ls hl => ?_)
  have hl : lv_has ls 5 [(3, .int (nI 0)), (0, .ref r), (1, .int (nI j)), (2, .int (nI rr))] := hl
  refine lv_iconst (v := nI 0) hx hb d_Mo_holds_2 (by decide) ?_
  refine lv_istore hx hb d_Mo_holds_3 hl (by decide) rfl (fun ls hl => ?_)
  have hl : lv_has ls 5 [(4, .int (nI 0)), (3, .int (nI 0)), (0, .ref r), (1, .int (nI j)), (2, .int (nI rr))] := hl
  have hl : lv_has ls 5 [(0, .ref r), (1, .int (nI j)), (2, .int (nI rr)), (3, .int (nI 0)), (4, .int (nI 0))] := lv_sub hl [2, 3, 4, 1, 0] rfl
  refine zz_loopH (σ := Nat × (Nat → Nat → Nat)) (fun ⟨k, B⟩ ls H locs => lv_has ls 5 [(0, .ref r), (1, .int (nI j)), (2, .int (nI rr)), (3, .int (nI ((smS (A 11) (mLf A j rr) opH k).length))), (4, .int (nI k))] ∧ k ≤ rs ∧ MoAt D ca H r n t rs w B ∧ mS A B ∧ smR (B 15) (smS (A 11) (mLf A j rr) opH k) ∧ zz_fr (moFr r) s.heap H ∧ zz_L (moFr r) locs) (fun ⟨k, B⟩ => rs - k) ?_ (0, A) ls _ _ ⟨hl, Nat.zero_le _, hM, mS.rf okA, smR_0 _, hS, hL⟩
  rintro ⟨k, B⟩ ih ls H locs ⟨hl, hk, hM, hms, hR, hS, hL⟩
  have e11B : B 11 k = A 11 k := congrFun (hms.2 11 (by decide) (by decide) (by decide) (by decide)) k
  have e12B : B 12 k = A 12 k := congrFun (hms.2 12 (by decide) (by decide) (by decide) (by decide)) k
  have e13B : B 13 k = A 13 k := congrFun (hms.2 13 (by decide) (by decide) (by decide) (by decide)) k
  have e14B : B 14 k = A 14 k := congrFun (hms.2 14 (by decide) (by decide) (by decide) (by decide)) k
  have hlen : (smS (A 11) (mLf A j rr) opH k).length = smD (A 11) k := smS_len hW k hk
  have hD12 := smD_le hW k hk
  refine lv_iload hx hb d_Mo_holds_5 (lv_at hl 4 rfl) ?_
  refine lv_aload_n hx hb d_Mo_holds_7 rfl (lv_at hl 0 rfl) ?_
  refine fg_Mo_130 hE hM.1 rfl d_Mo_holds_8 ?_
  refine zz_ge hx hb (by omega) (by omega) d_Mo_holds_11 (tgt := 126) rfl (fun hT11 => ?_) (fun hF11 => ?_)
  · refine lv_aload_n hx hb d_Mo_holds_126 rfl (lv_at hl 0 rfl) ?_
    refine fg_Mo_52 hE hM.1 rfl d_Mo_holds_127 ?_
    refine lv_iconst (v := nI 0) hx hb d_Mo_holds_130 (by decide) ?_
    refine mo_ldz hE hM (i := 0) (by omega) d_Mo_holds_131 ?_
    have hkr : k = rs := by omega
    subst hkr
    have h0 : B 15 0 = (mHo A k j rr).toNat := smR_one hR (by rw [hlen]; exact hRu.2.2.1 hrs)
    refine zz_top (y := nI (mHo A k j rr).toNat) (congrArg nI h0) ?_
    exact zz_iret hx hb hr hlk (zz_narB _) ⟨rfl, hS, _, hM, hms⟩ hL d_Mo_holds_132
  · obtain ⟨w1, w2, w3⟩ := hW k (by omega)
    obtain ⟨x1, x2, x3⟩ := hRu.2.2.2 k (by omega)
    refine lv_aload_n hx hb d_Mo_holds_14 rfl (lv_at hl 0 rfl) ?_
    refine fg_Mo_40 hE hM.1 rfl d_Mo_holds_15 ?_
    refine lv_iload hx hb d_Mo_holds_18 (lv_at hl 4 rfl) ?_
    refine mo_ld hE hM 11 (by decide) (i := k) (show k < 24 by omega) d_Mo_holds_20 ?_
    refine lv_iconst (v := nI 2) hx hb d_Mo_holds_21 (by decide) ?_
    refine zz_ge hx hb (by omega) (by omega) d_Mo_holds_22 (tgt := 45) rfl (fun hT22 => ?_) (fun hF22 => ?_)
    · have h2 : 2 ≤ (smS (A 11) (mLf A j rr) opH k).length := by rw [hlen]; exact w2 (by omega)
      obtain ⟨a, b, T, hST, ga, gb⟩ := smR_top hR h2
      have ga1 : a.toNat ≤ 1 := Bool.toNat_le a
      have gb1 : b.toNat ≤ 1 := Bool.toNat_le b
      refine lv_iinc (k := 3) (v := nI (((smS (A 11) (mLf A j rr) opH k).length) - 1)) hx hb d_Mo_holds_45 hl rfl (zz_dec (by omega)) (by decide) rfl (fun ls hl => ?_)
      have hl : lv_has ls 5 [(3, .int (nI (((smS (A 11) (mLf A j rr) opH k).length) - 1))), (0, .ref r), (1, .int (nI j)), (2, .int (nI rr)), (4, .int (nI k))] := hl
      refine lv_aload_n hx hb d_Mo_holds_48 rfl (lv_at hl 1 rfl) ?_
      refine fg_Mo_52 hE hM.1 rfl d_Mo_holds_49 ?_
      refine lv_iload_n hx hb d_Mo_holds_52 rfl (lv_at hl 0 rfl) ?_
      refine lv_iconst (v := nI 1) hx hb d_Mo_holds_53 (by decide) ?_
      refine zz_isub (by omega) hx hb d_Mo_holds_54 ?_
      refine lv_aload_n hx hb d_Mo_holds_55 rfl (lv_at hl 1 rfl) ?_
      refine fg_Mo_40 hE hM.1 rfl d_Mo_holds_56 ?_
      refine lv_iload hx hb d_Mo_holds_59 (lv_at hl 4 rfl) ?_
      refine mo_ld hE hM 11 (by decide) (i := k) (show k < 24 by omega) d_Mo_holds_61 ?_
      refine lv_iconst (v := nI 2) hx hb d_Mo_holds_62 (by decide) ?_
      refine zz_ne hx hb (by omega) (by omega) d_Mo_holds_63 (tgt := 94) rfl (fun hT63 => ?_) (fun hF63 => ?_)
      · refine lv_aload_n hx hb d_Mo_holds_94 rfl (lv_at hl 1 rfl) ?_
        refine fg_Mo_52 hE hM.1 rfl d_Mo_holds_95 ?_
        refine lv_iload_n hx hb d_Mo_holds_98 rfl (lv_at hl 0 rfl) ?_
        refine lv_iconst (v := nI 1) hx hb d_Mo_holds_99 (by decide) ?_
        refine zz_isub (by omega) hx hb d_Mo_holds_100 ?_
        refine mo_ldz hE hM (i := (((smS (A 11) (mLf A j rr) opH k).length) - 1) - 1) (by omega) d_Mo_holds_101 ?_
        refine zz_ne0 hx hb (by omega) d_Mo_holds_102 (tgt := 114) rfl (fun hT102 => ?_) (fun hF102 => ?_)
        · refine lv_iconst (v := nI 1) hx hb d_Mo_holds_114 (by decide) ?_
          refine lv_goto hx hb d_Mo_holds_115 (tgt := 119) rfl ?_
          refine mo_stz hE hM hS hL (i := (((smS (A 11) (mLf A j rr) opH k).length) - 1) - 1) (b := true) (by omega) d_Mo_holds_119 (fun H locs hM hS hL => ?_)
          refine lv_iinc (k := 4) (v := nI (k + 1)) hx hb d_Mo_holds_120 hl rfl (zz_inc _) (by decide) rfl (fun ls hl => ?_)
          have hl : lv_has ls 5 [(4, .int (nI (k + 1))), (3, .int (nI (((smS (A 11) (mLf A j rr) opH k).length) - 1))), (0, .ref r), (1, .int (nI j)), (2, .int (nI rr))] := hl
          refine lv_goto hx hb d_Mo_holds_123 (tgt := 5) rfl ?_
          have hv9 : opH (A 11 k) a b = true := by
            unfold opH
            rw [if_neg (by omega)]
            cases a <;> cases b <;> simp at ga gb ⊢ <;> omega
          have hn9 : (smS (A 11) (mLf A j rr) opH (k + 1)) = true :: T := by rw [smS_bin (by omega) hST, hv9]
          have hR9 : smR ((up2 B 15 ((((smS (A 11) (mLf A j rr) opH k).length) - 1) - 1) true.toNat) 15) (smS (A 11) (mLf A j rr) opH (k + 1)) := by
            rw [hn9, hST]
            exact smR_bin (by rw [← hST]; exact hR)
          have e3 : (smS (A 11) (mLf A j rr) opH (k + 1)).length = (smS (A 11) (mLf A j rr) opH k).length - 1 := by rw [hn9, hST]; simp
          have hms9 := mS_up15 (i := (smS (A 11) (mLf A j rr) opH k).length - 1 - 1) hms true
          have hl : lv_has ls 5 [(0, .ref r), (1, .int (nI j)), (2, .int (nI rr)), (3, .int (nI ((smS (A 11) (mLf A j rr) opH (k + 1)).length))), (4, .int (nI (k + 1)))] := (by rw [e3]; exact lv_sub hl [2, 3, 4, 1, 0] rfl)
          exact ih (k + 1, (up2 B 15 ((((smS (A 11) (mLf A j rr) opH k).length) - 1) - 1) true.toNat)) ls _ _ ⟨hl, by omega, hM, hms9, hR9, hS, hL⟩ (by show _ - (k + 1) < _ - k; omega)
        · refine lv_aload_n hx hb d_Mo_holds_105 rfl (lv_at hl 1 rfl) ?_
          refine fg_Mo_52 hE hM.1 rfl d_Mo_holds_106 ?_
          refine lv_iload_n hx hb d_Mo_holds_109 rfl (lv_at hl 0 rfl) ?_
          refine mo_ldz hE hM (i := ((smS (A 11) (mLf A j rr) opH k).length) - 1) (by omega) d_Mo_holds_110 ?_
          refine zz_eq0 hx hb (by omega) d_Mo_holds_111 (tgt := 118) rfl (fun hT111 => ?_) (fun hF111 => ?_)
          · refine lv_iconst (v := nI 0) hx hb d_Mo_holds_118 (by decide) ?_
            refine mo_stz hE hM hS hL (i := (((smS (A 11) (mLf A j rr) opH k).length) - 1) - 1) (b := false) (by omega) d_Mo_holds_119 (fun H locs hM hS hL => ?_)
            refine lv_iinc (k := 4) (v := nI (k + 1)) hx hb d_Mo_holds_120 hl rfl (zz_inc _) (by decide) rfl (fun ls hl => ?_)
            have hl : lv_has ls 5 [(4, .int (nI (k + 1))), (3, .int (nI (((smS (A 11) (mLf A j rr) opH k).length) - 1))), (0, .ref r), (1, .int (nI j)), (2, .int (nI rr))] := hl
            refine lv_goto hx hb d_Mo_holds_123 (tgt := 5) rfl ?_
            have hv9 : opH (A 11 k) a b = false := by
              unfold opH
              rw [if_neg (by omega)]
              cases a <;> cases b <;> simp at ga gb ⊢ <;> omega
            have hn9 : (smS (A 11) (mLf A j rr) opH (k + 1)) = false :: T := by rw [smS_bin (by omega) hST, hv9]
            have hR9 : smR ((up2 B 15 ((((smS (A 11) (mLf A j rr) opH k).length) - 1) - 1) false.toNat) 15) (smS (A 11) (mLf A j rr) opH (k + 1)) := by
              rw [hn9, hST]
              exact smR_bin (by rw [← hST]; exact hR)
            have e3 : (smS (A 11) (mLf A j rr) opH (k + 1)).length = (smS (A 11) (mLf A j rr) opH k).length - 1 := by rw [hn9, hST]; simp
            have hms9 := mS_up15 (i := (smS (A 11) (mLf A j rr) opH k).length - 1 - 1) hms false
            have hl : lv_has ls 5 [(0, .ref r), (1, .int (nI j)), (2, .int (nI rr)), (3, .int (nI ((smS (A 11) (mLf A j rr) opH (k + 1)).length))), (4, .int (nI (k + 1)))] := (by rw [e3]; exact lv_sub hl [2, 3, 4, 1, 0] rfl)
            exact ih (k + 1, (up2 B 15 ((((smS (A 11) (mLf A j rr) opH k).length) - 1) - 1) false.toNat)) ls _ _ ⟨hl, by omega, hM, hms9, hR9, hS, hL⟩ (by show _ - (k + 1) < _ - k; omega)
          · refine lv_iconst (v := nI 1) hx hb d_Mo_holds_114 (by decide) ?_
            refine lv_goto hx hb d_Mo_holds_115 (tgt := 119) rfl ?_
            refine mo_stz hE hM hS hL (i := (((smS (A 11) (mLf A j rr) opH k).length) - 1) - 1) (b := true) (by omega) d_Mo_holds_119 (fun H locs hM hS hL => ?_)
            refine lv_iinc (k := 4) (v := nI (k + 1)) hx hb d_Mo_holds_120 hl rfl (zz_inc _) (by decide) rfl (fun ls hl => ?_)
            have hl : lv_has ls 5 [(4, .int (nI (k + 1))), (3, .int (nI (((smS (A 11) (mLf A j rr) opH k).length) - 1))), (0, .ref r), (1, .int (nI j)), (2, .int (nI rr))] := hl
            refine lv_goto hx hb d_Mo_holds_123 (tgt := 5) rfl ?_
            have hv9 : opH (A 11 k) a b = true := by
              unfold opH
              rw [if_neg (by omega)]
              cases a <;> cases b <;> simp at ga gb ⊢ <;> omega
            have hn9 : (smS (A 11) (mLf A j rr) opH (k + 1)) = true :: T := by rw [smS_bin (by omega) hST, hv9]
            have hR9 : smR ((up2 B 15 ((((smS (A 11) (mLf A j rr) opH k).length) - 1) - 1) true.toNat) 15) (smS (A 11) (mLf A j rr) opH (k + 1)) := by
              rw [hn9, hST]
              exact smR_bin (by rw [← hST]; exact hR)
            have e3 : (smS (A 11) (mLf A j rr) opH (k + 1)).length = (smS (A 11) (mLf A j rr) opH k).length - 1 := by rw [hn9, hST]; simp
            have hms9 := mS_up15 (i := (smS (A 11) (mLf A j rr) opH k).length - 1 - 1) hms true
            have hl : lv_has ls 5 [(0, .ref r), (1, .int (nI j)), (2, .int (nI rr)), (3, .int (nI ((smS (A 11) (mLf A j rr) opH (k + 1)).length))), (4, .int (nI (k + 1)))] := (by rw [e3]; exact lv_sub hl [2, 3, 4, 1, 0] rfl)
            exact ih (k + 1, (up2 B 15 ((((smS (A 11) (mLf A j rr) opH k).length) - 1) - 1) true.toNat)) ls _ _ ⟨hl, by omega, hM, hms9, hR9, hS, hL⟩ (by show _ - (k + 1) < _ - k; omega)
      · refine lv_aload_n hx hb d_Mo_holds_66 rfl (lv_at hl 1 rfl) ?_
        refine fg_Mo_52 hE hM.1 rfl d_Mo_holds_67 ?_
        refine lv_iload_n hx hb d_Mo_holds_70 rfl (lv_at hl 0 rfl) ?_
        refine lv_iconst (v := nI 1) hx hb d_Mo_holds_71 (by decide) ?_
        refine zz_isub (by omega) hx hb d_Mo_holds_72 ?_
        refine mo_ldz hE hM (i := (((smS (A 11) (mLf A j rr) opH k).length) - 1) - 1) (by omega) d_Mo_holds_73 ?_
        refine zz_eq0 hx hb (by omega) d_Mo_holds_74 (tgt := 90) rfl (fun hT74 => ?_) (fun hF74 => ?_)
        · refine lv_iconst (v := nI 0) hx hb d_Mo_holds_90 (by decide) ?_
          refine lv_goto hx hb d_Mo_holds_91 (tgt := 119) rfl ?_
          refine mo_stz hE hM hS hL (i := (((smS (A 11) (mLf A j rr) opH k).length) - 1) - 1) (b := false) (by omega) d_Mo_holds_119 (fun H locs hM hS hL => ?_)
          refine lv_iinc (k := 4) (v := nI (k + 1)) hx hb d_Mo_holds_120 hl rfl (zz_inc _) (by decide) rfl (fun ls hl => ?_)
          have hl : lv_has ls 5 [(4, .int (nI (k + 1))), (3, .int (nI (((smS (A 11) (mLf A j rr) opH k).length) - 1))), (0, .ref r), (1, .int (nI j)), (2, .int (nI rr))] := hl
          refine lv_goto hx hb d_Mo_holds_123 (tgt := 5) rfl ?_
          have hv9 : opH (A 11 k) a b = false := by
            unfold opH
            rw [if_pos (by omega)]
            cases a <;> cases b <;> simp at ga gb ⊢ <;> omega
          have hn9 : (smS (A 11) (mLf A j rr) opH (k + 1)) = false :: T := by rw [smS_bin (by omega) hST, hv9]
          have hR9 : smR ((up2 B 15 ((((smS (A 11) (mLf A j rr) opH k).length) - 1) - 1) false.toNat) 15) (smS (A 11) (mLf A j rr) opH (k + 1)) := by
            rw [hn9, hST]
            exact smR_bin (by rw [← hST]; exact hR)
          have e3 : (smS (A 11) (mLf A j rr) opH (k + 1)).length = (smS (A 11) (mLf A j rr) opH k).length - 1 := by rw [hn9, hST]; simp
          have hms9 := mS_up15 (i := (smS (A 11) (mLf A j rr) opH k).length - 1 - 1) hms false
          have hl : lv_has ls 5 [(0, .ref r), (1, .int (nI j)), (2, .int (nI rr)), (3, .int (nI ((smS (A 11) (mLf A j rr) opH (k + 1)).length))), (4, .int (nI (k + 1)))] := (by rw [e3]; exact lv_sub hl [2, 3, 4, 1, 0] rfl)
          exact ih (k + 1, (up2 B 15 ((((smS (A 11) (mLf A j rr) opH k).length) - 1) - 1) false.toNat)) ls _ _ ⟨hl, by omega, hM, hms9, hR9, hS, hL⟩ (by show _ - (k + 1) < _ - k; omega)
        · refine lv_aload_n hx hb d_Mo_holds_77 rfl (lv_at hl 1 rfl) ?_
          refine fg_Mo_52 hE hM.1 rfl d_Mo_holds_78 ?_
          refine lv_iload_n hx hb d_Mo_holds_81 rfl (lv_at hl 0 rfl) ?_
          refine mo_ldz hE hM (i := ((smS (A 11) (mLf A j rr) opH k).length) - 1) (by omega) d_Mo_holds_82 ?_
          refine zz_eq0 hx hb (by omega) d_Mo_holds_83 (tgt := 90) rfl (fun hT83 => ?_) (fun hF83 => ?_)
          · refine lv_iconst (v := nI 0) hx hb d_Mo_holds_90 (by decide) ?_
            refine lv_goto hx hb d_Mo_holds_91 (tgt := 119) rfl ?_
            refine mo_stz hE hM hS hL (i := (((smS (A 11) (mLf A j rr) opH k).length) - 1) - 1) (b := false) (by omega) d_Mo_holds_119 (fun H locs hM hS hL => ?_)
            refine lv_iinc (k := 4) (v := nI (k + 1)) hx hb d_Mo_holds_120 hl rfl (zz_inc _) (by decide) rfl (fun ls hl => ?_)
            have hl : lv_has ls 5 [(4, .int (nI (k + 1))), (3, .int (nI (((smS (A 11) (mLf A j rr) opH k).length) - 1))), (0, .ref r), (1, .int (nI j)), (2, .int (nI rr))] := hl
            refine lv_goto hx hb d_Mo_holds_123 (tgt := 5) rfl ?_
            have hv9 : opH (A 11 k) a b = false := by
              unfold opH
              rw [if_pos (by omega)]
              cases a <;> cases b <;> simp at ga gb ⊢ <;> omega
            have hn9 : (smS (A 11) (mLf A j rr) opH (k + 1)) = false :: T := by rw [smS_bin (by omega) hST, hv9]
            have hR9 : smR ((up2 B 15 ((((smS (A 11) (mLf A j rr) opH k).length) - 1) - 1) false.toNat) 15) (smS (A 11) (mLf A j rr) opH (k + 1)) := by
              rw [hn9, hST]
              exact smR_bin (by rw [← hST]; exact hR)
            have e3 : (smS (A 11) (mLf A j rr) opH (k + 1)).length = (smS (A 11) (mLf A j rr) opH k).length - 1 := by rw [hn9, hST]; simp
            have hms9 := mS_up15 (i := (smS (A 11) (mLf A j rr) opH k).length - 1 - 1) hms false
            have hl : lv_has ls 5 [(0, .ref r), (1, .int (nI j)), (2, .int (nI rr)), (3, .int (nI ((smS (A 11) (mLf A j rr) opH (k + 1)).length))), (4, .int (nI (k + 1)))] := (by rw [e3]; exact lv_sub hl [2, 3, 4, 1, 0] rfl)
            exact ih (k + 1, (up2 B 15 ((((smS (A 11) (mLf A j rr) opH k).length) - 1) - 1) false.toNat)) ls _ _ ⟨hl, by omega, hM, hms9, hR9, hS, hL⟩ (by show _ - (k + 1) < _ - k; omega)
          · refine lv_iconst (v := nI 1) hx hb d_Mo_holds_86 (by decide) ?_
            refine lv_goto hx hb d_Mo_holds_87 (tgt := 119) rfl ?_
            refine mo_stz hE hM hS hL (i := (((smS (A 11) (mLf A j rr) opH k).length) - 1) - 1) (b := true) (by omega) d_Mo_holds_119 (fun H locs hM hS hL => ?_)
            refine lv_iinc (k := 4) (v := nI (k + 1)) hx hb d_Mo_holds_120 hl rfl (zz_inc _) (by decide) rfl (fun ls hl => ?_)
            have hl : lv_has ls 5 [(4, .int (nI (k + 1))), (3, .int (nI (((smS (A 11) (mLf A j rr) opH k).length) - 1))), (0, .ref r), (1, .int (nI j)), (2, .int (nI rr))] := hl
            refine lv_goto hx hb d_Mo_holds_123 (tgt := 5) rfl ?_
            have hv9 : opH (A 11 k) a b = true := by
              unfold opH
              rw [if_pos (by omega)]
              cases a <;> cases b <;> simp at ga gb ⊢ <;> omega
            have hn9 : (smS (A 11) (mLf A j rr) opH (k + 1)) = true :: T := by rw [smS_bin (by omega) hST, hv9]
            have hR9 : smR ((up2 B 15 ((((smS (A 11) (mLf A j rr) opH k).length) - 1) - 1) true.toNat) 15) (smS (A 11) (mLf A j rr) opH (k + 1)) := by
              rw [hn9, hST]
              exact smR_bin (by rw [← hST]; exact hR)
            have e3 : (smS (A 11) (mLf A j rr) opH (k + 1)).length = (smS (A 11) (mLf A j rr) opH k).length - 1 := by rw [hn9, hST]; simp
            have hms9 := mS_up15 (i := (smS (A 11) (mLf A j rr) opH k).length - 1 - 1) hms true
            have hl : lv_has ls 5 [(0, .ref r), (1, .int (nI j)), (2, .int (nI rr)), (3, .int (nI ((smS (A 11) (mLf A j rr) opH (k + 1)).length))), (4, .int (nI (k + 1)))] := (by rw [e3]; exact lv_sub hl [2, 3, 4, 1, 0] rfl)
            exact ih (k + 1, (up2 B 15 ((((smS (A 11) (mLf A j rr) opH k).length) - 1) - 1) true.toNat)) ls _ _ ⟨hl, by omega, hM, hms9, hR9, hS, hL⟩ (by show _ - (k + 1) < _ - k; omega)
    · refine lv_aload_n hx hb d_Mo_holds_25 rfl (lv_at hl 0 rfl) ?_
      refine fg_Mo_52 hE hM.1 rfl d_Mo_holds_26 ?_
      refine lv_iload_n hx hb d_Mo_holds_29 rfl (lv_at hl 3 rfl) ?_
      refine lv_aload_n hx hb d_Mo_holds_30 rfl (lv_at hl 0 rfl) ?_
      refine lv_iload hx hb d_Mo_holds_31 (lv_at hl 4 rfl) ?_
      refine lv_iload_n hx hb d_Mo_holds_33 rfl (lv_at hl 1 rfl) ?_
      refine lv_iload_n hx hb d_Mo_holds_34 rfl (lv_at hl 2 rfl) ?_
      refine zz_callI (cl_Mo_136 (rest := [.int (nI ((smS (A 11) (mLf A j rr) opH k).length)), .ref (r + 15)]) hE (k_Mo_leafHolds l D ca r n t rs w B k j rr (by omega) hj hrr hms.1 (by omega) (by omega) (by omega) (by omega)) ⟨rfl, rfl, by decide, by decide⟩ hM hM.1 rfl hl.1 rfl (Nat.le_of_ble_eq_true rfl) d_Mo_holds_35 ⟨by decide, by decide⟩) hL (fun _ h => h) (fun H locs hpost hL => ?_)
      obtain ⟨hfr1, B1, hM, hms1, h151⟩ := hpost
      have hS := hS.tr hfr1
      have hms2 := hms.tr hms1
      refine mo_stz hE hM hS hL (i := (smS (A 11) (mLf A j rr) opH k).length) (b := mLf B j rr k) (by omega) d_Mo_holds_38 (fun H locs hM hS hL => ?_)
      refine lv_iinc (k := 3) (v := nI ((smS (A 11) (mLf A j rr) opH k).length + 1)) hx hb d_Mo_holds_39 hl rfl (zz_inc _) (by decide) rfl (fun ls hl => ?_)
      have hl : lv_has ls 5 [(3, .int (nI ((smS (A 11) (mLf A j rr) opH k).length + 1))), (0, .ref r), (1, .int (nI j)), (2, .int (nI rr)), (4, .int (nI k))] := hl
      refine lv_goto hx hb d_Mo_holds_42 (tgt := 120) rfl ?_
      refine lv_iinc (k := 4) (v := nI (k + 1)) hx hb d_Mo_holds_120 hl rfl (zz_inc _) (by decide) rfl (fun ls hl => ?_)
      have hl : lv_has ls 5 [(4, .int (nI (k + 1))), (3, .int (nI ((smS (A 11) (mLf A j rr) opH k).length + 1))), (0, .ref r), (1, .int (nI j)), (2, .int (nI rr))] := hl
      refine lv_goto hx hb d_Mo_holds_123 (tgt := 5) rfl ?_
      have hn9 : (smS (A 11) (mLf A j rr) opH (k + 1)) = mLf A j rr k :: (smS (A 11) (mLf A j rr) opH k) := smS_leaf (by omega)
      have hR9 : smR ((up2 B1 15 ((smS (A 11) (mLf A j rr) opH k).length) (mLf B j rr k).toNat) 15) (smS (A 11) (mLf A j rr) opH (k + 1)) := by
        rw [hn9, mLf_eq hms]
        exact smR_push (by rw [h151]; exact hR)
      have e3 : (smS (A 11) (mLf A j rr) opH (k + 1)).length = (smS (A 11) (mLf A j rr) opH k).length + 1 := by rw [hn9]; rfl
      have hms9 := mS_up15 (i := (smS (A 11) (mLf A j rr) opH k).length) hms2 (mLf B j rr k)
      have hl : lv_has ls 5 [(0, .ref r), (1, .int (nI j)), (2, .int (nI rr)), (3, .int (nI ((smS (A 11) (mLf A j rr) opH (k + 1)).length))), (4, .int (nI (k + 1)))] := (by rw [e3]; exact lv_sub hl [2, 3, 4, 1, 0] rfl)
      exact ih (k + 1, (up2 B1 15 ((smS (A 11) (mLf A j rr) opH k).length) (mLf B j rr k).toNat)) ls _ _ ⟨hl, by omega, hM, hms9, hR9, hS, hL⟩ (by show _ - (k + 1) < _ - k; omega)

set_option maxHeartbeats 4000000 in
set_option maxRecDepth 100000 in
theorem k_Mo_driven (l : Launch) (D : va_G) (ca : Nat → ClassId) (r n t rs w : Nat) (A : Nat → Nat → Nat) (okA : mOk A) (ht : t ≤ 6) (hm : A 10 t ≤ 24) (hW : smW (A 6) (A 10 t)) (hone : smD (A 6) (A 10 t) = 1) : Met l y_Mo_driven w_Mo_driven (zr 1 0 0) (zz_P D ca [.ref r] (fun H => MoAt D ca H r n t rs w A)) (zz_Q (fun H H1 v => v = some (.int (nI (mDr A (A 10 t)).toNat)) ∧ zz_fr (moFr r) H H1 ∧ ∃ B, MoAt D ca H1 r n t rs w B ∧ mS A B)) 0 0 (moFr r) := by
  refine zz_met (cc := c_Mo_driven) (by decide) (Nat.le_of_ble_eq_true rfl) ?_
  intro p e s m below meth c ls hE hr hlk hnm hM hl
  have hx := hE.1.1
  have hb := hE.1.2.1
  have hK := hE.2
  have hl : lv_has ls 3 [(0, .ref r)] := hl
  have hL : zz_L (moFr r) ([] : List Loc) := zz_L.nil
  have hS : zz_fr (moFr r) s.heap s.heap := zz_fr.rf
  refine lv_iconst (v := nI 0) hx hb d_Mo_driven_0 (by decide) ?_
  refine lv_istore_n hx hb d_Mo_driven_1 rfl hl (by decide) rfl (fun ls hl => ?_)
  have hl : lv_has ls 3 [(1, .int (nI 0)), (0, .ref r)] := hl
  refine lv_iconst (v := nI 0) hx hb d_Mo_driven_2 (by decide) ?_
  refine lv_istore_n hx hb d_Mo_driven_3 rfl hl (by decide) rfl (fun ls hl => ?_)
  have hl : lv_has ls 3 [(2, .int (nI 0)), (1, .int (nI 0)), (0, .ref r)] := hl
  have hl : lv_has ls 3 [(0, .ref r), (1, .int (nI 0)), (2, .int (nI 0))] := lv_sub hl [2, 1, 0] rfl
  refine zz_loopH (σ := Nat × (Nat → Nat → Nat)) (fun ⟨k, B⟩ ls H locs => lv_has ls 3 [(0, .ref r), (1, .int (nI ((smS (A 6) (fun k => decide (A 6 k = 0)) opD k).length))), (2, .int (nI k))] ∧ k ≤ A 10 t ∧ MoAt D ca H r n t rs w B ∧ mS A B ∧ smR (B 15) (smS (A 6) (fun k => decide (A 6 k = 0)) opD k) ∧ zz_fr (moFr r) s.heap H ∧ zz_L (moFr r) locs) (fun ⟨k, B⟩ => A 10 t - k) ?_ (0, A) ls _ _ ⟨hl, Nat.zero_le _, hM, mS.rf okA, smR_0 _, hS, hL⟩
  rintro ⟨k, B⟩ ih ls H locs ⟨hl, hk, hM, hms, hR, hS, hL⟩
  have e6B : B 6 k = A 6 k := congrFun (hms.2 6 (by decide) (by decide) (by decide) (by decide)) k
  have e10B : B 10 t = A 10 t := congrFun (hms.2 10 (by decide) (by decide) (by decide) (by decide)) t
  have hlen : (smS (A 6) (fun k => decide (A 6 k = 0)) opD k).length = smD (A 6) k := smS_len hW k hk
  have hD12 := smD_le hW k hk
  refine lv_iload_n hx hb d_Mo_driven_4 rfl (lv_at hl 2 rfl) ?_
  refine lv_aload_n hx hb d_Mo_driven_5 rfl (lv_at hl 0 rfl) ?_
  refine zz_callP (cl_Mo_112 (rest := [.int (nI k)]) hE (k_Mo_marks l D ca r n t rs w B (by omega)) ⟨rfl, rfl, by decide, by decide⟩ hM hM.1 rfl hl.1 rfl (Nat.le_of_ble_eq_true rfl) d_Mo_driven_6 ⟨by decide, by decide⟩) ?_
  refine zz_ge hx hb (by omega) (by omega) d_Mo_driven_9 (tgt := 128) rfl (fun hT9 => ?_) (fun hF9 => ?_)
  · refine lv_aload_n hx hb d_Mo_driven_128 rfl (lv_at hl 0 rfl) ?_
    refine fg_Mo_52 hE hM.1 rfl d_Mo_driven_129 ?_
    refine lv_iconst (v := nI 0) hx hb d_Mo_driven_132 (by decide) ?_
    refine mo_ldz hE hM (i := 0) (by omega) d_Mo_driven_133 ?_
    have hkr : k = A 10 t := by omega
    have h0 : B 15 0 = (mDr A (A 10 t)).toNat := by
      rw [← hkr]
      exact smR_one hR (by rw [hlen, hkr]; exact hone)
    refine zz_top (y := nI (mDr A (A 10 t)).toNat) (congrArg nI h0) ?_
    exact zz_iret hx hb hr hlk (zz_narB _) ⟨rfl, hS, _, hM, hms⟩ hL d_Mo_driven_134
  · obtain ⟨w1, w2, w3⟩ := hW k (by omega)
    refine lv_aload_n hx hb d_Mo_driven_12 rfl (lv_at hl 0 rfl) ?_
    refine fg_Mo_25 hE hM.1 rfl d_Mo_driven_13 ?_
    refine lv_iload_n hx hb d_Mo_driven_16 rfl (lv_at hl 2 rfl) ?_
    refine mo_ld hE hM 6 (by decide) (i := k) (show k < 140 by omega) d_Mo_driven_17 ?_
    refine lv_iconst (v := nI 2) hx hb d_Mo_driven_18 (by decide) ?_
    refine zz_ge hx hb (by omega) (by omega) d_Mo_driven_19 (tgt := 48) rfl (fun hT19 => ?_) (fun hF19 => ?_)
    · have h2 : 2 ≤ (smS (A 6) (fun k => decide (A 6 k = 0)) opD k).length := by rw [hlen]; exact w2 (by omega)
      obtain ⟨a, b, T, hST, ga, gb⟩ := smR_top hR h2
      have ga1 : a.toNat ≤ 1 := Bool.toNat_le a
      have gb1 : b.toNat ≤ 1 := Bool.toNat_le b
      refine lv_iinc (k := 1) (v := nI (((smS (A 6) (fun k => decide (A 6 k = 0)) opD k).length) - 1)) hx hb d_Mo_driven_48 hl rfl (zz_dec (by omega)) (by decide) rfl (fun ls hl => ?_)
      have hl : lv_has ls 3 [(1, .int (nI (((smS (A 6) (fun k => decide (A 6 k = 0)) opD k).length) - 1))), (0, .ref r), (2, .int (nI k))] := hl
      refine lv_aload_n hx hb d_Mo_driven_51 rfl (lv_at hl 1 rfl) ?_
      refine fg_Mo_52 hE hM.1 rfl d_Mo_driven_52 ?_
      refine lv_iload_n hx hb d_Mo_driven_55 rfl (lv_at hl 0 rfl) ?_
      refine lv_iconst (v := nI 1) hx hb d_Mo_driven_56 (by decide) ?_
      refine zz_isub (by omega) hx hb d_Mo_driven_57 ?_
      refine lv_aload_n hx hb d_Mo_driven_58 rfl (lv_at hl 1 rfl) ?_
      refine fg_Mo_25 hE hM.1 rfl d_Mo_driven_59 ?_
      refine lv_iload_n hx hb d_Mo_driven_62 rfl (lv_at hl 2 rfl) ?_
      refine mo_ld hE hM 6 (by decide) (i := k) (show k < 140 by omega) d_Mo_driven_63 ?_
      refine lv_iconst (v := nI 2) hx hb d_Mo_driven_64 (by decide) ?_
      refine zz_ne hx hb (by omega) (by omega) d_Mo_driven_65 (tgt := 96) rfl (fun hT65 => ?_) (fun hF65 => ?_)
      · refine lv_aload_n hx hb d_Mo_driven_96 rfl (lv_at hl 1 rfl) ?_
        refine fg_Mo_52 hE hM.1 rfl d_Mo_driven_97 ?_
        refine lv_iload_n hx hb d_Mo_driven_100 rfl (lv_at hl 0 rfl) ?_
        refine lv_iconst (v := nI 1) hx hb d_Mo_driven_101 (by decide) ?_
        refine zz_isub (by omega) hx hb d_Mo_driven_102 ?_
        refine mo_ldz hE hM (i := (((smS (A 6) (fun k => decide (A 6 k = 0)) opD k).length) - 1) - 1) (by omega) d_Mo_driven_103 ?_
        refine zz_eq0 hx hb (by omega) d_Mo_driven_104 (tgt := 120) rfl (fun hT104 => ?_) (fun hF104 => ?_)
        · refine lv_iconst (v := nI 0) hx hb d_Mo_driven_120 (by decide) ?_
          refine mo_stz hE hM hS hL (i := (((smS (A 6) (fun k => decide (A 6 k = 0)) opD k).length) - 1) - 1) (b := false) (by omega) d_Mo_driven_121 (fun H locs hM hS hL => ?_)
          refine lv_iinc (k := 2) (v := nI (k + 1)) hx hb d_Mo_driven_122 hl rfl (zz_inc _) (by decide) rfl (fun ls hl => ?_)
          have hl : lv_has ls 3 [(2, .int (nI (k + 1))), (1, .int (nI (((smS (A 6) (fun k => decide (A 6 k = 0)) opD k).length) - 1))), (0, .ref r)] := hl
          refine lv_goto hx hb d_Mo_driven_125 (tgt := 4) rfl ?_
          have hv9 : opD (A 6 k) a b = false := by
            unfold opD
            rw [if_neg (by omega)]
            cases a <;> cases b <;> simp at ga gb ⊢ <;> omega
          have hn9 : (smS (A 6) (fun k => decide (A 6 k = 0)) opD (k + 1)) = false :: T := by rw [smS_bin (by omega) hST, hv9]
          have hR9 : smR ((up2 B 15 ((((smS (A 6) (fun k => decide (A 6 k = 0)) opD k).length) - 1) - 1) false.toNat) 15) (smS (A 6) (fun k => decide (A 6 k = 0)) opD (k + 1)) := by
            rw [hn9, hST]
            exact smR_bin (by rw [← hST]; exact hR)
          have e3 : (smS (A 6) (fun k => decide (A 6 k = 0)) opD (k + 1)).length = (smS (A 6) (fun k => decide (A 6 k = 0)) opD k).length - 1 := by rw [hn9, hST]; simp
          have hms9 := mS_up15 (i := (smS (A 6) (fun k => decide (A 6 k = 0)) opD k).length - 1 - 1) hms false
          have hl : lv_has ls 3 [(0, .ref r), (1, .int (nI ((smS (A 6) (fun k => decide (A 6 k = 0)) opD (k + 1)).length))), (2, .int (nI (k + 1)))] := (by rw [e3]; exact lv_sub hl [2, 1, 0] rfl)
          exact ih (k + 1, (up2 B 15 ((((smS (A 6) (fun k => decide (A 6 k = 0)) opD k).length) - 1) - 1) false.toNat)) ls _ _ ⟨hl, by omega, hM, hms9, hR9, hS, hL⟩ (by show _ - (k + 1) < _ - k; omega)
        · refine lv_aload_n hx hb d_Mo_driven_107 rfl (lv_at hl 1 rfl) ?_
          refine fg_Mo_52 hE hM.1 rfl d_Mo_driven_108 ?_
          refine lv_iload_n hx hb d_Mo_driven_111 rfl (lv_at hl 0 rfl) ?_
          refine mo_ldz hE hM (i := ((smS (A 6) (fun k => decide (A 6 k = 0)) opD k).length) - 1) (by omega) d_Mo_driven_112 ?_
          refine zz_eq0 hx hb (by omega) d_Mo_driven_113 (tgt := 120) rfl (fun hT113 => ?_) (fun hF113 => ?_)
          · refine lv_iconst (v := nI 0) hx hb d_Mo_driven_120 (by decide) ?_
            refine mo_stz hE hM hS hL (i := (((smS (A 6) (fun k => decide (A 6 k = 0)) opD k).length) - 1) - 1) (b := false) (by omega) d_Mo_driven_121 (fun H locs hM hS hL => ?_)
            refine lv_iinc (k := 2) (v := nI (k + 1)) hx hb d_Mo_driven_122 hl rfl (zz_inc _) (by decide) rfl (fun ls hl => ?_)
            have hl : lv_has ls 3 [(2, .int (nI (k + 1))), (1, .int (nI (((smS (A 6) (fun k => decide (A 6 k = 0)) opD k).length) - 1))), (0, .ref r)] := hl
            refine lv_goto hx hb d_Mo_driven_125 (tgt := 4) rfl ?_
            have hv9 : opD (A 6 k) a b = false := by
              unfold opD
              rw [if_neg (by omega)]
              cases a <;> cases b <;> simp at ga gb ⊢ <;> omega
            have hn9 : (smS (A 6) (fun k => decide (A 6 k = 0)) opD (k + 1)) = false :: T := by rw [smS_bin (by omega) hST, hv9]
            have hR9 : smR ((up2 B 15 ((((smS (A 6) (fun k => decide (A 6 k = 0)) opD k).length) - 1) - 1) false.toNat) 15) (smS (A 6) (fun k => decide (A 6 k = 0)) opD (k + 1)) := by
              rw [hn9, hST]
              exact smR_bin (by rw [← hST]; exact hR)
            have e3 : (smS (A 6) (fun k => decide (A 6 k = 0)) opD (k + 1)).length = (smS (A 6) (fun k => decide (A 6 k = 0)) opD k).length - 1 := by rw [hn9, hST]; simp
            have hms9 := mS_up15 (i := (smS (A 6) (fun k => decide (A 6 k = 0)) opD k).length - 1 - 1) hms false
            have hl : lv_has ls 3 [(0, .ref r), (1, .int (nI ((smS (A 6) (fun k => decide (A 6 k = 0)) opD (k + 1)).length))), (2, .int (nI (k + 1)))] := (by rw [e3]; exact lv_sub hl [2, 1, 0] rfl)
            exact ih (k + 1, (up2 B 15 ((((smS (A 6) (fun k => decide (A 6 k = 0)) opD k).length) - 1) - 1) false.toNat)) ls _ _ ⟨hl, by omega, hM, hms9, hR9, hS, hL⟩ (by show _ - (k + 1) < _ - k; omega)
          · refine lv_iconst (v := nI 1) hx hb d_Mo_driven_116 (by decide) ?_
            refine lv_goto hx hb d_Mo_driven_117 (tgt := 121) rfl ?_
            refine mo_stz hE hM hS hL (i := (((smS (A 6) (fun k => decide (A 6 k = 0)) opD k).length) - 1) - 1) (b := true) (by omega) d_Mo_driven_121 (fun H locs hM hS hL => ?_)
            refine lv_iinc (k := 2) (v := nI (k + 1)) hx hb d_Mo_driven_122 hl rfl (zz_inc _) (by decide) rfl (fun ls hl => ?_)
            have hl : lv_has ls 3 [(2, .int (nI (k + 1))), (1, .int (nI (((smS (A 6) (fun k => decide (A 6 k = 0)) opD k).length) - 1))), (0, .ref r)] := hl
            refine lv_goto hx hb d_Mo_driven_125 (tgt := 4) rfl ?_
            have hv9 : opD (A 6 k) a b = true := by
              unfold opD
              rw [if_neg (by omega)]
              cases a <;> cases b <;> simp at ga gb ⊢ <;> omega
            have hn9 : (smS (A 6) (fun k => decide (A 6 k = 0)) opD (k + 1)) = true :: T := by rw [smS_bin (by omega) hST, hv9]
            have hR9 : smR ((up2 B 15 ((((smS (A 6) (fun k => decide (A 6 k = 0)) opD k).length) - 1) - 1) true.toNat) 15) (smS (A 6) (fun k => decide (A 6 k = 0)) opD (k + 1)) := by
              rw [hn9, hST]
              exact smR_bin (by rw [← hST]; exact hR)
            have e3 : (smS (A 6) (fun k => decide (A 6 k = 0)) opD (k + 1)).length = (smS (A 6) (fun k => decide (A 6 k = 0)) opD k).length - 1 := by rw [hn9, hST]; simp
            have hms9 := mS_up15 (i := (smS (A 6) (fun k => decide (A 6 k = 0)) opD k).length - 1 - 1) hms true
            have hl : lv_has ls 3 [(0, .ref r), (1, .int (nI ((smS (A 6) (fun k => decide (A 6 k = 0)) opD (k + 1)).length))), (2, .int (nI (k + 1)))] := (by rw [e3]; exact lv_sub hl [2, 1, 0] rfl)
            exact ih (k + 1, (up2 B 15 ((((smS (A 6) (fun k => decide (A 6 k = 0)) opD k).length) - 1) - 1) true.toNat)) ls _ _ ⟨hl, by omega, hM, hms9, hR9, hS, hL⟩ (by show _ - (k + 1) < _ - k; omega)
      · refine lv_aload_n hx hb d_Mo_driven_68 rfl (lv_at hl 1 rfl) ?_
        refine fg_Mo_52 hE hM.1 rfl d_Mo_driven_69 ?_
        refine lv_iload_n hx hb d_Mo_driven_72 rfl (lv_at hl 0 rfl) ?_
        refine lv_iconst (v := nI 1) hx hb d_Mo_driven_73 (by decide) ?_
        refine zz_isub (by omega) hx hb d_Mo_driven_74 ?_
        refine mo_ldz hE hM (i := (((smS (A 6) (fun k => decide (A 6 k = 0)) opD k).length) - 1) - 1) (by omega) d_Mo_driven_75 ?_
        refine zz_ne0 hx hb (by omega) d_Mo_driven_76 (tgt := 88) rfl (fun hT76 => ?_) (fun hF76 => ?_)
        · refine lv_iconst (v := nI 1) hx hb d_Mo_driven_88 (by decide) ?_
          refine lv_goto hx hb d_Mo_driven_89 (tgt := 121) rfl ?_
          refine mo_stz hE hM hS hL (i := (((smS (A 6) (fun k => decide (A 6 k = 0)) opD k).length) - 1) - 1) (b := true) (by omega) d_Mo_driven_121 (fun H locs hM hS hL => ?_)
          refine lv_iinc (k := 2) (v := nI (k + 1)) hx hb d_Mo_driven_122 hl rfl (zz_inc _) (by decide) rfl (fun ls hl => ?_)
          have hl : lv_has ls 3 [(2, .int (nI (k + 1))), (1, .int (nI (((smS (A 6) (fun k => decide (A 6 k = 0)) opD k).length) - 1))), (0, .ref r)] := hl
          refine lv_goto hx hb d_Mo_driven_125 (tgt := 4) rfl ?_
          have hv9 : opD (A 6 k) a b = true := by
            unfold opD
            rw [if_pos (by omega)]
            cases a <;> cases b <;> simp at ga gb ⊢ <;> omega
          have hn9 : (smS (A 6) (fun k => decide (A 6 k = 0)) opD (k + 1)) = true :: T := by rw [smS_bin (by omega) hST, hv9]
          have hR9 : smR ((up2 B 15 ((((smS (A 6) (fun k => decide (A 6 k = 0)) opD k).length) - 1) - 1) true.toNat) 15) (smS (A 6) (fun k => decide (A 6 k = 0)) opD (k + 1)) := by
            rw [hn9, hST]
            exact smR_bin (by rw [← hST]; exact hR)
          have e3 : (smS (A 6) (fun k => decide (A 6 k = 0)) opD (k + 1)).length = (smS (A 6) (fun k => decide (A 6 k = 0)) opD k).length - 1 := by rw [hn9, hST]; simp
          have hms9 := mS_up15 (i := (smS (A 6) (fun k => decide (A 6 k = 0)) opD k).length - 1 - 1) hms true
          have hl : lv_has ls 3 [(0, .ref r), (1, .int (nI ((smS (A 6) (fun k => decide (A 6 k = 0)) opD (k + 1)).length))), (2, .int (nI (k + 1)))] := (by rw [e3]; exact lv_sub hl [2, 1, 0] rfl)
          exact ih (k + 1, (up2 B 15 ((((smS (A 6) (fun k => decide (A 6 k = 0)) opD k).length) - 1) - 1) true.toNat)) ls _ _ ⟨hl, by omega, hM, hms9, hR9, hS, hL⟩ (by show _ - (k + 1) < _ - k; omega)
        · refine lv_aload_n hx hb d_Mo_driven_79 rfl (lv_at hl 1 rfl) ?_
          refine fg_Mo_52 hE hM.1 rfl d_Mo_driven_80 ?_
          refine lv_iload_n hx hb d_Mo_driven_83 rfl (lv_at hl 0 rfl) ?_
          refine mo_ldz hE hM (i := ((smS (A 6) (fun k => decide (A 6 k = 0)) opD k).length) - 1) (by omega) d_Mo_driven_84 ?_
          refine zz_eq0 hx hb (by omega) d_Mo_driven_85 (tgt := 92) rfl (fun hT85 => ?_) (fun hF85 => ?_)
          · refine lv_iconst (v := nI 0) hx hb d_Mo_driven_92 (by decide) ?_
            refine lv_goto hx hb d_Mo_driven_93 (tgt := 121) rfl ?_
            refine mo_stz hE hM hS hL (i := (((smS (A 6) (fun k => decide (A 6 k = 0)) opD k).length) - 1) - 1) (b := false) (by omega) d_Mo_driven_121 (fun H locs hM hS hL => ?_)
            refine lv_iinc (k := 2) (v := nI (k + 1)) hx hb d_Mo_driven_122 hl rfl (zz_inc _) (by decide) rfl (fun ls hl => ?_)
            have hl : lv_has ls 3 [(2, .int (nI (k + 1))), (1, .int (nI (((smS (A 6) (fun k => decide (A 6 k = 0)) opD k).length) - 1))), (0, .ref r)] := hl
            refine lv_goto hx hb d_Mo_driven_125 (tgt := 4) rfl ?_
            have hv9 : opD (A 6 k) a b = false := by
              unfold opD
              rw [if_pos (by omega)]
              cases a <;> cases b <;> simp at ga gb ⊢ <;> omega
            have hn9 : (smS (A 6) (fun k => decide (A 6 k = 0)) opD (k + 1)) = false :: T := by rw [smS_bin (by omega) hST, hv9]
            have hR9 : smR ((up2 B 15 ((((smS (A 6) (fun k => decide (A 6 k = 0)) opD k).length) - 1) - 1) false.toNat) 15) (smS (A 6) (fun k => decide (A 6 k = 0)) opD (k + 1)) := by
              rw [hn9, hST]
              exact smR_bin (by rw [← hST]; exact hR)
            have e3 : (smS (A 6) (fun k => decide (A 6 k = 0)) opD (k + 1)).length = (smS (A 6) (fun k => decide (A 6 k = 0)) opD k).length - 1 := by rw [hn9, hST]; simp
            have hms9 := mS_up15 (i := (smS (A 6) (fun k => decide (A 6 k = 0)) opD k).length - 1 - 1) hms false
            have hl : lv_has ls 3 [(0, .ref r), (1, .int (nI ((smS (A 6) (fun k => decide (A 6 k = 0)) opD (k + 1)).length))), (2, .int (nI (k + 1)))] := (by rw [e3]; exact lv_sub hl [2, 1, 0] rfl)
            exact ih (k + 1, (up2 B 15 ((((smS (A 6) (fun k => decide (A 6 k = 0)) opD k).length) - 1) - 1) false.toNat)) ls _ _ ⟨hl, by omega, hM, hms9, hR9, hS, hL⟩ (by show _ - (k + 1) < _ - k; omega)
          · refine lv_iconst (v := nI 1) hx hb d_Mo_driven_88 (by decide) ?_
            refine lv_goto hx hb d_Mo_driven_89 (tgt := 121) rfl ?_
            refine mo_stz hE hM hS hL (i := (((smS (A 6) (fun k => decide (A 6 k = 0)) opD k).length) - 1) - 1) (b := true) (by omega) d_Mo_driven_121 (fun H locs hM hS hL => ?_)
            refine lv_iinc (k := 2) (v := nI (k + 1)) hx hb d_Mo_driven_122 hl rfl (zz_inc _) (by decide) rfl (fun ls hl => ?_)
            have hl : lv_has ls 3 [(2, .int (nI (k + 1))), (1, .int (nI (((smS (A 6) (fun k => decide (A 6 k = 0)) opD k).length) - 1))), (0, .ref r)] := hl
            refine lv_goto hx hb d_Mo_driven_125 (tgt := 4) rfl ?_
            have hv9 : opD (A 6 k) a b = true := by
              unfold opD
              rw [if_pos (by omega)]
              cases a <;> cases b <;> simp at ga gb ⊢ <;> omega
            have hn9 : (smS (A 6) (fun k => decide (A 6 k = 0)) opD (k + 1)) = true :: T := by rw [smS_bin (by omega) hST, hv9]
            have hR9 : smR ((up2 B 15 ((((smS (A 6) (fun k => decide (A 6 k = 0)) opD k).length) - 1) - 1) true.toNat) 15) (smS (A 6) (fun k => decide (A 6 k = 0)) opD (k + 1)) := by
              rw [hn9, hST]
              exact smR_bin (by rw [← hST]; exact hR)
            have e3 : (smS (A 6) (fun k => decide (A 6 k = 0)) opD (k + 1)).length = (smS (A 6) (fun k => decide (A 6 k = 0)) opD k).length - 1 := by rw [hn9, hST]; simp
            have hms9 := mS_up15 (i := (smS (A 6) (fun k => decide (A 6 k = 0)) opD k).length - 1 - 1) hms true
            have hl : lv_has ls 3 [(0, .ref r), (1, .int (nI ((smS (A 6) (fun k => decide (A 6 k = 0)) opD (k + 1)).length))), (2, .int (nI (k + 1)))] := (by rw [e3]; exact lv_sub hl [2, 1, 0] rfl)
            exact ih (k + 1, (up2 B 15 ((((smS (A 6) (fun k => decide (A 6 k = 0)) opD k).length) - 1) - 1) true.toNat)) ls _ _ ⟨hl, by omega, hM, hms9, hR9, hS, hL⟩ (by show _ - (k + 1) < _ - k; omega)
    · refine lv_aload_n hx hb d_Mo_driven_22 rfl (lv_at hl 0 rfl) ?_
      refine fg_Mo_52 hE hM.1 rfl d_Mo_driven_23 ?_
      refine lv_iload_n hx hb d_Mo_driven_26 rfl (lv_at hl 1 rfl) ?_
      refine lv_aload_n hx hb d_Mo_driven_27 rfl (lv_at hl 0 rfl) ?_
      refine fg_Mo_25 hE hM.1 rfl d_Mo_driven_28 ?_
      refine lv_iload_n hx hb d_Mo_driven_31 rfl (lv_at hl 2 rfl) ?_
      refine mo_ld hE hM 6 (by decide) (i := k) (show k < 140 by omega) d_Mo_driven_32 ?_
      refine zz_ne0 hx hb (by omega) d_Mo_driven_33 (tgt := 40) rfl (fun hT33 => ?_) (fun hF33 => ?_)
      · refine lv_iconst (v := nI 0) hx hb d_Mo_driven_40 (by decide) ?_
        refine mo_stz hE hM hS hL (i := (smS (A 6) (fun k => decide (A 6 k = 0)) opD k).length) (b := false) (by omega) d_Mo_driven_41 (fun H locs hM hS hL => ?_)
        refine lv_iinc (k := 1) (v := nI ((smS (A 6) (fun k => decide (A 6 k = 0)) opD k).length + 1)) hx hb d_Mo_driven_42 hl rfl (zz_inc _) (by decide) rfl (fun ls hl => ?_)
        have hl : lv_has ls 3 [(1, .int (nI ((smS (A 6) (fun k => decide (A 6 k = 0)) opD k).length + 1))), (0, .ref r), (2, .int (nI k))] := hl
        refine lv_goto hx hb d_Mo_driven_45 (tgt := 122) rfl ?_
        refine lv_iinc (k := 2) (v := nI (k + 1)) hx hb d_Mo_driven_122 hl rfl (zz_inc _) (by decide) rfl (fun ls hl => ?_)
        have hl : lv_has ls 3 [(2, .int (nI (k + 1))), (1, .int (nI ((smS (A 6) (fun k => decide (A 6 k = 0)) opD k).length + 1))), (0, .ref r)] := hl
        refine lv_goto hx hb d_Mo_driven_125 (tgt := 4) rfl ?_
        have hv9 : decide (A 6 k = 0) = false := by simp; omega
        have hn9 : (smS (A 6) (fun k => decide (A 6 k = 0)) opD (k + 1)) = false :: (smS (A 6) (fun k => decide (A 6 k = 0)) opD k) := by rw [smS_leaf (by omega), hv9]
        have hR9 : smR ((up2 B 15 ((smS (A 6) (fun k => decide (A 6 k = 0)) opD k).length) false.toNat) 15) (smS (A 6) (fun k => decide (A 6 k = 0)) opD (k + 1)) := by
          rw [hn9]
          exact smR_push hR
        have e3 : (smS (A 6) (fun k => decide (A 6 k = 0)) opD (k + 1)).length = (smS (A 6) (fun k => decide (A 6 k = 0)) opD k).length + 1 := by rw [hn9]; rfl
        have hms9 := mS_up15 (i := (smS (A 6) (fun k => decide (A 6 k = 0)) opD k).length) hms false
        have hl : lv_has ls 3 [(0, .ref r), (1, .int (nI ((smS (A 6) (fun k => decide (A 6 k = 0)) opD (k + 1)).length))), (2, .int (nI (k + 1)))] := (by rw [e3]; exact lv_sub hl [2, 1, 0] rfl)
        exact ih (k + 1, (up2 B 15 ((smS (A 6) (fun k => decide (A 6 k = 0)) opD k).length) false.toNat)) ls _ _ ⟨hl, by omega, hM, hms9, hR9, hS, hL⟩ (by show _ - (k + 1) < _ - k; omega)
      · refine lv_iconst (v := nI 1) hx hb d_Mo_driven_36 (by decide) ?_
        refine lv_goto hx hb d_Mo_driven_37 (tgt := 41) rfl ?_
        refine mo_stz hE hM hS hL (i := (smS (A 6) (fun k => decide (A 6 k = 0)) opD k).length) (b := true) (by omega) d_Mo_driven_41 (fun H locs hM hS hL => ?_)
        refine lv_iinc (k := 1) (v := nI ((smS (A 6) (fun k => decide (A 6 k = 0)) opD k).length + 1)) hx hb d_Mo_driven_42 hl rfl (zz_inc _) (by decide) rfl (fun ls hl => ?_)
        have hl : lv_has ls 3 [(1, .int (nI ((smS (A 6) (fun k => decide (A 6 k = 0)) opD k).length + 1))), (0, .ref r), (2, .int (nI k))] := hl
        refine lv_goto hx hb d_Mo_driven_45 (tgt := 122) rfl ?_
        refine lv_iinc (k := 2) (v := nI (k + 1)) hx hb d_Mo_driven_122 hl rfl (zz_inc _) (by decide) rfl (fun ls hl => ?_)
        have hl : lv_has ls 3 [(2, .int (nI (k + 1))), (1, .int (nI ((smS (A 6) (fun k => decide (A 6 k = 0)) opD k).length + 1))), (0, .ref r)] := hl
        refine lv_goto hx hb d_Mo_driven_125 (tgt := 4) rfl ?_
        have hv9 : decide (A 6 k = 0) = true := by simp; omega
        have hn9 : (smS (A 6) (fun k => decide (A 6 k = 0)) opD (k + 1)) = true :: (smS (A 6) (fun k => decide (A 6 k = 0)) opD k) := by rw [smS_leaf (by omega), hv9]
        have hR9 : smR ((up2 B 15 ((smS (A 6) (fun k => decide (A 6 k = 0)) opD k).length) true.toNat) 15) (smS (A 6) (fun k => decide (A 6 k = 0)) opD (k + 1)) := by
          rw [hn9]
          exact smR_push hR
        have e3 : (smS (A 6) (fun k => decide (A 6 k = 0)) opD (k + 1)).length = (smS (A 6) (fun k => decide (A 6 k = 0)) opD k).length + 1 := by rw [hn9]; rfl
        have hms9 := mS_up15 (i := (smS (A 6) (fun k => decide (A 6 k = 0)) opD k).length) hms true
        have hl : lv_has ls 3 [(0, .ref r), (1, .int (nI ((smS (A 6) (fun k => decide (A 6 k = 0)) opD (k + 1)).length))), (2, .int (nI (k + 1)))] := (by rw [e3]; exact lv_sub hl [2, 1, 0] rfl)
        exact ih (k + 1, (up2 B 15 ((smS (A 6) (fun k => decide (A 6 k = 0)) opD k).length) true.toNat)) ls _ _ ⟨hl, by omega, hM, hms9, hR9, hS, hL⟩ (by show _ - (k + 1) < _ - k; omega)
