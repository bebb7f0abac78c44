def aAcc (A : Nat → Nat → Nat) (t : Nat) : Int32 := if t ≠ 1 then -1 else if mDr A (A 10 t) = false then -3 else nI (mLv A 0 (A 10 t))
def bAcc (A : Nat → Nat → Nat) (t : Nat) : Bool := decide (t = 1) && mDr A (A 10 t)
theorem mLv_eq {A B : Nat → Nat → Nat} (h : B 6 = A 6) (fr k : Nat) : mLv B fr k = mLv A fr k := by
  unfold mLv
  rw [h]
theorem mOk_upr {A : Nat → Nat → Nat} {k i x : Nat} (h : mOk A) (hk : 6 ≤ k) (h15 : k ≠ 15) : mOk (up2 A k i x) := by
  unfold mOk
  rw [up2_f (by omega), up2_f (by omega), up2_f (by omega), up2_f (by omega), up2_f (by omega)]
  exact h
/-- how add leaves the arrays of texts -/
def mAdd (A B : Nat → Nat → Nat) (n : Nat) : Prop := (∀ k, k ≠ 1 → k ≠ 2 → B k = A k) ∧ (∀ g, g ≤ 1 → B 2 (2 * n + g) = A 2 (24 + g) ∧ B 2 (24 + g) = 0 ∧ ∀ i, i < A 2 (24 + g) → B 1 (12 * (2 * n + g) + i) = A 1 (12 * (24 + g) + i)) ∧ (∀ j, j < 2 * n → B 2 j = A 2 j) ∧ (∀ j, j < 24 * n → B 1 j = A 1 j) ∧ mOk B

set_option maxHeartbeats 4000000 in
set_option maxRecDepth 100000 in
theorem k_Mo_accept (l : Launch) (D : va_G) (ca : Nat → ClassId) (r n t rs w : Nat) (A : Nat → Nat → Nat) (okA : mOk A) (hSk : mSk A t) (hW : t = 1 → smW (A 6) (A 10 t)) (hone : t = 1 → smD (A 6) (A 10 t) = 1) : Met l y_Mo_accept w_Mo_accept (zr 2 0 0) (zz_P D ca [.ref r] (fun H => MoAt D ca H r n t rs w A)) (zz_Q (fun H H1 v => v = some (.int (aAcc A t)) ∧ zz_fr (moFr r) H H1 ∧ ∃ B, MoAt D ca H1 r n (if bAcc A t = true then 0 else t) (if bAcc A t = true then A 10 t else rs) (if bAcc A t = true then 0 else w) B ∧ mOk B ∧ (bAcc A t = false → mS A B) ∧ (bAcc A t = true → (∀ a, a ≠ 3 → a ≠ 4 → a ≠ 5 → a ≠ 15 → a ≠ 11 → a ≠ 12 → a ≠ 13 → a ≠ 14 → B a = A a) ∧ ∀ u, u < A 10 t → B 11 u = A 6 u ∧ B 12 u = A 7 u ∧ B 13 u = A 8 u ∧ B 14 u = A 9 u))) 0 0 (moFr r) := by
  refine zz_met (cc := c_Mo_accept) (by decide) (Nat.le_of_ble_eq_true rfl) ?_
  intro p e s m below meth c ls hE hr hlk hnm hM hl
  have hx := hE.1.1
  have hb := hE.1.2.1
  have hK := hE.2
  have hl : lv_has ls 3 [(0, .ref r)] := hl
  have hL : zz_L (moFr r) ([] : List Loc) := zz_L.nil
  have hS : zz_fr (moFr r) s.heap s.heap := zz_fr.rf
  obtain ⟨ht6, h100, hmono, h23, hkd⟩ := hSk
  refine lv_aload_n hx hb d_Mo_accept_0 rfl (lv_at hl 0 rfl) ?_
  refine fg_Mo_109 hE hM.1 rfl d_Mo_accept_1 ?_
  refine lv_iconst (v := nI 1) hx hb d_Mo_accept_4 (by decide) ?_
  refine zz_eq hx hb (by omega) (by omega) d_Mo_accept_5 (tgt := 10) rfl (fun hT5 => ?_) (fun hF5 => ?_)
  · have h23t := h23 t (by omega)
    refine lv_aload_n hx hb d_Mo_accept_10 rfl (lv_at hl 0 rfl) ?_
    refine zz_callI (cl_Mo_126 (rest := []) hE (k_Mo_driven l D ca r n t rs w A okA ht6 (by omega) (hW hT5) (hone hT5)) ⟨rfl, rfl, by decide, by decide⟩ hM hM.1 rfl hl.1 rfl (Nat.le_of_ble_eq_true rfl) d_Mo_accept_11 ⟨by decide, by decide⟩) hL (fun _ h => h) (fun H locs hpost hL => ?_)
    obtain ⟨hfr1, B1, hM, hms⟩ := hpost
    have hS := hS.tr hfr1
    have e6 : B1 6 = A 6 := hms.2 6 (by decide) (by decide) (by decide) (by decide)
    have e10 : B1 10 = A 10 := hms.2 10 (by decide) (by decide) (by decide) (by decide)
    refine zz_neB hx hb d_Mo_accept_14 (tgt := 20) rfl (fun hT14 => ?_) (fun hF14 => ?_)
    · refine lv_aload_n hx hb d_Mo_accept_20 rfl (lv_at hl 0 rfl) ?_
      refine lv_iconst (v := nI 0) hx hb d_Mo_accept_21 (by decide) ?_
      refine lv_aload_n hx hb d_Mo_accept_22 rfl (lv_at hl 0 rfl) ?_
      refine zz_callP (cl_Mo_112 (rest := [.int (nI 0), .ref r]) hE (k_Mo_marks l D ca r n t rs w B1 (by omega)) ⟨rfl, rfl, by decide, by decide⟩ hM hM.1 rfl hl.1 rfl (Nat.le_of_ble_eq_true rfl) d_Mo_accept_23 ⟨by decide, by decide⟩) ?_
      refine zz_callP (cl_Mo_123 (rest := []) hE (k_Mo_leaves l D ca r n t rs w B1 0 (B1 10 t) (by rw [e10]; omega) (Nat.zero_le _) (by rw [e6]; exact hkd)) ⟨rfl, rfl, by decide, by decide⟩ hM hM.1 rfl hl.1 rfl (Nat.le_of_ble_eq_true rfl) d_Mo_accept_26 ⟨by decide, by decide⟩) ?_
      refine lv_istore_n hx hb d_Mo_accept_29 rfl hl (by decide) rfl (fun ls hl => ?_)
      have hl : lv_has ls 3 [(1, .int (nI (mLv B1 0 (B1 10 t)))), (0, .ref r)] := hl
      refine lv_aload_n hx hb d_Mo_accept_30 rfl (lv_at hl 1 rfl) ?_
      refine lv_aload_n hx hb d_Mo_accept_31 rfl (lv_at hl 1 rfl) ?_
      refine zz_callP (cl_Mo_112 (rest := [.ref r]) hE (k_Mo_marks l D ca r n t rs w B1 (by omega)) ⟨rfl, rfl, by decide, by decide⟩ hM hM.1 rfl hl.1 rfl (Nat.le_of_ble_eq_true rfl) d_Mo_accept_32 ⟨by decide, by decide⟩) ?_
      refine fp_Mo_130 hE hM.1 hL (show moFr r r from ⟨by omega, by omega⟩) (Nat.le_of_ble_eq_true rfl) d_Mo_accept_35 (fun H locs h1 hu hL => ?_)
      have hS := hS.up hu (show moFr r r from ⟨by omega, by omega⟩)
      have hM : MoAt D ca H r n t (B1 10 t) w B1 := mo_fld hM h1 hu
      refine lv_iconst (v := nI 0) hx hb d_Mo_accept_38 (by decide) ?_
      refine lv_istore_n hx hb d_Mo_accept_39 rfl hl (by decide) rfl (fun ls hl => ?_)
      have hl : lv_has ls 3 [(2, .int (nI 0)), (1, .int (nI (mLv B1 0 (B1 10 t)))), (0, .ref r)] := hl
      have hl : lv_has ls 3 [(0, .ref r), (1, .int (nI (mLv B1 0 (B1 10 t)))), (2, .int (nI 0))] := lv_sub hl [2, 1, 0] rfl
      refine zz_loopH (σ := Nat × (Nat → Nat → Nat)) (fun ⟨k, B⟩ ls H locs => lv_has ls 3 [(0, .ref r), (1, .int (nI (mLv B1 0 (B1 10 t)))), (2, .int (nI k))] ∧ k ≤ A 10 t ∧ MoAt D ca H r n t (B1 10 t) w B ∧ ((∀ a, a ≠ 11 → a ≠ 12 → a ≠ 13 → a ≠ 14 → B a = B1 a)) ∧ ((∀ u, u < k → B 11 u = A 6 u ∧ B 12 u = A 7 u ∧ B 13 u = A 8 u ∧ B 14 u = A 9 u)) ∧ mOk B ∧ zz_fr (moFr r) s.heap H ∧ zz_L (moFr r) locs) (fun ⟨k, B⟩ => A 10 t - k) ?_ (0, B1) ls _ _ ⟨hl, Nat.zero_le _, hM, fun _ _ _ _ _ => rfl, fun u h => absurd h (Nat.not_lt_zero _), hms.1, hS, hL⟩
      rintro ⟨k, B⟩ ih ls H locs ⟨hl, hk, hM, hkp9, hcp, hok, hS, hL⟩
      have e10t : B1 10 t = A 10 t := congrFun e10 t
      have f6 : B 6 = A 6 := (hkp9 6 (by decide) (by decide) (by decide) (by decide)).trans (hms.2 6 (by decide) (by decide) (by decide) (by decide))
      have f7 : B 7 = A 7 := (hkp9 7 (by decide) (by decide) (by decide) (by decide)).trans (hms.2 7 (by decide) (by decide) (by decide) (by decide))
      have f8 : B 8 = A 8 := (hkp9 8 (by decide) (by decide) (by decide) (by decide)).trans (hms.2 8 (by decide) (by decide) (by decide) (by decide))
      have f9 : B 9 = A 9 := (hkp9 9 (by decide) (by decide) (by decide) (by decide)).trans (hms.2 9 (by decide) (by decide) (by decide) (by decide))
      refine lv_iload_n hx hb d_Mo_accept_40 rfl (lv_at hl 2 rfl) ?_
      refine lv_aload_n hx hb d_Mo_accept_41 rfl (lv_at hl 0 rfl) ?_
      refine fg_Mo_130 hE hM.1 rfl d_Mo_accept_42 ?_
      refine zz_ge hx hb (by omega) (by omega) d_Mo_accept_45 (tgt := 102) rfl (fun hT45 => ?_) (fun hF45 => ?_)
      · refine lv_aload_n hx hb d_Mo_accept_102 rfl (lv_at hl 0 rfl) ?_
        refine lv_iconst (v := nI 0) hx hb d_Mo_accept_103 (by decide) ?_
        refine fp_Mo_109 hE hM.1 hL (show moFr r r from ⟨by omega, by omega⟩) (Nat.le_of_ble_eq_true rfl) d_Mo_accept_104 (fun H locs h1 hu hL => ?_)
        have hS := hS.up hu (show moFr r r from ⟨by omega, by omega⟩)
        have hM : MoAt D ca H r n 0 (B1 10 t) w B := mo_fld hM h1 hu
        refine lv_aload_n hx hb d_Mo_accept_107 rfl (lv_at hl 0 rfl) ?_
        refine lv_iconst (v := nI 0) hx hb d_Mo_accept_108 (by decide) ?_
        refine fp_Mo_73 hE hM.1 hL (show moFr r r from ⟨by omega, by omega⟩) (Nat.le_of_ble_eq_true rfl) d_Mo_accept_109 (fun H locs h1 hu hL => ?_)
        have hS := hS.up hu (show moFr r r from ⟨by omega, by omega⟩)
        have hM : MoAt D ca H r n 0 (B1 10 t) 0 B := mo_fld hM h1 hu
        refine lv_iload_n hx hb d_Mo_accept_112 rfl (lv_at hl 1 rfl) ?_
        have hb9 : bAcc A t = true := by simp only [bAcc, decide_eq_true hT5, hT14]; rfl
        exact zz_iret hx hb hr hlk rfl ⟨by unfold aAcc; rw [if_neg (fun h => h hT5), if_neg (by simp [hT14]), mLv_eq e6, e10], hS, B, by rw [hb9, if_pos rfl, if_pos rfl, if_pos rfl, ← e10]; exact hM, hok, (fun h => by rw [hb9] at h; cases h), fun _ => ⟨fun a h1 h2 h3 h4 h5 h6 h7 h8 => (hkp9 a h5 h6 h7 h8).trans (hms.2 a h1 h2 h3 h4), fun u hu => hcp u (by omega)⟩⟩ hL d_Mo_accept_113
      · refine lv_aload_n hx hb d_Mo_accept_48 rfl (lv_at hl 0 rfl) ?_
        refine fg_Mo_40 hE hM.1 rfl d_Mo_accept_49 ?_
        refine lv_iload_n hx hb d_Mo_accept_52 rfl (lv_at hl 2 rfl) ?_
        refine lv_aload_n hx hb d_Mo_accept_53 rfl (lv_at hl 0 rfl) ?_
        refine fg_Mo_25 hE hM.1 rfl d_Mo_accept_54 ?_
        refine lv_iload_n hx hb d_Mo_accept_57 rfl (lv_at hl 2 rfl) ?_
        refine mo_ld hE hM 6 (by decide) (i := k) (show k < 140 by omega) d_Mo_accept_58 ?_
        refine mo_st hE hM hS hL 11 (by decide) (i := k) (x := B 6 k) (show k < 24 by omega) d_Mo_accept_59 (fun H locs hM hS hL => ?_)
        refine lv_aload_n hx hb d_Mo_accept_60 rfl (lv_at hl 0 rfl) ?_
        refine fg_Mo_43 hE hM.1 rfl d_Mo_accept_61 ?_
        refine lv_iload_n hx hb d_Mo_accept_64 rfl (lv_at hl 2 rfl) ?_
        refine lv_aload_n hx hb d_Mo_accept_65 rfl (lv_at hl 0 rfl) ?_
        refine fg_Mo_28 hE hM.1 rfl d_Mo_accept_66 ?_
        refine lv_iload_n hx hb d_Mo_accept_69 rfl (lv_at hl 2 rfl) ?_
        refine mo_ld hE hM 7 (by decide) (i := k) (show k < 140 by omega) d_Mo_accept_70 ?_
        refine mo_st hE hM hS hL 12 (by decide) (i := k) (x := (up2 B 11 k (B 6 k)) 7 k) (show k < 24 by omega) d_Mo_accept_71 (fun H locs hM hS hL => ?_)
        refine lv_aload_n hx hb d_Mo_accept_72 rfl (lv_at hl 0 rfl) ?_
        refine fg_Mo_46 hE hM.1 rfl d_Mo_accept_73 ?_
        refine lv_iload_n hx hb d_Mo_accept_76 rfl (lv_at hl 2 rfl) ?_
        refine lv_aload_n hx hb d_Mo_accept_77 rfl (lv_at hl 0 rfl) ?_
        refine fg_Mo_31 hE hM.1 rfl d_Mo_accept_78 ?_
        refine lv_iload_n hx hb d_Mo_accept_81 rfl (lv_at hl 2 rfl) ?_
        refine mo_ld hE hM 8 (by decide) (i := k) (show k < 140 by omega) d_Mo_accept_82 ?_
        refine mo_st hE hM hS hL 13 (by decide) (i := k) (x := (up2 (up2 B 11 k (B 6 k)) 12 k ((up2 B 11 k (B 6 k)) 7 k)) 8 k) (show k < 24 by omega) d_Mo_accept_83 (fun H locs hM hS hL => ?_)
        refine lv_aload_n hx hb d_Mo_accept_84 rfl (lv_at hl 0 rfl) ?_
        refine fg_Mo_49 hE hM.1 rfl d_Mo_accept_85 ?_
        refine lv_iload_n hx hb d_Mo_accept_88 rfl (lv_at hl 2 rfl) ?_
        refine lv_aload_n hx hb d_Mo_accept_89 rfl (lv_at hl 0 rfl) ?_
        refine fg_Mo_34 hE hM.1 rfl d_Mo_accept_90 ?_
        refine lv_iload_n hx hb d_Mo_accept_93 rfl (lv_at hl 2 rfl) ?_
        refine mo_ld hE hM 9 (by decide) (i := k) (show k < 140 by omega) d_Mo_accept_94 ?_
        refine mo_st hE hM hS hL 14 (by decide) (i := k) (x := (up2 (up2 (up2 B 11 k (B 6 k)) 12 k ((up2 B 11 k (B 6 k)) 7 k)) 13 k ((up2 (up2 B 11 k (B 6 k)) 12 k ((up2 B 11 k (B 6 k)) 7 k)) 8 k)) 9 k) (show k < 24 by omega) d_Mo_accept_95 (fun H locs hM hS hL => ?_)
        refine lv_iinc (k := 2) (v := nI (k + 1)) hx hb d_Mo_accept_96 hl rfl (zz_inc _) (by decide) rfl (fun ls hl => ?_)
        have hl : lv_has ls 3 [(2, .int (nI (k + 1))), (0, .ref r), (1, .int (nI (mLv B1 0 (B1 10 t))))] := hl
        refine lv_goto hx hb d_Mo_accept_99 (tgt := 40) rfl ?_
        have hk9 : ∀ a, a ≠ 11 → a ≠ 12 → a ≠ 13 → a ≠ 14 → (up2 (up2 (up2 (up2 B 11 k (B 6 k)) 12 k ((up2 B 11 k (B 6 k)) 7 k)) 13 k ((up2 (up2 B 11 k (B 6 k)) 12 k ((up2 B 11 k (B 6 k)) 7 k)) 8 k)) 14 k ((up2 (up2 (up2 B 11 k (B 6 k)) 12 k ((up2 B 11 k (B 6 k)) 7 k)) 13 k ((up2 (up2 B 11 k (B 6 k)) 12 k ((up2 B 11 k (B 6 k)) 7 k)) 8 k)) 9 k)) a = B1 a := fun a h1 h2 h3 h4 => by rw [up2_f h4, up2_f h3, up2_f h2, up2_f h1]; exact hkp9 a h1 h2 h3 h4
        have hcp9 : ∀ u, u < k + 1 → (up2 (up2 (up2 (up2 B 11 k (B 6 k)) 12 k ((up2 B 11 k (B 6 k)) 7 k)) 13 k ((up2 (up2 B 11 k (B 6 k)) 12 k ((up2 B 11 k (B 6 k)) 7 k)) 8 k)) 14 k ((up2 (up2 (up2 B 11 k (B 6 k)) 12 k ((up2 B 11 k (B 6 k)) 7 k)) 13 k ((up2 (up2 B 11 k (B 6 k)) 12 k ((up2 B 11 k (B 6 k)) 7 k)) 8 k)) 9 k)) 11 u = A 6 u ∧ (up2 (up2 (up2 (up2 B 11 k (B 6 k)) 12 k ((up2 B 11 k (B 6 k)) 7 k)) 13 k ((up2 (up2 B 11 k (B 6 k)) 12 k ((up2 B 11 k (B 6 k)) 7 k)) 8 k)) 14 k ((up2 (up2 (up2 B 11 k (B 6 k)) 12 k ((up2 B 11 k (B 6 k)) 7 k)) 13 k ((up2 (up2 B 11 k (B 6 k)) 12 k ((up2 B 11 k (B 6 k)) 7 k)) 8 k)) 9 k)) 12 u = A 7 u ∧ (up2 (up2 (up2 (up2 B 11 k (B 6 k)) 12 k ((up2 B 11 k (B 6 k)) 7 k)) 13 k ((up2 (up2 B 11 k (B 6 k)) 12 k ((up2 B 11 k (B 6 k)) 7 k)) 8 k)) 14 k ((up2 (up2 (up2 B 11 k (B 6 k)) 12 k ((up2 B 11 k (B 6 k)) 7 k)) 13 k ((up2 (up2 B 11 k (B 6 k)) 12 k ((up2 B 11 k (B 6 k)) 7 k)) 8 k)) 9 k)) 13 u = A 8 u ∧ (up2 (up2 (up2 (up2 B 11 k (B 6 k)) 12 k ((up2 B 11 k (B 6 k)) 7 k)) 13 k ((up2 (up2 B 11 k (B 6 k)) 12 k ((up2 B 11 k (B 6 k)) 7 k)) 8 k)) 14 k ((up2 (up2 (up2 B 11 k (B 6 k)) 12 k ((up2 B 11 k (B 6 k)) 7 k)) 13 k ((up2 (up2 B 11 k (B 6 k)) 12 k ((up2 B 11 k (B 6 k)) 7 k)) 8 k)) 9 k)) 14 u = A 9 u := by
          intro u hu
          by_cases huk : u = k
          · subst huk
            simp [up2, f6, f7, f8, f9]
          · have h := hcp u (by omega)
            simp only [up2, huk, and_false, if_false]
            exact h
        have hok9 : mOk (up2 (up2 (up2 (up2 B 11 k (B 6 k)) 12 k ((up2 B 11 k (B 6 k)) 7 k)) 13 k ((up2 (up2 B 11 k (B 6 k)) 12 k ((up2 B 11 k (B 6 k)) 7 k)) 8 k)) 14 k ((up2 (up2 (up2 B 11 k (B 6 k)) 12 k ((up2 B 11 k (B 6 k)) 7 k)) 13 k ((up2 (up2 B 11 k (B 6 k)) 12 k ((up2 B 11 k (B 6 k)) 7 k)) 8 k)) 9 k)) := mOk_upr (mOk_upr (mOk_upr (mOk_upr hok (by decide) (by decide)) (by decide) (by decide)) (by decide) (by decide)) (by decide) (by decide)
        have hl : lv_has ls 3 [(0, .ref r), (1, .int (nI (mLv B1 0 (B1 10 t)))), (2, .int (nI (k + 1)))] := lv_sub hl [1, 2, 0] rfl
        exact ih (k + 1, (up2 (up2 (up2 (up2 B 11 k (B 6 k)) 12 k ((up2 B 11 k (B 6 k)) 7 k)) 13 k ((up2 (up2 B 11 k (B 6 k)) 12 k ((up2 B 11 k (B 6 k)) 7 k)) 8 k)) 14 k ((up2 (up2 (up2 B 11 k (B 6 k)) 12 k ((up2 B 11 k (B 6 k)) 7 k)) 13 k ((up2 (up2 B 11 k (B 6 k)) 12 k ((up2 B 11 k (B 6 k)) 7 k)) 8 k)) 9 k))) ls _ _ ⟨hl, by omega, hM, hk9, hcp9, hok9, hS, hL⟩ (by show A 10 t - (k + 1) < A 10 t - k; omega)
    · refine lv_bipush (v := (-3 : Int32)) hx hb d_Mo_accept_17 (by decide) ?_
      have hb9 : bAcc A t = false := by simp only [bAcc, hF14]; simp
      exact zz_iret hx hb hr hlk rfl ⟨by unfold aAcc; rw [if_neg (fun h => h hT5), if_pos hF14], hS, B1, by rw [hb9]; exact hM, hms.1, fun _ => hms, (fun h => by rw [hb9] at h; cases h)⟩ hL d_Mo_accept_19
  · refine lv_iconst (v := (-1 : Int32)) hx hb d_Mo_accept_8 (by decide) ?_
    have hb9 : bAcc A t = false := by simp only [bAcc, decide_eq_false hF5]; rfl
    exact zz_iret hx hb hr hlk rfl ⟨by unfold aAcc; rw [if_pos hF5], hS, A, by rw [hb9]; exact hM, okA, fun _ => mS.rf okA, (fun h => by rw [hb9] at h; cases h)⟩ hL d_Mo_accept_9

theorem add_in {A Bo B : Nat → Nat → Nat} {n f i : Nat} (hn : n < 12) (hf : f ≤ 1) (hi : i < 12) (h : (∀ k, k ≠ 1 → k ≠ 2 → B k = A k) ∧ (∀ j, j ≠ 2 * n + f → B 2 j = Bo 2 j) ∧ B 2 (2 * n + f) = A 2 (24 + f) ∧ (∀ u, u < i → B 1 (12 * (2 * n + f) + u) = A 1 (12 * (24 + f) + u)) ∧ (∀ j, (j < 12 * (2 * n + f) ∨ 12 * (2 * n + f) + 12 ≤ j) → B 1 j = Bo 1 j) ∧ mOk B) (hx : B 1 (12 * (24 + f) + i) = A 1 (12 * (24 + f) + i)) (hA : ∀ j, j < 312 → A 1 j < 256) : (∀ k, k ≠ 1 → k ≠ 2 → (up2 B 1 (12 * (2 * n + f) + i) (B 1 (12 * (24 + f) + i))) k = A k) ∧ (∀ j, j ≠ 2 * n + f → (up2 B 1 (12 * (2 * n + f) + i) (B 1 (12 * (24 + f) + i))) 2 j = Bo 2 j) ∧ (up2 B 1 (12 * (2 * n + f) + i) (B 1 (12 * (24 + f) + i))) 2 (2 * n + f) = A 2 (24 + f) ∧ (∀ u, u < (i + 1) → (up2 B 1 (12 * (2 * n + f) + i) (B 1 (12 * (24 + f) + i))) 1 (12 * (2 * n + f) + u) = A 1 (12 * (24 + f) + u)) ∧ (∀ j, (j < 12 * (2 * n + f) ∨ 12 * (2 * n + f) + 12 ≤ j) → (up2 B 1 (12 * (2 * n + f) + i) (B 1 (12 * (24 + f) + i))) 1 j = Bo 1 j) ∧ mOk (up2 B 1 (12 * (2 * n + f) + i) (B 1 (12 * (24 + f) + i))) := by
  obtain ⟨j1, j2, j3, j4, j5, j6⟩ := h
  refine ⟨fun k h1 h2 => by rw [up2_f h1]; exact j1 k h1 h2, fun j hj => by rw [up2_k (by decide)]; exact j2 j hj, by rw [up2_k (by decide)]; exact j3, fun u hu => ?_, fun j hj => ?_, ?_⟩
  · by_cases hui : u = i
    · subst hui; rw [up2_s]; exact hx
    · rw [up2_i (by omega)]; exact j4 u (by omega)
  · rw [up2_i (by omega)]; exact j5 j hj
  · refine ⟨fun j hj => ?_, ?_⟩
    · by_cases hji : j = 12 * (2 * n + f) + i
      · subst hji; rw [up2_s, hx]; exact hA _ (by omega)
      · rw [up2_i hji]; exact j6.1 j hj
    · rw [up2_f (by decide), up2_f (by decide), up2_f (by decide), up2_f (by decide)]; exact j6.2
theorem add_first {A Bo : Nat → Nat → Nat} {n f : Nat} (hn : n < 12) (hf : f ≤ 1) (h : (∀ k, k ≠ 1 → k ≠ 2 → Bo k = A k) ∧ (∀ g, g < f → Bo 2 (2 * n + g) = A 2 (24 + g) ∧ Bo 2 (24 + g) = 0 ∧ ∀ i, i < A 2 (24 + g) → Bo 1 (12 * (2 * n + g) + i) = A 1 (12 * (24 + g) + i)) ∧ (∀ g, f ≤ g → g ≤ 1 → Bo 2 (24 + g) = A 2 (24 + g)) ∧ (∀ j, j < 2 * n → Bo 2 j = A 2 j) ∧ (∀ j, (j < 24 * n ∨ 24 * n + 24 ≤ j) → Bo 1 j = A 1 j) ∧ mOk Bo) : (∀ k, k ≠ 1 → k ≠ 2 → (up2 Bo 2 (2 * n + f) (Bo 2 (24 + f))) k = A k) ∧ (∀ j, j ≠ 2 * n + f → (up2 Bo 2 (2 * n + f) (Bo 2 (24 + f))) 2 j = Bo 2 j) ∧ (up2 Bo 2 (2 * n + f) (Bo 2 (24 + f))) 2 (2 * n + f) = A 2 (24 + f) ∧ (∀ u, u < 0 → (up2 Bo 2 (2 * n + f) (Bo 2 (24 + f))) 1 (12 * (2 * n + f) + u) = A 1 (12 * (24 + f) + u)) ∧ (∀ j, (j < 12 * (2 * n + f) ∨ 12 * (2 * n + f) + 12 ≤ j) → (up2 Bo 2 (2 * n + f) (Bo 2 (24 + f))) 1 j = Bo 1 j) ∧ mOk (up2 Bo 2 (2 * n + f) (Bo 2 (24 + f))) := by
  obtain ⟨o1, o2, o3, o4, o5, o6⟩ := h
  refine ⟨fun k h1 h2 => by rw [up2_f h2]; exact o1 k h1 h2, fun j hj => up2_i hj, by rw [up2_s]; exact o3 f (Nat.le_refl _) hf, fun u hu => absurd hu (Nat.not_lt_zero _), fun j _ => up2_k (by decide), ?_⟩
  refine ⟨by rw [up2_f (by decide)]; exact o6.1, fun j hj => ?_, by rw [up2_f (by decide), up2_f (by decide), up2_f (by decide)]; exact o6.2.2⟩
  by_cases hji : j = 2 * n + f
  · subst hji; rw [up2_s]; exact o6.2.1 _ (by omega)
  · rw [up2_i hji]; exact o6.2.1 j hj
theorem add_last {A Bo B : Nat → Nat → Nat} {n f : Nat} (hn : n < 12) (hf : f ≤ 1) (ho : (∀ k, k ≠ 1 → k ≠ 2 → Bo k = A k) ∧ (∀ g, g < f → Bo 2 (2 * n + g) = A 2 (24 + g) ∧ Bo 2 (24 + g) = 0 ∧ ∀ i, i < A 2 (24 + g) → Bo 1 (12 * (2 * n + g) + i) = A 1 (12 * (24 + g) + i)) ∧ (∀ g, f ≤ g → g ≤ 1 → Bo 2 (24 + g) = A 2 (24 + g)) ∧ (∀ j, j < 2 * n → Bo 2 j = A 2 j) ∧ (∀ j, (j < 24 * n ∨ 24 * n + 24 ≤ j) → Bo 1 j = A 1 j) ∧ mOk Bo) (h : (∀ k, k ≠ 1 → k ≠ 2 → B k = A k) ∧ (∀ j, j ≠ 2 * n + f → B 2 j = Bo 2 j) ∧ B 2 (2 * n + f) = A 2 (24 + f) ∧ (∀ u, u < (A 2 (24 + f)) → B 1 (12 * (2 * n + f) + u) = A 1 (12 * (24 + f) + u)) ∧ (∀ j, (j < 12 * (2 * n + f) ∨ 12 * (2 * n + f) + 12 ≤ j) → B 1 j = Bo 1 j) ∧ mOk B) (hs : A 2 (24 + f) ≤ 12) (hsA : ∀ j, j < 26 → A 2 j ≤ 12) : (∀ k, k ≠ 1 → k ≠ 2 → (up2 B 2 (24 + f) 0) k = A k) ∧ (∀ g, g < (f + 1) → (up2 B 2 (24 + f) 0) 2 (2 * n + g) = A 2 (24 + g) ∧ (up2 B 2 (24 + f) 0) 2 (24 + g) = 0 ∧ ∀ i, i < A 2 (24 + g) → (up2 B 2 (24 + f) 0) 1 (12 * (2 * n + g) + i) = A 1 (12 * (24 + g) + i)) ∧ (∀ g, (f + 1) ≤ g → g ≤ 1 → (up2 B 2 (24 + f) 0) 2 (24 + g) = A 2 (24 + g)) ∧ (∀ j, j < 2 * n → (up2 B 2 (24 + f) 0) 2 j = A 2 j) ∧ (∀ j, (j < 24 * n ∨ 24 * n + 24 ≤ j) → (up2 B 2 (24 + f) 0) 1 j = A 1 j) ∧ mOk (up2 B 2 (24 + f) 0) := by
  obtain ⟨o1, o2, o3, o4, o5, o6⟩ := ho
  obtain ⟨j1, j2, j3, j4, j5, j6⟩ := h
  refine ⟨fun k h1 h2 => by rw [up2_f h2]; exact j1 k h1 h2, fun g hg => ?_, fun g hg hg1 => ?_, fun j hj => ?_, fun j hj => ?_, ?_⟩
  · by_cases hgf : g = f
    · subst hgf
      refine ⟨by rw [up2_i (by omega)]; exact j3, up2_s, fun i hi => by rw [up2_k (by decide)]; exact j4 i hi⟩
    · obtain ⟨a1, a2, a3⟩ := o2 g (by omega)
      refine ⟨by rw [up2_i (by omega), j2 _ (by omega)]; exact a1, by rw [up2_i (by omega), j2 _ (by omega)]; exact a2, fun i hi => ?_⟩
      rw [up2_k (by decide), j5 _ (by have := hsA (24 + g) (by omega); omega)]
      exact a3 i hi
  · rw [up2_i (by omega), j2 _ (by omega)]; exact o3 g (by omega) hg1
  · rw [up2_i (by omega), j2 _ (by omega)]; exact o4 j hj
  · rw [up2_k (by decide), j5 j (by omega)]; exact o5 j hj
  · refine ⟨by rw [up2_f (by decide)]; exact j6.1, fun j hj => ?_, by rw [up2_f (by decide), up2_f (by decide), up2_f (by decide)]; exact j6.2.2⟩
    by_cases hji : j = 24 + f
    · subst hji; rw [up2_s]; omega
    · rw [up2_i hji]; exact j6.2.1 j hj

set_option maxHeartbeats 4000000 in
set_option maxRecDepth 100000 in
theorem k_Mo_add (l : Launch) (D : va_G) (ca : Nat → ClassId) (r n t rs w : Nat) (A : Nat → Nat → Nat) (hn : n ≤ 12) (okA : mOk A) : Met l y_Mo_add w_Mo_add (zr 1 0 0) (zz_P D ca [.ref r] (fun H => MoAt D ca H r n t rs w A)) (zz_Q (fun H H1 v => v = some (.int (if n = 12 then -2 else nI n)) ∧ zz_fr (moFr r) H H1 ∧ (if n = 12 then MoAt D ca H1 r n t rs w A else ∃ B, MoAt D ca H1 r (n + 1) t rs 0 B ∧ mAdd A B n))) 0 0 (moFr r) := by
  refine zz_met (cc := c_Mo_add) (by decide) (Nat.le_of_ble_eq_true rfl) ?_
  intro p e s m below meth c ls hE hr hlk hnm hM hl
  have hx := hE.1.1
  have hb := hE.1.2.1
  have hK := hE.2
  have hl : lv_has ls 4 [(0, .ref r)] := hl
  have hL : zz_L (moFr r) ([] : List Loc) := zz_L.nil
  have hS : zz_fr (moFr r) s.heap s.heap := zz_fr.rf
  refine lv_aload_n hx hb d_Mo_add_0 rfl (lv_at hl 0 rfl) ?_
  refine fg_Mo_65 hE hM.1 rfl d_Mo_add_1 ?_
  refine lv_bipush (v := nI 12) hx hb d_Mo_add_4 (by decide) ?_
  refine zz_ne hx hb (by omega) (by omega) d_Mo_add_6 (tgt := 12) rfl (fun hT6 => ?_) (fun hF6 => ?_)
  · refine lv_iconst (v := nI 0) hx hb d_Mo_add_12 (by decide) ?_
    refine lv_istore_n hx hb d_Mo_add_13 rfl hl (by decide) rfl (fun ls hl => ?_)
    have hl : lv_has ls 4 [(1, .int (nI 0)), (0, .ref r)] := hl
    have hl : lv_has ls 4 [(0, .ref r), (1, .int (nI 0))] := lv_sub hl [1, 0] rfl
    refine zz_loopH (σ := Nat × (Nat → Nat → Nat)) (fun ⟨f, Bo⟩ ls H locs => lv_has ls 4 [(0, .ref r), (1, .int (nI f))] ∧ f ≤ 2 ∧ MoAt D ca H r n t rs w Bo ∧ ((∀ k, k ≠ 1 → k ≠ 2 → Bo k = A k) ∧ (∀ g, g < f → Bo 2 (2 * n + g) = A 2 (24 + g) ∧ Bo 2 (24 + g) = 0 ∧ ∀ i, i < A 2 (24 + g) → Bo 1 (12 * (2 * n + g) + i) = A 1 (12 * (24 + g) + i)) ∧ (∀ g, f ≤ g → g ≤ 1 → Bo 2 (24 + g) = A 2 (24 + g)) ∧ (∀ j, j < 2 * n → Bo 2 j = A 2 j) ∧ (∀ j, (j < 24 * n ∨ 24 * n + 24 ≤ j) → Bo 1 j = A 1 j) ∧ mOk Bo) ∧ zz_fr (moFr r) s.heap H ∧ zz_L (moFr r) locs) (fun ⟨f, Bo⟩ => 2 - f) ?_ (0, A) ls _ _ ⟨hl, Nat.zero_le _, hM, ⟨fun _ _ _ => rfl, fun g h => absurd h (Nat.not_lt_zero _), fun _ _ _ => rfl, fun _ _ => rfl, fun _ _ => rfl, okA⟩, hS, hL⟩
    rintro ⟨f, Bo⟩ ih ls H locs ⟨hl, hf, hM, ho, hS, hL⟩
    have iho := ih
    refine lv_iload_n hx hb d_Mo_add_14 rfl (lv_at hl 1 rfl) ?_
    refine lv_iconst (v := nI 2) hx hb d_Mo_add_15 (by decide) ?_
    refine zz_ge hx hb (by omega) (by omega) d_Mo_add_16 (tgt := 102) rfl (fun hT16 => ?_) (fun hF16 => ?_)
    · obtain ⟨B, hB⟩ : ∃ z, z = Bo := ⟨_, rfl⟩
      rw [← hB] at hM ho
      refine lv_aload_n hx hb d_Mo_add_102 rfl (lv_at hl 0 rfl) ?_
      refine lv_dup hx hb d_Mo_add_103 rfl ?_
      refine fg_Mo_65 hE hM.1 rfl d_Mo_add_104 ?_
      refine lv_iconst (v := nI 1) hx hb d_Mo_add_107 (by decide) ?_
      refine zz_iadd hx hb d_Mo_add_108 ?_
      refine fp_Mo_65 hE hM.1 hL (show moFr r r from ⟨by omega, by omega⟩) (Nat.le_of_ble_eq_true rfl) d_Mo_add_109 (fun H locs h1 hu hL => ?_)
      have hS := hS.up hu (show moFr r r from ⟨by omega, by omega⟩)
      have hM : MoAt D ca H r (n + 1) t rs w B := mo_fld hM h1 hu
      refine lv_aload_n hx hb d_Mo_add_112 rfl (lv_at hl 0 rfl) ?_
      refine lv_iconst (v := nI 0) hx hb d_Mo_add_113 (by decide) ?_
      refine fp_Mo_73 hE hM.1 hL (show moFr r r from ⟨by omega, by omega⟩) (Nat.le_of_ble_eq_true rfl) d_Mo_add_114 (fun H locs h1 hu hL => ?_)
      have hS := hS.up hu (show moFr r r from ⟨by omega, by omega⟩)
      have hM : MoAt D ca H r (n + 1) t rs 0 B := mo_fld hM h1 hu
      refine lv_aload_n hx hb d_Mo_add_117 rfl (lv_at hl 0 rfl) ?_
      refine fg_Mo_65 hE hM.1 rfl d_Mo_add_118 ?_
      refine lv_iconst (v := nI 1) hx hb d_Mo_add_121 (by decide) ?_
      refine zz_isub (by omega) hx hb d_Mo_add_122 ?_
      have hf2 : f = 2 := by omega
      subst hf2
      have hadd : mAdd A B n := ⟨ho.1, fun g hg => ho.2.1 g (by omega), ho.2.2.2.1, fun j hj => ho.2.2.2.2.1 j (Or.inl hj), ho.2.2.2.2.2⟩
      exact zz_iret hx hb hr hlk rfl ⟨by rw [if_neg hT6]; simp, hS, by rw [if_neg hT6]; exact ⟨B, hM, hadd⟩⟩ hL d_Mo_add_123
    · have hs := okA.2.1 (24 + f) (by omega)
      refine lv_iconst (v := nI 2) hx hb d_Mo_add_19 (by decide) ?_
      refine lv_aload_n hx hb d_Mo_add_20 rfl (lv_at hl 0 rfl) ?_
      refine fg_Mo_65 hE hM.1 rfl d_Mo_add_21 ?_
      refine zz_imul hx hb d_Mo_add_24 ?_
      refine lv_iload_n hx hb d_Mo_add_25 rfl (lv_at hl 1 rfl) ?_
      refine zz_iadd hx hb d_Mo_add_26 ?_
      refine lv_istore_n hx hb d_Mo_add_27 rfl hl (by decide) rfl (fun ls hl => ?_)
      have hl : lv_has ls 4 [(2, .int (nI ((2 * n) + f))), (0, .ref r), (1, .int (nI f))] := hl
      refine lv_aload_n hx hb d_Mo_add_28 rfl (lv_at hl 1 rfl) ?_
      refine fg_Mo_13 hE hM.1 rfl d_Mo_add_29 ?_
      refine lv_iload_n hx hb d_Mo_add_32 rfl (lv_at hl 0 rfl) ?_
      refine lv_aload_n hx hb d_Mo_add_33 rfl (lv_at hl 1 rfl) ?_
      refine fg_Mo_13 hE hM.1 rfl d_Mo_add_34 ?_
      refine lv_bipush (v := nI 24) hx hb d_Mo_add_37 (by decide) ?_
      refine lv_iload_n hx hb d_Mo_add_39 rfl (lv_at hl 2 rfl) ?_
      refine zz_iadd hx hb d_Mo_add_40 ?_
      refine mo_ld hE hM 2 (by decide) (i := 24 + f) (show 24 + f < 26 by omega) d_Mo_add_41 ?_
      refine mo_st hE hM hS hL 2 (by decide) (i := (2 * n) + f) (x := Bo 2 (24 + f)) (show (2 * n) + f < 26 by omega) d_Mo_add_42 (fun H locs hM hS hL => ?_)
      refine lv_iconst (v := nI 0) hx hb d_Mo_add_43 (by decide) ?_
      refine lv_istore_n hx hb d_Mo_add_44 rfl hl (by decide) rfl (fun ls hl => ?_)
      have hl : lv_has ls 4 [(3, .int (nI 0)), (2, .int (nI ((2 * n) + f))), (0, .ref r), (1, .int (nI f))] := hl
      have hl : lv_has ls 4 [(0, .ref r), (1, .int (nI f)), (2, .int (nI (2 * n + f))), (3, .int (nI 0))] := lv_sub hl [2, 3, 1, 0] rfl
      refine zz_loopH (σ := Nat × (Nat → Nat → Nat)) (fun ⟨i, B⟩ ls H locs => lv_has ls 4 [(0, .ref r), (1, .int (nI f)), (2, .int (nI (2 * n + f))), (3, .int (nI i))] ∧ i ≤ A 2 (24 + f) ∧ MoAt D ca H r n t rs w B ∧ ((∀ k, k ≠ 1 → k ≠ 2 → B k = A k) ∧ (∀ j, j ≠ 2 * n + f → B 2 j = Bo 2 j) ∧ B 2 (2 * n + f) = A 2 (24 + f) ∧ (∀ u, u < i → B 1 (12 * (2 * n + f) + u) = A 1 (12 * (24 + f) + u)) ∧ (∀ j, (j < 12 * (2 * n + f) ∨ 12 * (2 * n + f) + 12 ≤ j) → B 1 j = Bo 1 j) ∧ mOk B) ∧ zz_fr (moFr r) s.heap H ∧ zz_L (moFr r) locs) (fun ⟨i, B⟩ => A 2 (24 + f) - i) ?_ (0, up2 Bo 2 (2 * n + f) (Bo 2 (24 + f))) ls _ _ ⟨hl, Nat.zero_le _, hM, add_first (by omega) (by omega) ho, hS, hL⟩
      rintro ⟨i, B⟩ ih ls H locs ⟨hl, hi, hM, hj, hS, hL⟩
      have hj3 : B 2 (2 * n + f) = A 2 (24 + f) := hj.2.2.1
      refine lv_iload_n hx hb d_Mo_add_45 rfl (lv_at hl 3 rfl) ?_
      refine lv_aload_n hx hb d_Mo_add_46 rfl (lv_at hl 0 rfl) ?_
      refine fg_Mo_13 hE hM.1 rfl d_Mo_add_47 ?_
      refine lv_iload_n hx hb d_Mo_add_50 rfl (lv_at hl 2 rfl) ?_
      refine mo_ld hE hM 2 (by decide) (i := 2 * n + f) (show 2 * n + f < 26 by omega) d_Mo_add_51 ?_
      refine zz_ge hx hb (by omega) (by omega) d_Mo_add_52 (tgt := 86) rfl (fun hT52 => ?_) (fun hF52 => ?_)
      · refine lv_aload_n hx hb d_Mo_add_86 rfl (lv_at hl 0 rfl) ?_
        refine fg_Mo_13 hE hM.1 rfl d_Mo_add_87 ?_
        refine lv_bipush (v := nI 24) hx hb d_Mo_add_90 (by decide) ?_
        refine lv_iload_n hx hb d_Mo_add_92 rfl (lv_at hl 1 rfl) ?_
        refine zz_iadd hx hb d_Mo_add_93 ?_
        refine lv_iconst (v := nI 0) hx hb d_Mo_add_94 (by decide) ?_
        refine mo_st hE hM hS hL 2 (by decide) (i := 24 + f) (x := 0) (show 24 + f < 26 by omega) d_Mo_add_95 (fun H locs hM hS hL => ?_)
        refine lv_iinc (k := 1) (v := nI (f + 1)) hx hb d_Mo_add_96 hl rfl (zz_inc _) (by decide) rfl (fun ls hl => ?_)
        have hl : lv_has ls 4 [(1, .int (nI (f + 1))), (0, .ref r), (2, .int (nI (2 * n + f))), (3, .int (nI i))] := hl
        refine lv_goto hx hb d_Mo_add_99 (tgt := 14) rfl ?_
        have ho9 := add_last (by omega) (by omega) (B := B) ho ⟨hj.1, hj.2.1, hj.2.2.1, fun u hu => hj.2.2.2.1 u (by omega), hj.2.2.2.2.1, hj.2.2.2.2.2⟩ hs okA.2.1
        have hl : lv_has ls 4 [(0, .ref r), (1, .int (nI (f + 1)))] := lv_sub hl [1, 0] rfl
        exact iho (f + 1, (up2 B 2 (24 + f) 0)) ls _ _ ⟨hl, by omega, hM, ho9, hS, hL⟩ (by show 2 - (f + 1) < 2 - f; omega)
      · have hx9 : B 1 (12 * (24 + f) + i) = A 1 (12 * (24 + f) + i) := by rw [hj.2.2.2.2.1 _ (by omega), ho.2.2.2.2.1 _ (by omega)]
        refine lv_aload_n hx hb d_Mo_add_55 rfl (lv_at hl 0 rfl) ?_
        refine fg_Mo_7 hE hM.1 rfl d_Mo_add_56 ?_
        refine lv_bipush (v := nI 12) hx hb d_Mo_add_59 (by decide) ?_
        refine lv_iload_n hx hb d_Mo_add_61 rfl (lv_at hl 2 rfl) ?_
        refine zz_imul hx hb d_Mo_add_62 ?_
        refine lv_iload_n hx hb d_Mo_add_63 rfl (lv_at hl 3 rfl) ?_
        refine zz_iadd hx hb d_Mo_add_64 ?_
        refine lv_aload_n hx hb d_Mo_add_65 rfl (lv_at hl 0 rfl) ?_
        refine fg_Mo_7 hE hM.1 rfl d_Mo_add_66 ?_
        refine lv_bipush (v := nI 12) hx hb d_Mo_add_69 (by decide) ?_
        refine lv_bipush (v := nI 24) hx hb d_Mo_add_71 (by decide) ?_
        refine lv_iload_n hx hb d_Mo_add_73 rfl (lv_at hl 1 rfl) ?_
        refine zz_iadd hx hb d_Mo_add_74 ?_
        refine zz_imul hx hb d_Mo_add_75 ?_
        refine lv_iload_n hx hb d_Mo_add_76 rfl (lv_at hl 3 rfl) ?_
        refine zz_iadd hx hb d_Mo_add_77 ?_
        refine mo_ld hE hM 1 (by decide) (i := (12 * (24 + f)) + i) (show (12 * (24 + f)) + i < 312 by omega) d_Mo_add_78 ?_
        refine mo_st hE hM hS hL 1 (by decide) (i := (12 * (2 * n + f)) + i) (x := B 1 ((12 * (24 + f)) + i)) (show (12 * (2 * n + f)) + i < 312 by omega) d_Mo_add_79 (fun H locs hM hS hL => ?_)
        refine lv_iinc (k := 3) (v := nI (i + 1)) hx hb d_Mo_add_80 hl rfl (zz_inc _) (by decide) rfl (fun ls hl => ?_)
        have hl : lv_has ls 4 [(3, .int (nI (i + 1))), (0, .ref r), (1, .int (nI f)), (2, .int (nI (2 * n + f)))] := hl
        refine lv_goto hx hb d_Mo_add_83 (tgt := 45) rfl ?_
        have hl : lv_has ls 4 [(0, .ref r), (1, .int (nI f)), (2, .int (nI (2 * n + f))), (3, .int (nI (i + 1)))] := lv_sub hl [1, 2, 3, 0] rfl
        exact ih (i + 1, (up2 B 1 ((12 * (2 * n + f)) + i) (B 1 ((12 * (24 + f)) + i)))) ls _ _ ⟨hl, by omega, hM, add_in (by omega) (by omega) (by omega) hj hx9 okA.1, hS, hL⟩ (by show A 2 (24 + f) - (i + 1) < A 2 (24 + f) - i; omega)
  · refine lv_bipush (v := (-2 : Int32)) hx hb d_Mo_add_9 (by decide) ?_
    exact zz_iret hx hb hr hlk rfl ⟨by rw [if_pos hF6], hS, by rw [if_pos hF6]; exact hM⟩ hL d_Mo_add_11
