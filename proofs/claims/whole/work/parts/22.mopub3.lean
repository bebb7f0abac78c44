def bStart (rs : Nat) (x : Int32) : Bool := decide (rs ≠ 0) && zisR 5 x && decide (x ≠ 0)
theorem mHo_c {A B : Nat → Nat → Nat} (h1 : B 1 = A 1) (h2 : B 2 = A 2) (h11 : B 11 = A 11) (h12 : B 12 = A 12) (h13 : B 13 = A 13) (h14 : B 14 = A 14) (rs j k : Nat) : mHo B rs j k = mHo A rs j k := by
  have hl : mLf B j k = mLf A j k := by
    funext i
    unfold mLf mTx
    rw [h1, h2, h11, h12, h13, h14]
  unfold mHo
  rw [hl, h11]
theorem up2_f {A : Nat → Nat → Nat} {k i x a : Nat} (h : a ≠ k) : up2 A k i x a = A a := by funext j; exact up2_k h
theorem mOk_up16 {A : Nat → Nat → Nat} {i x : Nat} (h : mOk A) : mOk (up2 A 16 i x) := by
  unfold mOk
  rw [up2_f (by decide), up2_f (by decide), up2_f (by decide), up2_f (by decide), up2_f (by decide)]
  exact h
theorem mRu_up16 {A : Nat → Nat → Nat} {i x rs : Nat} (h : mRu A rs) : mRu (up2 A 16 i x) rs := by
  unfold mRu
  rw [up2_f (by decide), up2_f (by decide), up2_f (by decide), up2_f (by decide)]
  exact h
theorem mHo_up16 {A : Nat → Nat → Nat} {i x : Nat} (rs j k : Nat) : mHo (up2 A 16 i x) rs j k = mHo A rs j k := mHo_c (up2_f (by decide)) (up2_f (by decide)) (up2_f (by decide)) (up2_f (by decide)) (up2_f (by decide)) (up2_f (by decide)) rs j k

set_option maxHeartbeats 4000000 in
set_option maxRecDepth 100000 in
theorem k_Mo_start (l : Launch) (D : va_G) (ca : Nat → ClassId) (r n t rs w : Nat) (A : Nat → Nat → Nat) (x : Int32) (hA : mAll A n rs w) : Met l y_Mo_start w_Mo_start (zr 1 0 0) (zz_P D ca [.ref r, .int x] (fun H => MoAt D ca H r n t rs w A)) (zz_Q (fun H H1 v => v = some (.int (aStart n rs x)) ∧ zz_fr (moFr r) H H1 ∧ ∃ B, MoAt D ca H1 r n t rs (if bStart rs x = true then cN x else w) B ∧ (bStart rs x = true → (∀ k, k ≠ 16 → B k = A k) ∧ ∀ v, v < 4 → B 16 v = 0) ∧ (bStart rs x = false → B = A))) 0 0 (moFr r) := by
  refine zz_met (cc := c_Mo_start) (by decide) (Nat.le_of_ble_eq_true rfl) ?_
  intro p e s m below meth c ls hE hr hlk hnm hM hl
  have hx := hE.1.1
  have hb := hE.1.2.1
  have hK := hE.2
  have hl : lv_has ls 3 [(0, .ref r), (1, .int x)] := hl
  have hL : zz_L (moFr r) ([] : List Loc) := zz_L.nil
  have hS : zz_fr (moFr r) s.heap s.heap := zz_fr.rf
  obtain ⟨okA, hn, hw4, hRu, hwr, hdd, hkp⟩ := hA
  have hrs24 := hRu.1
  refine lv_aload_n hx hb d_Mo_start_0 rfl (lv_at hl 0 rfl) ?_
  refine fg_Mo_130 hE hM.1 rfl d_Mo_start_1 ?_
  refine zz_ne0 hx hb (by omega) d_Mo_start_4 (tgt := 10) rfl (fun hT4 => ?_) (fun hF4 => ?_)
  · refine lv_iload_n hx hb d_Mo_start_10 rfl (lv_at hl 1 rfl) ?_
    refine lv_iconst (v := nI 1) hx hb d_Mo_start_11 (by decide) ?_
    refine lv_icmp_lt hx hb d_Mo_start_12 (tgt := 20) rfl (fun hT12 => ?_) (fun hF12 => ?_)
    · refine lv_iconst (v := (-1 : Int32)) hx hb d_Mo_start_20 (by decide) ?_
      have hval : aStart n rs x = (-1 : Int32) := by
          unfold aStart
          rw [if_neg (by omega), if_neg (zz_st4n (Or.inl hT12))]
      have hb9 : bStart rs x = false := by
          have h9 := zz_st4n (Or.inl hT12)
          simp only [bStart]
          cases hz : zisR 5 x
          · simp
          · rw [decide_eq_false (show ¬ x ≠ 0 from fun hh => h9 ⟨hz, hh⟩)]; simp
      exact zz_iret hx hb hr hlk rfl ⟨by rw [hval], hS, A, by rw [hb9]; exact hM, (fun h => by rw [hb9] at h; cases h), fun _ => rfl⟩ hL d_Mo_start_21
    · refine lv_iload_n hx hb d_Mo_start_15 rfl (lv_at hl 1 rfl) ?_
      refine lv_iconst (v := nI 4) hx hb d_Mo_start_16 (by decide) ?_
      refine lv_icmp_le hx hb d_Mo_start_17 (tgt := 22) rfl (fun hT17 => ?_) (fun hF17 => ?_)
      · obtain ⟨x0, hx1, hx4, rfl⟩ := zz_st4 hF12 hT17
        have cx : cN (nI x0) = x0 := nI_clamp (by omega)
        have hz5 : zisR 5 (nI x0) = true := zisR_nI (by omega) (by decide)
        have hne : nI x0 ≠ 0 := nI_ne0 (by omega) (by omega)
        refine lv_aload_n hx hb d_Mo_start_22 rfl (lv_at hl 0 rfl) ?_
        refine lv_iload_n hx hb d_Mo_start_23 rfl (lv_at hl 1 rfl) ?_
        refine fp_Mo_73 hE hM.1 hL (show moFr r r from ⟨by omega, by omega⟩) (Nat.le_of_ble_eq_true rfl) d_Mo_start_24 (fun H locs h1 hu hL => ?_)
        have hS := hS.up hu (show moFr r r from ⟨by omega, by omega⟩)
        have hM : MoAt D ca H r n t rs x0 A := mo_fld hM h1 hu
        refine lv_iconst (v := nI 0) hx hb d_Mo_start_27 (by decide) ?_
        refine lv_istore_n hx hb d_Mo_start_28 rfl hl (by decide) rfl (fun ls hl => ?_)
        have hl : lv_has ls 3 [(2, .int (nI 0)), (0, .ref r), (1, .int (nI x0))] := hl
        have hl : lv_has ls 3 [(0, .ref r), (1, .int (nI x0)), (2, .int (nI 0))] := lv_sub hl [1, 2, 0] rfl
        refine zz_loopH (σ := Nat × (Nat → Nat → Nat)) (fun ⟨v, B⟩ ls H locs => lv_has ls 3 [(0, .ref r), (1, .int (nI x0)), (2, .int (nI v))] ∧ v ≤ 4 ∧ MoAt D ca H r n t rs x0 B ∧ (∀ k, k ≠ 16 → B k = A k) ∧ (∀ u, u < v → B 16 u = 0) ∧ zz_fr (moFr r) s.heap H ∧ zz_L (moFr r) locs) (fun ⟨v, B⟩ => 4 - v) ?_ (0, A) ls _ _ ⟨hl, Nat.zero_le _, hM, fun _ _ => rfl, fun u h => absurd h (Nat.not_lt_zero _), hS, hL⟩
        rintro ⟨v, B⟩ ih ls H locs ⟨hl, hv4, hM, hk16, h0, hS, hL⟩
        refine lv_iload_n hx hb d_Mo_start_29 rfl (lv_at hl 2 rfl) ?_
        refine lv_iconst (v := nI 4) hx hb d_Mo_start_30 (by decide) ?_
        refine zz_ge hx hb (by omega) (by omega) d_Mo_start_31 (tgt := 47) rfl (fun hT31 => ?_) (fun hF31 => ?_)
        · refine lv_aload_n hx hb d_Mo_start_47 rfl (lv_at hl 0 rfl) ?_
          refine fg_Mo_65 hE hM.1 rfl d_Mo_start_48 ?_
          have hval : aStart n rs (nI x0) = nI n := by
              unfold aStart
              rw [if_neg (by omega), if_pos ⟨hz5, hne⟩]
          have hb9 : bStart rs (nI x0) = true := by simp only [bStart, hz5, decide_eq_true hne, decide_eq_true (show rs ≠ 0 by omega)]; rfl
          exact zz_iret hx hb hr hlk rfl ⟨by rw [hval], hS, B, by rw [hb9, if_pos rfl, cx]; exact hM, fun _ => ⟨hk16, fun v hv => h0 v (by omega)⟩, (fun h => by rw [hb9] at h; cases h)⟩ hL d_Mo_start_51
        · refine lv_aload_n hx hb d_Mo_start_34 rfl (lv_at hl 0 rfl) ?_
          refine fg_Mo_56 hE hM.1 rfl d_Mo_start_35 ?_
          refine lv_iload_n hx hb d_Mo_start_38 rfl (lv_at hl 2 rfl) ?_
          refine lv_iconst (v := nI 0) hx hb d_Mo_start_39 (by decide) ?_
          refine mo_st hE hM hS hL 16 (by decide) (i := v) (x := 0) (show v < 4 by omega) d_Mo_start_40 (fun H locs hM hS hL => ?_)
          refine lv_iinc (k := 2) (v := nI (v + 1)) hx hb d_Mo_start_41 hl rfl (zz_inc _) (by decide) rfl (fun ls hl => ?_)
          have hl : lv_has ls 3 [(2, .int (nI (v + 1))), (0, .ref r), (1, .int (nI x0))] := hl
          refine lv_goto hx hb d_Mo_start_44 (tgt := 29) rfl ?_
          have hl : lv_has ls 3 [(0, .ref r), (1, .int (nI x0)), (2, .int (nI (v + 1)))] := lv_sub hl [1, 2, 0] rfl
          exact ih (v + 1, (up2 B 16 v 0)) ls _ _ ⟨hl, by omega, hM, (fun k h16 => by funext j; rw [up2_k h16, hk16 k h16]), (fun u hu => by
              by_cases huv : u = v
              · subst huv; exact up2_s
              · rw [up2_i huv]; exact h0 u (by omega)), hS, hL⟩ (by show 4 - (v + 1) < 4 - v; omega)
      · refine lv_iconst (v := (-1 : Int32)) hx hb d_Mo_start_20 (by decide) ?_
        have hval : aStart n rs x = (-1 : Int32) := by
            unfold aStart
            rw [if_neg (by omega), if_neg (zz_st4n (Or.inr hF17))]
        have hb9 : bStart rs x = false := by
            have h9 := zz_st4n (Or.inr hF17)
            simp only [bStart]
            cases hz : zisR 5 x
            · simp
            · rw [decide_eq_false (show ¬ x ≠ 0 from fun hh => h9 ⟨hz, hh⟩)]; simp
        exact zz_iret hx hb hr hlk rfl ⟨by rw [hval], hS, A, by rw [hb9]; exact hM, (fun h => by rw [hb9] at h; cases h), fun _ => rfl⟩ hL d_Mo_start_21
  · refine lv_bipush (v := (-4 : Int32)) hx hb d_Mo_start_7 (by decide) ?_
    have hval : aStart n rs x = (-4 : Int32) := by
        unfold aStart
        rw [if_pos (by omega)]
    have hb9 : bStart rs x = false := by
        simp [bStart, hF4]
    exact zz_iret hx hb hr hlk rfl ⟨by rw [hval], hS, A, by rw [hb9]; exact hM, (fun h => by rw [hb9] at h; cases h), fun _ => rfl⟩ hL d_Mo_start_9

set_option maxHeartbeats 4000000 in
set_option maxRecDepth 100000 in
theorem k_Mo_work (l : Launch) (D : va_G) (ca : Nat → ClassId) (r n t rs w : Nat) (A : Nat → Nat → Nat) (x : Int32) (hA : mAll A n rs w) (hdt : ∀ v, v < w → A 16 v ≤ mTk n w v) : Met l y_Mo_work w_Mo_work (zr 7 0 0) (zz_P D ca [.ref r, .int x] (fun H => MoAt D ca H r n t rs w A)) (zz_Q (fun H H1 v => v = some (.int (aWork n w (A 16) (mHo A rs) x)) ∧ zz_fr (moFr r) H H1 ∧ ∃ B, MoAt D ca H1 r n t rs w B ∧ mS (if bWork n w (A 16) x = true then up2 A 16 (cN x) (A 16 (cN x) + 1) else A) B)) 0 0 (moFr r) := by
  refine zz_met (cc := c_Mo_work) (by decide) (Nat.le_of_ble_eq_true rfl) ?_
  intro p e s m below meth c ls hE hr hlk hnm hM hl
  have hx := hE.1.1
  have hb := hE.1.2.1
  have hK := hE.2
  have hl : lv_has ls 6 [(0, .ref r), (1, .int x)] := hl
  have hL : zz_L (moFr r) ([] : List Loc) := zz_L.nil
  have hS : zz_fr (moFr r) s.heap s.heap := zz_fr.rf
  obtain ⟨okA, hn, hw4, hRu, hwr, hdd, hkp⟩ := hA
  have hrs24 := hRu.1
  refine lv_aload_n hx hb d_Mo_work_0 rfl (lv_at hl 0 rfl) ?_
  refine fg_Mo_73 hE hM.1 rfl d_Mo_work_1 ?_
  refine zz_ne0 hx hb (by omega) d_Mo_work_4 (tgt := 10) rfl (fun hT4 => ?_) (fun hF4 => ?_)
  · have hw : 0 < w := by omega
    have hrs := hwr hw
    refine lv_aload_n hx hb d_Mo_work_10 rfl (lv_at hl 0 rfl) ?_
    refine lv_iload_n hx hb d_Mo_work_11 rfl (lv_at hl 1 rfl) ?_
    refine zz_callP (cl_Mo_146 (rest := []) hE (k_Mo_isWorker l D ca r n t rs w A x) ⟨rfl, rfl, by decide, by decide⟩ hM hM.1 rfl hl.1 rfl (Nat.le_of_ble_eq_true rfl) d_Mo_work_12 ⟨by decide, by decide⟩) ?_
    refine zz_neB hx hb d_Mo_work_15 (tgt := 20) rfl (fun hT15 => ?_) (fun hF15 => ?_)
    · have hx15 := hT15
      obtain ⟨x0, hx0, rfl⟩ := zisR_nat hT15 (by omega)
      have cx : cN (nI x0) = x0 := nI_clamp (by omega)
      have hd0 := hdd x0 (by omega)
      have hd1 := hdt x0 (by omega)
      have htk : mTk n w x0 ≤ n := zcnt_le _ _
      refine lv_aload_n hx hb d_Mo_work_20 rfl (lv_at hl 0 rfl) ?_
      refine fg_Mo_56 hE hM.1 rfl d_Mo_work_21 ?_
      refine lv_iload_n hx hb d_Mo_work_24 rfl (lv_at hl 1 rfl) ?_
      refine mo_ld hE hM 16 (by decide) (i := x0) (show x0 < 4 by omega) d_Mo_work_25 ?_
      refine lv_aload_n hx hb d_Mo_work_26 rfl (lv_at hl 0 rfl) ?_
      refine lv_iload_n hx hb d_Mo_work_27 rfl (lv_at hl 1 rfl) ?_
      refine zz_callP (cl_Mo_143 (rest := [.int (nI (A 16 x0))]) hE (k_Mo_tasksOf l D ca r n t rs w A x0 hn hw hw4 (by omega)) ⟨rfl, rfl, by decide, by decide⟩ hM hM.1 rfl hl.1 rfl (Nat.le_of_ble_eq_true rfl) d_Mo_work_28 ⟨by decide, by decide⟩) ?_
      refine zz_ne hx hb (by omega) (by omega) d_Mo_work_31 (tgt := 37) rfl (fun hT31 => ?_) (fun hF31 => ?_)
      · have hrn := mTk_lt hw hw4 hx0 (show A 16 x0 < mTk n w x0 by omega)
        obtain ⟨r1, hr1⟩ : ∃ z, z = x0 + A 16 x0 * w := ⟨_, rfl⟩
        rw [← hr1] at hrn
        refine lv_iload_n hx hb d_Mo_work_37 rfl (lv_at hl 1 rfl) ?_
        refine lv_aload_n hx hb d_Mo_work_38 rfl (lv_at hl 0 rfl) ?_
        refine fg_Mo_56 hE hM.1 rfl d_Mo_work_39 ?_
        refine lv_iload_n hx hb d_Mo_work_42 rfl (lv_at hl 1 rfl) ?_
        refine mo_ld hE hM 16 (by decide) (i := x0) (show x0 < 4 by omega) d_Mo_work_43 ?_
        refine lv_aload_n hx hb d_Mo_work_44 rfl (lv_at hl 0 rfl) ?_
        refine fg_Mo_73 hE hM.1 rfl d_Mo_work_45 ?_
        refine zz_imul hx hb d_Mo_work_48 ?_
        refine zz_iadd hx hb d_Mo_work_49 ?_
        refine zz_top (y := nI r1) (by rw [hr1]) ?_
        refine lv_istore_n hx hb d_Mo_work_50 rfl hl (by decide) rfl (fun ls hl => ?_)
        have hl : lv_has ls 6 [(2, .int (nI r1)), (0, .ref r), (1, .int (nI x0))] := hl
        refine lv_aload_n hx hb d_Mo_work_51 rfl (lv_at hl 1 rfl) ?_
        refine fg_Mo_56 hE hM.1 rfl d_Mo_work_52 ?_
        refine lv_iload_n hx hb d_Mo_work_55 rfl (lv_at hl 2 rfl) ?_
        refine lv_dup2_11 hx hb d_Mo_work_56 rfl rfl ?_
        refine mo_ld hE hM 16 (by decide) (i := x0) (show x0 < 4 by omega) d_Mo_work_57 ?_
        refine lv_iconst (v := nI 1) hx hb d_Mo_work_58 (by decide) ?_
        refine zz_iadd hx hb d_Mo_work_59 ?_
        refine mo_st hE hM hS hL 16 (by decide) (i := x0) (x := (A 16 x0) + 1) (show x0 < 4 by omega) d_Mo_work_60 (fun H locs hM hS hL => ?_)
        refine lv_iconst (v := nI 0) hx hb d_Mo_work_61 (by decide) ?_
        refine lv_istore_n hx hb d_Mo_work_62 rfl hl (by decide) rfl (fun ls hl => ?_)
        have hl : lv_has ls 6 [(3, .int (nI 0)), (2, .int (nI r1)), (0, .ref r), (1, .int (nI x0))] := hl
        refine lv_iconst (v := nI 0) hx hb d_Mo_work_63 (by decide) ?_
        refine lv_istore hx hb d_Mo_work_64 hl (by decide) rfl (fun ls hl => ?_)
        have hl : lv_has ls 6 [(4, .int (nI 0)), (3, .int (nI 0)), (2, .int (nI r1)), (0, .ref r), (1, .int (nI x0))] := hl
        have hl : lv_has ls 6 [(0, .ref r), (1, .int (nI x0)), (2, .int (nI r1)), (3, .int (nI 0)), (4, .int (nI 0))] := lv_sub hl [3, 4, 2, 1, 0] rfl
        refine zz_loopH (σ := Nat × (Nat → Nat → Nat)) (fun ⟨q, B⟩ ls H locs => lv_has ls 6 [(0, .ref r), (1, .int (nI x0)), (2, .int (nI r1)), (3, .int (nI (zcnt (fun q => mHo A rs q r1) q))), (4, .int (nI q))] ∧ q ≤ r1 ∧ MoAt D ca H r n t rs w B ∧ mS (up2 A 16 x0 (A 16 x0 + 1)) B ∧ zz_fr (moFr r) s.heap H ∧ zz_L (moFr r) locs) (fun ⟨q, B⟩ => r1 - q) ?_ (0, (up2 A 16 x0 (A 16 x0 + 1))) ls _ _ ⟨hl, Nat.zero_le _, hM, mS.rf (mOk_up16 okA), hS, hL⟩
        rintro ⟨q, B⟩ ih ls H locs ⟨hl, hq, hM, hms, hS, hL⟩
        refine lv_iload hx hb d_Mo_work_66 (lv_at hl 4 rfl) ?_
        refine lv_iload_n hx hb d_Mo_work_68 rfl (lv_at hl 2 rfl) ?_
        refine zz_ge hx hb (by omega) (by omega) d_Mo_work_69 (tgt := 100) rfl (fun hT69 => ?_) (fun hF69 => ?_)
        · refine lv_iload_n hx hb d_Mo_work_100 rfl (lv_at hl 3 rfl) ?_
          have hval : aWork n w (A 16) (mHo A rs) (nI x0) = nI (zcnt (fun q => mHo A rs q r1) q) := by
              unfold aWork
              rw [if_neg (by omega), if_neg (by simp [hx15]), cx, if_neg hT31, ← hr1, show q = r1 by omega]
          have hb9 : bWork n w (A 16) (nI x0) = true := by simp only [bWork, cx, hx15, decide_eq_true hT31, decide_eq_true (show w ≠ 0 by omega)]; rfl
          exact zz_iret hx hb hr hlk rfl ⟨by rw [hval], hS, B, hM, by rw [hb9, if_pos rfl, cx]; exact hms⟩ hL d_Mo_work_101
        · refine lv_aload_n hx hb d_Mo_work_72 rfl (lv_at hl 0 rfl) ?_
          refine lv_iload hx hb d_Mo_work_73 (lv_at hl 4 rfl) ?_
          refine lv_iload_n hx hb d_Mo_work_75 rfl (lv_at hl 2 rfl) ?_
          refine zz_callI (cl_Mo_140 (rest := []) hE (k_Mo_holds l D ca r n t rs w B q r1 (by omega) (by omega) hms.1 hrs (hms.s8.ru (mRu_up16 hRu))) ⟨rfl, rfl, by decide, by decide⟩ hM hM.1 rfl hl.1 rfl (Nat.le_of_ble_eq_true rfl) d_Mo_work_76 ⟨by decide, by decide⟩) hL (fun _ h => h) (fun H locs hpost hL => ?_)
          obtain ⟨hfr1, B1, hM, hms1⟩ := hpost
          have hS := hS.tr hfr1
          have hms9 := hms.tr hms1
          have hhe : mHo B rs q r1 = mHo A rs q r1 := by rw [mHo_eq hms, mHo_up16]
          refine lv_istore hx hb d_Mo_work_79 hl (by decide) rfl (fun ls hl => ?_)
          have hl : lv_has ls 6 [(5, .int (nI (mHo B rs q r1).toNat)), (0, .ref r), (1, .int (nI x0)), (2, .int (nI r1)), (3, .int (nI (zcnt (fun q => mHo A rs q r1) q))), (4, .int (nI q))] := hl
          refine lv_iload_n hx hb d_Mo_work_81 rfl (lv_at hl 4 rfl) ?_
          refine lv_iload hx hb d_Mo_work_82 (lv_at hl 0 rfl) ?_
          refine zz_eqB hx hb d_Mo_work_84 (tgt := 91) rfl (fun hT84 => ?_) (fun hF84 => ?_)
          · refine lv_iconst (v := nI 0) hx hb d_Mo_work_91 (by decide) ?_
            refine zz_iadd hx hb d_Mo_work_92 ?_
            refine lv_istore_n hx hb d_Mo_work_93 rfl hl (by decide) rfl (fun ls hl => ?_)
            have hl : lv_has ls 6 [(3, .int (nI ((zcnt (fun q => mHo A rs q r1) q) + 0))), (5, .int (nI (mHo B rs q r1).toNat)), (0, .ref r), (1, .int (nI x0)), (2, .int (nI r1)), (4, .int (nI q))] := hl
            refine lv_iinc (k := 5) (v := nI (q + 1)) hx hb d_Mo_work_94 hl rfl (zz_inc _) (by decide) rfl (fun ls hl => ?_)
            have hl : lv_has ls 6 [(4, .int (nI (q + 1))), (3, .int (nI ((zcnt (fun q => mHo A rs q r1) q) + 0))), (5, .int (nI (mHo B rs q r1).toNat)), (0, .ref r), (1, .int (nI x0)), (2, .int (nI r1))] := hl
            refine lv_goto hx hb d_Mo_work_97 (tgt := 66) rfl ?_
            have hl : lv_has ls 6 [(0, .ref r), (1, .int (nI x0)), (2, .int (nI r1)), (3, .int (nI (zcnt (fun q => mHo A rs q r1) (q + 1)))), (4, .int (nI (q + 1)))] := (by rw [show zcnt (fun q => mHo A rs q r1) (q + 1) = zcnt (fun q => mHo A rs q r1) q + 0 from by rw [show zcnt (fun q => mHo A rs q r1) (q + 1) = zcnt (fun q => mHo A rs q r1) q + (mHo A rs q r1).toNat from rfl, ← hhe, hT84]; rfl]; exact lv_sub hl [3, 4, 5, 1, 0] rfl)
            exact ih (q + 1, B1) ls _ _ ⟨hl, by omega, hM, hms9, hS, hL⟩ (by show r1 - (q + 1) < r1 - q; omega)
          · refine lv_iconst (v := nI 1) hx hb d_Mo_work_87 (by decide) ?_
            refine lv_goto hx hb d_Mo_work_88 (tgt := 92) rfl ?_
            refine zz_iadd hx hb d_Mo_work_92 ?_
            refine lv_istore_n hx hb d_Mo_work_93 rfl hl (by decide) rfl (fun ls hl => ?_)
            have hl : lv_has ls 6 [(3, .int (nI ((zcnt (fun q => mHo A rs q r1) q) + 1))), (5, .int (nI (mHo B rs q r1).toNat)), (0, .ref r), (1, .int (nI x0)), (2, .int (nI r1)), (4, .int (nI q))] := hl
            refine lv_iinc (k := 5) (v := nI (q + 1)) hx hb d_Mo_work_94 hl rfl (zz_inc _) (by decide) rfl (fun ls hl => ?_)
            have hl : lv_has ls 6 [(4, .int (nI (q + 1))), (3, .int (nI ((zcnt (fun q => mHo A rs q r1) q) + 1))), (5, .int (nI (mHo B rs q r1).toNat)), (0, .ref r), (1, .int (nI x0)), (2, .int (nI r1))] := hl
            refine lv_goto hx hb d_Mo_work_97 (tgt := 66) rfl ?_
            have hl : lv_has ls 6 [(0, .ref r), (1, .int (nI x0)), (2, .int (nI r1)), (3, .int (nI (zcnt (fun q => mHo A rs q r1) (q + 1)))), (4, .int (nI (q + 1)))] := (by rw [show zcnt (fun q => mHo A rs q r1) (q + 1) = zcnt (fun q => mHo A rs q r1) q + 1 from by rw [show zcnt (fun q => mHo A rs q r1) (q + 1) = zcnt (fun q => mHo A rs q r1) q + (mHo A rs q r1).toNat from rfl, ← hhe, hF84]; rfl]; exact lv_sub hl [3, 4, 5, 1, 0] rfl)
            exact ih (q + 1, B1) ls _ _ ⟨hl, by omega, hM, hms9, hS, hL⟩ (by show r1 - (q + 1) < r1 - q; omega)
      · refine lv_bipush (v := (-5 : Int32)) hx hb d_Mo_work_34 (by decide) ?_
        have hval : aWork n w (A 16) (mHo A rs) (nI x0) = (-5 : Int32) := by
            unfold aWork
            rw [if_neg (by omega), if_neg (by simp [hx15]), cx, if_pos hF31]
        have hb9 : bWork n w (A 16) (nI x0) = false := by simp only [bWork, cx, hF31]; simp
        exact zz_iret hx hb hr hlk rfl ⟨by rw [hval], hS, A, hM, by rw [hb9]; exact mS.rf okA⟩ hL d_Mo_work_36
    · refine lv_iconst (v := (-1 : Int32)) hx hb d_Mo_work_18 (by decide) ?_
      have hval : aWork n w (A 16) (mHo A rs) x = (-1 : Int32) := by
          unfold aWork
          rw [if_neg (by omega), if_pos hF15]
      have hb9 : bWork n w (A 16) x = false := by simp [bWork, hF15]
      exact zz_iret hx hb hr hlk rfl ⟨by rw [hval], hS, A, hM, by rw [hb9]; exact mS.rf okA⟩ hL d_Mo_work_19
  · refine lv_bipush (v := (-4 : Int32)) hx hb d_Mo_work_7 (by decide) ?_
    have hval : aWork n w (A 16) (mHo A rs) x = (-4 : Int32) := by
        unfold aWork
        rw [if_pos (by omega)]
    have hb9 : bWork n w (A 16) x = false := by simp [bWork, hF4]
    exact zz_iret hx hb hr hlk rfl ⟨by rw [hval], hS, A, hM, by rw [hb9]; exact mS.rf okA⟩ hL d_Mo_work_9

set_option maxHeartbeats 4000000 in
set_option maxRecDepth 100000 in
theorem k_Mo_pairs (l : Launch) (D : va_G) (ca : Nat → ClassId) (r n t rs w : Nat) (A : Nat → Nat → Nat) (hA : mAll A n rs w) : Met l y_Mo_pairs w_Mo_pairs (zr 7 0 0) (zz_P D ca [.ref r] (fun H => MoAt D ca H r n t rs w A)) (zz_Q (fun H H1 v => v = some (.int (aPairs n w (mFd A w rs))) ∧ zz_fr (moFr r) H H1 ∧ ∃ B, MoAt D ca H1 r n t rs w B ∧ mS A B)) 0 0 (moFr r) := by
  refine zz_met (cc := c_Mo_pairs) (by decide) (Nat.le_of_ble_eq_true rfl) ?_
  intro p e s m below meth c ls hE hr hlk hnm hM hl
  have hx := hE.1.1
  have hb := hE.1.2.1
  have hK := hE.2
  have hl : lv_has ls 5 [(0, .ref r)] := hl
  have hL : zz_L (moFr r) ([] : List Loc) := zz_L.nil
  have hS : zz_fr (moFr r) s.heap s.heap := zz_fr.rf
  obtain ⟨okA, hn, hw4, hRu, hwr, hdd, hkp⟩ := hA
  have hrs24 := hRu.1
  refine lv_aload_n hx hb d_Mo_pairs_0 rfl (lv_at hl 0 rfl) ?_
  refine fg_Mo_73 hE hM.1 rfl d_Mo_pairs_1 ?_
  refine zz_ne0 hx hb (by omega) d_Mo_pairs_4 (tgt := 10) rfl (fun hT4 => ?_) (fun hF4 => ?_)
  · have hw : 0 < w := by omega
    have hrs := hwr hw
    refine lv_iconst (v := nI 0) hx hb d_Mo_pairs_10 (by decide) ?_
    refine lv_istore_n hx hb d_Mo_pairs_11 rfl hl (by decide) rfl (fun ls hl => ?_)
    have hl : lv_has ls 5 [(1, .int (nI 0)), (0, .ref r)] := hl
    refine lv_iconst (v := nI 0) hx hb d_Mo_pairs_12 (by decide) ?_
    refine lv_istore_n hx hb d_Mo_pairs_13 rfl hl (by decide) rfl (fun ls hl => ?_)
    have hl : lv_has ls 5 [(2, .int (nI 0)), (1, .int (nI 0)), (0, .ref r)] := hl
    have hl : lv_has ls 5 [(0, .ref r), (1, .int (nI 0)), (2, .int (nI 0))] := lv_sub hl [2, 1, 0] rfl
    refine zz_loopH (σ := Nat × (Nat → Nat → Nat)) (fun ⟨r0, B⟩ ls H locs => lv_has ls 5 [(0, .ref r), (1, .int (nI (zpairs (mFd A w rs) r0))), (2, .int (nI r0))] ∧ r0 ≤ n ∧ MoAt D ca H r n t rs w B ∧ mS A B ∧ zz_fr (moFr r) s.heap H ∧ zz_L (moFr r) locs) (fun ⟨r0, B⟩ => n - r0) ?_ (0, A) ls _ _ ⟨hl, Nat.zero_le _, hM, mS.rf okA, hS, hL⟩
    rintro ⟨r0, B⟩ ih ls H locs ⟨hl, hr0, hM, hms, hS, hL⟩
    have iho := ih
    refine lv_iload_n hx hb d_Mo_pairs_14 rfl (lv_at hl 2 rfl) ?_
    refine lv_aload_n hx hb d_Mo_pairs_15 rfl (lv_at hl 0 rfl) ?_
    refine fg_Mo_65 hE hM.1 rfl d_Mo_pairs_16 ?_
    refine zz_ge hx hb (by omega) (by omega) d_Mo_pairs_19 (tgt := 62) rfl (fun hT19 => ?_) (fun hF19 => ?_)
    · refine lv_iload_n hx hb d_Mo_pairs_62 rfl (lv_at hl 1 rfl) ?_
      exact zz_iret hx hb hr hlk rfl ⟨by unfold aPairs; rw [if_neg (by omega), show r0 = n by omega], hS, B, hM, hms⟩ hL d_Mo_pairs_63
    · refine lv_iconst (v := nI 0) hx hb d_Mo_pairs_22 (by decide) ?_
      refine lv_istore_n hx hb d_Mo_pairs_23 rfl hl (by decide) rfl (fun ls hl => ?_)
      have hl : lv_has ls 5 [(3, .int (nI 0)), (0, .ref r), (1, .int (nI (zpairs (mFd A w rs) r0))), (2, .int (nI r0))] := hl
      have hl : lv_has ls 5 [(0, .ref r), (1, .int (nI (zpairs (mFd A w rs) r0))), (2, .int (nI r0)), (3, .int (nI 0))] := lv_sub hl [1, 2, 3, 0] rfl
      refine zz_loopH (σ := Nat × (Nat → Nat → Nat)) (fun ⟨q, B⟩ ls H locs => lv_has ls 5 [(0, .ref r), (1, .int (nI (zpairs (mFd A w rs) r0 + zcnt (fun q => mFd A w rs q r0) q))), (2, .int (nI r0)), (3, .int (nI q))] ∧ q ≤ r0 ∧ MoAt D ca H r n t rs w B ∧ mS A B ∧ zz_fr (moFr r) s.heap H ∧ zz_L (moFr r) locs) (fun ⟨q, B⟩ => r0 - q) ?_ (0, B) ls _ _ ⟨hl, Nat.zero_le _, hM, hms, hS, hL⟩
      rintro ⟨q, B⟩ ih ls H locs ⟨hl, hq, hM, hms, hS, hL⟩
      refine lv_iload_n hx hb d_Mo_pairs_24 rfl (lv_at hl 3 rfl) ?_
      refine lv_iload_n hx hb d_Mo_pairs_25 rfl (lv_at hl 2 rfl) ?_
      refine zz_ge hx hb (by omega) (by omega) d_Mo_pairs_26 (tgt := 56) rfl (fun hT26 => ?_) (fun hF26 => ?_)
      · refine lv_iinc (k := 2) (v := nI (r0 + 1)) hx hb d_Mo_pairs_56 hl rfl (zz_inc _) (by decide) rfl (fun ls hl => ?_)
        have hl : lv_has ls 5 [(2, .int (nI (r0 + 1))), (0, .ref r), (1, .int (nI (zpairs (mFd A w rs) r0 + zcnt (fun q => mFd A w rs q r0) q))), (3, .int (nI q))] := hl
        refine lv_goto hx hb d_Mo_pairs_59 (tgt := 14) rfl ?_
        have hz9 : zpairs (mFd A w rs) (r0 + 1) = zpairs (mFd A w rs) r0 + zcnt (fun q => mFd A w rs q r0) q := by rw [show q = r0 by omega]; rfl
        have hl : lv_has ls 5 [(0, .ref r), (1, .int (nI (zpairs (mFd A w rs) (r0 + 1)))), (2, .int (nI (r0 + 1)))] := (by rw [hz9]; exact lv_sub hl [1, 2, 0] rfl)
        exact iho (r0 + 1, B) ls _ _ ⟨hl, by omega, hM, hms, hS, hL⟩ (by show n - (r0 + 1) < n - r0; omega)
      · refine lv_aload_n hx hb d_Mo_pairs_29 rfl (lv_at hl 0 rfl) ?_
        refine lv_iload_n hx hb d_Mo_pairs_30 rfl (lv_at hl 3 rfl) ?_
        refine lv_iload_n hx hb d_Mo_pairs_31 rfl (lv_at hl 2 rfl) ?_
        refine zz_callI (cl_Mo_152 (rest := []) hE (k_Mo_isFound l D ca r n t rs w B q r0 (by omega) (by omega) hms.1 hrs (hms.s8.ru hRu) hw hw4 (hms.s8.dd hdd)) ⟨rfl, rfl, by decide, by decide⟩ hM hM.1 rfl hl.1 rfl (Nat.le_of_ble_eq_true rfl) d_Mo_pairs_32 ⟨by decide, by decide⟩) hL (fun _ h => h) (fun H locs hpost hL => ?_)
        obtain ⟨hfr1, B1, hM, hms1⟩ := hpost
        have hS := hS.tr hfr1
        have hms9 := hms.tr hms1
        have hfe : mFd B w rs q r0 = mFd A w rs q r0 := mFd_eq hms w rs q r0
        refine lv_istore hx hb d_Mo_pairs_35 hl (by decide) rfl (fun ls hl => ?_)
        have hl : lv_has ls 5 [(4, .int (nI (mFd B w rs q r0).toNat)), (0, .ref r), (1, .int (nI (zpairs (mFd A w rs) r0 + zcnt (fun q => mFd A w rs q r0) q))), (2, .int (nI r0)), (3, .int (nI q))] := hl
        refine lv_iload_n hx hb d_Mo_pairs_37 rfl (lv_at hl 2 rfl) ?_
        refine lv_iload hx hb d_Mo_pairs_38 (lv_at hl 0 rfl) ?_
        refine zz_eqB hx hb d_Mo_pairs_40 (tgt := 47) rfl (fun hT40 => ?_) (fun hF40 => ?_)
        · refine lv_iconst (v := nI 0) hx hb d_Mo_pairs_47 (by decide) ?_
          refine zz_iadd hx hb d_Mo_pairs_48 ?_
          refine lv_istore_n hx hb d_Mo_pairs_49 rfl hl (by decide) rfl (fun ls hl => ?_)
          have hl : lv_has ls 5 [(1, .int (nI ((zpairs (mFd A w rs) r0 + zcnt (fun q => mFd A w rs q r0) q) + 0))), (4, .int (nI (mFd B w rs q r0).toNat)), (0, .ref r), (2, .int (nI r0)), (3, .int (nI q))] := hl
          refine lv_iinc (k := 4) (v := nI (q + 1)) hx hb d_Mo_pairs_50 hl rfl (zz_inc _) (by decide) rfl (fun ls hl => ?_)
          have hl : lv_has ls 5 [(3, .int (nI (q + 1))), (1, .int (nI ((zpairs (mFd A w rs) r0 + zcnt (fun q => mFd A w rs q r0) q) + 0))), (4, .int (nI (mFd B w rs q r0).toNat)), (0, .ref r), (2, .int (nI r0))] := hl
          refine lv_goto hx hb d_Mo_pairs_53 (tgt := 24) rfl ?_
          have hl : lv_has ls 5 [(0, .ref r), (1, .int (nI (zpairs (mFd A w rs) r0 + zcnt (fun q => mFd A w rs q r0) (q + 1)))), (2, .int (nI r0)), (3, .int (nI (q + 1)))] := (by rw [show zpairs (mFd A w rs) r0 + zcnt (fun q => mFd A w rs q r0) (q + 1) = zpairs (mFd A w rs) r0 + zcnt (fun q => mFd A w rs q r0) q + 0 from by rw [show zcnt (fun q => mFd A w rs q r0) (q + 1) = zcnt (fun q => mFd A w rs q r0) q + (mFd A w rs q r0).toNat from rfl, ← hfe, hT40]; rfl]; exact lv_sub hl [3, 1, 4, 0] rfl)
          exact ih (q + 1, B1) ls _ _ ⟨hl, by omega, hM, hms9, hS, hL⟩ (by show r0 - (q + 1) < r0 - q; omega)
        · refine lv_iconst (v := nI 1) hx hb d_Mo_pairs_43 (by decide) ?_
          refine lv_goto hx hb d_Mo_pairs_44 (tgt := 48) rfl ?_
          refine zz_iadd hx hb d_Mo_pairs_48 ?_
          refine lv_istore_n hx hb d_Mo_pairs_49 rfl hl (by decide) rfl (fun ls hl => ?_)
          have hl : lv_has ls 5 [(1, .int (nI ((zpairs (mFd A w rs) r0 + zcnt (fun q => mFd A w rs q r0) q) + 1))), (4, .int (nI (mFd B w rs q r0).toNat)), (0, .ref r), (2, .int (nI r0)), (3, .int (nI q))] := hl
          refine lv_iinc (k := 4) (v := nI (q + 1)) hx hb d_Mo_pairs_50 hl rfl (zz_inc _) (by decide) rfl (fun ls hl => ?_)
          have hl : lv_has ls 5 [(3, .int (nI (q + 1))), (1, .int (nI ((zpairs (mFd A w rs) r0 + zcnt (fun q => mFd A w rs q r0) q) + 1))), (4, .int (nI (mFd B w rs q r0).toNat)), (0, .ref r), (2, .int (nI r0))] := hl
          refine lv_goto hx hb d_Mo_pairs_53 (tgt := 24) rfl ?_
          have hl : lv_has ls 5 [(0, .ref r), (1, .int (nI (zpairs (mFd A w rs) r0 + zcnt (fun q => mFd A w rs q r0) (q + 1)))), (2, .int (nI r0)), (3, .int (nI (q + 1)))] := (by rw [show zpairs (mFd A w rs) r0 + zcnt (fun q => mFd A w rs q r0) (q + 1) = zpairs (mFd A w rs) r0 + zcnt (fun q => mFd A w rs q r0) q + 1 from by rw [show zcnt (fun q => mFd A w rs q r0) (q + 1) = zcnt (fun q => mFd A w rs q r0) q + (mFd A w rs q r0).toNat from rfl, ← hfe, hF40]; rfl]; exact lv_sub hl [3, 1, 4, 0] rfl)
          exact ih (q + 1, B1) ls _ _ ⟨hl, by omega, hM, hms9, hS, hL⟩ (by show r0 - (q + 1) < r0 - q; omega)
  · refine lv_bipush (v := (-4 : Int32)) hx hb d_Mo_pairs_7 (by decide) ?_
    exact zz_iret hx hb hr hlk rfl ⟨by unfold aPairs; rw [if_pos (by omega)], hS, A, hM, mS.rf okA⟩ hL d_Mo_pairs_9
