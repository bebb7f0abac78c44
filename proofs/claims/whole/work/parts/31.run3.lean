theorem undo_step {A B C : Nat → Nat → Nat} {v0 wk k : Nat} (h : B 3 = A 3 ∧ B 1 = A 1 ∧ (∀ q t, q < t → t < 12 → (∃ m, m < k ∧ t = v0 + m * wk) → B 2 (t * 12 + q) = 0) ∧ (∀ q t, q < t → t < 12 → (¬ ∃ m, m < k ∧ t = v0 + m * wk) → B 2 (t * 12 + q) = A 2 (t * 12 + q)) ∧ ∀ j, j < 144 → B 2 j ≤ 1) (ht : v0 + k * wk < 12) (hc : (∀ j, ((v0 + k * wk) * 12 ≤ j ∧ j < (v0 + k * wk) * 12 + (v0 + k * wk)) → C 2 j = 0) ∧ (∀ j, ¬ ((v0 + k * wk) * 12 ≤ j ∧ j < (v0 + k * wk) * 12 + (v0 + k * wk)) → C 2 j = B 2 j) ∧ C 1 = B 1 ∧ C 3 = B 3) : C 3 = A 3 ∧ C 1 = A 1 ∧ (∀ q t, q < t → t < 12 → (∃ m, m < (k + 1) ∧ t = v0 + m * wk) → C 2 (t * 12 + q) = 0) ∧ (∀ q t, q < t → t < 12 → (¬ ∃ m, m < (k + 1) ∧ t = v0 + m * wk) → C 2 (t * 12 + q) = A 2 (t * 12 + q)) ∧ ∀ j, j < 144 → C 2 j ≤ 1 := by
  obtain ⟨u1, u2, u3, u4, u5⟩ := h
  obtain ⟨c1, c2, c3, c4⟩ := hc
  generalize ht1 : v0 + k * wk = t1 at ht c1 c2
  refine ⟨c4.trans u1, c3.trans u2, fun q t hq ht2 hx => ?_, fun q t hq ht2 hx => ?_, fun j hj => ?_⟩
  · by_cases htt : t = t1
    · subst htt; exact c1 _ (by omega)
    · rw [c2 _ (by omega)]
      obtain ⟨m, hm, he⟩ := hx
      refine u3 q t hq ht2 ⟨m, ?_, he⟩
      have : m ≠ k := fun hmk => htt (by rw [he, hmk, ht1])
      omega
  · have htt : t ≠ t1 := fun e => hx ⟨k, by omega, by rw [e, ht1]⟩
    rw [c2 _ (by omega)]
    exact u4 q t hq ht2 (fun ⟨m, hm, he⟩ => hx ⟨m, by omega, he⟩)
  · by_cases hin : t1 * 12 ≤ j ∧ j < t1 * 12 + t1
    · rw [c1 j hin]; omega
    · rw [c2 j hin]; exact u5 j hj

set_option maxHeartbeats 4000000 in
set_option maxRecDepth 100000 in
theorem k_Ru_undoTasks (l : Launch) (D : va_G) (ca : Nat → ClassId) (u tk wk : Nat) (A : Nat → Nat → Nat) (v0 : Nat) (hv : v0 < 4) (hd : A 1 v0 ≤ 12) (hts : ∀ k, k < A 1 v0 → v0 + k * wk < 12) (hnb : ∀ j, j < 144 → A 2 j ≤ 1) : Met l y_Ru_undoTasks w_Ru_undoTasks (zr 2 0 0) (zz_P D ca [.ref u, .int (nI v0)] (fun H => RuAt D ca H u tk wk A)) (zz_Q (fun H H1 v => v = some (.int (nI (A 1 v0))) ∧ zz_fr (ruFr u) H H1 ∧ ∃ B C, RuAt D ca H1 u tk wk C ∧ C = up2 B 1 v0 0 ∧ (B 3 = A 3 ∧ B 1 = A 1 ∧ (∀ q t, q < t → t < 12 → (∃ m, m < (A 1 v0) ∧ t = v0 + m * wk) → B 2 (t * 12 + q) = 0) ∧ (∀ q t, q < t → t < 12 → (¬ ∃ m, m < (A 1 v0) ∧ t = v0 + m * wk) → B 2 (t * 12 + q) = A 2 (t * 12 + q)) ∧ ∀ j, j < 144 → B 2 j ≤ 1))) 0 0 (ruFr u) := by
  refine zz_met (cc := c_Ru_undoTasks) (by decide) (Nat.le_of_ble_eq_true rfl) ?_
  intro p e s m below meth c ls hE hr hlk hnm hM hl
  have hx := hE.1.1
  have hb := hE.1.2.1
  have hK := hE.2
  have hl : lv_has ls 4 [(0, .ref u), (1, .int (nI v0))] := hl
  have hL : zz_L (ruFr u) ([] : List Loc) := zz_L.nil
  have hS : zz_fr (ruFr u) s.heap s.heap := zz_fr.rf
  refine lv_aload_n hx hb d_Ru_undoTasks_0 rfl (lv_at hl 0 rfl) ?_
  refine fg_Ru_9 hE hM.1 rfl d_Ru_undoTasks_1 ?_
  refine lv_iload_n hx hb d_Ru_undoTasks_4 rfl (lv_at hl 1 rfl) ?_
  refine ru_ld hE hM 1 (by decide) (i := v0) (show v0 < 4 by omega) d_Ru_undoTasks_5 ?_
  refine lv_istore_n hx hb d_Ru_undoTasks_6 rfl hl (by decide) rfl (fun ls hl => ?_)
  have hl : lv_has ls 4 [(2, .int (nI (A 1 v0))), (0, .ref u), (1, .int (nI v0))] := hl
  refine lv_iconst (v := nI 0) hx hb d_Ru_undoTasks_7 (by decide) ?_
  refine lv_istore_n hx hb d_Ru_undoTasks_8 rfl hl (by decide) rfl (fun ls hl => ?_)
  have hl : lv_has ls 4 [(3, .int (nI 0)), (2, .int (nI (A 1 v0))), (0, .ref u), (1, .int (nI v0))] := hl
  have hl : lv_has ls 4 [(0, .ref u), (1, .int (nI v0)), (2, .int (nI (A 1 v0))), (3, .int (nI 0))] := lv_sub hl [2, 3, 1, 0] rfl
  refine zz_loopH (σ := Nat × (Nat → Nat → Nat)) (fun ⟨k, B⟩ ls H locs => lv_has ls 4 [(0, .ref u), (1, .int (nI v0)), (2, .int (nI (A 1 v0))), (3, .int (nI k))] ∧ k ≤ A 1 v0 ∧ RuAt D ca H u tk wk B ∧ (B 3 = A 3 ∧ B 1 = A 1 ∧ (∀ q t, q < t → t < 12 → (∃ m, m < k ∧ t = v0 + m * wk) → B 2 (t * 12 + q) = 0) ∧ (∀ q t, q < t → t < 12 → (¬ ∃ m, m < k ∧ t = v0 + m * wk) → B 2 (t * 12 + q) = A 2 (t * 12 + q)) ∧ ∀ j, j < 144 → B 2 j ≤ 1) ∧ zz_fr (ruFr u) s.heap H ∧ zz_L (ruFr u) locs) (fun ⟨k, B⟩ => A 1 v0 - k) ?_ (0, A) ls _ _ ⟨hl, Nat.zero_le _, hM, ⟨rfl, rfl, fun q t _ _ ⟨m, hm, _⟩ => absurd hm (Nat.not_lt_zero _), fun _ _ _ _ _ => rfl, hnb⟩, hS, hL⟩
  rintro ⟨k, B⟩ ih ls H locs ⟨hl, hk, hM, hz, hS, hL⟩
  refine lv_iload_n hx hb d_Ru_undoTasks_9 rfl (lv_at hl 3 rfl) ?_
  refine lv_iload_n hx hb d_Ru_undoTasks_10 rfl (lv_at hl 2 rfl) ?_
  refine zz_ge hx hb (by omega) (by omega) d_Ru_undoTasks_11 (tgt := 30) rfl (fun hT11 => ?_) (fun hF11 => ?_)
  · refine lv_aload_n hx hb d_Ru_undoTasks_30 rfl (lv_at hl 0 rfl) ?_
    refine fg_Ru_9 hE hM.1 rfl d_Ru_undoTasks_31 ?_
    refine lv_iload_n hx hb d_Ru_undoTasks_34 rfl (lv_at hl 1 rfl) ?_
    refine lv_iconst (v := nI 0) hx hb d_Ru_undoTasks_35 (by decide) ?_
    refine ru_st hE hM hS hL 1 (by decide) (i := v0) (x := 0) (show v0 < 4 by omega) d_Ru_undoTasks_36 (fun H locs hM hS hL => ?_)
    refine lv_iload_n hx hb d_Ru_undoTasks_37 rfl (lv_at hl 2 rfl) ?_
    have hk9 : k = A 1 v0 := by omega
    rw [hk9] at hz
    exact zz_iret hx hb hr hlk rfl ⟨rfl, hS, B, _, hM, rfl, hz⟩ hL d_Ru_undoTasks_38
  · refine lv_aload_n hx hb d_Ru_undoTasks_14 rfl (lv_at hl 0 rfl) ?_
    refine lv_aload_n hx hb d_Ru_undoTasks_15 rfl (lv_at hl 0 rfl) ?_
    refine lv_iload_n hx hb d_Ru_undoTasks_16 rfl (lv_at hl 1 rfl) ?_
    refine lv_iload_n hx hb d_Ru_undoTasks_17 rfl (lv_at hl 3 rfl) ?_
    refine zz_callP (cl_Ru_29 (rest := [.ref u]) hE (k_Ru_taskOf l D ca u tk wk B v0 k) ⟨rfl, rfl, by decide, by decide⟩ hM hM.1 rfl hl.1 rfl (Nat.le_of_ble_eq_true rfl) d_Ru_undoTasks_18 ⟨by decide, by decide⟩) ?_
    refine zz_callN (cl_Ru_33 (rest := []) hE (k_Ru_forgetPairsOf l D ca u tk wk B (v0 + k * wk) (hts k (by omega))) ⟨rfl, rfl, by decide, by decide⟩ hM hM.1 rfl hl.1 rfl (Nat.le_of_ble_eq_true rfl) d_Ru_undoTasks_21 ⟨by decide, by decide⟩) hL (fun _ h => h) (fun H locs hpost hL => ?_)
    obtain ⟨hfr1, B1, hM, hc⟩ := hpost
    have hS := hS.tr hfr1
    have hz9 := undo_step hz (hts k (by omega)) hc
    refine lv_iinc (k := 3) (v := nI (k + 1)) hx hb d_Ru_undoTasks_24 hl rfl (zz_inc _) (by decide) rfl (fun ls hl => ?_)
    have hl : lv_has ls 4 [(3, .int (nI (k + 1))), (0, .ref u), (1, .int (nI v0)), (2, .int (nI (A 1 v0)))] := hl
    refine lv_goto hx hb d_Ru_undoTasks_27 (tgt := 9) rfl ?_
    have hl : lv_has ls 4 [(0, .ref u), (1, .int (nI v0)), (2, .int (nI (A 1 v0))), (3, .int (nI (k + 1)))] := lv_sub hl [1, 2, 3, 0] rfl
    exact ih (k + 1, B1) ls _ _ ⟨hl, by omega, hM, hz9, hS, hL⟩ (by show A 1 v0 - (k + 1) < A 1 v0 - k; omega)

theorem gat_step {A B C : Nat → Nat → Nat} {tk r q : Nat} (hr : r < tk) (hq : q < r) (h : B 1 = A 1 ∧ B 2 = A 2 ∧ mPl tk (rF A) (B 3) ∧ (∀ r1 q1, r1 < r → q1 < r1 → rNt A q1 r1 = true → B 3 q1 = B 3 r1) ∧ ∀ q1, q1 < q → rNt A q1 r = true → B 3 q1 = B 3 r) (hn : rNt A q r = true) (h1 : C 1 = B 1) (h2 : C 2 = B 2) (h3 : ∀ a, a < tk → C 3 a = rUn (B 3) (B 3 q) (B 3 r) a) : C 1 = A 1 ∧ C 2 = A 2 ∧ mPl tk (rF A) (C 3) ∧ (∀ r1 q1, r1 < r → q1 < r1 → rNt A q1 r1 = true → C 3 q1 = C 3 r1) ∧ ∀ q1, q1 < (q + 1) → rNt A q1 r = true → C 3 q1 = C 3 r := by
  obtain ⟨g1, g2, g3, g4, g5⟩ := h
  have hf : rF A q r = true := by unfold rF; rw [if_pos hq]; exact hn
  refine ⟨h1.trans g1, h2.trans g2, mPl_congr (rPl_un g3 (by omega) hr hf) h3, fun r1 q1 hr1 hq1 hx => ?_, fun q1 hq1 hx => ?_⟩
  · rw [h3 q1 (by omega), h3 r1 (by omega)]
    exact rUn_c (g4 r1 q1 hr1 hq1 hx)
  · rw [h3 q1 (by omega), h3 r (by omega)]
    by_cases hqq : q1 = q
    · subst hqq; exact rUn_eq
    · exact rUn_c (g5 q1 (by omega) hx)
theorem gat_end {A B : Nat → Nat → Nat} {tk q : Nat} (h : B 1 = A 1 ∧ B 2 = A 2 ∧ mPl tk (rF A) (B 3) ∧ (∀ r1 q1, r1 < tk → q1 < r1 → rNt A q1 r1 = true → B 3 q1 = B 3 r1) ∧ ∀ q1, q1 < 0 → rNt A q1 tk = true → B 3 q1 = B 3 tk) : mSp tk (rF A) (B 3) := by
  refine ⟨h.2.2.1, fun j k hj hk hf => ?_⟩
  unfold rF at hf
  by_cases hjk : j < k
  · rw [if_pos hjk] at hf
    have := h.2.2.2.1 k j hk hjk hf
    omega
  · rw [if_neg hjk] at hf
    by_cases he : j = k
    · subst he; omega
    · have := h.2.2.2.1 j k hj (by omega) hf
      omega
theorem rNt_eq {A B : Nat → Nat → Nat} (h : B 2 = A 2) (q t : Nat) : rNt B q t = rNt A q t := by unfold rNt; rw [h]

set_option maxHeartbeats 4000000 in
set_option maxRecDepth 100000 in
theorem k_Ru_gather (l : Launch) (D : va_G) (ca : Nat → ClassId) (u tk wk : Nat) (A : Nat → Nat → Nat) (htk : tk ≤ 12) (hnb : ∀ j, j < 144 → A 2 j ≤ 1) : Met l y_Ru_gather w_Ru_gather (zr 2 0 0) (zz_P D ca [.ref u] (fun H => RuAt D ca H u tk wk A)) (zz_Q (fun H H1 v => v = none ∧ zz_fr (ruFr u) H H1 ∧ ∃ B, RuAt D ca H1 u tk wk B ∧ B 1 = A 1 ∧ B 2 = A 2 ∧ mSp tk (rF A) (B 3))) 0 0 (ruFr u) := by
  refine zz_met (cc := c_Ru_gather) (by decide) (Nat.le_of_ble_eq_true rfl) ?_
  intro p e s m below meth c ls hE hr hlk hnm hM hl
  have hx := hE.1.1
  have hb := hE.1.2.1
  have hK := hE.2
  have hl : lv_has ls 3 [(0, .ref u)] := hl
  have hL : zz_L (ruFr u) ([] : List Loc) := zz_L.nil
  have hS : zz_fr (ruFr u) s.heap s.heap := zz_fr.rf
  refine lv_iconst (v := nI 0) hx hb d_Ru_gather_0 (by decide) ?_
  refine lv_istore_n hx hb d_Ru_gather_1 rfl hl (by decide) rfl (fun ls hl => ?_)
  have hl : lv_has ls 3 [(1, .int (nI 0)), (0, .ref u)] := hl
  have hl : lv_has ls 3 [(0, .ref u), (1, .int (nI 0))] := lv_sub hl [1, 0] rfl
  refine zz_loopH (σ := Nat × (Nat → Nat → Nat)) (fun ⟨i, B⟩ ls H locs => lv_has ls 3 [(0, .ref u), (1, .int (nI i))] ∧ i ≤ tk ∧ RuAt D ca H u tk wk B ∧ (B 1 = A 1 ∧ B 2 = A 2 ∧ ∀ a, a < i → B 3 a = a) ∧ zz_fr (ruFr u) s.heap H ∧ zz_L (ruFr u) locs) (fun ⟨i, B⟩ => tk - i) ?_ (0, A) ls _ _ ⟨hl, Nat.zero_le _, hM, ⟨rfl, rfl, fun a h => absurd h (Nat.not_lt_zero _)⟩, hS, hL⟩
  rintro ⟨i, B⟩ ih ls H locs ⟨hl, hi, hM, hz, hS, hL⟩
  refine lv_iload_n hx hb d_Ru_gather_2 rfl (lv_at hl 1 rfl) ?_
  refine lv_aload_n hx hb d_Ru_gather_3 rfl (lv_at hl 0 rfl) ?_
  refine fg_Ru_26 hE hM.1 rfl d_Ru_gather_4 ?_
  refine zz_ge hx hb (by omega) (by omega) d_Ru_gather_7 (tgt := 23) rfl (fun hT7 => ?_) (fun hF7 => ?_)
  · refine lv_iconst (v := nI 0) hx hb d_Ru_gather_23 (by decide) ?_
    refine lv_istore_n hx hb d_Ru_gather_24 rfl hl (by decide) rfl (fun ls hl => ?_)
    have hl : lv_has ls 3 [(1, .int (nI 0)), (0, .ref u)] := hl
    have hg : B 1 = A 1 ∧ B 2 = A 2 ∧ mPl tk (rF A) (B 3) ∧ (∀ r1 q1, r1 < 0 → q1 < r1 → rNt A q1 r1 = true → B 3 q1 = B 3 r1) ∧ ∀ q1, q1 < 0 → rNt A q1 0 = true → B 3 q1 = B 3 0 := ⟨hz.1, hz.2.1, fun a ha => by rw [hz.2.2 a (by omega)]; exact ⟨Nat.le_refl _, fun g _ => rfl⟩, fun r1 q1 h => absurd h (Nat.not_lt_zero _), fun q1 h => absurd h (Nat.not_lt_zero _)⟩
    have hl : lv_has ls 3 [(0, .ref u), (1, .int (nI 0))] := lv_sub hl [1, 0] rfl
    refine zz_loopH (σ := Nat × (Nat → Nat → Nat)) (fun ⟨r0, B⟩ ls H locs => lv_has ls 3 [(0, .ref u), (1, .int (nI r0))] ∧ r0 ≤ tk ∧ RuAt D ca H u tk wk B ∧ (B 1 = A 1 ∧ B 2 = A 2 ∧ mPl tk (rF A) (B 3) ∧ (∀ r1 q1, r1 < r0 → q1 < r1 → rNt A q1 r1 = true → B 3 q1 = B 3 r1) ∧ ∀ q1, q1 < 0 → rNt A q1 r0 = true → B 3 q1 = B 3 r0) ∧ zz_fr (ruFr u) s.heap H ∧ zz_L (ruFr u) locs) (fun ⟨r0, B⟩ => tk - r0) ?_ (0, B) ls _ _ ⟨hl, Nat.zero_le _, hM, hg, hS, hL⟩
    rintro ⟨r0, B⟩ ih ls H locs ⟨hl, hr0, hM, hg, hS, hL⟩
    have iho := ih
    refine lv_iload_n hx hb d_Ru_gather_25 rfl (lv_at hl 1 rfl) ?_
    refine lv_aload_n hx hb d_Ru_gather_26 rfl (lv_at hl 0 rfl) ?_
    refine fg_Ru_26 hE hM.1 rfl d_Ru_gather_27 ?_
    refine zz_ge hx hb (by omega) (by omega) d_Ru_gather_30 (tgt := 77) rfl (fun hT30 => ?_) (fun hF30 => ?_)
    · have hrt : r0 = tk := by omega
      rw [hrt] at hg
      exact zz_vret hx hb hr hlk ⟨rfl, hS, B, hM, hg.1, hg.2.1, gat_end (q := 0) hg⟩ hL d_Ru_gather_77
    · refine lv_iconst (v := nI 0) hx hb d_Ru_gather_33 (by decide) ?_
      refine lv_istore_n hx hb d_Ru_gather_34 rfl hl (by decide) rfl (fun ls hl => ?_)
      have hl : lv_has ls 3 [(2, .int (nI 0)), (0, .ref u), (1, .int (nI r0))] := hl
      have hl : lv_has ls 3 [(0, .ref u), (1, .int (nI r0)), (2, .int (nI 0))] := lv_sub hl [1, 2, 0] rfl
      refine zz_loopH (σ := Nat × (Nat → Nat → Nat)) (fun ⟨q, B⟩ ls H locs => lv_has ls 3 [(0, .ref u), (1, .int (nI r0)), (2, .int (nI q))] ∧ q ≤ r0 ∧ RuAt D ca H u tk wk B ∧ (B 1 = A 1 ∧ B 2 = A 2 ∧ mPl tk (rF A) (B 3) ∧ (∀ r1 q1, r1 < r0 → q1 < r1 → rNt A q1 r1 = true → B 3 q1 = B 3 r1) ∧ ∀ q1, q1 < q → rNt A q1 r0 = true → B 3 q1 = B 3 r0) ∧ zz_fr (ruFr u) s.heap H ∧ zz_L (ruFr u) locs) (fun ⟨q, B⟩ => r0 - q) ?_ (0, B) ls _ _ ⟨hl, Nat.zero_le _, hM, hg, hS, hL⟩
      rintro ⟨q, B⟩ ih ls H locs ⟨hl, hq, hM, hg, hS, hL⟩
      refine lv_iload_n hx hb d_Ru_gather_35 rfl (lv_at hl 2 rfl) ?_
      refine lv_iload_n hx hb d_Ru_gather_36 rfl (lv_at hl 1 rfl) ?_
      refine zz_ge hx hb (by omega) (by omega) d_Ru_gather_37 (tgt := 71) rfl (fun hT37 => ?_) (fun hF37 => ?_)
      · refine lv_iinc (k := 1) (v := nI (r0 + 1)) hx hb d_Ru_gather_71 hl rfl (zz_inc _) (by decide) rfl (fun ls hl => ?_)
        have hl : lv_has ls 3 [(1, .int (nI (r0 + 1))), (0, .ref u), (2, .int (nI q))] := hl
        refine lv_goto hx hb d_Ru_gather_74 (tgt := 25) rfl ?_
        have hg9 : B 1 = A 1 ∧ B 2 = A 2 ∧ mPl tk (rF A) (B 3) ∧ (∀ r1 q1, r1 < (r0 + 1) → q1 < r1 → rNt A q1 r1 = true → B 3 q1 = B 3 r1) ∧ ∀ q1, q1 < 0 → rNt A q1 (r0 + 1) = true → B 3 q1 = B 3 (r0 + 1) := ⟨hg.1, hg.2.1, hg.2.2.1, fun r1 q1 hr1 hq1 hx => by
          by_cases hrr : r1 = r0
          · subst hrr; exact hg.2.2.2.2 q1 (by omega) hx
          · exact hg.2.2.2.1 r1 q1 (by omega) hq1 hx, fun q1 h => absurd h (Nat.not_lt_zero _)⟩
        have hl : lv_has ls 3 [(0, .ref u), (1, .int (nI (r0 + 1)))] := lv_sub hl [1, 0] rfl
        exact iho (r0 + 1, B) ls _ _ ⟨hl, by omega, hM, hg9, hS, hL⟩ (by show tk - (r0 + 1) < tk - r0; omega)
      · have hq9 : q < r0 := hF37
        have l1 := (hg.2.2.1 q (by omega)).1
        have l2 := (hg.2.2.1 r0 (by omega)).1
        refine lv_aload_n hx hb d_Ru_gather_40 rfl (lv_at hl 0 rfl) ?_
        refine lv_iload_n hx hb d_Ru_gather_41 rfl (lv_at hl 2 rfl) ?_
        refine lv_iload_n hx hb d_Ru_gather_42 rfl (lv_at hl 1 rfl) ?_
        refine zz_callP (cl_Ru_40 (rest := []) hE (k_Ru_isNoted l D ca u tk wk B q r0 (by omega) (by omega) (by rw [hg.2.1]; exact hnb)) ⟨rfl, rfl, by decide, by decide⟩ hM hM.1 rfl hl.1 rfl (Nat.le_of_ble_eq_true rfl) d_Ru_gather_43 ⟨by decide, by decide⟩) ?_
        refine zz_eqB hx hb d_Ru_gather_46 (tgt := 65) rfl (fun hT46 => ?_) (fun hF46 => ?_)
        · refine lv_iinc (k := 2) (v := nI (q + 1)) hx hb d_Ru_gather_65 hl rfl (zz_inc _) (by decide) rfl (fun ls hl => ?_)
          have hl : lv_has ls 3 [(2, .int (nI (q + 1))), (0, .ref u), (1, .int (nI r0))] := hl
          refine lv_goto hx hb d_Ru_gather_68 (tgt := 35) rfl ?_
          have hg9 : B 1 = A 1 ∧ B 2 = A 2 ∧ mPl tk (rF A) (B 3) ∧ (∀ r1 q1, r1 < r0 → q1 < r1 → rNt A q1 r1 = true → B 3 q1 = B 3 r1) ∧ ∀ q1, q1 < (q + 1) → rNt A q1 r0 = true → B 3 q1 = B 3 r0 := ⟨hg.1, hg.2.1, hg.2.2.1, hg.2.2.2.1, fun q1 hq1 hx => by
            by_cases hqq : q1 = q
            · subst hqq; rw [← rNt_eq hg.2.1, hT46] at hx; cases hx
            · exact hg.2.2.2.2 q1 (by omega) hx⟩
          have hl : lv_has ls 3 [(0, .ref u), (1, .int (nI r0)), (2, .int (nI (q + 1)))] := lv_sub hl [1, 2, 0] rfl
          exact ih (q + 1, B) ls _ _ ⟨hl, by omega, hM, hg9, hS, hL⟩ (by show r0 - (q + 1) < r0 - q; omega)
        · refine lv_aload_n hx hb d_Ru_gather_49 rfl (lv_at hl 0 rfl) ?_
          refine lv_aload_n hx hb d_Ru_gather_50 rfl (lv_at hl 0 rfl) ?_
          refine fg_Ru_19 hE hM.1 rfl d_Ru_gather_51 ?_
          refine lv_iload_n hx hb d_Ru_gather_54 rfl (lv_at hl 2 rfl) ?_
          refine ru_ld hE hM 3 (by decide) (i := q) (show q < 12 by omega) d_Ru_gather_55 ?_
          refine lv_aload_n hx hb d_Ru_gather_56 rfl (lv_at hl 0 rfl) ?_
          refine fg_Ru_19 hE hM.1 rfl d_Ru_gather_57 ?_
          refine lv_iload_n hx hb d_Ru_gather_60 rfl (lv_at hl 1 rfl) ?_
          refine ru_ld hE hM 3 (by decide) (i := r0) (show r0 < 12 by omega) d_Ru_gather_61 ?_
          refine zz_callN (cl_Ru_44 (rest := []) hE (k_Ru_unite l D ca u tk wk B (B 3 q) (B 3 r0) (by omega) (by omega) htk (fun a ha => by have := (hg.2.2.1 a ha).1; omega)) ⟨rfl, rfl, by decide, by decide⟩ hM hM.1 rfl hl.1 rfl (Nat.le_of_ble_eq_true rfl) d_Ru_gather_62 ⟨by decide, by decide⟩) hL (fun _ h => h) (fun H locs hpost hL => ?_)
          obtain ⟨hfr1, B1, hM, hz1, hz2, hz3, hz4⟩ := hpost
          have hS := hS.tr hfr1
          have hg9 := gat_step (by omega) hq9 hg (by rw [← rNt_eq hg.2.1]; exact hF46) hz1 hz2 hz3
          refine lv_iinc (k := 2) (v := nI (q + 1)) hx hb d_Ru_gather_65 hl rfl (zz_inc _) (by decide) rfl (fun ls hl => ?_)
          have hl : lv_has ls 3 [(2, .int (nI (q + 1))), (0, .ref u), (1, .int (nI r0))] := hl
          refine lv_goto hx hb d_Ru_gather_68 (tgt := 35) rfl ?_
          have hl : lv_has ls 3 [(0, .ref u), (1, .int (nI r0)), (2, .int (nI (q + 1)))] := lv_sub hl [1, 2, 0] rfl
          exact ih (q + 1, B1) ls _ _ ⟨hl, by omega, hM, hg9, hS, hL⟩ (by show r0 - (q + 1) < r0 - q; omega)
  · refine lv_aload_n hx hb d_Ru_gather_10 rfl (lv_at hl 0 rfl) ?_
    refine fg_Ru_19 hE hM.1 rfl d_Ru_gather_11 ?_
    refine lv_iload_n hx hb d_Ru_gather_14 rfl (lv_at hl 1 rfl) ?_
    refine lv_iload_n hx hb d_Ru_gather_15 rfl (lv_at hl 1 rfl) ?_
    refine ru_st hE hM hS hL 3 (by decide) (i := i) (x := i) (show i < 12 by omega) d_Ru_gather_16 (fun H locs hM hS hL => ?_)
    refine lv_iinc (k := 1) (v := nI (i + 1)) hx hb d_Ru_gather_17 hl rfl (zz_inc _) (by decide) rfl (fun ls hl => ?_)
    have hl : lv_has ls 3 [(1, .int (nI (i + 1))), (0, .ref u)] := hl
    refine lv_goto hx hb d_Ru_gather_20 (tgt := 2) rfl ?_
    have hl : lv_has ls 3 [(0, .ref u), (1, .int (nI (i + 1)))] := lv_sub hl [1, 0] rfl
    exact ih (i + 1, (up2 B 3 i i)) ls _ _ ⟨hl, by omega, hM, ⟨by rw [up2_f (by decide)]; exact hz.1, by rw [up2_f (by decide)]; exact hz.2.1, fun a ha => by
        by_cases hai : a = i
        · subst hai; exact up2_s
        · rw [up2_i hai]; exact hz.2.2 a (by omega)⟩, hS, hL⟩ (by show tk - (i + 1) < tk - i; omega)
