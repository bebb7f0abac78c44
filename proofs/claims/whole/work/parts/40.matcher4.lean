theorem rF_symm (A : Nat → Nat → Nat) (a b : Nat) : rF A a b = rF A b a := by
  unfold rF
  by_cases h : a = b
  · subst h; rfl
  · by_cases h2 : a < b
    · rw [if_pos h2, if_neg (by omega)]
    · rw [if_neg h2, if_pos (by omega)]

set_option maxHeartbeats 4000000 in
set_option maxRecDepth 100000 in
theorem k_RM_start_none (l : Launch) (D : va_G) (ca : Nat → ClassId) (o n h : Nat) (S : Nat → Option Nat) (K : Nat → Nat) (x : Int32) : Met l y_RM_start w_RM_start (zr 1 0 0) (zz_P D ca [.ref o, .int x] (fun H => RmAt D ca H o n h none S K)) (zz_Q (fun H H1 v => H1 = H ∧ v = some (.int (aStart n 0 x)))) 0 0 (fun _ => False) := by
  refine zz_met (cc := c_RM_start) (by decide) (Nat.le_of_ble_eq_true rfl) ?_
  intro p e s m below meth c ls hE hr hlk hnm hM hl
  have hx := hE.1.1
  have hb := hE.1.2.1
  have hK := hE.2
  have hl : lv_has ls 2 [(0, .ref o), (1, .int x)] := hl
  have hL : zz_L (fun _ => False) ([] : List Loc) := zz_L.nil
  refine lv_aload_n hx hb d_RM_start_0 rfl (lv_at hl 0 rfl) ?_
  refine fg_RM_101 hE hM.1 rfl d_RM_start_1 ?_
  refine lv_ifnonnullN hx hb d_RM_start_4 ?_
  refine lv_bipush (v := (-4 : Int32)) hx hb d_RM_start_7 (by decide) ?_
  exact zz_iret hx hb hr hlk rfl ⟨rfl, congrArg (fun z => some (Value.int z)) (by unfold aStart; rw [if_pos rfl])⟩ hL d_RM_start_9

set_option maxHeartbeats 4000000 in
set_option maxRecDepth 100000 in
theorem k_RM_start (l : Launch) (D : va_G) (ca : Nat → ClassId) (o n h y : Nat) (S : Nat → Option Nat) (K : Nat → Nat) (tk wk : Nat) (A : Nat → Nat → Nat) (F : Nat → Nat → Nat → Nat) (N Y : Nat → Nat → Nat) (W0 : Nat → Nat → Bool) (x : Int32) : Met l y_RM_start w_RM_start (zr 1 0 0) (zz_P D ca [.ref o, .int x] (fun H => RmAt D ca H o n h (some y) S K ∧ RuAt D ca H (o + 3) tk wk A ∧ EnAll D ca H o F N Y W0)) (zz_Q (fun H H1 v => v = some (.int (aStart n 1 x)) ∧ zz_fr (syFr o) H H1 ∧ RmAt D ca H1 o n h (some y) S K ∧ EnAll D ca H1 o F N Y W0 ∧ ∃ B, RuAt D ca H1 (o + 3) (if bStart 1 x = true then n else tk) (if bStart 1 x = true then cN x else wk) B ∧ (bStart 1 x = true → (∀ v, v < 4 → B 1 v = 0) ∧ (∀ j, j < 144 → B 2 j = 0) ∧ B 3 = A 3) ∧ (bStart 1 x = false → B = A))) 0 0 (syFr o) := by
  refine zz_met (cc := c_RM_start) (by decide) (Nat.le_of_ble_eq_true rfl) ?_
  intro p e s m below meth c ls hE hr hlk hnm ⟨hM, hR, hA⟩ hl
  have hx := hE.1.1
  have hb := hE.1.2.1
  have hK := hE.2
  have hl : lv_has ls 2 [(0, .ref o), (1, .int x)] := hl
  have hL : zz_L (syFr o) ([] : List Loc) := zz_L.nil
  have hS : zz_fr (syFr o) s.heap s.heap := zz_fr.rf
  refine lv_aload_n hx hb d_RM_start_0 rfl (lv_at hl 0 rfl) ?_
  refine fg_RM_101 hE hM.1 rfl d_RM_start_1 ?_
  refine lv_ifnonnull hx hb d_RM_start_4 (tgt := 10) rfl ?_
  refine lv_iload_n hx hb d_RM_start_10 rfl (lv_at hl 1 rfl) ?_
  refine lv_iconst (v := nI 1) hx hb d_RM_start_11 (by decide) ?_
  refine lv_icmp_lt hx hb d_RM_start_12 (tgt := 20) rfl (fun hT12 => ?_) (fun hF12 => ?_)
  · refine lv_iconst (v := (-1 : Int32)) hx hb d_RM_start_20 (by decide) ?_
    have hval : aStart n 1 x = (-1 : Int32) := by unfold aStart; rw [if_neg (by decide), if_neg (zz_st4n (Or.inl hT12))]
    have hb9 : bStart 1 x = false := by
        have h9 := zz_st4n (Or.inl hT12)
        simp only [bStart]
        cases hz : zisR 5 x
        · simp
        · rw [decide_eq_false (show ¬ x ≠ 0 from fun hh => h9 ⟨hz, hh⟩)]; simp
    exact zz_iret hx hb hr hlk rfl ⟨by rw [hval], hS, hM, hA, A, by rw [hb9]; exact hR, (fun h => by rw [hb9] at h; cases h), fun _ => rfl⟩ hL d_RM_start_21
  · refine lv_iload_n hx hb d_RM_start_15 rfl (lv_at hl 1 rfl) ?_
    refine lv_iconst (v := nI 4) hx hb d_RM_start_16 (by decide) ?_
    refine lv_icmp_le hx hb d_RM_start_17 (tgt := 22) rfl (fun hT17 => ?_) (fun hF17 => ?_)
    · obtain ⟨x0, hx1, hx4, rfl⟩ := zz_st4 hF12 hT17
      have cx : cN (nI x0) = x0 := nI_clamp (by omega)
      have hz5 : zisR 5 (nI x0) = true := zisR_nI (by omega) (by decide)
      have hne : nI x0 ≠ 0 := nI_ne0 (by omega) (by omega)
      refine lv_aload_n hx hb d_RM_start_22 rfl (lv_at hl 0 rfl) ?_
      refine fg_RM_24 hE hM.1 rfl d_RM_start_23 ?_
      refine lv_iload_n hx hb d_RM_start_26 rfl (lv_at hl 1 rfl) ?_
      refine lv_aload_n hx hb d_RM_start_27 rfl (lv_at hl 0 rfl) ?_
      refine fg_RM_37 hE hM.1 rfl d_RM_start_28 ?_
      refine zz_callN (cl_RM_113 (rest := []) hE (k_Ru_begin l D ca (o + 3) tk wk A x0 n) ⟨rfl, rfl, by decide, by decide⟩ hR hR.1 rfl hl.1 rfl (Nat.le_of_ble_eq_true rfl) d_RM_start_31 ⟨by decide, by decide⟩) hL (fun q h => ru_sy h) (fun H locs hpost hL => ?_)
      obtain ⟨hfr1, B, hR, hb1, hb2, hb3⟩ := hpost
      have hM := hM.kp hfr1
      have hA := hA.kp (fun q h1 h2 => hfr1.2 q (fun h => by have := h.2; omega))
      have hS := hS.tr (hfr1.mono (fun q h => ru_sy h))
      refine lv_aload_n hx hb d_RM_start_34 rfl (lv_at hl 0 rfl) ?_
      refine fg_RM_37 hE hM.1 rfl d_RM_start_35 ?_
      have hval : aStart n 1 (nI x0) = nI n := by unfold aStart; rw [if_neg (by decide), if_pos ⟨hz5, hne⟩]
      have hb9 : bStart 1 (nI x0) = true := by simp only [bStart, hz5, decide_eq_true hne]; rfl
      exact zz_iret hx hb hr hlk rfl ⟨by rw [hval], hS, hM, hA, B, by rw [hb9, if_pos rfl, if_pos rfl, cx]; exact hR, fun _ => ⟨hb1, hb2, hb3⟩, (fun h => by rw [hb9] at h; cases h)⟩ hL d_RM_start_38
    · refine lv_iconst (v := (-1 : Int32)) hx hb d_RM_start_20 (by decide) ?_
      have hval : aStart n 1 x = (-1 : Int32) := by unfold aStart; rw [if_neg (by decide), if_neg (zz_st4n (Or.inr hF17))]
      have hb9 : bStart 1 x = false := by
          have h9 := zz_st4n (Or.inr hF17)
          simp only [bStart]
          cases hz : zisR 5 x
          · simp
          · rw [decide_eq_false (show ¬ x ≠ 0 from fun hh => h9 ⟨hz, hh⟩)]; simp
      exact zz_iret hx hb hr hlk rfl ⟨by rw [hval], hS, hM, hA, A, by rw [hb9]; exact hR, (fun h => by rw [hb9] at h; cases h), fun _ => rfl⟩ hL d_RM_start_21

set_option maxHeartbeats 4000000 in
set_option maxRecDepth 100000 in
theorem k_RM_cluster (l : Launch) (D : va_G) (ca : Nat → ClassId) (o n h : Nat) (rl : Option Nat) (S : Nat → Option Nat) (K : Nat → Nat) (tk wk : Nat) (A : Nat → Nat → Nat) (F : Nat → Nat → Nat → Nat) (N Y : Nat → Nat → Nat) (W0 : Nat → Nat → Bool) (hw4 : wk ≤ 4) (htk : tk ≤ 12) (hnb : ∀ j, j < 144 → A 2 j ≤ 1) (hdd : ∀ v, v < 4 → A 1 v ≤ 12) (hn : n ≤ 12) (htn0 : 0 < wk → tk = n) (x : Int32) : Met l y_RM_cluster w_RM_cluster (zr 3 0 0) (zz_P D ca [.ref o, .int x] (fun H => RmAt D ca H o n h rl S K ∧ RuAt D ca H (o + 3) tk wk A ∧ EnAll D ca H o F N Y W0)) (zz_Q (fun H H1 v => v = some (.int (aCluster n wk (decide (zsum (A 1) wk = tk)) (rF A) x)) ∧ zz_fr (syFr o) H H1 ∧ RmAt D ca H1 o n h rl S K ∧ EnAll D ca H1 o F N Y W0 ∧ ∃ B, RuAt D ca H1 (o + 3) tk wk B ∧ B 1 = A 1 ∧ B 2 = A 2)) 0 0 (syFr o) := by
  refine zz_met (cc := c_RM_cluster) (by decide) (Nat.le_of_ble_eq_true rfl) ?_
  intro p e s m below meth c ls hE hr hlk hnm ⟨hM, hR, hA⟩ hl
  have hx := hE.1.1
  have hb := hE.1.2.1
  have hK := hE.2
  have hl : lv_has ls 2 [(0, .ref o), (1, .int x)] := hl
  have hL : zz_L (syFr o) ([] : List Loc) := zz_L.nil
  have hS : zz_fr (syFr o) s.heap s.heap := zz_fr.rf
  refine lv_aload_n hx hb d_RM_cluster_0 rfl (lv_at hl 0 rfl) ?_
  refine fg_RM_24 hE hM.1 rfl d_RM_cluster_1 ?_
  refine zz_callP (cl_RM_116 (rest := []) hE (k_Ru_isOpen l D ca (o + 3) tk wk A hw4) ⟨rfl, rfl, by decide, by decide⟩ hR hR.1 rfl hl.1 rfl (Nat.le_of_ble_eq_true rfl) d_RM_cluster_4 ⟨by decide, by decide⟩) ?_
  refine zz_neB hx hb d_RM_cluster_7 (tgt := 13) rfl (fun hT7 => ?_) (fun hF7 => ?_)
  · refine lv_aload_n hx hb d_RM_cluster_13 rfl (lv_at hl 0 rfl) ?_
    refine lv_iload_n hx hb d_RM_cluster_14 rfl (lv_at hl 1 rfl) ?_
    refine zz_callP (cl_RM_54 (rest := []) hE (k_RM_isRecord l D ca o n h rl S K x) ⟨rfl, rfl, by decide, by decide⟩ hM hM.1 rfl hl.1 rfl (Nat.le_of_ble_eq_true rfl) d_RM_cluster_15 ⟨by decide, by decide⟩) ?_
    refine zz_neB hx hb d_RM_cluster_18 (tgt := 23) rfl (fun hT18 => ?_) (fun hF18 => ?_)
    · refine lv_aload_n hx hb d_RM_cluster_23 rfl (lv_at hl 0 rfl) ?_
      refine fg_RM_24 hE hM.1 rfl d_RM_cluster_24 ?_
      refine zz_callP (cl_RM_137 (rest := []) hE (k_Ru_isDone l D ca (o + 3) tk wk A hw4 htk hdd) ⟨rfl, rfl, by decide, by decide⟩ hR hR.1 rfl hl.1 rfl (Nat.le_of_ble_eq_true rfl) d_RM_cluster_27 ⟨by decide, by decide⟩) ?_
      refine zz_neB hx hb d_RM_cluster_30 (tgt := 36) rfl (fun hT30 => ?_) (fun hF30 => ?_)
      · have hx18 := hT18
        obtain ⟨x0, hx0, rfl⟩ := zisR_nat hT18 (by omega)
        have cx : cN (nI x0) = x0 := nI_clamp (by omega)
        have htn : tk = n := htn0 (of_decide_eq_true hT7)
        refine lv_aload_n hx hb d_RM_cluster_36 rfl (lv_at hl 0 rfl) ?_
        refine fg_RM_24 hE hM.1 rfl d_RM_cluster_37 ?_
        refine zz_callN (cl_RM_158 (rest := []) hE (k_Ru_gather l D ca (o + 3) tk wk A htk hnb) ⟨rfl, rfl, by decide, by decide⟩ hR hR.1 rfl hl.1 rfl (Nat.le_of_ble_eq_true rfl) d_RM_cluster_40 ⟨by decide, by decide⟩) hL (fun q h => ru_sy h) (fun H locs hpost hL => ?_)
        obtain ⟨hfr1, B, hR, hb1, hb2, hsp⟩ := hpost
        have hM := hM.kp hfr1
        have hA := hA.kp (fun q h1 h2 => hfr1.2 q (fun h => by have := h.2; omega))
        have hS := hS.tr (hfr1.mono (fun q h => ru_sy h))
        have hLd : va_at D zC (o + 3 + 3, .inl (ca 0, 12, .inl (fun j => nI (B 3 j)))) H := hR.2 3 (by decide) (by decide)
        refine lv_aload_n hx hb d_RM_cluster_43 rfl (lv_at hl 0 rfl) ?_
        refine fg_RM_24 hE hM.1 rfl d_RM_cluster_44 ?_
        refine fg_RM_161 hE hR.1 rfl d_RM_cluster_47 ?_
        refine lv_iload_n hx hb d_RM_cluster_50 rfl (lv_at hl 1 rfl) ?_
        refine zz_iald hx hb hK.1 hLd 0 rfl (i := x0) (by omega) (by omega) d_RM_cluster_51 ?_
        have hval : aCluster n wk (decide (zsum (A 1) wk = tk)) (rF A) (nI x0) = nI (B 3 x0) := by
            unfold aCluster
            rw [if_neg (by have := of_decide_eq_true hT7; omega), if_neg (by simp [hx18]), if_neg (by rw [hT30]; decide), cx, ← htn, ← mSp_lbl (rF_symm A) hsp (show x0 < tk by omega)]
        exact zz_iret hx hb hr hlk rfl ⟨by rw [hval], hS, hM, hA, B, hR, hb1, hb2⟩ hL d_RM_cluster_52
      · refine lv_bipush (v := (-6 : Int32)) hx hb d_RM_cluster_33 (by decide) ?_
        have hval : aCluster n wk (decide (zsum (A 1) wk = tk)) (rF A) x = (-6 : Int32) := by
            unfold aCluster
            rw [if_neg (by have := of_decide_eq_true hT7; omega), if_neg (by simp [hT18]), if_pos hF30]
        exact zz_iret hx hb hr hlk rfl ⟨by rw [hval], hS, hM, hA, A, hR, rfl, rfl⟩ hL d_RM_cluster_35
    · refine lv_iconst (v := (-1 : Int32)) hx hb d_RM_cluster_21 (by decide) ?_
      have hval : aCluster n wk (decide (zsum (A 1) wk = tk)) (rF A) x = (-1 : Int32) := by
          unfold aCluster
          rw [if_neg (by have := of_decide_eq_true hT7; omega), if_pos hF18]
      exact zz_iret hx hb hr hlk rfl ⟨by rw [hval], hS, hM, hA, A, hR, rfl, rfl⟩ hL d_RM_cluster_22
  · refine lv_bipush (v := (-4 : Int32)) hx hb d_RM_cluster_10 (by decide) ?_
    have hval : aCluster n wk (decide (zsum (A 1) wk = tk)) (rF A) x = (-4 : Int32) := by
        unfold aCluster
        rw [if_pos (by simpa using hF7)]
    exact zz_iret hx hb hr hlk rfl ⟨by rw [hval], hS, hM, hA, A, hR, rfl, rfl⟩ hL d_RM_cluster_12
