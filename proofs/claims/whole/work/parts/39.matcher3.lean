def syFr (o q : Nat) : Prop := o ≤ q ∧ q < o + 73
theorem zz_fr.mono {F G : Nat → Prop} {H H1 : Heap} (h : zz_fr F H H1) (hFG : ∀ q, F q → G q) : zz_fr G H H1 := ⟨h.1, fun q hq => h.2 q (fun hF => hq (hFG q hF))⟩
theorem ru_sy {o q : Nat} (h : ruFr (o + 3) q) : syFr o q := ⟨by have := h.1; omega, by have := h.2; omega⟩
theorem rm_sy {o q : Nat} (h : rmFr o q) : syFr o q := by
  rcases h with h | h | h <;> exact ⟨by omega, by omega⟩
theorem RmAt.kp {D : va_G} {ca : Nat → ClassId} {H H1 : Heap} {o n h : Nat} {rl : Option Nat} {S : Nat → Option Nat} {K : Nat → Nat} (hM : RmAt D ca H o n h rl S K) (hf : zz_fr (ruFr (o + 3)) H H1) : RmAt D ca H1 o n h rl S K :=
  ⟨hM.1.kept (hf.2 _ (fun q => by have := q.1; omega)), hM.2.1.kept (hf.2 _ (fun q => by have := q.1; omega)), hM.2.2.1.kept (hf.2 _ (fun q => by have := q.1; omega)), hM.2.2.2.kept (hf.2 _ (fun q => by have := q.2; omega))⟩
theorem EnAll.kp {D : va_G} {ca : Nat → ClassId} {H H1 : Heap} {o : Nat} {F : Nat → Nat → Nat → Nat} {N Y : Nat → Nat → Nat} {W : Nat → Nat → Bool} (hA : EnAll D ca H o F N Y W) (hf : ∀ q, o + 8 ≤ q → q < o + 73 → H1[q]? = H[q]?) : EnAll D ca H1 o F N Y W := fun i hi =>
  ⟨(hA i hi).1.kept (hf _ (by omega) (by omega)), (hA i hi).2.1.kp (hf _ (by omega) (by omega)) (hf _ (by omega) (by omega)), (hA i hi).2.2.kp (hf _ (by omega) (by omega)) (hf _ (by omega) (by omega))⟩
theorem RuAt.kp {D : va_G} {ca : Nat → ClassId} {H H1 : Heap} {u tk wk : Nat} {A : Nat → Nat → Nat} (hR : RuAt D ca H u tk wk A) (hf : ∀ q, u ≤ q → q ≤ u + 3 → H1[q]? = H[q]?) : RuAt D ca H1 u tk wk A :=
  ⟨hR.1.kept (hf _ (by omega) (by omega)), fun k h1 h2 => (hR.2 k h1 h2).kept (hf _ (by omega) (by omega))⟩
def cCrash (tk wk : Nat) (A : Nat → Nat → Nat) (x : Int32) : Int32 := if wk = 0 then -4 else if zisR wk x = false then -1 else if zsum (A 1) wk = tk then -5 else nI (A 1 (cN x))
def bCrash (tk wk : Nat) (A : Nat → Nat → Nat) (x : Int32) : Bool := decide (wk ≠ 0) && zisR wk x && decide (zsum (A 1) wk ≠ tk)

set_option maxHeartbeats 4000000 in
set_option maxRecDepth 100000 in
theorem k_RM_crash (l : Launch) (D : va_G) (ca : Nat → ClassId) (o n h : Nat) (rl : Option Nat) (S : Nat → Option Nat) (K : Nat → Nat) (tk wk : Nat) (A : Nat → Nat → Nat) (F : Nat → Nat → Nat → Nat) (N Y : Nat → Nat → Nat) (W0 : Nat → Nat → Bool) (hw4 : wk ≤ 4) (htk : tk ≤ 12) (hnb : ∀ j, j < 144 → A 2 j ≤ 1) (hdd : ∀ v, v < 4 → A 1 v ≤ 12) (hts : ∀ v, v < wk → ∀ k, k < A 1 v → v + k * wk < 12) (x : Int32) : Met l y_RM_crash w_RM_crash (zr 3 0 0) (zz_P D ca [.ref o, .int x] (fun H => RmAt D ca H o n h rl S K ∧ RuAt D ca H (o + 3) tk wk A ∧ EnAll D ca H o F N Y W0)) (zz_Q (fun H H1 v => v = some (.int (cCrash tk wk A x)) ∧ zz_fr (syFr o) H H1 ∧ RmAt D ca H1 o n h rl S K ∧ EnAll D ca H1 o F N Y W0 ∧ ∃ C, RuAt D ca H1 (o + 3) tk wk C ∧ (bCrash tk wk A x = false → C = A) ∧ (bCrash tk wk A x = true → ∃ B, C = up2 B 1 (cN x) 0 ∧ (B 3 = A 3 ∧ B 1 = A 1 ∧ (∀ q t, q < t → t < 12 → (∃ m, m < (A 1 (cN x)) ∧ t = (cN x) + m * wk) → B 2 (t * 12 + q) = 0) ∧ (∀ q t, q < t → t < 12 → (¬ ∃ m, m < (A 1 (cN x)) ∧ t = (cN x) + m * wk) → B 2 (t * 12 + q) = A 2 (t * 12 + q)) ∧ ∀ j, j < 144 → B 2 j ≤ 1)))) 0 0 (syFr o) := by
  refine zz_met (cc := c_RM_crash) (by decide) (Nat.le_of_ble_eq_true rfl) ?_
  intro p e s m below meth c ls hE hr hlk hnm ⟨hM, hR, hA⟩ hl
  have hx := hE.1.1
  have hb := hE.1.2.1
  have hK := hE.2
  have hl : lv_has ls 2 [(0, .ref o), (1, .int x)] := hl
  have hL : zz_L (syFr o) ([] : List Loc) := zz_L.nil
  have hS : zz_fr (syFr o) s.heap s.heap := zz_fr.rf
  refine lv_aload_n hx hb d_RM_crash_0 rfl (lv_at hl 0 rfl) ?_
  refine fg_RM_24 hE hM.1 rfl d_RM_crash_1 ?_
  refine zz_callP (cl_RM_116 (rest := []) hE (k_Ru_isOpen l D ca (o + 3) tk wk A hw4) ⟨rfl, rfl, by decide, by decide⟩ hR hR.1 rfl hl.1 rfl (Nat.le_of_ble_eq_true rfl) d_RM_crash_4 ⟨by decide, by decide⟩) ?_
  refine zz_neB hx hb d_RM_crash_7 (tgt := 13) rfl (fun hT7 => ?_) (fun hF7 => ?_)
  · refine lv_aload_n hx hb d_RM_crash_13 rfl (lv_at hl 0 rfl) ?_
    refine fg_RM_24 hE hM.1 rfl d_RM_crash_14 ?_
    refine lv_iload_n hx hb d_RM_crash_17 rfl (lv_at hl 1 rfl) ?_
    refine zz_callP (cl_RM_120 (rest := []) hE (k_Ru_hasWorker l D ca (o + 3) tk wk A x) ⟨rfl, rfl, by decide, by decide⟩ hR hR.1 rfl hl.1 rfl (Nat.le_of_ble_eq_true rfl) d_RM_crash_18 ⟨by decide, by decide⟩) ?_
    refine zz_neB hx hb d_RM_crash_21 (tgt := 26) rfl (fun hT21 => ?_) (fun hF21 => ?_)
    · refine lv_aload_n hx hb d_RM_crash_26 rfl (lv_at hl 0 rfl) ?_
      refine fg_RM_24 hE hM.1 rfl d_RM_crash_27 ?_
      refine zz_callP (cl_RM_137 (rest := []) hE (k_Ru_isDone l D ca (o + 3) tk wk A hw4 htk hdd) ⟨rfl, rfl, by decide, by decide⟩ hR hR.1 rfl hl.1 rfl (Nat.le_of_ble_eq_true rfl) d_RM_crash_30 ⟨by decide, by decide⟩) ?_
      refine zz_eqB hx hb d_RM_crash_33 (tgt := 39) rfl (fun hT33 => ?_) (fun hF33 => ?_)
      · have hx21 := hT21
        obtain ⟨x0, hx0, rfl⟩ := zisR_nat hT21 (by omega)
        have cx : cN (nI x0) = x0 := nI_clamp (by omega)
        refine lv_aload_n hx hb d_RM_crash_39 rfl (lv_at hl 0 rfl) ?_
        refine fg_RM_24 hE hM.1 rfl d_RM_crash_40 ?_
        refine lv_iload_n hx hb d_RM_crash_43 rfl (lv_at hl 1 rfl) ?_
        refine zz_callI (cl_RM_140 (rest := []) hE (k_Ru_undoTasks l D ca (o + 3) tk wk A x0 (by omega) (hdd x0 (by omega)) (hts x0 hx0) hnb) ⟨rfl, rfl, by decide, by decide⟩ hR hR.1 rfl hl.1 rfl (Nat.le_of_ble_eq_true rfl) d_RM_crash_44 ⟨by decide, by decide⟩) hL (fun q h => ru_sy h) (fun H locs hpost hL => ?_)
        obtain ⟨hfr1, B, C, hR, hC, hud⟩ := hpost
        have hM := hM.kp hfr1
        have hA := hA.kp (fun q h1 h2 => hfr1.2 q (fun h => by have := h.2; omega))
        have hS := hS.tr (hfr1.mono (fun q h => ru_sy h))
        have hval : cCrash tk wk A (nI x0) = nI (A 1 x0) := by
            unfold cCrash
            rw [if_neg (by have := of_decide_eq_true hT7; omega), if_neg (by simp [hx21]), if_neg (of_decide_eq_false hT33), cx]
        have hb9 : bCrash tk wk A (nI x0) = true := by
            have h9 : wk ≠ 0 := (by have := of_decide_eq_true hT7; omega)
            have h8 := of_decide_eq_false hT33
            simp [bCrash, hx21, h9, h8]
        exact zz_iret hx hb hr hlk rfl ⟨by rw [hval], hS, hM, hA, C, hR, (fun h => by rw [hb9] at h; cases h), fun _ => ⟨B, by rw [cx]; exact hC, by rw [cx]; exact hud⟩⟩ hL d_RM_crash_47
      · refine lv_bipush (v := (-5 : Int32)) hx hb d_RM_crash_36 (by decide) ?_
        have hval : cCrash tk wk A x = (-5 : Int32) := by
            unfold cCrash
            rw [if_neg (by have := of_decide_eq_true hT7; omega), if_neg (by simp [hT21]), if_pos (of_decide_eq_true hF33)]
        have hb9 : bCrash tk wk A x = false := by
            have h9 := of_decide_eq_true hF33
            simp [bCrash, h9]
        exact zz_iret hx hb hr hlk rfl ⟨by rw [hval], hS, hM, hA, A, hR, fun _ => rfl, (fun h => by rw [hb9] at h; cases h)⟩ hL d_RM_crash_38
    · refine lv_iconst (v := (-1 : Int32)) hx hb d_RM_crash_24 (by decide) ?_
      have hval : cCrash tk wk A x = (-1 : Int32) := by
          unfold cCrash
          rw [if_neg (by have := of_decide_eq_true hT7; omega), if_pos hF21]
      have hb9 : bCrash tk wk A x = false := by
          simp [bCrash, hF21]
      exact zz_iret hx hb hr hlk rfl ⟨by rw [hval], hS, hM, hA, A, hR, fun _ => rfl, (fun h => by rw [hb9] at h; cases h)⟩ hL d_RM_crash_25
  · refine lv_bipush (v := (-4 : Int32)) hx hb d_RM_crash_10 (by decide) ?_
    have hval : cCrash tk wk A x = (-4 : Int32) := by
        unfold cCrash
        rw [if_pos (by simpa using hF7)]
    have hb9 : bCrash tk wk A x = false := by
        have h9 : wk = 0 := by simpa using hF7
        simp [bCrash, h9]
    exact zz_iret hx hb hr hlk rfl ⟨by rw [hval], hS, hM, hA, A, hR, fun _ => rfl, (fun h => by rw [hb9] at h; cases h)⟩ hL d_RM_crash_12

set_option maxHeartbeats 4000000 in
set_option maxRecDepth 100000 in
theorem k_RM_add (l : Launch) (D : va_G) (ca : Nat → ClassId) (o n h : Nat) (rl : Option Nat) (S : Nat → Option Nat) (K : Nat → Nat) (tk wk : Nat) (A : Nat → Nat → Nat) (F : Nat → Nat → Nat → Nat) (N Y : Nat → Nat → Nat) (W0 : Nat → Nat → Bool) (hn : n ≤ 12) : Met l y_RM_add w_RM_add (zr 1 0 0) (zz_P D ca [.ref o] (fun H => RmAt D ca H o n h rl S K ∧ RuAt D ca H (o + 3) tk wk A ∧ EnAll D ca H o F N Y W0)) (zz_Q (fun H H1 v => v = some (.int (if n = 12 then -2 else nI n)) ∧ zz_fr (syFr o) H H1 ∧ RmAt D ca H1 o (if n = 12 then n else n + 1) h rl S K ∧ RuAt D ca H1 (o + 3) tk (if n = 12 then wk else 0) A ∧ EnAll D ca H1 o F N Y W0)) 0 0 (syFr o) := by
  refine zz_met (cc := c_RM_add) (by decide) (Nat.le_of_ble_eq_true rfl) ?_
  intro p e s m below meth c ls hE hr hlk hnm ⟨hM, hR, hA⟩ hl
  have hx := hE.1.1
  have hb := hE.1.2.1
  have hK := hE.2
  have hl : lv_has ls 1 [(0, .ref o)] := hl
  have hL : zz_L (syFr o) ([] : List Loc) := zz_L.nil
  have hS : zz_fr (syFr o) s.heap s.heap := zz_fr.rf
  refine lv_aload_n hx hb d_RM_add_0 rfl (lv_at hl 0 rfl) ?_
  refine fg_RM_37 hE hM.1 rfl d_RM_add_1 ?_
  refine lv_bipush (v := nI 12) hx hb d_RM_add_4 (by decide) ?_
  refine zz_lt hx hb (by omega) (by omega) d_RM_add_6 (tgt := 12) rfl (fun hT6 => ?_) (fun hF6 => ?_)
  · refine lv_aload_n hx hb d_RM_add_12 rfl (lv_at hl 0 rfl) ?_
    refine fg_RM_24 hE hM.1 rfl d_RM_add_13 ?_
    refine zz_callN (cl_RM_51 (rest := []) hE (k_Ru_end l D ca (o + 3) tk wk A) ⟨rfl, rfl, by decide, by decide⟩ hR hR.1 rfl hl.1 rfl (Nat.le_of_ble_eq_true rfl) d_RM_add_16 ⟨by decide, by decide⟩) hL (fun q h => ru_sy h) (fun H locs hpost hL => ?_)
    obtain ⟨hfr1, hR⟩ := hpost
    have hM := hM.kp hfr1
    have hA := hA.kp (fun q h1 h2 => hfr1.2 q (fun h => by have := h.2; omega))
    have hS := hS.tr (hfr1.mono (fun q h => ru_sy h))
    refine lv_aload_n hx hb d_RM_add_19 rfl (lv_at hl 0 rfl) ?_
    refine lv_dup hx hb d_RM_add_20 rfl ?_
    refine fg_RM_37 hE hM.1 rfl d_RM_add_21 ?_
    refine lv_iconst (v := nI 1) hx hb d_RM_add_24 (by decide) ?_
    refine zz_iadd hx hb d_RM_add_25 ?_
    refine fp_RM_37 hE hM.1 hL (show syFr o o from ⟨by omega, by omega⟩) (Nat.le_of_ble_eq_true rfl) d_RM_add_26 (fun H locs h1 hu hL => ?_)
    have hS := hS.up hu (show syFr o o from ⟨by omega, by omega⟩)
    have hR := hR.kp (fun q h1 h2 => hu.2 q (by omega))
    have hA := hA.kp (fun q h1 h2 => hu.2 q (by omega))
    have hM : RmAt D ca H o (n + 1) h rl S K := ⟨h1, zz_keep hu (show o + 1 ≠ o by omega) hM.2.1, zz_keep hu (show o + 2 ≠ o by omega) hM.2.2.1, zz_keep hu (show o + 7 ≠ o by omega) hM.2.2.2⟩
    refine lv_aload_n hx hb d_RM_add_29 rfl (lv_at hl 0 rfl) ?_
    refine fg_RM_37 hE hM.1 rfl d_RM_add_30 ?_
    refine lv_iconst (v := nI 1) hx hb d_RM_add_33 (by decide) ?_
    refine zz_isub (by omega) hx hb d_RM_add_34 ?_
    exact zz_iret hx hb hr hlk rfl ⟨by rw [if_neg (by omega)] <;> simp, hS, by rw [if_neg (by omega)]; exact hM, by rw [if_neg (by omega)]; exact hR, hA⟩ hL d_RM_add_35
  · refine lv_bipush (v := (-2 : Int32)) hx hb d_RM_add_9 (by decide) ?_
    exact zz_iret hx hb hr hlk rfl ⟨by rw [if_pos (by omega)], hS, by rw [if_pos (by omega)]; exact hM, by rw [if_pos (by omega)]; exact hR, hA⟩ hL d_RM_add_11
