def wkFr (E : Nat → Prop) (o q : Nat) : Prop := E q ∨ syFr o q
theorem Rows.kp {D : va_G} {ca : Nat → ClassId} {E : Nat → Prop} {H H1 : Heap} (h : Rows D ca E H) (hf : ∀ q, E q → H1[q]? = H[q]?) : Rows D ca E H1 := fun q hq => by
  obtain ⟨R, hR⟩ := h q hq
  exact ⟨R, hR.kept (hf q hq)⟩
def cAcc (h c0 : Nat) (d0 : Bool) : Int32 := if h ≠ 1 then -1 else if d0 = false then -3 else nI c0
def bAcc2 (h : Nat) (d0 : Bool) : Bool := decide (h = 1) && d0
/-- the rule on two entries -/
def xHo (F : Nat → Nat → Nat → Nat) (N : Nat → Nat → Nat) (ts : List Tok) (j k : Nat) : Bool := xV (F j) (N j) (F k) (N k) ts
/-- the notes while a task is done -/
def wB (A : Nat → Nat → Nat) (t : Nat) (ho : Nat → Nat → Bool) (k : Nat) : Nat → Nat → Nat := fun a j => if a = 2 ∧ j / 12 = t ∧ j % 12 < k ∧ ho (j % 12) t = true then 1 else A a j
theorem wB_0 (A : Nat → Nat → Nat) (t : Nat) (ho : Nat → Nat → Bool) : wB A t ho 0 = A := by
  funext a j
  simp [wB]
theorem wB_1 (A : Nat → Nat → Nat) (t : Nat) (ho : Nat → Nat → Bool) (k a : Nat) (h : a ≠ 2) : wB A t ho k a = A a := by
  funext j
  simp [wB, h]
theorem wB_s {A : Nat → Nat → Nat} {t : Nat} {ho : Nat → Nat → Bool} {k : Nat} (hk : k < 12) (h : ho k t = true) : up2 (wB A t ho k) 2 (t * 12 + k) 1 = wB A t ho (k + 1) := by
  funext a j
  by_cases ha : a = 2
  · subst ha
    by_cases hj : j = t * 12 + k
    · subst hj
      rw [up2_s]
      simp only [wB]
      rw [if_pos ⟨trivial, by omega, by omega, by rw [show (t * 12 + k) % 12 = k by omega]; exact h⟩]
    · rw [up2_i hj]
      simp only [wB]
      by_cases h1 : j / 12 = t ∧ j % 12 < k ∧ ho (j % 12) t = true
      · rw [if_pos ⟨trivial, h1⟩, if_pos ⟨trivial, h1.1, by omega, h1.2.2⟩]
      · rw [if_neg (fun q => h1 q.2), if_neg (fun q => h1 ⟨q.2.1, by have := q.2.2.1; have := q.2.1; omega, q.2.2.2⟩)]
  · rw [up2_k ha, wB_1 _ _ _ _ _ ha, wB_1 _ _ _ _ _ ha]
theorem wB_n {A : Nat → Nat → Nat} {t : Nat} {ho : Nat → Nat → Bool} {k : Nat} (h : ho k t = false) : wB A t ho (k + 1) = wB A t ho k := by
  funext a j
  simp only [wB]
  by_cases h1 : a = 2 ∧ j / 12 = t ∧ j % 12 < k ∧ ho (j % 12) t = true
  · rw [if_pos h1, if_pos ⟨h1.1, h1.2.1, by have := h1.2.2.1; omega, h1.2.2.2⟩]
  · rw [if_neg h1, if_neg (fun q => h1 ⟨q.1, q.2.1, by
      have h2 := q.2.2.1
      have h3 := q.2.2.2
      by_cases h4 : j % 12 = k
      · rw [h4, h] at h3; cases h3
      · omega, q.2.2.2⟩)]
def cWork (tk wk : Nat) (A : Nat → Nat → Nat) (ho : Nat → Nat → Bool) (x : Int32) : Int32 := if wk = 0 then -4 else if zisR wk x = false then -1 else if tk ≤ cN x + A 1 (cN x) * wk then -5 else nI (zcnt (fun q => ho q (cN x + A 1 (cN x) * wk)) (cN x + A 1 (cN x) * wk))
def bWork2 (tk wk : Nat) (A : Nat → Nat → Nat) (x : Int32) : Bool := decide (wk ≠ 0) && zisR wk x && decide (cN x + A 1 (cN x) * wk < tk)

set_option maxHeartbeats 4000000 in
set_option maxRecDepth 100000 in
theorem k_RM_accept_0 (l : Launch) (D : va_G) (ca : Nat → ClassId) (o n h : Nat) (rl : Option Nat) (S : Nat → Option Nat) (K : Nat → Nat) (hh : h = 0) : Met l y_RM_accept w_RM_accept (zr 1 0 0) (zz_P D ca [.ref o] (fun H => RmAt D ca H o n h rl S K)) (zz_Q (fun H H1 v => H1 = H ∧ v = some (.int (-1)))) 0 0 (fun _ => False) := by
  refine zz_met (cc := c_RM_accept) (by decide) (Nat.le_of_ble_eq_true rfl) ?_
  intro p e s m below meth c ls hE hr hlk hnm hM hl
  have hx := hE.1.1
  have hb := hE.1.2.1
  have hK := hE.2
  have hl : lv_has ls 2 [(0, .ref o)] := hl
  have hL : zz_L (fun _ => False) ([] : List Loc) := zz_L.nil
  refine lv_aload_n hx hb d_RM_accept_0 rfl (lv_at hl 0 rfl) ?_
  refine lv_iconst (v := nI 0) hx hb d_RM_accept_1 (by decide) ?_
  refine zz_callP (cl_RM_85 (rest := []) hE (k_RM_fromTop_n l D ca o n h rl S K 0 (by omega) (by decide) (by omega)) ⟨rfl, rfl, by decide, by decide⟩ hM hM.1 rfl hl.1 rfl (Nat.le_of_ble_eq_true rfl) d_RM_accept_2 ⟨by decide, by decide⟩) ?_
  refine lv_astore_nN hx hb d_RM_accept_5 rfl hl (by decide) rfl (fun ls hl => ?_)
  have hl : lv_has ls 2 [(1, .null), (0, .ref o)] := hl
  refine lv_aload_nN hx hb d_RM_accept_6 rfl (lv_at hl 0 rfl) ?_
  refine lv_ifnullN hx hb d_RM_accept_7 (tgt := 18) rfl ?_
  refine lv_iconst (v := (-1 : Int32)) hx hb d_RM_accept_18 (by decide) ?_
  exact zz_iret hx hb hr hlk rfl ⟨rfl, congrArg (fun z => some (Value.int z)) (rfl)⟩ hL d_RM_accept_19

set_option maxHeartbeats 4000000 in
set_option maxRecDepth 100000 in
theorem k_RM_accept (l : Launch) (D : va_G) (ca : Nat → ClassId) (o n h : Nat) (rl : Option Nat) (S : Nat → Option Nat) (K : Nat → Nat) (tk wk : Nat) (A : Nat → Nat → Nat) (F : Nat → Nat → Nat → Nat) (N Y : Nat → Nat → Nat) (W0 : Nat → Nat → Bool) (y c0 : Nat) (d0 : Bool) (hh : h ≤ 6) (hh1 : 1 ≤ h) (hs0 : S (h - 1 - 0) = some y) (hy : o + 73 ≤ y) : Met l y_RM_accept w_RM_accept (zr 1 0 0) (zz_P D ca [.ref o] (fun H => RmAt D ca H o n h rl S K ∧ RuAt D ca H (o + 3) tk wk A ∧ EnAll D ca H o F N Y W0 ∧ XH D H y c0 d0)) (zz_Q (fun H H1 v => v = some (.int (cAcc h c0 d0)) ∧ zz_fr (syFr o) H H1 ∧ RmAt D ca H1 o n (if bAcc2 h d0 = true then 0 else h) (if bAcc2 h d0 = true then some y else rl) S K ∧ RuAt D ca H1 (o + 3) tk (if bAcc2 h d0 = true then 0 else wk) A ∧ EnAll D ca H1 o F N Y W0)) 0 0 (syFr o) := by
  refine zz_met (cc := c_RM_accept) (by decide) (Nat.le_of_ble_eq_true rfl) ?_
  intro p e s m below meth c ls hE hr hlk hnm ⟨hM, hR, hA, hP⟩ hl
  have hx := hE.1.1
  have hb := hE.1.2.1
  have hK := hE.2
  have hl : lv_has ls 2 [(0, .ref o)] := hl
  have hL : zz_L (syFr o) ([] : List Loc) := zz_L.nil
  have hS : zz_fr (syFr o) s.heap s.heap := zz_fr.rf
  refine lv_aload_n hx hb d_RM_accept_0 rfl (lv_at hl 0 rfl) ?_
  refine lv_iconst (v := nI 0) hx hb d_RM_accept_1 (by decide) ?_
  refine zz_callP (cl_RM_85 (rest := []) hE (k_RM_fromTop_s l D ca o n h rl S K 0 y (by omega) (by decide) (by omega) hs0) ⟨rfl, rfl, by decide, by decide⟩ hM hM.1 rfl hl.1 rfl (Nat.le_of_ble_eq_true rfl) d_RM_accept_2 ⟨by decide, by decide⟩) ?_
  refine lv_astore_n hx hb d_RM_accept_5 rfl hl (by decide) rfl (fun ls hl => ?_)
  have hl : lv_has ls 2 [(1, .ref y), (0, .ref o)] := hl
  refine lv_aload_n hx hb d_RM_accept_6 rfl (lv_at hl 0 rfl) ?_
  refine lv_ifnull hx hb d_RM_accept_7 ?_
  refine lv_aload_n hx hb d_RM_accept_10 rfl (lv_at hl 1 rfl) ?_
  refine fg_RM_68 hE hM.1 rfl d_RM_accept_11 ?_
  refine lv_iconst (v := nI 1) hx hb d_RM_accept_14 (by decide) ?_
  refine zz_le hx hb (by omega) (by omega) d_RM_accept_15 (tgt := 20) rfl (fun hT15 => ?_) (fun hF15 => ?_)
  · refine lv_aload_n hx hb d_RM_accept_20 rfl (lv_at hl 0 rfl) ?_
    refine xg_RM_97 hE hP d_RM_accept_21 ?_
    refine zz_neB hx hb d_RM_accept_24 (tgt := 30) rfl (fun hT24 => ?_) (fun hF24 => ?_)
    · refine lv_aload_n hx hb d_RM_accept_30 rfl (lv_at hl 1 rfl) ?_
      refine lv_aload_n hx hb d_RM_accept_31 rfl (lv_at hl 0 rfl) ?_
      refine fp_RM_101 hE hM.1 hL (show syFr o o from ⟨by omega, by omega⟩) (Nat.le_of_ble_eq_true rfl) d_RM_accept_32 (fun H locs h1 hu hL => ?_)
      have hS := hS.up hu (show syFr o o from ⟨by omega, by omega⟩)
      have hR := hR.kp (fun q h1 h2 => hu.2 q (by omega))
      have hA := hA.kp (fun q h1 h2 => hu.2 q (by omega))
      have hM : RmAt D ca H o n h (some y) S K := ⟨h1, zz_keep hu (show o + 1 ≠ o by omega) hM.2.1, zz_keep hu (show o + 2 ≠ o by omega) hM.2.2.1, zz_keep hu (show o + 7 ≠ o by omega) hM.2.2.2⟩
      replace hP := hP.kp (hu.2 _ (by omega))
      refine lv_aload_n hx hb d_RM_accept_35 rfl (lv_at hl 1 rfl) ?_
      refine lv_iconst (v := nI 0) hx hb d_RM_accept_36 (by decide) ?_
      refine fp_RM_68 hE hM.1 hL (show syFr o o from ⟨by omega, by omega⟩) (Nat.le_of_ble_eq_true rfl) d_RM_accept_37 (fun H locs h1 hu hL => ?_)
      have hS := hS.up hu (show syFr o o from ⟨by omega, by omega⟩)
      have hR := hR.kp (fun q h1 h2 => hu.2 q (by omega))
      have hA := hA.kp (fun q h1 h2 => hu.2 q (by omega))
      have hM : RmAt D ca H o n 0 (some y) S K := ⟨h1, zz_keep hu (show o + 1 ≠ o by omega) hM.2.1, zz_keep hu (show o + 2 ≠ o by omega) hM.2.2.1, zz_keep hu (show o + 7 ≠ o by omega) hM.2.2.2⟩
      replace hP := hP.kp (hu.2 _ (by omega))
      refine lv_aload_n hx hb d_RM_accept_40 rfl (lv_at hl 1 rfl) ?_
      refine fg_RM_24 hE hM.1 rfl d_RM_accept_41 ?_
      refine zz_callN (cl_RM_51 (rest := []) hE (k_Ru_end l D ca (o + 3) tk wk A) ⟨rfl, rfl, by decide, by decide⟩ hR hR.1 rfl hl.1 rfl (Nat.le_of_ble_eq_true rfl) d_RM_accept_44 ⟨by decide, by decide⟩) hL (fun q h => ru_sy h) (fun H locs hpost hL => ?_)
      obtain ⟨hfr1, hR⟩ := hpost
      have hM := hM.kp hfr1
      have hA := hA.kp (fun q h1 h2 => hfr1.2 q (fun h => by have := h.2; omega))
      have hS := hS.tr (hfr1.mono (fun q h => ru_sy h))
      replace hP := hP.kp (hfr1.2 _ (fun z => by have := z.2; omega))
      refine lv_aload_n hx hb d_RM_accept_47 rfl (lv_at hl 0 rfl) ?_
      refine xg_RM_89 hE hP d_RM_accept_48 ?_
      have hv1 : cAcc h c0 d0 = nI c0 := by unfold cAcc; rw [if_neg (by omega), if_neg (by simp [hT24])]
      have hv2 : bAcc2 h d0 = true := by simp only [bAcc2, hT24, decide_eq_true (show h = 1 by omega)]; rfl
      exact zz_iret hx hb hr hlk rfl ⟨by rw [hv1], hS, by rw [if_pos hv2, if_pos hv2]; exact hM, by rw [if_pos hv2]; exact hR, hA⟩ hL d_RM_accept_51
    · refine lv_bipush (v := (-3 : Int32)) hx hb d_RM_accept_27 (by decide) ?_
      have hv1 : cAcc h c0 d0 = -3 := by unfold cAcc; rw [if_neg (by omega), if_pos hF24]
      have hv2 : ¬ bAcc2 h d0 = true := by simp [bAcc2, hF24]
      exact zz_iret hx hb hr hlk rfl ⟨by rw [hv1], hS, by rw [if_neg hv2, if_neg hv2]; exact hM, by rw [if_neg hv2]; exact hR, hA⟩ hL d_RM_accept_29
  · refine lv_iconst (v := (-1 : Int32)) hx hb d_RM_accept_18 (by decide) ?_
    have hv1 : cAcc h c0 d0 = -1 := by unfold cAcc; rw [if_pos (by omega)]
    have hv2 : ¬ bAcc2 h d0 = true := by simp only [bAcc2, decide_eq_false (show ¬ h = 1 by omega)]; simp
    exact zz_iret hx hb hr hlk rfl ⟨by rw [hv1], hS, by rw [if_neg hv2, if_neg hv2]; exact hM, by rw [if_neg hv2]; exact hR, hA⟩ hL d_RM_accept_19

set_option maxHeartbeats 4000000 in
set_option maxRecDepth 100000 in
theorem k_RM_similar_none (l : Launch) (D : va_G) (ca : Nat → ClassId) (o n h : Nat) (S : Nat → Option Nat) (K : Nat → Nat) (x u : Int32) : Met l y_RM_similar w_RM_similar (zr 2 0 0) (zz_P D ca [.ref o, .int x, .int u] (fun H => RmAt D ca H o n h none S K)) (zz_Q (fun H H1 v => H1 = H ∧ v = some (.int (-4)))) 0 0 (fun _ => False) := by
  refine zz_met (cc := c_RM_similar) (by decide) (Nat.le_of_ble_eq_true rfl) ?_
  intro p e s m below meth c ls hE hr hlk hnm hM hl
  have hx := hE.1.1
  have hb := hE.1.2.1
  have hK := hE.2
  have hl : lv_has ls 3 [(0, .ref o), (1, .int x), (2, .int u)] := hl
  have hL : zz_L (fun _ => False) ([] : List Loc) := zz_L.nil
  refine lv_aload_n hx hb d_RM_similar_0 rfl (lv_at hl 0 rfl) ?_
  refine fg_RM_101 hE hM.1 rfl d_RM_similar_1 ?_
  refine lv_ifnonnullN hx hb d_RM_similar_4 ?_
  refine lv_bipush (v := (-4 : Int32)) hx hb d_RM_similar_7 (by decide) ?_
  exact zz_iret hx hb hr hlk rfl ⟨rfl, congrArg (fun z => some (Value.int z)) (rfl)⟩ hL d_RM_similar_9

set_option maxHeartbeats 4000000 in
set_option maxRecDepth 100000 in
theorem k_RM_similar (l : Launch) (D : va_G) (ca : Nat → ClassId) (o n h y : Nat) (S : Nat → Option Nat) (K : Nat → Nat) (F : Nat → Nat → Nat → Nat) (N Y : Nat → Nat → Nat) (W0 : Nat → Nat → Bool) (E : Nat → Prop) (z : Nat) (ts : List Tok) (hn : n ≤ 12) (hN : ∀ i f, N i f ≤ 12) (hF : ∀ i f j, j < 12 → F i f j < 65536) (hEz : ∀ q, E q → o + 73 ≤ q) (hz : o + 73 ≤ z) (x u : Int32) : Met l y_RM_similar w_RM_similar (zr 17 0 0) (zz_P D ca [.ref o, .int x, .int u] (fun H => RmAt D ca H o n h (some y) S K ∧ EnAll D ca H o F N Y W0 ∧ XAt D ca E z H 12 y ts ∧ Rows D ca E H)) (zz_Q (fun H H1 v => v = some (.int (aSimilar n 1 (xHo F N ts) x u)) ∧ zz_fr E H H1 ∧ Rows D ca E H1)) 0 0 E := by
  refine zz_met (cc := c_RM_similar) (by decide) (Nat.le_of_ble_eq_true rfl) ?_
  intro p e s m below meth c ls hE hr hlk hnm ⟨hM, hA, hX, hRw⟩ hl
  have hx := hE.1.1
  have hb := hE.1.2.1
  have hK := hE.2
  have hl : lv_has ls 3 [(0, .ref o), (1, .int x), (2, .int u)] := hl
  have hL : zz_L E ([] : List Loc) := zz_L.nil
  refine lv_aload_n hx hb d_RM_similar_0 rfl (lv_at hl 0 rfl) ?_
  refine fg_RM_101 hE hM.1 rfl d_RM_similar_1 ?_
  refine lv_ifnonnull hx hb d_RM_similar_4 (tgt := 10) rfl ?_
  refine lv_aload_n hx hb d_RM_similar_10 rfl (lv_at hl 0 rfl) ?_
  refine lv_iload_n hx hb d_RM_similar_11 rfl (lv_at hl 1 rfl) ?_
  refine lv_iload_n hx hb d_RM_similar_12 rfl (lv_at hl 2 rfl) ?_
  refine zz_callP (cl_RM_105 (rest := []) hE (k_RM_areTwoRecords l D ca o n h (some y) S K x u) ⟨rfl, rfl, by decide, by decide⟩ hM hM.1 rfl hl.1 rfl (Nat.le_of_ble_eq_true rfl) d_RM_similar_13 ⟨by decide, by decide⟩) ?_
  refine zz_neB hx hb d_RM_similar_16 (tgt := 21) rfl (fun hT16 => ?_) (fun hF16 => ?_)
  · have hx16 := hT16
    have hz1 : zisR n x = true := by simp only [aTwo, Bool.and_eq_true] at hT16; exact hT16.1.1
    have hz2 : zisR n u = true := by simp only [aTwo, Bool.and_eq_true] at hT16; exact hT16.1.2
    have hz3 : x ≠ u := by simp only [aTwo, Bool.and_eq_true] at hT16; exact of_decide_eq_true hT16.2
    have hq1 := hz1
    have hq2 := hz2
    obtain ⟨x0, hx0, rfl⟩ := zisR_nat hz1 (by omega)
    obtain ⟨u0, hu0, rfl⟩ := zisR_nat hz2 (by omega)
    have cx : cN (nI x0) = x0 := nI_clamp (by omega)
    have cu : cN (nI u0) = u0 := nI_clamp (by omega)
    refine lv_aload_n hx hb d_RM_similar_21 rfl (lv_at hl 0 rfl) ?_
    refine fg_RM_101 hE hM.1 rfl d_RM_similar_22 ?_
    refine lv_aload_n hx hb d_RM_similar_25 rfl (lv_at hl 0 rfl) ?_
    refine fg_RM_11 hE hM.1 rfl d_RM_similar_26 ?_
    refine lv_iload_n hx hb d_RM_similar_29 rfl (lv_at hl 1 rfl) ?_
    refine zz_aald hx hb hK.1 hM.2.1 3 rfl (i := x0) (by omega) (by omega) d_RM_similar_30 ?_
    refine lv_aload_n hx hb d_RM_similar_31 rfl (lv_at hl 0 rfl) ?_
    refine fg_RM_11 hE hM.1 rfl d_RM_similar_32 ?_
    refine lv_iload_n hx hb d_RM_similar_35 rfl (lv_at hl 2 rfl) ?_
    refine zz_aald hx hb hK.1 hM.2.1 3 rfl (i := u0) (by omega) (by omega) d_RM_similar_36 ?_
    refine xc_RM_109 hE (fun d' hd' => k_Jo_holdsOf l D ca E z (o + 8 + 5 * x0) (F x0) (N x0) (Y x0) (W0 x0) (o + 8 + 5 * u0) (F u0) (N u0) (Y u0) (W0 u0) ⟨fun q hq => ⟨fun hq2 => by have := hEz q hq; omega, fun hq2 => by have := hEz q hq; omega⟩, fun f _ => ⟨hN x0 f, hN u0 f, hF x0 f, hF u0 f⟩⟩ d') hX (hA x0 (by omega)) (hA u0 (by omega)) hRw ⟨fun q hq => ⟨fun hq2 => by have := hEz q hq; omega, fun hq2 => by have := hEz q hq; omega⟩, fun f _ => ⟨hN x0 f, hN u0 f, hF x0 f, hF u0 f⟩⟩ ⟨by decide, by decide⟩ ⟨Nat.le_refl _, Nat.le_refl _⟩ hl.1 (Nat.le_of_ble_eq_true rfl) d_RM_similar_37 hL (fun _ h => h) (fun H locs hfr hRw hL => ?_)
    refine zz_eqB hx hb d_RM_similar_40 (tgt := 47) rfl (fun hT40 => ?_) (fun hF40 => ?_)
    · refine lv_iconst (v := nI 0) hx hb d_RM_similar_47 (by decide) ?_
      have hval : aSimilar n 1 (xHo F N ts) (nI x0) (nI u0) = nI 0 := by unfold aSimilar; rw [if_neg (by decide), if_pos ⟨hq1, hq2, hz3⟩, cx, cu, show xHo F N ts x0 u0 = _ from hT40]; rfl
      exact zz_iret hx hb hr hlk rfl ⟨by rw [hval], hfr, hRw⟩ hL d_RM_similar_48
    · refine lv_iconst (v := nI 1) hx hb d_RM_similar_43 (by decide) ?_
      refine lv_goto hx hb d_RM_similar_44 (tgt := 48) rfl ?_
      have hval : aSimilar n 1 (xHo F N ts) (nI x0) (nI u0) = nI 1 := by unfold aSimilar; rw [if_neg (by decide), if_pos ⟨hq1, hq2, hz3⟩, cx, cu, show xHo F N ts x0 u0 = _ from hF40]; rfl
      exact zz_iret hx hb hr hlk rfl ⟨by rw [hval], hfr, hRw⟩ hL d_RM_similar_48
  · refine lv_iconst (v := (-1 : Int32)) hx hb d_RM_similar_19 (by decide) ?_
    have hval : aSimilar n 1 (xHo F N ts) x u = -1 := by unfold aSimilar; rw [if_neg (by decide), if_neg (fun q => by simp [aTwo, q.1, q.2.1, q.2.2] at hF16)]
    exact zz_iret hx hb hr hlk rfl ⟨by rw [hval], zz_fr.rf, hRw⟩ hL d_RM_similar_20

set_option maxHeartbeats 4000000 in
set_option maxRecDepth 100000 in
theorem k_RM_work_none (l : Launch) (D : va_G) (ca : Nat → ClassId) (o n h : Nat) (S : Nat → Option Nat) (K : Nat → Nat) (x : Int32) : Met l y_RM_work w_RM_work (zr 2 0 0) (zz_P D ca [.ref o, .int x] (fun H => RmAt D ca H o n h none S K)) (zz_Q (fun H H1 v => H1 = H ∧ v = some (.int (-4)))) 0 0 (fun _ => False) := by
  refine zz_met (cc := c_RM_work) (by decide) (Nat.le_of_ble_eq_true rfl) ?_
  intro p e s m below meth c ls hE hr hlk hnm hM hl
  have hx := hE.1.1
  have hb := hE.1.2.1
  have hK := hE.2
  have hl : lv_has ls 5 [(0, .ref o), (1, .int x)] := hl
  have hL : zz_L (fun _ => False) ([] : List Loc) := zz_L.nil
  refine lv_aload_n hx hb d_RM_work_0 rfl (lv_at hl 0 rfl) ?_
  refine fg_RM_101 hE hM.1 rfl d_RM_work_1 ?_
  refine lv_ifnullN hx hb d_RM_work_4 (tgt := 17) rfl ?_
  refine lv_bipush (v := (-4 : Int32)) hx hb d_RM_work_17 (by decide) ?_
  exact zz_iret hx hb hr hlk rfl ⟨rfl, congrArg (fun z => some (Value.int z)) (rfl)⟩ hL d_RM_work_19

set_option maxHeartbeats 4000000 in
set_option maxRecDepth 100000 in
theorem k_RM_work (l : Launch) (D : va_G) (ca : Nat → ClassId) (o n h y : Nat) (S : Nat → Option Nat) (K : Nat → Nat) (tk wk : Nat) (A : Nat → Nat → Nat) (F : Nat → Nat → Nat → Nat) (N Y : Nat → Nat → Nat) (W0 : Nat → Nat → Bool) (E : Nat → Prop) (z : Nat) (ts : List Tok) (hw4 : wk ≤ 4) (htk : tk ≤ 12) (hnb : ∀ j, j < 144 → A 2 j ≤ 1) (hdd : ∀ v, v < 4 → A 1 v ≤ 12) (hn : n ≤ 12) (hN : ∀ i f, N i f ≤ 12) (hF : ∀ i f j, j < 12 → F i f j < 65536) (hEz : ∀ q, E q → o + 73 ≤ q) (hz : o + 73 ≤ z) (x : Int32) : Met l y_RM_work w_RM_work (zr 17 0 0) (zz_P D ca [.ref o, .int x] (fun H => RmAt D ca H o n h (some y) S K ∧ RuAt D ca H (o + 3) tk wk A ∧ EnAll D ca H o F N Y W0 ∧ XAt D ca E z H 12 y ts ∧ Rows D ca E H)) (zz_Q (fun H H1 v => v = some (.int (cWork tk wk A (xHo F N ts) x)) ∧ zz_fr (wkFr E o) H H1 ∧ RmAt D ca H1 o n h (some y) S K ∧ EnAll D ca H1 o F N Y W0 ∧ Rows D ca E H1 ∧ (bWork2 tk wk A x = false → RuAt D ca H1 (o + 3) tk wk A) ∧ (bWork2 tk wk A x = true → RuAt D ca H1 (o + 3) tk wk (up2 (wB A (cN x + A 1 (cN x) * wk) (xHo F N ts) (cN x + A 1 (cN x) * wk)) 1 (cN x) (A 1 (cN x) + 1))))) 0 0 (wkFr E o) := by
  refine zz_met (cc := c_RM_work) (by decide) (Nat.le_of_ble_eq_true rfl) ?_
  intro p e s m below meth c ls hE hr hlk hnm ⟨hM, hR, hA, hX, hRw⟩ hl
  have hx := hE.1.1
  have hb := hE.1.2.1
  have hK := hE.2
  have hl : lv_has ls 5 [(0, .ref o), (1, .int x)] := hl
  have hL : zz_L (wkFr E o) ([] : List Loc) := zz_L.nil
  have hS : zz_fr (wkFr E o) s.heap s.heap := zz_fr.rf
  refine lv_aload_n hx hb d_RM_work_0 rfl (lv_at hl 0 rfl) ?_
  refine fg_RM_101 hE hM.1 rfl d_RM_work_1 ?_
  refine lv_ifnull hx hb d_RM_work_4 ?_
  refine lv_aload_n hx hb d_RM_work_7 rfl (lv_at hl 0 rfl) ?_
  refine fg_RM_24 hE hM.1 rfl d_RM_work_8 ?_
  refine zz_callP (cl_RM_116 (rest := []) hE (k_Ru_isOpen l D ca (o + 3) tk wk A hw4) ⟨rfl, rfl, by decide, by decide⟩ hR hR.1 rfl hl.1 rfl (Nat.le_of_ble_eq_true rfl) d_RM_work_11 ⟨by decide, by decide⟩) ?_
  refine zz_neB hx hb d_RM_work_14 (tgt := 20) rfl (fun hT14 => ?_) (fun hF14 => ?_)
  · refine lv_aload_n hx hb d_RM_work_20 rfl (lv_at hl 0 rfl) ?_
    refine fg_RM_24 hE hM.1 rfl d_RM_work_21 ?_
    refine lv_iload_n hx hb d_RM_work_24 rfl (lv_at hl 1 rfl) ?_
    refine zz_callP (cl_RM_120 (rest := []) hE (k_Ru_hasWorker l D ca (o + 3) tk wk A x) ⟨rfl, rfl, by decide, by decide⟩ hR hR.1 rfl hl.1 rfl (Nat.le_of_ble_eq_true rfl) d_RM_work_25 ⟨by decide, by decide⟩) ?_
    refine zz_neB hx hb d_RM_work_28 (tgt := 33) rfl (fun hT28 => ?_) (fun hF28 => ?_)
    · have hx28 := hT28
      obtain ⟨x0, hx0, rfl⟩ := zisR_nat hT28 (by omega)
      have cx : cN (nI x0) = x0 := nI_clamp (by omega)
      have p1 := zmul_le (hdd x0 (by omega)) hw4
      refine lv_aload_n hx hb d_RM_work_33 rfl (lv_at hl 0 rfl) ?_
      refine fg_RM_24 hE hM.1 rfl d_RM_work_34 ?_
      refine lv_iload_n hx hb d_RM_work_37 rfl (lv_at hl 1 rfl) ?_
      refine zz_callP (cl_RM_123 (rest := []) hE (k_Ru_nextTask l D ca (o + 3) tk wk A x0 (by omega)) ⟨rfl, rfl, by decide, by decide⟩ hR hR.1 rfl hl.1 rfl (Nat.le_of_ble_eq_true rfl) d_RM_work_38 ⟨by decide, by decide⟩) ?_
      refine lv_istore_n hx hb d_RM_work_41 rfl hl (by decide) rfl (fun ls hl => ?_)
      have hl : lv_has ls 5 [(2, .int (nI (x0 + A 1 x0 * wk))), (0, .ref o), (1, .int (nI x0))] := hl
      refine lv_iload_n hx hb d_RM_work_42 rfl (lv_at hl 0 rfl) ?_
      refine lv_aload_n hx hb d_RM_work_43 rfl (lv_at hl 1 rfl) ?_
      refine fg_RM_24 hE hM.1 rfl d_RM_work_44 ?_
      refine fg_RM_127 hE hR.1 rfl d_RM_work_47 ?_
      refine zz_lt hx hb (by omega) (by omega) d_RM_work_50 (tgt := 56) rfl (fun hT50 => ?_) (fun hF50 => ?_)
      · have hlt5 := hT50
        rw [← wB_0 A (x0 + A 1 x0 * wk) (xHo F N ts)] at hR
        refine lv_iconst (v := nI 0) hx hb d_RM_work_56 (by decide) ?_
        refine lv_istore_n hx hb d_RM_work_57 rfl hl (by decide) rfl (fun ls hl => ?_)
        have hl : lv_has ls 5 [(3, .int (nI 0)), (2, .int (nI (x0 + A 1 x0 * wk))), (0, .ref o), (1, .int (nI x0))] := hl
        refine lv_iconst (v := nI 0) hx hb d_RM_work_58 (by decide) ?_
        refine lv_istore hx hb d_RM_work_59 hl (by decide) rfl (fun ls hl => ?_)
        have hl : lv_has ls 5 [(4, .int (nI 0)), (3, .int (nI 0)), (2, .int (nI (x0 + A 1 x0 * wk))), (0, .ref o), (1, .int (nI x0))] := hl
        have hl : lv_has ls 5 [(0, .ref o), (1, .int (nI x0)), (2, .int (nI (x0 + A 1 x0 * wk))), (3, .int (nI 0)), (4, .int (nI 0))] := lv_sub hl [3, 4, 2, 1, 0] rfl
        refine zz_loopH (σ := Nat) (fun k ls H locs => lv_has ls 5 [(0, .ref o), (1, .int (nI x0)), (2, .int (nI (x0 + A 1 x0 * wk))), (3, .int (nI (zcnt (fun q => xHo F N ts q (x0 + A 1 x0 * wk)) k))), (4, .int (nI k))] ∧ k ≤ (x0 + A 1 x0 * wk) ∧ RmAt D ca H o n h (some y) S K ∧ RuAt D ca H (o + 3) tk wk (wB A (x0 + A 1 x0 * wk) (xHo F N ts) k) ∧ EnAll D ca H o F N Y W0 ∧ XAt D ca E z H 12 y ts ∧ Rows D ca E H ∧ zz_fr (wkFr E o) s.heap H ∧ zz_L (wkFr E o) locs) (fun k => (x0 + A 1 x0 * wk) - k) ?_ 0 ls _ _ ⟨hl, Nat.zero_le _, hM, hR, hA, hX, hRw, hS, hL⟩
        rintro k ih ls H locs ⟨hl, hk, hM, hR, hA, hX, hRw, hS, hL⟩
        refine lv_iload hx hb d_RM_work_61 (lv_at hl 4 rfl) ?_
        refine lv_iload_n hx hb d_RM_work_63 rfl (lv_at hl 2 rfl) ?_
        refine zz_ge hx hb (by omega) (by omega) d_RM_work_64 (tgt := 109) rfl (fun hT64 => ?_) (fun hF64 => ?_)
        · refine lv_aload_n hx hb d_RM_work_109 rfl (lv_at hl 0 rfl) ?_
          refine fg_RM_24 hE hM.1 rfl d_RM_work_110 ?_
          refine lv_iload_n hx hb d_RM_work_113 rfl (lv_at hl 1 rfl) ?_
          refine zz_callN (cl_RM_133 (rest := []) hE (k_Ru_finishTask l D ca (o + 3) tk wk (wB A (x0 + A 1 x0 * wk) (xHo F N ts) k) x0 (by omega)) ⟨rfl, rfl, by decide, by decide⟩ hR hR.1 rfl hl.1 rfl (Nat.le_of_ble_eq_true rfl) d_RM_work_114 ⟨by decide, by decide⟩) hL (fun q h => Or.inr (ru_sy h)) (fun H locs hpost hL => ?_)
          obtain ⟨hfr1, hR⟩ := hpost
          have hM := hM.kp hfr1
          have hA := hA.kp (fun q h1 h2 => hfr1.2 q (fun h => by have := h.2; omega))
          have hS := hS.tr (hfr1.mono (fun q h => Or.inr (ru_sy h)))
          have hRw := hRw.kp (fun q hq => hfr1.2 q (fun h => by have := h.2; have := hEz q hq; omega))
          have hX := XAt.kp (fun q z1 _ _ => hfr1.2 q (fun h => by have := h.2; omega)) hRw hX
          rw [wB_1 _ _ _ _ 1 (by decide)] at hR
          refine lv_iload_n hx hb d_RM_work_117 rfl (lv_at hl 3 rfl) ?_
          have hval : cWork tk wk A (xHo F N ts) (nI x0) = nI (zcnt (fun q => xHo F N ts q (x0 + A 1 x0 * wk)) k) := by unfold cWork; rw [if_neg (by have := of_decide_eq_true hT14; omega), if_neg (by simp [hx28]), cx, if_neg (by omega), show k = (x0 + A 1 x0 * wk) by omega]
          have hb9 : bWork2 tk wk A (nI x0) = true := by simp only [bWork2, cx, hx28, decide_eq_true (show wk ≠ 0 from (by have := of_decide_eq_true hT14; omega)), decide_eq_true hlt5]; rfl
          exact zz_iret hx hb hr hlk rfl ⟨by rw [hval], hS, hM, hA, hRw, (fun h9 => by rw [hb9] at h9; cases h9), fun _ => by rw [cx]; rw [show k = (x0 + A 1 x0 * wk) by omega] at hR; exact hR⟩ hL d_RM_work_118
        · refine lv_aload_n hx hb d_RM_work_67 rfl (lv_at hl 0 rfl) ?_
          refine fg_RM_101 hE hM.1 rfl d_RM_work_68 ?_
          refine lv_aload_n hx hb d_RM_work_71 rfl (lv_at hl 0 rfl) ?_
          refine fg_RM_11 hE hM.1 rfl d_RM_work_72 ?_
          refine lv_iload hx hb d_RM_work_75 (lv_at hl 4 rfl) ?_
          refine zz_aald hx hb hK.1 hM.2.1 3 rfl (i := k) (by omega) (by omega) d_RM_work_77 ?_
          refine lv_aload_n hx hb d_RM_work_78 rfl (lv_at hl 0 rfl) ?_
          refine fg_RM_11 hE hM.1 rfl d_RM_work_79 ?_
          refine lv_iload_n hx hb d_RM_work_82 rfl (lv_at hl 2 rfl) ?_
          refine zz_aald hx hb hK.1 hM.2.1 3 rfl (i := x0 + A 1 x0 * wk) (by omega) (by omega) d_RM_work_83 ?_
          refine xc_RM_109 hE (fun d' hd' => k_Jo_holdsOf l D ca E z (o + 8 + 5 * k) (F k) (N k) (Y k) (W0 k) (o + 8 + 5 * (x0 + A 1 x0 * wk)) (F (x0 + A 1 x0 * wk)) (N (x0 + A 1 x0 * wk)) (Y (x0 + A 1 x0 * wk)) (W0 (x0 + A 1 x0 * wk)) ⟨fun q hq => ⟨fun hq2 => by have := hEz q hq; omega, fun hq2 => by have := hEz q hq; omega⟩, fun f _ => ⟨hN k f, hN (x0 + A 1 x0 * wk) f, hF k f, hF (x0 + A 1 x0 * wk) f⟩⟩ d') hX (hA k (by omega)) (hA (x0 + A 1 x0 * wk) (by omega)) hRw ⟨fun q hq => ⟨fun hq2 => by have := hEz q hq; omega, fun hq2 => by have := hEz q hq; omega⟩, fun f _ => ⟨hN k f, hN (x0 + A 1 x0 * wk) f, hF k f, hF (x0 + A 1 x0 * wk) f⟩⟩ ⟨by decide, by decide⟩ ⟨Nat.le_refl _, Nat.le_refl _⟩ hl.1 (Nat.le_of_ble_eq_true rfl) d_RM_work_84 hL (fun _ h => Or.inl h) (fun H locs hfr hRw hL => ?_)
          have hS := hS.tr (hfr.mono (fun q h => Or.inl h))
          have hM := hM.fr (fun q h1 h2 h3 => hfr.2 q (fun z1 => by have := hEz q z1; omega))
          have hR := hR.kp (fun q h1 h2 => hfr.2 q (fun z1 => by have := hEz q z1; omega))
          have hA := hA.kp (fun q h1 h2 => hfr.2 q (fun z1 => by have := hEz q z1; omega))
          have hX := XAt.kp (fun q _ _ hq => hfr.2 q hq) hRw hX
          refine zz_eqB hx hb d_RM_work_87 (tgt := 103) rfl (fun hT87 => ?_) (fun hF87 => ?_)
          · refine lv_iinc (k := 4) (v := nI (k + 1)) hx hb d_RM_work_103 hl rfl (zz_inc _) (by decide) rfl (fun ls hl => ?_)
            have hl : lv_has ls 5 [(4, .int (nI (k + 1))), (0, .ref o), (1, .int (nI x0)), (2, .int (nI (x0 + A 1 x0 * wk))), (3, .int (nI (zcnt (fun q => xHo F N ts q (x0 + A 1 x0 * wk)) k)))] := hl
            refine lv_goto hx hb d_RM_work_106 (tgt := 61) rfl ?_
            rw [← wB_n hT87] at hR
            have hl : lv_has ls 5 [(0, .ref o), (1, .int (nI x0)), (2, .int (nI (x0 + A 1 x0 * wk))), (3, .int (nI (zcnt (fun q => xHo F N ts q (x0 + A 1 x0 * wk)) (k + 1)))), (4, .int (nI (k + 1)))] := (by rw [show zcnt (fun q => xHo F N ts q (x0 + A 1 x0 * wk)) (k + 1) = zcnt (fun q => xHo F N ts q (x0 + A 1 x0 * wk)) k from by rw [show zcnt (fun q => xHo F N ts q (x0 + A 1 x0 * wk)) (k + 1) = zcnt (fun q => xHo F N ts q (x0 + A 1 x0 * wk)) k + (xHo F N ts k (x0 + A 1 x0 * wk)).toNat from rfl, show xHo F N ts k (x0 + A 1 x0 * wk) = _ from hT87]; rfl]; exact lv_sub hl [1, 2, 3, 4, 0] rfl)
            exact ih (k + 1) ls _ _ ⟨hl, by omega, hM, hR, hA, hX, hRw, hS, hL⟩ (by omega)
          · refine lv_aload_n hx hb d_RM_work_90 rfl (lv_at hl 0 rfl) ?_
            refine fg_RM_24 hE hM.1 rfl d_RM_work_91 ?_
            refine lv_iload hx hb d_RM_work_94 (lv_at hl 4 rfl) ?_
            refine lv_iload_n hx hb d_RM_work_96 rfl (lv_at hl 2 rfl) ?_
            refine zz_callN (cl_RM_130 (rest := []) hE (k_Ru_note l D ca (o + 3) tk wk (wB A (x0 + A 1 x0 * wk) (xHo F N ts) k) k (x0 + A 1 x0 * wk) (by omega) (by omega)) ⟨rfl, rfl, by decide, by decide⟩ hR hR.1 rfl hl.1 rfl (Nat.le_of_ble_eq_true rfl) d_RM_work_97 ⟨by decide, by decide⟩) hL (fun q h => Or.inr (ru_sy h)) (fun H locs hpost hL => ?_)
            obtain ⟨hfr1, hR⟩ := hpost
            have hM := hM.kp hfr1
            have hA := hA.kp (fun q h1 h2 => hfr1.2 q (fun h => by have := h.2; omega))
            have hS := hS.tr (hfr1.mono (fun q h => Or.inr (ru_sy h)))
            have hRw := hRw.kp (fun q hq => hfr1.2 q (fun h => by have := h.2; have := hEz q hq; omega))
            have hX := XAt.kp (fun q z1 _ _ => hfr1.2 q (fun h => by have := h.2; omega)) hRw hX
            rw [wB_s (by omega) hF87] at hR
            refine lv_iinc (k := 3) (v := nI (zcnt (fun q => xHo F N ts q (x0 + A 1 x0 * wk)) k + 1)) hx hb d_RM_work_100 hl rfl (zz_inc _) (by decide) rfl (fun ls hl => ?_)
            have hl : lv_has ls 5 [(3, .int (nI (zcnt (fun q => xHo F N ts q (x0 + A 1 x0 * wk)) k + 1))), (0, .ref o), (1, .int (nI x0)), (2, .int (nI (x0 + A 1 x0 * wk))), (4, .int (nI k))] := hl
            refine lv_iinc (k := 4) (v := nI (k + 1)) hx hb d_RM_work_103 hl rfl (zz_inc _) (by decide) rfl (fun ls hl => ?_)
            have hl : lv_has ls 5 [(4, .int (nI (k + 1))), (3, .int (nI (zcnt (fun q => xHo F N ts q (x0 + A 1 x0 * wk)) k + 1))), (0, .ref o), (1, .int (nI x0)), (2, .int (nI (x0 + A 1 x0 * wk)))] := hl
            refine lv_goto hx hb d_RM_work_106 (tgt := 61) rfl ?_
            skip
            have hl : lv_has ls 5 [(0, .ref o), (1, .int (nI x0)), (2, .int (nI (x0 + A 1 x0 * wk))), (3, .int (nI (zcnt (fun q => xHo F N ts q (x0 + A 1 x0 * wk)) (k + 1)))), (4, .int (nI (k + 1)))] := (by rw [show zcnt (fun q => xHo F N ts q (x0 + A 1 x0 * wk)) (k + 1) = zcnt (fun q => xHo F N ts q (x0 + A 1 x0 * wk)) k + 1 from by rw [show zcnt (fun q => xHo F N ts q (x0 + A 1 x0 * wk)) (k + 1) = zcnt (fun q => xHo F N ts q (x0 + A 1 x0 * wk)) k + (xHo F N ts k (x0 + A 1 x0 * wk)).toNat from rfl, show xHo F N ts k (x0 + A 1 x0 * wk) = _ from hF87]; rfl]; exact lv_sub hl [2, 3, 4, 1, 0] rfl)
            exact ih (k + 1) ls _ _ ⟨hl, by omega, hM, hR, hA, hX, hRw, hS, hL⟩ (by omega)
      · refine lv_bipush (v := (-5 : Int32)) hx hb d_RM_work_53 (by decide) ?_
        have hval : cWork tk wk A (xHo F N ts) (nI x0) = (-5 : Int32) := by
            unfold cWork
            rw [if_neg (by have := of_decide_eq_true hT14; omega), if_neg (by simp [hx28]), cx, if_pos (by omega)]
        have hb9 : bWork2 tk wk A (nI x0) = false := by
            simp only [bWork2, cx, decide_eq_false (show ¬ x0 + A 1 x0 * wk < tk by omega), Bool.and_false]
        exact zz_iret hx hb hr hlk rfl ⟨by rw [hval], zz_fr.rf, hM, hA, hRw, fun _ => hR, (fun h9 => by rw [hb9] at h9; cases h9)⟩ hL d_RM_work_55
    · refine lv_iconst (v := (-1 : Int32)) hx hb d_RM_work_31 (by decide) ?_
      have hval : cWork tk wk A (xHo F N ts) x = (-1 : Int32) := by
          unfold cWork
          rw [if_neg (by have := of_decide_eq_true hT14; omega), if_pos hF28]
      have hb9 : bWork2 tk wk A x = false := by
          simp [bWork2, hF28]
      exact zz_iret hx hb hr hlk rfl ⟨by rw [hval], zz_fr.rf, hM, hA, hRw, fun _ => hR, (fun h9 => by rw [hb9] at h9; cases h9)⟩ hL d_RM_work_32
  · refine lv_bipush (v := (-4 : Int32)) hx hb d_RM_work_17 (by decide) ?_
    have hval : cWork tk wk A (xHo F N ts) x = (-4 : Int32) := by
        unfold cWork
        rw [if_pos (by simpa using hF14)]
    have hb9 : bWork2 tk wk A x = false := by
        have h9 : wk = 0 := by simpa using hF14
        simp [bWork2, h9]
    exact zz_iret hx hb hr hlk rfl ⟨by rw [hval], zz_fr.rf, hM, hA, hRw, fun _ => hR, (fun h9 => by rw [hb9] at h9; cases h9)⟩ hL d_RM_work_19
