def EnAll (D : va_G) (ca : Nat → ClassId) (H : Heap) (o : Nat) (F : Nat → Nat → Nat → Nat) (N Y : Nat → Nat → Nat) (W : Nat → Nat → Bool) : Prop := ∀ i, i < 13 → EnAt D ca H (o + 8 + 5 * i) (F i) (N i) (Y i) (W i)
def cWords (n : Nat) (F : Nat → Nat → Nat → Nat) (N : Nat → Nat → Nat) (x y : Int32) : Int32 := if zisR n x = true ∧ zisF y = true then nI (cWs (F (cN x) (cN y)) (N (cN x) (cN y)) (N (cN x) (cN y))) else -1
def cLength (n : Nat) (N : Nat → Nat → Nat) (x y : Int32) : Int32 := if zisR n x = true ∧ zisF y = true then nI (N (cN x) (cN y)) else -1
def cUnit (n : Nat) (F : Nat → Nat → Nat → Nat) (N : Nat → Nat → Nat) (x y i : Int32) : Int32 := if (zisR n x = true ∧ zisF y = true) ∧ zisR (N (cN x) (cN y)) i = true then nI (F (cN x) (cN y) (cN i)) else -1
def cFound (n wk : Nat) (A : Nat → Nat → Nat) (x y : Int32) : Int32 := if wk = 0 then -4 else if aTwo n x y = true then nI (rNt A (min (cN x) (cN y)) (max (cN x) (cN y))).toNat else -1

set_option maxHeartbeats 4000000 in
set_option maxRecDepth 100000 in
theorem k_RM_words (l : Launch) (D : va_G) (ca : Nat → ClassId) (o n h : Nat) (rl : Option Nat) (S : Nat → Option Nat) (K : Nat → Nat) (F : Nat → Nat → Nat → Nat) (N Y : Nat → Nat → Nat) (W0 : Nat → Nat → Bool) (hn : n ≤ 12) (hN : ∀ i f, N i f ≤ 12) (hF : ∀ i f j, j < 12 → F i f j < 65536) (x y : Int32) : Met l y_RM_words w_RM_words (zr 4 0 0) (zz_P D ca [.ref o, .int x, .int y] (fun H => RmAt D ca H o n h rl S K ∧ EnAll D ca H o F N Y W0)) (zz_Q (fun H H1 v => H1 = H ∧ v = some (.int (cWords n F N x y)))) 0 0 (fun _ => False) := by
  refine zz_met (cc := c_RM_words) (by decide) (Nat.le_of_ble_eq_true rfl) ?_
  intro p e s m below meth c ls hE hr hlk hnm ⟨hM, hA⟩ hl
  have hx := hE.1.1
  have hb := hE.1.2.1
  have hK := hE.2
  have hl : lv_has ls 3 [(0, .ref o), (1, .int x), (2, .int y)] := hl
  have hL : zz_L (fun _ => False) ([] : List Loc) := zz_L.nil
  refine lv_aload_n hx hb d_RM_words_0 rfl (lv_at hl 0 rfl) ?_
  refine lv_iload_n hx hb d_RM_words_1 rfl (lv_at hl 1 rfl) ?_
  refine zz_callP (cl_RM_54 (rest := []) hE (k_RM_isRecord l D ca o n h rl S K x) ⟨rfl, rfl, by decide, by decide⟩ hM hM.1 rfl hl.1 rfl (Nat.le_of_ble_eq_true rfl) d_RM_words_2 ⟨by decide, by decide⟩) ?_
  refine zz_eqB hx hb d_RM_words_5 (tgt := 15) rfl (fun hT5 => ?_) (fun hF5 => ?_)
  · refine lv_iconst (v := (-1 : Int32)) hx hb d_RM_words_15 (by decide) ?_
    have hval : cWords n F N x y = (-1 : Int32) := by unfold cWords; rw [if_neg (by simp [hT5])]
    exact zz_iret hx hb hr hlk rfl ⟨rfl, by rw [hval]⟩ hL d_RM_words_16
  · refine lv_iload_n hx hb d_RM_words_8 rfl (lv_at hl 2 rfl) ?_
    refine zz_callP (cl_RM_33 (rest := []) hE (k_RM_isField l D ca y) ⟨rfl, rfl, by decide, by decide⟩ trivial rfl hl.1 rfl (Nat.le_of_ble_eq_true rfl) d_RM_words_9 ⟨by decide, by decide⟩) ?_
    refine zz_neB hx hb d_RM_words_12 (tgt := 17) rfl (fun hT12 => ?_) (fun hF12 => ?_)
    · have hx5 := hF5
      have hx12 := hT12
      obtain ⟨x0, hx0, rfl⟩ := zisR_nat hF5 (by omega)
      obtain ⟨y0, hy0, rfl⟩ := zisF_nat hT12
      have cx : cN (nI x0) = x0 := nI_clamp (by omega)
      have cy : cN (nI y0) = y0 := nI_clamp (by omega)
      have hT := (hA x0 (by omega)).tx hy0
      have hNx := hN x0 y0
      refine lv_aload_n hx hb d_RM_words_17 rfl (lv_at hl 0 rfl) ?_
      refine lv_iload_n hx hb d_RM_words_18 rfl (lv_at hl 1 rfl) ?_
      refine lv_iload_n hx hb d_RM_words_19 rfl (lv_at hl 2 rfl) ?_
      refine zz_callP (cl_RM_41 (rest := []) hE (k_RM_textOf l D ca o n h rl S K x0 y0 (by omega) (by omega) (F x0) (N x0) (Y x0) (W0 x0)) ⟨rfl, rfl, by decide, by decide⟩ ⟨hM, hA _ (by omega)⟩ hM.1 rfl hl.1 rfl (Nat.le_of_ble_eq_true rfl) d_RM_words_20 ⟨by decide, by decide⟩) ?_
      refine zz_callP (cl_RM_57 (rest := []) hE (k_Te_wordSetSize l D ca (o + 8 + 5 * x0 + 1 + 2 * y0) (N x0 y0) (Y x0 y0) (W0 x0 y0) (F x0 y0) (hN _ _) (hF _ _)) ⟨rfl, rfl, by decide, by decide⟩ hT hT.1 rfl hl.1 rfl (Nat.le_of_ble_eq_true rfl) d_RM_words_23 ⟨by decide, by decide⟩) ?_
      have hval : cWords n F N (nI x0) (nI y0) = nI (cWs (F x0 y0) (N x0 y0) (N x0 y0)) := by unfold cWords; rw [if_pos ⟨hx5, hx12⟩, cx, cy]
      exact zz_iret hx hb hr hlk rfl ⟨rfl, by rw [hval]⟩ hL d_RM_words_26
    · refine lv_iconst (v := (-1 : Int32)) hx hb d_RM_words_15 (by decide) ?_
      have hval : cWords n F N x y = (-1 : Int32) := by unfold cWords; rw [if_neg (by simp [hF5, hF12])]
      exact zz_iret hx hb hr hlk rfl ⟨rfl, by rw [hval]⟩ hL d_RM_words_16

set_option maxHeartbeats 4000000 in
set_option maxRecDepth 100000 in
theorem k_RM_length (l : Launch) (D : va_G) (ca : Nat → ClassId) (o n h : Nat) (rl : Option Nat) (S : Nat → Option Nat) (K : Nat → Nat) (F : Nat → Nat → Nat → Nat) (N Y : Nat → Nat → Nat) (W0 : Nat → Nat → Bool) (hn : n ≤ 12) (hN : ∀ i f, N i f ≤ 12) (hF : ∀ i f j, j < 12 → F i f j < 65536) (x y : Int32) : Met l y_RM_length w_RM_length (zr 4 0 0) (zz_P D ca [.ref o, .int x, .int y] (fun H => RmAt D ca H o n h rl S K ∧ EnAll D ca H o F N Y W0)) (zz_Q (fun H H1 v => H1 = H ∧ v = some (.int (cLength n N x y)))) 0 0 (fun _ => False) := by
  refine zz_met (cc := c_RM_length) (by decide) (Nat.le_of_ble_eq_true rfl) ?_
  intro p e s m below meth c ls hE hr hlk hnm ⟨hM, hA⟩ hl
  have hx := hE.1.1
  have hb := hE.1.2.1
  have hK := hE.2
  have hl : lv_has ls 3 [(0, .ref o), (1, .int x), (2, .int y)] := hl
  have hL : zz_L (fun _ => False) ([] : List Loc) := zz_L.nil
  refine lv_aload_n hx hb d_RM_length_0 rfl (lv_at hl 0 rfl) ?_
  refine lv_iload_n hx hb d_RM_length_1 rfl (lv_at hl 1 rfl) ?_
  refine zz_callP (cl_RM_54 (rest := []) hE (k_RM_isRecord l D ca o n h rl S K x) ⟨rfl, rfl, by decide, by decide⟩ hM hM.1 rfl hl.1 rfl (Nat.le_of_ble_eq_true rfl) d_RM_length_2 ⟨by decide, by decide⟩) ?_
  refine zz_eqB hx hb d_RM_length_5 (tgt := 15) rfl (fun hT5 => ?_) (fun hF5 => ?_)
  · refine lv_iconst (v := (-1 : Int32)) hx hb d_RM_length_15 (by decide) ?_
    have hval : cLength n N x y = (-1 : Int32) := by unfold cLength; rw [if_neg (by simp [hT5])]
    exact zz_iret hx hb hr hlk rfl ⟨rfl, by rw [hval]⟩ hL d_RM_length_16
  · refine lv_iload_n hx hb d_RM_length_8 rfl (lv_at hl 2 rfl) ?_
    refine zz_callP (cl_RM_33 (rest := []) hE (k_RM_isField l D ca y) ⟨rfl, rfl, by decide, by decide⟩ trivial rfl hl.1 rfl (Nat.le_of_ble_eq_true rfl) d_RM_length_9 ⟨by decide, by decide⟩) ?_
    refine zz_neB hx hb d_RM_length_12 (tgt := 17) rfl (fun hT12 => ?_) (fun hF12 => ?_)
    · have hx5 := hF5
      have hx12 := hT12
      obtain ⟨x0, hx0, rfl⟩ := zisR_nat hF5 (by omega)
      obtain ⟨y0, hy0, rfl⟩ := zisF_nat hT12
      have cx : cN (nI x0) = x0 := nI_clamp (by omega)
      have cy : cN (nI y0) = y0 := nI_clamp (by omega)
      have hT := (hA x0 (by omega)).tx hy0
      have hNx := hN x0 y0
      refine lv_aload_n hx hb d_RM_length_17 rfl (lv_at hl 0 rfl) ?_
      refine lv_iload_n hx hb d_RM_length_18 rfl (lv_at hl 1 rfl) ?_
      refine lv_iload_n hx hb d_RM_length_19 rfl (lv_at hl 2 rfl) ?_
      refine zz_callP (cl_RM_41 (rest := []) hE (k_RM_textOf l D ca o n h rl S K x0 y0 (by omega) (by omega) (F x0) (N x0) (Y x0) (W0 x0)) ⟨rfl, rfl, by decide, by decide⟩ ⟨hM, hA _ (by omega)⟩ hM.1 rfl hl.1 rfl (Nat.le_of_ble_eq_true rfl) d_RM_length_20 ⟨by decide, by decide⟩) ?_
      refine fg_RM_61 hE hT.1 rfl d_RM_length_23 ?_
      have hval : cLength n N (nI x0) (nI y0) = nI (N x0 y0) := by unfold cLength; rw [if_pos ⟨hx5, hx12⟩, cx, cy]
      exact zz_iret hx hb hr hlk rfl ⟨rfl, by rw [hval]⟩ hL d_RM_length_26
    · refine lv_iconst (v := (-1 : Int32)) hx hb d_RM_length_15 (by decide) ?_
      have hval : cLength n N x y = (-1 : Int32) := by unfold cLength; rw [if_neg (by simp [hF5, hF12])]
      exact zz_iret hx hb hr hlk rfl ⟨rfl, by rw [hval]⟩ hL d_RM_length_16

set_option maxHeartbeats 4000000 in
set_option maxRecDepth 100000 in
theorem k_RM_unit (l : Launch) (D : va_G) (ca : Nat → ClassId) (o n h : Nat) (rl : Option Nat) (S : Nat → Option Nat) (K : Nat → Nat) (F : Nat → Nat → Nat → Nat) (N Y : Nat → Nat → Nat) (W0 : Nat → Nat → Bool) (hn : n ≤ 12) (hN : ∀ i f, N i f ≤ 12) (hF : ∀ i f j, j < 12 → F i f j < 65536) (x y i : Int32) : Met l y_RM_unit w_RM_unit (zr 4 0 0) (zz_P D ca [.ref o, .int x, .int y, .int i] (fun H => RmAt D ca H o n h rl S K ∧ EnAll D ca H o F N Y W0)) (zz_Q (fun H H1 v => H1 = H ∧ v = some (.int (cUnit n F N x y i)))) 0 0 (fun _ => False) := by
  refine zz_met (cc := c_RM_unit) (by decide) (Nat.le_of_ble_eq_true rfl) ?_
  intro p e s m below meth c ls hE hr hlk hnm ⟨hM, hA⟩ hl
  have hx := hE.1.1
  have hb := hE.1.2.1
  have hK := hE.2
  have hl : lv_has ls 5 [(0, .ref o), (1, .int x), (2, .int y), (3, .int i)] := hl
  have hL : zz_L (fun _ => False) ([] : List Loc) := zz_L.nil
  refine lv_aload_n hx hb d_RM_unit_0 rfl (lv_at hl 0 rfl) ?_
  refine lv_iload_n hx hb d_RM_unit_1 rfl (lv_at hl 1 rfl) ?_
  refine zz_callP (cl_RM_54 (rest := []) hE (k_RM_isRecord l D ca o n h rl S K x) ⟨rfl, rfl, by decide, by decide⟩ hM hM.1 rfl hl.1 rfl (Nat.le_of_ble_eq_true rfl) d_RM_unit_2 ⟨by decide, by decide⟩) ?_
  refine zz_eqB hx hb d_RM_unit_5 (tgt := 15) rfl (fun hT5 => ?_) (fun hF5 => ?_)
  · refine lv_iconst (v := (-1 : Int32)) hx hb d_RM_unit_15 (by decide) ?_
    have hval : cUnit n F N x y i = (-1 : Int32) := by unfold cUnit; rw [if_neg (by simp [hT5])]
    exact zz_iret hx hb hr hlk rfl ⟨rfl, by rw [hval]⟩ hL d_RM_unit_16
  · refine lv_iload_n hx hb d_RM_unit_8 rfl (lv_at hl 2 rfl) ?_
    refine zz_callP (cl_RM_33 (rest := []) hE (k_RM_isField l D ca y) ⟨rfl, rfl, by decide, by decide⟩ trivial rfl hl.1 rfl (Nat.le_of_ble_eq_true rfl) d_RM_unit_9 ⟨by decide, by decide⟩) ?_
    refine zz_neB hx hb d_RM_unit_12 (tgt := 17) rfl (fun hT12 => ?_) (fun hF12 => ?_)
    · have hx5 := hF5
      have hx12 := hT12
      obtain ⟨x0, hx0, rfl⟩ := zisR_nat hF5 (by omega)
      obtain ⟨y0, hy0, rfl⟩ := zisF_nat hT12
      have cx : cN (nI x0) = x0 := nI_clamp (by omega)
      have cy : cN (nI y0) = y0 := nI_clamp (by omega)
      have hT := (hA x0 (by omega)).tx hy0
      have hNx := hN x0 y0
      refine lv_aload_n hx hb d_RM_unit_17 rfl (lv_at hl 0 rfl) ?_
      refine lv_iload_n hx hb d_RM_unit_18 rfl (lv_at hl 1 rfl) ?_
      refine lv_iload_n hx hb d_RM_unit_19 rfl (lv_at hl 2 rfl) ?_
      refine zz_callP (cl_RM_41 (rest := []) hE (k_RM_textOf l D ca o n h rl S K x0 y0 (by omega) (by omega) (F x0) (N x0) (Y x0) (W0 x0)) ⟨rfl, rfl, by decide, by decide⟩ ⟨hM, hA _ (by omega)⟩ hM.1 rfl hl.1 rfl (Nat.le_of_ble_eq_true rfl) d_RM_unit_20 ⟨by decide, by decide⟩) ?_
      refine lv_astore hx hb d_RM_unit_23 hl (by decide) rfl (fun ls hl => ?_)
      have hl : lv_has ls 5 [(4, .ref (o + 8 + 5 * x0 + 1 + 2 * y0)), (0, .ref o), (1, .int (nI x0)), (2, .int (nI y0)), (3, .int i)] := hl
      refine lv_iload_n hx hb d_RM_unit_25 rfl (lv_at hl 4 rfl) ?_
      refine lv_if_lt hx hb d_RM_unit_26 (tgt := 48) rfl (fun hT26 => ?_) (fun hF26 => ?_)
      · refine lv_iconst (v := (-1 : Int32)) hx hb d_RM_unit_48 (by decide) ?_
        have hval : cUnit n F N (nI x0) (nI y0) i = (-1 : Int32) := by unfold cUnit; rw [cx, cy, if_neg (by simp [zisR, hT26])]
        exact zz_iret hx hb hr hlk rfl ⟨rfl, by rw [hval]⟩ hL d_RM_unit_49
      · refine lv_iload_n hx hb d_RM_unit_29 rfl (lv_at hl 4 rfl) ?_
        refine lv_aload hx hb d_RM_unit_30 (lv_at hl 0 rfl) ?_
        refine fg_RM_61 hE hT.1 rfl d_RM_unit_32 ?_
        refine lv_icmp_ge hx hb d_RM_unit_35 (tgt := 48) rfl (fun hT35 => ?_) (fun hF35 => ?_)
        · refine lv_iconst (v := (-1 : Int32)) hx hb d_RM_unit_48 (by decide) ?_
          have hval : cUnit n F N (nI x0) (nI y0) i = (-1 : Int32) := by unfold cUnit; rw [cx, cy, if_neg (by simp [zisR, hT35])]
          exact zz_iret hx hb hr hlk rfl ⟨rfl, by rw [hval]⟩ hL d_RM_unit_49
        · have hzi : zisR (N x0 y0) i = true := by simp only [zisR, decide_eq_false hF26, decide_eq_false hF35]; rfl
          have hzi2 := hzi
          obtain ⟨i0, hi0, rfl⟩ := zisR_nat hzi (by omega)
          have ci : cN (nI i0) = i0 := nI_clamp (by omega)
          refine lv_aload hx hb d_RM_unit_38 (lv_at hl 0 rfl) ?_
          refine fg_RM_64 hE hT.1 rfl d_RM_unit_40 ?_
          refine lv_iload_n hx hb d_RM_unit_43 rfl (lv_at hl 4 rfl) ?_
          refine zz_cald hx hb hK.1 hT.2 1 rfl (i := i0) (by omega) (by omega) d_RM_unit_44 ?_
          refine lv_goto hx hb d_RM_unit_45 (tgt := 49) rfl ?_
          have hval : cUnit n F N (nI x0) (nI y0) (nI i0) = nI (F x0 y0 i0) := by unfold cUnit; rw [cx, cy, if_pos ⟨⟨hx5, hx12⟩, hzi2⟩, ci]
          exact zz_iret hx hb hr hlk rfl ⟨rfl, by rw [hval]⟩ hL d_RM_unit_49
    · refine lv_iconst (v := (-1 : Int32)) hx hb d_RM_unit_15 (by decide) ?_
      have hval : cUnit n F N x y i = (-1 : Int32) := by unfold cUnit; rw [if_neg (by simp [hF5, hF12])]
      exact zz_iret hx hb hr hlk rfl ⟨rfl, by rw [hval]⟩ hL d_RM_unit_16

set_option maxHeartbeats 4000000 in
set_option maxRecDepth 100000 in
theorem k_RM_pairs (l : Launch) (D : va_G) (ca : Nat → ClassId) (o n h : Nat) (rl : Option Nat) (S : Nat → Option Nat) (K : Nat → Nat) (tk wk : Nat) (A : Nat → Nat → Nat) (hw4 : wk ≤ 4) (htk : tk ≤ 12) (hnb : ∀ j, j < 144 → A 2 j ≤ 1) : Met l y_RM_pairs w_RM_pairs (zr 3 0 0) (zz_P D ca [.ref o] (fun H => RmAt D ca H o n h rl S K ∧ RuAt D ca H (o + 3) tk wk A)) (zz_Q (fun H H1 v => H1 = H ∧ v = some (.int (aPairs tk wk (rNt A))))) 0 0 (fun _ => False) := by
  refine zz_met (cc := c_RM_pairs) (by decide) (Nat.le_of_ble_eq_true rfl) ?_
  intro p e s m below meth c ls hE hr hlk hnm ⟨hM, hR⟩ hl
  have hx := hE.1.1
  have hb := hE.1.2.1
  have hK := hE.2
  have hl : lv_has ls 1 [(0, .ref o)] := hl
  have hL : zz_L (fun _ => False) ([] : List Loc) := zz_L.nil
  refine lv_aload_n hx hb d_RM_pairs_0 rfl (lv_at hl 0 rfl) ?_
  refine fg_RM_24 hE hM.1 rfl d_RM_pairs_1 ?_
  refine zz_callP (cl_RM_116 (rest := []) hE (k_Ru_isOpen l D ca (o + 3) tk wk A hw4) ⟨rfl, rfl, by decide, by decide⟩ hR hR.1 rfl hl.1 rfl (Nat.le_of_ble_eq_true rfl) d_RM_pairs_4 ⟨by decide, by decide⟩) ?_
  refine zz_eqB hx hb d_RM_pairs_7 (tgt := 20) rfl (fun hT7 => ?_) (fun hF7 => ?_)
  · refine lv_bipush (v := (-4 : Int32)) hx hb d_RM_pairs_20 (by decide) ?_
    have hval : aPairs tk wk (rNt A) = (-4 : Int32) := by unfold aPairs; rw [if_pos (by simpa using hT7)]
    exact zz_iret hx hb hr hlk rfl ⟨rfl, by rw [hval]⟩ hL d_RM_pairs_22
  · refine lv_aload_n hx hb d_RM_pairs_10 rfl (lv_at hl 0 rfl) ?_
    refine fg_RM_24 hE hM.1 rfl d_RM_pairs_11 ?_
    refine zz_callP (cl_RM_143 (rest := []) hE (k_Ru_countPairs l D ca (o + 3) tk wk A htk hnb) ⟨rfl, rfl, by decide, by decide⟩ hR hR.1 rfl hl.1 rfl (Nat.le_of_ble_eq_true rfl) d_RM_pairs_14 ⟨by decide, by decide⟩) ?_
    refine lv_goto hx hb d_RM_pairs_17 (tgt := 22) rfl ?_
    have hval : aPairs tk wk (rNt A) = nI (zpairs (rNt A) tk) := by unfold aPairs; rw [if_neg (by have := of_decide_eq_true hF7; omega)]
    exact zz_iret hx hb hr hlk rfl ⟨rfl, by rw [hval]⟩ hL d_RM_pairs_22

set_option maxHeartbeats 4000000 in
set_option maxRecDepth 100000 in
theorem k_RM_found (l : Launch) (D : va_G) (ca : Nat → ClassId) (o n h : Nat) (rl : Option Nat) (S : Nat → Option Nat) (K : Nat → Nat) (tk wk : Nat) (A : Nat → Nat → Nat) (hw4 : wk ≤ 4) (htk : tk ≤ 12) (hnb : ∀ j, j < 144 → A 2 j ≤ 1) (hn : n ≤ 12) (x y : Int32) : Met l y_RM_found w_RM_found (zr 3 0 0) (zz_P D ca [.ref o, .int x, .int y] (fun H => RmAt D ca H o n h rl S K ∧ RuAt D ca H (o + 3) tk wk A)) (zz_Q (fun H H1 v => H1 = H ∧ v = some (.int (cFound n wk A x y)))) 0 0 (fun _ => False) := by
  refine zz_met (cc := c_RM_found) (by decide) (Nat.le_of_ble_eq_true rfl) ?_
  intro p e s m below meth c ls hE hr hlk hnm ⟨hM, hR⟩ hl
  have hx := hE.1.1
  have hb := hE.1.2.1
  have hK := hE.2
  have hl : lv_has ls 3 [(0, .ref o), (1, .int x), (2, .int y)] := hl
  have hL : zz_L (fun _ => False) ([] : List Loc) := zz_L.nil
  refine lv_aload_n hx hb d_RM_found_0 rfl (lv_at hl 0 rfl) ?_
  refine fg_RM_24 hE hM.1 rfl d_RM_found_1 ?_
  refine zz_callP (cl_RM_116 (rest := []) hE (k_Ru_isOpen l D ca (o + 3) tk wk A hw4) ⟨rfl, rfl, by decide, by decide⟩ hR hR.1 rfl hl.1 rfl (Nat.le_of_ble_eq_true rfl) d_RM_found_4 ⟨by decide, by decide⟩) ?_
  refine zz_neB hx hb d_RM_found_7 (tgt := 13) rfl (fun hT7 => ?_) (fun hF7 => ?_)
  · refine lv_aload_n hx hb d_RM_found_13 rfl (lv_at hl 0 rfl) ?_
    refine lv_iload_n hx hb d_RM_found_14 rfl (lv_at hl 1 rfl) ?_
    refine lv_iload_n hx hb d_RM_found_15 rfl (lv_at hl 2 rfl) ?_
    refine zz_callP (cl_RM_105 (rest := []) hE (k_RM_areTwoRecords l D ca o n h rl S K x y) ⟨rfl, rfl, by decide, by decide⟩ hM hM.1 rfl hl.1 rfl (Nat.le_of_ble_eq_true rfl) d_RM_found_16 ⟨by decide, by decide⟩) ?_
    refine zz_neB hx hb d_RM_found_19 (tgt := 24) rfl (fun hT19 => ?_) (fun hF19 => ?_)
    · have hx19 := hT19
      have hz1 : zisR n x = true := by simp only [aTwo, Bool.and_eq_true] at hT19; exact hT19.1.1
      have hz2 : zisR n y = true := by simp only [aTwo, Bool.and_eq_true] at hT19; exact hT19.1.2
      obtain ⟨x0, hx0, rfl⟩ := zisR_nat hz1 (by omega)
      obtain ⟨y0, hy0, rfl⟩ := zisR_nat hz2 (by omega)
      have cx : cN (nI x0) = x0 := nI_clamp (by omega)
      have cy : cN (nI y0) = y0 := nI_clamp (by omega)
      refine lv_aload_n hx hb d_RM_found_24 rfl (lv_at hl 0 rfl) ?_
      refine fg_RM_24 hE hM.1 rfl d_RM_found_25 ?_
      refine lv_iload_n hx hb d_RM_found_28 rfl (lv_at hl 1 rfl) ?_
      refine lv_iload_n hx hb d_RM_found_29 rfl (lv_at hl 2 rfl) ?_
      refine va_mmin (rest := [.ref (o + 3)]) hx hb (by rw [hE.1.2.2.1]; exact hl.1.symm) hE.1.2.2.2.1 (hE.1.2.2.2.2 _ zm_387) (hE.1.2.2.2.2 _ zm_301) (hE.1.2.2.2.2 _ zm_10) (hE.1.2.2.2.2 _ zm_302) (Nat.le_of_ble_eq_true rfl) (Nat.le_of_ble_eq_true rfl) (by decide) (by decide) d_RM_found_30 ?_
      refine zz_top (zz_min (x := x0) (y := y0) (by omega) (by omega)) ?_
      refine lv_iload_n hx hb d_RM_found_33 rfl (lv_at hl 1 rfl) ?_
      refine lv_iload_n hx hb d_RM_found_34 rfl (lv_at hl 2 rfl) ?_
      refine va_mmax (rest := [.int (nI (min x0 y0)), .ref (o + 3)]) hx hb (by rw [hE.1.2.2.1]; exact hl.1.symm) hE.1.2.2.2.1 (hE.1.2.2.2.2 _ zm_388) (hE.1.2.2.2.2 _ zm_389) (hE.1.2.2.2.2 _ zm_10) (hE.1.2.2.2.2 _ zm_390) (Nat.le_of_ble_eq_true rfl) (Nat.le_of_ble_eq_true rfl) (by decide) (by decide) d_RM_found_35 ?_
      refine zz_top (zz_max (x := x0) (y := y0) (by omega) (by omega)) ?_
      refine zz_callP (cl_RM_155 (rest := []) hE (k_Ru_isNoted l D ca (o + 3) tk wk A (min x0 y0) (max x0 y0) (by omega) (by omega) hnb) ⟨rfl, rfl, by decide, by decide⟩ hR hR.1 rfl hl.1 rfl (Nat.le_of_ble_eq_true rfl) d_RM_found_38 ⟨by decide, by decide⟩) ?_
      refine zz_eqB hx hb d_RM_found_41 (tgt := 48) rfl (fun hT41 => ?_) (fun hF41 => ?_)
      · refine lv_iconst (v := nI 0) hx hb d_RM_found_48 (by decide) ?_
        have hval : cFound n wk A (nI x0) (nI y0) = nI 0 := by unfold cFound; rw [if_neg (by have := of_decide_eq_true hT7; omega), if_pos hx19, cx, cy, hT41]; rfl
        exact zz_iret hx hb hr hlk rfl ⟨rfl, by rw [hval]⟩ hL d_RM_found_49
      · refine lv_iconst (v := nI 1) hx hb d_RM_found_44 (by decide) ?_
        refine lv_goto hx hb d_RM_found_45 (tgt := 49) rfl ?_
        have hval : cFound n wk A (nI x0) (nI y0) = nI 1 := by unfold cFound; rw [if_neg (by have := of_decide_eq_true hT7; omega), if_pos hx19, cx, cy, hF41]; rfl
        exact zz_iret hx hb hr hlk rfl ⟨rfl, by rw [hval]⟩ hL d_RM_found_49
    · refine lv_iconst (v := (-1 : Int32)) hx hb d_RM_found_22 (by decide) ?_
      have hval : cFound n wk A x y = (-1 : Int32) := by unfold cFound; rw [if_neg (by have := of_decide_eq_true hT7; omega), if_neg (by simp [hF19])]
      exact zz_iret hx hb hr hlk rfl ⟨rfl, by rw [hval]⟩ hL d_RM_found_23
  · refine lv_bipush (v := (-4 : Int32)) hx hb d_RM_found_10 (by decide) ?_
    have hval : cFound n wk A x y = (-4 : Int32) := by unfold cFound; rw [if_pos (by simpa using hF7)]
    exact zz_iret hx hb hr hlk rfl ⟨rfl, by rw [hval]⟩ hL d_RM_found_12
