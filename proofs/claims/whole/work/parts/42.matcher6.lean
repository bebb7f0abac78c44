noncomputable def cKept (n wk : Nat) (dn : Bool) (fd : Nat → Nat → Bool) (F : Nat → Nat → Nat → Nat) (N : Nat → Nat → Nat) (K : Nat → Nat) (x y : Int32) : Int32 := if wk = 0 then -4 else if ¬ (zisR n x = true ∧ zisF y = true) then -1 else if dn = false then -6 else nI (zbest (fun a b => decide (lbl n fd a = lbl n fd (cN x)) && cBt n (fun _ => lbl n fd) F N K a b (cN y)) (lbl n fd (cN x)) (n - 1 - lbl n fd (cN x)))
theorem cHv_congr {A B : Nat → Nat → Nat} {F : Nat → Nat → Nat → Nat} {N : Nat → Nat → Nat} {n r1 f1 : Nat} (h : ∀ k, k < n → A 3 k = B 3 k) (hr : r1 < n) : cHv A F N r1 f1 n = cHv B F N r1 f1 n := zcnt_congr fun k hk => by rw [h k hk, h r1 hr]
theorem cBt_congr {A B : Nat → Nat → Nat} {F : Nat → Nat → Nat → Nat} {N : Nat → Nat → Nat} {K : Nat → Nat} {n r1 r2 f1 : Nat} (h : ∀ k, k < n → A 3 k = B 3 k) (h1 : r1 < n) (h2 : r2 < n) : cBt n A F N K r1 r2 f1 = cBt n B F N K r1 r2 f1 := by
  unfold cBt
  rw [cHv_congr h h1, cHv_congr h h2]
def va_u2 {α : Type} (f : Nat → Nat → α) (i j : Nat) (v : α) : Nat → Nat → α := fun a b => if a = i ∧ b = j then v else f a b
theorem va_u2_s {α : Type} (f : Nat → Nat → α) (i j : Nat) (v : α) : va_u2 f i j v i j = v := by simp [va_u2]
theorem va_u2_n {α : Type} (f : Nat → Nat → α) {i j a b : Nat} (v : α) (h : ¬ (a = i ∧ b = j)) : va_u2 f i j v a b = f a b := by simp only [va_u2]; rw [if_neg h]
theorem EnAll.set {D : va_G} {ca : Nat → ClassId} {H H1 : Heap} {o i f : Nat} {F : Nat → Nat → Nat → Nat} {N Y : Nat → Nat → Nat} {W : Nat → Nat → Bool} {g : Nat → Nat} {n1 y1 : Nat} {w1 : Bool} (hA : EnAll D ca H o F N Y W) (hi : i < 13) (hf : f ≤ 1) (hfr : zz_fr (teFr (o + 8 + 5 * i + 1 + 2 * f)) H H1) (hT : TeAt D ca H1 (o + 8 + 5 * i + 1 + 2 * f) g n1 y1 w1) : EnAll D ca H1 o (va_u2 F i f g) (va_u2 N i f n1) (va_u2 Y i f y1) (va_u2 W i f w1) := by
  have kp : ∀ q, q ≠ o + 8 + 5 * i + 1 + 2 * f → q ≠ o + 8 + 5 * i + 1 + 2 * f + 1 → H1[q]? = H[q]? := fun q h1 h2 => hfr.2 q (fun h => h.elim h1 h2)
  intro k hk
  have hE := hA k hk
  refine ⟨hE.1.kept (kp _ (by omega) (by omega)), ?_, ?_⟩
  · by_cases h : k = i ∧ 0 = f
    · obtain ⟨rfl, rfl⟩ := h
      rw [va_u2_s, va_u2_s, va_u2_s, va_u2_s]; exact hT
    · rw [va_u2_n _ _ h, va_u2_n _ _ h, va_u2_n _ _ h, va_u2_n _ _ h]
      exact hE.2.1.kp (kp _ (by omega) (by omega)) (kp _ (by omega) (by omega))
  · by_cases h : k = i ∧ 1 = f
    · obtain ⟨rfl, rfl⟩ := h
      rw [va_u2_s, va_u2_s, va_u2_s, va_u2_s]; exact hT
    · rw [va_u2_n _ _ h, va_u2_n _ _ h, va_u2_n _ _ h, va_u2_n _ _ h]
      exact hE.2.2.kp (kp _ (by omega) (by omega)) (kp _ (by omega) (by omega))
def cType (dl : Nat → Nat) (x : Int32) (c : Nat) : Bool := zisF x && decide (c ≤ 255) && decide (dl (cN x) < 12)
theorem RmAt.fr {D : va_G} {ca : Nat → ClassId} {H H1 : Heap} {o n h : Nat} {rl : Option Nat} {S : Nat → Option Nat} {K : Nat → Nat} (hM : RmAt D ca H o n h rl S K) (hf : ∀ q, o ≤ q → q ≤ o + 7 → ¬ (o + 3 ≤ q ∧ q ≤ o + 6) → H1[q]? = H[q]?) : RmAt D ca H1 o n h rl S K :=
  ⟨hM.1.kept (hf _ (by omega) (by omega) (by omega)), hM.2.1.kept (hf _ (by omega) (by omega) (by omega)), hM.2.2.1.kept (hf _ (by omega) (by omega) (by omega)), hM.2.2.2.kept (hf _ (by omega) (by omega) (by omega))⟩

set_option maxHeartbeats 4000000 in
set_option maxRecDepth 100000 in
theorem k_RM_kept (l : Launch) (D : va_G) (ca : Nat → ClassId) (o n h : Nat) (rl : Option Nat) (S : Nat → Option Nat) (K : Nat → Nat) (tk wk : Nat) (A : Nat → Nat → Nat) (F : Nat → Nat → Nat → Nat) (N Y : Nat → Nat → Nat) (W0 : Nat → Nat → Bool) (hw4 : wk ≤ 4) (htk : tk ≤ 12) (hnb : ∀ j, j < 144 → A 2 j ≤ 1) (hdd : ∀ v, v < 4 → A 1 v ≤ 12) (hn : n ≤ 12) (hN : ∀ i f, N i f ≤ 12) (hF : ∀ i f j, j < 12 → F i f j < 65536) (hK2 : ∀ f, f ≤ 1 → K f ≤ 2) (htn0 : 0 < wk → tk = n) (x y : Int32) : Met l y_RM_kept w_RM_kept (zr 5 0 0) (zz_P D ca [.ref o, .int x, .int y] (fun H => RmAt D ca H o n h rl S K ∧ RuAt D ca H (o + 3) tk wk A ∧ EnAll D ca H o F N Y W0)) (zz_Q (fun H H1 v => v = some (.int (cKept n wk (decide (zsum (A 1) wk = tk)) (rF A) F N K x y)) ∧ zz_fr (syFr o) H H1 ∧ RmAt D ca H1 o n h rl S K ∧ EnAll D ca H1 o F N Y W0 ∧ ∃ B, RuAt D ca H1 (o + 3) tk wk B ∧ B 1 = A 1 ∧ B 2 = A 2)) 0 0 (syFr o) := by
  refine zz_met (cc := c_RM_kept) (by decide) (Nat.le_of_ble_eq_true rfl) ?_
  intro p e s m below meth c ls hE hr hlk hnm ⟨hM, hR, hA⟩ hl
  have hx := hE.1.1
  have hb := hE.1.2.1
  have hK := hE.2
  have hl : lv_has ls 3 [(0, .ref o), (1, .int x), (2, .int y)] := hl
  have hL : zz_L (syFr o) ([] : List Loc) := zz_L.nil
  have hS : zz_fr (syFr o) s.heap s.heap := zz_fr.rf
  refine lv_aload_n hx hb d_RM_kept_0 rfl (lv_at hl 0 rfl) ?_
  refine fg_RM_24 hE hM.1 rfl d_RM_kept_1 ?_
  refine zz_callP (cl_RM_116 (rest := []) hE (k_Ru_isOpen l D ca (o + 3) tk wk A hw4) ⟨rfl, rfl, by decide, by decide⟩ hR hR.1 rfl hl.1 rfl (Nat.le_of_ble_eq_true rfl) d_RM_kept_4 ⟨by decide, by decide⟩) ?_
  refine zz_neB hx hb d_RM_kept_7 (tgt := 13) rfl (fun hT7 => ?_) (fun hF7 => ?_)
  · refine lv_aload_n hx hb d_RM_kept_13 rfl (lv_at hl 0 rfl) ?_
    refine lv_iload_n hx hb d_RM_kept_14 rfl (lv_at hl 1 rfl) ?_
    refine zz_callP (cl_RM_54 (rest := []) hE (k_RM_isRecord l D ca o n h rl S K x) ⟨rfl, rfl, by decide, by decide⟩ hM hM.1 rfl hl.1 rfl (Nat.le_of_ble_eq_true rfl) d_RM_kept_15 ⟨by decide, by decide⟩) ?_
    refine zz_eqB hx hb d_RM_kept_18 (tgt := 28) rfl (fun hT18 => ?_) (fun hF18 => ?_)
    · refine lv_iconst (v := (-1 : Int32)) hx hb d_RM_kept_28 (by decide) ?_
      have hval : cKept n wk (decide (zsum (A 1) wk = tk)) (rF A) F N K x y = (-1 : Int32) := by
          unfold cKept
          rw [if_neg (by have := of_decide_eq_true hT7; omega), if_pos (by simp [hT18])]
      exact zz_iret hx hb hr hlk rfl ⟨by rw [hval], hS, hM, hA, A, hR, rfl, rfl⟩ hL d_RM_kept_29
    · refine lv_iload_n hx hb d_RM_kept_21 rfl (lv_at hl 2 rfl) ?_
      refine zz_callP (cl_RM_33 (rest := []) hE (k_RM_isField l D ca y) ⟨rfl, rfl, by decide, by decide⟩ trivial rfl hl.1 rfl (Nat.le_of_ble_eq_true rfl) d_RM_kept_22 ⟨by decide, by decide⟩) ?_
      refine zz_neB hx hb d_RM_kept_25 (tgt := 30) rfl (fun hT25 => ?_) (fun hF25 => ?_)
      · refine lv_aload_n hx hb d_RM_kept_30 rfl (lv_at hl 0 rfl) ?_
        refine fg_RM_24 hE hM.1 rfl d_RM_kept_31 ?_
        refine zz_callP (cl_RM_137 (rest := []) hE (k_Ru_isDone l D ca (o + 3) tk wk A hw4 htk hdd) ⟨rfl, rfl, by decide, by decide⟩ hR hR.1 rfl hl.1 rfl (Nat.le_of_ble_eq_true rfl) d_RM_kept_34 ⟨by decide, by decide⟩) ?_
        refine zz_neB hx hb d_RM_kept_37 (tgt := 43) rfl (fun hT37 => ?_) (fun hF37 => ?_)
        · have hx18 := hF18
          have hx25 := hT25
          obtain ⟨x0, hx0, rfl⟩ := zisR_nat hF18 (by omega)
          obtain ⟨y0, hy0, rfl⟩ := zisF_nat hT25
          have cx : cN (nI x0) = x0 := nI_clamp (by omega)
          have cy : cN (nI y0) = y0 := nI_clamp (by omega)
          have htn : tk = n := htn0 (of_decide_eq_true hT7)
          refine lv_aload_n hx hb d_RM_kept_43 rfl (lv_at hl 0 rfl) ?_
          refine fg_RM_24 hE hM.1 rfl d_RM_kept_44 ?_
          refine zz_callN (cl_RM_158 (rest := []) hE (k_Ru_gather l D ca (o + 3) tk wk A htk hnb) ⟨rfl, rfl, by decide, by decide⟩ hR hR.1 rfl hl.1 rfl (Nat.le_of_ble_eq_true rfl) d_RM_kept_47 ⟨by decide, by decide⟩) hL (fun q h => ru_sy h) (fun H locs hpost hL => ?_)
          obtain ⟨hfr1, B, hR, hb1, hb2, hsp⟩ := hpost
          have hM := hM.kp hfr1
          have hA := hA.kp (fun q h1 h2 => hfr1.2 q (fun h => by have := h.2; omega))
          have hS := hS.tr (hfr1.mono (fun q h => ru_sy h))
          have hLd : va_at D zC (o + 3 + 3, .inl (ca 0, 12, .inl (fun j => nI (B 3 j)))) H := hR.2 3 (by decide) (by decide)
          have hBl : ∀ a, a < tk → B 3 a = lbl n (rF A) a := fun a ha => by rw [← htn]; exact mSp_lbl (rF_symm A) hsp ha
          have hBa : ∀ a, a < tk → B 3 a ≤ a := fun a ha => (hsp.1 a ha).1
          have hx0l := hBa x0 (by omega)
          refine lv_aload_n hx hb d_RM_kept_50 rfl (lv_at hl 0 rfl) ?_
          refine lv_aload_n hx hb d_RM_kept_51 rfl (lv_at hl 0 rfl) ?_
          refine fg_RM_24 hE hM.1 rfl d_RM_kept_52 ?_
          refine fg_RM_161 hE hR.1 rfl d_RM_kept_55 ?_
          refine lv_iload_n hx hb d_RM_kept_58 rfl (lv_at hl 1 rfl) ?_
          refine zz_iald hx hb hK.1 hLd 0 rfl (i := x0) (by omega) (by omega) d_RM_kept_59 ?_
          refine lv_iload_n hx hb d_RM_kept_60 rfl (lv_at hl 2 rfl) ?_
          refine zz_callP (cl_RM_164 (rest := []) hE (k_RM_bestOfCluster l D ca o n h rl S K tk wk B F N Y W0 hn hN hF (fun a ha => by have := hBa a (by omega); omega) (B 3 x0) y0 (by omega) (by omega) (hK2 y0 (by omega))) ⟨rfl, rfl, by decide, by decide⟩ ⟨hM, hR, hA⟩ hM.1 rfl hl.1 rfl (Nat.le_of_ble_eq_true rfl) d_RM_kept_61 ⟨by decide, by decide⟩) ?_
          have hval : cKept n wk (decide (zsum (A 1) wk = tk)) (rF A) F N K (nI x0) (nI y0) = nI (zbest (fun a b => decide (B 3 a = B 3 x0) && cBt n B F N K a b y0) (B 3 x0) (n - 1 - B 3 x0)) := by
              unfold cKept
              rw [if_neg (by have := of_decide_eq_true hT7; omega), if_neg (by simp [hx18, hx25]), if_neg (by rw [hT37]; decide), cx, cy, ← hBl x0 (by omega)]
              congr 1
              refine zbest_congr fun a b ha hb => ?_
              rw [← hBl a (by omega), cBt_congr (A := B) (B := fun _ => lbl n (rF A)) (fun k hk => hBl k (by omega)) (by omega) (by omega)]
          exact zz_iret hx hb hr hlk rfl ⟨by rw [hval], hS, hM, hA, B, hR, hb1, hb2⟩ hL d_RM_kept_64
        · refine lv_bipush (v := (-6 : Int32)) hx hb d_RM_kept_40 (by decide) ?_
          have hval : cKept n wk (decide (zsum (A 1) wk = tk)) (rF A) F N K x y = (-6 : Int32) := by
              unfold cKept
              rw [if_neg (by have := of_decide_eq_true hT7; omega), if_neg (by simp [hF18, hT25]), if_pos hF37]
          exact zz_iret hx hb hr hlk rfl ⟨by rw [hval], hS, hM, hA, A, hR, rfl, rfl⟩ hL d_RM_kept_42
      · refine lv_iconst (v := (-1 : Int32)) hx hb d_RM_kept_28 (by decide) ?_
        have hval : cKept n wk (decide (zsum (A 1) wk = tk)) (rF A) F N K x y = (-1 : Int32) := by
            unfold cKept
            rw [if_neg (by have := of_decide_eq_true hT7; omega), if_pos (by simp [hF18, hF25])]
        exact zz_iret hx hb hr hlk rfl ⟨by rw [hval], hS, hM, hA, A, hR, rfl, rfl⟩ hL d_RM_kept_29
  · refine lv_bipush (v := (-4 : Int32)) hx hb d_RM_kept_10 (by decide) ?_
    have hval : cKept n wk (decide (zsum (A 1) wk = tk)) (rF A) F N K x y = (-4 : Int32) := by
        unfold cKept
        rw [if_pos (by simpa using hF7)]
    exact zz_iret hx hb hr hlk rfl ⟨by rw [hval], hS, hM, hA, A, hR, rfl, rfl⟩ hL d_RM_kept_12

theorem va_u2_id {α : Type} (f : Nat → Nat → α) (i j : Nat) : va_u2 f i j (f i j) = f := by
  funext a b
  by_cases h : a = i ∧ b = j
  · obtain ⟨rfl, rfl⟩ := h; exact va_u2_s _ _ _ _
  · exact va_u2_n _ _ h

set_option maxHeartbeats 4000000 in
set_option maxRecDepth 100000 in
theorem k_RM_type (l : Launch) (D : va_G) (ca : Nat → ClassId) (o n h : Nat) (rl : Option Nat) (S : Nat → Option Nat) (K : Nat → Nat) (tk wk : Nat) (A : Nat → Nat → Nat) (F : Nat → Nat → Nat → Nat) (N Y : Nat → Nat → Nat) (W0 : Nat → Nat → Bool) (hn : n ≤ 12) (hY : ∀ f, f ≤ 1 → Y n f ≤ 12) (hnt : ∀ f, f ≤ 1 → N n f + (if W0 n f = false ∧ 0 < N n f then 1 else 0) ≤ Y n f) (x : Int32) (c0 : Nat) (hc0 : c0 < 65536) : Met l y_RM_type w_RM_type (zr 2 0 0) (zz_P D ca [.ref o, .int x, .int (nI c0)] (fun H => RmAt D ca H o n h rl S K ∧ RuAt D ca H (o + 3) tk wk A ∧ EnAll D ca H o F N Y W0)) (zz_Q (fun H H1 v => v = some (.int (nI (cType (Y n) x c0).toNat)) ∧ zz_fr (syFr o) H H1 ∧ RmAt D ca H1 o n h rl S K ∧ RuAt D ca H1 (o + 3) tk wk A ∧ (if cType (Y n) x c0 = true then EnAll D ca H1 o (va_u2 F n (cN x) (cTk (F n (cN x)) (N n (cN x)) (W0 n (cN x)) c0).1) (va_u2 N n (cN x) (cTk (F n (cN x)) (N n (cN x)) (W0 n (cN x)) c0).2) (va_u2 Y n (cN x) (Y n (cN x) + 1)) (va_u2 W0 n (cN x) (decide (mLet c0 ≠ 0))) else EnAll D ca H1 o F N Y W0))) 0 0 (syFr o) := by
  refine zz_met (cc := c_RM_type) (by decide) (Nat.le_of_ble_eq_true rfl) ?_
  intro p e s m below meth c ls hE hr hlk hnm ⟨hM, hR, hA⟩ hl
  have hx := hE.1.1
  have hb := hE.1.2.1
  have hK := hE.2
  have hl : lv_has ls 3 [(0, .ref o), (1, .int x), (2, .int (nI c0))] := hl
  have hL : zz_L (syFr o) ([] : List Loc) := zz_L.nil
  have hS : zz_fr (syFr o) s.heap s.heap := zz_fr.rf
  refine lv_iload_n hx hb d_RM_type_0 rfl (lv_at hl 1 rfl) ?_
  refine zz_callP (cl_RM_33 (rest := []) hE (k_RM_isField l D ca x) ⟨rfl, rfl, by decide, by decide⟩ trivial rfl hl.1 rfl (Nat.le_of_ble_eq_true rfl) d_RM_type_1 ⟨by decide, by decide⟩) ?_
  refine zz_eqB hx hb d_RM_type_4 (tgt := 34) rfl (fun hT4 => ?_) (fun hF4 => ?_)
  · refine lv_iconst (v := nI 0) hx hb d_RM_type_34 (by decide) ?_
    have hval : cType (Y n) x c0 = false := by simp only [cType, hT4, Bool.false_and]
    exact zz_iret hx hb hr hlk rfl ⟨by rw [hval]; rfl, hS, hM, hR, by rw [if_neg (by rw [hval]; decide)]; exact hA⟩ hL d_RM_type_35
  · refine lv_iload_n hx hb d_RM_type_7 rfl (lv_at hl 2 rfl) ?_
    refine lv_sipush (v := nI 255) hx hb d_RM_type_8 (by decide) ?_
    refine zz_gt hx hb (by omega) (by omega) d_RM_type_11 (tgt := 34) rfl (fun hT11 => ?_) (fun hF11 => ?_)
    · refine lv_iconst (v := nI 0) hx hb d_RM_type_34 (by decide) ?_
      have hval : cType (Y n) x c0 = false := by simp only [cType, decide_eq_false (show ¬ c0 ≤ 255 by omega), Bool.and_false, Bool.false_and]
      exact zz_iret hx hb hr hlk rfl ⟨by rw [hval]; rfl, hS, hM, hR, by rw [if_neg (by rw [hval]; decide)]; exact hA⟩ hL d_RM_type_35
    · have hz4 := hF4
      obtain ⟨x0, hx0, rfl⟩ := zisF_nat hF4
      have cx : cN (nI x0) = x0 := nI_clamp (by omega)
      have hT := (hA n (by omega)).tx (show x0 ≤ 1 by omega)
      refine lv_aload_n hx hb d_RM_type_14 rfl (lv_at hl 0 rfl) ?_
      refine lv_aload_n hx hb d_RM_type_15 rfl (lv_at hl 0 rfl) ?_
      refine fg_RM_37 hE hM.1 rfl d_RM_type_16 ?_
      refine lv_iload_n hx hb d_RM_type_19 rfl (lv_at hl 1 rfl) ?_
      refine zz_callP (cl_RM_41 (rest := []) hE (k_RM_textOf l D ca o n h rl S K n x0 (by omega) (by omega) (F n) (N n) (Y n) (W0 n)) ⟨rfl, rfl, by decide, by decide⟩ ⟨hM, hA _ (by omega)⟩ hM.1 rfl hl.1 rfl (Nat.le_of_ble_eq_true rfl) d_RM_type_20 ⟨by decide, by decide⟩) ?_
      refine lv_iload_n hx hb d_RM_type_23 rfl (lv_at hl 2 rfl) ?_
      refine zz_callI (cl_RM_45 (rest := []) hE (k_Te_take l D ca (o + 8 + 5 * n + 1 + 2 * x0) (N n x0) (Y n x0) (W0 n x0) (F n x0) c0 (by omega) (hY x0 (by omega)) (hnt x0 (by omega))) ⟨rfl, rfl, by decide, by decide⟩ hT hT.1 rfl hl.1 rfl (Nat.le_of_ble_eq_true rfl) d_RM_type_24 ⟨by decide, by decide⟩) hL (fun q h => show syFr o q by rcases h with h | h <;> exact ⟨by omega, by omega⟩) (fun H locs hpost hL => ?_)
      obtain ⟨hfr1, hpost⟩ := hpost
      have hS := hS.tr (hfr1.mono (fun q h => show syFr o q by rcases h with h | h <;> exact ⟨by omega, by omega⟩))
      have hM := hM.fr (fun q h1 h2 h3 => hfr1.2 q (fun h => by rcases h with h | h <;> omega))
      have hR := hR.kp (fun q h1 h2 => hfr1.2 q (fun h => by rcases h with h | h <;> omega))
      refine zz_eqB hx hb d_RM_type_27 (tgt := 34) rfl (fun hT27 => ?_) (fun hF27 => ?_)
      · refine lv_iconst (v := nI 0) hx hb d_RM_type_34 (by decide) ?_
        have hge := of_decide_eq_false hT27
        have hval : cType (Y n) (nI x0) c0 = false := by simp only [cType, cx, decide_eq_false hge, Bool.and_false]
        rw [if_neg hge] at hpost
        have h9 := hA.set (by omega) (by omega) hfr1 hpost
        rw [va_u2_id, va_u2_id, va_u2_id, va_u2_id] at h9
        exact zz_iret hx hb hr hlk rfl ⟨by rw [hval]; rfl, hS, hM, hR, by rw [if_neg (by rw [hval]; decide)]; exact h9⟩ hL d_RM_type_35
      · refine lv_iconst (v := nI 1) hx hb d_RM_type_30 (by decide) ?_
        refine lv_goto hx hb d_RM_type_31 (tgt := 35) rfl ?_
        have hlt := of_decide_eq_true hF27
        have hval : cType (Y n) (nI x0) c0 = true := by simp only [cType, cx, hz4, decide_eq_true (show c0 ≤ 255 by omega), decide_eq_true hlt]; rfl
        rw [if_pos hlt] at hpost
        exact zz_iret hx hb hr hlk rfl ⟨by rw [hval]; rfl, hS, hM, hR, by rw [if_pos hval, cx]; exact hA.set (by omega) (by omega) hfr1 hpost⟩ hL d_RM_type_35
