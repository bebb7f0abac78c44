set_option maxHeartbeats 4000000 in
set_option maxRecDepth 100000 in
theorem k_Jo_init (l : Launch) (D : va_G) (ca : Nat → ClassId) (x lo up c1 c2 : Nat) (d1 d2 all : Bool) : Met l y_Jo_init w_Jo_init (zr 2 0 0) (zz_P D ca [.ref x, .int (nI all.toNat), .ref lo, .ref up] (fun H => va_at D zC (x, .inr (4, [.int 0, .int 0, .int 0, .null, .null])) H ∧ XH D H lo c1 d1 ∧ XH D H up c2 d2)) (zz_Q (fun H H1 v => v = none ∧ zz_fr (onFr x) H H1 ∧ va_at D zC (x, .inr (4, [.int (nI (c1 + c2)), .int (nI (if all = true then d1 || d2 else d1 && d2).toNat), .int (nI all.toNat), .ref lo, .ref up])) H1)) 0 0 (onFr x) := by
  refine zz_met (cc := c_Jo_init) (by decide) (Nat.le_of_ble_eq_true rfl) ?_
  intro p e s m below meth c ls hE hr hlk hnm ⟨hO, hP, hQ⟩ hl
  have hx := hE.1.1
  have hb := hE.1.2.1
  have hK := hE.2
  have hl : lv_has ls 4 [(0, .ref x), (1, .int (nI all.toNat)), (2, .ref lo), (3, .ref up)] := hl
  have hL : zz_L (onFr x) ([] : List Loc) := zz_L.nil
  have hS : zz_fr (onFr x) s.heap s.heap := zz_fr.rf
  refine lv_aload_n hx hb d_Jo_init_0 rfl (lv_at hl 0 rfl) ?_
  refine lv_aload_n hx hb d_Jo_init_1 rfl (lv_at hl 2 rfl) ?_
  refine xg_Jo_1 hE hP d_Jo_init_2 ?_
  refine lv_aload_n hx hb d_Jo_init_5 rfl (lv_at hl 3 rfl) ?_
  refine xg_Jo_1 hE hQ d_Jo_init_6 ?_
  refine zz_iadd hx hb d_Jo_init_9 ?_
  refine lv_iload_n hx hb d_Jo_init_10 rfl (lv_at hl 1 rfl) ?_
  refine zz_eqB hx hb d_Jo_init_11 (tgt := 36) rfl (fun hT11 => ?_) (fun hF11 => ?_)
  · refine lv_aload_n hx hb d_Jo_init_36 rfl (lv_at hl 2 rfl) ?_
    refine xg_Jo_7 hE hP d_Jo_init_37 ?_
    refine zz_eqB hx hb d_Jo_init_40 (tgt := 54) rfl (fun hT40 => ?_) (fun hF40 => ?_)
    · refine lv_iconst (v := nI 0) hx hb d_Jo_init_54 (by decide) ?_
      refine zz_callN (cl_Jo_11 (rest := []) (As := [.int (nI (c1 + c2)), .int (nI false.toNat)]) hE (k_Ex_init_Jo l D ca x (c1 + c2) false (.int 0) (.int 0) (.int 0) .null .null) ⟨rfl, rfl, by decide, by decide⟩ hO rfl hl.1 rfl (Nat.le_of_ble_eq_true rfl) d_Jo_init_55 ⟨by decide, by decide⟩) hL (fun _ h => h) (fun H locs hpost hL => ?_)
      obtain ⟨hfr9, h9⟩ := hpost
      replace hO := h9
      have hS := hS.tr hfr9
      refine lv_aload_n hx hb d_Jo_init_58 rfl (lv_at hl 0 rfl) ?_
      refine lv_iload_n hx hb d_Jo_init_59 rfl (lv_at hl 1 rfl) ?_
      refine fp_Jo_15 (b := all) hE hnm hO hL (show onFr x x from rfl) (Nat.le_of_ble_eq_true rfl) d_Jo_init_60 (fun H locs h2 hu hL => ?_)
      replace hO : va_at D zC (x, .inr (4, [.int (nI (c1 + c2)), .int (nI false.toNat), .int (nI all.toNat), .null, .null])) H := h2
      have hS := hS.up hu (show onFr x x from rfl)
      clear h2 hu
      refine lv_aload_n hx hb d_Jo_init_63 rfl (lv_at hl 0 rfl) ?_
      refine lv_aload_n hx hb d_Jo_init_64 rfl (lv_at hl 2 rfl) ?_
      refine fp_Jo_20 hE hnm hO hL (show onFr x x from rfl) (Nat.le_of_ble_eq_true rfl) d_Jo_init_65 (fun H locs h2 hu hL => ?_)
      replace hO : va_at D zC (x, .inr (4, [.int (nI (c1 + c2)), .int (nI false.toNat), .int (nI all.toNat), .ref lo, .null])) H := h2
      have hS := hS.up hu (show onFr x x from rfl)
      clear h2 hu
      refine lv_aload_n hx hb d_Jo_init_68 rfl (lv_at hl 0 rfl) ?_
      refine lv_aload_n hx hb d_Jo_init_69 rfl (lv_at hl 3 rfl) ?_
      refine fp_Jo_24 hE hnm hO hL (show onFr x x from rfl) (Nat.le_of_ble_eq_true rfl) d_Jo_init_70 (fun H locs h2 hu hL => ?_)
      replace hO : va_at D zC (x, .inr (4, [.int (nI (c1 + c2)), .int (nI false.toNat), .int (nI all.toNat), .ref lo, .ref up])) H := h2
      have hS := hS.up hu (show onFr x x from rfl)
      clear h2 hu
      have hval : (if all = true then d1 || d2 else d1 && d2) = false := by simp [hT11, hT40]
      exact zz_vret hx hb hr hlk ⟨rfl, hS, by rw [hval]; exact hO⟩ hL d_Jo_init_73
    · refine lv_aload_n hx hb d_Jo_init_43 rfl (lv_at hl 3 rfl) ?_
      refine xg_Jo_7 hE hQ d_Jo_init_44 ?_
      refine zz_eqB hx hb d_Jo_init_47 (tgt := 54) rfl (fun hT47 => ?_) (fun hF47 => ?_)
      · refine lv_iconst (v := nI 0) hx hb d_Jo_init_54 (by decide) ?_
        refine zz_callN (cl_Jo_11 (rest := []) (As := [.int (nI (c1 + c2)), .int (nI false.toNat)]) hE (k_Ex_init_Jo l D ca x (c1 + c2) false (.int 0) (.int 0) (.int 0) .null .null) ⟨rfl, rfl, by decide, by decide⟩ hO rfl hl.1 rfl (Nat.le_of_ble_eq_true rfl) d_Jo_init_55 ⟨by decide, by decide⟩) hL (fun _ h => h) (fun H locs hpost hL => ?_)
        obtain ⟨hfr9, h9⟩ := hpost
        replace hO := h9
        have hS := hS.tr hfr9
        refine lv_aload_n hx hb d_Jo_init_58 rfl (lv_at hl 0 rfl) ?_
        refine lv_iload_n hx hb d_Jo_init_59 rfl (lv_at hl 1 rfl) ?_
        refine fp_Jo_15 (b := all) hE hnm hO hL (show onFr x x from rfl) (Nat.le_of_ble_eq_true rfl) d_Jo_init_60 (fun H locs h2 hu hL => ?_)
        replace hO : va_at D zC (x, .inr (4, [.int (nI (c1 + c2)), .int (nI false.toNat), .int (nI all.toNat), .null, .null])) H := h2
        have hS := hS.up hu (show onFr x x from rfl)
        clear h2 hu
        refine lv_aload_n hx hb d_Jo_init_63 rfl (lv_at hl 0 rfl) ?_
        refine lv_aload_n hx hb d_Jo_init_64 rfl (lv_at hl 2 rfl) ?_
        refine fp_Jo_20 hE hnm hO hL (show onFr x x from rfl) (Nat.le_of_ble_eq_true rfl) d_Jo_init_65 (fun H locs h2 hu hL => ?_)
        replace hO : va_at D zC (x, .inr (4, [.int (nI (c1 + c2)), .int (nI false.toNat), .int (nI all.toNat), .ref lo, .null])) H := h2
        have hS := hS.up hu (show onFr x x from rfl)
        clear h2 hu
        refine lv_aload_n hx hb d_Jo_init_68 rfl (lv_at hl 0 rfl) ?_
        refine lv_aload_n hx hb d_Jo_init_69 rfl (lv_at hl 3 rfl) ?_
        refine fp_Jo_24 hE hnm hO hL (show onFr x x from rfl) (Nat.le_of_ble_eq_true rfl) d_Jo_init_70 (fun H locs h2 hu hL => ?_)
        replace hO : va_at D zC (x, .inr (4, [.int (nI (c1 + c2)), .int (nI false.toNat), .int (nI all.toNat), .ref lo, .ref up])) H := h2
        have hS := hS.up hu (show onFr x x from rfl)
        clear h2 hu
        have hval : (if all = true then d1 || d2 else d1 && d2) = false := by simp [hT11, hF40, hT47]
        exact zz_vret hx hb hr hlk ⟨rfl, hS, by rw [hval]; exact hO⟩ hL d_Jo_init_73
      · refine lv_iconst (v := nI 1) hx hb d_Jo_init_50 (by decide) ?_
        refine lv_goto hx hb d_Jo_init_51 (tgt := 55) rfl ?_
        refine zz_callN (cl_Jo_11 (rest := []) (As := [.int (nI (c1 + c2)), .int (nI true.toNat)]) hE (k_Ex_init_Jo l D ca x (c1 + c2) true (.int 0) (.int 0) (.int 0) .null .null) ⟨rfl, rfl, by decide, by decide⟩ hO rfl hl.1 rfl (Nat.le_of_ble_eq_true rfl) d_Jo_init_55 ⟨by decide, by decide⟩) hL (fun _ h => h) (fun H locs hpost hL => ?_)
        obtain ⟨hfr9, h9⟩ := hpost
        replace hO := h9
        have hS := hS.tr hfr9
        refine lv_aload_n hx hb d_Jo_init_58 rfl (lv_at hl 0 rfl) ?_
        refine lv_iload_n hx hb d_Jo_init_59 rfl (lv_at hl 1 rfl) ?_
        refine fp_Jo_15 (b := all) hE hnm hO hL (show onFr x x from rfl) (Nat.le_of_ble_eq_true rfl) d_Jo_init_60 (fun H locs h2 hu hL => ?_)
        replace hO : va_at D zC (x, .inr (4, [.int (nI (c1 + c2)), .int (nI true.toNat), .int (nI all.toNat), .null, .null])) H := h2
        have hS := hS.up hu (show onFr x x from rfl)
        clear h2 hu
        refine lv_aload_n hx hb d_Jo_init_63 rfl (lv_at hl 0 rfl) ?_
        refine lv_aload_n hx hb d_Jo_init_64 rfl (lv_at hl 2 rfl) ?_
        refine fp_Jo_20 hE hnm hO hL (show onFr x x from rfl) (Nat.le_of_ble_eq_true rfl) d_Jo_init_65 (fun H locs h2 hu hL => ?_)
        replace hO : va_at D zC (x, .inr (4, [.int (nI (c1 + c2)), .int (nI true.toNat), .int (nI all.toNat), .ref lo, .null])) H := h2
        have hS := hS.up hu (show onFr x x from rfl)
        clear h2 hu
        refine lv_aload_n hx hb d_Jo_init_68 rfl (lv_at hl 0 rfl) ?_
        refine lv_aload_n hx hb d_Jo_init_69 rfl (lv_at hl 3 rfl) ?_
        refine fp_Jo_24 hE hnm hO hL (show onFr x x from rfl) (Nat.le_of_ble_eq_true rfl) d_Jo_init_70 (fun H locs h2 hu hL => ?_)
        replace hO : va_at D zC (x, .inr (4, [.int (nI (c1 + c2)), .int (nI true.toNat), .int (nI all.toNat), .ref lo, .ref up])) H := h2
        have hS := hS.up hu (show onFr x x from rfl)
        clear h2 hu
        have hval : (if all = true then d1 || d2 else d1 && d2) = true := by simp [hT11, hF40, hF47]
        exact zz_vret hx hb hr hlk ⟨rfl, hS, by rw [hval]; exact hO⟩ hL d_Jo_init_73
  · refine lv_aload_n hx hb d_Jo_init_14 rfl (lv_at hl 2 rfl) ?_
    refine xg_Jo_7 hE hP d_Jo_init_15 ?_
    refine zz_neB hx hb d_Jo_init_18 (tgt := 28) rfl (fun hT18 => ?_) (fun hF18 => ?_)
    · refine lv_iconst (v := nI 1) hx hb d_Jo_init_28 (by decide) ?_
      refine lv_goto hx hb d_Jo_init_29 (tgt := 55) rfl ?_
      refine zz_callN (cl_Jo_11 (rest := []) (As := [.int (nI (c1 + c2)), .int (nI true.toNat)]) hE (k_Ex_init_Jo l D ca x (c1 + c2) true (.int 0) (.int 0) (.int 0) .null .null) ⟨rfl, rfl, by decide, by decide⟩ hO rfl hl.1 rfl (Nat.le_of_ble_eq_true rfl) d_Jo_init_55 ⟨by decide, by decide⟩) hL (fun _ h => h) (fun H locs hpost hL => ?_)
      obtain ⟨hfr9, h9⟩ := hpost
      replace hO := h9
      have hS := hS.tr hfr9
      refine lv_aload_n hx hb d_Jo_init_58 rfl (lv_at hl 0 rfl) ?_
      refine lv_iload_n hx hb d_Jo_init_59 rfl (lv_at hl 1 rfl) ?_
      refine fp_Jo_15 (b := all) hE hnm hO hL (show onFr x x from rfl) (Nat.le_of_ble_eq_true rfl) d_Jo_init_60 (fun H locs h2 hu hL => ?_)
      replace hO : va_at D zC (x, .inr (4, [.int (nI (c1 + c2)), .int (nI true.toNat), .int (nI all.toNat), .null, .null])) H := h2
      have hS := hS.up hu (show onFr x x from rfl)
      clear h2 hu
      refine lv_aload_n hx hb d_Jo_init_63 rfl (lv_at hl 0 rfl) ?_
      refine lv_aload_n hx hb d_Jo_init_64 rfl (lv_at hl 2 rfl) ?_
      refine fp_Jo_20 hE hnm hO hL (show onFr x x from rfl) (Nat.le_of_ble_eq_true rfl) d_Jo_init_65 (fun H locs h2 hu hL => ?_)
      replace hO : va_at D zC (x, .inr (4, [.int (nI (c1 + c2)), .int (nI true.toNat), .int (nI all.toNat), .ref lo, .null])) H := h2
      have hS := hS.up hu (show onFr x x from rfl)
      clear h2 hu
      refine lv_aload_n hx hb d_Jo_init_68 rfl (lv_at hl 0 rfl) ?_
      refine lv_aload_n hx hb d_Jo_init_69 rfl (lv_at hl 3 rfl) ?_
      refine fp_Jo_24 hE hnm hO hL (show onFr x x from rfl) (Nat.le_of_ble_eq_true rfl) d_Jo_init_70 (fun H locs h2 hu hL => ?_)
      replace hO : va_at D zC (x, .inr (4, [.int (nI (c1 + c2)), .int (nI true.toNat), .int (nI all.toNat), .ref lo, .ref up])) H := h2
      have hS := hS.up hu (show onFr x x from rfl)
      clear h2 hu
      have hval : (if all = true then d1 || d2 else d1 && d2) = true := by simp [hF11, hT18]
      exact zz_vret hx hb hr hlk ⟨rfl, hS, by rw [hval]; exact hO⟩ hL d_Jo_init_73
    · refine lv_aload_n hx hb d_Jo_init_21 rfl (lv_at hl 3 rfl) ?_
      refine xg_Jo_7 hE hQ d_Jo_init_22 ?_
      refine zz_eqB hx hb d_Jo_init_25 (tgt := 32) rfl (fun hT25 => ?_) (fun hF25 => ?_)
      · refine lv_iconst (v := nI 0) hx hb d_Jo_init_32 (by decide) ?_
        refine lv_goto hx hb d_Jo_init_33 (tgt := 55) rfl ?_
        refine zz_callN (cl_Jo_11 (rest := []) (As := [.int (nI (c1 + c2)), .int (nI false.toNat)]) hE (k_Ex_init_Jo l D ca x (c1 + c2) false (.int 0) (.int 0) (.int 0) .null .null) ⟨rfl, rfl, by decide, by decide⟩ hO rfl hl.1 rfl (Nat.le_of_ble_eq_true rfl) d_Jo_init_55 ⟨by decide, by decide⟩) hL (fun _ h => h) (fun H locs hpost hL => ?_)
        obtain ⟨hfr9, h9⟩ := hpost
        replace hO := h9
        have hS := hS.tr hfr9
        refine lv_aload_n hx hb d_Jo_init_58 rfl (lv_at hl 0 rfl) ?_
        refine lv_iload_n hx hb d_Jo_init_59 rfl (lv_at hl 1 rfl) ?_
        refine fp_Jo_15 (b := all) hE hnm hO hL (show onFr x x from rfl) (Nat.le_of_ble_eq_true rfl) d_Jo_init_60 (fun H locs h2 hu hL => ?_)
        replace hO : va_at D zC (x, .inr (4, [.int (nI (c1 + c2)), .int (nI false.toNat), .int (nI all.toNat), .null, .null])) H := h2
        have hS := hS.up hu (show onFr x x from rfl)
        clear h2 hu
        refine lv_aload_n hx hb d_Jo_init_63 rfl (lv_at hl 0 rfl) ?_
        refine lv_aload_n hx hb d_Jo_init_64 rfl (lv_at hl 2 rfl) ?_
        refine fp_Jo_20 hE hnm hO hL (show onFr x x from rfl) (Nat.le_of_ble_eq_true rfl) d_Jo_init_65 (fun H locs h2 hu hL => ?_)
        replace hO : va_at D zC (x, .inr (4, [.int (nI (c1 + c2)), .int (nI false.toNat), .int (nI all.toNat), .ref lo, .null])) H := h2
        have hS := hS.up hu (show onFr x x from rfl)
        clear h2 hu
        refine lv_aload_n hx hb d_Jo_init_68 rfl (lv_at hl 0 rfl) ?_
        refine lv_aload_n hx hb d_Jo_init_69 rfl (lv_at hl 3 rfl) ?_
        refine fp_Jo_24 hE hnm hO hL (show onFr x x from rfl) (Nat.le_of_ble_eq_true rfl) d_Jo_init_70 (fun H locs h2 hu hL => ?_)
        replace hO : va_at D zC (x, .inr (4, [.int (nI (c1 + c2)), .int (nI false.toNat), .int (nI all.toNat), .ref lo, .ref up])) H := h2
        have hS := hS.up hu (show onFr x x from rfl)
        clear h2 hu
        have hval : (if all = true then d1 || d2 else d1 && d2) = false := by simp [hF11, hF18, hT25]
        exact zz_vret hx hb hr hlk ⟨rfl, hS, by rw [hval]; exact hO⟩ hL d_Jo_init_73
      · refine lv_iconst (v := nI 1) hx hb d_Jo_init_28 (by decide) ?_
        refine lv_goto hx hb d_Jo_init_29 (tgt := 55) rfl ?_
        refine zz_callN (cl_Jo_11 (rest := []) (As := [.int (nI (c1 + c2)), .int (nI true.toNat)]) hE (k_Ex_init_Jo l D ca x (c1 + c2) true (.int 0) (.int 0) (.int 0) .null .null) ⟨rfl, rfl, by decide, by decide⟩ hO rfl hl.1 rfl (Nat.le_of_ble_eq_true rfl) d_Jo_init_55 ⟨by decide, by decide⟩) hL (fun _ h => h) (fun H locs hpost hL => ?_)
        obtain ⟨hfr9, h9⟩ := hpost
        replace hO := h9
        have hS := hS.tr hfr9
        refine lv_aload_n hx hb d_Jo_init_58 rfl (lv_at hl 0 rfl) ?_
        refine lv_iload_n hx hb d_Jo_init_59 rfl (lv_at hl 1 rfl) ?_
        refine fp_Jo_15 (b := all) hE hnm hO hL (show onFr x x from rfl) (Nat.le_of_ble_eq_true rfl) d_Jo_init_60 (fun H locs h2 hu hL => ?_)
        replace hO : va_at D zC (x, .inr (4, [.int (nI (c1 + c2)), .int (nI true.toNat), .int (nI all.toNat), .null, .null])) H := h2
        have hS := hS.up hu (show onFr x x from rfl)
        clear h2 hu
        refine lv_aload_n hx hb d_Jo_init_63 rfl (lv_at hl 0 rfl) ?_
        refine lv_aload_n hx hb d_Jo_init_64 rfl (lv_at hl 2 rfl) ?_
        refine fp_Jo_20 hE hnm hO hL (show onFr x x from rfl) (Nat.le_of_ble_eq_true rfl) d_Jo_init_65 (fun H locs h2 hu hL => ?_)
        replace hO : va_at D zC (x, .inr (4, [.int (nI (c1 + c2)), .int (nI true.toNat), .int (nI all.toNat), .ref lo, .null])) H := h2
        have hS := hS.up hu (show onFr x x from rfl)
        clear h2 hu
        refine lv_aload_n hx hb d_Jo_init_68 rfl (lv_at hl 0 rfl) ?_
        refine lv_aload_n hx hb d_Jo_init_69 rfl (lv_at hl 3 rfl) ?_
        refine fp_Jo_24 hE hnm hO hL (show onFr x x from rfl) (Nat.le_of_ble_eq_true rfl) d_Jo_init_70 (fun H locs h2 hu hL => ?_)
        replace hO : va_at D zC (x, .inr (4, [.int (nI (c1 + c2)), .int (nI true.toNat), .int (nI all.toNat), .ref lo, .ref up])) H := h2
        have hS := hS.up hu (show onFr x x from rfl)
        clear h2 hu
        have hval : (if all = true then d1 || d2 else d1 && d2) = true := by simp [hF11, hF18, hF25]
        exact zz_vret hx hb hr hlk ⟨rfl, hS, by rw [hval]; exact hO⟩ hL d_Jo_init_73

set_option maxHeartbeats 4000000 in
set_option maxRecDepth 100000 in
theorem k_Ru_init (l : Launch) (D : va_G) (ca : Nat → ClassId) (u : Nat) : Met l y_Ru_init w_Ru_init (zr 1 3 160) (zz_P D ca [.ref u] (fun H => va_at D zC (u, .inr (5, [.null, .null, .null, .int 0, .int 0])) H ∧ H.size = u + 1)) (zz_Q (fun H H1 v => v = none ∧ H1.size = u + 4 ∧ (∀ q, q < u → H1[q]? = H[q]?) ∧ RuAt D ca H1 u 0 0 (fun _ _ => 0))) 3 160 (ruFr u) := by
  refine zz_met (cc := c_Ru_init) (by decide) (Nat.le_of_ble_eq_true rfl) ?_
  intro p e s m below meth c ls hE hr hlk hnm ⟨hO, hsz⟩ hl
  have hx := hE.1.1
  have hb := hE.1.2.1
  have hK := hE.2
  have hl : lv_has ls 1 [(0, .ref u)] := hl
  have hL : zz_L (ruFr u) ([] : List Loc) := zz_L.nil
  have hFr : ∀ q, q < u → s.heap[q]? = s.heap[q]? := fun _ _ => rfl
  refine lv_aload_n hx hb d_Ru_init_0 rfl (lv_at hl 0 rfl) ?_
  refine W.objInit hx hb hE.1.2.2.2.1 (hE.1.2.2.2.2 _ zm_28) (hE.1.2.2.2.2 _ zm_17) (hE.1.2.2.2.2 _ zm_18) rfl (by rw [hE.1.2.2.1]; exact hl.1) rfl d_Ru_init_1 (Nat.le_of_ble_eq_true rfl) (Nat.le_of_ble_eq_true rfl) ?_
  refine W.eq (g2 := F0 m 4 ls []) rfl ?_
  refine lv_aload_n hx hb d_Ru_init_4 rfl (lv_at hl 0 rfl) ?_
  refine lv_iconst (v := nI 4) hx hb d_Ru_init_5 (by decide) ?_
  refine zz_newa (atype := .int) hx hb (hE.1.2.2.2.2 _ zm_47) hK.1 0 rfl rfl (n := 4) (by decide) (by decide) hsz (by decide) (by decide) d_Ru_init_6 (fun H g1 hn1 => ?_)
  replace hO := zz_keepN hn1 hO
  replace hFr : ∀ q, q < u → H[q]? = s.heap[q]? := fun q hq => (hn1.2 q (by omega)).trans (hFr q hq)
  replace hsz : H.size = u + 2 := by rw [hn1.1, hsz]
  clear hn1
  refine fp_Ru_9 hE hnm hO hL (show ruFr u u from ⟨by omega, by omega⟩) (Nat.le_of_ble_eq_true rfl) d_Ru_init_8 (fun H locs h2 hu hL => ?_)
  replace hO : va_at D zC (u, .inr (5, [.ref (u + 1), .null, .null, .int 0, .int 0])) H := h2
  replace g1 := zz_keep hu (show u + 1 ≠ u by omega) g1
  replace hFr : ∀ q, q < u → H[q]? = s.heap[q]? := fun q hq => (hu.2 q (by omega)).trans (hFr q hq)
  replace hsz : H.size = u + 2 := by rw [hu.1, hsz]
  clear h2 hu
  refine lv_aload_n hx hb d_Ru_init_11 rfl (lv_at hl 0 rfl) ?_
  refine lv_sipush (v := nI 144) hx hb d_Ru_init_12 (by decide) ?_
  refine zz_newa (atype := .boolean) hx hb (hE.1.2.2.2.2 _ zm_48) hK.1 2 rfl rfl (n := 144) (by decide) (by decide) hsz (by decide) (by decide) d_Ru_init_15 (fun H g2 hn1 => ?_)
  replace hO := zz_keepN hn1 hO
  replace g1 := zz_keepN hn1 g1
  replace hFr : ∀ q, q < u → H[q]? = s.heap[q]? := fun q hq => (hn1.2 q (by omega)).trans (hFr q hq)
  replace hsz : H.size = u + 3 := by rw [hn1.1, hsz]
  clear hn1
  refine fp_Ru_15 hE hnm hO hL (show ruFr u u from ⟨by omega, by omega⟩) (Nat.le_of_ble_eq_true rfl) d_Ru_init_17 (fun H locs h2 hu hL => ?_)
  replace hO : va_at D zC (u, .inr (5, [.ref (u + 1), .ref (u + 2), .null, .int 0, .int 0])) H := h2
  replace g1 := zz_keep hu (show u + 1 ≠ u by omega) g1
  replace g2 := zz_keep hu (show u + 2 ≠ u by omega) g2
  replace hFr : ∀ q, q < u → H[q]? = s.heap[q]? := fun q hq => (hu.2 q (by omega)).trans (hFr q hq)
  replace hsz : H.size = u + 3 := by rw [hu.1, hsz]
  clear h2 hu
  refine lv_aload_n hx hb d_Ru_init_20 rfl (lv_at hl 0 rfl) ?_
  refine lv_bipush (v := nI 12) hx hb d_Ru_init_21 (by decide) ?_
  refine zz_newa (atype := .int) hx hb (hE.1.2.2.2.2 _ zm_47) hK.1 0 rfl rfl (n := 12) (by decide) (by decide) hsz (by decide) (by decide) d_Ru_init_23 (fun H g3 hn1 => ?_)
  replace hO := zz_keepN hn1 hO
  replace g1 := zz_keepN hn1 g1
  replace g2 := zz_keepN hn1 g2
  replace hFr : ∀ q, q < u → H[q]? = s.heap[q]? := fun q hq => (hn1.2 q (by omega)).trans (hFr q hq)
  replace hsz : H.size = u + 4 := by rw [hn1.1, hsz]
  clear hn1
  refine fp_Ru_19 hE hnm hO hL (show ruFr u u from ⟨by omega, by omega⟩) (Nat.le_of_ble_eq_true rfl) d_Ru_init_25 (fun H locs h2 hu hL => ?_)
  replace hO : va_at D zC (u, .inr (5, [.ref (u + 1), .ref (u + 2), .ref (u + 3), .int 0, .int 0])) H := h2
  replace g1 := zz_keep hu (show u + 1 ≠ u by omega) g1
  replace g2 := zz_keep hu (show u + 2 ≠ u by omega) g2
  replace g3 := zz_keep hu (show u + 3 ≠ u by omega) g3
  replace hFr : ∀ q, q < u → H[q]? = s.heap[q]? := fun q hq => (hu.2 q (by omega)).trans (hFr q hq)
  replace hsz : H.size = u + 4 := by rw [hu.1, hsz]
  clear h2 hu
  have e0 : ruF u 0 0 = [.ref (u + 1), .ref (u + 2), .ref (u + 3), .int 0, .int 0] := by unfold ruF; rw [nI_0]
  have hM : RuAt D ca H u 0 0 (fun _ _ => 0) := by
      refine ⟨by rw [e0]; exact hO, fun k h1 h2 => ?_⟩
      rw [← nI_0] at g1 g2 g3
      rcases (show k = 1 ∨ k = 2 ∨ k = 3 by omega) with rfl | rfl | rfl
      · exact g1
      · exact g2
      · exact g3
  refine W.widen (k := 3) (n := 160) (by decide) (by decide) ?_
  exact zz_vret hx hb hr hlk ⟨rfl, hsz, hFr, hM⟩ hL d_Ru_init_28
