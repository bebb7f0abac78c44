def mIn0 (D : va_G) (ca : Nat → ClassId) (r k : Nat) (H : Heap) : Prop := ∀ j, 1 ≤ j → j ≤ k → va_at D zC (r + j, .inl (moC ca j, moL j, .inl (fun _ => 0))) H
theorem mo_in {D : va_G} {ca : Nat → ClassId} {r k : Nat} {H H1 : Heap} (h : mIn0 D ca r k H) (h1 : va_at D zC (r + (k + 1), .inl (moC ca (k + 1), moL (k + 1), .inl (fun _ => 0))) H1) (hn : zz_nw H H1) : mIn0 D ca r (k + 1) H1 := by
  intro j hj1 hj2
  by_cases hjk : j = k + 1
  · subst hjk; exact h1
  · exact zz_keepN hn (h j hj1 (by omega))
theorem mo_inU {D : va_G} {ca : Nat → ClassId} {r k : Nat} {H H1 : Heap} (h : mIn0 D ca r k H) (hu : zz_up H H1 r) : mIn0 D ca r k H1 := fun j hj1 hj2 => zz_keep hu (show r + j ≠ r by omega) (h j hj1 hj2)

set_option maxHeartbeats 4000000 in
set_option maxRecDepth 100000 in
theorem k_Mo_init (l : Launch) (D : va_G) (ca : Nat → ClassId) (r : Nat) : Met l y_Mo_init w_Mo_init (zr 1 18 1238) (zz_P D ca [.ref r] (fun H => va_at D zC (r, .inr (7, [.null, .null, .int 0, .null, .null, .null, .null, .null, .null, .null, .null, .int 0, .int 0, .null, .null, .null, .null, .null, .int 0, .null, .null, .null])) H ∧ H.size = r + 1)) (zz_Q (fun H H1 v => v = none ∧ H1.size = r + 19 ∧ (∀ q, q < r → H1[q]? = H[q]?) ∧ MoAt D ca H1 r 0 0 0 0 (fun _ _ => 0))) 18 1238 (moFr r) := by
  refine zz_met (cc := c_Mo_init) (by decide) (Nat.le_of_ble_eq_true rfl) ?_
  intro p e s m below meth c ls hE hr hlk hnm ⟨hO, hsz⟩ hl
  have hx := hE.1.1
  have hb := hE.1.2.1
  have hK := hE.2
  have hl : lv_has ls 1 [(0, .ref r)] := hl
  have hL : zz_L (moFr r) ([] : List Loc) := zz_L.nil
  have hI : mIn0 D ca r 0 s.heap := fun j h1 h2 => absurd h1 (by omega)
  have hFr : ∀ q, q < r → s.heap[q]? = s.heap[q]? := fun _ _ => rfl
  refine lv_aload_n hx hb d_Mo_init_0 rfl (lv_at hl 0 rfl) ?_
  refine W.objInit hx hb hE.1.2.2.2.1 (hE.1.2.2.2.2 _ zm_436) (hE.1.2.2.2.2 _ zm_17) (hE.1.2.2.2.2 _ zm_18) rfl (by rw [hE.1.2.2.1]; exact hl.1) rfl d_Mo_init_1 (Nat.le_of_ble_eq_true rfl) (Nat.le_of_ble_eq_true rfl) ?_
  refine W.eq (g2 := F0 m 4 ls []) rfl ?_
  refine lv_aload_n hx hb d_Mo_init_4 rfl (lv_at hl 0 rfl) ?_
  refine lv_sipush (v := nI 312) hx hb d_Mo_init_5 (by decide) ?_
  refine zz_newa (atype := .int) hx hb (hE.1.2.2.2.2 _ zm_47) hK.1 0 rfl rfl (n := 312) (by decide) (by decide) hsz (by decide) (by decide) d_Mo_init_8 (fun H h1 hn1 => ?_)
  replace hO := zz_keepN hn1 hO
  replace hI : mIn0 D ca r 1 H := mo_in (k := 0) hI h1 hn1
  replace hFr : ∀ q, q < r → H[q]? = s.heap[q]? := fun q hq => (hn1.2 q (Nat.lt_of_lt_of_le hq (by rw [hsz]; exact Nat.le_add_right _ _))).trans (hFr q hq)
  replace hsz : H.size = r + 2 := by rw [hn1.1, hsz]
  clear h1 hn1
  refine fp_Mo_7 hE hnm hO hL (show moFr r r from ⟨by omega, by omega⟩) (Nat.le_of_ble_eq_true rfl) d_Mo_init_10 (fun H locs h2 hu hL => ?_)
  replace hO : va_at D zC (r, .inr (7, [.ref (r + 1), .null, .int 0, .null, .null, .null, .null, .null, .null, .null, .null, .int 0, .int 0, .null, .null, .null, .null, .null, .int 0, .null, .null, .null])) H := h2
  replace hI := mo_inU hI hu
  replace hFr : ∀ q, q < r → H[q]? = s.heap[q]? := fun q hq => (hu.2 q (Nat.ne_of_lt hq)).trans (hFr q hq)
  replace hsz : H.size = r + 2 := by rw [hu.1, hsz]
  clear h2 hu
  refine lv_aload_n hx hb d_Mo_init_13 rfl (lv_at hl 0 rfl) ?_
  refine lv_bipush (v := nI 26) hx hb d_Mo_init_14 (by decide) ?_
  refine zz_newa (atype := .int) hx hb (hE.1.2.2.2.2 _ zm_47) hK.1 0 rfl rfl (n := 26) (by decide) (by decide) hsz (by decide) (by decide) d_Mo_init_16 (fun H h1 hn1 => ?_)
  replace hO := zz_keepN hn1 hO
  replace hI : mIn0 D ca r 2 H := mo_in (k := 1) hI h1 hn1
  replace hFr : ∀ q, q < r → H[q]? = s.heap[q]? := fun q hq => (hn1.2 q (Nat.lt_of_lt_of_le hq (by rw [hsz]; exact Nat.le_add_right _ _))).trans (hFr q hq)
  replace hsz : H.size = r + 3 := by rw [hn1.1, hsz]
  clear h1 hn1
  refine fp_Mo_13 hE hnm hO hL (show moFr r r from ⟨by omega, by omega⟩) (Nat.le_of_ble_eq_true rfl) d_Mo_init_18 (fun H locs h2 hu hL => ?_)
  replace hO : va_at D zC (r, .inr (7, [.ref (r + 1), .ref (r + 2), .int 0, .null, .null, .null, .null, .null, .null, .null, .null, .int 0, .int 0, .null, .null, .null, .null, .null, .int 0, .null, .null, .null])) H := h2
  replace hI := mo_inU hI hu
  replace hFr : ∀ q, q < r → H[q]? = s.heap[q]? := fun q hq => (hu.2 q (Nat.ne_of_lt hq)).trans (hFr q hq)
  replace hsz : H.size = r + 3 := by rw [hu.1, hsz]
  clear h2 hu
  refine lv_aload_n hx hb d_Mo_init_21 rfl (lv_at hl 0 rfl) ?_
  refine lv_bipush (v := nI 24) hx hb d_Mo_init_22 (by decide) ?_
  refine zz_newa (atype := .int) hx hb (hE.1.2.2.2.2 _ zm_47) hK.1 0 rfl rfl (n := 24) (by decide) (by decide) hsz (by decide) (by decide) d_Mo_init_24 (fun H h1 hn1 => ?_)
  replace hO := zz_keepN hn1 hO
  replace hI : mIn0 D ca r 3 H := mo_in (k := 2) hI h1 hn1
  replace hFr : ∀ q, q < r → H[q]? = s.heap[q]? := fun q hq => (hn1.2 q (Nat.lt_of_lt_of_le hq (by rw [hsz]; exact Nat.le_add_right _ _))).trans (hFr q hq)
  replace hsz : H.size = r + 4 := by rw [hn1.1, hsz]
  clear h1 hn1
  refine fp_Mo_16 hE hnm hO hL (show moFr r r from ⟨by omega, by omega⟩) (Nat.le_of_ble_eq_true rfl) d_Mo_init_26 (fun H locs h2 hu hL => ?_)
  replace hO : va_at D zC (r, .inr (7, [.ref (r + 1), .ref (r + 2), .int 0, .ref (r + 3), .null, .null, .null, .null, .null, .null, .null, .int 0, .int 0, .null, .null, .null, .null, .null, .int 0, .null, .null, .null])) H := h2
  replace hI := mo_inU hI hu
  replace hFr : ∀ q, q < r → H[q]? = s.heap[q]? := fun q hq => (hu.2 q (Nat.ne_of_lt hq)).trans (hFr q hq)
  replace hsz : H.size = r + 4 := by rw [hu.1, hsz]
  clear h2 hu
  refine lv_aload_n hx hb d_Mo_init_29 rfl (lv_at hl 0 rfl) ?_
  refine lv_iconst (v := nI 2) hx hb d_Mo_init_30 (by decide) ?_
  refine zz_newa (atype := .int) hx hb (hE.1.2.2.2.2 _ zm_47) hK.1 0 rfl rfl (n := 2) (by decide) (by decide) hsz (by decide) (by decide) d_Mo_init_31 (fun H h1 hn1 => ?_)
  replace hO := zz_keepN hn1 hO
  replace hI : mIn0 D ca r 4 H := mo_in (k := 3) hI h1 hn1
  replace hFr : ∀ q, q < r → H[q]? = s.heap[q]? := fun q hq => (hn1.2 q (Nat.lt_of_lt_of_le hq (by rw [hsz]; exact Nat.le_add_right _ _))).trans (hFr q hq)
  replace hsz : H.size = r + 5 := by rw [hn1.1, hsz]
  clear h1 hn1
  refine fp_Mo_19 hE hnm hO hL (show moFr r r from ⟨by omega, by omega⟩) (Nat.le_of_ble_eq_true rfl) d_Mo_init_33 (fun H locs h2 hu hL => ?_)
  replace hO : va_at D zC (r, .inr (7, [.ref (r + 1), .ref (r + 2), .int 0, .ref (r + 3), .ref (r + 4), .null, .null, .null, .null, .null, .null, .int 0, .int 0, .null, .null, .null, .null, .null, .int 0, .null, .null, .null])) H := h2
  replace hI := mo_inU hI hu
  replace hFr : ∀ q, q < r → H[q]? = s.heap[q]? := fun q hq => (hu.2 q (Nat.ne_of_lt hq)).trans (hFr q hq)
  replace hsz : H.size = r + 5 := by rw [hu.1, hsz]
  clear h2 hu
  refine lv_aload_n hx hb d_Mo_init_36 rfl (lv_at hl 0 rfl) ?_
  refine lv_sipush (v := nI 169) hx hb d_Mo_init_37 (by decide) ?_
  refine zz_newa (atype := .int) hx hb (hE.1.2.2.2.2 _ zm_47) hK.1 0 rfl rfl (n := 169) (by decide) (by decide) hsz (by decide) (by decide) d_Mo_init_40 (fun H h1 hn1 => ?_)
  replace hO := zz_keepN hn1 hO
  replace hI : mIn0 D ca r 5 H := mo_in (k := 4) hI h1 hn1
  replace hFr : ∀ q, q < r → H[q]? = s.heap[q]? := fun q hq => (hn1.2 q (Nat.lt_of_lt_of_le hq (by rw [hsz]; exact Nat.le_add_right _ _))).trans (hFr q hq)
  replace hsz : H.size = r + 6 := by rw [hn1.1, hsz]
  clear h1 hn1
  refine fp_Mo_22 hE hnm hO hL (show moFr r r from ⟨by omega, by omega⟩) (Nat.le_of_ble_eq_true rfl) d_Mo_init_42 (fun H locs h2 hu hL => ?_)
  replace hO : va_at D zC (r, .inr (7, [.ref (r + 1), .ref (r + 2), .int 0, .ref (r + 3), .ref (r + 4), .ref (r + 5), .null, .null, .null, .null, .null, .int 0, .int 0, .null, .null, .null, .null, .null, .int 0, .null, .null, .null])) H := h2
  replace hI := mo_inU hI hu
  replace hFr : ∀ q, q < r → H[q]? = s.heap[q]? := fun q hq => (hu.2 q (Nat.ne_of_lt hq)).trans (hFr q hq)
  replace hsz : H.size = r + 6 := by rw [hu.1, hsz]
  clear h2 hu
  refine lv_aload_n hx hb d_Mo_init_45 rfl (lv_at hl 0 rfl) ?_
  refine lv_sipush (v := nI 140) hx hb d_Mo_init_46 (by decide) ?_
  refine zz_newa (atype := .int) hx hb (hE.1.2.2.2.2 _ zm_47) hK.1 0 rfl rfl (n := 140) (by decide) (by decide) hsz (by decide) (by decide) d_Mo_init_49 (fun H h1 hn1 => ?_)
  replace hO := zz_keepN hn1 hO
  replace hI : mIn0 D ca r 6 H := mo_in (k := 5) hI h1 hn1
  replace hFr : ∀ q, q < r → H[q]? = s.heap[q]? := fun q hq => (hn1.2 q (Nat.lt_of_lt_of_le hq (by rw [hsz]; exact Nat.le_add_right _ _))).trans (hFr q hq)
  replace hsz : H.size = r + 7 := by rw [hn1.1, hsz]
  clear h1 hn1
  refine fp_Mo_25 hE hnm hO hL (show moFr r r from ⟨by omega, by omega⟩) (Nat.le_of_ble_eq_true rfl) d_Mo_init_51 (fun H locs h2 hu hL => ?_)
  replace hO : va_at D zC (r, .inr (7, [.ref (r + 1), .ref (r + 2), .int 0, .ref (r + 3), .ref (r + 4), .ref (r + 5), .ref (r + 6), .null, .null, .null, .null, .int 0, .int 0, .null, .null, .null, .null, .null, .int 0, .null, .null, .null])) H := h2
  replace hI := mo_inU hI hu
  replace hFr : ∀ q, q < r → H[q]? = s.heap[q]? := fun q hq => (hu.2 q (Nat.ne_of_lt hq)).trans (hFr q hq)
  replace hsz : H.size = r + 7 := by rw [hu.1, hsz]
  clear h2 hu
  refine lv_aload_n hx hb d_Mo_init_54 rfl (lv_at hl 0 rfl) ?_
  refine lv_sipush (v := nI 140) hx hb d_Mo_init_55 (by decide) ?_
  refine zz_newa (atype := .int) hx hb (hE.1.2.2.2.2 _ zm_47) hK.1 0 rfl rfl (n := 140) (by decide) (by decide) hsz (by decide) (by decide) d_Mo_init_58 (fun H h1 hn1 => ?_)
  replace hO := zz_keepN hn1 hO
  replace hI : mIn0 D ca r 7 H := mo_in (k := 6) hI h1 hn1
  replace hFr : ∀ q, q < r → H[q]? = s.heap[q]? := fun q hq => (hn1.2 q (Nat.lt_of_lt_of_le hq (by rw [hsz]; exact Nat.le_add_right _ _))).trans (hFr q hq)
  replace hsz : H.size = r + 8 := by rw [hn1.1, hsz]
  clear h1 hn1
  refine fp_Mo_28 hE hnm hO hL (show moFr r r from ⟨by omega, by omega⟩) (Nat.le_of_ble_eq_true rfl) d_Mo_init_60 (fun H locs h2 hu hL => ?_)
  replace hO : va_at D zC (r, .inr (7, [.ref (r + 1), .ref (r + 2), .int 0, .ref (r + 3), .ref (r + 4), .ref (r + 5), .ref (r + 6), .ref (r + 7), .null, .null, .null, .int 0, .int 0, .null, .null, .null, .null, .null, .int 0, .null, .null, .null])) H := h2
  replace hI := mo_inU hI hu
  replace hFr : ∀ q, q < r → H[q]? = s.heap[q]? := fun q hq => (hu.2 q (Nat.ne_of_lt hq)).trans (hFr q hq)
  replace hsz : H.size = r + 8 := by rw [hu.1, hsz]
  clear h2 hu
  refine lv_aload_n hx hb d_Mo_init_63 rfl (lv_at hl 0 rfl) ?_
  refine lv_sipush (v := nI 140) hx hb d_Mo_init_64 (by decide) ?_
  refine zz_newa (atype := .int) hx hb (hE.1.2.2.2.2 _ zm_47) hK.1 0 rfl rfl (n := 140) (by decide) (by decide) hsz (by decide) (by decide) d_Mo_init_67 (fun H h1 hn1 => ?_)
  replace hO := zz_keepN hn1 hO
  replace hI : mIn0 D ca r 8 H := mo_in (k := 7) hI h1 hn1
  replace hFr : ∀ q, q < r → H[q]? = s.heap[q]? := fun q hq => (hn1.2 q (Nat.lt_of_lt_of_le hq (by rw [hsz]; exact Nat.le_add_right _ _))).trans (hFr q hq)
  replace hsz : H.size = r + 9 := by rw [hn1.1, hsz]
  clear h1 hn1
  refine fp_Mo_31 hE hnm hO hL (show moFr r r from ⟨by omega, by omega⟩) (Nat.le_of_ble_eq_true rfl) d_Mo_init_69 (fun H locs h2 hu hL => ?_)
  replace hO : va_at D zC (r, .inr (7, [.ref (r + 1), .ref (r + 2), .int 0, .ref (r + 3), .ref (r + 4), .ref (r + 5), .ref (r + 6), .ref (r + 7), .ref (r + 8), .null, .null, .int 0, .int 0, .null, .null, .null, .null, .null, .int 0, .null, .null, .null])) H := h2
  replace hI := mo_inU hI hu
  replace hFr : ∀ q, q < r → H[q]? = s.heap[q]? := fun q hq => (hu.2 q (Nat.ne_of_lt hq)).trans (hFr q hq)
  replace hsz : H.size = r + 9 := by rw [hu.1, hsz]
  clear h2 hu
  refine lv_aload_n hx hb d_Mo_init_72 rfl (lv_at hl 0 rfl) ?_
  refine lv_sipush (v := nI 140) hx hb d_Mo_init_73 (by decide) ?_
  refine zz_newa (atype := .int) hx hb (hE.1.2.2.2.2 _ zm_47) hK.1 0 rfl rfl (n := 140) (by decide) (by decide) hsz (by decide) (by decide) d_Mo_init_76 (fun H h1 hn1 => ?_)
  replace hO := zz_keepN hn1 hO
  replace hI : mIn0 D ca r 9 H := mo_in (k := 8) hI h1 hn1
  replace hFr : ∀ q, q < r → H[q]? = s.heap[q]? := fun q hq => (hn1.2 q (Nat.lt_of_lt_of_le hq (by rw [hsz]; exact Nat.le_add_right _ _))).trans (hFr q hq)
  replace hsz : H.size = r + 10 := by rw [hn1.1, hsz]
  clear h1 hn1
  refine fp_Mo_34 hE hnm hO hL (show moFr r r from ⟨by omega, by omega⟩) (Nat.le_of_ble_eq_true rfl) d_Mo_init_78 (fun H locs h2 hu hL => ?_)
  replace hO : va_at D zC (r, .inr (7, [.ref (r + 1), .ref (r + 2), .int 0, .ref (r + 3), .ref (r + 4), .ref (r + 5), .ref (r + 6), .ref (r + 7), .ref (r + 8), .ref (r + 9), .null, .int 0, .int 0, .null, .null, .null, .null, .null, .int 0, .null, .null, .null])) H := h2
  replace hI := mo_inU hI hu
  replace hFr : ∀ q, q < r → H[q]? = s.heap[q]? := fun q hq => (hu.2 q (Nat.ne_of_lt hq)).trans (hFr q hq)
  replace hsz : H.size = r + 10 := by rw [hu.1, hsz]
  clear h2 hu
  refine lv_aload_n hx hb d_Mo_init_81 rfl (lv_at hl 0 rfl) ?_
  refine lv_bipush (v := nI 7) hx hb d_Mo_init_82 (by decide) ?_
  refine zz_newa (atype := .int) hx hb (hE.1.2.2.2.2 _ zm_47) hK.1 0 rfl rfl (n := 7) (by decide) (by decide) hsz (by decide) (by decide) d_Mo_init_84 (fun H h1 hn1 => ?_)
  replace hO := zz_keepN hn1 hO
  replace hI : mIn0 D ca r 10 H := mo_in (k := 9) hI h1 hn1
  replace hFr : ∀ q, q < r → H[q]? = s.heap[q]? := fun q hq => (hn1.2 q (Nat.lt_of_lt_of_le hq (by rw [hsz]; exact Nat.le_add_right _ _))).trans (hFr q hq)
  replace hsz : H.size = r + 11 := by rw [hn1.1, hsz]
  clear h1 hn1
  refine fp_Mo_37 hE hnm hO hL (show moFr r r from ⟨by omega, by omega⟩) (Nat.le_of_ble_eq_true rfl) d_Mo_init_86 (fun H locs h2 hu hL => ?_)
  replace hO : va_at D zC (r, .inr (7, [.ref (r + 1), .ref (r + 2), .int 0, .ref (r + 3), .ref (r + 4), .ref (r + 5), .ref (r + 6), .ref (r + 7), .ref (r + 8), .ref (r + 9), .ref (r + 10), .int 0, .int 0, .null, .null, .null, .null, .null, .int 0, .null, .null, .null])) H := h2
  replace hI := mo_inU hI hu
  replace hFr : ∀ q, q < r → H[q]? = s.heap[q]? := fun q hq => (hu.2 q (Nat.ne_of_lt hq)).trans (hFr q hq)
  replace hsz : H.size = r + 11 := by rw [hu.1, hsz]
  clear h2 hu
  refine lv_aload_n hx hb d_Mo_init_89 rfl (lv_at hl 0 rfl) ?_
  refine lv_bipush (v := nI 24) hx hb d_Mo_init_90 (by decide) ?_
  refine zz_newa (atype := .int) hx hb (hE.1.2.2.2.2 _ zm_47) hK.1 0 rfl rfl (n := 24) (by decide) (by decide) hsz (by decide) (by decide) d_Mo_init_92 (fun H h1 hn1 => ?_)
  replace hO := zz_keepN hn1 hO
  replace hI : mIn0 D ca r 11 H := mo_in (k := 10) hI h1 hn1
  replace hFr : ∀ q, q < r → H[q]? = s.heap[q]? := fun q hq => (hn1.2 q (Nat.lt_of_lt_of_le hq (by rw [hsz]; exact Nat.le_add_right _ _))).trans (hFr q hq)
  replace hsz : H.size = r + 12 := by rw [hn1.1, hsz]
  clear h1 hn1
  refine fp_Mo_40 hE hnm hO hL (show moFr r r from ⟨by omega, by omega⟩) (Nat.le_of_ble_eq_true rfl) d_Mo_init_94 (fun H locs h2 hu hL => ?_)
  replace hO : va_at D zC (r, .inr (7, [.ref (r + 1), .ref (r + 2), .int 0, .ref (r + 3), .ref (r + 4), .ref (r + 5), .ref (r + 6), .ref (r + 7), .ref (r + 8), .ref (r + 9), .ref (r + 10), .int 0, .int 0, .ref (r + 11), .null, .null, .null, .null, .int 0, .null, .null, .null])) H := h2
  replace hI := mo_inU hI hu
  replace hFr : ∀ q, q < r → H[q]? = s.heap[q]? := fun q hq => (hu.2 q (Nat.ne_of_lt hq)).trans (hFr q hq)
  replace hsz : H.size = r + 12 := by rw [hu.1, hsz]
  clear h2 hu
  refine lv_aload_n hx hb d_Mo_init_97 rfl (lv_at hl 0 rfl) ?_
  refine lv_bipush (v := nI 24) hx hb d_Mo_init_98 (by decide) ?_
  refine zz_newa (atype := .int) hx hb (hE.1.2.2.2.2 _ zm_47) hK.1 0 rfl rfl (n := 24) (by decide) (by decide) hsz (by decide) (by decide) d_Mo_init_100 (fun H h1 hn1 => ?_)
  replace hO := zz_keepN hn1 hO
  replace hI : mIn0 D ca r 12 H := mo_in (k := 11) hI h1 hn1
  replace hFr : ∀ q, q < r → H[q]? = s.heap[q]? := fun q hq => (hn1.2 q (Nat.lt_of_lt_of_le hq (by rw [hsz]; exact Nat.le_add_right _ _))).trans (hFr q hq)
  replace hsz : H.size = r + 13 := by rw [hn1.1, hsz]
  clear h1 hn1
  refine fp_Mo_43 hE hnm hO hL (show moFr r r from ⟨by omega, by omega⟩) (Nat.le_of_ble_eq_true rfl) d_Mo_init_102 (fun H locs h2 hu hL => ?_)
  replace hO : va_at D zC (r, .inr (7, [.ref (r + 1), .ref (r + 2), .int 0, .ref (r + 3), .ref (r + 4), .ref (r + 5), .ref (r + 6), .ref (r + 7), .ref (r + 8), .ref (r + 9), .ref (r + 10), .int 0, .int 0, .ref (r + 11), .ref (r + 12), .null, .null, .null, .int 0, .null, .null, .null])) H := h2
  replace hI := mo_inU hI hu
  replace hFr : ∀ q, q < r → H[q]? = s.heap[q]? := fun q hq => (hu.2 q (Nat.ne_of_lt hq)).trans (hFr q hq)
  replace hsz : H.size = r + 13 := by rw [hu.1, hsz]
  clear h2 hu
  refine lv_aload_n hx hb d_Mo_init_105 rfl (lv_at hl 0 rfl) ?_
  refine lv_bipush (v := nI 24) hx hb d_Mo_init_106 (by decide) ?_
  refine zz_newa (atype := .int) hx hb (hE.1.2.2.2.2 _ zm_47) hK.1 0 rfl rfl (n := 24) (by decide) (by decide) hsz (by decide) (by decide) d_Mo_init_108 (fun H h1 hn1 => ?_)
  replace hO := zz_keepN hn1 hO
  replace hI : mIn0 D ca r 13 H := mo_in (k := 12) hI h1 hn1
  replace hFr : ∀ q, q < r → H[q]? = s.heap[q]? := fun q hq => (hn1.2 q (Nat.lt_of_lt_of_le hq (by rw [hsz]; exact Nat.le_add_right _ _))).trans (hFr q hq)
  replace hsz : H.size = r + 14 := by rw [hn1.1, hsz]
  clear h1 hn1
  refine fp_Mo_46 hE hnm hO hL (show moFr r r from ⟨by omega, by omega⟩) (Nat.le_of_ble_eq_true rfl) d_Mo_init_110 (fun H locs h2 hu hL => ?_)
  replace hO : va_at D zC (r, .inr (7, [.ref (r + 1), .ref (r + 2), .int 0, .ref (r + 3), .ref (r + 4), .ref (r + 5), .ref (r + 6), .ref (r + 7), .ref (r + 8), .ref (r + 9), .ref (r + 10), .int 0, .int 0, .ref (r + 11), .ref (r + 12), .ref (r + 13), .null, .null, .int 0, .null, .null, .null])) H := h2
  replace hI := mo_inU hI hu
  replace hFr : ∀ q, q < r → H[q]? = s.heap[q]? := fun q hq => (hu.2 q (Nat.ne_of_lt hq)).trans (hFr q hq)
  replace hsz : H.size = r + 14 := by rw [hu.1, hsz]
  clear h2 hu
  refine lv_aload_n hx hb d_Mo_init_113 rfl (lv_at hl 0 rfl) ?_
  refine lv_bipush (v := nI 24) hx hb d_Mo_init_114 (by decide) ?_
  refine zz_newa (atype := .int) hx hb (hE.1.2.2.2.2 _ zm_47) hK.1 0 rfl rfl (n := 24) (by decide) (by decide) hsz (by decide) (by decide) d_Mo_init_116 (fun H h1 hn1 => ?_)
  replace hO := zz_keepN hn1 hO
  replace hI : mIn0 D ca r 14 H := mo_in (k := 13) hI h1 hn1
  replace hFr : ∀ q, q < r → H[q]? = s.heap[q]? := fun q hq => (hn1.2 q (Nat.lt_of_lt_of_le hq (by rw [hsz]; exact Nat.le_add_right _ _))).trans (hFr q hq)
  replace hsz : H.size = r + 15 := by rw [hn1.1, hsz]
  clear h1 hn1
  refine fp_Mo_49 hE hnm hO hL (show moFr r r from ⟨by omega, by omega⟩) (Nat.le_of_ble_eq_true rfl) d_Mo_init_118 (fun H locs h2 hu hL => ?_)
  replace hO : va_at D zC (r, .inr (7, [.ref (r + 1), .ref (r + 2), .int 0, .ref (r + 3), .ref (r + 4), .ref (r + 5), .ref (r + 6), .ref (r + 7), .ref (r + 8), .ref (r + 9), .ref (r + 10), .int 0, .int 0, .ref (r + 11), .ref (r + 12), .ref (r + 13), .ref (r + 14), .null, .int 0, .null, .null, .null])) H := h2
  replace hI := mo_inU hI hu
  replace hFr : ∀ q, q < r → H[q]? = s.heap[q]? := fun q hq => (hu.2 q (Nat.ne_of_lt hq)).trans (hFr q hq)
  replace hsz : H.size = r + 15 := by rw [hu.1, hsz]
  clear h2 hu
  refine lv_aload_n hx hb d_Mo_init_121 rfl (lv_at hl 0 rfl) ?_
  refine lv_bipush (v := nI 24) hx hb d_Mo_init_122 (by decide) ?_
  refine zz_newa (atype := .boolean) hx hb (hE.1.2.2.2.2 _ zm_48) hK.1 2 rfl rfl (n := 24) (by decide) (by decide) hsz (by decide) (by decide) d_Mo_init_124 (fun H h1 hn1 => ?_)
  replace hO := zz_keepN hn1 hO
  replace hI : mIn0 D ca r 15 H := mo_in (k := 14) hI h1 hn1
  replace hFr : ∀ q, q < r → H[q]? = s.heap[q]? := fun q hq => (hn1.2 q (Nat.lt_of_lt_of_le hq (by rw [hsz]; exact Nat.le_add_right _ _))).trans (hFr q hq)
  replace hsz : H.size = r + 16 := by rw [hn1.1, hsz]
  clear h1 hn1
  refine fp_Mo_52 hE hnm hO hL (show moFr r r from ⟨by omega, by omega⟩) (Nat.le_of_ble_eq_true rfl) d_Mo_init_126 (fun H locs h2 hu hL => ?_)
  replace hO : va_at D zC (r, .inr (7, [.ref (r + 1), .ref (r + 2), .int 0, .ref (r + 3), .ref (r + 4), .ref (r + 5), .ref (r + 6), .ref (r + 7), .ref (r + 8), .ref (r + 9), .ref (r + 10), .int 0, .int 0, .ref (r + 11), .ref (r + 12), .ref (r + 13), .ref (r + 14), .ref (r + 15), .int 0, .null, .null, .null])) H := h2
  replace hI := mo_inU hI hu
  replace hFr : ∀ q, q < r → H[q]? = s.heap[q]? := fun q hq => (hu.2 q (Nat.ne_of_lt hq)).trans (hFr q hq)
  replace hsz : H.size = r + 16 := by rw [hu.1, hsz]
  clear h2 hu
  refine lv_aload_n hx hb d_Mo_init_129 rfl (lv_at hl 0 rfl) ?_
  refine lv_iconst (v := nI 4) hx hb d_Mo_init_130 (by decide) ?_
  refine zz_newa (atype := .int) hx hb (hE.1.2.2.2.2 _ zm_47) hK.1 0 rfl rfl (n := 4) (by decide) (by decide) hsz (by decide) (by decide) d_Mo_init_131 (fun H h1 hn1 => ?_)
  replace hO := zz_keepN hn1 hO
  replace hI : mIn0 D ca r 16 H := mo_in (k := 15) hI h1 hn1
  replace hFr : ∀ q, q < r → H[q]? = s.heap[q]? := fun q hq => (hn1.2 q (Nat.lt_of_lt_of_le hq (by rw [hsz]; exact Nat.le_add_right _ _))).trans (hFr q hq)
  replace hsz : H.size = r + 17 := by rw [hn1.1, hsz]
  clear h1 hn1
  refine fp_Mo_56 hE hnm hO hL (show moFr r r from ⟨by omega, by omega⟩) (Nat.le_of_ble_eq_true rfl) d_Mo_init_133 (fun H locs h2 hu hL => ?_)
  replace hO : va_at D zC (r, .inr (7, [.ref (r + 1), .ref (r + 2), .int 0, .ref (r + 3), .ref (r + 4), .ref (r + 5), .ref (r + 6), .ref (r + 7), .ref (r + 8), .ref (r + 9), .ref (r + 10), .int 0, .int 0, .ref (r + 11), .ref (r + 12), .ref (r + 13), .ref (r + 14), .ref (r + 15), .int 0, .ref (r + 16), .null, .null])) H := h2
  replace hI := mo_inU hI hu
  replace hFr : ∀ q, q < r → H[q]? = s.heap[q]? := fun q hq => (hu.2 q (Nat.ne_of_lt hq)).trans (hFr q hq)
  replace hsz : H.size = r + 17 := by rw [hu.1, hsz]
  clear h2 hu
  refine lv_aload_n hx hb d_Mo_init_136 rfl (lv_at hl 0 rfl) ?_
  refine lv_iconst (v := nI 2) hx hb d_Mo_init_137 (by decide) ?_
  refine zz_newa (atype := .int) hx hb (hE.1.2.2.2.2 _ zm_47) hK.1 0 rfl rfl (n := 2) (by decide) (by decide) hsz (by decide) (by decide) d_Mo_init_138 (fun H h1 hn1 => ?_)
  replace hO := zz_keepN hn1 hO
  replace hI : mIn0 D ca r 17 H := mo_in (k := 16) hI h1 hn1
  replace hFr : ∀ q, q < r → H[q]? = s.heap[q]? := fun q hq => (hn1.2 q (Nat.lt_of_lt_of_le hq (by rw [hsz]; exact Nat.le_add_right _ _))).trans (hFr q hq)
  replace hsz : H.size = r + 18 := by rw [hn1.1, hsz]
  clear h1 hn1
  refine fp_Mo_59 hE hnm hO hL (show moFr r r from ⟨by omega, by omega⟩) (Nat.le_of_ble_eq_true rfl) d_Mo_init_140 (fun H locs h2 hu hL => ?_)
  replace hO : va_at D zC (r, .inr (7, [.ref (r + 1), .ref (r + 2), .int 0, .ref (r + 3), .ref (r + 4), .ref (r + 5), .ref (r + 6), .ref (r + 7), .ref (r + 8), .ref (r + 9), .ref (r + 10), .int 0, .int 0, .ref (r + 11), .ref (r + 12), .ref (r + 13), .ref (r + 14), .ref (r + 15), .int 0, .ref (r + 16), .ref (r + 17), .null])) H := h2
  replace hI := mo_inU hI hu
  replace hFr : ∀ q, q < r → H[q]? = s.heap[q]? := fun q hq => (hu.2 q (Nat.ne_of_lt hq)).trans (hFr q hq)
  replace hsz : H.size = r + 18 := by rw [hu.1, hsz]
  clear h2 hu
  refine lv_aload_n hx hb d_Mo_init_143 rfl (lv_at hl 0 rfl) ?_
  refine lv_bipush (v := nI 12) hx hb d_Mo_init_144 (by decide) ?_
  refine zz_newa (atype := .int) hx hb (hE.1.2.2.2.2 _ zm_47) hK.1 0 rfl rfl (n := 12) (by decide) (by decide) hsz (by decide) (by decide) d_Mo_init_146 (fun H h1 hn1 => ?_)
  replace hO := zz_keepN hn1 hO
  replace hI : mIn0 D ca r 18 H := mo_in (k := 17) hI h1 hn1
  replace hFr : ∀ q, q < r → H[q]? = s.heap[q]? := fun q hq => (hn1.2 q (Nat.lt_of_lt_of_le hq (by rw [hsz]; exact Nat.le_add_right _ _))).trans (hFr q hq)
  replace hsz : H.size = r + 19 := by rw [hn1.1, hsz]
  clear h1 hn1
  refine fp_Mo_62 hE hnm hO hL (show moFr r r from ⟨by omega, by omega⟩) (Nat.le_of_ble_eq_true rfl) d_Mo_init_148 (fun H locs h2 hu hL => ?_)
  replace hO : va_at D zC (r, .inr (7, [.ref (r + 1), .ref (r + 2), .int 0, .ref (r + 3), .ref (r + 4), .ref (r + 5), .ref (r + 6), .ref (r + 7), .ref (r + 8), .ref (r + 9), .ref (r + 10), .int 0, .int 0, .ref (r + 11), .ref (r + 12), .ref (r + 13), .ref (r + 14), .ref (r + 15), .int 0, .ref (r + 16), .ref (r + 17), .ref (r + 18)])) H := h2
  replace hI := mo_inU hI hu
  replace hFr : ∀ q, q < r → H[q]? = s.heap[q]? := fun q hq => (hu.2 q (Nat.ne_of_lt hq)).trans (hFr q hq)
  replace hsz : H.size = r + 19 := by rw [hu.1, hsz]
  clear h2 hu
  refine W.widen (k := 18) (n := 1238) (by decide) (by decide) ?_
  have e0 : moF r 0 0 0 0 = [.ref (r + 1), .ref (r + 2), .int 0, .ref (r + 3), .ref (r + 4), .ref (r + 5), .ref (r + 6), .ref (r + 7), .ref (r + 8), .ref (r + 9), .ref (r + 10), .int 0, .int 0, .ref (r + 11), .ref (r + 12), .ref (r + 13), .ref (r + 14), .ref (r + 15), .int 0, .ref (r + 16), .ref (r + 17), .ref (r + 18)] := by unfold moF; rw [nI_0]
  have hM : MoAt D ca H r 0 0 0 0 (fun _ _ => 0) := by
      refine ⟨by rw [e0]; exact hO, fun k h1 h2 => ?_⟩
      have h := hI k h1 h2
      rw [← nI_0] at h
      exact h
  exact zz_vret hx hb hr hlk ⟨rfl, hsz, hFr, hM⟩ hL d_Mo_init_151
