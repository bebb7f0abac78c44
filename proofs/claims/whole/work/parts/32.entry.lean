/-! Entries: two texts behind an object at a. -/
def EnAt (D : va_G) (ca : Nat → ClassId) (H : Heap) (a : Nat) (F : Nat → Nat → Nat) (N Y : Nat → Nat) (W : Nat → Bool) : Prop := va_at D zC (a, .inr (1, [.ref (a + 1), .ref (a + 3)])) H ∧ TeAt D ca H (a + 1) (F 0) (N 0) (Y 0) (W 0) ∧ TeAt D ca H (a + 3) (F 1) (N 1) (Y 1) (W 1)
theorem TeAt.kp {D : va_G} {ca : Nat → ClassId} {H H1 : Heap} {a n ty : Nat} {f : Nat → Nat} {iw : Bool} (h : TeAt D ca H a f n ty iw) (h1 : H1[a]? = H[a]?) (h2 : H1[a + 1]? = H[a + 1]?) : TeAt D ca H1 a f n ty iw := ⟨h.1.kept h1, h.2.kept h2⟩

set_option maxHeartbeats 4000000 in
set_option maxRecDepth 100000 in
theorem k_Te_init (l : Launch) (D : va_G) (ca : Nat → ClassId) (a : Nat) : Met l y_Te_init w_Te_init (zr 1 1 12) (zz_P D ca [.ref a] (fun H => va_at D zC (a, .inr (0, [.null, .int 0, .int 0, .int 0])) H ∧ H.size = a + 1)) (zz_Q (fun H H1 v => v = none ∧ H1.size = a + 2 ∧ (∀ q, q < a → H1[q]? = H[q]?) ∧ TeAt D ca H1 a (fun _ => 0) 0 0 false)) 1 12 (teFr a) := by
  refine zz_met (cc := c_Te_init) (by decide) (Nat.le_of_ble_eq_true rfl) ?_
  intro p e s m below meth c ls hE hr hlk hnm ⟨hO, hsz⟩ hl
  have hx := hE.1.1
  have hb := hE.1.2.1
  have hK := hE.2
  have hl : lv_has ls 1 [(0, .ref a)] := hl
  have hL : zz_L (teFr a) ([] : List Loc) := zz_L.nil
  have hFr : ∀ q, q < a → s.heap[q]? = s.heap[q]? := fun _ _ => rfl
  refine lv_aload_n hx hb d_Te_init_0 rfl (lv_at hl 0 rfl) ?_
  refine W.objInit hx hb hE.1.2.2.2.1 (hE.1.2.2.2.2 _ zm_59) (hE.1.2.2.2.2 _ zm_17) (hE.1.2.2.2.2 _ zm_18) rfl (by rw [hE.1.2.2.1]; exact hl.1) rfl d_Te_init_1 (Nat.le_of_ble_eq_true rfl) (Nat.le_of_ble_eq_true rfl) ?_
  refine W.eq (g2 := F0 m 4 ls []) rfl ?_
  refine lv_aload_n hx hb d_Te_init_4 rfl (lv_at hl 0 rfl) ?_
  refine lv_bipush (v := nI 12) hx hb d_Te_init_5 (by decide) ?_
  refine zz_newa (atype := .char) hx hb (hE.1.2.2.2.2 _ zm_77) hK.1 1 rfl rfl (n := 12) (by decide) (by decide) hsz (by decide) (by decide) d_Te_init_7 (fun H h1 hn1 => ?_)
  replace hO := zz_keepN hn1 hO
  replace hFr : ∀ q, q < a → H[q]? = s.heap[q]? := fun q hq => (hn1.2 q (by omega)).trans (hFr q hq)
  replace hsz : H.size = a + 2 := by rw [hn1.1, hsz]
  refine fp_Te_9 hE hnm hO hL (show teFr a a from Or.inl rfl) (Nat.le_of_ble_eq_true rfl) d_Te_init_9 (fun H locs h2 hu hL => ?_)
  replace h1 := zz_keep hu (show a + 1 ≠ a by omega) h1
  replace hFr : ∀ q, q < a → H[q]? = s.heap[q]? := fun q hq => (hu.2 q (by omega)).trans (hFr q hq)
  replace hsz : H.size = a + 2 := by rw [hu.1, hsz]
  have hT : TeAt D ca H a (fun _ => 0) 0 0 false := by
      refine ⟨?_, ?_⟩
      · show va_at D zC (a, .inr (0, [.ref (a + 1), .int (nI 0), .int (nI 0), .int (nI 0)])) H
        rw [nI_0]; exact h2
      · rw [← nI_0] at h1; exact h1
  refine W.widen (k := 1) (n := 12) (by decide) (by decide) ?_
  exact zz_vret hx hb hr hlk ⟨rfl, hsz, hFr, hT⟩ hL d_Te_init_12

def enFr (a q : Nat) : Prop := a ≤ q ∧ q ≤ a + 4

set_option maxHeartbeats 4000000 in
set_option maxRecDepth 100000 in
theorem k_En_init (l : Launch) (D : va_G) (ca : Nat → ClassId) (a : Nat) : Met l y_En_init w_En_init (zr 2 4 32) (zz_P D ca [.ref a] (fun H => va_at D zC (a, .inr (1, [.null, .null])) H ∧ H.size = a + 1)) (zz_Q (fun H H1 v => v = none ∧ H1.size = a + 5 ∧ (∀ q, q < a → H1[q]? = H[q]?) ∧ EnAt D ca H1 a (fun _ _ => 0) (fun _ => 0) (fun _ => 0) (fun _ => false))) 4 32 (enFr a) := by
  refine zz_met (cc := c_En_init) (by decide) (Nat.le_of_ble_eq_true rfl) ?_
  intro p e s m below meth c ls hE hr hlk hnm ⟨hO, hsz⟩ hl
  have hx := hE.1.1
  have hb := hE.1.2.1
  have hK := hE.2
  have hl : lv_has ls 1 [(0, .ref a)] := hl
  have hL : zz_L (enFr a) ([] : List Loc) := zz_L.nil
  have hFr : ∀ q, q < a → s.heap[q]? = s.heap[q]? := fun _ _ => rfl
  refine lv_aload_n hx hb d_En_init_0 rfl (lv_at hl 0 rfl) ?_
  refine W.objInit hx hb hE.1.2.2.2.1 (hE.1.2.2.2.2 _ zm_53) (hE.1.2.2.2.2 _ zm_17) (hE.1.2.2.2.2 _ zm_18) rfl (by rw [hE.1.2.2.1]; exact hl.1) rfl d_En_init_1 (Nat.le_of_ble_eq_true rfl) (Nat.le_of_ble_eq_true rfl) ?_
  refine W.eq (g2 := F0 m 4 ls []) rfl ?_
  refine lv_aload_n hx hb d_En_init_4 rfl (lv_at hl 0 rfl) ?_
  refine zz_new (own := R_En) (C := R_Te) (T := T_Te) (N := 4) (ci := 0) hx hb hE.1.2.2.2.2 in_Te ty_Te tk_Te hE.1.2.2.2.1 hE.2.1 (hE.1.2.2.2.2 _ zm_54) (hE.1.2.2.2.2 _ zm_55) (hE.1.2.2.2.2 _ zm_4) rfl [.null, .int 0, .int 0, .int 0] (fun j hj => by rcases (show j = 0 ∨ j = 1 ∨ j = 2 ∨ j = 3 by omega) with rfl | rfl | rfl | rfl <;> rfl) (h := a + 1) hsz (by decide) (by decide) d_En_init_5 (fun H h1 hn1 => ?_)
  replace hO := zz_keepN hn1 hO
  replace hFr : ∀ q, q < a → H[q]? = s.heap[q]? := fun q hq => (hn1.2 q (by omega)).trans (hFr q hq)
  have hsz0 := hsz
  replace hsz : H.size = a + 2 := by rw [hn1.1, hsz]
  clear hn1 hsz0
  refine lv_dup hx hb d_En_init_8 rfl ?_
  refine zz_callN (cl_En_9 (rest := [.ref (a + 1), .ref a]) (As := []) hE (k_Te_init l D ca (a + 1)) ⟨rfl, rfl, by decide, by decide⟩ ⟨h1, hsz⟩ rfl hl.1 rfl (Nat.le_of_ble_eq_true rfl) d_En_init_9 ⟨by decide, by decide⟩) hL (fun q h => show enFr a q by rcases h with h | h <;> exact ⟨by omega, by omega⟩) (fun H locs hpost hL => ?_)
  obtain ⟨hs9, hf9, hT0⟩ := hpost
  replace hO := hO.kept (hf9 a (by omega))
  replace hFr : ∀ q, q < a → H[q]? = s.heap[q]? := fun q hq => (hf9 q (by omega)).trans (hFr q hq)
  replace hsz : H.size = a + 3 := hs9
  clear h1 hs9 hf9
  refine fp_En_10 hE hnm hO hL (show enFr a a from ⟨by omega, by omega⟩) (Nat.le_of_ble_eq_true rfl) d_En_init_12 (fun H locs h2 hu hL => ?_)
  replace hO : va_at D zC (a, .inr (1, [.ref (a + 1), .null])) H := h2
  replace hFr : ∀ q, q < a → H[q]? = s.heap[q]? := fun q hq => (hu.2 q (by omega)).trans (hFr q hq)
  replace hsz : H.size = a + 3 := by rw [hu.1, hsz]
  replace hT0 := hT0.kp (hu.2 _ (by omega)) (hu.2 _ (by omega))
  clear h2 hu
  refine lv_aload_n hx hb d_En_init_15 rfl (lv_at hl 0 rfl) ?_
  refine zz_new (own := R_En) (C := R_Te) (T := T_Te) (N := 4) (ci := 0) hx hb hE.1.2.2.2.2 in_Te ty_Te tk_Te hE.1.2.2.2.1 hE.2.1 (hE.1.2.2.2.2 _ zm_54) (hE.1.2.2.2.2 _ zm_55) (hE.1.2.2.2.2 _ zm_4) rfl [.null, .int 0, .int 0, .int 0] (fun j hj => by rcases (show j = 0 ∨ j = 1 ∨ j = 2 ∨ j = 3 by omega) with rfl | rfl | rfl | rfl <;> rfl) (h := a + 3) hsz (by decide) (by decide) d_En_init_16 (fun H h1 hn1 => ?_)
  replace hO := zz_keepN hn1 hO
  replace hFr : ∀ q, q < a → H[q]? = s.heap[q]? := fun q hq => (hn1.2 q (by omega)).trans (hFr q hq)
  have hsz0 := hsz
  replace hsz : H.size = a + 4 := by rw [hn1.1, hsz]
  replace hT0 := hT0.kp (hn1.2 _ (by omega)) (hn1.2 _ (by omega))
  clear hn1 hsz0
  refine lv_dup hx hb d_En_init_19 rfl ?_
  refine zz_callN (cl_En_9 (rest := [.ref (a + 3), .ref a]) (As := []) hE (k_Te_init l D ca (a + 3)) ⟨rfl, rfl, by decide, by decide⟩ ⟨h1, hsz⟩ rfl hl.1 rfl (Nat.le_of_ble_eq_true rfl) d_En_init_20 ⟨by decide, by decide⟩) hL (fun q h => show enFr a q by rcases h with h | h <;> exact ⟨by omega, by omega⟩) (fun H locs hpost hL => ?_)
  obtain ⟨hs9, hf9, hT1⟩ := hpost
  replace hO := hO.kept (hf9 a (by omega))
  replace hFr : ∀ q, q < a → H[q]? = s.heap[q]? := fun q hq => (hf9 q (by omega)).trans (hFr q hq)
  replace hsz : H.size = a + 5 := hs9
  replace hT0 := hT0.kp (hf9 _ (by omega)) (hf9 _ (by omega))
  clear h1 hs9 hf9
  refine fp_En_16 hE hnm hO hL (show enFr a a from ⟨by omega, by omega⟩) (Nat.le_of_ble_eq_true rfl) d_En_init_23 (fun H locs h2 hu hL => ?_)
  replace hO : va_at D zC (a, .inr (1, [.ref (a + 1), .ref (a + 3)])) H := h2
  replace hFr : ∀ q, q < a → H[q]? = s.heap[q]? := fun q hq => (hu.2 q (by omega)).trans (hFr q hq)
  replace hsz : H.size = a + 5 := by rw [hu.1, hsz]
  replace hT0 := hT0.kp (hu.2 _ (by omega)) (hu.2 _ (by omega))
  replace hT1 := hT1.kp (hu.2 _ (by omega)) (hu.2 _ (by omega))
  clear h2 hu
  refine W.widen (k := 4) (n := 32) (by decide) (by decide) ?_
  exact zz_vret hx hb hr hlk ⟨rfl, hsz, hFr, hO, hT0, hT1⟩ hL d_En_init_26

set_option maxHeartbeats 4000000 in
set_option maxRecDepth 100000 in
theorem k_En_text (l : Launch) (D : va_G) (ca : Nat → ClassId) (a f0 : Nat) (hf0 : f0 ≤ 1) (F : Nat → Nat → Nat) (N Y : Nat → Nat) (W0 : Nat → Bool) : Met l y_En_text w_En_text (zr 0 0 0) (zz_P D ca [.ref a, .int (nI f0)] (fun H => EnAt D ca H a F N Y W0)) (zz_Q (fun H H1 v => H1 = H ∧ v = some (.ref (a + 1 + 2 * f0)))) 0 0 (fun _ => False) := by
  refine zz_met (cc := c_En_text) (by decide) (Nat.le_of_ble_eq_true rfl) ?_
  intro p e s m below meth c ls hE hr hlk hnm hM hl
  have hx := hE.1.1
  have hb := hE.1.2.1
  have hK := hE.2
  have hl : lv_has ls 2 [(0, .ref a), (1, .int (nI f0))] := hl
  have hL : zz_L (fun _ => False) ([] : List Loc) := zz_L.nil
  refine lv_iload_n hx hb d_En_text_0 rfl (lv_at hl 1 rfl) ?_
  refine zz_ne0 hx hb (by omega) d_En_text_1 (tgt := 11) rfl (fun hT1 => ?_) (fun hF1 => ?_)
  · refine lv_aload_n hx hb d_En_text_11 rfl (lv_at hl 0 rfl) ?_
    refine fg_En_16 hE hM.1 rfl d_En_text_12 ?_
    exact zz_aret hx hb hr hlk (Or.inr ⟨_, rfl⟩) ⟨rfl, by rw [show f0 = 1 by omega]⟩ hL d_En_text_15
  · refine lv_aload_n hx hb d_En_text_4 rfl (lv_at hl 0 rfl) ?_
    refine fg_En_10 hE hM.1 rfl d_En_text_5 ?_
    refine lv_goto hx hb d_En_text_8 (tgt := 15) rfl ?_
    exact zz_aret hx hb hr hlk (Or.inr ⟨_, rfl⟩) ⟨rfl, by rw [show f0 = 0 by omega]⟩ hL d_En_text_15
