/-! Expressions: what all kinds have, and their constructors. -/
def XH (D : va_G) (H : Heap) (p c : Nat) (d : Bool) : Prop := ∃ r1 r2 r3 : Value, va_at D zC (p, .inr (2, [.int (nI c), .int (nI d.toNat), r1, r2, r3])) H ∨ va_at D zC (p, .inr (3, [.int (nI c), .int (nI d.toNat), r1, r2, r3])) H ∨ va_at D zC (p, .inr (4, [.int (nI c), .int (nI d.toNat), r1, r2, r3])) H
theorem XH.kp {D : va_G} {H H1 : Heap} {p c : Nat} {d : Bool} (h : XH D H p c d) (h1 : H1[p]? = H[p]?) : XH D H1 p c d := by
  obtain ⟨r1, r2, r3, h | h | h⟩ := h
  · exact ⟨r1, r2, r3, Or.inl (h.kept h1)⟩
  · exact ⟨r1, r2, r3, Or.inr (Or.inl (h.kept h1))⟩
  · exact ⟨r1, r2, r3, Or.inr (Or.inr (h.kept h1))⟩
def onFr (x q : Nat) : Prop := q = x
section XG
variable {p : Program} {l : Launch} {e : Env} {R : Room} {s : State} {m : MethodId} {args : Array Value} {below : List Frame} {meth : Method} {c : Code} {H : Heap} {locs : List Loc} {cells slots : Nat} {Q : State → Prop}
variable {cc : ByteArray} {nL pc : Nat} {ls : Array Slot} {rest : List Value} {D : va_G} {ca : Nat → ClassId} {a c0 : Nat} {d0 : Bool}
theorem xg_Jo_1 (hE : zz_E p m c cc nL s args R_Jo D ca) (h : XH D H a c0 d0) (hdg : decode cc pc = .ok (.getfield 1, 3)) (kk : W p l e R s m args below meth c H locs cells slots Q (F0 m (pc + 3) ls (.int (nI c0) :: rest))) : W p l e R s m args below meth c H locs cells slots Q (F0 m pc ls (.ref a :: rest)) := by
  obtain ⟨r1, r2, r3, h | h | h⟩ := h
  · exact fg_Jo_1_Ja hE h rfl hdg kk
  · exact fg_Jo_1_Ed hE h rfl hdg kk
  · exact fg_Jo_1_Jo hE h rfl hdg kk
theorem xg_Jo_7 (hE : zz_E p m c cc nL s args R_Jo D ca) (h : XH D H a c0 d0) (hdg : decode cc pc = .ok (.getfield 7, 3)) (kk : W p l e R s m args below meth c H locs cells slots Q (F0 m (pc + 3) ls (.int (nI d0.toNat) :: rest))) : W p l e R s m args below meth c H locs cells slots Q (F0 m pc ls (.ref a :: rest)) := by
  obtain ⟨r1, r2, r3, h | h | h⟩ := h
  · exact fg_Jo_7_Ja hE h rfl hdg kk
  · exact fg_Jo_7_Ed hE h rfl hdg kk
  · exact fg_Jo_7_Jo hE h rfl hdg kk
theorem xg_RM_89 (hE : zz_E p m c cc nL s args R_RM D ca) (h : XH D H a c0 d0) (hdg : decode cc pc = .ok (.getfield 89, 3)) (kk : W p l e R s m args below meth c H locs cells slots Q (F0 m (pc + 3) ls (.int (nI c0) :: rest))) : W p l e R s m args below meth c H locs cells slots Q (F0 m pc ls (.ref a :: rest)) := by
  obtain ⟨r1, r2, r3, h | h | h⟩ := h
  · exact fg_RM_89_Ja hE h rfl hdg kk
  · exact fg_RM_89_Ed hE h rfl hdg kk
  · exact fg_RM_89_Jo hE h rfl hdg kk
theorem xg_RM_97 (hE : zz_E p m c cc nL s args R_RM D ca) (h : XH D H a c0 d0) (hdg : decode cc pc = .ok (.getfield 97, 3)) (kk : W p l e R s m args below meth c H locs cells slots Q (F0 m (pc + 3) ls (.int (nI d0.toNat) :: rest))) : W p l e R s m args below meth c H locs cells slots Q (F0 m pc ls (.ref a :: rest)) := by
  obtain ⟨r1, r2, r3, h | h | h⟩ := h
  · exact fg_RM_97_Ja hE h rfl hdg kk
  · exact fg_RM_97_Ed hE h rfl hdg kk
  · exact fg_RM_97_Jo hE h rfl hdg kk
end XG

set_option maxHeartbeats 4000000 in
set_option maxRecDepth 100000 in
theorem k_Ex_init_Ja (l : Launch) (D : va_G) (ca : Nat → ClassId) (x c0 : Nat) (d0 : Bool) (r0 r1 r2 r3 r4 : Value) : Met l y_Ex_init w_Ex_init (zr 1 0 0) (zz_P D ca [.ref x, .int (nI c0), .int (nI d0.toNat)] (fun H => va_at D zC (x, .inr (2, [r0, r1, r2, r3, r4])) H)) (zz_Q (fun H H1 v => v = none ∧ zz_fr (onFr x) H H1 ∧ va_at D zC (x, .inr (2, [.int (nI c0), .int (nI d0.toNat), r2, r3, r4])) H1)) 0 0 (onFr x) := by
  refine zz_met (cc := c_Ex_init) (by decide) (Nat.le_of_ble_eq_true rfl) ?_
  intro p e s m below meth c ls hE hr hlk hnm hO hl
  have hx := hE.1.1
  have hb := hE.1.2.1
  have hK := hE.2
  have hl : lv_has ls 3 [(0, .ref x), (1, .int (nI c0)), (2, .int (nI d0.toNat))] := hl
  have hL : zz_L (onFr x) ([] : List Loc) := zz_L.nil
  have hS : zz_fr (onFr x) s.heap s.heap := zz_fr.rf
  refine lv_aload_n hx hb d_Ex_init_0 rfl (lv_at hl 0 rfl) ?_
  refine W.objInit hx hb hE.1.2.2.2.1 (hE.1.2.2.2.2 _ zm_196) (hE.1.2.2.2.2 _ zm_17) (hE.1.2.2.2.2 _ zm_18) rfl (by rw [hE.1.2.2.1]; exact hl.1) rfl d_Ex_init_1 (Nat.le_of_ble_eq_true rfl) (Nat.le_of_ble_eq_true rfl) ?_
  refine W.eq (g2 := F0 m 4 ls []) rfl ?_
  refine lv_aload_n hx hb d_Ex_init_4 rfl (lv_at hl 0 rfl) ?_
  refine lv_iload_n hx hb d_Ex_init_5 rfl (lv_at hl 1 rfl) ?_
  refine fp_Ex_7_Ja hE hnm hO hL (show onFr x x from rfl) (Nat.le_of_ble_eq_true rfl) d_Ex_init_6 (fun H locs h2 hu hL => ?_)
  replace hO : va_at D zC (x, .inr (2, [.int (nI c0), r1, r2, r3, r4])) H := h2
  have hS := hS.up hu (show onFr x x from rfl)
  clear h2 hu
  refine lv_aload_n hx hb d_Ex_init_9 rfl (lv_at hl 0 rfl) ?_
  refine lv_iload_n hx hb d_Ex_init_10 rfl (lv_at hl 2 rfl) ?_
  refine fp_Ex_13_Ja (b := d0) hE hnm hO hL (show onFr x x from rfl) (Nat.le_of_ble_eq_true rfl) d_Ex_init_11 (fun H locs h2 hu hL => ?_)
  replace hO : va_at D zC (x, .inr (2, [.int (nI c0), .int (nI d0.toNat), r2, r3, r4])) H := h2
  have hS := hS.up hu (show onFr x x from rfl)
  clear h2 hu
  exact zz_vret hx hb hr hlk ⟨rfl, hS, hO⟩ hL d_Ex_init_14

set_option maxHeartbeats 4000000 in
set_option maxRecDepth 100000 in
theorem k_Ex_init_Ed (l : Launch) (D : va_G) (ca : Nat → ClassId) (x c0 : Nat) (d0 : Bool) (r0 r1 r2 r3 r4 : Value) : Met l y_Ex_init w_Ex_init (zr 1 0 0) (zz_P D ca [.ref x, .int (nI c0), .int (nI d0.toNat)] (fun H => va_at D zC (x, .inr (3, [r0, r1, r2, r3, r4])) H)) (zz_Q (fun H H1 v => v = none ∧ zz_fr (onFr x) H H1 ∧ va_at D zC (x, .inr (3, [.int (nI c0), .int (nI d0.toNat), r2, r3, r4])) H1)) 0 0 (onFr x) := by
  refine zz_met (cc := c_Ex_init) (by decide) (Nat.le_of_ble_eq_true rfl) ?_
  intro p e s m below meth c ls hE hr hlk hnm hO hl
  have hx := hE.1.1
  have hb := hE.1.2.1
  have hK := hE.2
  have hl : lv_has ls 3 [(0, .ref x), (1, .int (nI c0)), (2, .int (nI d0.toNat))] := hl
  have hL : zz_L (onFr x) ([] : List Loc) := zz_L.nil
  have hS : zz_fr (onFr x) s.heap s.heap := zz_fr.rf
  refine lv_aload_n hx hb d_Ex_init_0 rfl (lv_at hl 0 rfl) ?_
  refine W.objInit hx hb hE.1.2.2.2.1 (hE.1.2.2.2.2 _ zm_196) (hE.1.2.2.2.2 _ zm_17) (hE.1.2.2.2.2 _ zm_18) rfl (by rw [hE.1.2.2.1]; exact hl.1) rfl d_Ex_init_1 (Nat.le_of_ble_eq_true rfl) (Nat.le_of_ble_eq_true rfl) ?_
  refine W.eq (g2 := F0 m 4 ls []) rfl ?_
  refine lv_aload_n hx hb d_Ex_init_4 rfl (lv_at hl 0 rfl) ?_
  refine lv_iload_n hx hb d_Ex_init_5 rfl (lv_at hl 1 rfl) ?_
  refine fp_Ex_7_Ed hE hnm hO hL (show onFr x x from rfl) (Nat.le_of_ble_eq_true rfl) d_Ex_init_6 (fun H locs h2 hu hL => ?_)
  replace hO : va_at D zC (x, .inr (3, [.int (nI c0), r1, r2, r3, r4])) H := h2
  have hS := hS.up hu (show onFr x x from rfl)
  clear h2 hu
  refine lv_aload_n hx hb d_Ex_init_9 rfl (lv_at hl 0 rfl) ?_
  refine lv_iload_n hx hb d_Ex_init_10 rfl (lv_at hl 2 rfl) ?_
  refine fp_Ex_13_Ed (b := d0) hE hnm hO hL (show onFr x x from rfl) (Nat.le_of_ble_eq_true rfl) d_Ex_init_11 (fun H locs h2 hu hL => ?_)
  replace hO : va_at D zC (x, .inr (3, [.int (nI c0), .int (nI d0.toNat), r2, r3, r4])) H := h2
  have hS := hS.up hu (show onFr x x from rfl)
  clear h2 hu
  exact zz_vret hx hb hr hlk ⟨rfl, hS, hO⟩ hL d_Ex_init_14

set_option maxHeartbeats 4000000 in
set_option maxRecDepth 100000 in
theorem k_Ex_init_Jo (l : Launch) (D : va_G) (ca : Nat → ClassId) (x c0 : Nat) (d0 : Bool) (r0 r1 r2 r3 r4 : Value) : Met l y_Ex_init w_Ex_init (zr 1 0 0) (zz_P D ca [.ref x, .int (nI c0), .int (nI d0.toNat)] (fun H => va_at D zC (x, .inr (4, [r0, r1, r2, r3, r4])) H)) (zz_Q (fun H H1 v => v = none ∧ zz_fr (onFr x) H H1 ∧ va_at D zC (x, .inr (4, [.int (nI c0), .int (nI d0.toNat), r2, r3, r4])) H1)) 0 0 (onFr x) := by
  refine zz_met (cc := c_Ex_init) (by decide) (Nat.le_of_ble_eq_true rfl) ?_
  intro p e s m below meth c ls hE hr hlk hnm hO hl
  have hx := hE.1.1
  have hb := hE.1.2.1
  have hK := hE.2
  have hl : lv_has ls 3 [(0, .ref x), (1, .int (nI c0)), (2, .int (nI d0.toNat))] := hl
  have hL : zz_L (onFr x) ([] : List Loc) := zz_L.nil
  have hS : zz_fr (onFr x) s.heap s.heap := zz_fr.rf
  refine lv_aload_n hx hb d_Ex_init_0 rfl (lv_at hl 0 rfl) ?_
  refine W.objInit hx hb hE.1.2.2.2.1 (hE.1.2.2.2.2 _ zm_196) (hE.1.2.2.2.2 _ zm_17) (hE.1.2.2.2.2 _ zm_18) rfl (by rw [hE.1.2.2.1]; exact hl.1) rfl d_Ex_init_1 (Nat.le_of_ble_eq_true rfl) (Nat.le_of_ble_eq_true rfl) ?_
  refine W.eq (g2 := F0 m 4 ls []) rfl ?_
  refine lv_aload_n hx hb d_Ex_init_4 rfl (lv_at hl 0 rfl) ?_
  refine lv_iload_n hx hb d_Ex_init_5 rfl (lv_at hl 1 rfl) ?_
  refine fp_Ex_7_Jo hE hnm hO hL (show onFr x x from rfl) (Nat.le_of_ble_eq_true rfl) d_Ex_init_6 (fun H locs h2 hu hL => ?_)
  replace hO : va_at D zC (x, .inr (4, [.int (nI c0), r1, r2, r3, r4])) H := h2
  have hS := hS.up hu (show onFr x x from rfl)
  clear h2 hu
  refine lv_aload_n hx hb d_Ex_init_9 rfl (lv_at hl 0 rfl) ?_
  refine lv_iload_n hx hb d_Ex_init_10 rfl (lv_at hl 2 rfl) ?_
  refine fp_Ex_13_Jo (b := d0) hE hnm hO hL (show onFr x x from rfl) (Nat.le_of_ble_eq_true rfl) d_Ex_init_11 (fun H locs h2 hu hL => ?_)
  replace hO : va_at D zC (x, .inr (4, [.int (nI c0), .int (nI d0.toNat), r2, r3, r4])) H := h2
  have hS := hS.up hu (show onFr x x from rfl)
  clear h2 hu
  exact zz_vret hx hb hr hlk ⟨rfl, hS, hO⟩ hL d_Ex_init_14

set_option maxHeartbeats 4000000 in
set_option maxRecDepth 100000 in
theorem k_Ja_init (l : Launch) (D : va_G) (ca : Nat → ClassId) (x fl nu de : Nat) : Met l y_Ja_init w_Ja_init (zr 2 0 0) (zz_P D ca [.ref x, .int (nI fl), .int (nI nu), .int (nI de)] (fun H => va_at D zC (x, .inr (2, [.int 0, .int 0, .int 0, .int 0, .int 0])) H)) (zz_Q (fun H H1 v => v = none ∧ zz_fr (onFr x) H H1 ∧ va_at D zC (x, .inr (2, [.int (nI 1), .int (nI 1), .int (nI fl), .int (nI nu), .int (nI de)])) H1)) 0 0 (onFr x) := by
  refine zz_met (cc := c_Ja_init) (by decide) (Nat.le_of_ble_eq_true rfl) ?_
  intro p e s m below meth c ls hE hr hlk hnm hO hl
  have hx := hE.1.1
  have hb := hE.1.2.1
  have hK := hE.2
  have hl : lv_has ls 4 [(0, .ref x), (1, .int (nI fl)), (2, .int (nI nu)), (3, .int (nI de))] := hl
  have hL : zz_L (onFr x) ([] : List Loc) := zz_L.nil
  have hS : zz_fr (onFr x) s.heap s.heap := zz_fr.rf
  refine lv_aload_n hx hb d_Ja_init_0 rfl (lv_at hl 0 rfl) ?_
  refine lv_iconst (v := nI 1) hx hb d_Ja_init_1 (by decide) ?_
  refine lv_iconst (v := nI 1) hx hb d_Ja_init_2 (by decide) ?_
  refine zz_callN (cl_Ja_1 (rest := []) (As := [.int (nI 1), .int (nI true.toNat)]) hE (k_Ex_init_Ja l D ca x 1 true (.int 0) (.int 0) (.int 0) (.int 0) (.int 0)) ⟨rfl, rfl, by decide, by decide⟩ hO rfl hl.1 rfl (Nat.le_of_ble_eq_true rfl) d_Ja_init_3 ⟨by decide, by decide⟩) hL (fun _ h => h) (fun H locs hpost hL => ?_)
  obtain ⟨hfr9, h9⟩ := hpost
  replace hO := h9
  have hS := hS.tr hfr9
  refine lv_aload_n hx hb d_Ja_init_6 rfl (lv_at hl 0 rfl) ?_
  refine lv_iload_n hx hb d_Ja_init_7 rfl (lv_at hl 1 rfl) ?_
  refine fp_Ja_7 hE hnm hO hL (show onFr x x from rfl) (Nat.le_of_ble_eq_true rfl) d_Ja_init_8 (fun H locs h2 hu hL => ?_)
  replace hO : va_at D zC (x, .inr (2, [.int (nI 1), .int (nI true.toNat), .int (nI fl), .int 0, .int 0])) H := h2
  have hS := hS.up hu (show onFr x x from rfl)
  clear h2 hu
  refine lv_aload_n hx hb d_Ja_init_11 rfl (lv_at hl 0 rfl) ?_
  refine lv_iload_n hx hb d_Ja_init_12 rfl (lv_at hl 2 rfl) ?_
  refine fp_Ja_13 hE hnm hO hL (show onFr x x from rfl) (Nat.le_of_ble_eq_true rfl) d_Ja_init_13 (fun H locs h2 hu hL => ?_)
  replace hO : va_at D zC (x, .inr (2, [.int (nI 1), .int (nI true.toNat), .int (nI fl), .int (nI nu), .int 0])) H := h2
  have hS := hS.up hu (show onFr x x from rfl)
  clear h2 hu
  refine lv_aload_n hx hb d_Ja_init_16 rfl (lv_at hl 0 rfl) ?_
  refine lv_iload_n hx hb d_Ja_init_17 rfl (lv_at hl 3 rfl) ?_
  refine fp_Ja_16 hE hnm hO hL (show onFr x x from rfl) (Nat.le_of_ble_eq_true rfl) d_Ja_init_18 (fun H locs h2 hu hL => ?_)
  replace hO : va_at D zC (x, .inr (2, [.int (nI 1), .int (nI true.toNat), .int (nI fl), .int (nI nu), .int (nI de)])) H := h2
  have hS := hS.up hu (show onFr x x from rfl)
  clear h2 hu
  exact zz_vret hx hb hr hlk ⟨rfl, hS, hO⟩ hL d_Ja_init_21

def ediFr (x q : Nat) : Prop := x ≤ q ∧ q ≤ x + 1

set_option maxHeartbeats 4000000 in
set_option maxRecDepth 100000 in
theorem k_Ed_init (l : Launch) (D : va_G) (ca : Nat → ClassId) (x fl mo : Nat) : Met l y_Ed_init w_Ed_init (zr 2 1 13) (zz_P D ca [.ref x, .int (nI fl), .int (nI mo)] (fun H => va_at D zC (x, .inr (3, [.int 0, .int 0, .int 0, .int 0, .null])) H ∧ H.size = x + 1)) (zz_Q (fun H H1 v => v = none ∧ H1.size = x + 2 ∧ (∀ q, q < x → H1[q]? = H[q]?) ∧ EdAt D ca H1 x fl mo (fun _ => 0))) 1 13 (ediFr x) := by
  refine zz_met (cc := c_Ed_init) (by decide) (Nat.le_of_ble_eq_true rfl) ?_
  intro p e s m below meth c ls hE hr hlk hnm ⟨hO, hsz⟩ hl
  have hx := hE.1.1
  have hb := hE.1.2.1
  have hK := hE.2
  have hl : lv_has ls 3 [(0, .ref x), (1, .int (nI fl)), (2, .int (nI mo))] := hl
  have hL : zz_L (ediFr x) ([] : List Loc) := zz_L.nil
  have hFr : ∀ q, q < x → s.heap[q]? = s.heap[q]? := fun _ _ => rfl
  refine lv_aload_n hx hb d_Ed_init_0 rfl (lv_at hl 0 rfl) ?_
  refine lv_iconst (v := nI 1) hx hb d_Ed_init_1 (by decide) ?_
  refine lv_iconst (v := nI 0) hx hb d_Ed_init_2 (by decide) ?_
  refine zz_callN (cl_Ed_3 (rest := []) (As := [.int (nI 1), .int (nI false.toNat)]) hE (k_Ex_init_Ed l D ca x 1 false (.int 0) (.int 0) (.int 0) (.int 0) .null) ⟨rfl, rfl, by decide, by decide⟩ hO rfl hl.1 rfl (Nat.le_of_ble_eq_true rfl) d_Ed_init_3 ⟨by decide, by decide⟩) hL (fun q h => show ediFr x q by have h : q = x := h; exact ⟨by omega, by omega⟩) (fun H locs hpost hL => ?_)
  obtain ⟨hfr9, h9⟩ := hpost
  replace hO := h9
  replace hFr : ∀ q, q < x → H[q]? = s.heap[q]? := fun q hq => (hfr9.2 q (show ¬ q = x by omega)).trans (hFr q hq)
  replace hsz : H.size = x + 1 := by rw [hfr9.1, hsz]
  clear hfr9
  refine lv_aload_n hx hb d_Ed_init_6 rfl (lv_at hl 0 rfl) ?_
  refine lv_bipush (v := nI 13) hx hb d_Ed_init_7 (by decide) ?_
  refine zz_newa (atype := .int) hx hb (hE.1.2.2.2.2 _ zm_47) hK.1 0 rfl rfl (n := 13) (by decide) (by decide) hsz (by decide) (by decide) d_Ed_init_9 (fun H h1 hn1 => ?_)
  replace hO := zz_keepN hn1 hO
  replace hFr : ∀ q, q < x → H[q]? = s.heap[q]? := fun q hq => (hn1.2 q (by omega)).trans (hFr q hq)
  replace hsz : H.size = x + 2 := by rw [hn1.1, hsz]
  clear hn1
  refine fp_Ed_9 hE hnm hO hL (show ediFr x x from ⟨by omega, by omega⟩) (Nat.le_of_ble_eq_true rfl) d_Ed_init_11 (fun H locs h2 hu hL => ?_)
  replace hO : va_at D zC (x, .inr (3, [.int (nI 1), .int (nI false.toNat), .int 0, .int 0, .ref (x + 1)])) H := h2
  replace h1 := zz_keep hu (show x + 1 ≠ x by omega) h1
  replace hFr : ∀ q, q < x → H[q]? = s.heap[q]? := fun q hq => (hu.2 q (by omega)).trans (hFr q hq)
  replace hsz : H.size = x + 2 := by rw [hu.1, hsz]
  clear h2 hu
  refine lv_aload_n hx hb d_Ed_init_14 rfl (lv_at hl 0 rfl) ?_
  refine lv_iload_n hx hb d_Ed_init_15 rfl (lv_at hl 1 rfl) ?_
  refine fp_Ed_15 hE hnm hO hL (show ediFr x x from ⟨by omega, by omega⟩) (Nat.le_of_ble_eq_true rfl) d_Ed_init_16 (fun H locs h2 hu hL => ?_)
  replace hO : va_at D zC (x, .inr (3, [.int (nI 1), .int (nI false.toNat), .int (nI fl), .int 0, .ref (x + 1)])) H := h2
  replace h1 := zz_keep hu (show x + 1 ≠ x by omega) h1
  replace hFr : ∀ q, q < x → H[q]? = s.heap[q]? := fun q hq => (hu.2 q (by omega)).trans (hFr q hq)
  replace hsz : H.size = x + 2 := by rw [hu.1, hsz]
  clear h2 hu
  refine lv_aload_n hx hb d_Ed_init_19 rfl (lv_at hl 0 rfl) ?_
  refine lv_iload_n hx hb d_Ed_init_20 rfl (lv_at hl 2 rfl) ?_
  refine fp_Ed_19 hE hnm hO hL (show ediFr x x from ⟨by omega, by omega⟩) (Nat.le_of_ble_eq_true rfl) d_Ed_init_21 (fun H locs h2 hu hL => ?_)
  replace hO : va_at D zC (x, .inr (3, [.int (nI 1), .int (nI false.toNat), .int (nI fl), .int (nI mo), .ref (x + 1)])) H := h2
  replace h1 := zz_keep hu (show x + 1 ≠ x by omega) h1
  replace hFr : ∀ q, q < x → H[q]? = s.heap[q]? := fun q hq => (hu.2 q (by omega)).trans (hFr q hq)
  replace hsz : H.size = x + 2 := by rw [hu.1, hsz]
  clear h2 hu
  have h1b : va_at D zC (x + 1, .inl (ca 0, 13, .inl (fun j => nI ((fun _ => 0) j)))) H := by rw [← nI_0] at h1; exact h1
  refine W.widen (k := 1) (n := 13) (by decide) (by decide) ?_
  exact zz_vret hx hb hr hlk ⟨rfl, hsz, hFr, hO, h1b⟩ hL d_Ed_init_24
