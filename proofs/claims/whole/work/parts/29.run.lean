/-! The class's run: an object at u, its three arrays behind it; array k at u + k holds A k. -/
def ruF (u tk wk : Nat) : List Value := [.ref (u + 1), .ref (u + 2), .ref (u + 3), .int (nI tk), .int (nI wk)]
def ruL (k : Nat) : Nat := match k with
  | 1 => 4
  | 2 => 144
  | 3 => 12
  | _ => 0
theorem ruL_lt (k : Nat) : ruL k < 2 ^ 31 := by
  unfold ruL
  split <;> decide
def ruC (ca : Nat → ClassId) (k : Nat) : ClassId := if k = 2 then ca 2 else ca 0
def RuAt (D : va_G) (ca : Nat → ClassId) (H : Heap) (u tk wk : Nat) (A : Nat → Nat → Nat) : Prop := va_at D zC (u, .inr (5, ruF u tk wk)) H ∧ ∀ k, 1 ≤ k → k ≤ 3 → va_at D zC (u + k, .inl (ruC ca k, ruL k, .inl (fun j => nI (A k j)))) H
def ruFr (u : Nat) (q : Nat) : Prop := u ≤ q ∧ q ≤ u + 3
section RU
variable {p : Program} {l : Launch} {e : Env} {R : Room} {s : State} {m : MethodId} {args : Array Value} {below : List Frame} {meth : Method} {c : Code} {H : Heap} {locs : List Loc} {cells slots : Nat} {Q : State → Prop}
variable {cc : ByteArray} {nL pc : Nat} {ls : Array Slot} {rest st0 : List Value} {D : va_G} {ca : Nat → ClassId} {own : String} {u tk wk : Nat} {A : Nat → Nat → Nat}
theorem ru_arr (hM : RuAt D ca H u tk wk A) (k : Nat) (hk : 1 ≤ k ∧ k ≤ 3 ∧ k ≠ 2) : va_at D zC (u + k, .inl (ca 0, ruL k, .inl (fun j => nI (A k j)))) H := by
  have h := hM.2 k hk.1 hk.2.1
  rw [show ruC ca k = ca 0 from if_neg hk.2.2] at h
  exact h
theorem ru_set {H1 : Heap} (hM : RuAt D ca H u tk wk A) {k i x : Nat} (hk : 1 ≤ k ∧ k ≤ 3) (h1 : va_at D zC (u + k, .inl (ruC ca k, ruL k, .inl (upd (fun j => nI (A k j)) i (nI x)))) H1) (hu : zz_up H H1 (u + k)) : RuAt D ca H1 u tk wk (up2 A k i x) := by
  refine ⟨zz_keep hu (show u ≠ u + k by omega) hM.1, fun k2 h2 h3 => ?_⟩
  by_cases hkk : k2 = k
  · subst hkk
    rw [mo_up] at h1
    exact h1
  · have h := zz_keep hu (show u + k2 ≠ u + k by omega) (hM.2 k2 h2 h3)
    have e1 : (fun j => nI (up2 A k i x k2 j)) = fun j => nI (A k2 j) := by funext j; rw [up2_k hkk]
    rw [e1]
    exact h
theorem ru_fld {H1 : Heap} {tk2 wk2 : Nat} (hM : RuAt D ca H u tk wk A) (h1 : va_at D zC (u, .inr (5, ruF u tk2 wk2)) H1) (hu : zz_up H H1 u) : RuAt D ca H1 u tk2 wk2 A :=
  ⟨h1, fun k h2 h3 => zz_keep hu (show u + k ≠ u by omega) (hM.2 k h2 h3)⟩
theorem ru_ld (hE : zz_E p m c cc nL s args own D ca) (hM : RuAt D ca H u tk wk A) (k : Nat) (hk : 1 ≤ k ∧ k ≤ 3 ∧ k ≠ 2) {i : Nat} (hi : i < ruL k) (hdg : decode cc pc = .ok (.iaload, 1)) (kk : W p l e R s m args below meth c H locs cells slots Q (F0 m (pc + 1) ls (.int (nI (A k i)) :: rest))) : W p l e R s m args below meth c H locs cells slots Q (F0 m pc ls (.int (nI i) :: .ref (u + k) :: rest)) :=
  zz_iald hE.1.1 hE.1.2.1 hE.2.1 (ru_arr hM k hk) 0 rfl hi (ruL_lt k) hdg kk
theorem ru_ldz (hE : zz_E p m c cc nL s args own D ca) (hM : RuAt D ca H u tk wk A) {i : Nat} (hi : i < 144) (hdg : decode cc pc = .ok (.baload, 1)) (kk : W p l e R s m args below meth c H locs cells slots Q (F0 m (pc + 1) ls (.int (nI (A 2 i)) :: rest))) : W p l e R s m args below meth c H locs cells slots Q (F0 m pc ls (.int (nI i) :: .ref (u + 2) :: rest)) :=
  zz_zald hE.1.1 hE.1.2.1 hE.2.1 (hM.2 2 (by decide) (by decide)) 2 rfl hi (by decide) hdg kk
theorem ru_st (hE : zz_E p m c cc nL s args own D ca) (hM : RuAt D ca H u tk wk A) {H0 : Heap} (hS : zz_fr (ruFr u) H0 H) (hL : zz_L (ruFr u) locs) (k : Nat) (hk : 1 ≤ k ∧ k ≤ 3 ∧ k ≠ 2) {i x : Nat} (hi : i < ruL k) (hdg : decode cc pc = .ok (.iastore, 1)) (kk : ∀ (H1 : Heap) (locs1 : List Loc), RuAt D ca H1 u tk wk (up2 A k i x) → zz_fr (ruFr u) H0 H1 → zz_L (ruFr u) locs1 → W p l e R s m args below meth c H1 locs1 cells slots Q (F0 m (pc + 1) ls rest)) : W p l e R s m args below meth c H locs cells slots Q (F0 m pc ls (.int (nI x) :: .int (nI i) :: .ref (u + k) :: rest)) := by
  have hF : ruFr u (u + k) := ⟨by omega, by omega⟩
  refine zz_iast hE.1.1 hE.1.2.1 hE.2.1 (ru_arr hM k hk) hL hF 0 rfl hi (ruL_lt k) hdg fun H1 locs1 h1 hu hL1 => kk H1 locs1 (ru_set hM ⟨hk.1, hk.2.1⟩ ?_ hu) (hS.up hu hF) hL1
  rw [show ruC ca k = ca 0 from if_neg hk.2.2]
  exact h1
theorem ru_stz (hE : zz_E p m c cc nL s args own D ca) (hM : RuAt D ca H u tk wk A) {H0 : Heap} (hS : zz_fr (ruFr u) H0 H) (hL : zz_L (ruFr u) locs) {i : Nat} {b : Bool} (hi : i < 144) (hdg : decode cc pc = .ok (.bastore, 1)) (kk : ∀ (H1 : Heap) (locs1 : List Loc), RuAt D ca H1 u tk wk (up2 A 2 i b.toNat) → zz_fr (ruFr u) H0 H1 → zz_L (ruFr u) locs1 → W p l e R s m args below meth c H1 locs1 cells slots Q (F0 m (pc + 1) ls rest)) : W p l e R s m args below meth c H locs cells slots Q (F0 m pc ls (.int (nI b.toNat) :: .int (nI i) :: .ref (u + 2) :: rest)) := by
  have hF : ruFr u (u + 2) := ⟨by omega, by omega⟩
  exact zz_zast hE.1.1 hE.1.2.1 hE.2.1 (hM.2 2 (by decide) (by decide)) hL hF 2 rfl hi (by decide) (zz_narB b) hdg fun H1 locs1 h1 hu hL1 => kk H1 locs1 (ru_set hM ⟨by decide, by decide⟩ h1 hu) (hS.up hu hF) hL1
end RU
/-- whether the pair is noted -/
def rNt (A : Nat → Nat → Nat) (q t : Nat) : Bool := decide (A 2 (t * 12 + q) = 1)
theorem rNt_n {A : Nat → Nat → Nat} {q t : Nat} (h : A 2 (t * 12 + q) ≤ 1) : A 2 (t * 12 + q) = (rNt A q t).toNat := by
  unfold rNt
  by_cases h1 : A 2 (t * 12 + q) = 1
  · rw [h1]; rfl
  · rw [decide_eq_false h1]
    show _ = 0
    omega

set_option maxHeartbeats 4000000 in
set_option maxRecDepth 100000 in
theorem k_Ru_placeOf (l : Launch) (D : va_G) (ca : Nat → ClassId) (q t0 : Nat) : Met l y_Ru_placeOf w_Ru_placeOf (zr 0 0 0) (zz_P D ca [.int (nI q), .int (nI t0)] (fun H => True)) (zz_Q (fun H H1 v => H1 = H ∧ v = some (.int (nI (t0 * 12 + q))))) 0 0 (fun _ => False) := by
  refine zz_met (cc := c_Ru_placeOf) (by decide) (Nat.le_of_ble_eq_true rfl) ?_
  intro p e s m below meth c ls hE hr hlk hnm hM hl
  have hx := hE.1.1
  have hb := hE.1.2.1
  have hK := hE.2
  have hl : lv_has ls 2 [(0, .int (nI q)), (1, .int (nI t0))] := hl
  have hL : zz_L (fun _ => False) ([] : List Loc) := zz_L.nil
  refine lv_iload_n hx hb d_Ru_placeOf_0 rfl (lv_at hl 1 rfl) ?_
  refine lv_bipush (v := nI 12) hx hb d_Ru_placeOf_1 (by decide) ?_
  refine zz_imul hx hb d_Ru_placeOf_3 ?_
  refine lv_iload_n hx hb d_Ru_placeOf_4 rfl (lv_at hl 0 rfl) ?_
  refine zz_iadd hx hb d_Ru_placeOf_5 ?_
  exact zz_iret hx hb hr hlk rfl ⟨rfl, congrArg (fun z => some (Value.int z)) (rfl)⟩ hL d_Ru_placeOf_6

set_option maxHeartbeats 4000000 in
set_option maxRecDepth 100000 in
theorem k_Ru_taskOf (l : Launch) (D : va_G) (ca : Nat → ClassId) (u tk wk : Nat) (A : Nat → Nat → Nat) (v0 d0 : Nat) : Met l y_Ru_taskOf w_Ru_taskOf (zr 0 0 0) (zz_P D ca [.ref u, .int (nI v0), .int (nI d0)] (fun H => RuAt D ca H u tk wk A)) (zz_Q (fun H H1 v => H1 = H ∧ v = some (.int (nI (v0 + d0 * wk))))) 0 0 (fun _ => False) := by
  refine zz_met (cc := c_Ru_taskOf) (by decide) (Nat.le_of_ble_eq_true rfl) ?_
  intro p e s m below meth c ls hE hr hlk hnm hM hl
  have hx := hE.1.1
  have hb := hE.1.2.1
  have hK := hE.2
  have hl : lv_has ls 3 [(0, .ref u), (1, .int (nI v0)), (2, .int (nI d0))] := hl
  have hL : zz_L (fun _ => False) ([] : List Loc) := zz_L.nil
  refine lv_iload_n hx hb d_Ru_taskOf_0 rfl (lv_at hl 1 rfl) ?_
  refine lv_iload_n hx hb d_Ru_taskOf_1 rfl (lv_at hl 2 rfl) ?_
  refine lv_aload_n hx hb d_Ru_taskOf_2 rfl (lv_at hl 0 rfl) ?_
  refine fg_Ru_22 hE hM.1 rfl d_Ru_taskOf_3 ?_
  refine zz_imul hx hb d_Ru_taskOf_6 ?_
  refine zz_iadd hx hb d_Ru_taskOf_7 ?_
  exact zz_iret hx hb hr hlk rfl ⟨rfl, congrArg (fun z => some (Value.int z)) (rfl)⟩ hL d_Ru_taskOf_8

set_option maxHeartbeats 4000000 in
set_option maxRecDepth 100000 in
theorem k_Ru_isOpen (l : Launch) (D : va_G) (ca : Nat → ClassId) (u tk wk : Nat) (A : Nat → Nat → Nat) (hw : wk ≤ 4) : Met l y_Ru_isOpen w_Ru_isOpen (zr 0 0 0) (zz_P D ca [.ref u] (fun H => RuAt D ca H u tk wk A)) (zz_Q (fun H H1 v => H1 = H ∧ v = some (.int (nI (decide (0 < wk)).toNat)))) 0 0 (fun _ => False) := by
  refine zz_met (cc := c_Ru_isOpen) (by decide) (Nat.le_of_ble_eq_true rfl) ?_
  intro p e s m below meth c ls hE hr hlk hnm hM hl
  have hx := hE.1.1
  have hb := hE.1.2.1
  have hK := hE.2
  have hl : lv_has ls 1 [(0, .ref u)] := hl
  have hL : zz_L (fun _ => False) ([] : List Loc) := zz_L.nil
  refine lv_aload_n hx hb d_Ru_isOpen_0 rfl (lv_at hl 0 rfl) ?_
  refine fg_Ru_22 hE hM.1 rfl d_Ru_isOpen_1 ?_
  refine zz_le0 hx hb (by omega) d_Ru_isOpen_4 (tgt := 11) rfl (fun hT4 => ?_) (fun hF4 => ?_)
  · refine lv_iconst (v := nI 0) hx hb d_Ru_isOpen_11 (by decide) ?_
    exact zz_iret hx hb hr hlk rfl ⟨rfl, congrArg (fun z => some (Value.int z)) (by simp [hT4])⟩ hL d_Ru_isOpen_12
  · refine lv_iconst (v := nI 1) hx hb d_Ru_isOpen_7 (by decide) ?_
    refine lv_goto hx hb d_Ru_isOpen_8 (tgt := 12) rfl ?_
    exact zz_iret hx hb hr hlk rfl ⟨rfl, congrArg (fun z => some (Value.int z)) (by simp [hF4])⟩ hL d_Ru_isOpen_12

set_option maxHeartbeats 4000000 in
set_option maxRecDepth 100000 in
theorem k_Ru_hasWorker (l : Launch) (D : va_G) (ca : Nat → ClassId) (u tk wk : Nat) (A : Nat → Nat → Nat) (x : Int32) : Met l y_Ru_hasWorker w_Ru_hasWorker (zr 0 0 0) (zz_P D ca [.ref u, .int x] (fun H => RuAt D ca H u tk wk A)) (zz_Q (fun H H1 v => H1 = H ∧ v = some (.int (nI (zisR wk x).toNat)))) 0 0 (fun _ => False) := by
  refine zz_met (cc := c_Ru_hasWorker) (by decide) (Nat.le_of_ble_eq_true rfl) ?_
  intro p e s m below meth c ls hE hr hlk hnm hM hl
  have hx := hE.1.1
  have hb := hE.1.2.1
  have hK := hE.2
  have hl : lv_has ls 2 [(0, .ref u), (1, .int x)] := hl
  have hL : zz_L (fun _ => False) ([] : List Loc) := zz_L.nil
  refine lv_iload_n hx hb d_Ru_hasWorker_0 rfl (lv_at hl 1 rfl) ?_
  refine lv_if_lt hx hb d_Ru_hasWorker_1 (tgt := 16) rfl (fun hT1 => ?_) (fun hF1 => ?_)
  · refine lv_iconst (v := nI 0) hx hb d_Ru_hasWorker_16 (by decide) ?_
    exact zz_iret hx hb hr hlk rfl ⟨rfl, congrArg (fun z => some (Value.int z)) (by simp [zisR, hT1])⟩ hL d_Ru_hasWorker_17
  · refine lv_iload_n hx hb d_Ru_hasWorker_4 rfl (lv_at hl 1 rfl) ?_
    refine lv_aload_n hx hb d_Ru_hasWorker_5 rfl (lv_at hl 0 rfl) ?_
    refine fg_Ru_22 hE hM.1 rfl d_Ru_hasWorker_6 ?_
    refine lv_icmp_ge hx hb d_Ru_hasWorker_9 (tgt := 16) rfl (fun hT9 => ?_) (fun hF9 => ?_)
    · refine lv_iconst (v := nI 0) hx hb d_Ru_hasWorker_16 (by decide) ?_
      exact zz_iret hx hb hr hlk rfl ⟨rfl, congrArg (fun z => some (Value.int z)) (by simp [zisR, hF1, hT9])⟩ hL d_Ru_hasWorker_17
    · refine lv_iconst (v := nI 1) hx hb d_Ru_hasWorker_12 (by decide) ?_
      refine lv_goto hx hb d_Ru_hasWorker_13 (tgt := 17) rfl ?_
      exact zz_iret hx hb hr hlk rfl ⟨rfl, congrArg (fun z => some (Value.int z)) (by simp [zisR, hF1, hF9])⟩ hL d_Ru_hasWorker_17

set_option maxHeartbeats 4000000 in
set_option maxRecDepth 100000 in
theorem k_Ru_end (l : Launch) (D : va_G) (ca : Nat → ClassId) (u tk wk : Nat) (A : Nat → Nat → Nat) : Met l y_Ru_end w_Ru_end (zr 0 0 0) (zz_P D ca [.ref u] (fun H => RuAt D ca H u tk wk A)) (zz_Q (fun H H1 v => v = none ∧ zz_fr (ruFr u) H H1 ∧ RuAt D ca H1 u tk 0 A)) 0 0 (ruFr u) := by
  refine zz_met (cc := c_Ru_end) (by decide) (Nat.le_of_ble_eq_true rfl) ?_
  intro p e s m below meth c ls hE hr hlk hnm hM hl
  have hx := hE.1.1
  have hb := hE.1.2.1
  have hK := hE.2
  have hl : lv_has ls 1 [(0, .ref u)] := hl
  have hL : zz_L (ruFr u) ([] : List Loc) := zz_L.nil
  have hS : zz_fr (ruFr u) s.heap s.heap := zz_fr.rf
  refine lv_aload_n hx hb d_Ru_end_0 rfl (lv_at hl 0 rfl) ?_
  refine lv_iconst (v := nI 0) hx hb d_Ru_end_1 (by decide) ?_
  refine fp_Ru_22 hE hM.1 hL (show ruFr u u from ⟨by omega, by omega⟩) (Nat.le_of_ble_eq_true rfl) d_Ru_end_2 (fun H locs h1 hu hL => ?_)
  have hS := hS.up hu (show ruFr u u from ⟨by omega, by omega⟩)
  have hM : RuAt D ca H u tk 0 A := ru_fld hM h1 hu
  exact zz_vret hx hb hr hlk ⟨rfl, hS, hM⟩ hL d_Ru_end_5

set_option maxHeartbeats 4000000 in
set_option maxRecDepth 100000 in
theorem k_Ru_nextTask (l : Launch) (D : va_G) (ca : Nat → ClassId) (u tk wk : Nat) (A : Nat → Nat → Nat) (v0 : Nat) (hv : v0 < 4) : Met l y_Ru_nextTask w_Ru_nextTask (zr 1 0 0) (zz_P D ca [.ref u, .int (nI v0)] (fun H => RuAt D ca H u tk wk A)) (zz_Q (fun H H1 v => H1 = H ∧ v = some (.int (nI (v0 + A 1 v0 * wk))))) 0 0 (fun _ => False) := by
  refine zz_met (cc := c_Ru_nextTask) (by decide) (Nat.le_of_ble_eq_true rfl) ?_
  intro p e s m below meth c ls hE hr hlk hnm hM hl
  have hx := hE.1.1
  have hb := hE.1.2.1
  have hK := hE.2
  have hl : lv_has ls 2 [(0, .ref u), (1, .int (nI v0))] := hl
  have hL : zz_L (fun _ => False) ([] : List Loc) := zz_L.nil
  refine lv_aload_n hx hb d_Ru_nextTask_0 rfl (lv_at hl 0 rfl) ?_
  refine lv_iload_n hx hb d_Ru_nextTask_1 rfl (lv_at hl 1 rfl) ?_
  refine lv_aload_n hx hb d_Ru_nextTask_2 rfl (lv_at hl 0 rfl) ?_
  refine fg_Ru_9 hE hM.1 rfl d_Ru_nextTask_3 ?_
  refine lv_iload_n hx hb d_Ru_nextTask_6 rfl (lv_at hl 1 rfl) ?_
  refine ru_ld hE hM 1 (by decide) (i := v0) (show v0 < 4 by omega) d_Ru_nextTask_7 ?_
  refine zz_callP (cl_Ru_29 (rest := []) hE (k_Ru_taskOf l D ca u tk wk A v0 (A 1 v0)) ⟨rfl, rfl, by decide, by decide⟩ hM hM.1 rfl hl.1 rfl (Nat.le_of_ble_eq_true rfl) d_Ru_nextTask_8 ⟨by decide, by decide⟩) ?_
  exact zz_iret hx hb hr hlk rfl ⟨rfl, congrArg (fun z => some (Value.int z)) (rfl)⟩ hL d_Ru_nextTask_11

set_option maxHeartbeats 4000000 in
set_option maxRecDepth 100000 in
theorem k_Ru_finishTask (l : Launch) (D : va_G) (ca : Nat → ClassId) (u tk wk : Nat) (A : Nat → Nat → Nat) (v0 : Nat) (hv : v0 < 4) : Met l y_Ru_finishTask w_Ru_finishTask (zr 0 0 0) (zz_P D ca [.ref u, .int (nI v0)] (fun H => RuAt D ca H u tk wk A)) (zz_Q (fun H H1 v => v = none ∧ zz_fr (ruFr u) H H1 ∧ RuAt D ca H1 u tk wk (up2 A 1 v0 (A 1 v0 + 1)))) 0 0 (ruFr u) := by
  refine zz_met (cc := c_Ru_finishTask) (by decide) (Nat.le_of_ble_eq_true rfl) ?_
  intro p e s m below meth c ls hE hr hlk hnm hM hl
  have hx := hE.1.1
  have hb := hE.1.2.1
  have hK := hE.2
  have hl : lv_has ls 2 [(0, .ref u), (1, .int (nI v0))] := hl
  have hL : zz_L (ruFr u) ([] : List Loc) := zz_L.nil
  have hS : zz_fr (ruFr u) s.heap s.heap := zz_fr.rf
  refine lv_aload_n hx hb d_Ru_finishTask_0 rfl (lv_at hl 0 rfl) ?_
  refine fg_Ru_9 hE hM.1 rfl d_Ru_finishTask_1 ?_
  refine lv_iload_n hx hb d_Ru_finishTask_4 rfl (lv_at hl 1 rfl) ?_
  refine lv_dup2_11 hx hb d_Ru_finishTask_5 rfl rfl ?_
  refine ru_ld hE hM 1 (by decide) (i := v0) (show v0 < 4 by omega) d_Ru_finishTask_6 ?_
  refine lv_iconst (v := nI 1) hx hb d_Ru_finishTask_7 (by decide) ?_
  refine zz_iadd hx hb d_Ru_finishTask_8 ?_
  refine ru_st hE hM hS hL 1 (by decide) (i := v0) (x := (A 1 v0) + 1) (show v0 < 4 by omega) d_Ru_finishTask_9 (fun H locs hM hS hL => ?_)
  exact zz_vret hx hb hr hlk ⟨rfl, hS, hM⟩ hL d_Ru_finishTask_10

set_option maxHeartbeats 4000000 in
set_option maxRecDepth 100000 in
theorem k_Ru_note (l : Launch) (D : va_G) (ca : Nat → ClassId) (u tk wk : Nat) (A : Nat → Nat → Nat) (q t0 : Nat) (hq : q < 12) (ht : t0 < 12) : Met l y_Ru_note w_Ru_note (zr 1 0 0) (zz_P D ca [.ref u, .int (nI q), .int (nI t0)] (fun H => RuAt D ca H u tk wk A)) (zz_Q (fun H H1 v => v = none ∧ zz_fr (ruFr u) H H1 ∧ RuAt D ca H1 u tk wk (up2 A 2 (t0 * 12 + q) 1))) 0 0 (ruFr u) := by
  refine zz_met (cc := c_Ru_note) (by decide) (Nat.le_of_ble_eq_true rfl) ?_
  intro p e s m below meth c ls hE hr hlk hnm hM hl
  have hx := hE.1.1
  have hb := hE.1.2.1
  have hK := hE.2
  have hl : lv_has ls 3 [(0, .ref u), (1, .int (nI q)), (2, .int (nI t0))] := hl
  have hL : zz_L (ruFr u) ([] : List Loc) := zz_L.nil
  have hS : zz_fr (ruFr u) s.heap s.heap := zz_fr.rf
  refine lv_aload_n hx hb d_Ru_note_0 rfl (lv_at hl 0 rfl) ?_
  refine fg_Ru_15 hE hM.1 rfl d_Ru_note_1 ?_
  refine lv_iload_n hx hb d_Ru_note_4 rfl (lv_at hl 1 rfl) ?_
  refine lv_iload_n hx hb d_Ru_note_5 rfl (lv_at hl 2 rfl) ?_
  refine zz_callP (cl_Ru_37 (rest := [.ref (u + 2)]) hE (k_Ru_placeOf l D ca q t0) ⟨rfl, rfl, by decide, by decide⟩ trivial rfl hl.1 rfl (Nat.le_of_ble_eq_true rfl) d_Ru_note_6 ⟨by decide, by decide⟩) ?_
  refine lv_iconst (v := nI 1) hx hb d_Ru_note_9 (by decide) ?_
  refine ru_stz hE hM hS hL (i := t0 * 12 + q) (b := true) (by omega) d_Ru_note_10 (fun H locs hM hS hL => ?_)
  exact zz_vret hx hb hr hlk ⟨rfl, hS, hM⟩ hL d_Ru_note_11

set_option maxHeartbeats 4000000 in
set_option maxRecDepth 100000 in
theorem k_Ru_isNoted (l : Launch) (D : va_G) (ca : Nat → ClassId) (u tk wk : Nat) (A : Nat → Nat → Nat) (q t0 : Nat) (hq : q < 12) (ht : t0 < 12) (hnb : ∀ j, j < 144 → A 2 j ≤ 1) : Met l y_Ru_isNoted w_Ru_isNoted (zr 1 0 0) (zz_P D ca [.ref u, .int (nI q), .int (nI t0)] (fun H => RuAt D ca H u tk wk A)) (zz_Q (fun H H1 v => H1 = H ∧ v = some (.int (nI (rNt A q t0).toNat)))) 0 0 (fun _ => False) := by
  refine zz_met (cc := c_Ru_isNoted) (by decide) (Nat.le_of_ble_eq_true rfl) ?_
  intro p e s m below meth c ls hE hr hlk hnm hM hl
  have hx := hE.1.1
  have hb := hE.1.2.1
  have hK := hE.2
  have hl : lv_has ls 3 [(0, .ref u), (1, .int (nI q)), (2, .int (nI t0))] := hl
  have hL : zz_L (fun _ => False) ([] : List Loc) := zz_L.nil
  refine lv_aload_n hx hb d_Ru_isNoted_0 rfl (lv_at hl 0 rfl) ?_
  refine fg_Ru_15 hE hM.1 rfl d_Ru_isNoted_1 ?_
  refine lv_iload_n hx hb d_Ru_isNoted_4 rfl (lv_at hl 1 rfl) ?_
  refine lv_iload_n hx hb d_Ru_isNoted_5 rfl (lv_at hl 2 rfl) ?_
  refine zz_callP (cl_Ru_37 (rest := [.ref (u + 2)]) hE (k_Ru_placeOf l D ca q t0) ⟨rfl, rfl, by decide, by decide⟩ trivial rfl hl.1 rfl (Nat.le_of_ble_eq_true rfl) d_Ru_isNoted_6 ⟨by decide, by decide⟩) ?_
  refine ru_ldz hE hM (i := t0 * 12 + q) (by omega) d_Ru_isNoted_9 ?_
  refine zz_top (y := nI (rNt A q t0).toNat) (congrArg nI (rNt_n (hnb _ (by omega)))) ?_
  exact zz_iret hx hb hr hlk (zz_narB _) ⟨rfl, rfl⟩ hL d_Ru_isNoted_10

theorem zsum_le {g : Nat → Nat} {b : Nat} : ∀ {n : Nat}, (∀ i, i < n → g i ≤ b) → zsum g n ≤ n * b
  | 0, _ => by simp [zsum]
  | n + 1, h => by
    have h1 := zsum_le (n := n) (fun i hi => h i (by omega))
    have h2 := h n (by omega)
    simp only [zsum]
    rw [Nat.add_mul]
    omega

set_option maxHeartbeats 4000000 in
set_option maxRecDepth 100000 in
theorem k_Ru_isDone (l : Launch) (D : va_G) (ca : Nat → ClassId) (u tk wk : Nat) (A : Nat → Nat → Nat) (hw : wk ≤ 4) (htk : tk ≤ 12) (hdd : ∀ v, v < 4 → A 1 v ≤ 12) : Met l y_Ru_isDone w_Ru_isDone (zr 0 0 0) (zz_P D ca [.ref u] (fun H => RuAt D ca H u tk wk A)) (zz_Q (fun H H1 v => H1 = H ∧ v = some (.int (nI (decide (zsum (A 1) wk = tk)).toNat)))) 0 0 (fun _ => False) := by
  refine zz_met (cc := c_Ru_isDone) (by decide) (Nat.le_of_ble_eq_true rfl) ?_
  intro p e s m below meth c ls hE hr hlk hnm hM hl
  have hx := hE.1.1
  have hb := hE.1.2.1
  have hK := hE.2
  have hl : lv_has ls 3 [(0, .ref u)] := hl
  have hL : zz_L (fun _ => False) ([] : List Loc) := zz_L.nil
  refine lv_iconst (v := nI 0) hx hb d_Ru_isDone_0 (by decide) ?_
  refine lv_istore_n hx hb d_Ru_isDone_1 rfl hl (by decide) rfl (fun ls hl => ?_)
  have hl : lv_has ls 3 [(1, .int (nI 0)), (0, .ref u)] := hl
  refine lv_iconst (v := nI 0) hx hb d_Ru_isDone_2 (by decide) ?_
  refine lv_istore_n hx hb d_Ru_isDone_3 rfl hl (by decide) rfl (fun ls hl => ?_)
  have hl : lv_has ls 3 [(2, .int (nI 0)), (1, .int (nI 0)), (0, .ref u)] := hl
  have hl : lv_has ls 3 [(0, .ref u), (1, .int (nI 0)), (2, .int (nI 0))] := lv_sub hl [2, 1, 0] rfl
  refine zz_loopP (σ := Nat) (fun i ls => lv_has ls 3 [(0, .ref u), (1, .int (nI (zsum (A 1) i))), (2, .int (nI i))] ∧ i ≤ wk) (fun i => wk - i) ?_ 0 ls ⟨hl, Nat.zero_le _⟩
  rintro i ih ls ⟨hl, hi⟩
  refine lv_iload_n hx hb d_Ru_isDone_4 rfl (lv_at hl 2 rfl) ?_
  refine lv_aload_n hx hb d_Ru_isDone_5 rfl (lv_at hl 0 rfl) ?_
  refine fg_Ru_22 hE hM.1 rfl d_Ru_isDone_6 ?_
  refine zz_ge hx hb (by omega) (by omega) d_Ru_isDone_9 (tgt := 27) rfl (fun hT9 => ?_) (fun hF9 => ?_)
  · have hiw : i = wk := by omega
    have hz := zsum_le (g := A 1) (b := 12) (n := i) (fun j hj => hdd j (by omega))
    refine lv_iload_n hx hb d_Ru_isDone_27 rfl (lv_at hl 1 rfl) ?_
    refine lv_aload_n hx hb d_Ru_isDone_28 rfl (lv_at hl 0 rfl) ?_
    refine fg_Ru_26 hE hM.1 rfl d_Ru_isDone_29 ?_
    refine zz_ne hx hb (by omega) (by omega) d_Ru_isDone_32 (tgt := 39) rfl (fun hT32 => ?_) (fun hF32 => ?_)
    · refine lv_iconst (v := nI 0) hx hb d_Ru_isDone_39 (by decide) ?_
      exact zz_iret hx hb hr hlk rfl ⟨rfl, congrArg (fun z => some (Value.int z)) (by rw [hiw] at hT32; simp [hT32])⟩ hL d_Ru_isDone_40
    · refine lv_iconst (v := nI 1) hx hb d_Ru_isDone_35 (by decide) ?_
      refine lv_goto hx hb d_Ru_isDone_36 (tgt := 40) rfl ?_
      exact zz_iret hx hb hr hlk rfl ⟨rfl, congrArg (fun z => some (Value.int z)) (by rw [hiw] at hF32; simp [hF32])⟩ hL d_Ru_isDone_40
  · refine lv_iload_n hx hb d_Ru_isDone_12 rfl (lv_at hl 1 rfl) ?_
    refine lv_aload_n hx hb d_Ru_isDone_13 rfl (lv_at hl 0 rfl) ?_
    refine fg_Ru_9 hE hM.1 rfl d_Ru_isDone_14 ?_
    refine lv_iload_n hx hb d_Ru_isDone_17 rfl (lv_at hl 2 rfl) ?_
    refine ru_ld hE hM 1 (by decide) (i := i) (show i < 4 by omega) d_Ru_isDone_18 ?_
    refine zz_iadd hx hb d_Ru_isDone_19 ?_
    refine lv_istore_n hx hb d_Ru_isDone_20 rfl hl (by decide) rfl (fun ls hl => ?_)
    have hl : lv_has ls 3 [(1, .int (nI ((zsum (A 1) i) + (A 1 i)))), (0, .ref u), (2, .int (nI i))] := hl
    refine lv_iinc (k := 2) (v := nI (i + 1)) hx hb d_Ru_isDone_21 hl rfl (zz_inc _) (by decide) rfl (fun ls hl => ?_)
    have hl : lv_has ls 3 [(2, .int (nI (i + 1))), (1, .int (nI ((zsum (A 1) i) + (A 1 i)))), (0, .ref u)] := hl
    refine lv_goto hx hb d_Ru_isDone_24 (tgt := 4) rfl ?_
    have hl : lv_has ls 3 [(0, .ref u), (1, .int (nI (zsum (A 1) (i + 1)))), (2, .int (nI (i + 1)))] := (by rw [show zsum (A 1) (i + 1) = zsum (A 1) i + A 1 i from rfl]; exact lv_sub hl [2, 1, 0] rfl)
    exact ih (i + 1) ls ⟨hl, by omega⟩ (by omega)
