section ZAr
variable {p : Program} {l : Launch} {e : Env} {R : Room} {s : State} {m : MethodId} {args : Array Value} {below : List Frame} {meth : Method} {c : Code} {H : Heap} {locs : List Loc} {cells slots : Nat} {Q : State → Prop}
variable {cc : ByteArray} {pc : Nat} {ls : Array Slot} {rest : List Value}
theorem zz_irem {x y : Nat} (hx : x < 2 ^ 31) (h0 : 0 < y) (hy : y < 2 ^ 31) (hexec : p.tables.exec = Jvm.exec) (hb : c.code = cc) (hdg : decode cc pc = .ok (.irem, 1)) (k : W p l e R s m args below meth c H locs cells slots Q (F0 m (pc + 1) ls (.int (nI (x % y)) :: rest))) : W p l e R s m args below meth c H locs cells slots Q (F0 m pc ls (.int (nI y) :: .int (nI x) :: rest)) := lv_irem hexec hb hdg (nI_ne0 h0 hy) (by rw [pk_rem hx h0 hy]; exact k)
theorem zz_idiv {x y : Nat} (hx : x < 2 ^ 31) (h0 : 0 < y) (hy : y < 2 ^ 31) (hexec : p.tables.exec = Jvm.exec) (hb : c.code = cc) (hdg : decode cc pc = .ok (.idiv, 1)) (k : W p l e R s m args below meth c H locs cells slots Q (F0 m (pc + 1) ls (.int (nI (x / y)) :: rest))) : W p l e R s m args below meth c H locs cells slots Q (F0 m pc ls (.int (nI y) :: .int (nI x) :: rest)) := lv_idiv hexec hb hdg (nI_ne0 h0 hy) (by rw [pk_div hx h0 hy]; exact k)
end ZAr
def zall (P : Nat → Bool) : Nat → Bool
  | 0 => true
  | n + 1 => zall P n && P n
theorem zall_iff {P : Nat → Bool} : ∀ {n : Nat}, zall P n = true ↔ ∀ i, i < n → P i = true
  | 0 => by simp [zall]
  | n + 1 => by
    simp only [zall, Bool.and_eq_true, zall_iff]
    constructor
    · rintro ⟨h1, h2⟩ i hi
      by_cases hin : i = n
      · exact hin ▸ h2
      · exact h1 i (by omega)
    · exact fun h => ⟨fun i hi => h i (by omega), h n (by omega)⟩
/-- how many tasks a worker has -/
def mTk (n w v : Nat) : Nat := zcnt (fun r => decide (r % w = v)) n
def mDn (A : Nat → Nat → Nat) (n w : Nat) : Bool := zall (fun v => decide (A 16 v = mTk n w v)) w
/-- whether a pair is found -/
def mFd (A : Nat → Nat → Nat) (w rs j k : Nat) : Bool := decide ((if j < k then k else j) / w < A 16 ((if j < k then k else j) % w)) && mHo A rs (if j < k then j else k) (if j < k then k else j)
theorem mFd_eq {A B : Nat → Nat → Nat} (h : mS A B) (w rs j k : Nat) : mFd B w rs j k = mFd A w rs j k := by
  unfold mFd
  rw [h.2 16 (by decide) (by decide) (by decide) (by decide), mHo_eq h]

set_option maxHeartbeats 4000000 in
set_option maxRecDepth 100000 in
theorem k_Mo_isWorker (l : Launch) (D : va_G) (ca : Nat → ClassId) (r n t rs w : Nat) (A : Nat → Nat → Nat) (x : Int32) : Met l y_Mo_isWorker w_Mo_isWorker (zr 0 0 0) (zz_P D ca [.ref r, .int x] (fun H => MoAt D ca H r n t rs w A)) (zz_Q (fun H H1 v => H1 = H ∧ v = some (.int (nI (zisR w x).toNat)))) 0 0 (fun _ => False) := by
  refine zz_met (cc := c_Mo_isWorker) (by decide) (Nat.le_of_ble_eq_true rfl) ?_
  intro p e s m below meth c ls hE hr hlk hnm hM hl
  have hx := hE.1.1
  have hb := hE.1.2.1
  have hK := hE.2
  have hl : lv_has ls 2 [(0, .ref r), (1, .int x)] := hl
  have hL : zz_L (fun _ => False) ([] : List Loc) := zz_L.nil
  refine lv_iload_n hx hb d_Mo_isWorker_0 rfl (lv_at hl 1 rfl) ?_
  refine lv_if_lt hx hb d_Mo_isWorker_1 (tgt := 16) rfl (fun hT1 => ?_) (fun hF1 => ?_)
  · refine lv_iconst (v := nI 0) hx hb d_Mo_isWorker_16 (by decide) ?_
    exact zz_iret hx hb hr hlk rfl ⟨rfl, congrArg (fun z => some (Value.int z)) (by simp [zisR, hT1])⟩ hL d_Mo_isWorker_17
  · refine lv_iload_n hx hb d_Mo_isWorker_4 rfl (lv_at hl 1 rfl) ?_
    refine lv_aload_n hx hb d_Mo_isWorker_5 rfl (lv_at hl 0 rfl) ?_
    refine fg_Mo_73 hE hM.1 rfl d_Mo_isWorker_6 ?_
    refine lv_icmp_ge hx hb d_Mo_isWorker_9 (tgt := 16) rfl (fun hT9 => ?_) (fun hF9 => ?_)
    · refine lv_iconst (v := nI 0) hx hb d_Mo_isWorker_16 (by decide) ?_
      exact zz_iret hx hb hr hlk rfl ⟨rfl, congrArg (fun z => some (Value.int z)) (by simp [zisR, hF1, hT9])⟩ hL d_Mo_isWorker_17
    · refine lv_iconst (v := nI 1) hx hb d_Mo_isWorker_12 (by decide) ?_
      refine lv_goto hx hb d_Mo_isWorker_13 (tgt := 17) rfl ?_
      exact zz_iret hx hb hr hlk rfl ⟨rfl, congrArg (fun z => some (Value.int z)) (by simp [zisR, hF1, hF9])⟩ hL d_Mo_isWorker_17

set_option maxHeartbeats 4000000 in
set_option maxRecDepth 100000 in
theorem k_Mo_tasksOf (l : Launch) (D : va_G) (ca : Nat → ClassId) (r n t rs w : Nat) (A : Nat → Nat → Nat) (v0 : Nat) (hn : n ≤ 12) (hw : 0 < w) (hw4 : w ≤ 4) (hv : v0 < 2 ^ 31) : Met l y_Mo_tasksOf w_Mo_tasksOf (zr 0 0 0) (zz_P D ca [.ref r, .int (nI v0)] (fun H => MoAt D ca H r n t rs w A)) (zz_Q (fun H H1 v => H1 = H ∧ v = some (.int (nI (mTk n w v0))))) 0 0 (fun _ => False) := by
  refine zz_met (cc := c_Mo_tasksOf) (by decide) (Nat.le_of_ble_eq_true rfl) ?_
  intro p e s m below meth c ls hE hr hlk hnm hM hl
  have hx := hE.1.1
  have hb := hE.1.2.1
  have hK := hE.2
  have hl : lv_has ls 4 [(0, .ref r), (1, .int (nI v0))] := hl
  have hL : zz_L (fun _ => False) ([] : List Loc) := zz_L.nil
  refine lv_iconst (v := nI 0) hx hb d_Mo_tasksOf_0 (by decide) ?_
  refine lv_istore_n hx hb d_Mo_tasksOf_1 rfl hl (by decide) rfl (fun ls hl => ?_)
  have hl : lv_has ls 4 [(2, .int (nI 0)), (0, .ref r), (1, .int (nI v0))] := hl
  refine lv_iconst (v := nI 0) hx hb d_Mo_tasksOf_2 (by decide) ?_
  refine lv_istore_n hx hb d_Mo_tasksOf_3 rfl hl (by decide) rfl (fun ls hl => ?_)
  have hl : lv_has ls 4 [(3, .int (nI 0)), (2, .int (nI 0)), (0, .ref r), (1, .int (nI v0))] := hl
  have hl : lv_has ls 4 [(0, .ref r), (1, .int (nI v0)), (2, .int (nI 0)), (3, .int (nI 0))] := lv_sub hl [2, 3, 1, 0] rfl
  refine zz_loopP (σ := Nat) (fun i ls => lv_has ls 4 [(0, .ref r), (1, .int (nI v0)), (2, .int (nI (zcnt (fun r => decide (r % w = v0)) i))), (3, .int (nI i))] ∧ i ≤ n) (fun i => n - i) ?_ 0 ls ⟨hl, Nat.zero_le _⟩
  rintro i ih ls ⟨hl, hi⟩
  have hmod := Nat.mod_lt i hw
  refine lv_iload_n hx hb d_Mo_tasksOf_4 rfl (lv_at hl 3 rfl) ?_
  refine lv_aload_n hx hb d_Mo_tasksOf_5 rfl (lv_at hl 0 rfl) ?_
  refine fg_Mo_65 hE hM.1 rfl d_Mo_tasksOf_6 ?_
  refine zz_ge hx hb (by omega) (by omega) d_Mo_tasksOf_9 (tgt := 36) rfl (fun hT9 => ?_) (fun hF9 => ?_)
  · refine lv_iload_n hx hb d_Mo_tasksOf_36 rfl (lv_at hl 2 rfl) ?_
    exact zz_iret hx hb hr hlk rfl ⟨rfl, congrArg (fun z => some (Value.int z)) (by rw [show i = n by omega]; rfl)⟩ hL d_Mo_tasksOf_37
  · refine lv_iload_n hx hb d_Mo_tasksOf_12 rfl (lv_at hl 2 rfl) ?_
    refine lv_iload_n hx hb d_Mo_tasksOf_13 rfl (lv_at hl 3 rfl) ?_
    refine lv_aload_n hx hb d_Mo_tasksOf_14 rfl (lv_at hl 0 rfl) ?_
    refine fg_Mo_73 hE hM.1 rfl d_Mo_tasksOf_15 ?_
    refine zz_irem (x := i) (y := w) (by omega) (by omega) (by omega) hx hb d_Mo_tasksOf_18 ?_
    refine lv_iload_n hx hb d_Mo_tasksOf_19 rfl (lv_at hl 1 rfl) ?_
    refine zz_ne hx hb (by omega) (by omega) d_Mo_tasksOf_20 (tgt := 27) rfl (fun hT20 => ?_) (fun hF20 => ?_)
    · refine lv_iconst (v := nI 0) hx hb d_Mo_tasksOf_27 (by decide) ?_
      refine zz_iadd hx hb d_Mo_tasksOf_28 ?_
      refine lv_istore_n hx hb d_Mo_tasksOf_29 rfl hl (by decide) rfl (fun ls hl => ?_)
      have hl : lv_has ls 4 [(2, .int (nI ((zcnt (fun r => decide (r % w = v0)) i) + 0))), (0, .ref r), (1, .int (nI v0)), (3, .int (nI i))] := hl
      refine lv_iinc (k := 3) (v := nI (i + 1)) hx hb d_Mo_tasksOf_30 hl rfl (zz_inc _) (by decide) rfl (fun ls hl => ?_)
      have hl : lv_has ls 4 [(3, .int (nI (i + 1))), (2, .int (nI ((zcnt (fun r => decide (r % w = v0)) i) + 0))), (0, .ref r), (1, .int (nI v0))] := hl
      refine lv_goto hx hb d_Mo_tasksOf_33 (tgt := 4) rfl ?_
      have hl : lv_has ls 4 [(0, .ref r), (1, .int (nI v0)), (2, .int (nI (zcnt (fun r => decide (r % w = v0)) (i + 1)))), (3, .int (nI (i + 1)))] := (by rw [show zcnt (fun r => decide (r % w = v0)) (i + 1) = zcnt (fun r => decide (r % w = v0)) i + 0 from by rw [show zcnt (fun r => decide (r % w = v0)) (i + 1) = zcnt (fun r => decide (r % w = v0)) i + (decide (i % w = v0)).toNat from rfl]; simp; omega]; exact lv_sub hl [2, 3, 1, 0] rfl)
      exact ih (i + 1) ls ⟨hl, by omega⟩ (by omega)
    · refine lv_iconst (v := nI 1) hx hb d_Mo_tasksOf_23 (by decide) ?_
      refine lv_goto hx hb d_Mo_tasksOf_24 (tgt := 28) rfl ?_
      refine zz_iadd hx hb d_Mo_tasksOf_28 ?_
      refine lv_istore_n hx hb d_Mo_tasksOf_29 rfl hl (by decide) rfl (fun ls hl => ?_)
      have hl : lv_has ls 4 [(2, .int (nI ((zcnt (fun r => decide (r % w = v0)) i) + 1))), (0, .ref r), (1, .int (nI v0)), (3, .int (nI i))] := hl
      refine lv_iinc (k := 3) (v := nI (i + 1)) hx hb d_Mo_tasksOf_30 hl rfl (zz_inc _) (by decide) rfl (fun ls hl => ?_)
      have hl : lv_has ls 4 [(3, .int (nI (i + 1))), (2, .int (nI ((zcnt (fun r => decide (r % w = v0)) i) + 1))), (0, .ref r), (1, .int (nI v0))] := hl
      refine lv_goto hx hb d_Mo_tasksOf_33 (tgt := 4) rfl ?_
      have hl : lv_has ls 4 [(0, .ref r), (1, .int (nI v0)), (2, .int (nI (zcnt (fun r => decide (r % w = v0)) (i + 1)))), (3, .int (nI (i + 1)))] := (by rw [show zcnt (fun r => decide (r % w = v0)) (i + 1) = zcnt (fun r => decide (r % w = v0)) i + 1 from by rw [show zcnt (fun r => decide (r % w = v0)) (i + 1) = zcnt (fun r => decide (r % w = v0)) i + (decide (i % w = v0)).toNat from rfl]; simp; omega]; exact lv_sub hl [2, 3, 1, 0] rfl)
      exact ih (i + 1) ls ⟨hl, by omega⟩ (by omega)

set_option maxHeartbeats 4000000 in
set_option maxRecDepth 100000 in
theorem k_Mo_isDone (l : Launch) (D : va_G) (ca : Nat → ClassId) (r n t rs w : Nat) (A : Nat → Nat → Nat) (hn : n ≤ 12) (hw : 0 < w) (hw4 : w ≤ 4) (hdd : ∀ v, v < 4 → A 16 v ≤ 12) : Met l y_Mo_isDone w_Mo_isDone (zr 1 0 0) (zz_P D ca [.ref r] (fun H => MoAt D ca H r n t rs w A)) (zz_Q (fun H H1 v => H1 = H ∧ v = some (.int (nI (mDn A n w).toNat)))) 0 0 (fun _ => False) := by
  refine zz_met (cc := c_Mo_isDone) (by decide) (Nat.le_of_ble_eq_true rfl) ?_
  intro p e s m below meth c ls hE hr hlk hnm hM hl
  have hx := hE.1.1
  have hb := hE.1.2.1
  have hK := hE.2
  have hl : lv_has ls 3 [(0, .ref r)] := hl
  have hL : zz_L (fun _ => False) ([] : List Loc) := zz_L.nil
  refine lv_iconst (v := nI 1) hx hb d_Mo_isDone_0 (by decide) ?_
  refine lv_istore_n hx hb d_Mo_isDone_1 rfl hl (by decide) rfl (fun ls hl => ?_)
  have hl : lv_has ls 3 [(1, .int (nI 1)), (0, .ref r)] := hl
  refine lv_iconst (v := nI 0) hx hb d_Mo_isDone_2 (by decide) ?_
  refine lv_istore_n hx hb d_Mo_isDone_3 rfl hl (by decide) rfl (fun ls hl => ?_)
  have hl : lv_has ls 3 [(2, .int (nI 0)), (1, .int (nI 1)), (0, .ref r)] := hl
  have hl : lv_has ls 3 [(0, .ref r), (1, .int (nI true.toNat)), (2, .int (nI 0))] := lv_sub hl [2, 1, 0] rfl
  refine zz_loopP (σ := Nat) (fun i ls => lv_has ls 3 [(0, .ref r), (1, .int (nI (zall (fun v => decide (A 16 v = mTk n w v)) i).toNat)), (2, .int (nI i))] ∧ i ≤ w) (fun i => w - i) ?_ 0 ls ⟨hl, Nat.zero_le _⟩
  rintro i ih ls ⟨hl, hi⟩
  refine lv_iload_n hx hb d_Mo_isDone_4 rfl (lv_at hl 2 rfl) ?_
  refine lv_aload_n hx hb d_Mo_isDone_5 rfl (lv_at hl 0 rfl) ?_
  refine fg_Mo_73 hE hM.1 rfl d_Mo_isDone_6 ?_
  refine zz_ge hx hb (by omega) (by omega) d_Mo_isDone_9 (tgt := 42) rfl (fun hT9 => ?_) (fun hF9 => ?_)
  · refine lv_iload_n hx hb d_Mo_isDone_42 rfl (lv_at hl 1 rfl) ?_
    exact zz_iret hx hb hr hlk (zz_narB _) ⟨rfl, congrArg (fun z => some (Value.int z)) (by rw [show i = w by omega]; rfl)⟩ hL d_Mo_isDone_43
  · refine lv_iload_n hx hb d_Mo_isDone_12 rfl (lv_at hl 1 rfl) ?_
    refine zz_eqB hx hb d_Mo_isDone_13 (tgt := 34) rfl (fun hT13 => ?_) (fun hF13 => ?_)
    · refine lv_iconst (v := nI 0) hx hb d_Mo_isDone_34 (by decide) ?_
      refine lv_istore_n hx hb d_Mo_isDone_35 rfl hl (by decide) rfl (fun ls hl => ?_)
      have hl : lv_has ls 3 [(1, .int (nI 0)), (0, .ref r), (2, .int (nI i))] := hl
      refine lv_iinc (k := 2) (v := nI (i + 1)) hx hb d_Mo_isDone_36 hl rfl (zz_inc _) (by decide) rfl (fun ls hl => ?_)
      have hl : lv_has ls 3 [(2, .int (nI (i + 1))), (1, .int (nI 0)), (0, .ref r)] := hl
      refine lv_goto hx hb d_Mo_isDone_39 (tgt := 4) rfl ?_
      have hl : lv_has ls 3 [(0, .ref r), (1, .int (nI (zall (fun v => decide (A 16 v = mTk n w v)) (i + 1)).toNat)), (2, .int (nI (i + 1)))] := (by rw [show zall (fun v => decide (A 16 v = mTk n w v)) (i + 1) = false from by rw [show zall (fun v => decide (A 16 v = mTk n w v)) (i + 1) = (zall (fun v => decide (A 16 v = mTk n w v)) i && decide (A 16 i = mTk n w i)) from rfl]; simp [hT13]]; exact lv_sub hl [2, 1, 0] rfl)
      exact ih (i + 1) ls ⟨hl, by omega⟩ (by omega)
    · have hdi := hdd i (by omega)
      have htk := zcnt_le (fun r => decide (r % w = i)) n
      have htk2 : mTk n w i ≤ n := htk
      refine lv_aload_n hx hb d_Mo_isDone_16 rfl (lv_at hl 0 rfl) ?_
      refine fg_Mo_56 hE hM.1 rfl d_Mo_isDone_17 ?_
      refine lv_iload_n hx hb d_Mo_isDone_20 rfl (lv_at hl 2 rfl) ?_
      refine mo_ld hE hM 16 (by decide) (i := i) (show i < 4 by omega) d_Mo_isDone_21 ?_
      refine lv_aload_n hx hb d_Mo_isDone_22 rfl (lv_at hl 0 rfl) ?_
      refine lv_iload_n hx hb d_Mo_isDone_23 rfl (lv_at hl 2 rfl) ?_
      refine zz_callP (cl_Mo_143 (rest := [.int (nI (A 16 i))]) hE (k_Mo_tasksOf l D ca r n t rs w A i hn hw hw4 (by omega)) ⟨rfl, rfl, by decide, by decide⟩ hM hM.1 rfl hl.1 rfl (Nat.le_of_ble_eq_true rfl) d_Mo_isDone_24 ⟨by decide, by decide⟩) ?_
      refine zz_ne hx hb (by omega) (by omega) d_Mo_isDone_27 (tgt := 34) rfl (fun hT27 => ?_) (fun hF27 => ?_)
      · refine lv_iconst (v := nI 0) hx hb d_Mo_isDone_34 (by decide) ?_
        refine lv_istore_n hx hb d_Mo_isDone_35 rfl hl (by decide) rfl (fun ls hl => ?_)
        have hl : lv_has ls 3 [(1, .int (nI 0)), (0, .ref r), (2, .int (nI i))] := hl
        refine lv_iinc (k := 2) (v := nI (i + 1)) hx hb d_Mo_isDone_36 hl rfl (zz_inc _) (by decide) rfl (fun ls hl => ?_)
        have hl : lv_has ls 3 [(2, .int (nI (i + 1))), (1, .int (nI 0)), (0, .ref r)] := hl
        refine lv_goto hx hb d_Mo_isDone_39 (tgt := 4) rfl ?_
        have hl : lv_has ls 3 [(0, .ref r), (1, .int (nI (zall (fun v => decide (A 16 v = mTk n w v)) (i + 1)).toNat)), (2, .int (nI (i + 1)))] := (by rw [show zall (fun v => decide (A 16 v = mTk n w v)) (i + 1) = false from by rw [show zall (fun v => decide (A 16 v = mTk n w v)) (i + 1) = (zall (fun v => decide (A 16 v = mTk n w v)) i && decide (A 16 i = mTk n w i)) from rfl]; simp [hF13, hT27]]; exact lv_sub hl [2, 1, 0] rfl)
        exact ih (i + 1) ls ⟨hl, by omega⟩ (by omega)
      · refine lv_iconst (v := nI 1) hx hb d_Mo_isDone_30 (by decide) ?_
        refine lv_goto hx hb d_Mo_isDone_31 (tgt := 35) rfl ?_
        refine lv_istore_n hx hb d_Mo_isDone_35 rfl hl (by decide) rfl (fun ls hl => ?_)
        have hl : lv_has ls 3 [(1, .int (nI 1)), (0, .ref r), (2, .int (nI i))] := hl
        refine lv_iinc (k := 2) (v := nI (i + 1)) hx hb d_Mo_isDone_36 hl rfl (zz_inc _) (by decide) rfl (fun ls hl => ?_)
        have hl : lv_has ls 3 [(2, .int (nI (i + 1))), (1, .int (nI 1)), (0, .ref r)] := hl
        refine lv_goto hx hb d_Mo_isDone_39 (tgt := 4) rfl ?_
        have hl : lv_has ls 3 [(0, .ref r), (1, .int (nI (zall (fun v => decide (A 16 v = mTk n w v)) (i + 1)).toNat)), (2, .int (nI (i + 1)))] := (by rw [show zall (fun v => decide (A 16 v = mTk n w v)) (i + 1) = true from by rw [show zall (fun v => decide (A 16 v = mTk n w v)) (i + 1) = (zall (fun v => decide (A 16 v = mTk n w v)) i && decide (A 16 i = mTk n w i)) from rfl]; simp [hF13, hF27]]; exact lv_sub hl [2, 1, 0] rfl)
        exact ih (i + 1) ls ⟨hl, by omega⟩ (by omega)

set_option maxHeartbeats 4000000 in
set_option maxRecDepth 100000 in
theorem k_Mo_isFound (l : Launch) (D : va_G) (ca : Nat → ClassId) (r n t rs w : Nat) (A : Nat → Nat → Nat) (j k : Nat) (hj : j ≤ 12) (hk : k ≤ 12) (okA : mOk A) (hrs : 0 < rs) (hRu : mRu A rs) (hw : 0 < w) (hw4 : w ≤ 4) (hdd : ∀ v, v < 4 → A 16 v ≤ 12) : Met l y_Mo_isFound w_Mo_isFound (zr 6 0 0) (zz_P D ca [.ref r, .int (nI j), .int (nI k)] (fun H => MoAt D ca H r n t rs w A)) (zz_Q (fun H H1 v => v = some (.int (nI (mFd A w rs j k).toNat)) ∧ zz_fr (moFr r) H H1 ∧ ∃ B, MoAt D ca H1 r n t rs w B ∧ mS A B)) 0 0 (moFr r) := by
  refine zz_met (cc := c_Mo_isFound) (by decide) (Nat.le_of_ble_eq_true rfl) ?_
  intro p e s m below meth c ls hE hr hlk hnm hM hl
  have hx := hE.1.1
  have hb := hE.1.2.1
  have hK := hE.2
  have hl : lv_has ls 5 [(0, .ref r), (1, .int (nI j)), (2, .int (nI k))] := hl
  have hL : zz_L (moFr r) ([] : List Loc) := zz_L.nil
  have hS : zz_fr (moFr r) s.heap s.heap := zz_fr.rf
  have mj := Nat.mod_lt j hw
  have mk := Nat.mod_lt k hw
  have dj := Nat.div_le_self j w
  have dk := Nat.div_le_self k w
  have cj := hdd (j % w) (by omega)
  have ck := hdd (k % w) (by omega)
  refine lv_iload_n hx hb d_Mo_isFound_0 rfl (lv_at hl 1 rfl) ?_
  refine lv_iload_n hx hb d_Mo_isFound_1 rfl (lv_at hl 2 rfl) ?_
  refine zz_ge hx hb (by omega) (by omega) d_Mo_isFound_2 (tgt := 9) rfl (fun hT2 => ?_) (fun hF2 => ?_)
  · refine lv_iload_n hx hb d_Mo_isFound_9 rfl (lv_at hl 2 rfl) ?_
    refine lv_istore_n hx hb d_Mo_isFound_10 rfl hl (by decide) rfl (fun ls hl => ?_)
    have hl : lv_has ls 5 [(3, .int (nI k)), (0, .ref r), (1, .int (nI j)), (2, .int (nI k))] := hl
    refine lv_iload_n hx hb d_Mo_isFound_11 rfl (lv_at hl 2 rfl) ?_
    refine lv_iload_n hx hb d_Mo_isFound_12 rfl (lv_at hl 3 rfl) ?_
    refine zz_ge hx hb (by omega) (by omega) d_Mo_isFound_13 (tgt := 20) rfl (fun hT13 => ?_) (fun hF13 => ?_)
    · refine lv_iload_n hx hb d_Mo_isFound_20 rfl (lv_at hl 2 rfl) ?_
      refine lv_istore hx hb d_Mo_isFound_21 hl (by decide) rfl (fun ls hl => ?_)
      have hl : lv_has ls 5 [(4, .int (nI j)), (3, .int (nI k)), (0, .ref r), (1, .int (nI j)), (2, .int (nI k))] := hl
      refine lv_iload hx hb d_Mo_isFound_23 (lv_at hl 0 rfl) ?_
      refine lv_aload_n hx hb d_Mo_isFound_25 rfl (lv_at hl 2 rfl) ?_
      refine fg_Mo_73 hE hM.1 rfl d_Mo_isFound_26 ?_
      refine zz_idiv (x := j) (y := w) (by omega) (by omega) (by omega) hx hb d_Mo_isFound_29 ?_
      refine lv_aload_n hx hb d_Mo_isFound_30 rfl (lv_at hl 2 rfl) ?_
      refine fg_Mo_56 hE hM.1 rfl d_Mo_isFound_31 ?_
      refine lv_iload hx hb d_Mo_isFound_34 (lv_at hl 0 rfl) ?_
      refine lv_aload_n hx hb d_Mo_isFound_36 rfl (lv_at hl 2 rfl) ?_
      refine fg_Mo_73 hE hM.1 rfl d_Mo_isFound_37 ?_
      refine zz_irem (x := j) (y := w) (by omega) (by omega) (by omega) hx hb d_Mo_isFound_40 ?_
      refine mo_ld hE hM 16 (by decide) (i := j % w) (show j % w < 4 by omega) d_Mo_isFound_41 ?_
      refine zz_ge hx hb (by omega) (by omega) d_Mo_isFound_42 (tgt := 59) rfl (fun hT42 => ?_) (fun hF42 => ?_)
      · refine lv_iconst (v := nI 0) hx hb d_Mo_isFound_59 (by decide) ?_
        have hval : mFd A w rs j k = false := by
          unfold mFd
          first
            | (exfalso; omega)
            | (simp only [if_pos (show j < k by omega)]; simp [hT42]; done)
            | (simp only [if_neg (show ¬ j < k by omega)]; simp [hT42]; done)
            | (simp only [if_pos (show j < k by omega)]; rw [decide_eq_false (by omega)]; rfl)
            | (simp only [if_neg (show ¬ j < k by omega)]; rw [decide_eq_false (by omega)]; rfl)
        exact zz_iret hx hb hr hlk rfl ⟨by rw [hval]; rfl, hS, _, hM, (mS.rf okA)⟩ hL d_Mo_isFound_60
      · refine lv_aload_n hx hb d_Mo_isFound_45 rfl (lv_at hl 2 rfl) ?_
        refine lv_iload_n hx hb d_Mo_isFound_46 rfl (lv_at hl 1 rfl) ?_
        refine lv_iload hx hb d_Mo_isFound_47 (lv_at hl 0 rfl) ?_
        refine zz_callI (cl_Mo_140 (rest := []) hE (k_Mo_holds l D ca r n t rs w A k j (by omega) (by omega) okA hrs hRu) ⟨rfl, rfl, by decide, by decide⟩ hM hM.1 rfl hl.1 rfl (Nat.le_of_ble_eq_true rfl) d_Mo_isFound_49 ⟨by decide, by decide⟩) hL (fun _ h => h) (fun H locs hpost hL => ?_)
        obtain ⟨hfrB1, B1, hM, hmsB1⟩ := hpost
        have hS := hS.tr hfrB1
        refine zz_eqB hx hb d_Mo_isFound_52 (tgt := 59) rfl (fun hT52 => ?_) (fun hF52 => ?_)
        · refine lv_iconst (v := nI 0) hx hb d_Mo_isFound_59 (by decide) ?_
          have hval : mFd A w rs j k = false := by
            unfold mFd
            first
              | (exfalso; omega)
              | (simp only [if_pos (show j < k by omega)]; simp [hF42, hT52]; done)
              | (simp only [if_neg (show ¬ j < k by omega)]; simp [hF42, hT52]; done)
              | (simp only [if_pos (show j < k by omega)]; rw [decide_eq_false (by omega)]; rfl)
              | (simp only [if_neg (show ¬ j < k by omega)]; rw [decide_eq_false (by omega)]; rfl)
          exact zz_iret hx hb hr hlk rfl ⟨by rw [hval]; rfl, hS, _, hM, hmsB1⟩ hL d_Mo_isFound_60
        · refine lv_iconst (v := nI 1) hx hb d_Mo_isFound_55 (by decide) ?_
          refine lv_goto hx hb d_Mo_isFound_56 (tgt := 60) rfl ?_
          have hval : mFd A w rs j k = true := by
            unfold mFd
            first
              | (exfalso; omega)
              | (simp only [if_pos (show j < k by omega)]; simp [hF42, hF52]; done)
              | (simp only [if_neg (show ¬ j < k by omega)]; simp [hF42, hF52]; done)
              | (simp only [if_pos (show j < k by omega)]; rw [decide_eq_false (by omega)]; rfl)
              | (simp only [if_neg (show ¬ j < k by omega)]; rw [decide_eq_false (by omega)]; rfl)
          exact zz_iret hx hb hr hlk rfl ⟨by rw [hval]; rfl, hS, _, hM, hmsB1⟩ hL d_Mo_isFound_60
    · refine lv_iload_n hx hb d_Mo_isFound_16 rfl (lv_at hl 3 rfl) ?_
      refine lv_goto hx hb d_Mo_isFound_17 (tgt := 21) rfl ?_
      refine lv_istore hx hb d_Mo_isFound_21 hl (by decide) rfl (fun ls hl => ?_)
      have hl : lv_has ls 5 [(4, .int (nI k)), (3, .int (nI k)), (0, .ref r), (1, .int (nI j)), (2, .int (nI k))] := hl
      refine lv_iload hx hb d_Mo_isFound_23 (lv_at hl 0 rfl) ?_
      refine lv_aload_n hx hb d_Mo_isFound_25 rfl (lv_at hl 2 rfl) ?_
      refine fg_Mo_73 hE hM.1 rfl d_Mo_isFound_26 ?_
      refine zz_idiv (x := k) (y := w) (by omega) (by omega) (by omega) hx hb d_Mo_isFound_29 ?_
      refine lv_aload_n hx hb d_Mo_isFound_30 rfl (lv_at hl 2 rfl) ?_
      refine fg_Mo_56 hE hM.1 rfl d_Mo_isFound_31 ?_
      refine lv_iload hx hb d_Mo_isFound_34 (lv_at hl 0 rfl) ?_
      refine lv_aload_n hx hb d_Mo_isFound_36 rfl (lv_at hl 2 rfl) ?_
      refine fg_Mo_73 hE hM.1 rfl d_Mo_isFound_37 ?_
      refine zz_irem (x := k) (y := w) (by omega) (by omega) (by omega) hx hb d_Mo_isFound_40 ?_
      refine mo_ld hE hM 16 (by decide) (i := k % w) (show k % w < 4 by omega) d_Mo_isFound_41 ?_
      refine zz_ge hx hb (by omega) (by omega) d_Mo_isFound_42 (tgt := 59) rfl (fun hT42 => ?_) (fun hF42 => ?_)
      · refine lv_iconst (v := nI 0) hx hb d_Mo_isFound_59 (by decide) ?_
        have hval : mFd A w rs j k = false := by
          unfold mFd
          first
            | (exfalso; omega)
            | (simp only [if_pos (show j < k by omega)]; simp [hT42]; done)
            | (simp only [if_neg (show ¬ j < k by omega)]; simp [hT42]; done)
            | (simp only [if_pos (show j < k by omega)]; rw [decide_eq_false (by omega)]; rfl)
            | (simp only [if_neg (show ¬ j < k by omega)]; rw [decide_eq_false (by omega)]; rfl)
        exact zz_iret hx hb hr hlk rfl ⟨by rw [hval]; rfl, hS, _, hM, (mS.rf okA)⟩ hL d_Mo_isFound_60
      · refine lv_aload_n hx hb d_Mo_isFound_45 rfl (lv_at hl 2 rfl) ?_
        refine lv_iload_n hx hb d_Mo_isFound_46 rfl (lv_at hl 1 rfl) ?_
        refine lv_iload hx hb d_Mo_isFound_47 (lv_at hl 0 rfl) ?_
        refine zz_callI (cl_Mo_140 (rest := []) hE (k_Mo_holds l D ca r n t rs w A k k (by omega) (by omega) okA hrs hRu) ⟨rfl, rfl, by decide, by decide⟩ hM hM.1 rfl hl.1 rfl (Nat.le_of_ble_eq_true rfl) d_Mo_isFound_49 ⟨by decide, by decide⟩) hL (fun _ h => h) (fun H locs hpost hL => ?_)
        obtain ⟨hfrB1, B1, hM, hmsB1⟩ := hpost
        have hS := hS.tr hfrB1
        refine zz_eqB hx hb d_Mo_isFound_52 (tgt := 59) rfl (fun hT52 => ?_) (fun hF52 => ?_)
        · refine lv_iconst (v := nI 0) hx hb d_Mo_isFound_59 (by decide) ?_
          have hval : mFd A w rs j k = false := by
            unfold mFd
            first
              | (exfalso; omega)
              | (simp only [if_pos (show j < k by omega)]; simp [hF42, hT52]; done)
              | (simp only [if_neg (show ¬ j < k by omega)]; simp [hF42, hT52]; done)
              | (simp only [if_pos (show j < k by omega)]; rw [decide_eq_false (by omega)]; rfl)
              | (simp only [if_neg (show ¬ j < k by omega)]; rw [decide_eq_false (by omega)]; rfl)
          exact zz_iret hx hb hr hlk rfl ⟨by rw [hval]; rfl, hS, _, hM, hmsB1⟩ hL d_Mo_isFound_60
        · refine lv_iconst (v := nI 1) hx hb d_Mo_isFound_55 (by decide) ?_
          refine lv_goto hx hb d_Mo_isFound_56 (tgt := 60) rfl ?_
          have hval : mFd A w rs j k = true := by
            unfold mFd
            first
              | (exfalso; omega)
              | (simp only [if_pos (show j < k by omega)]; simp [hF42, hF52]; done)
              | (simp only [if_neg (show ¬ j < k by omega)]; simp [hF42, hF52]; done)
              | (simp only [if_pos (show j < k by omega)]; rw [decide_eq_false (by omega)]; rfl)
              | (simp only [if_neg (show ¬ j < k by omega)]; rw [decide_eq_false (by omega)]; rfl)
          exact zz_iret hx hb hr hlk rfl ⟨by rw [hval]; rfl, hS, _, hM, hmsB1⟩ hL d_Mo_isFound_60
  · refine lv_iload_n hx hb d_Mo_isFound_5 rfl (lv_at hl 1 rfl) ?_
    refine lv_goto hx hb d_Mo_isFound_6 (tgt := 10) rfl ?_
    refine lv_istore_n hx hb d_Mo_isFound_10 rfl hl (by decide) rfl (fun ls hl => ?_)
    have hl : lv_has ls 5 [(3, .int (nI j)), (0, .ref r), (1, .int (nI j)), (2, .int (nI k))] := hl
    refine lv_iload_n hx hb d_Mo_isFound_11 rfl (lv_at hl 2 rfl) ?_
    refine lv_iload_n hx hb d_Mo_isFound_12 rfl (lv_at hl 3 rfl) ?_
    refine zz_ge hx hb (by omega) (by omega) d_Mo_isFound_13 (tgt := 20) rfl (fun hT13 => ?_) (fun hF13 => ?_)
    · refine lv_iload_n hx hb d_Mo_isFound_20 rfl (lv_at hl 2 rfl) ?_
      refine lv_istore hx hb d_Mo_isFound_21 hl (by decide) rfl (fun ls hl => ?_)
      have hl : lv_has ls 5 [(4, .int (nI j)), (3, .int (nI j)), (0, .ref r), (1, .int (nI j)), (2, .int (nI k))] := hl
      refine lv_iload hx hb d_Mo_isFound_23 (lv_at hl 0 rfl) ?_
      refine lv_aload_n hx hb d_Mo_isFound_25 rfl (lv_at hl 2 rfl) ?_
      refine fg_Mo_73 hE hM.1 rfl d_Mo_isFound_26 ?_
      refine zz_idiv (x := j) (y := w) (by omega) (by omega) (by omega) hx hb d_Mo_isFound_29 ?_
      refine lv_aload_n hx hb d_Mo_isFound_30 rfl (lv_at hl 2 rfl) ?_
      refine fg_Mo_56 hE hM.1 rfl d_Mo_isFound_31 ?_
      refine lv_iload hx hb d_Mo_isFound_34 (lv_at hl 0 rfl) ?_
      refine lv_aload_n hx hb d_Mo_isFound_36 rfl (lv_at hl 2 rfl) ?_
      refine fg_Mo_73 hE hM.1 rfl d_Mo_isFound_37 ?_
      refine zz_irem (x := j) (y := w) (by omega) (by omega) (by omega) hx hb d_Mo_isFound_40 ?_
      refine mo_ld hE hM 16 (by decide) (i := j % w) (show j % w < 4 by omega) d_Mo_isFound_41 ?_
      refine zz_ge hx hb (by omega) (by omega) d_Mo_isFound_42 (tgt := 59) rfl (fun hT42 => ?_) (fun hF42 => ?_)
      · refine lv_iconst (v := nI 0) hx hb d_Mo_isFound_59 (by decide) ?_
        have hval : mFd A w rs j k = false := by
          unfold mFd
          first
            | (exfalso; omega)
            | (simp only [if_pos (show j < k by omega)]; simp [hT42]; done)
            | (simp only [if_neg (show ¬ j < k by omega)]; simp [hT42]; done)
            | (simp only [if_pos (show j < k by omega)]; rw [decide_eq_false (by omega)]; rfl)
            | (simp only [if_neg (show ¬ j < k by omega)]; rw [decide_eq_false (by omega)]; rfl)
        exact zz_iret hx hb hr hlk rfl ⟨by rw [hval]; rfl, hS, _, hM, (mS.rf okA)⟩ hL d_Mo_isFound_60
      · refine lv_aload_n hx hb d_Mo_isFound_45 rfl (lv_at hl 2 rfl) ?_
        refine lv_iload_n hx hb d_Mo_isFound_46 rfl (lv_at hl 1 rfl) ?_
        refine lv_iload hx hb d_Mo_isFound_47 (lv_at hl 0 rfl) ?_
        refine zz_callI (cl_Mo_140 (rest := []) hE (k_Mo_holds l D ca r n t rs w A j j (by omega) (by omega) okA hrs hRu) ⟨rfl, rfl, by decide, by decide⟩ hM hM.1 rfl hl.1 rfl (Nat.le_of_ble_eq_true rfl) d_Mo_isFound_49 ⟨by decide, by decide⟩) hL (fun _ h => h) (fun H locs hpost hL => ?_)
        obtain ⟨hfrB1, B1, hM, hmsB1⟩ := hpost
        have hS := hS.tr hfrB1
        refine zz_eqB hx hb d_Mo_isFound_52 (tgt := 59) rfl (fun hT52 => ?_) (fun hF52 => ?_)
        · refine lv_iconst (v := nI 0) hx hb d_Mo_isFound_59 (by decide) ?_
          have hval : mFd A w rs j k = false := by
            unfold mFd
            first
              | (exfalso; omega)
              | (simp only [if_pos (show j < k by omega)]; simp [hF42, hT52]; done)
              | (simp only [if_neg (show ¬ j < k by omega)]; simp [hF42, hT52]; done)
              | (simp only [if_pos (show j < k by omega)]; rw [decide_eq_false (by omega)]; rfl)
              | (simp only [if_neg (show ¬ j < k by omega)]; rw [decide_eq_false (by omega)]; rfl)
          exact zz_iret hx hb hr hlk rfl ⟨by rw [hval]; rfl, hS, _, hM, hmsB1⟩ hL d_Mo_isFound_60
        · refine lv_iconst (v := nI 1) hx hb d_Mo_isFound_55 (by decide) ?_
          refine lv_goto hx hb d_Mo_isFound_56 (tgt := 60) rfl ?_
          have hval : mFd A w rs j k = true := by
            unfold mFd
            first
              | (exfalso; omega)
              | (simp only [if_pos (show j < k by omega)]; simp [hF42, hF52]; done)
              | (simp only [if_neg (show ¬ j < k by omega)]; simp [hF42, hF52]; done)
              | (simp only [if_pos (show j < k by omega)]; rw [decide_eq_false (by omega)]; rfl)
              | (simp only [if_neg (show ¬ j < k by omega)]; rw [decide_eq_false (by omega)]; rfl)
          exact zz_iret hx hb hr hlk rfl ⟨by rw [hval]; rfl, hS, _, hM, hmsB1⟩ hL d_Mo_isFound_60
    · refine lv_iload_n hx hb d_Mo_isFound_16 rfl (lv_at hl 3 rfl) ?_
      refine lv_goto hx hb d_Mo_isFound_17 (tgt := 21) rfl ?_
      refine lv_istore hx hb d_Mo_isFound_21 hl (by decide) rfl (fun ls hl => ?_)
      have hl : lv_has ls 5 [(4, .int (nI k)), (3, .int (nI j)), (0, .ref r), (1, .int (nI j)), (2, .int (nI k))] := hl
      refine lv_iload hx hb d_Mo_isFound_23 (lv_at hl 0 rfl) ?_
      refine lv_aload_n hx hb d_Mo_isFound_25 rfl (lv_at hl 2 rfl) ?_
      refine fg_Mo_73 hE hM.1 rfl d_Mo_isFound_26 ?_
      refine zz_idiv (x := k) (y := w) (by omega) (by omega) (by omega) hx hb d_Mo_isFound_29 ?_
      refine lv_aload_n hx hb d_Mo_isFound_30 rfl (lv_at hl 2 rfl) ?_
      refine fg_Mo_56 hE hM.1 rfl d_Mo_isFound_31 ?_
      refine lv_iload hx hb d_Mo_isFound_34 (lv_at hl 0 rfl) ?_
      refine lv_aload_n hx hb d_Mo_isFound_36 rfl (lv_at hl 2 rfl) ?_
      refine fg_Mo_73 hE hM.1 rfl d_Mo_isFound_37 ?_
      refine zz_irem (x := k) (y := w) (by omega) (by omega) (by omega) hx hb d_Mo_isFound_40 ?_
      refine mo_ld hE hM 16 (by decide) (i := k % w) (show k % w < 4 by omega) d_Mo_isFound_41 ?_
      refine zz_ge hx hb (by omega) (by omega) d_Mo_isFound_42 (tgt := 59) rfl (fun hT42 => ?_) (fun hF42 => ?_)
      · refine lv_iconst (v := nI 0) hx hb d_Mo_isFound_59 (by decide) ?_
        have hval : mFd A w rs j k = false := by
          unfold mFd
          first
            | (exfalso; omega)
            | (simp only [if_pos (show j < k by omega)]; simp [hT42]; done)
            | (simp only [if_neg (show ¬ j < k by omega)]; simp [hT42]; done)
            | (simp only [if_pos (show j < k by omega)]; rw [decide_eq_false (by omega)]; rfl)
            | (simp only [if_neg (show ¬ j < k by omega)]; rw [decide_eq_false (by omega)]; rfl)
        exact zz_iret hx hb hr hlk rfl ⟨by rw [hval]; rfl, hS, _, hM, (mS.rf okA)⟩ hL d_Mo_isFound_60
      · refine lv_aload_n hx hb d_Mo_isFound_45 rfl (lv_at hl 2 rfl) ?_
        refine lv_iload_n hx hb d_Mo_isFound_46 rfl (lv_at hl 1 rfl) ?_
        refine lv_iload hx hb d_Mo_isFound_47 (lv_at hl 0 rfl) ?_
        refine zz_callI (cl_Mo_140 (rest := []) hE (k_Mo_holds l D ca r n t rs w A j k (by omega) (by omega) okA hrs hRu) ⟨rfl, rfl, by decide, by decide⟩ hM hM.1 rfl hl.1 rfl (Nat.le_of_ble_eq_true rfl) d_Mo_isFound_49 ⟨by decide, by decide⟩) hL (fun _ h => h) (fun H locs hpost hL => ?_)
        obtain ⟨hfrB1, B1, hM, hmsB1⟩ := hpost
        have hS := hS.tr hfrB1
        refine zz_eqB hx hb d_Mo_isFound_52 (tgt := 59) rfl (fun hT52 => ?_) (fun hF52 => ?_)
        · refine lv_iconst (v := nI 0) hx hb d_Mo_isFound_59 (by decide) ?_
          have hval : mFd A w rs j k = false := by
            unfold mFd
            first
              | (exfalso; omega)
              | (simp only [if_pos (show j < k by omega)]; simp [hF42, hT52]; done)
              | (simp only [if_neg (show ¬ j < k by omega)]; simp [hF42, hT52]; done)
              | (simp only [if_pos (show j < k by omega)]; rw [decide_eq_false (by omega)]; rfl)
              | (simp only [if_neg (show ¬ j < k by omega)]; rw [decide_eq_false (by omega)]; rfl)
          exact zz_iret hx hb hr hlk rfl ⟨by rw [hval]; rfl, hS, _, hM, hmsB1⟩ hL d_Mo_isFound_60
        · refine lv_iconst (v := nI 1) hx hb d_Mo_isFound_55 (by decide) ?_
          refine lv_goto hx hb d_Mo_isFound_56 (tgt := 60) rfl ?_
          have hval : mFd A w rs j k = true := by
            unfold mFd
            first
              | (exfalso; omega)
              | (simp only [if_pos (show j < k by omega)]; simp [hF42, hF52]; done)
              | (simp only [if_neg (show ¬ j < k by omega)]; simp [hF42, hF52]; done)
              | (simp only [if_pos (show j < k by omega)]; rw [decide_eq_false (by omega)]; rfl)
              | (simp only [if_neg (show ¬ j < k by omega)]; rw [decide_eq_false (by omega)]; rfl)
          exact zz_iret hx hb hr hlk rfl ⟨by rw [hval]; rfl, hS, _, hM, hmsB1⟩ hL d_Mo_isFound_60
