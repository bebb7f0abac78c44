/-! The reference's object and its arrays: one block of nineteen cells; what each array holds is a row of numbers. -/
def moF (r n t rs w : Nat) : List Value := [.ref (r + 1), .ref (r + 2), .int (nI n), .ref (r + 3), .ref (r + 4), .ref (r + 5), .ref (r + 6), .ref (r + 7), .ref (r + 8), .ref (r + 9), .ref (r + 10), .int (nI t), .int (nI rs), .ref (r + 11), .ref (r + 12), .ref (r + 13), .ref (r + 14), .ref (r + 15), .int (nI w), .ref (r + 16), .ref (r + 17), .ref (r + 18)]
def moL (k : Nat) : Nat := match k with
  | 1 => 312
  | 2 => 26
  | 3 => 24
  | 4 => 2
  | 5 => 169
  | 6 => 140
  | 7 => 140
  | 8 => 140
  | 9 => 140
  | 10 => 7
  | 11 => 24
  | 12 => 24
  | 13 => 24
  | 14 => 24
  | 15 => 24
  | 16 => 4
  | 17 => 2
  | 18 => 12
  | _ => 0
theorem moL_lt (k : Nat) : moL k < 2 ^ 31 := by
  unfold moL
  split <;> decide
def moC (ca : Nat → ClassId) (k : Nat) : ClassId := if k = 15 then ca 2 else ca 0
def MoAt (D : va_G) (ca : Nat → ClassId) (H : Heap) (r n t rs w : Nat) (A : Nat → Nat → Nat) : Prop := va_at D zC (r, .inr (7, moF r n t rs w)) H ∧ ∀ k, 1 ≤ k → k ≤ 18 → va_at D zC (r + k, .inl (moC ca k, moL k, .inl (fun j => nI (A k j)))) H
def up2 (A : Nat → Nat → Nat) (k i x : Nat) : Nat → Nat → Nat := fun a j => if a = k ∧ j = i then x else A a j
theorem up2_s {A : Nat → Nat → Nat} {k i x : Nat} : up2 A k i x k i = x := by simp [up2]
theorem up2_k {A : Nat → Nat → Nat} {k i x a j : Nat} (h : a ≠ k) : up2 A k i x a j = A a j := by simp [up2, h]
theorem up2_i {A : Nat → Nat → Nat} {k i x a j : Nat} (h : j ≠ i) : up2 A k i x a j = A a j := by simp [up2, h]
def moFr (r : Nat) (q : Nat) : Prop := r ≤ q ∧ q ≤ r + 18
/-- nothing outside F has changed, no cell is new -/
def zz_fr (F : Nat → Prop) (H H1 : Heap) : Prop := H1.size = H.size ∧ ∀ q : Nat, ¬ F q → H1[q]? = H[q]?
theorem zz_fr.rf {F : Nat → Prop} {H : Heap} : zz_fr F H H := ⟨rfl, fun _ _ => rfl⟩
theorem zz_fr.tr {F : Nat → Prop} {H H1 H2 : Heap} (h1 : zz_fr F H H1) (h2 : zz_fr F H1 H2) : zz_fr F H H2 := ⟨h2.1.trans h1.1, fun q hq => (h2.2 q hq).trans (h1.2 q hq)⟩
theorem zz_fr.up {F : Nat → Prop} {H H1 H2 : Heap} {a : Nat} (h1 : zz_fr F H H1) (h2 : zz_up H1 H2 a) (ha : F a) : zz_fr F H H2 := h1.tr ⟨h2.1, fun q hq => h2.2 q (fun e => hq (e ▸ ha))⟩
theorem mo_up {A : Nat → Nat → Nat} {k i x : Nat} : upd (fun j => nI (A k j)) i (nI x) = fun j => nI (up2 A k i x k j) := by
  funext j
  by_cases h : j = i
  · subst h; simp [upd, up2]
  · simp [upd, up2, h]
section MO
variable {p : Program} {l : Launch} {e : Env} {R : Room} {s : State} {m : MethodId} {args : Array Value} {below : List Frame} {meth : Method} {c : Code} {H : Heap} {locs : List Loc} {cells slots : Nat} {Q : State → Prop}
variable {cc : ByteArray} {nL pc : Nat} {ls : Array Slot} {rest st0 : List Value} {D : va_G} {ca : Nat → ClassId} {own : String} {r n t rs w : Nat} {A : Nat → Nat → Nat}
theorem mo_arr (hM : MoAt D ca H r n t rs w A) (k : Nat) (hk : 1 ≤ k ∧ k ≤ 18 ∧ k ≠ 15) : va_at D zC (r + k, .inl (ca 0, moL k, .inl (fun j => nI (A k j)))) H := by
  have h := hM.2 k hk.1 hk.2.1
  rw [show moC ca k = ca 0 from if_neg hk.2.2] at h
  exact h
theorem mo_set {H1 : Heap} (hM : MoAt D ca H r n t rs w A) {k i x : Nat} (hk : 1 ≤ k ∧ k ≤ 18) (h1 : va_at D zC (r + k, .inl (moC ca k, moL k, .inl (upd (fun j => nI (A k j)) i (nI x)))) H1) (hu : zz_up H H1 (r + k)) : MoAt D ca H1 r n t rs w (up2 A k i x) := by
  refine ⟨zz_keep hu (show r ≠ r + k by omega) hM.1, fun k2 h2 h3 => ?_⟩
  by_cases hkk : k2 = k
  · subst hkk
    rw [mo_up] at h1
    exact h1
  · have h := zz_keep hu (show r + k2 ≠ r + k by omega) (hM.2 k2 h2 h3)
    have e1 : (fun j => nI (up2 A k i x k2 j)) = fun j => nI (A k2 j) := by funext j; rw [up2_k hkk]
    rw [e1]
    exact h
theorem mo_fld {H1 : Heap} {n2 t2 rs2 w2 : Nat} (hM : MoAt D ca H r n t rs w A) (h1 : va_at D zC (r, .inr (7, moF r n2 t2 rs2 w2)) H1) (hu : zz_up H H1 r) : MoAt D ca H1 r n2 t2 rs2 w2 A :=
  ⟨h1, fun k h2 h3 => zz_keep hu (show r + k ≠ r by omega) (hM.2 k h2 h3)⟩
theorem mo_ld (hE : zz_E p m c cc nL s args own D ca) (hM : MoAt D ca H r n t rs w A) (k : Nat) (hk : 1 ≤ k ∧ k ≤ 18 ∧ k ≠ 15) {i : Nat} (hi : i < moL k) (hdg : decode cc pc = .ok (.iaload, 1)) (kk : W p l e R s m args below meth c H locs cells slots Q (F0 m (pc + 1) ls (.int (nI (A k i)) :: rest))) : W p l e R s m args below meth c H locs cells slots Q (F0 m pc ls (.int (nI i) :: .ref (r + k) :: rest)) :=
  zz_iald hE.1.1 hE.1.2.1 hE.2.1 (mo_arr hM k hk) 0 rfl hi (moL_lt k) hdg kk
theorem mo_ldz (hE : zz_E p m c cc nL s args own D ca) (hM : MoAt D ca H r n t rs w A) {i : Nat} (hi : i < 24) (hdg : decode cc pc = .ok (.baload, 1)) (kk : W p l e R s m args below meth c H locs cells slots Q (F0 m (pc + 1) ls (.int (nI (A 15 i)) :: rest))) : W p l e R s m args below meth c H locs cells slots Q (F0 m pc ls (.int (nI i) :: .ref (r + 15) :: rest)) :=
  zz_zald hE.1.1 hE.1.2.1 hE.2.1 (hM.2 15 (by decide) (by decide)) 2 rfl hi (by decide) hdg kk
theorem mo_st (hE : zz_E p m c cc nL s args own D ca) (hM : MoAt D ca H r n t rs w A) {H0 : Heap} (hS : zz_fr (moFr r) H0 H) (hL : zz_L (moFr r) locs) (k : Nat) (hk : 1 ≤ k ∧ k ≤ 18 ∧ k ≠ 15) {i x : Nat} (hi : i < moL k) (hdg : decode cc pc = .ok (.iastore, 1)) (kk : ∀ (H1 : Heap) (locs1 : List Loc), MoAt D ca H1 r n t rs w (up2 A k i x) → zz_fr (moFr r) H0 H1 → zz_L (moFr r) locs1 → W p l e R s m args below meth c H1 locs1 cells slots Q (F0 m (pc + 1) ls rest)) : W p l e R s m args below meth c H locs cells slots Q (F0 m pc ls (.int (nI x) :: .int (nI i) :: .ref (r + k) :: rest)) := by
  have hF : moFr r (r + k) := ⟨by omega, by omega⟩
  refine zz_iast hE.1.1 hE.1.2.1 hE.2.1 (mo_arr hM k hk) hL hF 0 rfl hi (moL_lt k) hdg fun H1 locs1 h1 hu hL1 => kk H1 locs1 (mo_set hM ⟨hk.1, hk.2.1⟩ ?_ hu) (hS.up hu hF) hL1
  rw [show moC ca k = ca 0 from if_neg hk.2.2]
  exact h1
theorem mo_stz (hE : zz_E p m c cc nL s args own D ca) (hM : MoAt D ca H r n t rs w A) {H0 : Heap} (hS : zz_fr (moFr r) H0 H) (hL : zz_L (moFr r) locs) {i : Nat} {b : Bool} (hi : i < 24) (hdg : decode cc pc = .ok (.bastore, 1)) (kk : ∀ (H1 : Heap) (locs1 : List Loc), MoAt D ca H1 r n t rs w (up2 A 15 i b.toNat) → zz_fr (moFr r) H0 H1 → zz_L (moFr r) locs1 → W p l e R s m args below meth c H1 locs1 cells slots Q (F0 m (pc + 1) ls rest)) : W p l e R s m args below meth c H locs cells slots Q (F0 m pc ls (.int (nI b.toNat) :: .int (nI i) :: .ref (r + 15) :: rest)) := by
  have hF : moFr r (r + 15) := ⟨by omega, by omega⟩
  exact zz_zast hE.1.1 hE.1.2.1 hE.2.1 (hM.2 15 (by decide) (by decide)) hL hF 2 rfl hi (by decide) (zz_narB b) hdg fun H1 locs1 h1 hu hL1 => kk H1 locs1 (mo_set hM ⟨by decide, by decide⟩ h1 hu) (hS.up hu hF) hL1
end MO
