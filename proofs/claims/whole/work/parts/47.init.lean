section ZLc
variable {p : Program} {l : Launch} {e : Env} {R : Room} {s : State} {m : MethodId} {args : Array Value} {below : List Frame} {meth : Method} {c : Code} {Q : State → Prop} {pc : Nat} {st : List Value}
/-- a loop that makes cells -/
theorem zz_loopC {σ : Type} (I : σ → Array Slot → Heap → List Loc → Nat → Nat → Prop) (μ : σ → Nat) (body : ∀ x, (∀ x' ls' H' locs' cells' slots', I x' ls' H' locs' cells' slots' → μ x' < μ x → W p l e R s m args below meth c H' locs' cells' slots' Q (F0 m pc ls' st)) → ∀ ls H locs cells slots, I x ls H locs cells slots → W p l e R s m args below meth c H locs cells slots Q (F0 m pc ls st)) : ∀ x ls H locs cells slots, I x ls H locs cells slots → W p l e R s m args below meth c H locs cells slots Q (F0 m pc ls st) := by
  have key : ∀ n x, μ x < n → ∀ ls H locs cells slots, I x ls H locs cells slots → W p l e R s m args below meth c H locs cells slots Q (F0 m pc ls st) := by
    intro n
    induction n with
    | zero => intro x h; exact absurd h (Nat.not_lt_zero _)
    | succ n ih => intro x hx ls H locs cells slots hI; exact body x (fun x' ls' H' locs' cells' slots' h' hlt => ih x' (by omega) ls' H' locs' cells' slots' h') ls H locs cells slots hI
  exact fun x ls H locs cells slots h => key (μ x + 1) x (Nat.lt_succ_self _) ls H locs cells slots h
end ZLc
theorem arrV_cg {cA : ClassId} {n : Nat} {f g : Nat → Value} (h : ∀ j, j < n → f j = g j) : arrV cA n f = arrV cA n g := by
  unfold arrV
  congr 1
  congr 1
  funext j
  exact h j.val j.isLt
theorem zq_cg {D : va_G} {cl : List vw_C} {H : Heap} {a n : Nat} {cA : ClassId} {f g : Nat → Option Nat} (h : va_at D cl (a, .inl (cA, n, .inr (.inr (.inr (.inr f))))) H) (e : ∀ j, j < n → f j = g j) : va_at D cl (a, .inl (cA, n, .inr (.inr (.inr (.inr g))))) H := by
  show H[a]? = some (vp_cell _ _)
  have h1 : H[a]? = some (vp_cell _ _) := h
  rw [h1, vp_cell_q, vp_cell_q]
  congr 1
  exact arrV_cg fun j hj => by rw [e j hj]
theorem zi_cg {D : va_G} {cl : List vw_C} {H : Heap} {a n : Nat} {cA : ClassId} {f g : Nat → Int32} (h : va_at D cl (a, .inl (cA, n, .inl f)) H) (e : ∀ j, j < n → f j = g j) : va_at D cl (a, .inl (cA, n, .inl g)) H := by
  show H[a]? = some (vp_cell _ _)
  have h1 : H[a]? = some (vp_cell _ _) := h
  rw [h1, vp_cell_i, vp_cell_i]
  congr 1
  exact arrV_cg fun j hj => by rw [e j hj]
theorem zz_asgS (vm : Vm) (c : ClassId) : vm.assignable c c = true := by
  show vm.assignableAux (255 + 1) c c = true
  rw [Vm.assignableAux]
  simp only [beq_self_eq_true, Bool.true_or]
theorem en_asg {p : Program} {s : State} {m : MethodId} {args : Array Value} {c : Code} {cc : ByteArray} {nL : Nat} {own : String} {D : va_G} {ca : Nat → ClassId} (hE : zz_E p m c cc nL s args own D ca) : ∀ comp : ClassId, s.vm.findClass "RecordMatcher$Entry" = some comp → s.vm.assignable (D.1 1) comp = true ∧ ∃ kc : Class, s.vm.classes[comp]? = some kc := by
  intro comp h
  have h2 : s.vm.findClass "RecordMatcher$Entry" = some (D.1 1) := (hE.2.1.1 1 _ rfl).2.1
  have e1 : D.1 1 = comp := Option.some.inj (h2.symm.trans h)
  obtain ⟨kE, hkE, -⟩ := Vm.findClass_spec h
  exact ⟨by rw [e1]; exact zz_asgS _ _, kE, hkE⟩
def riFr (o q : Nat) : Prop := o ≤ q
def rEn (o i j : Nat) : Option Nat := if j < i then some (o + 8 + 5 * j) else none

set_option maxHeartbeats 4000000 in
set_option maxRecDepth 100000 in
theorem k_RM_init (l : Launch) (D : va_G) (ca : Nat → ClassId) (o : Nat) : Met l y_RM_init w_RM_init (zr 3 72 628) (zz_P D ca [.ref o] (fun H => va_at D zC (o, .inr (6, [.null, .int 0, .null, .int 0, .null, .null, .null])) H ∧ H.size = o + 1)) (zz_Q (fun H H1 v => v = none ∧ H1.size = o + 73 ∧ (∀ a, a < o → H1[a]? = H[a]?) ∧ RmAt D ca H1 o 0 0 none (fun _ => none) (fun _ => 0) ∧ RuAt D ca H1 (o + 3) 0 0 (fun _ _ => 0) ∧ EnAll D ca H1 o (fun _ _ _ => 0) (fun _ _ => 0) (fun _ _ => 0) (fun _ _ => false))) 72 628 (riFr o) := by
  refine zz_met (cc := c_RM_init) (by decide) (Nat.le_of_ble_eq_true rfl) ?_
  intro p e s m below meth c ls hE hr hlk hnm ⟨hO, hsz⟩ hl
  have hx := hE.1.1
  have hb := hE.1.2.1
  have hK := hE.2
  have hl : lv_has ls 2 [(0, .ref o)] := hl
  have hL : zz_L (riFr o) ([] : List Loc) := zz_L.nil
  have hFr : ∀ a, a < o → s.heap[a]? = s.heap[a]? := fun _ _ => rfl
  refine lv_aload_n hx hb d_RM_init_0 rfl (lv_at hl 0 rfl) ?_
  refine W.objInit hx hb hE.1.2.2.2.1 (hE.1.2.2.2.2 _ zm_16) (hE.1.2.2.2.2 _ zm_17) (hE.1.2.2.2.2 _ zm_18) rfl (by rw [hE.1.2.2.1]; exact hl.1) rfl d_RM_init_1 (Nat.le_of_ble_eq_true rfl) (Nat.le_of_ble_eq_true rfl) ?_
  refine W.eq (g2 := F0 m 4 ls []) rfl ?_
  refine lv_aload_n hx hb d_RM_init_4 rfl (lv_at hl 0 rfl) ?_
  refine lv_bipush (v := nI 13) hx hb d_RM_init_5 (by decide) ?_
  refine zz_newq (own := R_RM) hx hb hE.1.2.2.2.1 hE.2.1 (hE.1.2.2.2.2 _ zm_19) hE.2.2.2.1 3 rfl (n := 13) (by decide) (by decide) hsz (by decide) (by decide) d_RM_init_7 (fun H g1 hn1 => ?_)
  replace hO := zz_keepN hn1 hO
  replace hFr : ∀ a, a < o → H[a]? = s.heap[a]? := fun a h3 => (hn1.2 a (by omega)).trans (hFr a h3)
  replace hsz : H.size = o + 2 := by rw [hn1.1, hsz]
  clear hn1
  refine fp_RM_11 hE hnm hO hL (show riFr o o from Nat.le_refl _) (Nat.le_of_ble_eq_true rfl) d_RM_init_10 (fun H locs h2 hu hL => ?_)
  replace hO : va_at D zC (o, .inr (6, [.ref (o + 1), .int 0, .null, .int 0, .null, .null, .null])) H := h2
  replace g1 := zz_keep hu (show o + 1 ≠ o by omega) g1
  replace hFr : ∀ a, a < o → H[a]? = s.heap[a]? := fun a h3 => (hu.2 a (by omega)).trans (hFr a h3)
  replace hsz := hu.1.trans hsz
  clear h2 hu
  refine lv_aload_n hx hb d_RM_init_13 rfl (lv_at hl 0 rfl) ?_
  refine lv_bipush (v := nI 6) hx hb d_RM_init_14 (by decide) ?_
  refine zz_newq (own := R_RM) hx hb hE.1.2.2.2.1 hE.2.1 (hE.1.2.2.2.2 _ zm_21) hE.2.2.2.2 4 rfl (n := 6) (by decide) (by decide) hsz (by decide) (by decide) d_RM_init_16 (fun H g2 hn1 => ?_)
  replace hO := zz_keepN hn1 hO
  replace g1 := zz_keepN hn1 g1
  replace hFr : ∀ a, a < o → H[a]? = s.heap[a]? := fun a h3 => (hn1.2 a (by omega)).trans (hFr a h3)
  replace hsz : H.size = o + 3 := by rw [hn1.1, hsz]
  clear hn1
  refine fp_RM_17 hE hnm hO hL (show riFr o o from Nat.le_refl _) (Nat.le_of_ble_eq_true rfl) d_RM_init_19 (fun H locs h2 hu hL => ?_)
  replace hO : va_at D zC (o, .inr (6, [.ref (o + 1), .int 0, .ref (o + 2), .int 0, .null, .null, .null])) H := h2
  replace g1 := zz_keep hu (show o + 1 ≠ o by omega) g1
  replace g2 := zz_keep hu (show o + 2 ≠ o by omega) g2
  replace hFr : ∀ a, a < o → H[a]? = s.heap[a]? := fun a h3 => (hu.2 a (by omega)).trans (hFr a h3)
  replace hsz := hu.1.trans hsz
  clear h2 hu
  refine lv_aload_n hx hb d_RM_init_22 rfl (lv_at hl 0 rfl) ?_
  refine zz_new (own := R_RM) (C := R_Ru) (T := T_Ru) (N := 5) (ci := 5) hx hb hE.1.2.2.2.2 in_Ru ty_Ru tk_Ru hE.1.2.2.2.1 hE.2.1 (hE.1.2.2.2.2 _ zm_23) (hE.1.2.2.2.2 _ zm_24) (hE.1.2.2.2.2 _ zm_2) rfl [.null, .null, .null, .int 0, .int 0] (fun j hj => by rcases (show j = 0 ∨ j = 1 ∨ j = 2 ∨ j = 3 ∨ j = 4 by omega) with rfl | rfl | rfl | rfl | rfl <;> rfl) (h := o + 3) hsz (by decide) (by decide) d_RM_init_23 (fun H h1 hn1 => ?_)
  replace hO := zz_keepN hn1 hO
  replace g1 := zz_keepN hn1 g1
  replace g2 := zz_keepN hn1 g2
  replace hFr : ∀ a, a < o → H[a]? = s.heap[a]? := fun a h3 => (hn1.2 a (by omega)).trans (hFr a h3)
  replace hsz : H.size = o + 4 := by rw [hn1.1, hsz]
  clear hn1
  refine lv_dup hx hb d_RM_init_26 rfl ?_
  refine zz_callN (cl_RM_23 (rest := [.ref (o + 3), .ref o]) (As := []) hE (k_Ru_init l D ca (o + 3)) ⟨rfl, rfl, by decide, by decide⟩ ⟨h1, hsz⟩ rfl hl.1 rfl (Nat.le_of_ble_eq_true rfl) d_RM_init_27 ⟨by decide, by decide⟩) hL (fun a h9 => show o ≤ a by have := h9.1; omega) (fun H locs hpost hL => ?_)
  obtain ⟨hs9, hf9, hR⟩ := hpost
  replace hO := hO.kept (hf9 _ (by omega))
  replace g1 := g1.kept (hf9 _ (by omega))
  replace g2 := g2.kept (hf9 _ (by omega))
  replace hFr : ∀ a, a < o → H[a]? = s.heap[a]? := fun a h3 => (hf9 a (by omega)).trans (hFr a h3)
  replace hsz : H.size = o + 7 := hs9
  clear hs9 hf9 h1
  refine fp_RM_24 hE hnm hO hL (show riFr o o from Nat.le_refl _) (Nat.le_of_ble_eq_true rfl) d_RM_init_30 (fun H locs h2 hu hL => ?_)
  replace hO : va_at D zC (o, .inr (6, [.ref (o + 1), .int 0, .ref (o + 2), .int 0, .null, .ref (o + 3), .null])) H := h2
  replace g1 := zz_keep hu (show o + 1 ≠ o by omega) g1
  replace g2 := zz_keep hu (show o + 2 ≠ o by omega) g2
  replace hR := hR.kp (fun a h3 h4 => hu.2 a (by omega))
  replace hFr : ∀ a, a < o → H[a]? = s.heap[a]? := fun a h3 => (hu.2 a (by omega)).trans (hFr a h3)
  replace hsz := hu.1.trans hsz
  clear h2 hu
  refine lv_aload_n hx hb d_RM_init_33 rfl (lv_at hl 0 rfl) ?_
  refine lv_iconst (v := nI 2) hx hb d_RM_init_34 (by decide) ?_
  refine zz_newa (atype := .int) hx hb (hE.1.2.2.2.2 _ zm_47) hK.1 0 rfl rfl (n := 2) (by decide) (by decide) hsz (by decide) (by decide) d_RM_init_35 (fun H g7 hn1 => ?_)
  replace hO := zz_keepN hn1 hO
  replace g1 := zz_keepN hn1 g1
  replace g2 := zz_keepN hn1 g2
  replace hR := hR.kp (fun a h3 h4 => hn1.2 a (by omega))
  replace hFr : ∀ a, a < o → H[a]? = s.heap[a]? := fun a h3 => (hn1.2 a (by omega)).trans (hFr a h3)
  replace hsz : H.size = o + 8 := by rw [hn1.1, hsz]
  clear hn1
  refine fp_RM_28 hE hnm hO hL (show riFr o o from Nat.le_refl _) (Nat.le_of_ble_eq_true rfl) d_RM_init_37 (fun H locs h2 hu hL => ?_)
  replace hO : va_at D zC (o, .inr (6, [.ref (o + 1), .int 0, .ref (o + 2), .int 0, .null, .ref (o + 3), .ref (o + 7)])) H := h2
  replace g1 := zz_keep hu (show o + 1 ≠ o by omega) g1
  replace g2 := zz_keep hu (show o + 2 ≠ o by omega) g2
  replace g7 := zz_keep hu (show o + 7 ≠ o by omega) g7
  replace hR := hR.kp (fun a h3 h4 => hu.2 a (by omega))
  replace hFr : ∀ a, a < o → H[a]? = s.heap[a]? := fun a h3 => (hu.2 a (by omega)).trans (hFr a h3)
  replace hsz := hu.1.trans hsz
  clear h2 hu
  refine lv_iconst (v := nI 0) hx hb d_RM_init_40 (by decide) ?_
  refine lv_istore_n hx hb d_RM_init_41 rfl hl (by decide) rfl (fun ls hl => ?_)
  have hl : lv_has ls 2 [(1, .int (nI 0)), (0, .ref o)] := hl
  have hl : lv_has ls 2 [(0, .ref o), (1, .int (nI 0))] := lv_sub hl [1, 0] rfl
  have g1 := zq_cg (g := rEn o 0) g1 (fun j _ => by simp [rEn])
  refine zz_loopC (σ := Nat) (fun i ls H locs cells slots => lv_has ls 2 [(0, .ref o), (1, .int (nI i))] ∧ i ≤ 13 ∧ va_at D zC (o, .inr (6, [.ref (o + 1), .int 0, .ref (o + 2), .int 0, .null, .ref (o + 3), .ref (o + 7)])) H ∧ va_at D zC (o + 1, .inl (ca 3, 13, .inr (.inr (.inr (.inr (rEn o i)))))) H ∧ va_at D zC (o + 2, .inl (ca 4, 6, .inr (.inr (.inr (.inr (fun _ => none)))))) H ∧ va_at D zC (o + 7, .inl (ca 0, 2, .inl (fun _ => 0))) H ∧ RuAt D ca H (o + 3) 0 0 (fun _ _ => 0) ∧ (∀ k, k < i → EnAt D ca H (o + 8 + 5 * k) (fun _ _ => 0) (fun _ => 0) (fun _ => 0) (fun _ => false)) ∧ (∀ a, a < o → H[a]? = s.heap[a]?) ∧ H.size = o + 8 + 5 * i ∧ cells = 7 + 5 * i ∧ slots = 186 + 34 * i ∧ zz_L (riFr o) locs) (fun i => 13 - i) ?_ 0 ls _ _ _ _ ⟨hl, Nat.zero_le _, hO, g1, g2, g7, hR, (fun k hk => absurd hk (Nat.not_lt_zero _)), hFr, hsz, rfl, rfl, hL⟩
  rintro i ih ls H locs cells slots ⟨hl, hi, hO, g1, g2, g7, hR, hEn, hFr, hsz, hcl, hsl, hL⟩
  refine lv_iload_n hx hb d_RM_init_42 rfl (lv_at hl 1 rfl) ?_
  refine lv_aload_n hx hb d_RM_init_43 rfl (lv_at hl 0 rfl) ?_
  refine fg_RM_11 hE hO rfl d_RM_init_44 ?_
  refine zz_alen hx hb hK.1 g1 3 rfl d_RM_init_47 ?_
  refine zz_ge hx hb (by omega) (by omega) d_RM_init_48 (tgt := 70) rfl (fun hT48 => ?_) (fun hF48 => ?_)
  · obtain rfl : i = 13 := by omega
    obtain rfl : cells = 72 := by omega
    obtain rfl : slots = 628 := by omega
    have hM : RmAt D ca H o 0 0 none (fun _ => none) (fun _ => 0) := by
      refine ⟨by rw [nI_0]; exact hO, zq_cg g1 (fun j hj => by unfold rEn; rw [if_pos hj]), g2, zi_cg g7 (fun j _ => nI_0.symm)⟩
    have hA : EnAll D ca H o (fun _ _ _ => 0) (fun _ _ => 0) (fun _ _ => 0) (fun _ _ => false) := fun i hi => hEn i hi
    exact zz_vret hx hb hr hlk ⟨rfl, hsz, hFr, hM, hR, hA⟩ hL d_RM_init_70
  · refine lv_aload_n hx hb d_RM_init_51 rfl (lv_at hl 0 rfl) ?_
    refine fg_RM_11 hE hO rfl d_RM_init_52 ?_
    refine lv_iload_n hx hb d_RM_init_55 rfl (lv_at hl 1 rfl) ?_
    refine zz_new (own := R_RM) (C := R_En) (T := T_En) (N := 2) (ci := 1) hx hb hE.1.2.2.2.2 in_En ty_En tk_En hE.1.2.2.2.1 hE.2.1 (hE.1.2.2.2.2 _ zm_19) (hE.1.2.2.2.2 _ zm_49) (hE.1.2.2.2.2 _ zm_3) rfl [.null, .null] (fun j hj => by rcases (show j = 0 ∨ j = 1 by omega) with rfl | rfl <;> rfl) (h := o + 8 + 5 * i) hsz (show cells + 1 ≤ 72 by omega) (show slots + 2 ≤ 628 by omega) d_RM_init_56 (fun H h1 hn1 => ?_)
    replace hEn := fun k hk => (hEn k hk).kp (fun a h3 h4 => hn1.2 a (by omega))
    replace hO := zz_keepN hn1 hO
    replace g1 := zz_keepN hn1 g1
    replace g2 := zz_keepN hn1 g2
    replace g7 := zz_keepN hn1 g7
    replace hR := hR.kp (fun a h3 h4 => hn1.2 a (by omega))
    replace hFr : ∀ a, a < o → H[a]? = s.heap[a]? := fun a h3 => (hn1.2 a (by omega)).trans (hFr a h3)
    replace hsz : H.size = o + 8 + 5 * i + 1 := by rw [hn1.1, hsz]
    clear hn1
    refine lv_dup hx hb d_RM_init_59 rfl ?_
    refine zz_callN (cl_RM_32 (rest := [.ref (o + 8 + 5 * i), .int (nI i), .ref (o + 1)]) (As := []) hE (k_En_init l D ca (o + 8 + 5 * i)) ⟨rfl, rfl, by decide, by decide⟩ ⟨h1, hsz⟩ rfl hl.1 rfl (Nat.le_of_ble_eq_true rfl) d_RM_init_60 ⟨show cells + 1 + 4 ≤ 72 by omega, show slots + 2 + 32 ≤ 628 by omega⟩) hL (fun a h9 => show o ≤ a by have := h9.1; omega) (fun H locs hpost hL => ?_)
    obtain ⟨hs9, hf9, hX⟩ := hpost
    replace hO := hO.kept (hf9 _ (by omega))
    replace g1 := g1.kept (hf9 _ (by omega))
    replace g2 := g2.kept (hf9 _ (by omega))
    replace g7 := g7.kept (hf9 _ (by omega))
    replace hR := hR.kp (fun a h3 h4 => hf9 a (by omega))
    replace hEn := fun k hk => (hEn k hk).kp (fun a h3 h4 => hf9 a (by omega))
    replace hFr : ∀ a, a < o → H[a]? = s.heap[a]? := fun a h3 => (hf9 a (by omega)).trans (hFr a h3)
    replace hsz : H.size = o + 8 + 5 * i + 5 := hs9
    clear hs9 hf9 h1
    refine zz_aast hx hb hK.1 g1 hX.1 rfl hL (show riFr o (o + 1) by show o ≤ o + 1; omega) 3 rfl (en_asg hE) (i := i) (by omega) (by decide) d_RM_init_63 (fun H locs h2 hu hL => ?_)
    replace hO := zz_keep hu (show o ≠ o + 1 by omega) hO
    replace g1 := h2
    replace g2 := zz_keep hu (show o + 2 ≠ o + 1 by omega) g2
    replace g7 := zz_keep hu (show o + 7 ≠ o + 1 by omega) g7
    replace hR := hR.kp (fun a h3 h4 => hu.2 a (by omega))
    replace hEn := fun k hk => (hEn k hk).kp (fun a h3 h4 => hu.2 a (by omega))
    replace hX := hX.kp (fun a h3 h4 => hu.2 a (by omega))
    replace hFr : ∀ a, a < o → H[a]? = s.heap[a]? := fun a h3 => (hu.2 a (by omega)).trans (hFr a h3)
    replace hsz := hu.1.trans hsz
    clear h2 hu
    refine lv_iinc (k := 1) (v := nI (i + 1)) hx hb d_RM_init_64 hl rfl (zz_inc _) (by decide) rfl (fun ls hl => ?_)
    have hl : lv_has ls 2 [(1, .int (nI (i + 1))), (0, .ref o)] := hl
    refine lv_goto hx hb d_RM_init_67 (tgt := 42) rfl ?_
    have hl : lv_has ls 2 [(0, .ref o), (1, .int (nI (i + 1)))] := lv_sub hl [1, 0] rfl
    have g1 := zq_cg (g := rEn o (i + 1)) g1 (fun j _ => by
        by_cases h : j = i
        · subst h; rw [va_up_self]; simp [rEn]
        · rw [va_up_ne _ _ h]
          unfold rEn
          by_cases h2 : j < i
          · rw [if_pos h2, if_pos (by omega)]
          · rw [if_neg h2, if_neg (by omega)])
    have hEn9 : ∀ k, k < i + 1 → EnAt D ca H (o + 8 + 5 * k) (fun _ _ => 0) (fun _ => 0) (fun _ => 0) (fun _ => false) := fun k hk => by
      by_cases h : k = i
      · subst h; exact hX
      · exact hEn k (by omega)
    exact ih (i + 1) ls _ _ _ _ ⟨hl, by omega, hO, g1, g2, g7, hR, hEn9, hFr, by omega, by omega, by omega, hL⟩ (by omega)
