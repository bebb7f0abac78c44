def XB (E : Nat → Prop) (a b : Nat) (F : Nat → Nat → Nat) (N : Nat → Nat) (F2 : Nat → Nat → Nat) (N2 : Nat → Nat) : Prop := (∀ q, E q → ¬ (a ≤ q ∧ q ≤ a + 4) ∧ ¬ (b ≤ q ∧ q ≤ b + 4)) ∧ ∀ f, f ≤ 1 → N f ≤ 12 ∧ N2 f ≤ 12 ∧ (∀ j, j < 12 → F f j < 65536) ∧ ∀ j, j < 12 → F2 f j < 65536
def XMet (l : Launch) (D : va_G) (ca : Nat → ClassId) (E : Nat → Prop) (z a : Nat) (F : Nat → Nat → Nat) (N Y : Nat → Nat) (W0 : Nat → Bool) (b : Nat) (F2 : Nat → Nat → Nat) (N2 Y2 : Nat → Nat) (W2 : Nat → Bool) (d x : Nat) (ts : List Tok) : Prop := Met l y_Jo_holdsOf w_Jo_holdsOf (zr (5 + d) 0 0) (zz_P D ca [.ref x, .ref a, .ref b] (fun H => XJ D ca E z H d x ts ∧ EnAt D ca H a F N Y W0 ∧ EnAt D ca H b F2 N2 Y2 W2 ∧ Rows D ca E H)) (zz_Q (fun H H1 v => v = some (.int (nI (xV F N F2 N2 ts).toNat)) ∧ (zz_fr E H H1 ∧ Rows D ca E H1))) 0 0 E
section ZXC
variable {p : Program} {l : Launch} {e : Env} {R : Room} {s : State} {m : MethodId} {args : Array Value} {below : List Frame} {meth : Method} {c : Code} {H : Heap} {locs : List Loc} {cells slots : Nat} {Q : State → Prop}
variable {cc : ByteArray} {nL pc : Nat} {ls : Array Slot} {rest : List Value} {D : va_G} {ca : Nat → ClassId} {E Fr : Nat → Prop} {z a b d x : Nat} {F F2 : Nat → Nat → Nat} {N Y N2 Y2 : Nat → Nat} {W0 W2 : Nat → Bool} {ts : List Tok}
theorem xc_Jo_27 (hE : zz_E p m c cc nL s args R_Jo D ca) (IH : ∀ d', d = d' + 1 → ∀ x ts, XMet l D ca E z a F N Y W0 b F2 N2 Y2 W2 d' x ts) (hX : XAt D ca E z H d x ts) (hA : EnAt D ca H a F N Y W0) (hB : EnAt D ca H b F2 N2 Y2 W2) (hRw : Rows D ca E H) (hbd : XB E a b F N F2 N2) (hR : 5 + d ≤ R.frames ∧ 64 * (5 + d) ≤ R.locals) (hcs : cells ≤ R.cells ∧ slots ≤ R.slots) (hls : ls.size = nL) (hro : (rest.map fun v => v.category).sum ≤ 8) (hdg : decode cc pc = .ok (.invokevirtual 27, 3)) (hL : zz_L Fr locs) (hF : ∀ q, E q → Fr q)
    (kk : ∀ (H1 : Heap) (locs1 : List Loc), zz_fr E H H1 → Rows D ca E H1 → zz_L Fr locs1 → W p l e R s m args below meth c H1 locs1 cells slots Q (F0 m (pc + 3) ls (.int (nI (xV F N F2 N2 ts).toNat) :: rest))) : W p l e R s m args below meth c H locs cells slots Q (F0 m pc ls (.ref b :: .ref a :: .ref x :: rest)) := by
  cases d with
  | zero => exact hX.elim
  | succ d =>
    obtain ⟨hx, ⟨fl, nu, de, rfl, hb0, h⟩ | ⟨fl, mo, rfl, hb0, hx1, R1, h⟩ | h3⟩ := hX
    · obtain ⟨n1, n2, n3, n4⟩ := hbd.2 fl hb0.1
      refine zz_callP (cl_Jo_27_Ja (rest := rest) (As := [.ref a, .ref b]) hE (k_Ja_holdsOf l D ca x fl nu de hb0.1 hb0.2.1 hb0.2.2 a F N Y W0 b F2 N2 Y2 W2 n1 n2 n3 n4) ⟨rfl, rfl, by show 4 + 1 ≤ R.frames; omega, by show 8 + (7 + 11) + 64 * 4 ≤ R.locals; omega⟩ ⟨h, hA, hB⟩ h rfl hls rfl hro hdg ⟨hcs.1, hcs.2⟩) ?_
      exact kk H locs zz_fr.rf hRw hL
    · obtain ⟨n1, n2, n3, n4⟩ := hbd.2 fl hb0.1
      have g := hbd.1 _ hx1
      refine zz_callI (cl_Jo_27_Ed (rest := rest) (As := [.ref a, .ref b]) hE (k_Ed_holdsOf l D ca x fl mo R1 hb0.1 hb0.2 a F N Y W0 b F2 N2 Y2 W2 n1 n2 n3 n4 (by omega) (by omega) (by omega) (by omega)) ⟨rfl, rfl, by show 3 + 1 ≤ R.frames; omega, by show 8 + (3 + 11) + 64 * 3 ≤ R.locals; omega⟩ ⟨h, hA, hB⟩ h.1 rfl hls rfl hro hdg ⟨hcs.1, hcs.2⟩) hL (fun q hq => hF q (by have hq : q = x + 1 := hq; rw [hq]; exact hx1)) (fun H1 locs1 hpost hL1 => ?_)
      obtain ⟨hfr, B, hB1⟩ := hpost
      refine kk H1 locs1 (hfr.mono (fun q hq => by have hq : q = x + 1 := hq; rw [hq]; exact hx1)) (fun q hq => ?_) hL1
      by_cases hqx : q = x + 1
      · subst hqx; exact ⟨B, hB1.2⟩
      · obtain ⟨R2, hR2⟩ := hRw q hq
        exact ⟨R2, hR2.kept (hfr.2 q hqx)⟩
    · refine zz_callI (cl_Jo_27_Jo (rest := rest) (As := [.ref a, .ref b]) hE (IH d rfl x ts) ⟨rfl, rfl, by show 5 + d + 1 ≤ R.frames; omega, by show 8 + (3 + 11) + 64 * (5 + d) ≤ R.locals; omega⟩ ⟨⟨hx, h3⟩, hA, hB, hRw⟩ h3.choose_spec.choose_spec.choose_spec.choose_spec.choose_spec.2.1 rfl hls rfl hro hdg ⟨hcs.1, hcs.2⟩) hL hF (fun H1 locs1 hpost hL1 => ?_)
      exact kk H1 locs1 hpost.1 hpost.2 hL1
theorem xc_RM_109 (hE : zz_E p m c cc nL s args R_RM D ca) (IH : ∀ d', d = d' + 1 → ∀ x ts, XMet l D ca E z a F N Y W0 b F2 N2 Y2 W2 d' x ts) (hX : XAt D ca E z H d x ts) (hA : EnAt D ca H a F N Y W0) (hB : EnAt D ca H b F2 N2 Y2 W2) (hRw : Rows D ca E H) (hbd : XB E a b F N F2 N2) (hR : 5 + d ≤ R.frames ∧ 64 * (5 + d) ≤ R.locals) (hcs : cells ≤ R.cells ∧ slots ≤ R.slots) (hls : ls.size = nL) (hro : (rest.map fun v => v.category).sum ≤ 8) (hdg : decode cc pc = .ok (.invokevirtual 109, 3)) (hL : zz_L Fr locs) (hF : ∀ q, E q → Fr q)
    (kk : ∀ (H1 : Heap) (locs1 : List Loc), zz_fr E H H1 → Rows D ca E H1 → zz_L Fr locs1 → W p l e R s m args below meth c H1 locs1 cells slots Q (F0 m (pc + 3) ls (.int (nI (xV F N F2 N2 ts).toNat) :: rest))) : W p l e R s m args below meth c H locs cells slots Q (F0 m pc ls (.ref b :: .ref a :: .ref x :: rest)) := by
  cases d with
  | zero => exact hX.elim
  | succ d =>
    obtain ⟨hx, ⟨fl, nu, de, rfl, hb0, h⟩ | ⟨fl, mo, rfl, hb0, hx1, R1, h⟩ | h3⟩ := hX
    · obtain ⟨n1, n2, n3, n4⟩ := hbd.2 fl hb0.1
      refine zz_callP (cl_RM_109_Ja (rest := rest) (As := [.ref a, .ref b]) hE (k_Ja_holdsOf l D ca x fl nu de hb0.1 hb0.2.1 hb0.2.2 a F N Y W0 b F2 N2 Y2 W2 n1 n2 n3 n4) ⟨rfl, rfl, by show 4 + 1 ≤ R.frames; omega, by show 8 + (7 + 11) + 64 * 4 ≤ R.locals; omega⟩ ⟨h, hA, hB⟩ h rfl hls rfl hro hdg ⟨hcs.1, hcs.2⟩) ?_
      exact kk H locs zz_fr.rf hRw hL
    · obtain ⟨n1, n2, n3, n4⟩ := hbd.2 fl hb0.1
      have g := hbd.1 _ hx1
      refine zz_callI (cl_RM_109_Ed (rest := rest) (As := [.ref a, .ref b]) hE (k_Ed_holdsOf l D ca x fl mo R1 hb0.1 hb0.2 a F N Y W0 b F2 N2 Y2 W2 n1 n2 n3 n4 (by omega) (by omega) (by omega) (by omega)) ⟨rfl, rfl, by show 3 + 1 ≤ R.frames; omega, by show 8 + (3 + 11) + 64 * 3 ≤ R.locals; omega⟩ ⟨h, hA, hB⟩ h.1 rfl hls rfl hro hdg ⟨hcs.1, hcs.2⟩) hL (fun q hq => hF q (by have hq : q = x + 1 := hq; rw [hq]; exact hx1)) (fun H1 locs1 hpost hL1 => ?_)
      obtain ⟨hfr, B, hB1⟩ := hpost
      refine kk H1 locs1 (hfr.mono (fun q hq => by have hq : q = x + 1 := hq; rw [hq]; exact hx1)) (fun q hq => ?_) hL1
      by_cases hqx : q = x + 1
      · subst hqx; exact ⟨B, hB1.2⟩
      · obtain ⟨R2, hR2⟩ := hRw q hq
        exact ⟨R2, hR2.kept (hfr.2 q hqx)⟩
    · refine zz_callI (cl_RM_109_Jo (rest := rest) (As := [.ref a, .ref b]) hE (IH d rfl x ts) ⟨rfl, rfl, by show 5 + d + 1 ≤ R.frames; omega, by show 8 + (3 + 11) + 64 * (5 + d) ≤ R.locals; omega⟩ ⟨⟨hx, h3⟩, hA, hB, hRw⟩ h3.choose_spec.choose_spec.choose_spec.choose_spec.choose_spec.2.1 rfl hls rfl hro hdg ⟨hcs.1, hcs.2⟩) hL hF (fun H1 locs1 hpost hL1 => ?_)
      exact kk H1 locs1 hpost.1 hpost.2 hL1
end ZXC

set_option maxHeartbeats 4000000 in
set_option maxRecDepth 100000 in
theorem k_Jo_holdsOf_s (l : Launch) (D : va_G) (ca : Nat → ClassId) (E : Nat → Prop) (z : Nat) (a : Nat) (F : Nat → Nat → Nat) (N Y : Nat → Nat) (W0 : Nat → Bool) (b : Nat) (F2 : Nat → Nat → Nat) (N2 Y2 : Nat → Nat) (W2 : Nat → Bool) (hbd : XB E a b F N F2 N2) (d : Nat) (IH : ∀ d', d = d' + 1 → ∀ x ts, XMet l D ca E z a F N Y W0 b F2 N2 Y2 W2 d' x ts) (x : Nat) (ts : List Tok) : Met l y_Jo_holdsOf w_Jo_holdsOf (zr (5 + d) 0 0) (zz_P D ca [.ref x, .ref a, .ref b] (fun H => XJ D ca E z H d x ts ∧ EnAt D ca H a F N Y W0 ∧ EnAt D ca H b F2 N2 Y2 W2 ∧ Rows D ca E H)) (zz_Q (fun H H1 v => v = some (.int (nI (xV F N F2 N2 ts).toNat)) ∧ (zz_fr E H H1 ∧ Rows D ca E H1))) 0 0 E := by
  refine zz_met (cc := c_Jo_holdsOf) (by decide) (Nat.le_of_ble_eq_true rfl) ?_
  intro p e s m below meth c ls hE hr hlk hnm ⟨⟨hxE, all, lo, up, t1, t2, hts, hJ, h1, h2⟩, hA, hB, hRw⟩ hl
  have hx := hE.1.1
  have hb := hE.1.2.1
  have hK := hE.2
  have hl : lv_has ls 3 [(0, .ref x), (1, .ref a), (2, .ref b)] := hl
  have hL : zz_L E ([] : List Loc) := zz_L.nil
  subst hts
  have hS : zz_fr E s.heap s.heap := zz_fr.rf
  have hj := xV_join (all := all) (F := F) (N := N) (F2 := F2) (N2 := N2) h1 h2
  refine lv_aload_n hx hb d_Jo_holdsOf_0 rfl (lv_at hl 0 rfl) ?_
  refine fg_Jo_15 hE hJ rfl d_Jo_holdsOf_1 ?_
  refine zz_eqB hx hb d_Jo_holdsOf_4 (tgt := 39) rfl (fun hT4 => ?_) (fun hF4 => ?_)
  · refine lv_aload_n hx hb d_Jo_holdsOf_39 rfl (lv_at hl 0 rfl) ?_
    refine fg_Jo_20 hE hJ rfl d_Jo_holdsOf_40 ?_
    refine lv_aload_n hx hb d_Jo_holdsOf_43 rfl (lv_at hl 1 rfl) ?_
    refine lv_aload_n hx hb d_Jo_holdsOf_44 rfl (lv_at hl 2 rfl) ?_
    refine xc_Jo_27 hE IH h1 hA hB hRw hbd ⟨Nat.le_refl _, Nat.le_refl _⟩ ⟨Nat.le_refl _, Nat.le_refl _⟩ hl.1 (Nat.le_of_ble_eq_true rfl) d_Jo_holdsOf_45 hL (fun _ h => h) (fun H locs hfr hRw hL => ?_)
    have hS := hS.tr hfr
    have h1 := XAt.kp (fun q _ _ hq => hfr.2 q hq) hRw h1
    have h2 := XAt.kp (fun q _ _ hq => hfr.2 q hq) hRw h2
    have hJ := hJ.kept (hfr.2 x hxE.2)
    have hA := hA.kp (fun q z1 z2 => hfr.2 q (fun zz => (hbd.1 q zz).1 ⟨z1, z2⟩))
    have hB := hB.kp (fun q z1 z2 => hfr.2 q (fun zz => (hbd.1 q zz).2 ⟨z1, z2⟩))
    refine zz_neB hx hb d_Jo_holdsOf_48 (tgt := 63) rfl (fun hT48 => ?_) (fun hF48 => ?_)
    · refine lv_iconst (v := nI 1) hx hb d_Jo_holdsOf_63 (by decide) ?_
      refine lv_goto hx hb d_Jo_holdsOf_64 (tgt := 68) rfl ?_
      have hval : xV F N F2 N2 (t1 ++ t2 ++ [(if all = true then 2 else 3, 0, 0, 0)]) = true := by rw [hj]; simp [hT4, hT48]
      exact zz_iret hx hb hr hlk rfl ⟨by rw [hval]; rfl, hS, hRw⟩ hL d_Jo_holdsOf_68
    · refine lv_aload_n hx hb d_Jo_holdsOf_51 rfl (lv_at hl 0 rfl) ?_
      refine fg_Jo_24 hE hJ rfl d_Jo_holdsOf_52 ?_
      refine lv_aload_n hx hb d_Jo_holdsOf_55 rfl (lv_at hl 1 rfl) ?_
      refine lv_aload_n hx hb d_Jo_holdsOf_56 rfl (lv_at hl 2 rfl) ?_
      refine xc_Jo_27 hE IH h2 hA hB hRw hbd ⟨Nat.le_refl _, Nat.le_refl _⟩ ⟨Nat.le_refl _, Nat.le_refl _⟩ hl.1 (Nat.le_of_ble_eq_true rfl) d_Jo_holdsOf_57 hL (fun _ h => h) (fun H locs hfr hRw hL => ?_)
      have hS := hS.tr hfr
      have h1 := XAt.kp (fun q _ _ hq => hfr.2 q hq) hRw h1
      have h2 := XAt.kp (fun q _ _ hq => hfr.2 q hq) hRw h2
      have hJ := hJ.kept (hfr.2 x hxE.2)
      have hA := hA.kp (fun q z1 z2 => hfr.2 q (fun zz => (hbd.1 q zz).1 ⟨z1, z2⟩))
      have hB := hB.kp (fun q z1 z2 => hfr.2 q (fun zz => (hbd.1 q zz).2 ⟨z1, z2⟩))
      refine zz_eqB hx hb d_Jo_holdsOf_60 (tgt := 67) rfl (fun hT60 => ?_) (fun hF60 => ?_)
      · refine lv_iconst (v := nI 0) hx hb d_Jo_holdsOf_67 (by decide) ?_
        have hval : xV F N F2 N2 (t1 ++ t2 ++ [(if all = true then 2 else 3, 0, 0, 0)]) = false := by rw [hj]; simp [hT4, hF48, hT60]
        exact zz_iret hx hb hr hlk rfl ⟨by rw [hval]; rfl, hS, hRw⟩ hL d_Jo_holdsOf_68
      · refine lv_iconst (v := nI 1) hx hb d_Jo_holdsOf_63 (by decide) ?_
        refine lv_goto hx hb d_Jo_holdsOf_64 (tgt := 68) rfl ?_
        have hval : xV F N F2 N2 (t1 ++ t2 ++ [(if all = true then 2 else 3, 0, 0, 0)]) = true := by rw [hj]; simp [hT4, hF48, hF60]
        exact zz_iret hx hb hr hlk rfl ⟨by rw [hval]; rfl, hS, hRw⟩ hL d_Jo_holdsOf_68
  · refine lv_aload_n hx hb d_Jo_holdsOf_7 rfl (lv_at hl 0 rfl) ?_
    refine fg_Jo_20 hE hJ rfl d_Jo_holdsOf_8 ?_
    refine lv_aload_n hx hb d_Jo_holdsOf_11 rfl (lv_at hl 1 rfl) ?_
    refine lv_aload_n hx hb d_Jo_holdsOf_12 rfl (lv_at hl 2 rfl) ?_
    refine xc_Jo_27 hE IH h1 hA hB hRw hbd ⟨Nat.le_refl _, Nat.le_refl _⟩ ⟨Nat.le_refl _, Nat.le_refl _⟩ hl.1 (Nat.le_of_ble_eq_true rfl) d_Jo_holdsOf_13 hL (fun _ h => h) (fun H locs hfr hRw hL => ?_)
    have hS := hS.tr hfr
    have h1 := XAt.kp (fun q _ _ hq => hfr.2 q hq) hRw h1
    have h2 := XAt.kp (fun q _ _ hq => hfr.2 q hq) hRw h2
    have hJ := hJ.kept (hfr.2 x hxE.2)
    have hA := hA.kp (fun q z1 z2 => hfr.2 q (fun zz => (hbd.1 q zz).1 ⟨z1, z2⟩))
    have hB := hB.kp (fun q z1 z2 => hfr.2 q (fun zz => (hbd.1 q zz).2 ⟨z1, z2⟩))
    refine zz_eqB hx hb d_Jo_holdsOf_16 (tgt := 35) rfl (fun hT16 => ?_) (fun hF16 => ?_)
    · refine lv_iconst (v := nI 0) hx hb d_Jo_holdsOf_35 (by decide) ?_
      refine lv_goto hx hb d_Jo_holdsOf_36 (tgt := 68) rfl ?_
      have hval : xV F N F2 N2 (t1 ++ t2 ++ [(if all = true then 2 else 3, 0, 0, 0)]) = false := by rw [hj]; simp [hF4, hT16]
      exact zz_iret hx hb hr hlk rfl ⟨by rw [hval]; rfl, hS, hRw⟩ hL d_Jo_holdsOf_68
    · refine lv_aload_n hx hb d_Jo_holdsOf_19 rfl (lv_at hl 0 rfl) ?_
      refine fg_Jo_24 hE hJ rfl d_Jo_holdsOf_20 ?_
      refine lv_aload_n hx hb d_Jo_holdsOf_23 rfl (lv_at hl 1 rfl) ?_
      refine lv_aload_n hx hb d_Jo_holdsOf_24 rfl (lv_at hl 2 rfl) ?_
      refine xc_Jo_27 hE IH h2 hA hB hRw hbd ⟨Nat.le_refl _, Nat.le_refl _⟩ ⟨Nat.le_refl _, Nat.le_refl _⟩ hl.1 (Nat.le_of_ble_eq_true rfl) d_Jo_holdsOf_25 hL (fun _ h => h) (fun H locs hfr hRw hL => ?_)
      have hS := hS.tr hfr
      have h1 := XAt.kp (fun q _ _ hq => hfr.2 q hq) hRw h1
      have h2 := XAt.kp (fun q _ _ hq => hfr.2 q hq) hRw h2
      have hJ := hJ.kept (hfr.2 x hxE.2)
      have hA := hA.kp (fun q z1 z2 => hfr.2 q (fun zz => (hbd.1 q zz).1 ⟨z1, z2⟩))
      have hB := hB.kp (fun q z1 z2 => hfr.2 q (fun zz => (hbd.1 q zz).2 ⟨z1, z2⟩))
      refine zz_eqB hx hb d_Jo_holdsOf_28 (tgt := 35) rfl (fun hT28 => ?_) (fun hF28 => ?_)
      · refine lv_iconst (v := nI 0) hx hb d_Jo_holdsOf_35 (by decide) ?_
        refine lv_goto hx hb d_Jo_holdsOf_36 (tgt := 68) rfl ?_
        have hval : xV F N F2 N2 (t1 ++ t2 ++ [(if all = true then 2 else 3, 0, 0, 0)]) = false := by rw [hj]; simp [hF4, hF16, hT28]
        exact zz_iret hx hb hr hlk rfl ⟨by rw [hval]; rfl, hS, hRw⟩ hL d_Jo_holdsOf_68
      · refine lv_iconst (v := nI 1) hx hb d_Jo_holdsOf_31 (by decide) ?_
        refine lv_goto hx hb d_Jo_holdsOf_32 (tgt := 68) rfl ?_
        have hval : xV F N F2 N2 (t1 ++ t2 ++ [(if all = true then 2 else 3, 0, 0, 0)]) = true := by rw [hj]; simp [hF4, hF16, hF28]
        exact zz_iret hx hb hr hlk rfl ⟨by rw [hval]; rfl, hS, hRw⟩ hL d_Jo_holdsOf_68

theorem k_Jo_holdsOf (l : Launch) (D : va_G) (ca : Nat → ClassId) (E : Nat → Prop) (z : Nat) (a : Nat) (F : Nat → Nat → Nat) (N Y : Nat → Nat) (W0 : Nat → Bool) (b : Nat) (F2 : Nat → Nat → Nat) (N2 Y2 : Nat → Nat) (W2 : Nat → Bool) (hbd : XB E a b F N F2 N2) : ∀ d x ts, XMet l D ca E z a F N Y W0 b F2 N2 Y2 W2 d x ts
  | 0, x, ts => k_Jo_holdsOf_s l D ca E z a F N Y W0 b F2 N2 Y2 W2 hbd 0 (fun d' h => by omega) x ts
  | d + 1, x, ts => k_Jo_holdsOf_s l D ca E z a F N Y W0 b F2 N2 Y2 W2 hbd (d + 1) (fun d' h => by
      have e : d' = d := by omega
      subst e
      exact fun x ts => k_Jo_holdsOf l D ca E z a F N Y W0 b F2 N2 Y2 W2 hbd d' x ts) x ts
