def rF (A : Nat → Nat → Nat) (a b : Nat) : Bool := if a < b then rNt A a b else rNt A b a
/-- names that fall together -/
def rUn (L : Nat → Nat) (x y : Nat) (a : Nat) : Nat := if L a = max x y then min x y else L a
theorem rPl_un {n : Nat} {F : Nat → Nat → Bool} {L : Nat → Nat} {q r : Nat} (h : mPl n F L) (hq : q < n) (hr : r < n) (hf : F q r = true) : mPl n F (rUn L (L q) (L r)) := by
  intro a ha
  obtain ⟨h1, h2⟩ := h a ha
  unfold rUn
  by_cases hg : L a = max (L q) (L r)
  · rw [if_pos hg]
    refine ⟨by omega, fun g hg2 => ?_⟩
    have e1 := (h q hq).2 g hg2
    have e2 := (h r hr).2 g hg2
    have e3 := hg2 q r hq hr hf
    have e4 := h2 g hg2
    rcases Nat.le_total (L q) (L r) with hle | hle
    · rw [Nat.max_eq_right hle] at hg
      rw [Nat.min_eq_left hle, ← e4, hg, e1, e2, e3]
    · rw [Nat.max_eq_left hle] at hg
      rw [Nat.min_eq_right hle, ← e4, hg, e1, e2, e3]
  · rw [if_neg hg]
    exact ⟨h1, h2⟩
theorem rUn_eq {L : Nat → Nat} {q r : Nat} : rUn L (L q) (L r) q = rUn L (L q) (L r) r := by
  unfold rUn
  rcases Nat.le_total (L q) (L r) with hle | hle
  · rw [Nat.max_eq_right hle, Nat.min_eq_left hle, if_pos rfl]
    split <;> omega
  · rw [Nat.max_eq_left hle, Nat.min_eq_right hle, if_pos rfl]
    split <;> omega
theorem rUn_c {L : Nat → Nat} {x y a b : Nat} (h : L a = L b) : rUn L x y a = rUn L x y b := by
  unfold rUn
  rw [h]
theorem mPl_congr {n : Nat} {F : Nat → Nat → Bool} {L M : Nat → Nat} (h : mPl n F L) (e : ∀ a, a < n → M a = L a) : mPl n F M := fun a ha => by rw [e a ha]; exact h a ha

set_option maxHeartbeats 4000000 in
set_option maxRecDepth 100000 in
theorem k_Ru_begin (l : Launch) (D : va_G) (ca : Nat → ClassId) (u tk wk : Nat) (A : Nat → Nat → Nat) (w0 t0 : Nat) : Met l y_Ru_begin w_Ru_begin (zr 0 0 0) (zz_P D ca [.ref u, .int (nI w0), .int (nI t0)] (fun H => RuAt D ca H u tk wk A)) (zz_Q (fun H H1 v => v = none ∧ zz_fr (ruFr u) H H1 ∧ ∃ B, RuAt D ca H1 u t0 w0 B ∧ (∀ v, v < 4 → B 1 v = 0) ∧ (∀ j, j < 144 → B 2 j = 0) ∧ B 3 = A 3)) 0 0 (ruFr u) := by
  refine zz_met (cc := c_Ru_begin) (by decide) (Nat.le_of_ble_eq_true rfl) ?_
  intro p e s m below meth c ls hE hr hlk hnm hM hl
  have hx := hE.1.1
  have hb := hE.1.2.1
  have hK := hE.2
  have hl : lv_has ls 4 [(0, .ref u), (1, .int (nI w0)), (2, .int (nI t0))] := hl
  have hL : zz_L (ruFr u) ([] : List Loc) := zz_L.nil
  have hS : zz_fr (ruFr u) s.heap s.heap := zz_fr.rf
  refine lv_aload_n hx hb d_Ru_begin_0 rfl (lv_at hl 0 rfl) ?_
  refine lv_iload_n hx hb d_Ru_begin_1 rfl (lv_at hl 1 rfl) ?_
  refine fp_Ru_22 hE hM.1 hL (show ruFr u u from ⟨by omega, by omega⟩) (Nat.le_of_ble_eq_true rfl) d_Ru_begin_2 (fun H locs h1 hu hL => ?_)
  have hS := hS.up hu (show ruFr u u from ⟨by omega, by omega⟩)
  have hM : RuAt D ca H u tk w0 A := ru_fld hM h1 hu
  refine lv_aload_n hx hb d_Ru_begin_5 rfl (lv_at hl 0 rfl) ?_
  refine lv_iload_n hx hb d_Ru_begin_6 rfl (lv_at hl 2 rfl) ?_
  refine fp_Ru_26 hE hM.1 hL (show ruFr u u from ⟨by omega, by omega⟩) (Nat.le_of_ble_eq_true rfl) d_Ru_begin_7 (fun H locs h1 hu hL => ?_)
  have hS := hS.up hu (show ruFr u u from ⟨by omega, by omega⟩)
  have hM : RuAt D ca H u t0 w0 A := ru_fld hM h1 hu
  refine lv_iconst (v := nI 0) hx hb d_Ru_begin_10 (by decide) ?_
  refine lv_istore_n hx hb d_Ru_begin_11 rfl hl (by decide) rfl (fun ls hl => ?_)
  have hl : lv_has ls 4 [(3, .int (nI 0)), (0, .ref u), (1, .int (nI w0)), (2, .int (nI t0))] := hl
  have hl : lv_has ls 4 [(0, .ref u), (1, .int (nI w0)), (2, .int (nI t0)), (3, .int (nI 0))] := lv_sub hl [1, 2, 3, 0] rfl
  refine zz_loopH (σ := Nat × (Nat → Nat → Nat)) (fun ⟨i, B⟩ ls H locs => lv_has ls 4 [(0, .ref u), (1, .int (nI w0)), (2, .int (nI t0)), (3, .int (nI i))] ∧ i ≤ 4 ∧ RuAt D ca H u t0 w0 B ∧ (∀ v, v < i → B 1 v = 0) ∧ B 3 = A 3 ∧ zz_fr (ruFr u) s.heap H ∧ zz_L (ruFr u) locs) (fun ⟨i, B⟩ => 4 - i) ?_ (0, A) ls _ _ ⟨hl, Nat.zero_le _, hM, fun v h => absurd h (Nat.not_lt_zero _), rfl, hS, hL⟩
  rintro ⟨i, B⟩ ih ls H locs ⟨hl, hi, hM, h0, h3, hS, hL⟩
  refine lv_iload_n hx hb d_Ru_begin_12 rfl (lv_at hl 3 rfl) ?_
  refine lv_aload_n hx hb d_Ru_begin_13 rfl (lv_at hl 0 rfl) ?_
  refine fg_Ru_9 hE hM.1 rfl d_Ru_begin_14 ?_
  refine zz_alen hx hb hK.1 (hM.2 1 (by decide) (by decide)) 0 rfl d_Ru_begin_17 ?_
  refine zz_top (y := nI 4) rfl ?_
  refine zz_ge hx hb (by omega) (by omega) d_Ru_begin_18 (tgt := 34) rfl (fun hT18 => ?_) (fun hF18 => ?_)
  · refine lv_iconst (v := nI 0) hx hb d_Ru_begin_34 (by decide) ?_
    refine lv_istore_n hx hb d_Ru_begin_35 rfl hl (by decide) rfl (fun ls hl => ?_)
    have hl : lv_has ls 4 [(3, .int (nI 0)), (0, .ref u), (1, .int (nI w0)), (2, .int (nI t0))] := hl
    have hl : lv_has ls 4 [(0, .ref u), (1, .int (nI w0)), (2, .int (nI t0)), (3, .int (nI 0))] := lv_sub hl [1, 2, 3, 0] rfl
    refine zz_loopH (σ := Nat × (Nat → Nat → Nat)) (fun ⟨i2, B⟩ ls H locs => lv_has ls 4 [(0, .ref u), (1, .int (nI w0)), (2, .int (nI t0)), (3, .int (nI i2))] ∧ i2 ≤ 144 ∧ RuAt D ca H u t0 w0 B ∧ (∀ v, v < 4 → B 1 v = 0) ∧ (∀ j, j < i2 → B 2 j = 0) ∧ B 3 = A 3 ∧ zz_fr (ruFr u) s.heap H ∧ zz_L (ruFr u) locs) (fun ⟨i2, B⟩ => 144 - i2) ?_ (0, B) ls _ _ ⟨hl, Nat.zero_le _, hM, fun v hv => h0 v (by omega), fun v h => absurd h (Nat.not_lt_zero _), h3, hS, hL⟩
    rintro ⟨i2, B⟩ ih ls H locs ⟨hl, hi2, hM, h0, hz, h3, hS, hL⟩
    refine lv_iload_n hx hb d_Ru_begin_36 rfl (lv_at hl 3 rfl) ?_
    refine lv_aload_n hx hb d_Ru_begin_37 rfl (lv_at hl 0 rfl) ?_
    refine fg_Ru_15 hE hM.1 rfl d_Ru_begin_38 ?_
    refine zz_alen hx hb hK.1 (hM.2 2 (by decide) (by decide)) 2 rfl d_Ru_begin_41 ?_
    refine zz_top (y := nI 144) rfl ?_
    refine zz_ge hx hb (by omega) (by omega) d_Ru_begin_42 (tgt := 58) rfl (fun hT42 => ?_) (fun hF42 => ?_)
    · exact zz_vret hx hb hr hlk ⟨rfl, hS, B, hM, h0, fun j hj => hz j (by omega), h3⟩ hL d_Ru_begin_58
    · refine lv_aload_n hx hb d_Ru_begin_45 rfl (lv_at hl 0 rfl) ?_
      refine fg_Ru_15 hE hM.1 rfl d_Ru_begin_46 ?_
      refine lv_iload_n hx hb d_Ru_begin_49 rfl (lv_at hl 3 rfl) ?_
      refine lv_iconst (v := nI 0) hx hb d_Ru_begin_50 (by decide) ?_
      refine ru_stz hE hM hS hL (i := i2) (b := false) (by omega) d_Ru_begin_51 (fun H locs hM hS hL => ?_)
      refine lv_iinc (k := 3) (v := nI (i2 + 1)) hx hb d_Ru_begin_52 hl rfl (zz_inc _) (by decide) rfl (fun ls hl => ?_)
      have hl : lv_has ls 4 [(3, .int (nI (i2 + 1))), (0, .ref u), (1, .int (nI w0)), (2, .int (nI t0))] := hl
      refine lv_goto hx hb d_Ru_begin_55 (tgt := 36) rfl ?_
      have hl : lv_has ls 4 [(0, .ref u), (1, .int (nI w0)), (2, .int (nI t0)), (3, .int (nI (i2 + 1)))] := lv_sub hl [1, 2, 3, 0] rfl
      exact ih (i2 + 1, (up2 B 2 i2 false.toNat)) ls _ _ ⟨hl, by omega, hM, by rw [up2_f (by decide)]; exact h0, (fun v hv => by
          by_cases hvi : v = i2
          · subst hvi; exact up2_s
          · rw [up2_i hvi]; exact hz v (by omega)), by rw [up2_f (by decide)]; exact h3, hS, hL⟩ (by show 144 - (i2 + 1) < 144 - i2; omega)
  · refine lv_aload_n hx hb d_Ru_begin_21 rfl (lv_at hl 0 rfl) ?_
    refine fg_Ru_9 hE hM.1 rfl d_Ru_begin_22 ?_
    refine lv_iload_n hx hb d_Ru_begin_25 rfl (lv_at hl 3 rfl) ?_
    refine lv_iconst (v := nI 0) hx hb d_Ru_begin_26 (by decide) ?_
    refine ru_st hE hM hS hL 1 (by decide) (i := i) (x := 0) (show i < 4 by omega) d_Ru_begin_27 (fun H locs hM hS hL => ?_)
    refine lv_iinc (k := 3) (v := nI (i + 1)) hx hb d_Ru_begin_28 hl rfl (zz_inc _) (by decide) rfl (fun ls hl => ?_)
    have hl : lv_has ls 4 [(3, .int (nI (i + 1))), (0, .ref u), (1, .int (nI w0)), (2, .int (nI t0))] := hl
    refine lv_goto hx hb d_Ru_begin_31 (tgt := 12) rfl ?_
    have hl : lv_has ls 4 [(0, .ref u), (1, .int (nI w0)), (2, .int (nI t0)), (3, .int (nI (i + 1)))] := lv_sub hl [1, 2, 3, 0] rfl
    exact ih (i + 1, (up2 B 1 i 0)) ls _ _ ⟨hl, by omega, hM, (fun v hv => by
        by_cases hvi : v = i
        · subst hvi; exact up2_s
        · rw [up2_i hvi]; exact h0 v (by omega)), by rw [up2_f (by decide)]; exact h3, hS, hL⟩ (by show 4 - (i + 1) < 4 - i; omega)

set_option maxHeartbeats 4000000 in
set_option maxRecDepth 100000 in
theorem k_Ru_forgetPairsOf (l : Launch) (D : va_G) (ca : Nat → ClassId) (u tk wk : Nat) (A : Nat → Nat → Nat) (t0 : Nat) (ht : t0 < 12) : Met l y_Ru_forgetPairsOf w_Ru_forgetPairsOf (zr 1 0 0) (zz_P D ca [.ref u, .int (nI t0)] (fun H => RuAt D ca H u tk wk A)) (zz_Q (fun H H1 v => v = none ∧ zz_fr (ruFr u) H H1 ∧ ∃ B, RuAt D ca H1 u tk wk B ∧ (∀ j, (t0 * 12 ≤ j ∧ j < t0 * 12 + t0) → B 2 j = 0) ∧ (∀ j, ¬ (t0 * 12 ≤ j ∧ j < t0 * 12 + t0) → B 2 j = A 2 j) ∧ B 1 = A 1 ∧ B 3 = A 3)) 0 0 (ruFr u) := by
  refine zz_met (cc := c_Ru_forgetPairsOf) (by decide) (Nat.le_of_ble_eq_true rfl) ?_
  intro p e s m below meth c ls hE hr hlk hnm hM hl
  have hx := hE.1.1
  have hb := hE.1.2.1
  have hK := hE.2
  have hl : lv_has ls 3 [(0, .ref u), (1, .int (nI t0))] := hl
  have hL : zz_L (ruFr u) ([] : List Loc) := zz_L.nil
  have hS : zz_fr (ruFr u) s.heap s.heap := zz_fr.rf
  refine lv_iconst (v := nI 0) hx hb d_Ru_forgetPairsOf_0 (by decide) ?_
  refine lv_istore_n hx hb d_Ru_forgetPairsOf_1 rfl hl (by decide) rfl (fun ls hl => ?_)
  have hl : lv_has ls 3 [(2, .int (nI 0)), (0, .ref u), (1, .int (nI t0))] := hl
  have hl : lv_has ls 3 [(0, .ref u), (1, .int (nI t0)), (2, .int (nI 0))] := lv_sub hl [1, 2, 0] rfl
  refine zz_loopH (σ := Nat × (Nat → Nat → Nat)) (fun ⟨q, B⟩ ls H locs => lv_has ls 3 [(0, .ref u), (1, .int (nI t0)), (2, .int (nI q))] ∧ q ≤ t0 ∧ RuAt D ca H u tk wk B ∧ ((∀ j, (t0 * 12 ≤ j ∧ j < t0 * 12 + q) → B 2 j = 0) ∧ (∀ j, ¬ (t0 * 12 ≤ j ∧ j < t0 * 12 + q) → B 2 j = A 2 j) ∧ B 1 = A 1 ∧ B 3 = A 3) ∧ zz_fr (ruFr u) s.heap H ∧ zz_L (ruFr u) locs) (fun ⟨q, B⟩ => t0 - q) ?_ (0, A) ls _ _ ⟨hl, Nat.zero_le _, hM, ⟨fun j hj => by omega, fun _ _ => rfl, rfl, rfl⟩, hS, hL⟩
  rintro ⟨q, B⟩ ih ls H locs ⟨hl, hq, hM, hz, hS, hL⟩
  refine lv_iload_n hx hb d_Ru_forgetPairsOf_2 rfl (lv_at hl 2 rfl) ?_
  refine lv_iload_n hx hb d_Ru_forgetPairsOf_3 rfl (lv_at hl 1 rfl) ?_
  refine zz_ge hx hb (by omega) (by omega) d_Ru_forgetPairsOf_4 (tgt := 24) rfl (fun hT4 => ?_) (fun hF4 => ?_)
  · have hqt : q = t0 := by omega
    rw [hqt] at hz
    exact zz_vret hx hb hr hlk ⟨rfl, hS, B, hM, hz⟩ hL d_Ru_forgetPairsOf_24
  · refine lv_aload_n hx hb d_Ru_forgetPairsOf_7 rfl (lv_at hl 0 rfl) ?_
    refine fg_Ru_15 hE hM.1 rfl d_Ru_forgetPairsOf_8 ?_
    refine lv_iload_n hx hb d_Ru_forgetPairsOf_11 rfl (lv_at hl 2 rfl) ?_
    refine lv_iload_n hx hb d_Ru_forgetPairsOf_12 rfl (lv_at hl 1 rfl) ?_
    refine zz_callP (cl_Ru_37 (rest := [.ref (u + 2)]) hE (k_Ru_placeOf l D ca q t0) ⟨rfl, rfl, by decide, by decide⟩ trivial rfl hl.1 rfl (Nat.le_of_ble_eq_true rfl) d_Ru_forgetPairsOf_13 ⟨by decide, by decide⟩) ?_
    refine lv_iconst (v := nI 0) hx hb d_Ru_forgetPairsOf_16 (by decide) ?_
    refine ru_stz hE hM hS hL (i := t0 * 12 + q) (b := false) (by omega) d_Ru_forgetPairsOf_17 (fun H locs hM hS hL => ?_)
    refine lv_iinc (k := 2) (v := nI (q + 1)) hx hb d_Ru_forgetPairsOf_18 hl rfl (zz_inc _) (by decide) rfl (fun ls hl => ?_)
    have hl : lv_has ls 3 [(2, .int (nI (q + 1))), (0, .ref u), (1, .int (nI t0))] := hl
    refine lv_goto hx hb d_Ru_forgetPairsOf_21 (tgt := 2) rfl ?_
    have hz9 : (∀ j, (t0 * 12 ≤ j ∧ j < t0 * 12 + (q + 1)) → (up2 B 2 (t0 * 12 + q) false.toNat) 2 j = 0) ∧ (∀ j, ¬ (t0 * 12 ≤ j ∧ j < t0 * 12 + (q + 1)) → (up2 B 2 (t0 * 12 + q) false.toNat) 2 j = A 2 j) ∧ (up2 B 2 (t0 * 12 + q) false.toNat) 1 = A 1 ∧ (up2 B 2 (t0 * 12 + q) false.toNat) 3 = A 3 := by
      refine ⟨fun j hj => ?_, fun j hj => ?_, by rw [up2_f (by decide)]; exact hz.2.2.1, by rw [up2_f (by decide)]; exact hz.2.2.2⟩
      · by_cases hjq : j = t0 * 12 + q
        · subst hjq; exact up2_s
        · rw [up2_i hjq]; exact hz.1 j (by omega)
      · rw [up2_i (by omega)]; exact hz.2.1 j (by omega)
    have hl : lv_has ls 3 [(0, .ref u), (1, .int (nI t0)), (2, .int (nI (q + 1)))] := lv_sub hl [1, 2, 0] rfl
    exact ih (q + 1, (up2 B 2 (t0 * 12 + q) false.toNat)) ls _ _ ⟨hl, by omega, hM, hz9, hS, hL⟩ (by show t0 - (q + 1) < t0 - q; omega)

set_option maxHeartbeats 4000000 in
set_option maxRecDepth 100000 in
theorem k_Ru_countPairs (l : Launch) (D : va_G) (ca : Nat → ClassId) (u tk wk : Nat) (A : Nat → Nat → Nat) (htk : tk ≤ 12) (hnb : ∀ j, j < 144 → A 2 j ≤ 1) : Met l y_Ru_countPairs w_Ru_countPairs (zr 2 0 0) (zz_P D ca [.ref u] (fun H => RuAt D ca H u tk wk A)) (zz_Q (fun H H1 v => H1 = H ∧ v = some (.int (nI (zpairs (rNt A) tk))))) 0 0 (fun _ => False) := by
  refine zz_met (cc := c_Ru_countPairs) (by decide) (Nat.le_of_ble_eq_true rfl) ?_
  intro p e s m below meth c ls hE hr hlk hnm hM hl
  have hx := hE.1.1
  have hb := hE.1.2.1
  have hK := hE.2
  have hl : lv_has ls 4 [(0, .ref u)] := hl
  have hL : zz_L (fun _ => False) ([] : List Loc) := zz_L.nil
  refine lv_iconst (v := nI 0) hx hb d_Ru_countPairs_0 (by decide) ?_
  refine lv_istore_n hx hb d_Ru_countPairs_1 rfl hl (by decide) rfl (fun ls hl => ?_)
  have hl : lv_has ls 4 [(1, .int (nI 0)), (0, .ref u)] := hl
  refine lv_iconst (v := nI 0) hx hb d_Ru_countPairs_2 (by decide) ?_
  refine lv_istore_n hx hb d_Ru_countPairs_3 rfl hl (by decide) rfl (fun ls hl => ?_)
  have hl : lv_has ls 4 [(2, .int (nI 0)), (1, .int (nI 0)), (0, .ref u)] := hl
  have hl : lv_has ls 4 [(0, .ref u), (1, .int (nI 0)), (2, .int (nI 0))] := lv_sub hl [2, 1, 0] rfl
  refine zz_loopP (σ := Nat) (fun r0 ls => lv_has ls 4 [(0, .ref u), (1, .int (nI (zpairs (rNt A) r0))), (2, .int (nI r0))] ∧ r0 ≤ tk) (fun r0 => tk - r0) ?_ 0 ls ⟨hl, Nat.zero_le _⟩
  rintro r0 ih ls ⟨hl, hr0⟩
  have iho := ih
  refine lv_iload_n hx hb d_Ru_countPairs_4 rfl (lv_at hl 2 rfl) ?_
  refine lv_aload_n hx hb d_Ru_countPairs_5 rfl (lv_at hl 0 rfl) ?_
  refine fg_Ru_26 hE hM.1 rfl d_Ru_countPairs_6 ?_
  refine zz_ge hx hb (by omega) (by omega) d_Ru_countPairs_9 (tgt := 43) rfl (fun hT9 => ?_) (fun hF9 => ?_)
  · refine lv_iload_n hx hb d_Ru_countPairs_43 rfl (lv_at hl 1 rfl) ?_
    exact zz_iret hx hb hr hlk rfl ⟨rfl, congrArg (fun z => some (Value.int z)) (by rw [show r0 = tk by omega])⟩ hL d_Ru_countPairs_44
  · refine lv_iconst (v := nI 0) hx hb d_Ru_countPairs_12 (by decide) ?_
    refine lv_istore_n hx hb d_Ru_countPairs_13 rfl hl (by decide) rfl (fun ls hl => ?_)
    have hl : lv_has ls 4 [(3, .int (nI 0)), (0, .ref u), (1, .int (nI (zpairs (rNt A) r0))), (2, .int (nI r0))] := hl
    have hl : lv_has ls 4 [(0, .ref u), (1, .int (nI (zpairs (rNt A) r0))), (2, .int (nI r0)), (3, .int (nI 0))] := lv_sub hl [1, 2, 3, 0] rfl
    refine zz_loopP (σ := Nat) (fun q ls => lv_has ls 4 [(0, .ref u), (1, .int (nI (zpairs (rNt A) r0 + zcnt (fun q => rNt A q r0) q))), (2, .int (nI r0)), (3, .int (nI q))] ∧ q ≤ r0) (fun q => r0 - q) ?_ 0 ls ⟨hl, Nat.zero_le _⟩
    rintro q ih ls ⟨hl, hq⟩
    refine lv_iload_n hx hb d_Ru_countPairs_14 rfl (lv_at hl 3 rfl) ?_
    refine lv_iload_n hx hb d_Ru_countPairs_15 rfl (lv_at hl 2 rfl) ?_
    refine zz_ge hx hb (by omega) (by omega) d_Ru_countPairs_16 (tgt := 37) rfl (fun hT16 => ?_) (fun hF16 => ?_)
    · refine lv_iinc (k := 2) (v := nI (r0 + 1)) hx hb d_Ru_countPairs_37 hl rfl (zz_inc _) (by decide) rfl (fun ls hl => ?_)
      have hl : lv_has ls 4 [(2, .int (nI (r0 + 1))), (0, .ref u), (1, .int (nI (zpairs (rNt A) r0 + zcnt (fun q => rNt A q r0) q))), (3, .int (nI q))] := hl
      refine lv_goto hx hb d_Ru_countPairs_40 (tgt := 4) rfl ?_
      have hz9 : zpairs (rNt A) (r0 + 1) = zpairs (rNt A) r0 + zcnt (fun q => rNt A q r0) q := by rw [show q = r0 by omega]; rfl
      have hl : lv_has ls 4 [(0, .ref u), (1, .int (nI (zpairs (rNt A) (r0 + 1)))), (2, .int (nI (r0 + 1)))] := (by rw [hz9]; exact lv_sub hl [1, 2, 0] rfl)
      exact iho (r0 + 1) ls ⟨hl, by omega⟩ (by omega)
    · refine lv_aload_n hx hb d_Ru_countPairs_19 rfl (lv_at hl 0 rfl) ?_
      refine lv_iload_n hx hb d_Ru_countPairs_20 rfl (lv_at hl 3 rfl) ?_
      refine lv_iload_n hx hb d_Ru_countPairs_21 rfl (lv_at hl 2 rfl) ?_
      refine zz_callP (cl_Ru_40 (rest := []) hE (k_Ru_isNoted l D ca u tk wk A q r0 (by omega) (by omega) hnb) ⟨rfl, rfl, by decide, by decide⟩ hM hM.1 rfl hl.1 rfl (Nat.le_of_ble_eq_true rfl) d_Ru_countPairs_22 ⟨by decide, by decide⟩) ?_
      refine zz_eqB hx hb d_Ru_countPairs_25 (tgt := 31) rfl (fun hT25 => ?_) (fun hF25 => ?_)
      · refine lv_iinc (k := 3) (v := nI (q + 1)) hx hb d_Ru_countPairs_31 hl rfl (zz_inc _) (by decide) rfl (fun ls hl => ?_)
        have hl : lv_has ls 4 [(3, .int (nI (q + 1))), (0, .ref u), (1, .int (nI (zpairs (rNt A) r0 + zcnt (fun q => rNt A q r0) q))), (2, .int (nI r0))] := hl
        refine lv_goto hx hb d_Ru_countPairs_34 (tgt := 14) rfl ?_
        have hl : lv_has ls 4 [(0, .ref u), (1, .int (nI (zpairs (rNt A) r0 + zcnt (fun q => rNt A q r0) (q + 1)))), (2, .int (nI r0)), (3, .int (nI (q + 1)))] := (by rw [show zpairs (rNt A) r0 + zcnt (fun q => rNt A q r0) (q + 1) = zpairs (rNt A) r0 + zcnt (fun q => rNt A q r0) q from by rw [show zcnt (fun q => rNt A q r0) (q + 1) = zcnt (fun q => rNt A q r0) q + (rNt A q r0).toNat from rfl, hT25]; rfl]; exact lv_sub hl [1, 2, 3, 0] rfl)
        exact ih (q + 1) ls ⟨hl, by omega⟩ (by omega)
      · refine lv_iinc (k := 1) (v := nI (zpairs (rNt A) r0 + zcnt (fun q => rNt A q r0) q + 1)) hx hb d_Ru_countPairs_28 hl rfl (zz_inc _) (by decide) rfl (fun ls hl => ?_)
        have hl : lv_has ls 4 [(1, .int (nI (zpairs (rNt A) r0 + zcnt (fun q => rNt A q r0) q + 1))), (0, .ref u), (2, .int (nI r0)), (3, .int (nI q))] := hl
        refine lv_iinc (k := 3) (v := nI (q + 1)) hx hb d_Ru_countPairs_31 hl rfl (zz_inc _) (by decide) rfl (fun ls hl => ?_)
        have hl : lv_has ls 4 [(3, .int (nI (q + 1))), (1, .int (nI (zpairs (rNt A) r0 + zcnt (fun q => rNt A q r0) q + 1))), (0, .ref u), (2, .int (nI r0))] := hl
        refine lv_goto hx hb d_Ru_countPairs_34 (tgt := 14) rfl ?_
        have hl : lv_has ls 4 [(0, .ref u), (1, .int (nI (zpairs (rNt A) r0 + zcnt (fun q => rNt A q r0) (q + 1)))), (2, .int (nI r0)), (3, .int (nI (q + 1)))] := (by rw [show zpairs (rNt A) r0 + zcnt (fun q => rNt A q r0) (q + 1) = zpairs (rNt A) r0 + zcnt (fun q => rNt A q r0) q + 1 from by rw [show zcnt (fun q => rNt A q r0) (q + 1) = zcnt (fun q => rNt A q r0) q + (rNt A q r0).toNat from rfl, hF25]; rfl]; exact lv_sub hl [2, 1, 3, 0] rfl)
        exact ih (q + 1) ls ⟨hl, by omega⟩ (by omega)

set_option maxHeartbeats 4000000 in
set_option maxRecDepth 100000 in
theorem k_Ru_unite (l : Launch) (D : va_G) (ca : Nat → ClassId) (u tk wk : Nat) (A : Nat → Nat → Nat) (x0 y0 : Nat) (hx0 : x0 < 12) (hy0 : y0 < 12) (htk : tk ≤ 12) (hld : ∀ a, a < tk → A 3 a < 12) : Met l y_Ru_unite w_Ru_unite (zr 1 0 0) (zz_P D ca [.ref u, .int (nI x0), .int (nI y0)] (fun H => RuAt D ca H u tk wk A)) (zz_Q (fun H H1 v => v = none ∧ zz_fr (ruFr u) H H1 ∧ ∃ B, RuAt D ca H1 u tk wk B ∧ B 1 = A 1 ∧ B 2 = A 2 ∧ (∀ a, a < tk → B 3 a = rUn (A 3) x0 y0 a) ∧ ∀ a, tk ≤ a → B 3 a = A 3 a)) 0 0 (ruFr u) := by
  refine zz_met (cc := c_Ru_unite) (by decide) (Nat.le_of_ble_eq_true rfl) ?_
  intro p e s m below meth c ls hE hr hlk hnm hM hl
  have hx := hE.1.1
  have hb := hE.1.2.1
  have hK := hE.2
  have hl : lv_has ls 6 [(0, .ref u), (1, .int (nI x0)), (2, .int (nI y0))] := hl
  have hL : zz_L (ruFr u) ([] : List Loc) := zz_L.nil
  have hS : zz_fr (ruFr u) s.heap s.heap := zz_fr.rf
  refine lv_iload_n hx hb d_Ru_unite_0 rfl (lv_at hl 1 rfl) ?_
  refine lv_iload_n hx hb d_Ru_unite_1 rfl (lv_at hl 2 rfl) ?_
  refine va_mmin (rest := []) hx hb (by rw [hE.1.2.2.1]; exact hl.1.symm) hE.1.2.2.2.1 (hE.1.2.2.2.2 _ zm_404) (hE.1.2.2.2.2 _ zm_301) (hE.1.2.2.2.2 _ zm_10) (hE.1.2.2.2.2 _ zm_302) (Nat.le_of_ble_eq_true rfl) (Nat.le_of_ble_eq_true rfl) (by decide) (by decide) d_Ru_unite_2 ?_
  refine zz_top (zz_min (x := x0) (y := y0) (by omega) (by omega)) ?_
  refine lv_istore_n hx hb d_Ru_unite_5 rfl hl (by decide) rfl (fun ls hl => ?_)
  have hl : lv_has ls 6 [(3, .int (nI (min x0 y0))), (0, .ref u), (1, .int (nI x0)), (2, .int (nI y0))] := hl
  refine lv_iload_n hx hb d_Ru_unite_6 rfl (lv_at hl 2 rfl) ?_
  refine lv_iload_n hx hb d_Ru_unite_7 rfl (lv_at hl 3 rfl) ?_
  refine va_mmax (rest := []) hx hb (by rw [hE.1.2.2.1]; exact hl.1.symm) hE.1.2.2.2.1 (hE.1.2.2.2.2 _ zm_405) (hE.1.2.2.2.2 _ zm_389) (hE.1.2.2.2.2 _ zm_10) (hE.1.2.2.2.2 _ zm_390) (Nat.le_of_ble_eq_true rfl) (Nat.le_of_ble_eq_true rfl) (by decide) (by decide) d_Ru_unite_8 ?_
  refine zz_top (zz_max (x := x0) (y := y0) (by omega) (by omega)) ?_
  refine lv_istore hx hb d_Ru_unite_11 hl (by decide) rfl (fun ls hl => ?_)
  have hl : lv_has ls 6 [(4, .int (nI (max x0 y0))), (3, .int (nI (min x0 y0))), (0, .ref u), (1, .int (nI x0)), (2, .int (nI y0))] := hl
  refine lv_iconst (v := nI 0) hx hb d_Ru_unite_13 (by decide) ?_
  refine lv_istore hx hb d_Ru_unite_14 hl (by decide) rfl (fun ls hl => ?_)
  have hl : lv_has ls 6 [(5, .int (nI 0)), (4, .int (nI (max x0 y0))), (3, .int (nI (min x0 y0))), (0, .ref u), (1, .int (nI x0)), (2, .int (nI y0))] := hl
  have hl : lv_has ls 6 [(0, .ref u), (1, .int (nI x0)), (2, .int (nI y0)), (3, .int (nI (min x0 y0))), (4, .int (nI (max x0 y0))), (5, .int (nI 0))] := lv_sub hl [3, 4, 5, 2, 1, 0] rfl
  refine zz_loopH (σ := Nat × (Nat → Nat → Nat)) (fun ⟨r0, B⟩ ls H locs => lv_has ls 6 [(0, .ref u), (1, .int (nI x0)), (2, .int (nI y0)), (3, .int (nI (min x0 y0))), (4, .int (nI (max x0 y0))), (5, .int (nI r0))] ∧ r0 ≤ tk ∧ RuAt D ca H u tk wk B ∧ (B 1 = A 1 ∧ B 2 = A 2 ∧ (∀ a, a < r0 → B 3 a = rUn (A 3) x0 y0 a) ∧ ∀ a, r0 ≤ a → B 3 a = A 3 a) ∧ zz_fr (ruFr u) s.heap H ∧ zz_L (ruFr u) locs) (fun ⟨r0, B⟩ => tk - r0) ?_ (0, A) ls _ _ ⟨hl, Nat.zero_le _, hM, ⟨rfl, rfl, fun a h => absurd h (Nat.not_lt_zero _), fun _ _ => rfl⟩, hS, hL⟩
  rintro ⟨r0, B⟩ ih ls H locs ⟨hl, hr0, hM, hz, hS, hL⟩
  refine lv_iload hx hb d_Ru_unite_16 (lv_at hl 5 rfl) ?_
  refine lv_aload_n hx hb d_Ru_unite_18 rfl (lv_at hl 0 rfl) ?_
  refine fg_Ru_26 hE hM.1 rfl d_Ru_unite_19 ?_
  refine zz_ge hx hb (by omega) (by omega) d_Ru_unite_22 (tgt := 51) rfl (fun hT22 => ?_) (fun hF22 => ?_)
  · have hrt : r0 = tk := by omega
    rw [hrt] at hz
    exact zz_vret hx hb hr hlk ⟨rfl, hS, B, hM, hz⟩ hL d_Ru_unite_51
  · have e3 : B 3 r0 = A 3 r0 := hz.2.2.2 r0 (Nat.le_refl _)
    have hl3 := hld r0 (by omega)
    refine lv_aload_n hx hb d_Ru_unite_25 rfl (lv_at hl 0 rfl) ?_
    refine fg_Ru_19 hE hM.1 rfl d_Ru_unite_26 ?_
    refine lv_iload hx hb d_Ru_unite_29 (lv_at hl 5 rfl) ?_
    refine ru_ld hE hM 3 (by decide) (i := r0) (show r0 < 12 by omega) d_Ru_unite_31 ?_
    refine lv_iload hx hb d_Ru_unite_32 (lv_at hl 4 rfl) ?_
    refine zz_ne hx hb (by omega) (by omega) d_Ru_unite_34 (tgt := 45) rfl (fun hT34 => ?_) (fun hF34 => ?_)
    · refine lv_iinc (k := 5) (v := nI (r0 + 1)) hx hb d_Ru_unite_45 hl rfl (zz_inc _) (by decide) rfl (fun ls hl => ?_)
      have hl : lv_has ls 6 [(5, .int (nI (r0 + 1))), (0, .ref u), (1, .int (nI x0)), (2, .int (nI y0)), (3, .int (nI (min x0 y0))), (4, .int (nI (max x0 y0)))] := hl
      refine lv_goto hx hb d_Ru_unite_48 (tgt := 16) rfl ?_
      have hz9 : B 1 = A 1 ∧ B 2 = A 2 ∧ (∀ a, a < (r0 + 1) → B 3 a = rUn (A 3) x0 y0 a) ∧ ∀ a, (r0 + 1) ≤ a → B 3 a = A 3 a := by
        refine ⟨hz.1, hz.2.1, fun a ha => ?_, fun a ha => hz.2.2.2 a (by omega)⟩
        by_cases har : a = r0
        · subst har; unfold rUn; rw [← e3, if_neg hT34]
        · exact hz.2.2.1 a (by omega)
      have hl : lv_has ls 6 [(0, .ref u), (1, .int (nI x0)), (2, .int (nI y0)), (3, .int (nI (min x0 y0))), (4, .int (nI (max x0 y0))), (5, .int (nI (r0 + 1)))] := lv_sub hl [1, 2, 3, 4, 5, 0] rfl
      exact ih (r0 + 1, B) ls _ _ ⟨hl, by omega, hM, hz9, hS, hL⟩ (by show tk - (r0 + 1) < tk - r0; omega)
    · refine lv_aload_n hx hb d_Ru_unite_37 rfl (lv_at hl 0 rfl) ?_
      refine fg_Ru_19 hE hM.1 rfl d_Ru_unite_38 ?_
      refine lv_iload hx hb d_Ru_unite_41 (lv_at hl 5 rfl) ?_
      refine lv_iload_n hx hb d_Ru_unite_43 rfl (lv_at hl 3 rfl) ?_
      refine ru_st hE hM hS hL 3 (by decide) (i := r0) (x := min x0 y0) (show r0 < 12 by omega) d_Ru_unite_44 (fun H locs hM hS hL => ?_)
      refine lv_iinc (k := 5) (v := nI (r0 + 1)) hx hb d_Ru_unite_45 hl rfl (zz_inc _) (by decide) rfl (fun ls hl => ?_)
      have hl : lv_has ls 6 [(5, .int (nI (r0 + 1))), (0, .ref u), (1, .int (nI x0)), (2, .int (nI y0)), (3, .int (nI (min x0 y0))), (4, .int (nI (max x0 y0)))] := hl
      refine lv_goto hx hb d_Ru_unite_48 (tgt := 16) rfl ?_
      have hz9 : (up2 B 3 r0 (min x0 y0)) 1 = A 1 ∧ (up2 B 3 r0 (min x0 y0)) 2 = A 2 ∧ (∀ a, a < (r0 + 1) → (up2 B 3 r0 (min x0 y0)) 3 a = rUn (A 3) x0 y0 a) ∧ ∀ a, (r0 + 1) ≤ a → (up2 B 3 r0 (min x0 y0)) 3 a = A 3 a := by
        refine ⟨by rw [up2_f (by decide)]; exact hz.1, by rw [up2_f (by decide)]; exact hz.2.1, fun a ha => ?_, fun a ha => by rw [up2_i (by omega)]; exact hz.2.2.2 a (by omega)⟩
        by_cases har : a = r0
        · subst har; rw [up2_s]; unfold rUn; rw [← e3, if_pos hF34]
        · rw [up2_i har]; exact hz.2.2.1 a (by omega)
      have hl : lv_has ls 6 [(0, .ref u), (1, .int (nI x0)), (2, .int (nI y0)), (3, .int (nI (min x0 y0))), (4, .int (nI (max x0 y0))), (5, .int (nI (r0 + 1)))] := lv_sub hl [1, 2, 3, 4, 5, 0] rfl
      exact ih (r0 + 1, (up2 B 3 r0 (min x0 y0))) ls _ _ ⟨hl, by omega, hM, hz9, hS, hL⟩ (by show tk - (r0 + 1) < tk - r0; omega)
