/-! The reference's look: a text is made normal. -/
def nfS (c : Nat → Nat) : Nat → List Nat × Bool
  | 0 => ([], false)
  | i + 1 => if mLet (c i) = 0 then ((nfS c i).1, true) else if (nfS c i).2 = true ∧ 0 < (nfS c i).1.length then ((nfS c i).1 ++ [32, mLet (c i)], false) else ((nfS c i).1 ++ [mLet (c i)], false)
theorem nfS_len (c : Nat → Nat) : ∀ i, (nfS c i).1.length + (if (nfS c i).2 = true ∧ 0 < (nfS c i).1.length then 1 else 0) ≤ i
  | 0 => by simp [nfS]
  | i + 1 => by
    have h := nfS_len c i
    simp only [nfS]
    split
    · rename_i h1
      by_cases h2 : 0 < (nfS c i).1.length
      · simp only [h2, and_true] at h ⊢
        simp
        split at h <;> omega
      · simp [h2]
        omega
    · split
      · rename_i h1 h2
        rw [if_pos h2] at h
        simp
        omega
      · rename_i h1 h2
        rw [if_neg h2] at h
        simp
        omega
def mLook (A B : Nat → Nat → Nat) (q : Nat) (L : List Nat) : Prop := (∀ k, k ≠ 3 → k ≠ 4 → B k = A k) ∧ B 4 q = L.length ∧ (∀ j, j ≠ q → B 4 j = A 4 j) ∧ (∀ j, j < L.length → B 3 (12 * q + j) = L.getD j 0) ∧ ∀ j, (j < 12 * q ∨ 12 * q + L.length ≤ j) → B 3 j = A 3 j
/-- the buffer while it is being filled -/
def mBuf (A B : Nat → Nat → Nat) (q : Nat) (L : List Nat) : Prop := (∀ k, k ≠ 3 → B k = A k) ∧ (∀ j, j < L.length → B 3 (12 * q + j) = L.getD j 0) ∧ ∀ j, (j < 12 * q ∨ 12 * q + L.length ≤ j) → B 3 j = A 3 j
theorem mBuf_add {A B : Nat → Nat → Nat} {q x : Nat} {L : List Nat} (h : mBuf A B q L) (hl : L.length < 12) : mBuf A (up2 B 3 (12 * q + L.length) x) q (L ++ [x]) := by
  refine ⟨fun k hk => ?_, fun j hj => ?_, fun j hj => ?_⟩
  · funext j
    rw [up2_k hk, h.1 k hk]
  · simp at hj
    by_cases hjl : j = L.length
    · subst hjl
      rw [up2_s]
      simp
    · rw [up2_i (by omega), h.2.1 j (by omega)]
      simp [List.getD, List.getElem?_append_left (show j < L.length by omega)]
  · simp at hj
    rw [up2_i (by omega), h.2.2 j (by omega)]
theorem mBuf_end {A B : Nat → Nat → Nat} {q : Nat} {L : List Nat} (h : mBuf A B q L) : mLook A (up2 B 4 q L.length) q L := by
  refine ⟨fun k h3 h4 => ?_, up2_s, fun j hj => ?_, fun j hj => ?_, fun j hj => ?_⟩
  · funext j
    rw [up2_k h4, h.1 k h3]
  · rw [up2_i hj, h.1 4 (by decide)]
  · rw [up2_k (by decide), h.2.1 j hj]
  · rw [up2_k (by decide), h.2.2 j hj]
theorem mLet_lt {c : Nat} (h : c < 256) : mLet c < 256 := by
  unfold mLet
  split
  · omega
  · split <;> omega

set_option maxHeartbeats 4000000 in
set_option maxRecDepth 100000 in
theorem k_Mo_stands (l : Launch) (D : va_G) (ca : Nat → ClassId) (r n t rs w : Nat) (A : Nat → Nat → Nat) (a2 i b2 bf : Nat) (ha : a2 ≤ 1) (hb2 : b2 ≤ 1) (hsa : A 4 a2 ≤ 12) (hsb : A 4 b2 ≤ 12) (hc : ∀ j, j < 24 → A 3 j < 256) (hi : i < 32) (hbf : bf < 32) : Met l y_Mo_stands w_Mo_stands (zr 2 0 0) (zz_P D ca [.ref r, .int (nI a2), .int (nI i), .int (nI b2), .int (nI bf)] (fun H => MoAt D ca H r n t rs w A)) (zz_Q (fun H H1 v => H1 = H ∧ v = some (.int (nI (mSt A a2 i b2 bf).toNat)))) 0 0 (fun _ => False) := by
  refine zz_met (cc := c_Mo_stands) (by decide) (Nat.le_of_ble_eq_true rfl) ?_
  intro p e s m below meth c ls hE hr hlk hnm hM hl
  have hx := hE.1.1
  have hb := hE.1.2.1
  have hK := hE.2
  have hl : lv_has ls 7 [(0, .ref r), (1, .int (nI a2)), (2, .int (nI i)), (3, .int (nI b2)), (4, .int (nI bf))] := hl
  have hL : zz_L (fun _ => False) ([] : List Loc) := zz_L.nil
  refine lv_iconst (v := nI 0) hx hb d_Mo_stands_0 (by decide) ?_
  refine lv_istore hx hb d_Mo_stands_1 hl (by decide) rfl (fun ls hl => ?_)
  have hl : lv_has ls 7 [(5, .int (nI 0)), (0, .ref r), (1, .int (nI a2)), (2, .int (nI i)), (3, .int (nI b2)), (4, .int (nI bf))] := hl
  refine lv_iconst (v := nI 0) hx hb d_Mo_stands_3 (by decide) ?_
  refine lv_istore hx hb d_Mo_stands_4 hl (by decide) rfl (fun ls hl => ?_)
  have hl : lv_has ls 7 [(6, .int (nI 0)), (5, .int (nI 0)), (0, .ref r), (1, .int (nI a2)), (2, .int (nI i)), (3, .int (nI b2)), (4, .int (nI bf))] := hl
  have hl : lv_has ls 7 [(0, .ref r), (1, .int (nI a2)), (2, .int (nI i)), (3, .int (nI b2)), (4, .int (nI bf)), (5, .int (nI (mSt A a2 i b2 0).toNat)), (6, .int (nI 0))] := lv_sub hl [2, 3, 4, 5, 6, 1, 0] rfl
  refine zz_loopP (σ := Nat) (fun j ls => lv_has ls 7 [(0, .ref r), (1, .int (nI a2)), (2, .int (nI i)), (3, .int (nI b2)), (4, .int (nI bf)), (5, .int (nI (mSt A a2 i b2 j).toNat)), (6, .int (nI j))] ∧ j ≤ bf) (fun j => bf - j) ?_ 0 ls ⟨hl, Nat.zero_le _⟩
  rintro j ih ls ⟨hl, hj⟩
  refine lv_iload hx hb d_Mo_stands_6 (lv_at hl 6 rfl) ?_
  refine lv_iload hx hb d_Mo_stands_8 (lv_at hl 4 rfl) ?_
  refine zz_ge hx hb (by omega) (by omega) d_Mo_stands_10 (tgt := 53) rfl (fun hT10 => ?_) (fun hF10 => ?_)
  · refine lv_iload hx hb d_Mo_stands_53 (lv_at hl 5 rfl) ?_
    exact zz_iret hx hb hr hlk (zz_narB _) ⟨rfl, congrArg (fun z => some (Value.int z)) (by rw [show j = bf by omega])⟩ hL d_Mo_stands_55
  · refine lv_iload hx hb d_Mo_stands_13 (lv_at hl 5 rfl) ?_
    refine zz_neB hx hb d_Mo_stands_15 (tgt := 40) rfl (fun hT15 => ?_) (fun hF15 => ?_)
    · refine lv_iconst (v := nI 1) hx hb d_Mo_stands_40 (by decide) ?_
      refine lv_goto hx hb d_Mo_stands_41 (tgt := 45) rfl ?_
      refine lv_istore hx hb d_Mo_stands_45 hl (by decide) rfl (fun ls hl => ?_)
      have hl : lv_has ls 7 [(5, .int (nI 1)), (0, .ref r), (1, .int (nI a2)), (2, .int (nI i)), (3, .int (nI b2)), (4, .int (nI bf)), (6, .int (nI j))] := hl
      refine lv_iinc (k := 6) (v := nI (j + 1)) hx hb d_Mo_stands_47 hl rfl (zz_inc _) (by decide) rfl (fun ls hl => ?_)
      have hl : lv_has ls 7 [(6, .int (nI (j + 1))), (5, .int (nI 1)), (0, .ref r), (1, .int (nI a2)), (2, .int (nI i)), (3, .int (nI b2)), (4, .int (nI bf))] := hl
      refine lv_goto hx hb d_Mo_stands_50 (tgt := 6) rfl ?_
      have hl : lv_has ls 7 [(0, .ref r), (1, .int (nI a2)), (2, .int (nI i)), (3, .int (nI b2)), (4, .int (nI bf)), (5, .int (nI (mSt A a2 i b2 (j + 1)).toNat)), (6, .int (nI (j + 1)))] := (by rw [show mSt A a2 i b2 (j + 1) = true from by rw [show mSt A a2 i b2 (j + 1) = (mSt A a2 i b2 j || (mBg A b2 j && mSw A a2 i b2 j)) from rfl]; simp [hT15]]; exact lv_sub hl [2, 3, 4, 5, 6, 1, 0] rfl)
      exact ih (j + 1) ls ⟨hl, by omega⟩ (by omega)
    · refine lv_aload_n hx hb d_Mo_stands_18 rfl (lv_at hl 0 rfl) ?_
      refine lv_iload_n hx hb d_Mo_stands_19 rfl (lv_at hl 3 rfl) ?_
      refine lv_iload hx hb d_Mo_stands_20 (lv_at hl 6 rfl) ?_
      refine zz_callP (cl_Mo_84 (rest := []) hE (k_Mo_begins l D ca r n t rs w A b2 j (by omega) (by omega) hc (by omega)) ⟨rfl, rfl, by decide, by decide⟩ hM hM.1 rfl hl.1 rfl (Nat.le_of_ble_eq_true rfl) d_Mo_stands_22 ⟨by decide, by decide⟩) ?_
      refine zz_eqB hx hb d_Mo_stands_25 (tgt := 44) rfl (fun hT25 => ?_) (fun hF25 => ?_)
      · refine lv_iconst (v := nI 0) hx hb d_Mo_stands_44 (by decide) ?_
        refine lv_istore hx hb d_Mo_stands_45 hl (by decide) rfl (fun ls hl => ?_)
        have hl : lv_has ls 7 [(5, .int (nI 0)), (0, .ref r), (1, .int (nI a2)), (2, .int (nI i)), (3, .int (nI b2)), (4, .int (nI bf)), (6, .int (nI j))] := hl
        refine lv_iinc (k := 6) (v := nI (j + 1)) hx hb d_Mo_stands_47 hl rfl (zz_inc _) (by decide) rfl (fun ls hl => ?_)
        have hl : lv_has ls 7 [(6, .int (nI (j + 1))), (5, .int (nI 0)), (0, .ref r), (1, .int (nI a2)), (2, .int (nI i)), (3, .int (nI b2)), (4, .int (nI bf))] := hl
        refine lv_goto hx hb d_Mo_stands_50 (tgt := 6) rfl ?_
        have hl : lv_has ls 7 [(0, .ref r), (1, .int (nI a2)), (2, .int (nI i)), (3, .int (nI b2)), (4, .int (nI bf)), (5, .int (nI (mSt A a2 i b2 (j + 1)).toNat)), (6, .int (nI (j + 1)))] := (by rw [show mSt A a2 i b2 (j + 1) = false from by rw [show mSt A a2 i b2 (j + 1) = (mSt A a2 i b2 j || (mBg A b2 j && mSw A a2 i b2 j)) from rfl]; simp [hF15, hT25]]; exact lv_sub hl [2, 3, 4, 5, 6, 1, 0] rfl)
        exact ih (j + 1) ls ⟨hl, by omega⟩ (by omega)
      · refine lv_aload_n hx hb d_Mo_stands_28 rfl (lv_at hl 0 rfl) ?_
        refine lv_iload_n hx hb d_Mo_stands_29 rfl (lv_at hl 1 rfl) ?_
        refine lv_iload_n hx hb d_Mo_stands_30 rfl (lv_at hl 2 rfl) ?_
        refine lv_iload_n hx hb d_Mo_stands_31 rfl (lv_at hl 3 rfl) ?_
        refine lv_iload hx hb d_Mo_stands_32 (lv_at hl 6 rfl) ?_
        refine zz_callP (cl_Mo_88 (rest := []) hE (k_Mo_sameWord l D ca r n t rs w A a2 i b2 j (by omega) (by omega) (by omega) (by omega) hc (by omega) (by omega)) ⟨rfl, rfl, by decide, by decide⟩ hM hM.1 rfl hl.1 rfl (Nat.le_of_ble_eq_true rfl) d_Mo_stands_34 ⟨by decide, by decide⟩) ?_
        refine zz_eqB hx hb d_Mo_stands_37 (tgt := 44) rfl (fun hT37 => ?_) (fun hF37 => ?_)
        · refine lv_iconst (v := nI 0) hx hb d_Mo_stands_44 (by decide) ?_
          refine lv_istore hx hb d_Mo_stands_45 hl (by decide) rfl (fun ls hl => ?_)
          have hl : lv_has ls 7 [(5, .int (nI 0)), (0, .ref r), (1, .int (nI a2)), (2, .int (nI i)), (3, .int (nI b2)), (4, .int (nI bf)), (6, .int (nI j))] := hl
          refine lv_iinc (k := 6) (v := nI (j + 1)) hx hb d_Mo_stands_47 hl rfl (zz_inc _) (by decide) rfl (fun ls hl => ?_)
          have hl : lv_has ls 7 [(6, .int (nI (j + 1))), (5, .int (nI 0)), (0, .ref r), (1, .int (nI a2)), (2, .int (nI i)), (3, .int (nI b2)), (4, .int (nI bf))] := hl
          refine lv_goto hx hb d_Mo_stands_50 (tgt := 6) rfl ?_
          have hl : lv_has ls 7 [(0, .ref r), (1, .int (nI a2)), (2, .int (nI i)), (3, .int (nI b2)), (4, .int (nI bf)), (5, .int (nI (mSt A a2 i b2 (j + 1)).toNat)), (6, .int (nI (j + 1)))] := (by rw [show mSt A a2 i b2 (j + 1) = false from by rw [show mSt A a2 i b2 (j + 1) = (mSt A a2 i b2 j || (mBg A b2 j && mSw A a2 i b2 j)) from rfl]; simp [hF15, hF25, hT37]]; exact lv_sub hl [2, 3, 4, 5, 6, 1, 0] rfl)
          exact ih (j + 1) ls ⟨hl, by omega⟩ (by omega)
        · refine lv_iconst (v := nI 1) hx hb d_Mo_stands_40 (by decide) ?_
          refine lv_goto hx hb d_Mo_stands_41 (tgt := 45) rfl ?_
          refine lv_istore hx hb d_Mo_stands_45 hl (by decide) rfl (fun ls hl => ?_)
          have hl : lv_has ls 7 [(5, .int (nI 1)), (0, .ref r), (1, .int (nI a2)), (2, .int (nI i)), (3, .int (nI b2)), (4, .int (nI bf)), (6, .int (nI j))] := hl
          refine lv_iinc (k := 6) (v := nI (j + 1)) hx hb d_Mo_stands_47 hl rfl (zz_inc _) (by decide) rfl (fun ls hl => ?_)
          have hl : lv_has ls 7 [(6, .int (nI (j + 1))), (5, .int (nI 1)), (0, .ref r), (1, .int (nI a2)), (2, .int (nI i)), (3, .int (nI b2)), (4, .int (nI bf))] := hl
          refine lv_goto hx hb d_Mo_stands_50 (tgt := 6) rfl ?_
          have hl : lv_has ls 7 [(0, .ref r), (1, .int (nI a2)), (2, .int (nI i)), (3, .int (nI b2)), (4, .int (nI bf)), (5, .int (nI (mSt A a2 i b2 (j + 1)).toNat)), (6, .int (nI (j + 1)))] := (by rw [show mSt A a2 i b2 (j + 1) = true from by rw [show mSt A a2 i b2 (j + 1) = (mSt A a2 i b2 j || (mBg A b2 j && mSw A a2 i b2 j)) from rfl]; simp [hF15, hF25, hF37]]; exact lv_sub hl [2, 3, 4, 5, 6, 1, 0] rfl)
          exact ih (j + 1) ls ⟨hl, by omega⟩ (by omega)

set_option maxHeartbeats 4000000 in
set_option maxRecDepth 100000 in
theorem k_Mo_inSet (l : Launch) (D : va_G) (ca : Nat → ClassId) (r n t rs w : Nat) (A : Nat → Nat → Nat) (a2 b2 : Nat) (both : Bool) (ha : a2 ≤ 1) (hb2 : b2 ≤ 1) (hsa : A 4 a2 ≤ 12) (hsb : A 4 b2 ≤ 12) (hc : ∀ j, j < 24 → A 3 j < 256) : Met l y_Mo_inSet w_Mo_inSet (zr 3 0 0) (zz_P D ca [.ref r, .int (nI a2), .int (nI b2), .int (nI both.toNat)] (fun H => MoAt D ca H r n t rs w A)) (zz_Q (fun H H1 v => H1 = H ∧ v = some (.int (nI (mIn A a2 b2 both (A 4 a2)))))) 0 0 (fun _ => False) := by
  refine zz_met (cc := c_Mo_inSet) (by decide) (Nat.le_of_ble_eq_true rfl) ?_
  intro p e s m below meth c ls hE hr hlk hnm hM hl
  have hx := hE.1.1
  have hb := hE.1.2.1
  have hK := hE.2
  have hl : lv_has ls 7 [(0, .ref r), (1, .int (nI a2)), (2, .int (nI b2)), (3, .int (nI both.toNat))] := hl
  have hL : zz_L (fun _ => False) ([] : List Loc) := zz_L.nil
  refine lv_iconst (v := nI 0) hx hb d_Mo_inSet_0 (by decide) ?_
  refine lv_istore hx hb d_Mo_inSet_1 hl (by decide) rfl (fun ls hl => ?_)
  have hl : lv_has ls 7 [(4, .int (nI 0)), (0, .ref r), (1, .int (nI a2)), (2, .int (nI b2)), (3, .int (nI both.toNat))] := hl
  refine lv_iconst (v := nI 0) hx hb d_Mo_inSet_3 (by decide) ?_
  refine lv_istore hx hb d_Mo_inSet_4 hl (by decide) rfl (fun ls hl => ?_)
  have hl : lv_has ls 7 [(5, .int (nI 0)), (4, .int (nI 0)), (0, .ref r), (1, .int (nI a2)), (2, .int (nI b2)), (3, .int (nI both.toNat))] := hl
  have hl : lv_has ls 7 [(0, .ref r), (1, .int (nI a2)), (2, .int (nI b2)), (3, .int (nI both.toNat)), (4, .int (nI 0)), (5, .int (nI 0))] := lv_sub hl [2, 3, 4, 5, 1, 0] rfl
  refine zz_loopP (σ := Nat) (fun i ls => lv_has ls 7 [(0, .ref r), (1, .int (nI a2)), (2, .int (nI b2)), (3, .int (nI both.toNat)), (4, .int (nI (mIn A a2 b2 both i))), (5, .int (nI i))] ∧ i ≤ A 4 a2) (fun i => A 4 a2 - i) ?_ 0 ls ⟨hl, Nat.zero_le _⟩
  rintro i ih ls ⟨hl, hi⟩
  refine lv_iload hx hb d_Mo_inSet_6 (lv_at hl 5 rfl) ?_
  refine lv_aload_n hx hb d_Mo_inSet_8 rfl (lv_at hl 0 rfl) ?_
  refine fg_Mo_19 hE hM.1 rfl d_Mo_inSet_9 ?_
  refine lv_iload_n hx hb d_Mo_inSet_12 rfl (lv_at hl 1 rfl) ?_
  refine mo_ld hE hM 4 (by decide) (i := a2) (show a2 < 2 by omega) d_Mo_inSet_13 ?_
  refine zz_ge hx hb (by omega) (by omega) d_Mo_inSet_14 (tgt := 89) rfl (fun hT14 => ?_) (fun hF14 => ?_)
  · refine lv_iload hx hb d_Mo_inSet_89 (lv_at hl 4 rfl) ?_
    exact zz_iret hx hb hr hlk rfl ⟨rfl, congrArg (fun z => some (Value.int z)) (by rw [show i = A 4 a2 by omega])⟩ hL d_Mo_inSet_91
  · refine lv_aload_n hx hb d_Mo_inSet_17 rfl (lv_at hl 0 rfl) ?_
    refine lv_iload_n hx hb d_Mo_inSet_18 rfl (lv_at hl 1 rfl) ?_
    refine lv_iload hx hb d_Mo_inSet_19 (lv_at hl 5 rfl) ?_
    refine zz_callP (cl_Mo_84 (rest := []) hE (k_Mo_begins l D ca r n t rs w A a2 i (by omega) (by omega) hc (by omega)) ⟨rfl, rfl, by decide, by decide⟩ hM hM.1 rfl hl.1 rfl (Nat.le_of_ble_eq_true rfl) d_Mo_inSet_21 ⟨by decide, by decide⟩) ?_
    refine zz_eqB hx hb d_Mo_inSet_24 (tgt := 65) rfl (fun hT24 => ?_) (fun hF24 => ?_)
    · refine lv_iconst (v := nI 0) hx hb d_Mo_inSet_65 (by decide) ?_
      refine lv_istore hx hb d_Mo_inSet_66 hl (by decide) rfl (fun ls hl => ?_)
      have hl : lv_has ls 7 [(6, .int (nI 0)), (0, .ref r), (1, .int (nI a2)), (2, .int (nI b2)), (3, .int (nI both.toNat)), (4, .int (nI (mIn A a2 b2 both i))), (5, .int (nI i))] := hl
      refine lv_iload hx hb d_Mo_inSet_68 (lv_at hl 5 rfl) ?_
      refine lv_iload hx hb d_Mo_inSet_70 (lv_at hl 0 rfl) ?_
      refine zz_eq0 hx hb (by decide) d_Mo_inSet_72 (tgt := 79) rfl (fun _ => ?_) (fun h => absurd h (by decide))
      refine lv_iconst (v := nI 0) hx hb d_Mo_inSet_79 (by decide) ?_
      refine zz_iadd hx hb d_Mo_inSet_80 ?_
      refine lv_istore hx hb d_Mo_inSet_81 hl (by decide) rfl (fun ls hl => ?_)
      have hl : lv_has ls 7 [(4, .int (nI ((mIn A a2 b2 both i) + 0))), (6, .int (nI 0)), (0, .ref r), (1, .int (nI a2)), (2, .int (nI b2)), (3, .int (nI both.toNat)), (5, .int (nI i))] := hl
      refine lv_iinc (k := 6) (v := nI (i + 1)) hx hb d_Mo_inSet_83 hl rfl (zz_inc _) (by decide) rfl (fun ls hl => ?_)
      have hl : lv_has ls 7 [(5, .int (nI (i + 1))), (4, .int (nI ((mIn A a2 b2 both i) + 0))), (6, .int (nI 0)), (0, .ref r), (1, .int (nI a2)), (2, .int (nI b2)), (3, .int (nI both.toNat))] := hl
      refine lv_goto hx hb d_Mo_inSet_86 (tgt := 6) rfl ?_
      have hl : lv_has ls 7 [(0, .ref r), (1, .int (nI a2)), (2, .int (nI b2)), (3, .int (nI both.toNat)), (4, .int (nI (mIn A a2 b2 both (i + 1)))), (5, .int (nI (i + 1)))] := (by rw [show mIn A a2 b2 both (i + 1) = mIn A a2 b2 both i + 0 from by rw [show mIn A a2 b2 both (i + 1) = mIn A a2 b2 both i + (mBg A a2 i && !(mSt A a2 i a2 i) && (!both || mSt A a2 i b2 (A 4 b2))).toNat from rfl]; simp [hT24]]; exact lv_sub hl [3, 4, 5, 6, 1, 0] rfl)
      exact ih (i + 1) ls ⟨hl, by omega⟩ (by omega)
    · refine lv_aload_n hx hb d_Mo_inSet_27 rfl (lv_at hl 0 rfl) ?_
      refine lv_iload_n hx hb d_Mo_inSet_28 rfl (lv_at hl 1 rfl) ?_
      refine lv_iload hx hb d_Mo_inSet_29 (lv_at hl 5 rfl) ?_
      refine lv_iload_n hx hb d_Mo_inSet_31 rfl (lv_at hl 1 rfl) ?_
      refine lv_iload hx hb d_Mo_inSet_32 (lv_at hl 5 rfl) ?_
      refine zz_callP (cl_Mo_92 (rest := []) hE (k_Mo_stands l D ca r n t rs w A a2 i a2 i (by omega) (by omega) (by omega) (by omega) hc (by omega) (by omega)) ⟨rfl, rfl, by decide, by decide⟩ hM hM.1 rfl hl.1 rfl (Nat.le_of_ble_eq_true rfl) d_Mo_inSet_34 ⟨by decide, by decide⟩) ?_
      refine zz_neB hx hb d_Mo_inSet_37 (tgt := 65) rfl (fun hT37 => ?_) (fun hF37 => ?_)
      · refine lv_iconst (v := nI 0) hx hb d_Mo_inSet_65 (by decide) ?_
        refine lv_istore hx hb d_Mo_inSet_66 hl (by decide) rfl (fun ls hl => ?_)
        have hl : lv_has ls 7 [(6, .int (nI 0)), (0, .ref r), (1, .int (nI a2)), (2, .int (nI b2)), (3, .int (nI both.toNat)), (4, .int (nI (mIn A a2 b2 both i))), (5, .int (nI i))] := hl
        refine lv_iload hx hb d_Mo_inSet_68 (lv_at hl 5 rfl) ?_
        refine lv_iload hx hb d_Mo_inSet_70 (lv_at hl 0 rfl) ?_
        refine zz_eq0 hx hb (by decide) d_Mo_inSet_72 (tgt := 79) rfl (fun _ => ?_) (fun h => absurd h (by decide))
        refine lv_iconst (v := nI 0) hx hb d_Mo_inSet_79 (by decide) ?_
        refine zz_iadd hx hb d_Mo_inSet_80 ?_
        refine lv_istore hx hb d_Mo_inSet_81 hl (by decide) rfl (fun ls hl => ?_)
        have hl : lv_has ls 7 [(4, .int (nI ((mIn A a2 b2 both i) + 0))), (6, .int (nI 0)), (0, .ref r), (1, .int (nI a2)), (2, .int (nI b2)), (3, .int (nI both.toNat)), (5, .int (nI i))] := hl
        refine lv_iinc (k := 6) (v := nI (i + 1)) hx hb d_Mo_inSet_83 hl rfl (zz_inc _) (by decide) rfl (fun ls hl => ?_)
        have hl : lv_has ls 7 [(5, .int (nI (i + 1))), (4, .int (nI ((mIn A a2 b2 both i) + 0))), (6, .int (nI 0)), (0, .ref r), (1, .int (nI a2)), (2, .int (nI b2)), (3, .int (nI both.toNat))] := hl
        refine lv_goto hx hb d_Mo_inSet_86 (tgt := 6) rfl ?_
        have hl : lv_has ls 7 [(0, .ref r), (1, .int (nI a2)), (2, .int (nI b2)), (3, .int (nI both.toNat)), (4, .int (nI (mIn A a2 b2 both (i + 1)))), (5, .int (nI (i + 1)))] := (by rw [show mIn A a2 b2 both (i + 1) = mIn A a2 b2 both i + 0 from by rw [show mIn A a2 b2 both (i + 1) = mIn A a2 b2 both i + (mBg A a2 i && !(mSt A a2 i a2 i) && (!both || mSt A a2 i b2 (A 4 b2))).toNat from rfl]; simp [hF24, hT37]]; exact lv_sub hl [3, 4, 5, 6, 1, 0] rfl)
        exact ih (i + 1) ls ⟨hl, by omega⟩ (by omega)
      · refine lv_iload_n hx hb d_Mo_inSet_40 rfl (lv_at hl 3 rfl) ?_
        refine zz_eqB hx hb d_Mo_inSet_41 (tgt := 61) rfl (fun hT41 => ?_) (fun hF41 => ?_)
        · refine lv_iconst (v := nI 1) hx hb d_Mo_inSet_61 (by decide) ?_
          refine lv_goto hx hb d_Mo_inSet_62 (tgt := 66) rfl ?_
          refine lv_istore hx hb d_Mo_inSet_66 hl (by decide) rfl (fun ls hl => ?_)
          have hl : lv_has ls 7 [(6, .int (nI 1)), (0, .ref r), (1, .int (nI a2)), (2, .int (nI b2)), (3, .int (nI both.toNat)), (4, .int (nI (mIn A a2 b2 both i))), (5, .int (nI i))] := hl
          refine lv_iload hx hb d_Mo_inSet_68 (lv_at hl 5 rfl) ?_
          refine lv_iload hx hb d_Mo_inSet_70 (lv_at hl 0 rfl) ?_
          refine zz_eq0 hx hb (by decide) d_Mo_inSet_72 (tgt := 79) rfl (fun h => absurd h (by decide)) (fun _ => ?_)
          refine lv_iconst (v := nI 1) hx hb d_Mo_inSet_75 (by decide) ?_
          refine lv_goto hx hb d_Mo_inSet_76 (tgt := 80) rfl ?_
          refine zz_iadd hx hb d_Mo_inSet_80 ?_
          refine lv_istore hx hb d_Mo_inSet_81 hl (by decide) rfl (fun ls hl => ?_)
          have hl : lv_has ls 7 [(4, .int (nI ((mIn A a2 b2 both i) + 1))), (6, .int (nI 1)), (0, .ref r), (1, .int (nI a2)), (2, .int (nI b2)), (3, .int (nI both.toNat)), (5, .int (nI i))] := hl
          refine lv_iinc (k := 6) (v := nI (i + 1)) hx hb d_Mo_inSet_83 hl rfl (zz_inc _) (by decide) rfl (fun ls hl => ?_)
          have hl : lv_has ls 7 [(5, .int (nI (i + 1))), (4, .int (nI ((mIn A a2 b2 both i) + 1))), (6, .int (nI 1)), (0, .ref r), (1, .int (nI a2)), (2, .int (nI b2)), (3, .int (nI both.toNat))] := hl
          refine lv_goto hx hb d_Mo_inSet_86 (tgt := 6) rfl ?_
          have hl : lv_has ls 7 [(0, .ref r), (1, .int (nI a2)), (2, .int (nI b2)), (3, .int (nI both.toNat)), (4, .int (nI (mIn A a2 b2 both (i + 1)))), (5, .int (nI (i + 1)))] := (by rw [show mIn A a2 b2 both (i + 1) = mIn A a2 b2 both i + 1 from by rw [show mIn A a2 b2 both (i + 1) = mIn A a2 b2 both i + (mBg A a2 i && !(mSt A a2 i a2 i) && (!both || mSt A a2 i b2 (A 4 b2))).toNat from rfl]; simp [hF24, hF37, hT41]]; exact lv_sub hl [3, 4, 5, 6, 1, 0] rfl)
          exact ih (i + 1) ls ⟨hl, by omega⟩ (by omega)
        · refine lv_aload_n hx hb d_Mo_inSet_44 rfl (lv_at hl 0 rfl) ?_
          refine lv_iload_n hx hb d_Mo_inSet_45 rfl (lv_at hl 1 rfl) ?_
          refine lv_iload hx hb d_Mo_inSet_46 (lv_at hl 5 rfl) ?_
          refine lv_iload_n hx hb d_Mo_inSet_48 rfl (lv_at hl 2 rfl) ?_
          refine lv_aload_n hx hb d_Mo_inSet_49 rfl (lv_at hl 0 rfl) ?_
          refine fg_Mo_19 hE hM.1 rfl d_Mo_inSet_50 ?_
          refine lv_iload_n hx hb d_Mo_inSet_53 rfl (lv_at hl 2 rfl) ?_
          refine mo_ld hE hM 4 (by decide) (i := b2) (show b2 < 2 by omega) d_Mo_inSet_54 ?_
          refine zz_callP (cl_Mo_92 (rest := []) hE (k_Mo_stands l D ca r n t rs w A a2 i b2 (A 4 b2) (by omega) (by omega) (by omega) (by omega) hc (by omega) (by omega)) ⟨rfl, rfl, by decide, by decide⟩ hM hM.1 rfl hl.1 rfl (Nat.le_of_ble_eq_true rfl) d_Mo_inSet_55 ⟨by decide, by decide⟩) ?_
          refine zz_eqB hx hb d_Mo_inSet_58 (tgt := 65) rfl (fun hT58 => ?_) (fun hF58 => ?_)
          · refine lv_iconst (v := nI 0) hx hb d_Mo_inSet_65 (by decide) ?_
            refine lv_istore hx hb d_Mo_inSet_66 hl (by decide) rfl (fun ls hl => ?_)
            have hl : lv_has ls 7 [(6, .int (nI 0)), (0, .ref r), (1, .int (nI a2)), (2, .int (nI b2)), (3, .int (nI both.toNat)), (4, .int (nI (mIn A a2 b2 both i))), (5, .int (nI i))] := hl
            refine lv_iload hx hb d_Mo_inSet_68 (lv_at hl 5 rfl) ?_
            refine lv_iload hx hb d_Mo_inSet_70 (lv_at hl 0 rfl) ?_
            refine zz_eq0 hx hb (by decide) d_Mo_inSet_72 (tgt := 79) rfl (fun _ => ?_) (fun h => absurd h (by decide))
            refine lv_iconst (v := nI 0) hx hb d_Mo_inSet_79 (by decide) ?_
            refine zz_iadd hx hb d_Mo_inSet_80 ?_
            refine lv_istore hx hb d_Mo_inSet_81 hl (by decide) rfl (fun ls hl => ?_)
            have hl : lv_has ls 7 [(4, .int (nI ((mIn A a2 b2 both i) + 0))), (6, .int (nI 0)), (0, .ref r), (1, .int (nI a2)), (2, .int (nI b2)), (3, .int (nI both.toNat)), (5, .int (nI i))] := hl
            refine lv_iinc (k := 6) (v := nI (i + 1)) hx hb d_Mo_inSet_83 hl rfl (zz_inc _) (by decide) rfl (fun ls hl => ?_)
            have hl : lv_has ls 7 [(5, .int (nI (i + 1))), (4, .int (nI ((mIn A a2 b2 both i) + 0))), (6, .int (nI 0)), (0, .ref r), (1, .int (nI a2)), (2, .int (nI b2)), (3, .int (nI both.toNat))] := hl
            refine lv_goto hx hb d_Mo_inSet_86 (tgt := 6) rfl ?_
            have hl : lv_has ls 7 [(0, .ref r), (1, .int (nI a2)), (2, .int (nI b2)), (3, .int (nI both.toNat)), (4, .int (nI (mIn A a2 b2 both (i + 1)))), (5, .int (nI (i + 1)))] := (by rw [show mIn A a2 b2 both (i + 1) = mIn A a2 b2 both i + 0 from by rw [show mIn A a2 b2 both (i + 1) = mIn A a2 b2 both i + (mBg A a2 i && !(mSt A a2 i a2 i) && (!both || mSt A a2 i b2 (A 4 b2))).toNat from rfl]; simp [hF24, hF37, hF41, hT58]]; exact lv_sub hl [3, 4, 5, 6, 1, 0] rfl)
            exact ih (i + 1) ls ⟨hl, by omega⟩ (by omega)
          · refine lv_iconst (v := nI 1) hx hb d_Mo_inSet_61 (by decide) ?_
            refine lv_goto hx hb d_Mo_inSet_62 (tgt := 66) rfl ?_
            refine lv_istore hx hb d_Mo_inSet_66 hl (by decide) rfl (fun ls hl => ?_)
            have hl : lv_has ls 7 [(6, .int (nI 1)), (0, .ref r), (1, .int (nI a2)), (2, .int (nI b2)), (3, .int (nI both.toNat)), (4, .int (nI (mIn A a2 b2 both i))), (5, .int (nI i))] := hl
            refine lv_iload hx hb d_Mo_inSet_68 (lv_at hl 5 rfl) ?_
            refine lv_iload hx hb d_Mo_inSet_70 (lv_at hl 0 rfl) ?_
            refine zz_eq0 hx hb (by decide) d_Mo_inSet_72 (tgt := 79) rfl (fun h => absurd h (by decide)) (fun _ => ?_)
            refine lv_iconst (v := nI 1) hx hb d_Mo_inSet_75 (by decide) ?_
            refine lv_goto hx hb d_Mo_inSet_76 (tgt := 80) rfl ?_
            refine zz_iadd hx hb d_Mo_inSet_80 ?_
            refine lv_istore hx hb d_Mo_inSet_81 hl (by decide) rfl (fun ls hl => ?_)
            have hl : lv_has ls 7 [(4, .int (nI ((mIn A a2 b2 both i) + 1))), (6, .int (nI 1)), (0, .ref r), (1, .int (nI a2)), (2, .int (nI b2)), (3, .int (nI both.toNat)), (5, .int (nI i))] := hl
            refine lv_iinc (k := 6) (v := nI (i + 1)) hx hb d_Mo_inSet_83 hl rfl (zz_inc _) (by decide) rfl (fun ls hl => ?_)
            have hl : lv_has ls 7 [(5, .int (nI (i + 1))), (4, .int (nI ((mIn A a2 b2 both i) + 1))), (6, .int (nI 1)), (0, .ref r), (1, .int (nI a2)), (2, .int (nI b2)), (3, .int (nI both.toNat))] := hl
            refine lv_goto hx hb d_Mo_inSet_86 (tgt := 6) rfl ?_
            have hl : lv_has ls 7 [(0, .ref r), (1, .int (nI a2)), (2, .int (nI b2)), (3, .int (nI both.toNat)), (4, .int (nI (mIn A a2 b2 both (i + 1)))), (5, .int (nI (i + 1)))] := (by rw [show mIn A a2 b2 both (i + 1) = mIn A a2 b2 both i + 1 from by rw [show mIn A a2 b2 both (i + 1) = mIn A a2 b2 both i + (mBg A a2 i && !(mSt A a2 i a2 i) && (!both || mSt A a2 i b2 (A 4 b2))).toNat from rfl]; simp [hF24, hF37, hF41, hF58]]; exact lv_sub hl [3, 4, 5, 6, 1, 0] rfl)
            exact ih (i + 1) ls ⟨hl, by omega⟩ (by omega)
