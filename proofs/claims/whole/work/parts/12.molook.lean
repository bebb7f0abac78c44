set_option maxHeartbeats 4000000 in
set_option maxRecDepth 100000 in
theorem k_Mo_look (l : Launch) (D : va_G) (ca : Nat → ClassId) (r n t rs w : Nat) (A : Nat → Nat → Nat) (q rr f : Nat) (hq : q ≤ 1) (hrr : rr ≤ 12) (hf : f ≤ 1) (hsz : A 2 (2 * rr + f) ≤ 12) (hraw : ∀ j, j < 312 → A 1 j < 256) : Met l y_Mo_look w_Mo_look (zr 1 0 0) (zz_P D ca [.ref r, .int (nI q), .int (nI rr), .int (nI f)] (fun H => MoAt D ca H r n t rs w A)) (zz_Q (fun H H1 v => v = none ∧ zz_fr (moFr r) H H1 ∧ ∃ B, MoAt D ca H1 r n t rs w B ∧ mLook A B q (nfS (fun i => A 1 (12 * (2 * rr + f) + i)) (A 2 (2 * rr + f))).1)) 0 0 (moFr r) := by
  refine zz_met (cc := c_Mo_look) (by decide) (Nat.le_of_ble_eq_true rfl) ?_
  intro p e s m below meth c ls hE hr hlk hnm hM hl
  have hx := hE.1.1
  have hb := hE.1.2.1
  have hK := hE.2
  have hl : lv_has ls 9 [(0, .ref r), (1, .int (nI q)), (2, .int (nI rr)), (3, .int (nI f))] := hl
  have hL : zz_L (moFr r) ([] : List Loc) := zz_L.nil
  have hS : zz_fr (moFr r) s.heap s.heap := zz_fr.rf
  refine lv_iconst (v := nI 2) hx hb d_Mo_look_0 (by decide) ?_
  refine lv_iload_n hx hb d_Mo_look_1 rfl (lv_at hl 2 rfl) ?_
  refine zz_imul hx hb d_Mo_look_2 ?_
  refine lv_iload_n hx hb d_Mo_look_3 rfl (lv_at hl 3 rfl) ?_
  refine zz_iadd hx hb d_Mo_look_4 ?_
  refine lv_istore hx hb d_Mo_look_5 hl (by decide) rfl (fun ls hl => ?_)
  have hl : lv_has ls 9 [(4, .int (nI ((2 * rr) + f))), (0, .ref r), (1, .int (nI q)), (2, .int (nI rr)), (3, .int (nI f))] := hl
  refine lv_iconst (v := nI 0) hx hb d_Mo_look_7 (by decide) ?_
  refine lv_istore hx hb d_Mo_look_8 hl (by decide) rfl (fun ls hl => ?_)
  have hl : lv_has ls 9 [(5, .int (nI 0)), (4, .int (nI ((2 * rr) + f))), (0, .ref r), (1, .int (nI q)), (2, .int (nI rr)), (3, .int (nI f))] := hl
  refine lv_iconst (v := nI 0) hx hb d_Mo_look_10 (by decide) ?_
  refine lv_istore hx hb d_Mo_look_11 hl (by decide) rfl (fun ls hl => ?_)
  have hl : lv_has ls 9 [(6, .int (nI 0)), (5, .int (nI 0)), (4, .int (nI ((2 * rr) + f))), (0, .ref r), (1, .int (nI q)), (2, .int (nI rr)), (3, .int (nI f))] := hl
  refine lv_iconst (v := nI 0) hx hb d_Mo_look_13 (by decide) ?_
  refine lv_istore hx hb d_Mo_look_14 hl (by decide) rfl (fun ls hl => ?_)
  have hl : lv_has ls 9 [(7, .int (nI 0)), (6, .int (nI 0)), (5, .int (nI 0)), (4, .int (nI ((2 * rr) + f))), (0, .ref r), (1, .int (nI q)), (2, .int (nI rr)), (3, .int (nI f))] := hl
  have hl : lv_has ls 9 [(0, .ref r), (1, .int (nI q)), (2, .int (nI rr)), (3, .int (nI f)), (4, .int (nI (2 * rr + f))), (5, .int (nI 0)), (6, .int (nI false.toNat)), (7, .int (nI 0))] := lv_sub hl [4, 5, 6, 7, 3, 2, 1, 0] rfl
  refine zz_loopH (σ := Nat × (Nat → Nat → Nat)) (fun ⟨i, B⟩ ls H locs => lv_has ls 9 [(0, .ref r), (1, .int (nI q)), (2, .int (nI rr)), (3, .int (nI f)), (4, .int (nI (2 * rr + f))), (5, .int (nI ((nfS (fun i => A 1 (12 * (2 * rr + f) + i)) i).1.length))), (6, .int (nI ((nfS (fun i => A 1 (12 * (2 * rr + f) + i)) i).2).toNat)), (7, .int (nI i))] ∧ i ≤ A 2 (2 * rr + f) ∧ MoAt D ca H r n t rs w B ∧ mBuf A B q (nfS (fun i => A 1 (12 * (2 * rr + f) + i)) i).1 ∧ zz_fr (moFr r) s.heap H ∧ zz_L (moFr r) locs) (fun ⟨i, B⟩ => A 2 (2 * rr + f) - i) ?_ (0, A) ls _ _ ⟨hl, Nat.zero_le _, hM, ⟨fun _ _ => rfl, fun j hj => absurd hj (Nat.not_lt_zero _), fun _ _ => rfl⟩, hS, hL⟩
  rintro ⟨i, B⟩ ih ls H locs ⟨hl, hi, hM, hB, hS, hL⟩
  have hB2 : B 2 (2 * rr + f) = A 2 (2 * rr + f) := congrFun (hB.1 2 (by decide)) _
  have hB1 : B 1 (12 * (2 * rr + f) + i) = A 1 (12 * (2 * rr + f) + i) := congrFun (hB.1 1 (by decide)) _
  have hlen := nfS_len (fun i => A 1 (12 * (2 * rr + f) + i)) i
  have hlen0 : (nfS (fun i => A 1 (12 * (2 * rr + f) + i)) i).1.length ≤ i := by omega
  refine lv_iload hx hb d_Mo_look_16 (lv_at hl 7 rfl) ?_
  refine lv_aload_n hx hb d_Mo_look_18 rfl (lv_at hl 0 rfl) ?_
  refine fg_Mo_13 hE hM.1 rfl d_Mo_look_19 ?_
  refine lv_iload hx hb d_Mo_look_22 (lv_at hl 4 rfl) ?_
  refine mo_ld hE hM 2 (by decide) (i := 2 * rr + f) (show 2 * rr + f < 26 by omega) d_Mo_look_24 ?_
  refine zz_ge hx hb (by omega) (by omega) d_Mo_look_25 (tgt := 110) rfl (fun hT25 => ?_) (fun hF25 => ?_)
  · refine lv_aload_n hx hb d_Mo_look_110 rfl (lv_at hl 0 rfl) ?_
    refine fg_Mo_19 hE hM.1 rfl d_Mo_look_111 ?_
    refine lv_iload_n hx hb d_Mo_look_114 rfl (lv_at hl 1 rfl) ?_
    refine lv_iload hx hb d_Mo_look_115 (lv_at hl 5 rfl) ?_
    refine mo_st hE hM hS hL 4 (by decide) (i := q) (x := (nfS (fun i => A 1 (12 * (2 * rr + f) + i)) i).1.length) (show q < 2 by omega) d_Mo_look_117 (fun H locs hM hS hL => ?_)
    have hi9 : i = A 2 (2 * rr + f) := by omega
    refine zz_vret hx hb hr hlk ⟨rfl, hS, _, hM, ?_⟩ hL d_Mo_look_118
    rw [← hi9]
    exact mBuf_end hB
  · refine lv_aload_n hx hb d_Mo_look_28 rfl (lv_at hl 0 rfl) ?_
    refine fg_Mo_7 hE hM.1 rfl d_Mo_look_29 ?_
    refine lv_bipush (v := nI 12) hx hb d_Mo_look_32 (by decide) ?_
    refine lv_iload hx hb d_Mo_look_34 (lv_at hl 4 rfl) ?_
    refine zz_imul hx hb d_Mo_look_36 ?_
    refine lv_iload hx hb d_Mo_look_37 (lv_at hl 7 rfl) ?_
    refine zz_iadd hx hb d_Mo_look_39 ?_
    refine mo_ld hE hM 1 (by decide) (i := (12 * (2 * rr + f)) + i) (show (12 * (2 * rr + f)) + i < 312 by omega) d_Mo_look_40 ?_
    have hc1 : B 1 (12 * (2 * rr + f) + i) < 256 := by rw [hB1]; exact hraw _ (by omega)
    have hc2 := mLet_lt hc1
    refine zz_callP (cl_Mo_76 (rest := []) hE (k_Mo_letter l D ca (B 1 ((12 * (2 * rr + f)) + i)) hc1) ⟨rfl, rfl, by decide, by decide⟩ trivial rfl hl.1 rfl (Nat.le_of_ble_eq_true rfl) d_Mo_look_41 ⟨by decide, by decide⟩) ?_
    refine lv_istore hx hb d_Mo_look_44 hl (by decide) rfl (fun ls hl => ?_)
    have hl : lv_has ls 9 [(8, .int (nI (mLet (B 1 ((12 * (2 * rr + f)) + i))))), (0, .ref r), (1, .int (nI q)), (2, .int (nI rr)), (3, .int (nI f)), (4, .int (nI (2 * rr + f))), (5, .int (nI ((nfS (fun i => A 1 (12 * (2 * rr + f) + i)) i).1.length))), (6, .int (nI ((nfS (fun i => A 1 (12 * (2 * rr + f) + i)) i).2).toNat)), (7, .int (nI i))] := hl
    refine lv_iload hx hb d_Mo_look_46 (lv_at hl 0 rfl) ?_
    refine zz_ne0 hx hb (by omega) d_Mo_look_48 (tgt := 57) rfl (fun hT48 => ?_) (fun hF48 => ?_)
    · have hz0 : ¬ mLet (A 1 (12 * (2 * rr + f) + i)) = 0 := by rw [← hB1]; omega
      refine lv_iload hx hb d_Mo_look_57 (lv_at hl 7 rfl) ?_
      refine zz_eqB hx hb d_Mo_look_59 (tgt := 84) rfl (fun hT59 => ?_) (fun hF59 => ?_)
      · refine lv_aload_n hx hb d_Mo_look_84 rfl (lv_at hl 1 rfl) ?_
        refine fg_Mo_16 hE hM.1 rfl d_Mo_look_85 ?_
        refine lv_bipush (v := nI 12) hx hb d_Mo_look_88 (by decide) ?_
        refine lv_iload_n hx hb d_Mo_look_90 rfl (lv_at hl 2 rfl) ?_
        refine zz_imul hx hb d_Mo_look_91 ?_
        refine lv_iload hx hb d_Mo_look_92 (lv_at hl 6 rfl) ?_
        refine zz_iadd hx hb d_Mo_look_94 ?_
        refine lv_iload hx hb d_Mo_look_95 (lv_at hl 0 rfl) ?_
        refine mo_st hE hM hS hL 3 (by decide) (i := (12 * q) + ((nfS (fun i => A 1 (12 * (2 * rr + f) + i)) i).1.length)) (x := mLet (B 1 ((12 * (2 * rr + f)) + i))) (show (12 * q) + ((nfS (fun i => A 1 (12 * (2 * rr + f) + i)) i).1.length) < 24 by omega) d_Mo_look_97 (fun H locs hM hS hL => ?_)
        refine lv_iinc (k := 6) (v := nI ((nfS (fun i => A 1 (12 * (2 * rr + f) + i)) i).1.length + 1)) hx hb d_Mo_look_98 hl rfl (zz_inc _) (by decide) rfl (fun ls hl => ?_)
        have hl : lv_has ls 9 [(5, .int (nI ((nfS (fun i => A 1 (12 * (2 * rr + f) + i)) i).1.length + 1))), (8, .int (nI (mLet (B 1 ((12 * (2 * rr + f)) + i))))), (0, .ref r), (1, .int (nI q)), (2, .int (nI rr)), (3, .int (nI f)), (4, .int (nI (2 * rr + f))), (6, .int (nI ((nfS (fun i => A 1 (12 * (2 * rr + f) + i)) i).2).toNat)), (7, .int (nI i))] := hl
        refine lv_iconst (v := nI 0) hx hb d_Mo_look_101 (by decide) ?_
        refine lv_istore hx hb d_Mo_look_102 hl (by decide) rfl (fun ls hl => ?_)
        have hl : lv_has ls 9 [(6, .int (nI 0)), (5, .int (nI ((nfS (fun i => A 1 (12 * (2 * rr + f) + i)) i).1.length + 1))), (8, .int (nI (mLet (B 1 ((12 * (2 * rr + f)) + i))))), (0, .ref r), (1, .int (nI q)), (2, .int (nI rr)), (3, .int (nI f)), (4, .int (nI (2 * rr + f))), (7, .int (nI i))] := hl
        refine lv_iinc (k := 8) (v := nI (i + 1)) hx hb d_Mo_look_104 hl rfl (zz_inc _) (by decide) rfl (fun ls hl => ?_)
        have hl : lv_has ls 9 [(7, .int (nI (i + 1))), (6, .int (nI 0)), (5, .int (nI ((nfS (fun i => A 1 (12 * (2 * rr + f) + i)) i).1.length + 1))), (8, .int (nI (mLet (B 1 ((12 * (2 * rr + f)) + i))))), (0, .ref r), (1, .int (nI q)), (2, .int (nI rr)), (3, .int (nI f)), (4, .int (nI (2 * rr + f)))] := hl
        refine lv_goto hx hb d_Mo_look_107 (tgt := 16) rfl ?_
        have hn : nfS (fun i => A 1 (12 * (2 * rr + f) + i)) (i + 1) = ((nfS (fun i => A 1 (12 * (2 * rr + f) + i)) i).1 ++ [mLet (A 1 (12 * (2 * rr + f) + i))], false) := by simp only [nfS]; rw [if_neg hz0, if_neg (fun h => by rw [hT59] at h; exact absurd h.1 (by decide))]
        have e5 : (nfS (fun i => A 1 (12 * (2 * rr + f) + i)) (i + 1)).1.length = (nfS (fun i => A 1 (12 * (2 * rr + f) + i)) i).1.length + 1 := by rw [hn]; simp
        have e6 : (nfS (fun i => A 1 (12 * (2 * rr + f) + i)) (i + 1)).2 = false := by rw [hn]
        have hB9 : mBuf A (up2 B 3 ((12 * q) + ((nfS (fun i => A 1 (12 * (2 * rr + f) + i)) i).1.length)) (mLet (B 1 ((12 * (2 * rr + f)) + i)))) q (nfS (fun i => A 1 (12 * (2 * rr + f) + i)) (i + 1)).1 := by
          rw [hn, hB1]
          exact mBuf_add hB (by omega)
        have hl : lv_has ls 9 [(0, .ref r), (1, .int (nI q)), (2, .int (nI rr)), (3, .int (nI f)), (4, .int (nI (2 * rr + f))), (5, .int (nI ((nfS (fun i => A 1 (12 * (2 * rr + f) + i)) (i + 1)).1.length))), (6, .int (nI ((nfS (fun i => A 1 (12 * (2 * rr + f) + i)) (i + 1)).2).toNat)), (7, .int (nI (i + 1)))] := (by rw [e5, e6]; exact lv_sub hl [4, 5, 6, 7, 8, 2, 1, 0] rfl)
        exact ih (i + 1, (up2 B 3 ((12 * q) + ((nfS (fun i => A 1 (12 * (2 * rr + f) + i)) i).1.length)) (mLet (B 1 ((12 * (2 * rr + f)) + i))))) ls _ _ ⟨hl, by omega, hM, hB9, hS, hL⟩ (by show _ - (i + 1) < _ - i; omega)
      · refine lv_iload hx hb d_Mo_look_62 (lv_at hl 6 rfl) ?_
        refine zz_le0 hx hb (by omega) d_Mo_look_64 (tgt := 84) rfl (fun hT64 => ?_) (fun hF64 => ?_)
        · refine lv_aload_n hx hb d_Mo_look_84 rfl (lv_at hl 1 rfl) ?_
          refine fg_Mo_16 hE hM.1 rfl d_Mo_look_85 ?_
          refine lv_bipush (v := nI 12) hx hb d_Mo_look_88 (by decide) ?_
          refine lv_iload_n hx hb d_Mo_look_90 rfl (lv_at hl 2 rfl) ?_
          refine zz_imul hx hb d_Mo_look_91 ?_
          refine lv_iload hx hb d_Mo_look_92 (lv_at hl 6 rfl) ?_
          refine zz_iadd hx hb d_Mo_look_94 ?_
          refine lv_iload hx hb d_Mo_look_95 (lv_at hl 0 rfl) ?_
          refine mo_st hE hM hS hL 3 (by decide) (i := (12 * q) + ((nfS (fun i => A 1 (12 * (2 * rr + f) + i)) i).1.length)) (x := mLet (B 1 ((12 * (2 * rr + f)) + i))) (show (12 * q) + ((nfS (fun i => A 1 (12 * (2 * rr + f) + i)) i).1.length) < 24 by omega) d_Mo_look_97 (fun H locs hM hS hL => ?_)
          refine lv_iinc (k := 6) (v := nI ((nfS (fun i => A 1 (12 * (2 * rr + f) + i)) i).1.length + 1)) hx hb d_Mo_look_98 hl rfl (zz_inc _) (by decide) rfl (fun ls hl => ?_)
          have hl : lv_has ls 9 [(5, .int (nI ((nfS (fun i => A 1 (12 * (2 * rr + f) + i)) i).1.length + 1))), (8, .int (nI (mLet (B 1 ((12 * (2 * rr + f)) + i))))), (0, .ref r), (1, .int (nI q)), (2, .int (nI rr)), (3, .int (nI f)), (4, .int (nI (2 * rr + f))), (6, .int (nI ((nfS (fun i => A 1 (12 * (2 * rr + f) + i)) i).2).toNat)), (7, .int (nI i))] := hl
          refine lv_iconst (v := nI 0) hx hb d_Mo_look_101 (by decide) ?_
          refine lv_istore hx hb d_Mo_look_102 hl (by decide) rfl (fun ls hl => ?_)
          have hl : lv_has ls 9 [(6, .int (nI 0)), (5, .int (nI ((nfS (fun i => A 1 (12 * (2 * rr + f) + i)) i).1.length + 1))), (8, .int (nI (mLet (B 1 ((12 * (2 * rr + f)) + i))))), (0, .ref r), (1, .int (nI q)), (2, .int (nI rr)), (3, .int (nI f)), (4, .int (nI (2 * rr + f))), (7, .int (nI i))] := hl
          refine lv_iinc (k := 8) (v := nI (i + 1)) hx hb d_Mo_look_104 hl rfl (zz_inc _) (by decide) rfl (fun ls hl => ?_)
          have hl : lv_has ls 9 [(7, .int (nI (i + 1))), (6, .int (nI 0)), (5, .int (nI ((nfS (fun i => A 1 (12 * (2 * rr + f) + i)) i).1.length + 1))), (8, .int (nI (mLet (B 1 ((12 * (2 * rr + f)) + i))))), (0, .ref r), (1, .int (nI q)), (2, .int (nI rr)), (3, .int (nI f)), (4, .int (nI (2 * rr + f)))] := hl
          refine lv_goto hx hb d_Mo_look_107 (tgt := 16) rfl ?_
          have hn : nfS (fun i => A 1 (12 * (2 * rr + f) + i)) (i + 1) = ((nfS (fun i => A 1 (12 * (2 * rr + f) + i)) i).1 ++ [mLet (A 1 (12 * (2 * rr + f) + i))], false) := by simp only [nfS]; rw [if_neg hz0, if_neg (fun h => by omega)]
          have e5 : (nfS (fun i => A 1 (12 * (2 * rr + f) + i)) (i + 1)).1.length = (nfS (fun i => A 1 (12 * (2 * rr + f) + i)) i).1.length + 1 := by rw [hn]; simp
          have e6 : (nfS (fun i => A 1 (12 * (2 * rr + f) + i)) (i + 1)).2 = false := by rw [hn]
          have hB9 : mBuf A (up2 B 3 ((12 * q) + ((nfS (fun i => A 1 (12 * (2 * rr + f) + i)) i).1.length)) (mLet (B 1 ((12 * (2 * rr + f)) + i)))) q (nfS (fun i => A 1 (12 * (2 * rr + f) + i)) (i + 1)).1 := by
            rw [hn, hB1]
            exact mBuf_add hB (by omega)
          have hl : lv_has ls 9 [(0, .ref r), (1, .int (nI q)), (2, .int (nI rr)), (3, .int (nI f)), (4, .int (nI (2 * rr + f))), (5, .int (nI ((nfS (fun i => A 1 (12 * (2 * rr + f) + i)) (i + 1)).1.length))), (6, .int (nI ((nfS (fun i => A 1 (12 * (2 * rr + f) + i)) (i + 1)).2).toNat)), (7, .int (nI (i + 1)))] := (by rw [e5, e6]; exact lv_sub hl [4, 5, 6, 7, 8, 2, 1, 0] rfl)
          exact ih (i + 1, (up2 B 3 ((12 * q) + ((nfS (fun i => A 1 (12 * (2 * rr + f) + i)) i).1.length)) (mLet (B 1 ((12 * (2 * rr + f)) + i))))) ls _ _ ⟨hl, by omega, hM, hB9, hS, hL⟩ (by show _ - (i + 1) < _ - i; omega)
        · rw [if_pos ⟨hF59, hF64⟩] at hlen
          refine lv_aload_n hx hb d_Mo_look_67 rfl (lv_at hl 1 rfl) ?_
          refine fg_Mo_16 hE hM.1 rfl d_Mo_look_68 ?_
          refine lv_bipush (v := nI 12) hx hb d_Mo_look_71 (by decide) ?_
          refine lv_iload_n hx hb d_Mo_look_73 rfl (lv_at hl 2 rfl) ?_
          refine zz_imul hx hb d_Mo_look_74 ?_
          refine lv_iload hx hb d_Mo_look_75 (lv_at hl 6 rfl) ?_
          refine zz_iadd hx hb d_Mo_look_77 ?_
          refine lv_bipush (v := nI 32) hx hb d_Mo_look_78 (by decide) ?_
          refine mo_st hE hM hS hL 3 (by decide) (i := (12 * q) + ((nfS (fun i => A 1 (12 * (2 * rr + f) + i)) i).1.length)) (x := 32) (show (12 * q) + ((nfS (fun i => A 1 (12 * (2 * rr + f) + i)) i).1.length) < 24 by omega) d_Mo_look_80 (fun H locs hM hS hL => ?_)
          refine lv_iinc (k := 6) (v := nI ((nfS (fun i => A 1 (12 * (2 * rr + f) + i)) i).1.length + 1)) hx hb d_Mo_look_81 hl rfl (zz_inc _) (by decide) rfl (fun ls hl => ?_)
          have hl : lv_has ls 9 [(5, .int (nI ((nfS (fun i => A 1 (12 * (2 * rr + f) + i)) i).1.length + 1))), (8, .int (nI (mLet (B 1 ((12 * (2 * rr + f)) + i))))), (0, .ref r), (1, .int (nI q)), (2, .int (nI rr)), (3, .int (nI f)), (4, .int (nI (2 * rr + f))), (6, .int (nI ((nfS (fun i => A 1 (12 * (2 * rr + f) + i)) i).2).toNat)), (7, .int (nI i))] := hl
          refine lv_aload_n hx hb d_Mo_look_84 rfl (lv_at hl 2 rfl) ?_
          refine fg_Mo_16 hE hM.1 rfl d_Mo_look_85 ?_
          refine lv_bipush (v := nI 12) hx hb d_Mo_look_88 (by decide) ?_
          refine lv_iload_n hx hb d_Mo_look_90 rfl (lv_at hl 3 rfl) ?_
          refine zz_imul hx hb d_Mo_look_91 ?_
          refine lv_iload hx hb d_Mo_look_92 (lv_at hl 0 rfl) ?_
          refine zz_iadd hx hb d_Mo_look_94 ?_
          refine lv_iload hx hb d_Mo_look_95 (lv_at hl 1 rfl) ?_
          refine mo_st hE hM hS hL 3 (by decide) (i := (12 * q) + ((nfS (fun i => A 1 (12 * (2 * rr + f) + i)) i).1.length + 1)) (x := mLet (B 1 ((12 * (2 * rr + f)) + i))) (show (12 * q) + ((nfS (fun i => A 1 (12 * (2 * rr + f) + i)) i).1.length + 1) < 24 by omega) d_Mo_look_97 (fun H locs hM hS hL => ?_)
          refine lv_iinc (k := 0) (v := nI ((nfS (fun i => A 1 (12 * (2 * rr + f) + i)) i).1.length + 1 + 1)) hx hb d_Mo_look_98 hl rfl (zz_inc _) (by decide) rfl (fun ls hl => ?_)
          have hl : lv_has ls 9 [(5, .int (nI ((nfS (fun i => A 1 (12 * (2 * rr + f) + i)) i).1.length + 1 + 1))), (8, .int (nI (mLet (B 1 ((12 * (2 * rr + f)) + i))))), (0, .ref r), (1, .int (nI q)), (2, .int (nI rr)), (3, .int (nI f)), (4, .int (nI (2 * rr + f))), (6, .int (nI ((nfS (fun i => A 1 (12 * (2 * rr + f) + i)) i).2).toNat)), (7, .int (nI i))] := hl
          refine lv_iconst (v := nI 0) hx hb d_Mo_look_101 (by decide) ?_
          refine lv_istore hx hb d_Mo_look_102 hl (by decide) rfl (fun ls hl => ?_)
          have hl : lv_has ls 9 [(6, .int (nI 0)), (5, .int (nI ((nfS (fun i => A 1 (12 * (2 * rr + f) + i)) i).1.length + 1 + 1))), (8, .int (nI (mLet (B 1 ((12 * (2 * rr + f)) + i))))), (0, .ref r), (1, .int (nI q)), (2, .int (nI rr)), (3, .int (nI f)), (4, .int (nI (2 * rr + f))), (7, .int (nI i))] := hl
          refine lv_iinc (k := 8) (v := nI (i + 1)) hx hb d_Mo_look_104 hl rfl (zz_inc _) (by decide) rfl (fun ls hl => ?_)
          have hl : lv_has ls 9 [(7, .int (nI (i + 1))), (6, .int (nI 0)), (5, .int (nI ((nfS (fun i => A 1 (12 * (2 * rr + f) + i)) i).1.length + 1 + 1))), (8, .int (nI (mLet (B 1 ((12 * (2 * rr + f)) + i))))), (0, .ref r), (1, .int (nI q)), (2, .int (nI rr)), (3, .int (nI f)), (4, .int (nI (2 * rr + f)))] := hl
          refine lv_goto hx hb d_Mo_look_107 (tgt := 16) rfl ?_
          have hn : nfS (fun i => A 1 (12 * (2 * rr + f) + i)) (i + 1) = ((nfS (fun i => A 1 (12 * (2 * rr + f) + i)) i).1 ++ [32, mLet (A 1 (12 * (2 * rr + f) + i))], false) := by simp only [nfS]; rw [if_neg hz0, if_pos ⟨hF59, hF64⟩]
          have e5 : (nfS (fun i => A 1 (12 * (2 * rr + f) + i)) (i + 1)).1.length = (nfS (fun i => A 1 (12 * (2 * rr + f) + i)) i).1.length + 1 + 1 := by rw [hn]; simp
          have e6 : (nfS (fun i => A 1 (12 * (2 * rr + f) + i)) (i + 1)).2 = false := by rw [hn]
          have hB9 : mBuf A (up2 (up2 B 3 ((12 * q) + ((nfS (fun i => A 1 (12 * (2 * rr + f) + i)) i).1.length)) 32) 3 ((12 * q) + ((nfS (fun i => A 1 (12 * (2 * rr + f) + i)) i).1.length + 1)) (mLet (B 1 ((12 * (2 * rr + f)) + i)))) q (nfS (fun i => A 1 (12 * (2 * rr + f) + i)) (i + 1)).1 := by
            rw [hn, hB1]
            have h9 := mBuf_add (x := mLet (A 1 (12 * (2 * rr + f) + i))) (mBuf_add (x := 32) hB (by omega)) (by simp; omega)
            simpa using h9
          have hl : lv_has ls 9 [(0, .ref r), (1, .int (nI q)), (2, .int (nI rr)), (3, .int (nI f)), (4, .int (nI (2 * rr + f))), (5, .int (nI ((nfS (fun i => A 1 (12 * (2 * rr + f) + i)) (i + 1)).1.length))), (6, .int (nI ((nfS (fun i => A 1 (12 * (2 * rr + f) + i)) (i + 1)).2).toNat)), (7, .int (nI (i + 1)))] := (by rw [e5, e6]; exact lv_sub hl [4, 5, 6, 7, 8, 2, 1, 0] rfl)
          exact ih (i + 1, (up2 (up2 B 3 ((12 * q) + ((nfS (fun i => A 1 (12 * (2 * rr + f) + i)) i).1.length)) 32) 3 ((12 * q) + ((nfS (fun i => A 1 (12 * (2 * rr + f) + i)) i).1.length + 1)) (mLet (B 1 ((12 * (2 * rr + f)) + i))))) ls _ _ ⟨hl, by omega, hM, hB9, hS, hL⟩ (by show _ - (i + 1) < _ - i; omega)
    · have hz0 : mLet (A 1 (12 * (2 * rr + f) + i)) = 0 := by rw [← hB1]; exact hF48
      refine lv_iconst (v := nI 1) hx hb d_Mo_look_51 (by decide) ?_
      refine lv_istore hx hb d_Mo_look_52 hl (by decide) rfl (fun ls hl => ?_)
      have hl : lv_has ls 9 [(6, .int (nI 1)), (8, .int (nI (mLet (B 1 ((12 * (2 * rr + f)) + i))))), (0, .ref r), (1, .int (nI q)), (2, .int (nI rr)), (3, .int (nI f)), (4, .int (nI (2 * rr + f))), (5, .int (nI ((nfS (fun i => A 1 (12 * (2 * rr + f) + i)) i).1.length))), (7, .int (nI i))] := hl
      refine lv_goto hx hb d_Mo_look_54 (tgt := 104) rfl ?_
      refine lv_iinc (k := 8) (v := nI (i + 1)) hx hb d_Mo_look_104 hl rfl (zz_inc _) (by decide) rfl (fun ls hl => ?_)
      have hl : lv_has ls 9 [(7, .int (nI (i + 1))), (6, .int (nI 1)), (8, .int (nI (mLet (B 1 ((12 * (2 * rr + f)) + i))))), (0, .ref r), (1, .int (nI q)), (2, .int (nI rr)), (3, .int (nI f)), (4, .int (nI (2 * rr + f))), (5, .int (nI ((nfS (fun i => A 1 (12 * (2 * rr + f) + i)) i).1.length)))] := hl
      refine lv_goto hx hb d_Mo_look_107 (tgt := 16) rfl ?_
      have hn : nfS (fun i => A 1 (12 * (2 * rr + f) + i)) (i + 1) = ((nfS (fun i => A 1 (12 * (2 * rr + f) + i)) i).1, true) := by simp only [nfS]; rw [if_pos hz0]
      have e5 : (nfS (fun i => A 1 (12 * (2 * rr + f) + i)) (i + 1)).1.length = (nfS (fun i => A 1 (12 * (2 * rr + f) + i)) i).1.length := by rw [hn]
      have e6 : (nfS (fun i => A 1 (12 * (2 * rr + f) + i)) (i + 1)).2 = true := by rw [hn]
      have hB9 : mBuf A B q (nfS (fun i => A 1 (12 * (2 * rr + f) + i)) (i + 1)).1 := by rw [hn]; exact hB
      have hl : lv_has ls 9 [(0, .ref r), (1, .int (nI q)), (2, .int (nI rr)), (3, .int (nI f)), (4, .int (nI (2 * rr + f))), (5, .int (nI ((nfS (fun i => A 1 (12 * (2 * rr + f) + i)) (i + 1)).1.length))), (6, .int (nI ((nfS (fun i => A 1 (12 * (2 * rr + f) + i)) (i + 1)).2).toNat)), (7, .int (nI (i + 1)))] := (by rw [e5, e6]; exact lv_sub hl [3, 4, 5, 6, 7, 8, 1, 0] rfl)
      exact ih (i + 1, B) ls _ _ ⟨hl, by omega, hM, hB9, hS, hL⟩ (by show _ - (i + 1) < _ - i; omega)
