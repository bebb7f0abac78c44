/-! The law's loop, its start. -/
set_option maxHeartbeats 4000000 in
set_option maxRecDepth 100000 in
theorem la_loop {p : Program} {e : Env} {s : State} {m : MethodId} {below : List Frame} {meth : Method} {c : Code} (l : Launch) {b L : Nat} {xs : Nat → Int32} {D : va_G} {ca : Nat → ClassId} {o : Nat} (hE : zz_E p m c c_La_law 4 s #[Value.ref b] R_La D ca) (ho : s.heap.size = o) (hbo : b < o) (hL : L ≤ 2048) (hret : meth.sig.returnType = ret) (hlk : meth.locks = false) : ∀ (k : Nat) (ls : Array Slot) (H : Heap) (locs : List Loc) (cells slots : Nat), (lv_has ls 4 [(0, .ref b), (1, .ref o), (2, .ref (o + 73)), (3, .int (nI (4 * k)))] ∧ 4 * k ≤ L ∧ Jn D ca o H ∧ va_X b L xs s H ∧ cells = 92 + 2 * k ∧ slots = 1895 + 18 * k ∧ locs = []) → W p l e room_1 s m #[Value.ref b] below meth c H locs cells slots (lw_Z below #[Value.ref b] s) (F0 m 18 ls []) := by
  refine zz_loopC (σ := Nat) (fun k ls H locs cells slots => lv_has ls 4 [(0, .ref b), (1, .ref o), (2, .ref (o + 73)), (3, .int (nI (4 * k)))] ∧ 4 * k ≤ L ∧ Jn D ca o H ∧ va_X b L xs s H ∧ cells = 92 + 2 * k ∧ slots = 1895 + 18 * k ∧ locs = []) (fun k => L - 4 * k) ?_
  rintro k ih ls H locs cells slots ⟨hl, hk, hJ, hX, hc, hs, rfl⟩
  have hx := hE.1.1
  have hb := hE.1.2.1
  refine lv_iload_n hx hb d_La_law_18 rfl (lv_at hl 3 rfl) ?_
  refine lv_aload_n hx hb d_La_law_19 rfl (lv_at hl 0 rfl) ?_
  refine zl_slen hx hb hX d_La_law_20 ?_
  refine lv_iconst (v := nI 4) hx hb d_La_law_21 (by decide) ?_
  refine lv_isub hx hb d_La_law_22 ?_
  refine lv_icmp_gt hx hb d_La_law_23 (tgt := 682) rfl (fun _ => ?_) (fun hF => ?_)
  · refine lv_iconst (v := 1) hx hb d_La_law_682 (by decide) ?_
    refine W.widen (k := 600000) (n := 7302250) (by omega) (by omega) ?_
    exact lw_ret hx hb hret hlk d_La_law_683
  · have hi : 4 * k + 4 ≤ L := by
      rw [Int32.lt_iff_toInt_lt, nI_sub (by omega) (by omega), nI_toInt (by omega)] at hF
      omega
    have step : ∀ H2 : Heap, Jn D ca o H2 → va_X b L xs s H2 → W p l e room_1 s m #[Value.ref b] below meth c H2 [] (cells + 2) (slots + 18) (lw_Z below #[Value.ref b] s) (F0 m 676 ls []) := fun H2 J2 X2 => by
      refine lv_iinc (k := 3) (v := nI (4 * (k + 1))) hx hb d_La_law_676 hl rfl (by rw [show Int32.ofInt 4 = nI 4 from rfl, nI_add]; rfl) (by decide) rfl (fun ls2 hl2 => ?_)
      refine lv_goto hx hb d_La_law_679 (tgt := 18) rfl ?_
      exact ih (k + 1) ls2 H2 [] _ _ ⟨lv_sub hl2 [1, 2, 3, 0] rfl, by omega, J2, X2, by omega, by omega, rfl⟩ (by omega)
    have hcs : cells + 2 ≤ 600000 ∧ slots + 18 ≤ 7302250 := by omega
    refine lv_aload_n hx hb d_La_law_26 rfl (lv_at hl 0 rfl) ?_
    refine lv_iload_n hx hb d_La_law_27 rfl (lv_at hl 3 rfl) ?_
    refine zl_sld hx hb hX (j := 4 * k) (by omega) hL d_La_law_28 ?_
    refine lv_bipush (v := nI 31) hx hb d_La_law_29 (by decide) ?_
    refine lv_iand hx hb d_La_law_31 ?_
    generalize xs (4 * k) &&& nI 31 = v
    by_cases h1 : v.toInt < 0
    · exact lv_tableOut hx hb d_La_law_32 (Or.inl h1) (tgt := 676) rfl (W.widen (k := cells + 2) (n := slots + 18) (by omega) (by omega) (step H hJ hX))
    by_cases h2 : 19 < v.toInt
    · exact lv_tableOut hx hb d_La_law_32 (Or.inr h2) (tgt := 676) rfl (W.widen (k := cells + 2) (n := slots + 18) (by omega) (by omega) (step H hJ hX))
    obtain ⟨j, hj⟩ : ∃ j : Nat, v.toInt = (j : Int) := ⟨v.toInt.toNat, by omega⟩
    have hj20 : j < 20 := by omega
    rcases (show j = 0 ∨ j = 1 ∨ j = 2 ∨ j = 3 ∨ j = 4 ∨ j = 5 ∨ j = 6 ∨ j = 7 ∨ j = 8 ∨ j = 9 ∨ j = 10 ∨ j = 11 ∨ j = 12 ∨ j = 13 ∨ j = 14 ∨ j = 15 ∨ j = 16 ∨ j = 17 ∨ j = 18 ∨ j = 19 by omega) with rfl | rfl | rfl | rfl | rfl | rfl | rfl | rfl | rfl | rfl | rfl | rfl | rfl | rfl | rfl | rfl | rfl | rfl | rfl | rfl
    · exact lv_tableIn hx hb d_La_law_32 h1 h2 (by rw [hj]; rfl) (tgt := 128) rfl (lc_type l hE ho hbo hi hL hl hJ hX hcs step)
    · exact lv_tableIn hx hb d_La_law_32 h1 h2 (by rw [hj]; rfl) (tgt := 163) rfl (lc_add l hE ho hbo hi hL hl hJ hX hcs step)
    · exact lv_tableIn hx hb d_La_law_32 h1 h2 (by rw [hj]; rfl) (tgt := 176) rfl (lc_records l hE ho hbo hi hL hl hJ hX hcs step)
    · exact lv_tableIn hx hb d_La_law_32 h1 h2 (by rw [hj]; rfl) (tgt := 189) rfl (lc_words l hE ho hbo hi hL hl hJ hX hcs step)
    · exact lv_tableIn hx hb d_La_law_32 h1 h2 (by rw [hj]; rfl) (tgt := 222) rfl (lc_length l hE ho hbo hi hL hl hJ hX hcs step)
    · exact lv_tableIn hx hb d_La_law_32 h1 h2 (by rw [hj]; rfl) (tgt := 255) rfl (lc_unit l hE ho hbo hi hL hl hJ hX hcs step)
    · exact lv_tableIn hx hb d_La_law_32 h1 h2 (by rw [hj]; rfl) (tgt := 298) rfl (lc_jaccard l hE ho hbo hi hL hl hJ hX hcs step)
    · exact lv_tableIn hx hb d_La_law_32 h1 h2 (by rw [hj]; rfl) (tgt := 341) rfl (lc_edit l hE ho hbo hi hL hl hJ hX hcs step)
    · exact lv_tableIn hx hb d_La_law_32 h1 h2 (by rw [hj]; rfl) (tgt := 374) rfl (lc_join l hE ho hbo hi hL hl hJ hX hcs step)
    · exact lv_tableIn hx hb d_La_law_32 h1 h2 (by rw [hj]; rfl) (tgt := 413) rfl (lc_accept l hE ho hbo hi hL hl hJ hX hcs step)
    · exact lv_tableIn hx hb d_La_law_32 h1 h2 (by rw [hj]; rfl) (tgt := 426) rfl (lc_discard l hE ho hbo hi hL hl hJ hX hcs step)
    · exact lv_tableIn hx hb d_La_law_32 h1 h2 (by rw [hj]; rfl) (tgt := 439) rfl (lc_similar l hE ho hbo hi hL hl hJ hX hcs step)
    · exact lv_tableIn hx hb d_La_law_32 h1 h2 (by rw [hj]; rfl) (tgt := 472) rfl (lc_start l hE ho hbo hi hL hl hJ hX hcs step)
    · exact lv_tableIn hx hb d_La_law_32 h1 h2 (by rw [hj]; rfl) (tgt := 495) rfl (lc_work l hE ho hbo hi hL hl hJ hX hcs step)
    · exact lv_tableIn hx hb d_La_law_32 h1 h2 (by rw [hj]; rfl) (tgt := 518) rfl (lc_crash l hE ho hbo hi hL hl hJ hX hcs step)
    · exact lv_tableIn hx hb d_La_law_32 h1 h2 (by rw [hj]; rfl) (tgt := 541) rfl (lc_pairs l hE ho hbo hi hL hl hJ hX hcs step)
    · exact lv_tableIn hx hb d_La_law_32 h1 h2 (by rw [hj]; rfl) (tgt := 554) rfl (lc_found l hE ho hbo hi hL hl hJ hX hcs step)
    · exact lv_tableIn hx hb d_La_law_32 h1 h2 (by rw [hj]; rfl) (tgt := 587) rfl (lc_cluster l hE ho hbo hi hL hl hJ hX hcs step)
    · exact lv_tableIn hx hb d_La_law_32 h1 h2 (by rw [hj]; rfl) (tgt := 610) rfl (lc_keep l hE ho hbo hi hL hl hJ hX hcs step)
    · exact lv_tableIn hx hb d_La_law_32 h1 h2 (by rw [hj]; rfl) (tgt := 643) rfl (lc_kept l hE ho hbo hi hL hl hJ hX hcs step)

set_option maxHeartbeats 4000000 in
set_option maxRecDepth 100000 in
theorem whole_start {p : Program} {e : Env} {s : State} {m : MethodId} {below : List Frame} {meth : Method} {c : Code} (l : Launch) {b L : Nat} {xs : Nat → Int32} (hL : L ≤ 2048) (C0 : lw_At p s m meth c b L xs) : W p l e room_1 s m #[Value.ref b] below meth c s.heap [] 0 0 (lw_Z below #[Value.ref b] s) (entryFrame m ([Value.ref b] : List Value).toArray 4) := by
  obtain ⟨hx, hb, hret, hml, hown, hts, hX, hbl, hlk, -⟩ := C0
  obtain ⟨D, ca, hK⟩ := zk_start hts
  have hE : zz_E p m c c_La_law 4 s #[Value.ref b] R_La D ca := ⟨⟨hx, hb, hml, hown, fun w hw => hts w (List.mem_filter.mp hw).1⟩, hK⟩
  rw [lg_entry_eq]
  have hl := lv_entry [Value.ref b] (n := 4) (Nat.le_of_ble_eq_true rfl)
  generalize ((lg_sl [Value.ref b] ++ List.replicate (4 - (lg_sl [Value.ref b]).length) Slot.unset).toArray) = ls at hl ⊢
  have hl : lv_has ls 4 [(0, .ref b)] := hl
  obtain ⟨o, ho⟩ : ∃ o, s.heap.size = o := ⟨_, rfl⟩
  have hbo : b < o := by omega
  have hsz := ho
  refine zz_new (own := R_La) (C := R_RM) (T := T_RM) (N := 7) (ci := 6) hx hb hE.1.2.2.2.2 in_RM ty_RM tk_RM hE.1.2.2.2.1 hE.2.1 (hE.1.2.2.2.2 _ zm_11) (hE.1.2.2.2.2 _ zm_12) (hE.1.2.2.2.2 _ zm_1) rfl [.null, .int 0, .null, .int 0, .null, .null, .null] (fun j hj => by rcases (show j = 0 ∨ j = 1 ∨ j = 2 ∨ j = 3 ∨ j = 4 ∨ j = 5 ∨ j = 6 by omega) with rfl | rfl | rfl | rfl | rfl | rfl | rfl <;> rfl) (h := o) hsz (by decide) (by decide) d_La_law_0 (fun H h1 hn1 => ?_)
  have hsz : H.size = o + 1 := by rw [hn1.1, hsz]
  have k0 : Kp o s.heap H := fun a ha => hn1.2 a (by omega)
  refine lv_dup hx hb d_La_law_3 rfl ?_
  refine zl_callN (cl_La_9 (rest := [.ref o]) (As := []) hE (k_RM_init l D ca o) ⟨rfl, rfl, by decide, by decide⟩ ⟨h1, hsz⟩ rfl hl.1 rfl (Nat.le_of_ble_eq_true rfl) d_La_law_4 ⟨by decide, by decide⟩) (fun q hq => by have : o ≤ q := hq; omega) (fun H1 hp => ?_)
  obtain ⟨z1, k1, r1, r2, r3⟩ := hp
  have k2 : Kp o s.heap H1 := fun a ha => (k1 a ha).trans (k0 a ha)
  clear h1 hn1 k0 k1
  refine lv_astore_n hx hb d_La_law_7 rfl hl (by decide) rfl (fun ls hl => ?_)
  refine zz_new (own := R_La) (C := R_Mo) (T := T_Mo) (N := 22) (ci := 7) hx hb hE.1.2.2.2.2 in_Mo ty_Mo tk_Mo hE.1.2.2.2.1 hE.2.1 (hE.1.2.2.2.2 _ zm_431) (hE.1.2.2.2.2 _ zm_432) (hE.1.2.2.2.2 _ zm_5) rfl [.null, .null, .int 0, .null, .null, .null, .null, .null, .null, .null, .null, .int 0, .int 0, .null, .null, .null, .null, .null, .int 0, .null, .null, .null] (fun j hj => by rcases (show j = 0 ∨ j = 1 ∨ j = 2 ∨ j = 3 ∨ j = 4 ∨ j = 5 ∨ j = 6 ∨ j = 7 ∨ j = 8 ∨ j = 9 ∨ j = 10 ∨ j = 11 ∨ j = 12 ∨ j = 13 ∨ j = 14 ∨ j = 15 ∨ j = 16 ∨ j = 17 ∨ j = 18 ∨ j = 19 ∨ j = 20 ∨ j = 21 by omega) with rfl | rfl | rfl | rfl | rfl | rfl | rfl | rfl | rfl | rfl | rfl | rfl | rfl | rfl | rfl | rfl | rfl | rfl | rfl | rfl | rfl | rfl <;> rfl) (h := o + 73) z1 (by decide) (by decide) d_La_law_8 (fun H2 h1 hn1 => ?_)
  have z2 : H2.size = o + 73 + 1 := by rw [hn1.1, z1]
  have k3 : ∀ a, a < o + 73 → H2[a]? = H1[a]? := fun a ha => hn1.2 a (by omega)
  refine lv_dup hx hb d_La_law_11 rfl ?_
  refine zl_callN (cl_La_12 (rest := [.ref (o + 73)]) (As := []) hE (k_Mo_init l D ca (o + 73)) ⟨rfl, rfl, by decide, by decide⟩ ⟨h1, z2⟩ rfl hl.1 rfl (Nat.le_of_ble_eq_true rfl) d_La_law_12 ⟨by decide, by decide⟩) (fun q hq => by have := hq.1; omega) (fun H3 hp => ?_)
  obtain ⟨z3, k4, r4⟩ := hp
  have k5 : ∀ a, a < o + 73 → H3[a]? = H1[a]? := fun a ha => (k4 a ha).trans (k3 a ha)
  have hJ : Jn D ca o H3 := jn_init (r1.fr fun q _ h _ => k5 q (by omega)) (r2.kp fun q _ h => k5 q (by omega)) (r3.kp fun q _ h => k5 q h) r4
  have hX3 : va_X b L xs s H3 := hX.kept ((k5 b (by omega)).trans (k2 b hbo))
  refine lv_astore_n hx hb d_La_law_15 rfl hl (by decide) rfl (fun ls hl => ?_)
  refine lv_iconst (v := nI (4 * 0)) hx hb d_La_law_16 (by decide) ?_
  refine lv_istore_n hx hb d_La_law_17 rfl hl (by decide) rfl (fun ls hl => ?_)
  exact la_loop l hE ho hbo hL hret hlk 0 ls H3 [] _ _ ⟨lv_sub hl [3, 2, 1, 0] rfl, Nat.zero_le _, hJ, hX3, rfl, rfl, rfl⟩
