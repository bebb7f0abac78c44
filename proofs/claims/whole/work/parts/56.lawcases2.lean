set_option maxHeartbeats 4000000 in
set_option maxRecDepth 100000 in
theorem lc_discard {p : Program} {e : Env} {s : State} {m : MethodId} {below : List Frame} {meth : Method} {c : Code} (l : Launch) {b L : Nat} {xs : Nat → Int32} {Q : State → Prop} {D : va_G} {ca : Nat → ClassId} {o i : Nat} {H : Heap} {ls : Array Slot} {cells slots : Nat} (hE : zz_E p m c c_La_law 4 s #[Value.ref b] R_La D ca) (ho : s.heap.size = o) (hbo : b < o) (hi : i + 4 ≤ L) (hL : L ≤ 2048) (hl : lv_has ls 4 [(0, .ref b), (1, .ref o), (2, .ref (o + 73)), (3, .int (nI i))]) (hJ : Jn D ca o H) (hX : va_X b L xs s H) (hcs : cells + 2 ≤ 600000 ∧ slots + 18 ≤ 7302250) (kk : ∀ H2 : Heap, Jn D ca o H2 → va_X b L xs s H2 → W p l e room_1 s m #[Value.ref b] below meth c H2 [] (cells + 2) (slots + 18) Q (F0 m 676 ls [])) : W p l e room_1 s m #[Value.ref b] below meth c H [] cells slots Q (F0 m 426 ls []) := by
  obtain ⟨n, h, rl, S, K, tk, w, A, F, N, Y, W0, E, rs, B, J⟩ := hJ
  have hx := hE.1.1
  have hb := hE.1.2.1
  have hP := J.2.2.2
  have hn := hP.1.1.2.1
  have hw4 := hP.1.1.2.2.1
  have hh := hP.1.2.1
  have hN := hP.2.2.1.1
  have hF := hP.2.2.1.2.1
  have htk := hP.2.2.2.1
  have hnb := hP.2.2.2.2.1
  have hdd := hP.2.2.2.2.2.1
  have hA := hP.1.1
  have hSk := hP.1.2
  refine lv_aload_n hx hb d_La_law_426 rfl (lv_at hl 1 rfl) ?_
  refine zl_callI (cl_La_60 (rest := []) (As := []) hE (k_RM_discard l D ca o n h rl S K hh) ⟨rfl, rfl, by decide, by decide⟩ J.1.1 J.1.1.1 rfl hl.1 rfl (Nat.le_of_ble_eq_true rfl) d_La_law_427 ⟨show cells + 0 ≤ 600000 by omega, show slots + 0 ≤ 7302250 by omega⟩) (fun q hq => by unfold rmFr at hq; omega) (fun H1 hpH1 => ?_)
  obtain ⟨f1, r1⟩ := hpH1
  have k1 : Kp o H H1 := Kp.rm f1
  have hX1 := hX.kept (k1 b hbo)
  have hM1 := J.2.2.1.rm f1
  refine lv_aload_n hx hb d_La_law_430 rfl (lv_at hl 2 rfl) ?_
  refine zl_callI (cl_La_64 (rest := [.int (nI (decide (0 < h)).toNat)]) (As := []) hE (k_Mo_discard l D ca (o + 73) n h rs w B hh) ⟨rfl, rfl, by decide, by decide⟩ hM1 hM1.1 rfl hl.1 rfl (Nat.le_of_ble_eq_true rfl) d_La_law_431 ⟨show cells + 0 ≤ 600000 by omega, show slots + 0 ≤ 7302250 by omega⟩) (fun q hq => by have := hq.1; omega) (fun H2 hpH2 => ?_)
  obtain ⟨f2, r4⟩ := hpH2
  have hz := jn_discard J f1 r1 f2 r4
  have hans : ((nI (decide (0 < h)).toNat) : Int32) = (nI (decide (0 < h)).toNat) := rfl
  refine lv_icmp_eq hx hb d_La_law_434 (tgt := 676) rfl (fun _ => ?_) (fun h9 => absurd hans h9)
  exact W.widen (k := cells + 2) (n := slots + 18) (by omega) (by omega) (kk H2 hz.1 (hX.kept (hz.2 b hbo)))

set_option maxHeartbeats 4000000 in
set_option maxRecDepth 100000 in
theorem lc_similar {p : Program} {e : Env} {s : State} {m : MethodId} {below : List Frame} {meth : Method} {c : Code} (l : Launch) {b L : Nat} {xs : Nat → Int32} {Q : State → Prop} {D : va_G} {ca : Nat → ClassId} {o i : Nat} {H : Heap} {ls : Array Slot} {cells slots : Nat} (hE : zz_E p m c c_La_law 4 s #[Value.ref b] R_La D ca) (ho : s.heap.size = o) (hbo : b < o) (hi : i + 4 ≤ L) (hL : L ≤ 2048) (hl : lv_has ls 4 [(0, .ref b), (1, .ref o), (2, .ref (o + 73)), (3, .int (nI i))]) (hJ : Jn D ca o H) (hX : va_X b L xs s H) (hcs : cells + 2 ≤ 600000 ∧ slots + 18 ≤ 7302250) (kk : ∀ H2 : Heap, Jn D ca o H2 → va_X b L xs s H2 → W p l e room_1 s m #[Value.ref b] below meth c H2 [] (cells + 2) (slots + 18) Q (F0 m 676 ls [])) : W p l e room_1 s m #[Value.ref b] below meth c H [] cells slots Q (F0 m 439 ls []) := by
  obtain ⟨n, h, rl, S, K, tk, w, A, F, N, Y, W0, E, rs, B, J⟩ := hJ
  have hx := hE.1.1
  have hb := hE.1.2.1
  have hP := J.2.2.2
  have hn := hP.1.1.2.1
  have hw4 := hP.1.1.2.2.1
  have hh := hP.1.2.1
  have hN := hP.2.2.1.1
  have hF := hP.2.2.1.2.1
  have htk := hP.2.2.2.1
  have hnb := hP.2.2.2.2.1
  have hdd := hP.2.2.2.2.2.1
  have hA := hP.1.1
  have hSk := hP.1.2
  rcases J.2.1.rule with ⟨hrs, rfl⟩ | ⟨y, hrs, rfl, hXR⟩
  · skip
    refine lv_aload_n hx hb d_La_law_439 rfl (lv_at hl 1 rfl) ?_
    refine zl_arg (k := 1) hx hb hl hX (by omega) hL d_La_law_440 d_La_law_441 d_La_law_442 (by decide) d_La_law_443 d_La_law_444 ?_
    refine zl_arg (k := 2) hx hb hl hX (by omega) hL d_La_law_445 d_La_law_446 d_La_law_447 (by decide) d_La_law_448 d_La_law_449 ?_
    refine zz_callP (cl_La_65 (rest := []) (As := [.int (xs (i + 1)), .int (xs (i + 2))]) hE (k_RM_similar_none l D ca o n h S K (xs (i + 1)) (xs (i + 2))) ⟨rfl, rfl, by decide, by decide⟩ J.1.1 J.1.1.1 rfl hl.1 rfl (Nat.le_of_ble_eq_true rfl) d_La_law_450 ⟨show cells + 0 ≤ 600000 by omega, show slots + 0 ≤ 7302250 by omega⟩) ?_
    have hM1 := J.2.2.1
    refine lv_aload_n hx hb d_La_law_453 rfl (lv_at hl 2 rfl) ?_
    refine zl_arg (k := 1) hx hb hl hX (by omega) hL d_La_law_454 d_La_law_455 d_La_law_456 (by decide) d_La_law_457 d_La_law_458 ?_
    refine zl_arg (k := 2) hx hb hl hX (by omega) hL d_La_law_459 d_La_law_460 d_La_law_461 (by decide) d_La_law_462 d_La_law_463 ?_
    refine zl_callI (cl_La_68 (rest := [.int ((-4 : Int32))]) (As := [.int (xs (i + 1)), .int (xs (i + 2))]) hE (k_Mo_similar l D ca (o + 73) n h rs w B (xs (i + 1)) (xs (i + 2)) hA) ⟨rfl, rfl, by decide, by decide⟩ hM1 hM1.1 rfl hl.1 rfl (Nat.le_of_ble_eq_true rfl) d_La_law_464 ⟨show cells + 0 ≤ 600000 by omega, show slots + 0 ≤ 7302250 by omega⟩) (fun q hq => by have := hq.1; omega) (fun H2 hpH2 => ?_)
    obtain ⟨f2, r4⟩ := hpH2
    have hz := jn_similar0 J hrs (xs (i + 1)) (xs (i + 2)) f2 r4
    have hans : (((-4 : Int32)) : Int32) = (aSimilar n rs (mHo B rs) (xs (i + 1)) (xs (i + 2))) := hz.1
    refine lv_icmp_eq hx hb d_La_law_467 (tgt := 676) rfl (fun _ => ?_) (fun h9 => absurd hans h9)
    exact W.widen (k := cells + 2) (n := slots + 18) (by omega) (by omega) (kk H2 hz.2.1 (hX.kept (hz.2.2 b hbo)))
  · skip
    refine lv_aload_n hx hb d_La_law_439 rfl (lv_at hl 1 rfl) ?_
    refine zl_arg (k := 1) hx hb hl hX (by omega) hL d_La_law_440 d_La_law_441 d_La_law_442 (by decide) d_La_law_443 d_La_law_444 ?_
    refine zl_arg (k := 2) hx hb hl hX (by omega) hL d_La_law_445 d_La_law_446 d_La_law_447 (by decide) d_La_law_448 d_La_law_449 ?_
    refine zl_callI (cl_La_65 (rest := []) (As := [.int (xs (i + 1)), .int (xs (i + 2))]) hE (k_RM_similar l D ca o n h y S K F N Y W0 E (o + 92) (rul B rs) hn hN hF J.2.1.ge (by omega) (xs (i + 1)) (xs (i + 2))) ⟨rfl, rfl, by decide, by decide⟩ ⟨J.1.1, J.1.2.2, hXR.2.mono hXR.1, J.2.1.1⟩ J.1.1.1 rfl hl.1 rfl (Nat.le_of_ble_eq_true rfl) d_La_law_450 ⟨show cells + 0 ≤ 600000 by omega, show slots + 0 ≤ 7302250 by omega⟩) (fun q hq => by have := J.2.1.ge q hq; omega) (fun H1 hpH1 => ?_)
    obtain ⟨f1, r1⟩ := hpH1
    have k1 : Kp o H H1 := (fun a ha => f1.2 a (fun z9 => by have := J.2.1.ge a z9; omega))
    have hX1 := hX.kept (k1 b hbo)
    have hM1 := J.2.2.1.ef J.2.1 f1
    refine lv_aload_n hx hb d_La_law_453 rfl (lv_at hl 2 rfl) ?_
    refine zl_arg (k := 1) hx hb hl hX1 (by omega) hL d_La_law_454 d_La_law_455 d_La_law_456 (by decide) d_La_law_457 d_La_law_458 ?_
    refine zl_arg (k := 2) hx hb hl hX1 (by omega) hL d_La_law_459 d_La_law_460 d_La_law_461 (by decide) d_La_law_462 d_La_law_463 ?_
    refine zl_callI (cl_La_68 (rest := [.int (aSimilar n 1 (xHo F N (rul B rs)) (xs (i + 1)) (xs (i + 2)))]) (As := [.int (xs (i + 1)), .int (xs (i + 2))]) hE (k_Mo_similar l D ca (o + 73) n h rs w B (xs (i + 1)) (xs (i + 2)) hA) ⟨rfl, rfl, by decide, by decide⟩ hM1 hM1.1 rfl hl.1 rfl (Nat.le_of_ble_eq_true rfl) d_La_law_464 ⟨show cells + 0 ≤ 600000 by omega, show slots + 0 ≤ 7302250 by omega⟩) (fun q hq => by have := hq.1; omega) (fun H2 hpH2 => ?_)
    obtain ⟨f2, r4⟩ := hpH2
    have hz := jn_similar J hrs (xs (i + 1)) (xs (i + 2)) f1 r1 f2 r4
    have hans : ((aSimilar n 1 (xHo F N (rul B rs)) (xs (i + 1)) (xs (i + 2))) : Int32) = (aSimilar n rs (mHo B rs) (xs (i + 1)) (xs (i + 2))) := hz.1
    refine lv_icmp_eq hx hb d_La_law_467 (tgt := 676) rfl (fun _ => ?_) (fun h9 => absurd hans h9)
    exact W.widen (k := cells + 2) (n := slots + 18) (by omega) (by omega) (kk H2 hz.2.1 (hX.kept (hz.2.2 b hbo)))

set_option maxHeartbeats 4000000 in
set_option maxRecDepth 100000 in
theorem lc_start {p : Program} {e : Env} {s : State} {m : MethodId} {below : List Frame} {meth : Method} {c : Code} (l : Launch) {b L : Nat} {xs : Nat → Int32} {Q : State → Prop} {D : va_G} {ca : Nat → ClassId} {o i : Nat} {H : Heap} {ls : Array Slot} {cells slots : Nat} (hE : zz_E p m c c_La_law 4 s #[Value.ref b] R_La D ca) (ho : s.heap.size = o) (hbo : b < o) (hi : i + 4 ≤ L) (hL : L ≤ 2048) (hl : lv_has ls 4 [(0, .ref b), (1, .ref o), (2, .ref (o + 73)), (3, .int (nI i))]) (hJ : Jn D ca o H) (hX : va_X b L xs s H) (hcs : cells + 2 ≤ 600000 ∧ slots + 18 ≤ 7302250) (kk : ∀ H2 : Heap, Jn D ca o H2 → va_X b L xs s H2 → W p l e room_1 s m #[Value.ref b] below meth c H2 [] (cells + 2) (slots + 18) Q (F0 m 676 ls [])) : W p l e room_1 s m #[Value.ref b] below meth c H [] cells slots Q (F0 m 472 ls []) := by
  obtain ⟨n, h, rl, S, K, tk, w, A, F, N, Y, W0, E, rs, B, J⟩ := hJ
  have hx := hE.1.1
  have hb := hE.1.2.1
  have hP := J.2.2.2
  have hn := hP.1.1.2.1
  have hw4 := hP.1.1.2.2.1
  have hh := hP.1.2.1
  have hN := hP.2.2.1.1
  have hF := hP.2.2.1.2.1
  have htk := hP.2.2.2.1
  have hnb := hP.2.2.2.2.1
  have hdd := hP.2.2.2.2.2.1
  have hA := hP.1.1
  have hSk := hP.1.2
  rcases J.2.1.rule with ⟨hrs, rfl⟩ | ⟨y, hrs, rfl, hXR⟩
  · skip
    refine lv_aload_n hx hb d_La_law_472 rfl (lv_at hl 1 rfl) ?_
    refine zl_arg (k := 1) hx hb hl hX (by omega) hL d_La_law_473 d_La_law_474 d_La_law_475 (by decide) d_La_law_476 d_La_law_477 ?_
    refine zz_callP (cl_La_69 (rest := []) (As := [.int (xs (i + 1))]) hE (k_RM_start_none l D ca o n h S K (xs (i + 1))) ⟨rfl, rfl, by decide, by decide⟩ J.1.1 J.1.1.1 rfl hl.1 rfl (Nat.le_of_ble_eq_true rfl) d_La_law_478 ⟨show cells + 0 ≤ 600000 by omega, show slots + 0 ≤ 7302250 by omega⟩) ?_
    have hM1 := J.2.2.1
    refine lv_aload_n hx hb d_La_law_481 rfl (lv_at hl 2 rfl) ?_
    refine zl_arg (k := 1) hx hb hl hX (by omega) hL d_La_law_482 d_La_law_483 d_La_law_484 (by decide) d_La_law_485 d_La_law_486 ?_
    refine zl_callI (cl_La_73 (rest := [.int (aStart n 0 (xs (i + 1)))]) (As := [.int (xs (i + 1))]) hE (k_Mo_start l D ca (o + 73) n h rs w B (xs (i + 1)) hA) ⟨rfl, rfl, by decide, by decide⟩ hM1 hM1.1 rfl hl.1 rfl (Nat.le_of_ble_eq_true rfl) d_La_law_487 ⟨show cells + 0 ≤ 600000 by omega, show slots + 0 ≤ 7302250 by omega⟩) (fun q hq => by have := hq.1; omega) (fun H2 hpH2 => ?_)
    obtain ⟨f2, r4⟩ := hpH2
    have hz := jn_start0 J hrs (xs (i + 1)) f2 r4
    have hans : ((aStart n 0 (xs (i + 1))) : Int32) = (aStart n rs (xs (i + 1))) := by rw [hrs]
    refine lv_icmp_eq hx hb d_La_law_490 (tgt := 676) rfl (fun _ => ?_) (fun h9 => absurd hans h9)
    exact W.widen (k := cells + 2) (n := slots + 18) (by omega) (by omega) (kk H2 hz.2.1 (hX.kept (hz.2.2 b hbo)))
  · skip
    refine lv_aload_n hx hb d_La_law_472 rfl (lv_at hl 1 rfl) ?_
    refine zl_arg (k := 1) hx hb hl hX (by omega) hL d_La_law_473 d_La_law_474 d_La_law_475 (by decide) d_La_law_476 d_La_law_477 ?_
    refine zl_callI (cl_La_69 (rest := []) (As := [.int (xs (i + 1))]) hE (k_RM_start l D ca o n h y S K tk w A F N Y W0 (xs (i + 1))) ⟨rfl, rfl, by decide, by decide⟩ J.1 J.1.1.1 rfl hl.1 rfl (Nat.le_of_ble_eq_true rfl) d_La_law_478 ⟨show cells + 0 ≤ 600000 by omega, show slots + 0 ≤ 7302250 by omega⟩) (fun q hq => by have := hq.1; omega) (fun H1 hpH1 => ?_)
    obtain ⟨f1, r1, r2, r3⟩ := hpH1
    have k1 : Kp o H H1 := Kp.sy f1
    have hX1 := hX.kept (k1 b hbo)
    have hM1 := J.2.2.1.sy f1
    refine lv_aload_n hx hb d_La_law_481 rfl (lv_at hl 2 rfl) ?_
    refine zl_arg (k := 1) hx hb hl hX1 (by omega) hL d_La_law_482 d_La_law_483 d_La_law_484 (by decide) d_La_law_485 d_La_law_486 ?_
    refine zl_callI (cl_La_73 (rest := [.int (aStart n 1 (xs (i + 1)))]) (As := [.int (xs (i + 1))]) hE (k_Mo_start l D ca (o + 73) n h rs w B (xs (i + 1)) hA) ⟨rfl, rfl, by decide, by decide⟩ hM1 hM1.1 rfl hl.1 rfl (Nat.le_of_ble_eq_true rfl) d_La_law_487 ⟨show cells + 0 ≤ 600000 by omega, show slots + 0 ≤ 7302250 by omega⟩) (fun q hq => by have := hq.1; omega) (fun H2 hpH2 => ?_)
    obtain ⟨f2, r4⟩ := hpH2
    have hz := jn_start J hrs (xs (i + 1)) f1 r1 r2 r3 f2 r4
    have hans : ((aStart n 1 (xs (i + 1))) : Int32) = (aStart n rs (xs (i + 1))) := hz.1
    refine lv_icmp_eq hx hb d_La_law_490 (tgt := 676) rfl (fun _ => ?_) (fun h9 => absurd hans h9)
    exact W.widen (k := cells + 2) (n := slots + 18) (by omega) (by omega) (kk H2 hz.2.1 (hX.kept (hz.2.2 b hbo)))

set_option maxHeartbeats 4000000 in
set_option maxRecDepth 100000 in
theorem lc_work {p : Program} {e : Env} {s : State} {m : MethodId} {below : List Frame} {meth : Method} {c : Code} (l : Launch) {b L : Nat} {xs : Nat → Int32} {Q : State → Prop} {D : va_G} {ca : Nat → ClassId} {o i : Nat} {H : Heap} {ls : Array Slot} {cells slots : Nat} (hE : zz_E p m c c_La_law 4 s #[Value.ref b] R_La D ca) (ho : s.heap.size = o) (hbo : b < o) (hi : i + 4 ≤ L) (hL : L ≤ 2048) (hl : lv_has ls 4 [(0, .ref b), (1, .ref o), (2, .ref (o + 73)), (3, .int (nI i))]) (hJ : Jn D ca o H) (hX : va_X b L xs s H) (hcs : cells + 2 ≤ 600000 ∧ slots + 18 ≤ 7302250) (kk : ∀ H2 : Heap, Jn D ca o H2 → va_X b L xs s H2 → W p l e room_1 s m #[Value.ref b] below meth c H2 [] (cells + 2) (slots + 18) Q (F0 m 676 ls [])) : W p l e room_1 s m #[Value.ref b] below meth c H [] cells slots Q (F0 m 495 ls []) := by
  obtain ⟨n, h, rl, S, K, tk, w, A, F, N, Y, W0, E, rs, B, J⟩ := hJ
  have hx := hE.1.1
  have hb := hE.1.2.1
  have hP := J.2.2.2
  have hn := hP.1.1.2.1
  have hw4 := hP.1.1.2.2.1
  have hh := hP.1.2.1
  have hN := hP.2.2.1.1
  have hF := hP.2.2.1.2.1
  have htk := hP.2.2.2.1
  have hnb := hP.2.2.2.2.1
  have hdd := hP.2.2.2.2.2.1
  have hA := hP.1.1
  have hSk := hP.1.2
  rcases J.2.1.rule with ⟨hrs, rfl⟩ | ⟨y, hrs, rfl, hXR⟩
  · skip
    refine lv_aload_n hx hb d_La_law_495 rfl (lv_at hl 1 rfl) ?_
    refine zl_arg (k := 1) hx hb hl hX (by omega) hL d_La_law_496 d_La_law_497 d_La_law_498 (by decide) d_La_law_499 d_La_law_500 ?_
    refine zz_callP (cl_La_74 (rest := []) (As := [.int (xs (i + 1))]) hE (k_RM_work_none l D ca o n h S K (xs (i + 1))) ⟨rfl, rfl, by decide, by decide⟩ J.1.1 J.1.1.1 rfl hl.1 rfl (Nat.le_of_ble_eq_true rfl) d_La_law_501 ⟨show cells + 0 ≤ 600000 by omega, show slots + 0 ≤ 7302250 by omega⟩) ?_
    have hM1 := J.2.2.1
    refine lv_aload_n hx hb d_La_law_504 rfl (lv_at hl 2 rfl) ?_
    refine zl_arg (k := 1) hx hb hl hX (by omega) hL d_La_law_505 d_La_law_506 d_La_law_507 (by decide) d_La_law_508 d_La_law_509 ?_
    refine zl_callI (cl_La_77 (rest := [.int ((-4 : Int32))]) (As := [.int (xs (i + 1))]) hE (k_Mo_work l D ca (o + 73) n h rs w B (xs (i + 1)) hA (fun v hv => hP.r2 (by omega) v hv)) ⟨rfl, rfl, by decide, by decide⟩ hM1 hM1.1 rfl hl.1 rfl (Nat.le_of_ble_eq_true rfl) d_La_law_510 ⟨show cells + 0 ≤ 600000 by omega, show slots + 0 ≤ 7302250 by omega⟩) (fun q hq => by have := hq.1; omega) (fun H2 hpH2 => ?_)
    obtain ⟨f2, r4⟩ := hpH2
    have hz := jn_work0 J hrs (xs (i + 1)) f2 r4
    have hans : (((-4 : Int32)) : Int32) = (aWork n w (B 16) (mHo B rs) (xs (i + 1))) := hz.1
    refine lv_icmp_eq hx hb d_La_law_513 (tgt := 676) rfl (fun _ => ?_) (fun h9 => absurd hans h9)
    exact W.widen (k := cells + 2) (n := slots + 18) (by omega) (by omega) (kk H2 hz.2.1 (hX.kept (hz.2.2 b hbo)))
  · skip
    refine lv_aload_n hx hb d_La_law_495 rfl (lv_at hl 1 rfl) ?_
    refine zl_arg (k := 1) hx hb hl hX (by omega) hL d_La_law_496 d_La_law_497 d_La_law_498 (by decide) d_La_law_499 d_La_law_500 ?_
    refine zl_callI (cl_La_74 (rest := []) (As := [.int (xs (i + 1))]) hE (k_RM_work l D ca o n h y S K tk w A F N Y W0 E (o + 92) (rul B rs) hw4 htk hnb hdd hn hN hF J.2.1.ge (by omega) (xs (i + 1))) ⟨rfl, rfl, by decide, by decide⟩ ⟨J.1.1, J.1.2.1, J.1.2.2, hXR.2.mono hXR.1, J.2.1.1⟩ J.1.1.1 rfl hl.1 rfl (Nat.le_of_ble_eq_true rfl) d_La_law_501 ⟨show cells + 0 ≤ 600000 by omega, show slots + 0 ≤ 7302250 by omega⟩) (fun q hq => Or.elim hq (fun hq => by have := J.2.1.ge q hq; omega) (fun hq => by have := hq.1; omega)) (fun H1 hpH1 => ?_)
    obtain ⟨f1, r1, r2, r3, g1, g2⟩ := hpH1
    have k1 : Kp o H H1 := (fun a ha => f1.2 a (fun z9 => Or.elim z9 (fun z9 => by have := J.2.1.ge a z9; omega) (fun z9 => by have := z9.1; omega)))
    have hX1 := hX.kept (k1 b hbo)
    have hM1 := J.2.2.1.wk J.2.1 f1
    refine lv_aload_n hx hb d_La_law_504 rfl (lv_at hl 2 rfl) ?_
    refine zl_arg (k := 1) hx hb hl hX1 (by omega) hL d_La_law_505 d_La_law_506 d_La_law_507 (by decide) d_La_law_508 d_La_law_509 ?_
    refine zl_callI (cl_La_77 (rest := [.int (cWork tk w A (xHo F N (rul B rs)) (xs (i + 1)))]) (As := [.int (xs (i + 1))]) hE (k_Mo_work l D ca (o + 73) n h rs w B (xs (i + 1)) hA (fun v hv => hP.r2 (by omega) v hv)) ⟨rfl, rfl, by decide, by decide⟩ hM1 hM1.1 rfl hl.1 rfl (Nat.le_of_ble_eq_true rfl) d_La_law_510 ⟨show cells + 0 ≤ 600000 by omega, show slots + 0 ≤ 7302250 by omega⟩) (fun q hq => by have := hq.1; omega) (fun H2 hpH2 => ?_)
    obtain ⟨f2, r4⟩ := hpH2
    have hz := jn_work J hrs (xs (i + 1)) f1 r1 r2 r3 g1 g2 f2 r4
    have hans : ((cWork tk w A (xHo F N (rul B rs)) (xs (i + 1))) : Int32) = (aWork n w (B 16) (mHo B rs) (xs (i + 1))) := hz.1
    refine lv_icmp_eq hx hb d_La_law_513 (tgt := 676) rfl (fun _ => ?_) (fun h9 => absurd hans h9)
    exact W.widen (k := cells + 2) (n := slots + 18) (by omega) (by omega) (kk H2 hz.2.1 (hX.kept (hz.2.2 b hbo)))

set_option maxHeartbeats 4000000 in
set_option maxRecDepth 100000 in
theorem lc_crash {p : Program} {e : Env} {s : State} {m : MethodId} {below : List Frame} {meth : Method} {c : Code} (l : Launch) {b L : Nat} {xs : Nat → Int32} {Q : State → Prop} {D : va_G} {ca : Nat → ClassId} {o i : Nat} {H : Heap} {ls : Array Slot} {cells slots : Nat} (hE : zz_E p m c c_La_law 4 s #[Value.ref b] R_La D ca) (ho : s.heap.size = o) (hbo : b < o) (hi : i + 4 ≤ L) (hL : L ≤ 2048) (hl : lv_has ls 4 [(0, .ref b), (1, .ref o), (2, .ref (o + 73)), (3, .int (nI i))]) (hJ : Jn D ca o H) (hX : va_X b L xs s H) (hcs : cells + 2 ≤ 600000 ∧ slots + 18 ≤ 7302250) (kk : ∀ H2 : Heap, Jn D ca o H2 → va_X b L xs s H2 → W p l e room_1 s m #[Value.ref b] below meth c H2 [] (cells + 2) (slots + 18) Q (F0 m 676 ls [])) : W p l e room_1 s m #[Value.ref b] below meth c H [] cells slots Q (F0 m 518 ls []) := by
  obtain ⟨n, h, rl, S, K, tk, w, A, F, N, Y, W0, E, rs, B, J⟩ := hJ
  have hx := hE.1.1
  have hb := hE.1.2.1
  have hP := J.2.2.2
  have hn := hP.1.1.2.1
  have hw4 := hP.1.1.2.2.1
  have hh := hP.1.2.1
  have hN := hP.2.2.1.1
  have hF := hP.2.2.1.2.1
  have htk := hP.2.2.2.1
  have hnb := hP.2.2.2.2.1
  have hdd := hP.2.2.2.2.2.1
  have hA := hP.1.1
  have hSk := hP.1.2
  refine lv_aload_n hx hb d_La_law_518 rfl (lv_at hl 1 rfl) ?_
  refine zl_arg (k := 1) hx hb hl hX (by omega) hL d_La_law_519 d_La_law_520 d_La_law_521 (by decide) d_La_law_522 d_La_law_523 ?_
  refine zl_callI (cl_La_78 (rest := []) (As := [.int (xs (i + 1))]) hE (k_RM_crash l D ca o n h rl S K tk w A F N Y W0 hw4 htk hnb hdd hP.hts (xs (i + 1))) ⟨rfl, rfl, by decide, by decide⟩ J.1 J.1.1.1 rfl hl.1 rfl (Nat.le_of_ble_eq_true rfl) d_La_law_524 ⟨show cells + 0 ≤ 600000 by omega, show slots + 0 ≤ 7302250 by omega⟩) (fun q hq => by have := hq.1; omega) (fun H1 hpH1 => ?_)
  obtain ⟨f1, r1, r2, r3⟩ := hpH1
  have k1 : Kp o H H1 := Kp.sy f1
  have hX1 := hX.kept (k1 b hbo)
  have hM1 := J.2.2.1.sy f1
  refine lv_aload_n hx hb d_La_law_527 rfl (lv_at hl 2 rfl) ?_
  refine zl_arg (k := 1) hx hb hl hX1 (by omega) hL d_La_law_528 d_La_law_529 d_La_law_530 (by decide) d_La_law_531 d_La_law_532 ?_
  refine zl_callI (cl_La_81 (rest := [.int (cCrash tk w A (xs (i + 1)))]) (As := [.int (xs (i + 1))]) hE (k_Mo_crash l D ca (o + 73) n h rs w B (xs (i + 1)) hA) ⟨rfl, rfl, by decide, by decide⟩ hM1 hM1.1 rfl hl.1 rfl (Nat.le_of_ble_eq_true rfl) d_La_law_533 ⟨show cells + 0 ≤ 600000 by omega, show slots + 0 ≤ 7302250 by omega⟩) (fun q hq => by have := hq.1; omega) (fun H2 hpH2 => ?_)
  obtain ⟨f2, r4⟩ := hpH2
  have hz := jn_crash J (xs (i + 1)) f1 r1 r2 r3 f2 r4
  have hans : ((cCrash tk w A (xs (i + 1))) : Int32) = (aCrash w (mDn B n w) (B 16) (xs (i + 1))) := hz.1
  refine lv_icmp_eq hx hb d_La_law_536 (tgt := 676) rfl (fun _ => ?_) (fun h9 => absurd hans h9)
  exact W.widen (k := cells + 2) (n := slots + 18) (by omega) (by omega) (kk H2 hz.2.1 (hX.kept (hz.2.2 b hbo)))

set_option maxHeartbeats 4000000 in
set_option maxRecDepth 100000 in
theorem lc_pairs {p : Program} {e : Env} {s : State} {m : MethodId} {below : List Frame} {meth : Method} {c : Code} (l : Launch) {b L : Nat} {xs : Nat → Int32} {Q : State → Prop} {D : va_G} {ca : Nat → ClassId} {o i : Nat} {H : Heap} {ls : Array Slot} {cells slots : Nat} (hE : zz_E p m c c_La_law 4 s #[Value.ref b] R_La D ca) (ho : s.heap.size = o) (hbo : b < o) (hi : i + 4 ≤ L) (hL : L ≤ 2048) (hl : lv_has ls 4 [(0, .ref b), (1, .ref o), (2, .ref (o + 73)), (3, .int (nI i))]) (hJ : Jn D ca o H) (hX : va_X b L xs s H) (hcs : cells + 2 ≤ 600000 ∧ slots + 18 ≤ 7302250) (kk : ∀ H2 : Heap, Jn D ca o H2 → va_X b L xs s H2 → W p l e room_1 s m #[Value.ref b] below meth c H2 [] (cells + 2) (slots + 18) Q (F0 m 676 ls [])) : W p l e room_1 s m #[Value.ref b] below meth c H [] cells slots Q (F0 m 541 ls []) := by
  obtain ⟨n, h, rl, S, K, tk, w, A, F, N, Y, W0, E, rs, B, J⟩ := hJ
  have hx := hE.1.1
  have hb := hE.1.2.1
  have hP := J.2.2.2
  have hn := hP.1.1.2.1
  have hw4 := hP.1.1.2.2.1
  have hh := hP.1.2.1
  have hN := hP.2.2.1.1
  have hF := hP.2.2.1.2.1
  have htk := hP.2.2.2.1
  have hnb := hP.2.2.2.2.1
  have hdd := hP.2.2.2.2.2.1
  have hA := hP.1.1
  have hSk := hP.1.2
  refine lv_aload_n hx hb d_La_law_541 rfl (lv_at hl 1 rfl) ?_
  refine zz_callP (cl_La_82 (rest := []) (As := []) hE (k_RM_pairs l D ca o n h rl S K tk w A hw4 htk hnb) ⟨rfl, rfl, by decide, by decide⟩ ⟨J.1.1, J.1.2.1⟩ J.1.1.1 rfl hl.1 rfl (Nat.le_of_ble_eq_true rfl) d_La_law_542 ⟨show cells + 0 ≤ 600000 by omega, show slots + 0 ≤ 7302250 by omega⟩) ?_
  have hM1 := J.2.2.1
  refine lv_aload_n hx hb d_La_law_545 rfl (lv_at hl 2 rfl) ?_
  refine zl_callI (cl_La_85 (rest := [.int (aPairs tk w (rNt A))]) (As := []) hE (k_Mo_pairs l D ca (o + 73) n h rs w B hA) ⟨rfl, rfl, by decide, by decide⟩ hM1 hM1.1 rfl hl.1 rfl (Nat.le_of_ble_eq_true rfl) d_La_law_546 ⟨show cells + 0 ≤ 600000 by omega, show slots + 0 ≤ 7302250 by omega⟩) (fun q hq => by have := hq.1; omega) (fun H2 hpH2 => ?_)
  obtain ⟨f2, r4⟩ := hpH2
  have hz := jn_pairs J f2 r4
  have hans : ((aPairs tk w (rNt A)) : Int32) = (aPairs n w (mFd B w rs)) := hz.1
  refine lv_icmp_eq hx hb d_La_law_549 (tgt := 676) rfl (fun _ => ?_) (fun h9 => absurd hans h9)
  exact W.widen (k := cells + 2) (n := slots + 18) (by omega) (by omega) (kk H2 hz.2.1 (hX.kept (hz.2.2 b hbo)))

set_option maxHeartbeats 4000000 in
set_option maxRecDepth 100000 in
theorem lc_found {p : Program} {e : Env} {s : State} {m : MethodId} {below : List Frame} {meth : Method} {c : Code} (l : Launch) {b L : Nat} {xs : Nat → Int32} {Q : State → Prop} {D : va_G} {ca : Nat → ClassId} {o i : Nat} {H : Heap} {ls : Array Slot} {cells slots : Nat} (hE : zz_E p m c c_La_law 4 s #[Value.ref b] R_La D ca) (ho : s.heap.size = o) (hbo : b < o) (hi : i + 4 ≤ L) (hL : L ≤ 2048) (hl : lv_has ls 4 [(0, .ref b), (1, .ref o), (2, .ref (o + 73)), (3, .int (nI i))]) (hJ : Jn D ca o H) (hX : va_X b L xs s H) (hcs : cells + 2 ≤ 600000 ∧ slots + 18 ≤ 7302250) (kk : ∀ H2 : Heap, Jn D ca o H2 → va_X b L xs s H2 → W p l e room_1 s m #[Value.ref b] below meth c H2 [] (cells + 2) (slots + 18) Q (F0 m 676 ls [])) : W p l e room_1 s m #[Value.ref b] below meth c H [] cells slots Q (F0 m 554 ls []) := by
  obtain ⟨n, h, rl, S, K, tk, w, A, F, N, Y, W0, E, rs, B, J⟩ := hJ
  have hx := hE.1.1
  have hb := hE.1.2.1
  have hP := J.2.2.2
  have hn := hP.1.1.2.1
  have hw4 := hP.1.1.2.2.1
  have hh := hP.1.2.1
  have hN := hP.2.2.1.1
  have hF := hP.2.2.1.2.1
  have htk := hP.2.2.2.1
  have hnb := hP.2.2.2.2.1
  have hdd := hP.2.2.2.2.2.1
  have hA := hP.1.1
  have hSk := hP.1.2
  refine lv_aload_n hx hb d_La_law_554 rfl (lv_at hl 1 rfl) ?_
  refine zl_arg (k := 1) hx hb hl hX (by omega) hL d_La_law_555 d_La_law_556 d_La_law_557 (by decide) d_La_law_558 d_La_law_559 ?_
  refine zl_arg (k := 2) hx hb hl hX (by omega) hL d_La_law_560 d_La_law_561 d_La_law_562 (by decide) d_La_law_563 d_La_law_564 ?_
  refine zz_callP (cl_La_86 (rest := []) (As := [.int (xs (i + 1)), .int (xs (i + 2))]) hE (k_RM_found l D ca o n h rl S K tk w A hw4 htk hnb hn (xs (i + 1)) (xs (i + 2))) ⟨rfl, rfl, by decide, by decide⟩ ⟨J.1.1, J.1.2.1⟩ J.1.1.1 rfl hl.1 rfl (Nat.le_of_ble_eq_true rfl) d_La_law_565 ⟨show cells + 0 ≤ 600000 by omega, show slots + 0 ≤ 7302250 by omega⟩) ?_
  have hM1 := J.2.2.1
  refine lv_aload_n hx hb d_La_law_568 rfl (lv_at hl 2 rfl) ?_
  refine zl_arg (k := 1) hx hb hl hX (by omega) hL d_La_law_569 d_La_law_570 d_La_law_571 (by decide) d_La_law_572 d_La_law_573 ?_
  refine zl_arg (k := 2) hx hb hl hX (by omega) hL d_La_law_574 d_La_law_575 d_La_law_576 (by decide) d_La_law_577 d_La_law_578 ?_
  refine zl_callI (cl_La_89 (rest := [.int (cFound n w A (xs (i + 1)) (xs (i + 2)))]) (As := [.int (xs (i + 1)), .int (xs (i + 2))]) hE (k_Mo_found l D ca (o + 73) n h rs w B (xs (i + 1)) (xs (i + 2)) hA) ⟨rfl, rfl, by decide, by decide⟩ hM1 hM1.1 rfl hl.1 rfl (Nat.le_of_ble_eq_true rfl) d_La_law_579 ⟨show cells + 0 ≤ 600000 by omega, show slots + 0 ≤ 7302250 by omega⟩) (fun q hq => by have := hq.1; omega) (fun H2 hpH2 => ?_)
  obtain ⟨f2, r4⟩ := hpH2
  have hz := jn_found J (xs (i + 1)) (xs (i + 2)) f2 r4
  have hans : ((cFound n w A (xs (i + 1)) (xs (i + 2))) : Int32) = (aFound n w (mFd B w rs) (xs (i + 1)) (xs (i + 2))) := hz.1
  refine lv_icmp_eq hx hb d_La_law_582 (tgt := 676) rfl (fun _ => ?_) (fun h9 => absurd hans h9)
  exact W.widen (k := cells + 2) (n := slots + 18) (by omega) (by omega) (kk H2 hz.2.1 (hX.kept (hz.2.2 b hbo)))

set_option maxHeartbeats 4000000 in
set_option maxRecDepth 100000 in
theorem lc_cluster {p : Program} {e : Env} {s : State} {m : MethodId} {below : List Frame} {meth : Method} {c : Code} (l : Launch) {b L : Nat} {xs : Nat → Int32} {Q : State → Prop} {D : va_G} {ca : Nat → ClassId} {o i : Nat} {H : Heap} {ls : Array Slot} {cells slots : Nat} (hE : zz_E p m c c_La_law 4 s #[Value.ref b] R_La D ca) (ho : s.heap.size = o) (hbo : b < o) (hi : i + 4 ≤ L) (hL : L ≤ 2048) (hl : lv_has ls 4 [(0, .ref b), (1, .ref o), (2, .ref (o + 73)), (3, .int (nI i))]) (hJ : Jn D ca o H) (hX : va_X b L xs s H) (hcs : cells + 2 ≤ 600000 ∧ slots + 18 ≤ 7302250) (kk : ∀ H2 : Heap, Jn D ca o H2 → va_X b L xs s H2 → W p l e room_1 s m #[Value.ref b] below meth c H2 [] (cells + 2) (slots + 18) Q (F0 m 676 ls [])) : W p l e room_1 s m #[Value.ref b] below meth c H [] cells slots Q (F0 m 587 ls []) := by
  obtain ⟨n, h, rl, S, K, tk, w, A, F, N, Y, W0, E, rs, B, J⟩ := hJ
  have hx := hE.1.1
  have hb := hE.1.2.1
  have hP := J.2.2.2
  have hn := hP.1.1.2.1
  have hw4 := hP.1.1.2.2.1
  have hh := hP.1.2.1
  have hN := hP.2.2.1.1
  have hF := hP.2.2.1.2.1
  have htk := hP.2.2.2.1
  have hnb := hP.2.2.2.2.1
  have hdd := hP.2.2.2.2.2.1
  have hA := hP.1.1
  have hSk := hP.1.2
  refine lv_aload_n hx hb d_La_law_587 rfl (lv_at hl 1 rfl) ?_
  refine zl_arg (k := 1) hx hb hl hX (by omega) hL d_La_law_588 d_La_law_589 d_La_law_590 (by decide) d_La_law_591 d_La_law_592 ?_
  refine zl_callI (cl_La_90 (rest := []) (As := [.int (xs (i + 1))]) hE (k_RM_cluster l D ca o n h rl S K tk w A F N Y W0 hw4 htk hnb hdd hn (fun hw => hP.tkn hw) (xs (i + 1))) ⟨rfl, rfl, by decide, by decide⟩ J.1 J.1.1.1 rfl hl.1 rfl (Nat.le_of_ble_eq_true rfl) d_La_law_593 ⟨show cells + 0 ≤ 600000 by omega, show slots + 0 ≤ 7302250 by omega⟩) (fun q hq => by have := hq.1; omega) (fun H1 hpH1 => ?_)
  obtain ⟨f1, r1, r2, r3⟩ := hpH1
  have k1 : Kp o H H1 := Kp.sy f1
  have hX1 := hX.kept (k1 b hbo)
  have hM1 := J.2.2.1.sy f1
  refine lv_aload_n hx hb d_La_law_596 rfl (lv_at hl 2 rfl) ?_
  refine zl_arg (k := 1) hx hb hl hX1 (by omega) hL d_La_law_597 d_La_law_598 d_La_law_599 (by decide) d_La_law_600 d_La_law_601 ?_
  refine zl_callI (cl_La_93 (rest := [.int (aCluster n w (decide (zsum (A 1) w = tk)) (rF A) (xs (i + 1)))]) (As := [.int (xs (i + 1))]) hE (k_Mo_cluster l D ca (o + 73) n h rs w B (xs (i + 1)) hA) ⟨rfl, rfl, by decide, by decide⟩ hM1 hM1.1 rfl hl.1 rfl (Nat.le_of_ble_eq_true rfl) d_La_law_602 ⟨show cells + 0 ≤ 600000 by omega, show slots + 0 ≤ 7302250 by omega⟩) (fun q hq => by have := hq.1; omega) (fun H2 hpH2 => ?_)
  obtain ⟨f2, r4⟩ := hpH2
  have hz := jn_cluster J (xs (i + 1)) f1 r1 r2 r3 f2 r4
  have hans : ((aCluster n w (decide (zsum (A 1) w = tk)) (rF A) (xs (i + 1))) : Int32) = (aCluster n w (mDn B n w) (mFd B w rs) (xs (i + 1))) := hz.1
  refine lv_icmp_eq hx hb d_La_law_605 (tgt := 676) rfl (fun _ => ?_) (fun h9 => absurd hans h9)
  exact W.widen (k := cells + 2) (n := slots + 18) (by omega) (by omega) (kk H2 hz.2.1 (hX.kept (hz.2.2 b hbo)))

set_option maxHeartbeats 4000000 in
set_option maxRecDepth 100000 in
theorem lc_keep {p : Program} {e : Env} {s : State} {m : MethodId} {below : List Frame} {meth : Method} {c : Code} (l : Launch) {b L : Nat} {xs : Nat → Int32} {Q : State → Prop} {D : va_G} {ca : Nat → ClassId} {o i : Nat} {H : Heap} {ls : Array Slot} {cells slots : Nat} (hE : zz_E p m c c_La_law 4 s #[Value.ref b] R_La D ca) (ho : s.heap.size = o) (hbo : b < o) (hi : i + 4 ≤ L) (hL : L ≤ 2048) (hl : lv_has ls 4 [(0, .ref b), (1, .ref o), (2, .ref (o + 73)), (3, .int (nI i))]) (hJ : Jn D ca o H) (hX : va_X b L xs s H) (hcs : cells + 2 ≤ 600000 ∧ slots + 18 ≤ 7302250) (kk : ∀ H2 : Heap, Jn D ca o H2 → va_X b L xs s H2 → W p l e room_1 s m #[Value.ref b] below meth c H2 [] (cells + 2) (slots + 18) Q (F0 m 676 ls [])) : W p l e room_1 s m #[Value.ref b] below meth c H [] cells slots Q (F0 m 610 ls []) := by
  obtain ⟨n, h, rl, S, K, tk, w, A, F, N, Y, W0, E, rs, B, J⟩ := hJ
  have hx := hE.1.1
  have hb := hE.1.2.1
  have hP := J.2.2.2
  have hn := hP.1.1.2.1
  have hw4 := hP.1.1.2.2.1
  have hh := hP.1.2.1
  have hN := hP.2.2.1.1
  have hF := hP.2.2.1.2.1
  have htk := hP.2.2.2.1
  have hnb := hP.2.2.2.2.1
  have hdd := hP.2.2.2.2.2.1
  have hA := hP.1.1
  have hSk := hP.1.2
  refine lv_aload_n hx hb d_La_law_610 rfl (lv_at hl 1 rfl) ?_
  refine zl_arg (k := 1) hx hb hl hX (by omega) hL d_La_law_611 d_La_law_612 d_La_law_613 (by decide) d_La_law_614 d_La_law_615 ?_
  refine zl_arg (k := 2) hx hb hl hX (by omega) hL d_La_law_616 d_La_law_617 d_La_law_618 (by decide) d_La_law_619 d_La_law_620 ?_
  refine zl_callI (cl_La_94 (rest := []) (As := [.int (xs (i + 1)), .int (xs (i + 2))]) hE (k_RM_keep l D ca o n h rl S K (xs (i + 1)) (xs (i + 2))) ⟨rfl, rfl, by decide, by decide⟩ J.1.1 J.1.1.1 rfl hl.1 rfl (Nat.le_of_ble_eq_true rfl) d_La_law_621 ⟨show cells + 0 ≤ 600000 by omega, show slots + 0 ≤ 7302250 by omega⟩) (fun q hq => by unfold rmFr at hq; omega) (fun H1 hpH1 => ?_)
  obtain ⟨f1, r1⟩ := hpH1
  have k1 : Kp o H H1 := Kp.rm f1
  have hX1 := hX.kept (k1 b hbo)
  have hM1 := J.2.2.1.rm f1
  refine lv_aload_n hx hb d_La_law_624 rfl (lv_at hl 2 rfl) ?_
  refine zl_arg (k := 1) hx hb hl hX1 (by omega) hL d_La_law_625 d_La_law_626 d_La_law_627 (by decide) d_La_law_628 d_La_law_629 ?_
  refine zl_arg (k := 2) hx hb hl hX1 (by omega) hL d_La_law_630 d_La_law_631 d_La_law_632 (by decide) d_La_law_633 d_La_law_634 ?_
  refine zl_callI (cl_La_97 (rest := [.int (nI (aKeep (xs (i + 1)) (xs (i + 2))).toNat)]) (As := [.int (xs (i + 1)), .int (xs (i + 2))]) hE (k_Mo_keep l D ca (o + 73) n h rs w B (xs (i + 1)) (xs (i + 2)) hA) ⟨rfl, rfl, by decide, by decide⟩ hM1 hM1.1 rfl hl.1 rfl (Nat.le_of_ble_eq_true rfl) d_La_law_635 ⟨show cells + 0 ≤ 600000 by omega, show slots + 0 ≤ 7302250 by omega⟩) (fun q hq => by have := hq.1; omega) (fun H2 hpH2 => ?_)
  obtain ⟨f2, r4⟩ := hpH2
  have hz := jn_keep J (xs (i + 1)) (xs (i + 2)) f1 r1 f2 r4
  have hans : ((nI (aKeep (xs (i + 1)) (xs (i + 2))).toNat) : Int32) = (nI (aKeep (xs (i + 1)) (xs (i + 2))).toNat) := rfl
  refine lv_icmp_eq hx hb d_La_law_638 (tgt := 676) rfl (fun _ => ?_) (fun h9 => absurd hans h9)
  exact W.widen (k := cells + 2) (n := slots + 18) (by omega) (by omega) (kk H2 hz.1 (hX.kept (hz.2 b hbo)))

set_option maxHeartbeats 4000000 in
set_option maxRecDepth 100000 in
theorem lc_kept {p : Program} {e : Env} {s : State} {m : MethodId} {below : List Frame} {meth : Method} {c : Code} (l : Launch) {b L : Nat} {xs : Nat → Int32} {Q : State → Prop} {D : va_G} {ca : Nat → ClassId} {o i : Nat} {H : Heap} {ls : Array Slot} {cells slots : Nat} (hE : zz_E p m c c_La_law 4 s #[Value.ref b] R_La D ca) (ho : s.heap.size = o) (hbo : b < o) (hi : i + 4 ≤ L) (hL : L ≤ 2048) (hl : lv_has ls 4 [(0, .ref b), (1, .ref o), (2, .ref (o + 73)), (3, .int (nI i))]) (hJ : Jn D ca o H) (hX : va_X b L xs s H) (hcs : cells + 2 ≤ 600000 ∧ slots + 18 ≤ 7302250) (kk : ∀ H2 : Heap, Jn D ca o H2 → va_X b L xs s H2 → W p l e room_1 s m #[Value.ref b] below meth c H2 [] (cells + 2) (slots + 18) Q (F0 m 676 ls [])) : W p l e room_1 s m #[Value.ref b] below meth c H [] cells slots Q (F0 m 643 ls []) := by
  obtain ⟨n, h, rl, S, K, tk, w, A, F, N, Y, W0, E, rs, B, J⟩ := hJ
  have hx := hE.1.1
  have hb := hE.1.2.1
  have hP := J.2.2.2
  have hn := hP.1.1.2.1
  have hw4 := hP.1.1.2.2.1
  have hh := hP.1.2.1
  have hN := hP.2.2.1.1
  have hF := hP.2.2.1.2.1
  have htk := hP.2.2.2.1
  have hnb := hP.2.2.2.2.1
  have hdd := hP.2.2.2.2.2.1
  have hA := hP.1.1
  have hSk := hP.1.2
  refine lv_aload_n hx hb d_La_law_643 rfl (lv_at hl 1 rfl) ?_
  refine zl_arg (k := 1) hx hb hl hX (by omega) hL d_La_law_644 d_La_law_645 d_La_law_646 (by decide) d_La_law_647 d_La_law_648 ?_
  refine zl_arg (k := 2) hx hb hl hX (by omega) hL d_La_law_649 d_La_law_650 d_La_law_651 (by decide) d_La_law_652 d_La_law_653 ?_
  refine zl_callI (cl_La_98 (rest := []) (As := [.int (xs (i + 1)), .int (xs (i + 2))]) hE (k_RM_kept l D ca o n h rl S K tk w A F N Y W0 hw4 htk hnb hdd hn hN hF (fun f hf => by rw [hP.2.1 f hf]; exact hA.2.2.2.2.2.2 f hf) (fun hw => hP.tkn hw) (xs (i + 1)) (xs (i + 2))) ⟨rfl, rfl, by decide, by decide⟩ J.1 J.1.1.1 rfl hl.1 rfl (Nat.le_of_ble_eq_true rfl) d_La_law_654 ⟨show cells + 0 ≤ 600000 by omega, show slots + 0 ≤ 7302250 by omega⟩) (fun q hq => by have := hq.1; omega) (fun H1 hpH1 => ?_)
  obtain ⟨f1, r1, r2, r3⟩ := hpH1
  have k1 : Kp o H H1 := Kp.sy f1
  have hX1 := hX.kept (k1 b hbo)
  have hM1 := J.2.2.1.sy f1
  refine lv_aload_n hx hb d_La_law_657 rfl (lv_at hl 2 rfl) ?_
  refine zl_arg (k := 1) hx hb hl hX1 (by omega) hL d_La_law_658 d_La_law_659 d_La_law_660 (by decide) d_La_law_661 d_La_law_662 ?_
  refine zl_arg (k := 2) hx hb hl hX1 (by omega) hL d_La_law_663 d_La_law_664 d_La_law_665 (by decide) d_La_law_666 d_La_law_667 ?_
  refine zl_callI (cl_La_101 (rest := [.int (cKept n w (decide (zsum (A 1) w = tk)) (rF A) F N K (xs (i + 1)) (xs (i + 2)))]) (As := [.int (xs (i + 1)), .int (xs (i + 2))]) hE (k_Mo_kept l D ca (o + 73) n h rs w B (xs (i + 1)) (xs (i + 2)) hA) ⟨rfl, rfl, by decide, by decide⟩ hM1 hM1.1 rfl hl.1 rfl (Nat.le_of_ble_eq_true rfl) d_La_law_668 ⟨show cells + 0 ≤ 600000 by omega, show slots + 0 ≤ 7302250 by omega⟩) (fun q hq => by have := hq.1; omega) (fun H2 hpH2 => ?_)
  obtain ⟨f2, r4⟩ := hpH2
  have hz := jn_kept J (xs (i + 1)) (xs (i + 2)) f1 r1 r2 r3 f2 r4
  have hans : ((cKept n w (decide (zsum (A 1) w = tk)) (rF A) F N K (xs (i + 1)) (xs (i + 2))) : Int32) = (aKept n w (mDn B n w) (mFd B w rs) (mTx B) (B 17) (xs (i + 1)) (xs (i + 2))) := hz.1
  refine lv_icmp_eq hx hb d_La_law_671 (tgt := 676) rfl (fun _ => ?_) (fun h9 => absurd hans h9)
  exact W.widen (k := cells + 2) (n := slots + 18) (by omega) (by omega) (kk H2 hz.2.1 (hX.kept (hz.2.2 b hbo)))
