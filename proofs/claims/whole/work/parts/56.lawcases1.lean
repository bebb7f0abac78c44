/-! The law's cases. -/
set_option maxHeartbeats 4000000 in
set_option maxRecDepth 100000 in
theorem lc_type {p : Program} {e : Env} {s : State} {m : MethodId} {below : List Frame} {meth : Method} {c : Code} (l : Launch) {b L : Nat} {xs : Nat → Int32} {Q : State → Prop} {D : va_G} {ca : Nat → ClassId} {o i : Nat} {H : Heap} {ls : Array Slot} {cells slots : Nat} (hE : zz_E p m c c_La_law 4 s #[Value.ref b] R_La D ca) (ho : s.heap.size = o) (hbo : b < o) (hi : i + 4 ≤ L) (hL : L ≤ 2048) (hl : lv_has ls 4 [(0, .ref b), (1, .ref o), (2, .ref (o + 73)), (3, .int (nI i))]) (hJ : Jn D ca o H) (hX : va_X b L xs s H) (hcs : cells + 2 ≤ 600000 ∧ slots + 18 ≤ 7302250) (kk : ∀ H2 : Heap, Jn D ca o H2 → va_X b L xs s H2 → W p l e room_1 s m #[Value.ref b] below meth c H2 [] (cells + 2) (slots + 18) Q (F0 m 676 ls [])) : W p l e room_1 s m #[Value.ref b] below meth c H [] cells slots Q (F0 m 128 ls []) := by
  obtain ⟨n, h, rl, S, K, tk, w, A, F, N, Y, W0, E, rs, B, J⟩ := hJ
  have hx := hE.1.1
  have hb := hE.1.2.1
  have hP := J.2.2.2
  have hn := hP.1.1.2.1
  have hw4 := hP.1.1.2.2.1
  have hh := hP.1.2.1
  have hN := hP.2.2.1.1
  have hF := hP.2.2.1.2.1
  have htk := hP.2.2.2.1
  have hnb := hP.2.2.2.2.1
  have hdd := hP.2.2.2.2.2.1
  have hA := hP.1.1
  have hSk := hP.1.2
  refine lv_aload_n hx hb d_La_law_128 rfl (lv_at hl 1 rfl) ?_
  refine zl_arg (k := 1) hx hb hl hX (by omega) hL d_La_law_129 d_La_law_130 d_La_law_131 (by decide) d_La_law_132 d_La_law_133 ?_
  refine zl_arg (k := 2) hx hb hl hX (by omega) hL d_La_law_134 d_La_law_135 d_La_law_136 (by decide) d_La_law_137 d_La_law_138 ?_
  refine lv_i2c (v := nI ((xs (i + 2)).toBitVec.toNat % 65536)) hx hb d_La_law_139 (pk_char _) ?_
  refine zl_callI (cl_La_13 (rest := []) (As := [.int (xs (i + 1)), .int (nI ((xs (i + 2)).toBitVec.toNat % 65536))]) hE (k_RM_type l D ca o n h rl S K tk w A F N Y W0 hn hP.hnt.1 hP.hnt.2 (xs (i + 1)) ((xs (i + 2)).toBitVec.toNat % 65536) (Nat.mod_lt _ (by decide))) ⟨rfl, rfl, by decide, by decide⟩ J.1 J.1.1.1 rfl hl.1 rfl (Nat.le_of_ble_eq_true rfl) d_La_law_140 ⟨show cells + 0 ≤ 600000 by omega, show slots + 0 ≤ 7302250 by omega⟩) (fun q hq => by have := hq.1; omega) (fun H1 hpH1 => ?_)
  obtain ⟨f1, r1, r2, r3⟩ := hpH1
  have k1 : Kp o H H1 := Kp.sy f1
  have hX1 := hX.kept (k1 b hbo)
  have hM1 := J.2.2.1.sy f1
  refine lv_aload_n hx hb d_La_law_143 rfl (lv_at hl 2 rfl) ?_
  refine zl_arg (k := 1) hx hb hl hX1 (by omega) hL d_La_law_144 d_La_law_145 d_La_law_146 (by decide) d_La_law_147 d_La_law_148 ?_
  refine zl_arg (k := 2) hx hb hl hX1 (by omega) hL d_La_law_149 d_La_law_150 d_La_law_151 (by decide) d_La_law_152 d_La_law_153 ?_
  refine lv_i2c (v := nI ((xs (i + 2)).toBitVec.toNat % 65536)) hx hb d_La_law_154 (pk_char _) ?_
  refine zl_callI (cl_La_17 (rest := [.int (nI (cType (Y n) (xs (i + 1)) ((xs (i + 2)).toBitVec.toNat % 65536)).toNat)]) (As := [.int (xs (i + 1)), .int (nI ((xs (i + 2)).toBitVec.toNat % 65536))]) hE (k_Mo_type l D ca (o + 73) n h rs w B (xs (i + 1)) ((xs (i + 2)).toBitVec.toNat % 65536) (Nat.mod_lt _ (by decide)) hA) ⟨rfl, rfl, by decide, by decide⟩ hM1 hM1.1 rfl hl.1 rfl (Nat.le_of_ble_eq_true rfl) d_La_law_155 ⟨show cells + 0 ≤ 600000 by omega, show slots + 0 ≤ 7302250 by omega⟩) (fun q hq => by have := hq.1; omega) (fun H2 hpH2 => ?_)
  obtain ⟨f2, r4⟩ := hpH2
  have hz := jn_type J (xs (i + 1)) ((xs (i + 2)).toBitVec.toNat % 65536) f1 r1 r2 r3 f2 r4
  have hans : ((nI (cType (Y n) (xs (i + 1)) ((xs (i + 2)).toBitVec.toNat % 65536)).toNat) : Int32) = (nI (aType (fun f => B 2 (24 + f)) (xs (i + 1)) ((xs (i + 2)).toBitVec.toNat % 65536)).toNat) := by rw [hz.1]
  refine lv_icmp_eq hx hb d_La_law_158 (tgt := 676) rfl (fun _ => ?_) (fun h9 => absurd hans h9)
  exact W.widen (k := cells + 2) (n := slots + 18) (by omega) (by omega) (kk H2 hz.2.1 (hX.kept (hz.2.2 b hbo)))

set_option maxHeartbeats 4000000 in
set_option maxRecDepth 100000 in
theorem lc_add {p : Program} {e : Env} {s : State} {m : MethodId} {below : List Frame} {meth : Method} {c : Code} (l : Launch) {b L : Nat} {xs : Nat → Int32} {Q : State → Prop} {D : va_G} {ca : Nat → ClassId} {o i : Nat} {H : Heap} {ls : Array Slot} {cells slots : Nat} (hE : zz_E p m c c_La_law 4 s #[Value.ref b] R_La D ca) (ho : s.heap.size = o) (hbo : b < o) (hi : i + 4 ≤ L) (hL : L ≤ 2048) (hl : lv_has ls 4 [(0, .ref b), (1, .ref o), (2, .ref (o + 73)), (3, .int (nI i))]) (hJ : Jn D ca o H) (hX : va_X b L xs s H) (hcs : cells + 2 ≤ 600000 ∧ slots + 18 ≤ 7302250) (kk : ∀ H2 : Heap, Jn D ca o H2 → va_X b L xs s H2 → W p l e room_1 s m #[Value.ref b] below meth c H2 [] (cells + 2) (slots + 18) Q (F0 m 676 ls [])) : W p l e room_1 s m #[Value.ref b] below meth c H [] cells slots Q (F0 m 163 ls []) := by
  obtain ⟨n, h, rl, S, K, tk, w, A, F, N, Y, W0, E, rs, B, J⟩ := hJ
  have hx := hE.1.1
  have hb := hE.1.2.1
  have hP := J.2.2.2
  have hn := hP.1.1.2.1
  have hw4 := hP.1.1.2.2.1
  have hh := hP.1.2.1
  have hN := hP.2.2.1.1
  have hF := hP.2.2.1.2.1
  have htk := hP.2.2.2.1
  have hnb := hP.2.2.2.2.1
  have hdd := hP.2.2.2.2.2.1
  have hA := hP.1.1
  have hSk := hP.1.2
  refine lv_aload_n hx hb d_La_law_163 rfl (lv_at hl 1 rfl) ?_
  refine zl_callI (cl_La_18 (rest := []) (As := []) hE (k_RM_add l D ca o n h rl S K tk w A F N Y W0 hn) ⟨rfl, rfl, by decide, by decide⟩ J.1 J.1.1.1 rfl hl.1 rfl (Nat.le_of_ble_eq_true rfl) d_La_law_164 ⟨show cells + 0 ≤ 600000 by omega, show slots + 0 ≤ 7302250 by omega⟩) (fun q hq => by have := hq.1; omega) (fun H1 hpH1 => ?_)
  obtain ⟨f1, r1, r2, r3⟩ := hpH1
  have k1 : Kp o H H1 := Kp.sy f1
  have hX1 := hX.kept (k1 b hbo)
  have hM1 := J.2.2.1.sy f1
  refine lv_aload_n hx hb d_La_law_167 rfl (lv_at hl 2 rfl) ?_
  refine zl_callI (cl_La_22 (rest := [.int (if n = 12 then -2 else nI n)]) (As := []) hE (k_Mo_add l D ca (o + 73) n h rs w B hn hA.1) ⟨rfl, rfl, by decide, by decide⟩ hM1 hM1.1 rfl hl.1 rfl (Nat.le_of_ble_eq_true rfl) d_La_law_168 ⟨show cells + 0 ≤ 600000 by omega, show slots + 0 ≤ 7302250 by omega⟩) (fun q hq => by have := hq.1; omega) (fun H2 hpH2 => ?_)
  obtain ⟨f2, r4⟩ := hpH2
  have hz := jn_add J f1 r1 r2 r3 f2 r4
  have hans : ((if n = 12 then -2 else nI n) : Int32) = (if n = 12 then -2 else nI n) := rfl
  refine lv_icmp_eq hx hb d_La_law_171 (tgt := 676) rfl (fun _ => ?_) (fun h9 => absurd hans h9)
  exact W.widen (k := cells + 2) (n := slots + 18) (by omega) (by omega) (kk H2 hz.1 (hX.kept (hz.2 b hbo)))

set_option maxHeartbeats 4000000 in
set_option maxRecDepth 100000 in
theorem lc_records {p : Program} {e : Env} {s : State} {m : MethodId} {below : List Frame} {meth : Method} {c : Code} (l : Launch) {b L : Nat} {xs : Nat → Int32} {Q : State → Prop} {D : va_G} {ca : Nat → ClassId} {o i : Nat} {H : Heap} {ls : Array Slot} {cells slots : Nat} (hE : zz_E p m c c_La_law 4 s #[Value.ref b] R_La D ca) (ho : s.heap.size = o) (hbo : b < o) (hi : i + 4 ≤ L) (hL : L ≤ 2048) (hl : lv_has ls 4 [(0, .ref b), (1, .ref o), (2, .ref (o + 73)), (3, .int (nI i))]) (hJ : Jn D ca o H) (hX : va_X b L xs s H) (hcs : cells + 2 ≤ 600000 ∧ slots + 18 ≤ 7302250) (kk : ∀ H2 : Heap, Jn D ca o H2 → va_X b L xs s H2 → W p l e room_1 s m #[Value.ref b] below meth c H2 [] (cells + 2) (slots + 18) Q (F0 m 676 ls [])) : W p l e room_1 s m #[Value.ref b] below meth c H [] cells slots Q (F0 m 176 ls []) := by
  obtain ⟨n, h, rl, S, K, tk, w, A, F, N, Y, W0, E, rs, B, J⟩ := hJ
  have hx := hE.1.1
  have hb := hE.1.2.1
  have hP := J.2.2.2
  have hn := hP.1.1.2.1
  have hw4 := hP.1.1.2.2.1
  have hh := hP.1.2.1
  have hN := hP.2.2.1.1
  have hF := hP.2.2.1.2.1
  have htk := hP.2.2.2.1
  have hnb := hP.2.2.2.2.1
  have hdd := hP.2.2.2.2.2.1
  have hA := hP.1.1
  have hSk := hP.1.2
  refine lv_aload_n hx hb d_La_law_176 rfl (lv_at hl 1 rfl) ?_
  refine zz_callP (cl_La_23 (rest := []) (As := []) hE (k_RM_records l D ca o n h rl S K) ⟨rfl, rfl, by decide, by decide⟩ J.1.1 J.1.1.1 rfl hl.1 rfl (Nat.le_of_ble_eq_true rfl) d_La_law_177 ⟨show cells + 0 ≤ 600000 by omega, show slots + 0 ≤ 7302250 by omega⟩) ?_
  have hM1 := J.2.2.1
  refine lv_aload_n hx hb d_La_law_180 rfl (lv_at hl 2 rfl) ?_
  refine zz_callP (cl_La_26 (rest := [.int (nI n)]) (As := []) hE (k_Mo_records l D ca (o + 73) n h rs w B) ⟨rfl, rfl, by decide, by decide⟩ hM1 hM1.1 rfl hl.1 rfl (Nat.le_of_ble_eq_true rfl) d_La_law_181 ⟨show cells + 0 ≤ 600000 by omega, show slots + 0 ≤ 7302250 by omega⟩) ?_
  have hz := jn_records J
  have hans : ((nI n) : Int32) = (nI n) := rfl
  refine lv_icmp_eq hx hb d_La_law_184 (tgt := 676) rfl (fun _ => ?_) (fun h9 => absurd hans h9)
  exact W.widen (k := cells + 2) (n := slots + 18) (by omega) (by omega) (kk _ hz hX)

set_option maxHeartbeats 4000000 in
set_option maxRecDepth 100000 in
theorem lc_words {p : Program} {e : Env} {s : State} {m : MethodId} {below : List Frame} {meth : Method} {c : Code} (l : Launch) {b L : Nat} {xs : Nat → Int32} {Q : State → Prop} {D : va_G} {ca : Nat → ClassId} {o i : Nat} {H : Heap} {ls : Array Slot} {cells slots : Nat} (hE : zz_E p m c c_La_law 4 s #[Value.ref b] R_La D ca) (ho : s.heap.size = o) (hbo : b < o) (hi : i + 4 ≤ L) (hL : L ≤ 2048) (hl : lv_has ls 4 [(0, .ref b), (1, .ref o), (2, .ref (o + 73)), (3, .int (nI i))]) (hJ : Jn D ca o H) (hX : va_X b L xs s H) (hcs : cells + 2 ≤ 600000 ∧ slots + 18 ≤ 7302250) (kk : ∀ H2 : Heap, Jn D ca o H2 → va_X b L xs s H2 → W p l e room_1 s m #[Value.ref b] below meth c H2 [] (cells + 2) (slots + 18) Q (F0 m 676 ls [])) : W p l e room_1 s m #[Value.ref b] below meth c H [] cells slots Q (F0 m 189 ls []) := by
  obtain ⟨n, h, rl, S, K, tk, w, A, F, N, Y, W0, E, rs, B, J⟩ := hJ
  have hx := hE.1.1
  have hb := hE.1.2.1
  have hP := J.2.2.2
  have hn := hP.1.1.2.1
  have hw4 := hP.1.1.2.2.1
  have hh := hP.1.2.1
  have hN := hP.2.2.1.1
  have hF := hP.2.2.1.2.1
  have htk := hP.2.2.2.1
  have hnb := hP.2.2.2.2.1
  have hdd := hP.2.2.2.2.2.1
  have hA := hP.1.1
  have hSk := hP.1.2
  refine lv_aload_n hx hb d_La_law_189 rfl (lv_at hl 1 rfl) ?_
  refine zl_arg (k := 1) hx hb hl hX (by omega) hL d_La_law_190 d_La_law_191 d_La_law_192 (by decide) d_La_law_193 d_La_law_194 ?_
  refine zl_arg (k := 2) hx hb hl hX (by omega) hL d_La_law_195 d_La_law_196 d_La_law_197 (by decide) d_La_law_198 d_La_law_199 ?_
  refine zz_callP (cl_La_27 (rest := []) (As := [.int (xs (i + 1)), .int (xs (i + 2))]) hE (k_RM_words l D ca o n h rl S K F N Y W0 hn hN hF (xs (i + 1)) (xs (i + 2))) ⟨rfl, rfl, by decide, by decide⟩ ⟨J.1.1, J.1.2.2⟩ J.1.1.1 rfl hl.1 rfl (Nat.le_of_ble_eq_true rfl) d_La_law_200 ⟨show cells + 0 ≤ 600000 by omega, show slots + 0 ≤ 7302250 by omega⟩) ?_
  have hM1 := J.2.2.1
  refine lv_aload_n hx hb d_La_law_203 rfl (lv_at hl 2 rfl) ?_
  refine zl_arg (k := 1) hx hb hl hX (by omega) hL d_La_law_204 d_La_law_205 d_La_law_206 (by decide) d_La_law_207 d_La_law_208 ?_
  refine zl_arg (k := 2) hx hb hl hX (by omega) hL d_La_law_209 d_La_law_210 d_La_law_211 (by decide) d_La_law_212 d_La_law_213 ?_
  refine zl_callI (cl_La_31 (rest := [.int (cWords n F N (xs (i + 1)) (xs (i + 2)))]) (As := [.int (xs (i + 1)), .int (xs (i + 2))]) hE (k_Mo_words l D ca (o + 73) n h rs w B (xs (i + 1)) (xs (i + 2)) hA) ⟨rfl, rfl, by decide, by decide⟩ hM1 hM1.1 rfl hl.1 rfl (Nat.le_of_ble_eq_true rfl) d_La_law_214 ⟨show cells + 0 ≤ 600000 by omega, show slots + 0 ≤ 7302250 by omega⟩) (fun q hq => by have := hq.1; omega) (fun H2 hpH2 => ?_)
  obtain ⟨f2, C, r4, r5⟩ := hpH2
  have hz := jn_words J (xs (i + 1)) (xs (i + 2)) f2 ⟨C, r4, r5⟩
  have hans : ((cWords n F N (xs (i + 1)) (xs (i + 2))) : Int32) = (aWords n (mTx B) (xs (i + 1)) (xs (i + 2))) := hz.1
  refine lv_icmp_eq hx hb d_La_law_217 (tgt := 676) rfl (fun _ => ?_) (fun h9 => absurd hans h9)
  exact W.widen (k := cells + 2) (n := slots + 18) (by omega) (by omega) (kk H2 hz.2.1 (hX.kept (hz.2.2 b hbo)))

set_option maxHeartbeats 4000000 in
set_option maxRecDepth 100000 in
theorem lc_length {p : Program} {e : Env} {s : State} {m : MethodId} {below : List Frame} {meth : Method} {c : Code} (l : Launch) {b L : Nat} {xs : Nat → Int32} {Q : State → Prop} {D : va_G} {ca : Nat → ClassId} {o i : Nat} {H : Heap} {ls : Array Slot} {cells slots : Nat} (hE : zz_E p m c c_La_law 4 s #[Value.ref b] R_La D ca) (ho : s.heap.size = o) (hbo : b < o) (hi : i + 4 ≤ L) (hL : L ≤ 2048) (hl : lv_has ls 4 [(0, .ref b), (1, .ref o), (2, .ref (o + 73)), (3, .int (nI i))]) (hJ : Jn D ca o H) (hX : va_X b L xs s H) (hcs : cells + 2 ≤ 600000 ∧ slots + 18 ≤ 7302250) (kk : ∀ H2 : Heap, Jn D ca o H2 → va_X b L xs s H2 → W p l e room_1 s m #[Value.ref b] below meth c H2 [] (cells + 2) (slots + 18) Q (F0 m 676 ls [])) : W p l e room_1 s m #[Value.ref b] below meth c H [] cells slots Q (F0 m 222 ls []) := by
  obtain ⟨n, h, rl, S, K, tk, w, A, F, N, Y, W0, E, rs, B, J⟩ := hJ
  have hx := hE.1.1
  have hb := hE.1.2.1
  have hP := J.2.2.2
  have hn := hP.1.1.2.1
  have hw4 := hP.1.1.2.2.1
  have hh := hP.1.2.1
  have hN := hP.2.2.1.1
  have hF := hP.2.2.1.2.1
  have htk := hP.2.2.2.1
  have hnb := hP.2.2.2.2.1
  have hdd := hP.2.2.2.2.2.1
  have hA := hP.1.1
  have hSk := hP.1.2
  refine lv_aload_n hx hb d_La_law_222 rfl (lv_at hl 1 rfl) ?_
  refine zl_arg (k := 1) hx hb hl hX (by omega) hL d_La_law_223 d_La_law_224 d_La_law_225 (by decide) d_La_law_226 d_La_law_227 ?_
  refine zl_arg (k := 2) hx hb hl hX (by omega) hL d_La_law_228 d_La_law_229 d_La_law_230 (by decide) d_La_law_231 d_La_law_232 ?_
  refine zz_callP (cl_La_32 (rest := []) (As := [.int (xs (i + 1)), .int (xs (i + 2))]) hE (k_RM_length l D ca o n h rl S K F N Y W0 hn hN hF (xs (i + 1)) (xs (i + 2))) ⟨rfl, rfl, by decide, by decide⟩ ⟨J.1.1, J.1.2.2⟩ J.1.1.1 rfl hl.1 rfl (Nat.le_of_ble_eq_true rfl) d_La_law_233 ⟨show cells + 0 ≤ 600000 by omega, show slots + 0 ≤ 7302250 by omega⟩) ?_
  have hM1 := J.2.2.1
  refine lv_aload_n hx hb d_La_law_236 rfl (lv_at hl 2 rfl) ?_
  refine zl_arg (k := 1) hx hb hl hX (by omega) hL d_La_law_237 d_La_law_238 d_La_law_239 (by decide) d_La_law_240 d_La_law_241 ?_
  refine zl_arg (k := 2) hx hb hl hX (by omega) hL d_La_law_242 d_La_law_243 d_La_law_244 (by decide) d_La_law_245 d_La_law_246 ?_
  refine zl_callI (cl_La_35 (rest := [.int (cLength n N (xs (i + 1)) (xs (i + 2)))]) (As := [.int (xs (i + 1)), .int (xs (i + 2))]) hE (k_Mo_length l D ca (o + 73) n h rs w B (xs (i + 1)) (xs (i + 2)) hA) ⟨rfl, rfl, by decide, by decide⟩ hM1 hM1.1 rfl hl.1 rfl (Nat.le_of_ble_eq_true rfl) d_La_law_247 ⟨show cells + 0 ≤ 600000 by omega, show slots + 0 ≤ 7302250 by omega⟩) (fun q hq => by have := hq.1; omega) (fun H2 hpH2 => ?_)
  obtain ⟨f2, C, r4, r5, -⟩ := hpH2
  have hz := jn_length J (xs (i + 1)) (xs (i + 2)) f2 ⟨C, r4, r5⟩
  have hans : ((cLength n N (xs (i + 1)) (xs (i + 2))) : Int32) = (aLength n (mTx B) (xs (i + 1)) (xs (i + 2))) := hz.1
  refine lv_icmp_eq hx hb d_La_law_250 (tgt := 676) rfl (fun _ => ?_) (fun h9 => absurd hans h9)
  exact W.widen (k := cells + 2) (n := slots + 18) (by omega) (by omega) (kk H2 hz.2.1 (hX.kept (hz.2.2 b hbo)))

set_option maxHeartbeats 4000000 in
set_option maxRecDepth 100000 in
theorem lc_unit {p : Program} {e : Env} {s : State} {m : MethodId} {below : List Frame} {meth : Method} {c : Code} (l : Launch) {b L : Nat} {xs : Nat → Int32} {Q : State → Prop} {D : va_G} {ca : Nat → ClassId} {o i : Nat} {H : Heap} {ls : Array Slot} {cells slots : Nat} (hE : zz_E p m c c_La_law 4 s #[Value.ref b] R_La D ca) (ho : s.heap.size = o) (hbo : b < o) (hi : i + 4 ≤ L) (hL : L ≤ 2048) (hl : lv_has ls 4 [(0, .ref b), (1, .ref o), (2, .ref (o + 73)), (3, .int (nI i))]) (hJ : Jn D ca o H) (hX : va_X b L xs s H) (hcs : cells + 2 ≤ 600000 ∧ slots + 18 ≤ 7302250) (kk : ∀ H2 : Heap, Jn D ca o H2 → va_X b L xs s H2 → W p l e room_1 s m #[Value.ref b] below meth c H2 [] (cells + 2) (slots + 18) Q (F0 m 676 ls [])) : W p l e room_1 s m #[Value.ref b] below meth c H [] cells slots Q (F0 m 255 ls []) := by
  obtain ⟨n, h, rl, S, K, tk, w, A, F, N, Y, W0, E, rs, B, J⟩ := hJ
  have hx := hE.1.1
  have hb := hE.1.2.1
  have hP := J.2.2.2
  have hn := hP.1.1.2.1
  have hw4 := hP.1.1.2.2.1
  have hh := hP.1.2.1
  have hN := hP.2.2.1.1
  have hF := hP.2.2.1.2.1
  have htk := hP.2.2.2.1
  have hnb := hP.2.2.2.2.1
  have hdd := hP.2.2.2.2.2.1
  have hA := hP.1.1
  have hSk := hP.1.2
  refine lv_aload_n hx hb d_La_law_255 rfl (lv_at hl 1 rfl) ?_
  refine zl_arg (k := 1) hx hb hl hX (by omega) hL d_La_law_256 d_La_law_257 d_La_law_258 (by decide) d_La_law_259 d_La_law_260 ?_
  refine zl_arg (k := 2) hx hb hl hX (by omega) hL d_La_law_261 d_La_law_262 d_La_law_263 (by decide) d_La_law_264 d_La_law_265 ?_
  refine zl_arg (k := 3) hx hb hl hX (by omega) hL d_La_law_266 d_La_law_267 d_La_law_268 (by decide) d_La_law_269 d_La_law_270 ?_
  refine zz_callP (cl_La_36 (rest := []) (As := [.int (xs (i + 1)), .int (xs (i + 2)), .int (xs (i + 3))]) hE (k_RM_unit l D ca o n h rl S K F N Y W0 hn hN hF (xs (i + 1)) (xs (i + 2)) (xs (i + 3))) ⟨rfl, rfl, by decide, by decide⟩ ⟨J.1.1, J.1.2.2⟩ J.1.1.1 rfl hl.1 rfl (Nat.le_of_ble_eq_true rfl) d_La_law_271 ⟨show cells + 0 ≤ 600000 by omega, show slots + 0 ≤ 7302250 by omega⟩) ?_
  have hM1 := J.2.2.1
  refine lv_aload_n hx hb d_La_law_274 rfl (lv_at hl 2 rfl) ?_
  refine zl_arg (k := 1) hx hb hl hX (by omega) hL d_La_law_275 d_La_law_276 d_La_law_277 (by decide) d_La_law_278 d_La_law_279 ?_
  refine zl_arg (k := 2) hx hb hl hX (by omega) hL d_La_law_280 d_La_law_281 d_La_law_282 (by decide) d_La_law_283 d_La_law_284 ?_
  refine zl_arg (k := 3) hx hb hl hX (by omega) hL d_La_law_285 d_La_law_286 d_La_law_287 (by decide) d_La_law_288 d_La_law_289 ?_
  refine zl_callI (cl_La_40 (rest := [.int (cUnit n F N (xs (i + 1)) (xs (i + 2)) (xs (i + 3)))]) (As := [.int (xs (i + 1)), .int (xs (i + 2)), .int (xs (i + 3))]) hE (k_Mo_unit l D ca (o + 73) n h rs w B (xs (i + 1)) (xs (i + 2)) (xs (i + 3)) hA) ⟨rfl, rfl, by decide, by decide⟩ hM1 hM1.1 rfl hl.1 rfl (Nat.le_of_ble_eq_true rfl) d_La_law_290 ⟨show cells + 0 ≤ 600000 by omega, show slots + 0 ≤ 7302250 by omega⟩) (fun q hq => by have := hq.1; omega) (fun H2 hpH2 => ?_)
  obtain ⟨f2, r4⟩ := hpH2
  have hz := jn_unit J (xs (i + 1)) (xs (i + 2)) (xs (i + 3)) f2 r4
  have hans : ((cUnit n F N (xs (i + 1)) (xs (i + 2)) (xs (i + 3))) : Int32) = (aUnit n (mTx B) (xs (i + 1)) (xs (i + 2)) (xs (i + 3))) := hz.1
  refine lv_icmp_eq hx hb d_La_law_293 (tgt := 676) rfl (fun _ => ?_) (fun h9 => absurd hans h9)
  exact W.widen (k := cells + 2) (n := slots + 18) (by omega) (by omega) (kk H2 hz.2.1 (hX.kept (hz.2.2 b hbo)))

set_option maxHeartbeats 4000000 in
set_option maxRecDepth 100000 in
theorem lc_jaccard {p : Program} {e : Env} {s : State} {m : MethodId} {below : List Frame} {meth : Method} {c : Code} (l : Launch) {b L : Nat} {xs : Nat → Int32} {Q : State → Prop} {D : va_G} {ca : Nat → ClassId} {o i : Nat} {H : Heap} {ls : Array Slot} {cells slots : Nat} (hE : zz_E p m c c_La_law 4 s #[Value.ref b] R_La D ca) (ho : s.heap.size = o) (hbo : b < o) (hi : i + 4 ≤ L) (hL : L ≤ 2048) (hl : lv_has ls 4 [(0, .ref b), (1, .ref o), (2, .ref (o + 73)), (3, .int (nI i))]) (hJ : Jn D ca o H) (hX : va_X b L xs s H) (hcs : cells + 2 ≤ 600000 ∧ slots + 18 ≤ 7302250) (kk : ∀ H2 : Heap, Jn D ca o H2 → va_X b L xs s H2 → W p l e room_1 s m #[Value.ref b] below meth c H2 [] (cells + 2) (slots + 18) Q (F0 m 676 ls [])) : W p l e room_1 s m #[Value.ref b] below meth c H [] cells slots Q (F0 m 298 ls []) := by
  obtain ⟨n, h, rl, S, K, tk, w, A, F, N, Y, W0, E, rs, B, J⟩ := hJ
  have hx := hE.1.1
  have hb := hE.1.2.1
  have hP := J.2.2.2
  have hn := hP.1.1.2.1
  have hw4 := hP.1.1.2.2.1
  have hh := hP.1.2.1
  have hN := hP.2.2.1.1
  have hF := hP.2.2.1.2.1
  have htk := hP.2.2.2.1
  have hnb := hP.2.2.2.2.1
  have hdd := hP.2.2.2.2.2.1
  have hA := hP.1.1
  have hSk := hP.1.2
  refine lv_aload_n hx hb d_La_law_298 rfl (lv_at hl 1 rfl) ?_
  refine zl_arg (k := 1) hx hb hl hX (by omega) hL d_La_law_299 d_La_law_300 d_La_law_301 (by decide) d_La_law_302 d_La_law_303 ?_
  refine zl_arg (k := 2) hx hb hl hX (by omega) hL d_La_law_304 d_La_law_305 d_La_law_306 (by decide) d_La_law_307 d_La_law_308 ?_
  refine zl_arg (k := 3) hx hb hl hX (by omega) hL d_La_law_309 d_La_law_310 d_La_law_311 (by decide) d_La_law_312 d_La_law_313 ?_
  refine zl_callI (cl_La_41 (rest := []) (As := [.int (xs (i + 1)), .int (xs (i + 2)), .int (xs (i + 3))]) hE (k_RM_jaccard l D ca o n h rl S K H.size hh (xs (i + 1)) (xs (i + 2)) (xs (i + 3))) ⟨rfl, rfl, by decide, by decide⟩ ⟨J.1.1, rfl⟩ J.1.1.1 rfl hl.1 rfl (Nat.le_of_ble_eq_true rfl) d_La_law_314 ⟨show cells + 1 ≤ 600000 by omega, show slots + 5 ≤ 7302250 by omega⟩) (fun q hq => Or.elim hq (fun hq => by unfold rmFr at hq; omega) (fun hq => by have := J.sz; omega)) (fun H1 hpH1 => ?_)
  obtain ⟨g0, g1⟩ := hpH1
  have k1 : Kp o H H1 := kp_jac J rfl g0 (fun h9 => ⟨(g1 h9).1, (g1 h9).2.1⟩)
  have hX1 := hX.kept (k1 b hbo)
  have hM1 := mo_jac J rfl g0 (fun h9 => ⟨(g1 h9).1, (g1 h9).2.1⟩)
  refine lv_aload_n hx hb d_La_law_317 rfl (lv_at hl 2 rfl) ?_
  refine zl_arg (k := 1) hx hb hl hX1 (by omega) hL d_La_law_318 d_La_law_319 d_La_law_320 (by decide) d_La_law_321 d_La_law_322 ?_
  refine zl_arg (k := 2) hx hb hl hX1 (by omega) hL d_La_law_323 d_La_law_324 d_La_law_325 (by decide) d_La_law_326 d_La_law_327 ?_
  refine zl_arg (k := 3) hx hb hl hX1 (by omega) hL d_La_law_328 d_La_law_329 d_La_law_330 (by decide) d_La_law_331 d_La_law_332 ?_
  refine zl_callI (cl_La_45 (rest := [.int (nI (aJac h (xs (i + 1)) (xs (i + 2)) (xs (i + 3))).toNat)]) (As := [.int (xs (i + 1)), .int (xs (i + 2)), .int (xs (i + 3))]) hE (k_Mo_jaccard l D ca (o + 73) n h rs w B (xs (i + 1)) (xs (i + 2)) (xs (i + 3)) hSk) ⟨rfl, rfl, by decide, by decide⟩ hM1 hM1.1 rfl hl.1 rfl (Nat.le_of_ble_eq_true rfl) d_La_law_333 ⟨show cells + 1 + 0 ≤ 600000 by omega, show slots + 5 + 0 ≤ 7302250 by omega⟩) (fun q hq => by have := hq.1; omega) (fun H2 hpH2 => ?_)
  obtain ⟨f2, r4⟩ := hpH2
  have hz := jn_jaccard J (xs (i + 1)) (xs (i + 2)) (xs (i + 3)) rfl g0 g1 f2 r4
  have hans : ((nI (aJac h (xs (i + 1)) (xs (i + 2)) (xs (i + 3))).toNat) : Int32) = (nI (aJac h (xs (i + 1)) (xs (i + 2)) (xs (i + 3))).toNat) := rfl
  refine lv_icmp_eq hx hb d_La_law_336 (tgt := 676) rfl (fun _ => ?_) (fun h9 => absurd hans h9)
  exact W.widen (k := cells + 2) (n := slots + 18) (by omega) (by omega) (kk H2 hz.1 (hX.kept (hz.2 b hbo)))

set_option maxHeartbeats 4000000 in
set_option maxRecDepth 100000 in
theorem lc_edit {p : Program} {e : Env} {s : State} {m : MethodId} {below : List Frame} {meth : Method} {c : Code} (l : Launch) {b L : Nat} {xs : Nat → Int32} {Q : State → Prop} {D : va_G} {ca : Nat → ClassId} {o i : Nat} {H : Heap} {ls : Array Slot} {cells slots : Nat} (hE : zz_E p m c c_La_law 4 s #[Value.ref b] R_La D ca) (ho : s.heap.size = o) (hbo : b < o) (hi : i + 4 ≤ L) (hL : L ≤ 2048) (hl : lv_has ls 4 [(0, .ref b), (1, .ref o), (2, .ref (o + 73)), (3, .int (nI i))]) (hJ : Jn D ca o H) (hX : va_X b L xs s H) (hcs : cells + 2 ≤ 600000 ∧ slots + 18 ≤ 7302250) (kk : ∀ H2 : Heap, Jn D ca o H2 → va_X b L xs s H2 → W p l e room_1 s m #[Value.ref b] below meth c H2 [] (cells + 2) (slots + 18) Q (F0 m 676 ls [])) : W p l e room_1 s m #[Value.ref b] below meth c H [] cells slots Q (F0 m 341 ls []) := by
  obtain ⟨n, h, rl, S, K, tk, w, A, F, N, Y, W0, E, rs, B, J⟩ := hJ
  have hx := hE.1.1
  have hb := hE.1.2.1
  have hP := J.2.2.2
  have hn := hP.1.1.2.1
  have hw4 := hP.1.1.2.2.1
  have hh := hP.1.2.1
  have hN := hP.2.2.1.1
  have hF := hP.2.2.1.2.1
  have htk := hP.2.2.2.1
  have hnb := hP.2.2.2.2.1
  have hdd := hP.2.2.2.2.2.1
  have hA := hP.1.1
  have hSk := hP.1.2
  refine lv_aload_n hx hb d_La_law_341 rfl (lv_at hl 1 rfl) ?_
  refine zl_arg (k := 1) hx hb hl hX (by omega) hL d_La_law_342 d_La_law_343 d_La_law_344 (by decide) d_La_law_345 d_La_law_346 ?_
  refine zl_arg (k := 2) hx hb hl hX (by omega) hL d_La_law_347 d_La_law_348 d_La_law_349 (by decide) d_La_law_350 d_La_law_351 ?_
  refine zl_callI (cl_La_46 (rest := []) (As := [.int (xs (i + 1)), .int (xs (i + 2))]) hE (k_RM_edit l D ca o n h rl S K H.size hh (xs (i + 1)) (xs (i + 2))) ⟨rfl, rfl, by decide, by decide⟩ ⟨J.1.1, rfl⟩ J.1.1.1 rfl hl.1 rfl (Nat.le_of_ble_eq_true rfl) d_La_law_352 ⟨show cells + 2 ≤ 600000 by omega, show slots + 18 ≤ 7302250 by omega⟩) (fun q hq => Or.elim hq (fun hq => by unfold rmFr at hq; omega) (fun hq => by have := J.sz; omega)) (fun H1 hpH1 => ?_)
  obtain ⟨g0, g1⟩ := hpH1
  have k1 : Kp o H H1 := kp_jac J rfl g0 (fun h9 => ⟨(g1 h9).1, (g1 h9).2.1⟩)
  have hX1 := hX.kept (k1 b hbo)
  have hM1 := mo_jac J rfl g0 (fun h9 => ⟨(g1 h9).1, (g1 h9).2.1⟩)
  refine lv_aload_n hx hb d_La_law_355 rfl (lv_at hl 2 rfl) ?_
  refine zl_arg (k := 1) hx hb hl hX1 (by omega) hL d_La_law_356 d_La_law_357 d_La_law_358 (by decide) d_La_law_359 d_La_law_360 ?_
  refine zl_arg (k := 2) hx hb hl hX1 (by omega) hL d_La_law_361 d_La_law_362 d_La_law_363 (by decide) d_La_law_364 d_La_law_365 ?_
  refine zl_callI (cl_La_50 (rest := [.int (nI (aEdt h (xs (i + 1)) (xs (i + 2))).toNat)]) (As := [.int (xs (i + 1)), .int (xs (i + 2))]) hE (k_Mo_edit l D ca (o + 73) n h rs w B (xs (i + 1)) (xs (i + 2)) hSk) ⟨rfl, rfl, by decide, by decide⟩ hM1 hM1.1 rfl hl.1 rfl (Nat.le_of_ble_eq_true rfl) d_La_law_366 ⟨show cells + 2 + 0 ≤ 600000 by omega, show slots + 18 + 0 ≤ 7302250 by omega⟩) (fun q hq => by have := hq.1; omega) (fun H2 hpH2 => ?_)
  obtain ⟨f2, r4⟩ := hpH2
  have hz := jn_edit J (xs (i + 1)) (xs (i + 2)) rfl g0 g1 f2 r4
  have hans : ((nI (aEdt h (xs (i + 1)) (xs (i + 2))).toNat) : Int32) = (nI (aEdt h (xs (i + 1)) (xs (i + 2))).toNat) := rfl
  refine lv_icmp_eq hx hb d_La_law_369 (tgt := 676) rfl (fun _ => ?_) (fun h9 => absurd hans h9)
  exact W.widen (k := cells + 2) (n := slots + 18) (by omega) (by omega) (kk H2 hz.1 (hX.kept (hz.2 b hbo)))

set_option maxHeartbeats 4000000 in
set_option maxRecDepth 100000 in
theorem lc_join {p : Program} {e : Env} {s : State} {m : MethodId} {below : List Frame} {meth : Method} {c : Code} (l : Launch) {b L : Nat} {xs : Nat → Int32} {Q : State → Prop} {D : va_G} {ca : Nat → ClassId} {o i : Nat} {H : Heap} {ls : Array Slot} {cells slots : Nat} (hE : zz_E p m c c_La_law 4 s #[Value.ref b] R_La D ca) (ho : s.heap.size = o) (hbo : b < o) (hi : i + 4 ≤ L) (hL : L ≤ 2048) (hl : lv_has ls 4 [(0, .ref b), (1, .ref o), (2, .ref (o + 73)), (3, .int (nI i))]) (hJ : Jn D ca o H) (hX : va_X b L xs s H) (hcs : cells + 2 ≤ 600000 ∧ slots + 18 ≤ 7302250) (kk : ∀ H2 : Heap, Jn D ca o H2 → va_X b L xs s H2 → W p l e room_1 s m #[Value.ref b] below meth c H2 [] (cells + 2) (slots + 18) Q (F0 m 676 ls [])) : W p l e room_1 s m #[Value.ref b] below meth c H [] cells slots Q (F0 m 374 ls []) := by
  obtain ⟨n, h, rl, S, K, tk, w, A, F, N, Y, W0, E, rs, B, J⟩ := hJ
  have hx := hE.1.1
  have hb := hE.1.2.1
  have hP := J.2.2.2
  have hn := hP.1.1.2.1
  have hw4 := hP.1.1.2.2.1
  have hh := hP.1.2.1
  have hN := hP.2.2.1.1
  have hF := hP.2.2.1.2.1
  have htk := hP.2.2.2.1
  have hnb := hP.2.2.2.2.1
  have hdd := hP.2.2.2.2.2.1
  have hA := hP.1.1
  have hSk := hP.1.2
  rcases (show h = 0 ∨ h = 1 ∨ 2 ≤ h by omega) with hq | hq | hq
  · skip
    refine lv_aload_n hx hb d_La_law_374 rfl (lv_at hl 1 rfl) ?_
    refine zl_arg (k := 1) hx hb hl hX (by omega) hL d_La_law_375 d_La_law_376 d_La_law_377 (by decide) d_La_law_378 d_La_law_379 ?_
    refine zl_nz hx hb (t1 := 387) (t2 := 388) d_La_law_380 rfl d_La_law_383 d_La_law_384 rfl d_La_law_387 rfl ?_
    refine zz_callP (cl_La_51 (rest := []) (As := [.int (nI (decide ((xs (i + 1)) ≠ 0)).toNat)]) hE (k_RM_join_0 l D ca o n h rl S K hq (decide ((xs (i + 1)) ≠ 0))) ⟨rfl, rfl, by decide, by decide⟩ J.1.1 J.1.1.1 rfl hl.1 rfl (Nat.le_of_ble_eq_true rfl) d_La_law_388 ⟨show cells + 0 ≤ 600000 by omega, show slots + 0 ≤ 7302250 by omega⟩) ?_
    have hM1 := J.2.2.1
    refine lv_aload_n hx hb d_La_law_391 rfl (lv_at hl 2 rfl) ?_
    refine zl_arg (k := 1) hx hb hl hX (by omega) hL d_La_law_392 d_La_law_393 d_La_law_394 (by decide) d_La_law_395 d_La_law_396 ?_
    refine zl_nz hx hb (t1 := 404) (t2 := 405) d_La_law_397 rfl d_La_law_400 d_La_law_401 rfl d_La_law_404 rfl ?_
    refine zl_callI (cl_La_55 (rest := [.int (nI 0)]) (As := [.int (nI (decide ((xs (i + 1)) ≠ 0)).toNat)]) hE (k_Mo_join l D ca (o + 73) n h rs w B (decide ((xs (i + 1)) ≠ 0)) hSk) ⟨rfl, rfl, by decide, by decide⟩ hM1 hM1.1 rfl hl.1 rfl (Nat.le_of_ble_eq_true rfl) d_La_law_405 ⟨show cells + 0 ≤ 600000 by omega, show slots + 0 ≤ 7302250 by omega⟩) (fun q hq => by have := hq.1; omega) (fun H2 hpH2 => ?_)
    obtain ⟨f2, r4⟩ := hpH2
    have hz := jn_join0 J (by omega) (decide ((xs (i + 1)) ≠ 0)) f2 r4
    have hans : ((nI 0) : Int32) = (nI (aJoin B h).toNat) := hz.1
    refine lv_icmp_eq hx hb d_La_law_408 (tgt := 676) rfl (fun _ => ?_) (fun h9 => absurd hans h9)
    exact W.widen (k := cells + 2) (n := slots + 18) (by omega) (by omega) (kk H2 hz.2.1 (hX.kept (hz.2.2 b hbo)))
  · skip
    obtain ⟨up, e0, -⟩ := jp_accept J (by omega)
    refine lv_aload_n hx hb d_La_law_374 rfl (lv_at hl 1 rfl) ?_
    refine zl_arg (k := 1) hx hb hl hX (by omega) hL d_La_law_375 d_La_law_376 d_La_law_377 (by decide) d_La_law_378 d_La_law_379 ?_
    refine zl_nz hx hb (t1 := 387) (t2 := 388) d_La_law_380 rfl d_La_law_383 d_La_law_384 rfl d_La_law_387 rfl ?_
    refine zz_callP (cl_La_51 (rest := []) (As := [.int (nI (decide ((xs (i + 1)) ≠ 0)).toNat)]) hE (k_RM_join_1 l D ca o n h rl S K up hq e0 (decide ((xs (i + 1)) ≠ 0))) ⟨rfl, rfl, by decide, by decide⟩ J.1.1 J.1.1.1 rfl hl.1 rfl (Nat.le_of_ble_eq_true rfl) d_La_law_388 ⟨show cells + 0 ≤ 600000 by omega, show slots + 0 ≤ 7302250 by omega⟩) ?_
    have hM1 := J.2.2.1
    refine lv_aload_n hx hb d_La_law_391 rfl (lv_at hl 2 rfl) ?_
    refine zl_arg (k := 1) hx hb hl hX (by omega) hL d_La_law_392 d_La_law_393 d_La_law_394 (by decide) d_La_law_395 d_La_law_396 ?_
    refine zl_nz hx hb (t1 := 404) (t2 := 405) d_La_law_397 rfl d_La_law_400 d_La_law_401 rfl d_La_law_404 rfl ?_
    refine zl_callI (cl_La_55 (rest := [.int (nI 0)]) (As := [.int (nI (decide ((xs (i + 1)) ≠ 0)).toNat)]) hE (k_Mo_join l D ca (o + 73) n h rs w B (decide ((xs (i + 1)) ≠ 0)) hSk) ⟨rfl, rfl, by decide, by decide⟩ hM1 hM1.1 rfl hl.1 rfl (Nat.le_of_ble_eq_true rfl) d_La_law_405 ⟨show cells + 0 ≤ 600000 by omega, show slots + 0 ≤ 7302250 by omega⟩) (fun q hq => by have := hq.1; omega) (fun H2 hpH2 => ?_)
    obtain ⟨f2, r4⟩ := hpH2
    have hz := jn_join0 J (by omega) (decide ((xs (i + 1)) ≠ 0)) f2 r4
    have hans : ((nI 0) : Int32) = (nI (aJoin B h).toNat) := hz.1
    refine lv_icmp_eq hx hb d_La_law_408 (tgt := 676) rfl (fun _ => ?_) (fun h9 => absurd hans h9)
    exact W.widen (k := cells + 2) (n := slots + 18) (by omega) (by omega) (kk H2 hz.2.1 (hX.kept (hz.2.2 b hbo)))
  · skip
    obtain ⟨lo, up, ⟨e1, x1, l1, l2, l3⟩, ⟨e0, x2, u1, u2, u3⟩⟩ := jp_join J hq
    refine lv_aload_n hx hb d_La_law_374 rfl (lv_at hl 1 rfl) ?_
    refine zl_arg (k := 1) hx hb hl hX (by omega) hL d_La_law_375 d_La_law_376 d_La_law_377 (by decide) d_La_law_378 d_La_law_379 ?_
    refine zl_nz hx hb (t1 := 387) (t2 := 388) d_La_law_380 rfl d_La_law_383 d_La_law_384 rfl d_La_law_387 rfl ?_
    refine zl_callI (cl_La_51 (rest := []) (As := [.int (nI (decide ((xs (i + 1)) ≠ 0)).toNat)]) hE (k_RM_join l D ca o n h rl S K H.size lo up (tLv (stk B (h - 2))) (tLv (stk B (h - 1))) (tDr (stk B (h - 2))) (tDr (stk B (h - 1))) hh hq e1 e0 x1.1 x2.1 l1 u1 l2 u2 (decide ((xs (i + 1)) ≠ 0))) ⟨rfl, rfl, by decide, by decide⟩ ⟨J.1.1, rfl, l3, u3⟩ J.1.1.1 rfl hl.1 rfl (Nat.le_of_ble_eq_true rfl) d_La_law_388 ⟨show cells + 1 ≤ 600000 by omega, show slots + 5 ≤ 7302250 by omega⟩) (fun q hq => Or.elim hq (fun hq => by unfold rmFr at hq; omega) (fun hq => by have := J.sz; omega)) (fun H1 hpH1 => ?_)
    obtain ⟨g0, g1⟩ := hpH1
    have k1 : Kp o H H1 := kp_jac J rfl g0 (fun h9 => ⟨(g1 h9).1, (g1 h9).2.1⟩)
    have hX1 := hX.kept (k1 b hbo)
    have hM1 := mo_jac J rfl g0 (fun h9 => ⟨(g1 h9).1, (g1 h9).2.1⟩)
    refine lv_aload_n hx hb d_La_law_391 rfl (lv_at hl 2 rfl) ?_
    refine zl_arg (k := 1) hx hb hl hX1 (by omega) hL d_La_law_392 d_La_law_393 d_La_law_394 (by decide) d_La_law_395 d_La_law_396 ?_
    refine zl_nz hx hb (t1 := 404) (t2 := 405) d_La_law_397 rfl d_La_law_400 d_La_law_401 rfl d_La_law_404 rfl ?_
    refine zl_callI (cl_La_55 (rest := [.int (nI (decide ((tLv (stk B (h - 2))) + (tLv (stk B (h - 1))) ≤ 12)).toNat)]) (As := [.int (nI (decide ((xs (i + 1)) ≠ 0)).toNat)]) hE (k_Mo_join l D ca (o + 73) n h rs w B (decide ((xs (i + 1)) ≠ 0)) hSk) ⟨rfl, rfl, by decide, by decide⟩ hM1 hM1.1 rfl hl.1 rfl (Nat.le_of_ble_eq_true rfl) d_La_law_405 ⟨show cells + 1 + 0 ≤ 600000 by omega, show slots + 5 + 0 ≤ 7302250 by omega⟩) (fun q hq => by have := hq.1; omega) (fun H2 hpH2 => ?_)
    obtain ⟨f2, r4⟩ := hpH2
    have hz := jn_join J hq (decide ((xs (i + 1)) ≠ 0)) rfl x1 x2 g0 g1 f2 r4
    have hans : ((nI (decide ((tLv (stk B (h - 2))) + (tLv (stk B (h - 1))) ≤ 12)).toNat) : Int32) = (nI (aJoin B h).toNat) := by rw [hz.1]
    refine lv_icmp_eq hx hb d_La_law_408 (tgt := 676) rfl (fun _ => ?_) (fun h9 => absurd hans h9)
    exact W.widen (k := cells + 2) (n := slots + 18) (by omega) (by omega) (kk H2 hz.2.1 (hX.kept (hz.2.2 b hbo)))

set_option maxHeartbeats 4000000 in
set_option maxRecDepth 100000 in
theorem lc_accept {p : Program} {e : Env} {s : State} {m : MethodId} {below : List Frame} {meth : Method} {c : Code} (l : Launch) {b L : Nat} {xs : Nat → Int32} {Q : State → Prop} {D : va_G} {ca : Nat → ClassId} {o i : Nat} {H : Heap} {ls : Array Slot} {cells slots : Nat} (hE : zz_E p m c c_La_law 4 s #[Value.ref b] R_La D ca) (ho : s.heap.size = o) (hbo : b < o) (hi : i + 4 ≤ L) (hL : L ≤ 2048) (hl : lv_has ls 4 [(0, .ref b), (1, .ref o), (2, .ref (o + 73)), (3, .int (nI i))]) (hJ : Jn D ca o H) (hX : va_X b L xs s H) (hcs : cells + 2 ≤ 600000 ∧ slots + 18 ≤ 7302250) (kk : ∀ H2 : Heap, Jn D ca o H2 → va_X b L xs s H2 → W p l e room_1 s m #[Value.ref b] below meth c H2 [] (cells + 2) (slots + 18) Q (F0 m 676 ls [])) : W p l e room_1 s m #[Value.ref b] below meth c H [] cells slots Q (F0 m 413 ls []) := by
  obtain ⟨n, h, rl, S, K, tk, w, A, F, N, Y, W0, E, rs, B, J⟩ := hJ
  have hx := hE.1.1
  have hb := hE.1.2.1
  have hP := J.2.2.2
  have hn := hP.1.1.2.1
  have hw4 := hP.1.1.2.2.1
  have hh := hP.1.2.1
  have hN := hP.2.2.1.1
  have hF := hP.2.2.1.2.1
  have htk := hP.2.2.2.1
  have hnb := hP.2.2.2.2.1
  have hdd := hP.2.2.2.2.2.1
  have hA := hP.1.1
  have hSk := hP.1.2
  rcases (show h = 0 ∨ 1 ≤ h by omega) with hq | hq
  · skip
    refine lv_aload_n hx hb d_La_law_413 rfl (lv_at hl 1 rfl) ?_
    refine zz_callP (cl_La_56 (rest := []) (As := []) hE (k_RM_accept_0 l D ca o n h rl S K hq) ⟨rfl, rfl, by decide, by decide⟩ J.1.1 J.1.1.1 rfl hl.1 rfl (Nat.le_of_ble_eq_true rfl) d_La_law_414 ⟨show cells + 0 ≤ 600000 by omega, show slots + 0 ≤ 7302250 by omega⟩) ?_
    have hM1 := J.2.2.1
    refine lv_aload_n hx hb d_La_law_417 rfl (lv_at hl 2 rfl) ?_
    refine zl_callI (cl_La_59 (rest := [.int ((-1 : Int32))]) (As := []) hE (k_Mo_accept l D ca (o + 73) n h rs w B hA.1 hSk (jp_acceptW J).1 (jp_acceptW J).2) ⟨rfl, rfl, by decide, by decide⟩ hM1 hM1.1 rfl hl.1 rfl (Nat.le_of_ble_eq_true rfl) d_La_law_418 ⟨show cells + 0 ≤ 600000 by omega, show slots + 0 ≤ 7302250 by omega⟩) (fun q hq => by have := hq.1; omega) (fun H2 hpH2 => ?_)
    obtain ⟨f2, r4⟩ := hpH2
    have hz := jn_accept0 J hq f2 r4
    have hans : (((-1 : Int32)) : Int32) = (aAcc B h) := hz.1
    refine lv_icmp_eq hx hb d_La_law_421 (tgt := 676) rfl (fun _ => ?_) (fun h9 => absurd hans h9)
    exact W.widen (k := cells + 2) (n := slots + 18) (by omega) (by omega) (kk H2 hz.2.1 (hX.kept (hz.2.2 b hbo)))
  · skip
    obtain ⟨y, e0, x1, y1, u3⟩ := jp_accept J hq
    refine lv_aload_n hx hb d_La_law_413 rfl (lv_at hl 1 rfl) ?_
    refine zl_callI (cl_La_56 (rest := []) (As := []) hE (k_RM_accept l D ca o n h rl S K tk w A F N Y W0 y (tLv (stk B (h - 1))) (tDr (stk B (h - 1))) hh hq e0 y1) ⟨rfl, rfl, by decide, by decide⟩ ⟨J.1.1, J.1.2.1, J.1.2.2, u3⟩ J.1.1.1 rfl hl.1 rfl (Nat.le_of_ble_eq_true rfl) d_La_law_414 ⟨show cells + 0 ≤ 600000 by omega, show slots + 0 ≤ 7302250 by omega⟩) (fun q hq => by have := hq.1; omega) (fun H1 hpH1 => ?_)
    obtain ⟨f1, r1, r2, r3⟩ := hpH1
    have k1 : Kp o H H1 := Kp.sy f1
    have hX1 := hX.kept (k1 b hbo)
    have hM1 := J.2.2.1.sy f1
    refine lv_aload_n hx hb d_La_law_417 rfl (lv_at hl 2 rfl) ?_
    refine zl_callI (cl_La_59 (rest := [.int (cAcc h (tLv (stk B (h - 1))) (tDr (stk B (h - 1))))]) (As := []) hE (k_Mo_accept l D ca (o + 73) n h rs w B hA.1 hSk (jp_acceptW J).1 (jp_acceptW J).2) ⟨rfl, rfl, by decide, by decide⟩ hM1 hM1.1 rfl hl.1 rfl (Nat.le_of_ble_eq_true rfl) d_La_law_418 ⟨show cells + 0 ≤ 600000 by omega, show slots + 0 ≤ 7302250 by omega⟩) (fun q hq => by have := hq.1; omega) (fun H2 hpH2 => ?_)
    obtain ⟨f2, r4⟩ := hpH2
    have hz := jn_accept J hq x1 f1 r1 r2 r3 f2 r4
    have hans : ((cAcc h (tLv (stk B (h - 1))) (tDr (stk B (h - 1)))) : Int32) = (aAcc B h) := hz.1
    refine lv_icmp_eq hx hb d_La_law_421 (tgt := 676) rfl (fun _ => ?_) (fun h9 => absurd hans h9)
    exact W.widen (k := cells + 2) (n := slots + 18) (by omega) (by omega) (kk H2 hz.2.1 (hX.kept (hz.2.2 b hbo)))
