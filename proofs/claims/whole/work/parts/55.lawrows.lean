/-! Rows for the law: its calls leave nothing written that was there before, its script. -/
section ZLw
variable {p : Program} {l : Launch} {e : Env} {R : Room} {s : State} {m : MethodId} {args : Array Value} {below : List Frame} {meth : Method} {c : Code} {H : Heap} {cells slots : Nat} {Q : State → Prop}
variable {cc : ByteArray} {pc : Nat} {ls : Array Slot} {rest st0 : List Value} {mc ms : Nat} {av : Array Value} {free : Addr → Prop} {P : Heap → Heap → Prop}
theorem zl_callI {x : Int32} (hr : va_Run p l e R s m args below meth c H [] cells slots mc ms (F0 m pc ls st0) rest (zz_Q (fun H H1 v => v = some (.int x) ∧ P H H1) av) free) (hF : ∀ q : Nat, free q → s.heap.size ≤ q)
    (kk : ∀ H1 : Heap, P H H1 → W p l e R s m args below meth c H1 [] (cells + mc) (slots + ms) Q (F0 m (pc + 3) ls (.int x :: rest))) : W p l e R s m args below meth c H [] cells slots Q (F0 m pc ls st0) :=
  zz_callI (F := fun q => s.heap.size ≤ q) hr zz_L.nil hF (fun H1 _ h hL => va_forget hL (kk H1 h))
theorem zl_callN (hr : va_Run p l e R s m args below meth c H [] cells slots mc ms (F0 m pc ls st0) rest (zz_Q (fun H H1 v => v = none ∧ P H H1) av) free) (hF : ∀ q : Nat, free q → s.heap.size ≤ q)
    (kk : ∀ H1 : Heap, P H H1 → W p l e R s m args below meth c H1 [] (cells + mc) (slots + ms) Q (F0 m (pc + 3) ls rest)) : W p l e R s m args below meth c H [] cells slots Q (F0 m pc ls st0) :=
  zz_callN (F := fun q => s.heap.size ≤ q) hr zz_L.nil hF (fun H1 _ h hL => va_forget hL (kk H1 h))
theorem zl_lt {b L : Nat} {xs : Nat → Int32} (hX : va_X b L xs s H) : b < H.size := by
  obtain ⟨scr, h1, -⟩ := hX
  exact (Array.getElem?_eq_some_iff.mp h1).1
theorem zl_sld (hexec : p.tables.exec = Jvm.exec) (hb : c.code = cc) {b L : Nat} {xs : Nat → Int32} (hX : va_X b L xs s H) {j : Nat} (hj : j < L) (hL : L ≤ 2048) (hdg : decode cc pc = .ok (.iaload, 1)) (kk : W p l e R s m args below meth c H [] cells slots Q (F0 m (pc + 1) ls (.int (xs j) :: rest))) : W p l e R s m args below meth c H [] cells slots Q (F0 m pc ls (.int (nI j) :: .ref b :: rest)) :=
  va_sld (A := fun _ => False) hexec hb hX (zl_lt hX) (fun h => h) va_S.rf (vp_in_nI hj (by omega)) hdg (by rw [nI_clamp (by omega)]; exact kk)
theorem zl_slen (hexec : p.tables.exec = Jvm.exec) (hb : c.code = cc) {b L : Nat} {xs : Nat → Int32} (hX : va_X b L xs s H) (hdg : decode cc pc = .ok (.arraylength, 1)) (kk : W p l e R s m args below meth c H [] cells slots Q (F0 m (pc + 1) ls (.int (nI L) :: rest))) : W p l e R s m args below meth c H [] cells slots Q (F0 m pc ls (.ref b :: rest)) :=
  va_slen (A := fun _ => False) hexec hb hX (zl_lt hX) (fun h => h) va_S.rf hdg kk
/-- an int of the script -/
theorem zl_arg (hexec : p.tables.exec = Jvm.exec) (hb : c.code = cc) {b o r L i k : Nat} {n : Int} {xs : Nat → Int32} (hl : lv_has ls 4 [(0, .ref b), (1, .ref o), (2, .ref r), (3, .int (nI i))]) (hX : va_X b L xs s H) (hj : i + k < L) (hL : L ≤ 2048) (d0 : decode cc pc = .ok (.aload_n 0, 1)) (d1 : decode cc (pc + 1) = .ok (.iload_n 3, 1)) (d2 : decode cc (pc + 2) = .ok (.iconst n, 1)) (hn : Int32.ofInt n = nI k) (d3 : decode cc (pc + 3) = .ok (.iadd, 1)) (d4 : decode cc (pc + 4) = .ok (.iaload, 1)) (kk : W p l e R s m args below meth c H [] cells slots Q (F0 m (pc + 5) ls (.int (xs (i + k)) :: rest))) : W p l e R s m args below meth c H [] cells slots Q (F0 m pc ls rest) := by
  refine lv_aload_n hexec hb d0 rfl (lv_at hl 0 rfl) ?_
  refine lv_iload_n hexec hb d1 rfl (lv_at hl 3 rfl) ?_
  refine lv_iconst (v := nI k) hexec hb d2 hn ?_
  refine zz_iadd hexec hb d3 ?_
  exact zl_sld hexec hb hX hj hL d4 kk
/-- whether it is not 0 -/
theorem zl_nz (hexec : p.tables.exec = Jvm.exec) (hb : c.code = cc) {x : Int32} {t1 t2 : Nat} (d0 : decode cc pc = .ok (.ifCond .eq 7, 3)) (h1 : (pc : Int) + 7 = (t1 : Int)) (d1 : decode cc (pc + 3) = .ok (.iconst 1, 1)) (d2 : decode cc (pc + 3 + 1) = .ok (.goto 4, 3)) (h2 : ((pc + 3 + 1 : Nat) : Int) + 4 = (t2 : Int)) (d3 : decode cc t1 = .ok (.iconst 0, 1)) (h3 : t1 + 1 = t2) (kk : W p l e R s m args below meth c H [] cells slots Q (F0 m t2 ls (.int (nI (decide (x ≠ 0)).toNat) :: rest))) : W p l e R s m args below meth c H [] cells slots Q (F0 m pc ls (.int x :: rest)) := by
  refine lv_if_eq hexec hb d0 (tgt := t1) h1 (fun h => ?_) (fun h => ?_)
  · refine lv_iconst (v := nI 0) hexec hb d3 (by decide) ?_
    rw [h3]
    rw [decide_eq_false (show ¬ x ≠ 0 from fun q => q h)] at kk
    exact kk
  · refine lv_iconst (v := nI 1) hexec hb d1 (by decide) ?_
    refine lv_goto hexec hb d2 (tgt := t2) h2 ?_
    rw [decide_eq_true (show x ≠ 0 from h)] at kk
    exact kk
end ZLw
theorem zn_on : ∀ w ∈ zN, w.onTables = true := by decide +kernel
/-- the classes' numbers, at the start -/
theorem zk_start {args : Array Value} {s : State} (hts : ∀ w ∈ lw_tbl, w.before args s = true) : ∃ (D : va_G) (ca : Nat → ClassId), zz_K D ca s := by
  have hz : ∀ w ∈ zW, w.before args s = true := fun w hw => hts w (List.mem_filter.mp hw).1
  obtain ⟨a0, f0, h0⟩ := u_known hz in_Te (hz _ zm_55)
  obtain ⟨a1, f1, h1⟩ := u_known hz in_En (hz _ zm_49)
  obtain ⟨a2, f2, h2⟩ := u_known hz in_Ja (hz _ zm_189)
  obtain ⟨a3, f3, h3⟩ := u_known hz in_Ed (hz _ zm_226)
  obtain ⟨a4, f4, h4⟩ := u_known hz in_Jo (hz _ zm_252)
  obtain ⟨a5, f5, h5⟩ := u_known hz in_Ru (hz _ zm_24)
  obtain ⟨a6, f6, h6⟩ := u_known hz in_RM (hz _ zm_12)
  obtain ⟨a7, f7, h7⟩ := u_known hz in_Mo (hz _ zm_432)
  have hex : ∀ c : Nat, ∃ d : ClassId × (Nat → Nat), ∀ q : vw_C, zC[c]? = some q → u_Kn s q.1 q.2.1 q.2.2 d.1 d.2 := by
    intro c
    by_cases hc : c < 8
    · rcases (show c = 0 ∨ c = 1 ∨ c = 2 ∨ c = 3 ∨ c = 4 ∨ c = 5 ∨ c = 6 ∨ c = 7 by omega) with rfl | rfl | rfl | rfl | rfl | rfl | rfl | rfl
      · exact ⟨(a0, f0), fun q hq => by cases hq; exact h0⟩
      · exact ⟨(a1, f1), fun q hq => by cases hq; exact h1⟩
      · exact ⟨(a2, f2), fun q hq => by cases hq; exact h2⟩
      · exact ⟨(a3, f3), fun q hq => by cases hq; exact h3⟩
      · exact ⟨(a4, f4), fun q hq => by cases hq; exact h4⟩
      · exact ⟨(a5, f5), fun q hq => by cases hq; exact h5⟩
      · exact ⟨(a6, f6), fun q hq => by cases hq; exact h6⟩
      · exact ⟨(a7, f7), fun q hq => by cases hq; exact h7⟩
    · refine ⟨(a0, f0), fun q hq => ?_⟩
      have : zC[c]? = none := List.getElem?_eq_none (by show 8 ≤ c; omega)
      rw [this] at hq
      cases hq
  obtain ⟨g, hg⟩ := Classical.axiomOfChoice hex
  obtain ⟨c0, k0, m0, e0, g0, n0⟩ := Cond.arrayClass_spec (hz _ zm_47)
  obtain ⟨c1, k1, m1, e1, g1, n1⟩ := Cond.arrayClass_spec (hz _ zm_77)
  obtain ⟨c2, k2, m2, e2, g2, n2⟩ := Cond.arrayClass_spec (hz _ zm_48)
  have o3 : (Cond.arrayOver (.object "RecordMatcher$Entry")).before args s = true := hts _ (by decide +kernel)
  have o4 : (Cond.arrayOver (.object "RecordMatcher$Expression")).before args s = true := hts _ (by decide +kernel)
  obtain ⟨m3, c3, k3, q3, -, g3, n3, e3⟩ := Cond.arrayOver_spec o3
  obtain ⟨m4, c4, k4, q4, -, g4, n4, e4⟩ := Cond.arrayOver_spec o4
  refine ⟨(fun c => (g c).1, fun c => (g c).2), fun k => match k with | 0 => c0 | 1 => c1 | 2 => c2 | 3 => c3 | _ => c4, ⟨fun c q hq => hg c q hq, fun k q hq => ?_⟩, fun w hw => va_Nw.of (zn_on w hw) (hts w (zn_in w hw)), va_AO.of o3, va_AO.of o4⟩
  have hk : k < 5 := (List.getElem?_eq_some_iff.mp hq).1
  rcases (show k = 0 ∨ k = 1 ∨ k = 2 ∨ k = 3 ∨ k = 4 by omega) with rfl | rfl | rfl | rfl | rfl
  · cases hq; exact ⟨fun n z => ⟨fun k h => (by cases h), k0, g0, m0, n0⟩, e0⟩
  · cases hq; exact ⟨fun n z => ⟨fun k h => (by cases h), k1, g1, m1, n1⟩, e1⟩
  · cases hq; exact ⟨fun n z => ⟨fun k h => (by cases h), k2, g2, m2, n2⟩, e2⟩
  · cases hq; exact ⟨fun n z => ⟨fun k h => (by cases h), k3, g3, m3, n3⟩, ⟨k3, m3, g3, n3, q3, e3⟩⟩
  · cases hq; exact ⟨fun n z => ⟨fun k h => (by cases h), k4, g4, m4, n4⟩, ⟨k4, m4, g4, n4, q4, e4⟩⟩
