/-! Expressions: trees in the heap, their marks in the order in which the reference keeps them. -/
abbrev Tok := Nat × Nat × Nat × Nat
/-- the machine of marks over a list -/
def tS (lf : Tok → Bool) (op : Nat → Bool → Bool → Bool) : List Tok → List Bool → List Bool
  | [], S => S
  | t :: ts, S => tS lf op ts (if t.1 < 2 then lf t :: S else match S with
    | b :: a :: T => op t.1 a b :: T
    | T => T)
def tV (lf : Tok → Bool) (op : Nat → Bool → Bool → Bool) (ts : List Tok) : Bool := (tS lf op ts []).headD false
def tLv (ts : List Tok) : Nat := (ts.filter (fun t => decide (t.1 < 2))).length
def tDr (ts : List Tok) : Bool := tV (fun t => decide (t.1 = 0)) opD ts
theorem tS_app (lf : Tok → Bool) (op : Nat → Bool → Bool → Bool) : ∀ (a b : List Tok) (S : List Bool), tS lf op (a ++ b) S = tS lf op b (tS lf op a S)
  | [], _, _ => rfl
  | t :: a, b, S => by
    show tS lf op (a ++ b) _ = _
    rw [tS_app lf op a b]
    rfl
theorem tLv_app (a b : List Tok) : tLv (a ++ b) = tLv a + tLv b := by unfold tLv; rw [List.filter_append, List.length_append]
/-- a list of marks that leaves one value -/
def tOk (ts : List Tok) : Prop := ∀ lf op S, tS lf op ts S = tV lf op ts :: S
theorem tOk_leaf {t : Tok} (h : t.1 < 2) : tOk [t] := fun lf op S => by simp [tV, tS, h]
theorem tOk_join {a b : List Tok} {t : Tok} (ha : tOk a) (hb : tOk b) (h : ¬ t.1 < 2) : tOk (a ++ b ++ [t]) ∧ ∀ lf op, tV lf op (a ++ b ++ [t]) = op t.1 (tV lf op a) (tV lf op b) := by
  have h1 : ∀ lf op S, tS lf op (a ++ b ++ [t]) S = op t.1 (tV lf op a) (tV lf op b) :: S := fun lf op S => by
    rw [tS_app, tS_app, ha, hb]
    simp [tS, h]
  have h2 : ∀ lf op, tV lf op (a ++ b ++ [t]) = op t.1 (tV lf op a) (tV lf op b) := fun lf op => by
    show (tS lf op (a ++ b ++ [t]) []).headD false = _
    rw [h1]
    rfl
  exact ⟨fun lf op S => by rw [h1, h2], h2⟩
def xJa (D : va_G) (H : Heap) (x fl nu de : Nat) : Prop := va_at D zC (x, .inr (2, [.int (nI 1), .int (nI 1), .int (nI fl), .int (nI nu), .int (nI de)])) H
def xJo (D : va_G) (H : Heap) (x c0 : Nat) (d0 all : Bool) (lo up : Nat) : Prop := va_at D zC (x, .inr (4, [.int (nI c0), .int (nI d0.toNat), .int (nI all.toNat), .ref lo, .ref up])) H
/-- the tree at x, at most d deep, of the marks ts; the rows of its step counts lie in E -/
def XAt (D : va_G) (ca : Nat → ClassId) (E : Nat → Prop) (z : Nat) (H : Heap) : Nat → Nat → List Tok → Prop
  | 0, _, _ => False
  | d + 1, x, ts => (z ≤ x ∧ ¬ E x) ∧ ((∃ fl nu de, ts = [(0, fl, nu, de)] ∧ (fl ≤ 1 ∧ nu ≤ 100 ∧ de ≤ 100) ∧ xJa D H x fl nu de) ∨
    (∃ fl mo, ts = [(1, fl, 0, mo)] ∧ (fl ≤ 1 ∧ mo ≤ 8) ∧ E (x + 1) ∧ ∃ R, EdAt D ca H x fl mo R) ∨
    (∃ (all : Bool) (lo up : Nat) (t1 t2 : List Tok), ts = t1 ++ t2 ++ [(if all = true then 2 else 3, 0, 0, 0)] ∧ xJo D H x (tLv ts) (tDr ts) all lo up ∧ XAt D ca E z H d lo t1 ∧ XAt D ca E z H d up t2))
def XJ (D : va_G) (ca : Nat → ClassId) (E : Nat → Prop) (z : Nat) (H : Heap) (d x : Nat) (ts : List Tok) : Prop := (z ≤ x ∧ ¬ E x) ∧ ∃ (all : Bool) (lo up : Nat) (t1 t2 : List Tok), ts = t1 ++ t2 ++ [(if all = true then 2 else 3, 0, 0, 0)] ∧ xJo D H x (tLv ts) (tDr ts) all lo up ∧ XAt D ca E z H d lo t1 ∧ XAt D ca E z H d up t2
theorem xk_ge (all : Bool) : ¬ (if all = true then 2 else 3) < 2 := by cases all <;> decide
theorem XAt.ok {D : va_G} {ca : Nat → ClassId} {E : Nat → Prop} {z : Nat} {H : Heap} : ∀ {d x : Nat} {ts : List Tok}, XAt D ca E z H d x ts → tOk ts ∧ 1 ≤ tLv ts
  | 0, _, _, h => h.elim
  | d + 1, x, ts, h => by
    obtain ⟨-, ⟨fl, nu, de, rfl, -, -⟩ | ⟨fl, mo, rfl, -, -, -⟩ | ⟨all, lo, up, t1, t2, rfl, -, h1, h2⟩⟩ := h
    · exact ⟨tOk_leaf (show (0 : Nat) < 2 by decide), by simp [tLv]⟩
    · exact ⟨tOk_leaf (show (1 : Nat) < 2 by decide), by simp [tLv]⟩
    · have a1 := XAt.ok h1
      have a2 := XAt.ok h2
      exact ⟨(tOk_join a1.1 a2.1 (xk_ge all)).1, by rw [tLv_app, tLv_app]; omega⟩
theorem XAt.mono {D : va_G} {ca : Nat → ClassId} {E : Nat → Prop} {z : Nat} {H : Heap} : ∀ {d d2 x : Nat} {ts : List Tok}, XAt D ca E z H d x ts → d ≤ d2 → XAt D ca E z H d2 x ts
  | 0, _, _, _, h, _ => h.elim
  | d + 1, d2, x, ts, h, hd => by
    obtain ⟨d3, rfl⟩ : ∃ z, d2 = z + 1 := ⟨d2 - 1, by omega⟩
    obtain ⟨hx, h | h | ⟨all, lo, up, t1, t2, e, h0, h1, h2⟩⟩ := h
    · exact ⟨hx, Or.inl h⟩
    · exact ⟨hx, Or.inr (Or.inl h)⟩
    · exact ⟨hx, Or.inr (Or.inr ⟨all, lo, up, t1, t2, e, h0, h1.mono (by omega), h2.mono (by omega)⟩)⟩
/-- every address of E holds a row of thirteen -/
def Rows (D : va_G) (ca : Nat → ClassId) (E : Nat → Prop) (H : Heap) : Prop := ∀ q, E q → ∃ R : Nat → Nat, va_at D zC (q, .inl (ca 0, 13, .inl (fun j => nI (R j)))) H
theorem XAt.kp {D : va_G} {ca : Nat → ClassId} {E : Nat → Prop} {z : Nat} {H H1 : Heap} (hf : ∀ q, z ≤ q → q < H.size → ¬ E q → H1[q]? = H[q]?) (hR : Rows D ca E H1) : ∀ {d x : Nat} {ts : List Tok}, XAt D ca E z H d x ts → XAt D ca E z H1 d x ts
  | 0, _, _, h => h.elim
  | d + 1, x, ts, h => by
    obtain ⟨hx, ⟨fl, nu, de, e, hb, h⟩ | ⟨fl, mo, e, hb, he, R, h⟩ | ⟨all, lo, up, t1, t2, e, h0, h1, h2⟩⟩ := h
    · exact ⟨hx, Or.inl ⟨fl, nu, de, e, hb, h.kept (hf x hx.1 h.lt hx.2)⟩⟩
    · obtain ⟨R1, hR1⟩ := hR _ he
      exact ⟨hx, Or.inr (Or.inl ⟨fl, mo, e, hb, he, R1, h.1.kept (hf x hx.1 h.1.lt hx.2), hR1⟩)⟩
    · exact ⟨hx, Or.inr (Or.inr ⟨all, lo, up, t1, t2, e, h0.kept (hf x hx.1 h0.lt hx.2), XAt.kp hf hR h1, XAt.kp hf hR h2⟩)⟩
/-- more rows, behind what there was -/
theorem XAt.more {D : va_G} {ca : Nat → ClassId} {E E2 : Nat → Prop} {z : Nat} {H : Heap} (he : ∀ q, E q → E2 q) (hn : ∀ q, E2 q → q < H.size → E q) : ∀ {d x : Nat} {ts : List Tok}, XAt D ca E z H d x ts → XAt D ca E2 z H d x ts
  | 0, _, _, h => h.elim
  | d + 1, x, ts, h => by
    obtain ⟨hx, ⟨fl, nu, de, e, hb, h⟩ | ⟨fl, mo, e, hb, hx1, R, h⟩ | ⟨all, lo, up, t1, t2, e, h0, h1, h2⟩⟩ := h
    · exact ⟨⟨hx.1, fun q => hx.2 (hn x q h.lt)⟩, Or.inl ⟨fl, nu, de, e, hb, h⟩⟩
    · exact ⟨⟨hx.1, fun q => hx.2 (hn x q h.1.lt)⟩, Or.inr (Or.inl ⟨fl, mo, e, hb, he _ hx1, R, h⟩)⟩
    · exact ⟨⟨hx.1, fun q => hx.2 (hn x q h0.lt)⟩, Or.inr (Or.inr ⟨all, lo, up, t1, t2, e, h0, XAt.more he hn h1, XAt.more he hn h2⟩)⟩
theorem XAt.head {D : va_G} {ca : Nat → ClassId} {E : Nat → Prop} {z : Nat} {H : Heap} {d x : Nat} {ts : List Tok} (h : XAt D ca E z H d x ts) : XH D H x (tLv ts) (tDr ts) := by
  cases d with
  | zero => exact h.elim
  | succ d =>
    obtain ⟨hx, ⟨fl, nu, de, rfl, hb, h⟩ | ⟨fl, mo, rfl, hb, hx1, R, h⟩ | ⟨all, lo, up, t1, t2, e, h0, h1, h2⟩⟩ := h
    · exact ⟨_, _, _, Or.inl h⟩
    · exact ⟨_, _, _, Or.inr (Or.inl h.1)⟩
    · exact ⟨_, _, _, Or.inr (Or.inr h0)⟩
theorem EnAt.kp {D : va_G} {ca : Nat → ClassId} {H H1 : Heap} {a : Nat} {F : Nat → Nat → Nat} {N Y : Nat → Nat} {W : Nat → Bool} (h : EnAt D ca H a F N Y W) (hf : ∀ q, a ≤ q → q ≤ a + 4 → H1[q]? = H[q]?) : EnAt D ca H1 a F N Y W :=
  ⟨h.1.kept (hf _ (by omega) (by omega)), h.2.1.kp (hf _ (by omega) (by omega)) (hf _ (by omega) (by omega)), h.2.2.kp (hf _ (by omega) (by omega)) (hf _ (by omega) (by omega))⟩
theorem XAt.ge {D : va_G} {ca : Nat → ClassId} {E : Nat → Prop} {z : Nat} {H : Heap} {d x : Nat} {ts : List Tok} (h : XAt D ca E z H d x ts) : z ≤ x ∧ ¬ E x := by
  cases d with
  | zero => exact h.elim
  | succ d => exact h.1
/-- what a comparison says of two entries -/
def xLf (F : Nat → Nat → Nat) (N : Nat → Nat) (F2 : Nat → Nat → Nat) (N2 : Nat → Nat) (t : Tok) : Bool := if t.1 = 1 then decide (dst (F t.2.1) (F2 t.2.1) (N t.2.1) (N2 t.2.1) ≤ t.2.2.2) else cJa t.2.2.1 t.2.2.2 (F t.2.1) (N t.2.1) (F2 t.2.1) (N2 t.2.1)
def xV (F : Nat → Nat → Nat) (N : Nat → Nat) (F2 : Nat → Nat → Nat) (N2 : Nat → Nat) (ts : List Tok) : Bool := tV (xLf F N F2 N2) opH ts
theorem xV_join {D : va_G} {ca : Nat → ClassId} {E : Nat → Prop} {z : Nat} {H : Heap} {d lo up : Nat} {all : Bool} {t1 t2 : List Tok} {F : Nat → Nat → Nat} {N : Nat → Nat} {F2 : Nat → Nat → Nat} {N2 : Nat → Nat} (h1 : XAt D ca E z H d lo t1) (h2 : XAt D ca E z H d up t2) : xV F N F2 N2 (t1 ++ t2 ++ [(if all = true then 2 else 3, 0, 0, 0)]) = if all = true then xV F N F2 N2 t1 && xV F N F2 N2 t2 else xV F N F2 N2 t1 || xV F N F2 N2 t2 := by
  unfold xV
  rw [(tOk_join h1.ok.1 h2.ok.1 (xk_ge all)).2]
  cases all <;> rfl
section ZXA
variable {p : Program} {l : Launch} {e : Env} {R : Room} {s : State} {m : MethodId} {args : Array Value} {below : List Frame} {meth : Method} {c : Code} {H : Heap} {locs : List Loc} {cells slots : Nat} {Q : State → Prop}
variable {cc bytes : ByteArray} {nL pc : Nat} {ls : Array Slot} {rest st0 As : List Value} {D : va_G} {ca : Nat → ClassId} {b : Nat} {rm : Room} {Pre : Heap → Prop} {P : Heap → Heap → Option Value → Prop} {mc ms n maxL index ci : Nat} {free : Addr → Prop} {fs : List Value} {x y : MethodName} {ret : Option FieldType} {own C owner : String} {r : vw_C}
theorem zz_rA (hE : zz_E p m c cc nL s args own D ca) (hM : Met l y (Cond.code y bytes maxL ret :: zW) rm (zz_P D ca (.ref b :: As) Pre) (zz_Q P) mc ms free) (hlink : Cond.methodLink own index x ∈ zW) (hsame : Cond.sameMethod x.cls owner x.name x.desc ∈ zW) (hsel : Cond.selects C x y ∈ zW) (hinst : Cond.instanceMethod y ∈ zW) (hini : Cond.initialized y.cls ∈ zW) (hcode : Cond.code y bytes maxL ret ∈ zW) (hdecl : Cond.declares ⟨owner, x.name, x.desc⟩ ∈ zN)
    (hd : owner ≠ "java/lang/invoke/MethodHandle" ∧ owner ≠ "java/lang/invoke/VarHandle" ∧ (parseMethodDescriptor x.desc).map (fun d => d.parameters.length) = some n) (hc : zC[ci]? = some r) (hrC : r.1 = C) (hrm : rm.cells = mc ∧ rm.slots = ms ∧ rm.frames + 1 ≤ R.frames ∧ 8 + (maxL + 11) + rm.locals ≤ R.locals) (hpre : Pre H) (hat : va_at D zC (b, .inr (ci, fs)) H) (hn : As.length = n) (hls : ls.size = nL) (hst : st0 = As.reverse ++ .ref b :: rest) (hro : (rest.map fun v => v.category).sum ≤ 8) (hdg : decode cc pc = .ok (.invokevirtual index, 3)) (hcs : cells + mc ≤ R.cells ∧ slots + ms ≤ R.slots) : va_Run p l e R s m args below meth c H locs cells slots mc ms (F0 m pc ls st0) rest (zz_Q P (.ref b :: As).toArray) free := by
  subst hst
  subst hrC
  have hG : GoodIn zW (va_wsU own index r.1 owner x y (Cond.code y bytes maxL ret :: zW)) := fun w hw => by
    unfold va_wsU at hw
    rcases List.mem_append.mp hw with h | h
    · rcases List.mem_cons.mp h with rfl | h
      · exact zw_good hlink
      rcases List.mem_cons.mp h with rfl | h
      · exact zw_good hsame
      rcases List.mem_cons.mp h with rfl | h
      · exact zw_good hsel
      rcases List.mem_cons.mp h with rfl | h
      · exact zw_good hinst
      rcases List.mem_cons.mp h with rfl | h
      · exact zw_good hini
      cases h
    · exact zw_all hcode w h
  exact va_runU hE.1 hM (va_cwA n hE.1.2.2.2.2 hG rfl hrm.1 hrm.2.1 (hE.2.2.1 _ hdecl) hd hrm.2.2) ⟨zz_blind, va_recv (q0 := 0) hE.2.1 (zz_one hat) hc rfl, fun U hU hW => ⟨rfl, hE.2.moved hW, by rw [hU]; exact hpre⟩⟩ rfl hn hls rfl (lv_room hro) hdg hcs
theorem cl_Jo_27_Ja (hE : zz_E p m c cc nL s args R_Jo D ca) (hM : Met l y_Ja_holdsOf w_Ja_holdsOf rm (zz_P D ca (.ref b :: As) Pre) (zz_Q P) mc ms free) (hrm : rm.cells = mc ∧ rm.slots = ms ∧ rm.frames + 1 ≤ R.frames ∧ 8 + (7 + 11) + rm.locals ≤ R.locals) (hpre : Pre H) (hat : va_at D zC (b, .inr (2, fs)) H) (hn : As.length = 2) (hls : ls.size = nL) (hst : st0 = As.reverse ++ .ref b :: rest) (hro : (rest.map fun v => v.category).sum ≤ 8) (hdg : decode cc pc = .ok (.invokevirtual 27, 3)) (hcs : cells + mc ≤ R.cells ∧ slots + ms ≤ R.slots) : va_Run p l e R s m args below meth c H locs cells slots mc ms (F0 m pc ls st0) rest (zz_Q P (.ref b :: As).toArray) free :=
  zz_rA (n := 2) (x := ({ cls := "RecordMatcher$Expression", name := "holdsOf", desc := "(LRecordMatcher$Entry;LRecordMatcher$Entry;)Z" } : MethodName)) (owner := "RecordMatcher$Expression") hE hM zm_315 zm_287 zm_303 zm_304 zm_7 zm_305 zn_286 (by decide +kernel) rfl rfl hrm hpre hat hn hls hst hro hdg hcs
theorem cl_Jo_27_Ed (hE : zz_E p m c cc nL s args R_Jo D ca) (hM : Met l y_Ed_holdsOf w_Ed_holdsOf rm (zz_P D ca (.ref b :: As) Pre) (zz_Q P) mc ms free) (hrm : rm.cells = mc ∧ rm.slots = ms ∧ rm.frames + 1 ≤ R.frames ∧ 8 + (3 + 11) + rm.locals ≤ R.locals) (hpre : Pre H) (hat : va_at D zC (b, .inr (3, fs)) H) (hn : As.length = 2) (hls : ls.size = nL) (hst : st0 = As.reverse ++ .ref b :: rest) (hro : (rest.map fun v => v.category).sum ≤ 8) (hdg : decode cc pc = .ok (.invokevirtual 27, 3)) (hcs : cells + mc ≤ R.cells ∧ slots + ms ≤ R.slots) : va_Run p l e R s m args below meth c H locs cells slots mc ms (F0 m pc ls st0) rest (zz_Q P (.ref b :: As).toArray) free :=
  zz_rA (n := 2) (x := ({ cls := "RecordMatcher$Expression", name := "holdsOf", desc := "(LRecordMatcher$Entry;LRecordMatcher$Entry;)Z" } : MethodName)) (owner := "RecordMatcher$Expression") hE hM zm_315 zm_287 zm_288 zm_289 zm_8 zm_290 zn_286 (by decide +kernel) rfl rfl hrm hpre hat hn hls hst hro hdg hcs
theorem cl_Jo_27_Jo (hE : zz_E p m c cc nL s args R_Jo D ca) (hM : Met l y_Jo_holdsOf w_Jo_holdsOf rm (zz_P D ca (.ref b :: As) Pre) (zz_Q P) mc ms free) (hrm : rm.cells = mc ∧ rm.slots = ms ∧ rm.frames + 1 ≤ R.frames ∧ 8 + (3 + 11) + rm.locals ≤ R.locals) (hpre : Pre H) (hat : va_at D zC (b, .inr (4, fs)) H) (hn : As.length = 2) (hls : ls.size = nL) (hst : st0 = As.reverse ++ .ref b :: rest) (hro : (rest.map fun v => v.category).sum ≤ 8) (hdg : decode cc pc = .ok (.invokevirtual 27, 3)) (hcs : cells + mc ≤ R.cells ∧ slots + ms ≤ R.slots) : va_Run p l e R s m args below meth c H locs cells slots mc ms (F0 m pc ls st0) rest (zz_Q P (.ref b :: As).toArray) free :=
  zz_rA (n := 2) (x := ({ cls := "RecordMatcher$Expression", name := "holdsOf", desc := "(LRecordMatcher$Entry;LRecordMatcher$Entry;)Z" } : MethodName)) (owner := "RecordMatcher$Expression") hE hM zm_315 zm_287 zm_312 zm_313 zm_9 zm_314 zn_286 (by decide +kernel) rfl rfl hrm hpre hat hn hls hst hro hdg hcs
theorem cl_RM_109_Ja (hE : zz_E p m c cc nL s args R_RM D ca) (hM : Met l y_Ja_holdsOf w_Ja_holdsOf rm (zz_P D ca (.ref b :: As) Pre) (zz_Q P) mc ms free) (hrm : rm.cells = mc ∧ rm.slots = ms ∧ rm.frames + 1 ≤ R.frames ∧ 8 + (7 + 11) + rm.locals ≤ R.locals) (hpre : Pre H) (hat : va_at D zC (b, .inr (2, fs)) H) (hn : As.length = 2) (hls : ls.size = nL) (hst : st0 = As.reverse ++ .ref b :: rest) (hro : (rest.map fun v => v.category).sum ≤ 8) (hdg : decode cc pc = .ok (.invokevirtual 109, 3)) (hcs : cells + mc ≤ R.cells ∧ slots + ms ≤ R.slots) : va_Run p l e R s m args below meth c H locs cells slots mc ms (F0 m pc ls st0) rest (zz_Q P (.ref b :: As).toArray) free :=
  zz_rA (n := 2) (x := ({ cls := "RecordMatcher$Expression", name := "holdsOf", desc := "(LRecordMatcher$Entry;LRecordMatcher$Entry;)Z" } : MethodName)) (owner := "RecordMatcher$Expression") hE hM zm_285 zm_287 zm_303 zm_304 zm_7 zm_305 zn_286 (by decide +kernel) rfl rfl hrm hpre hat hn hls hst hro hdg hcs
theorem cl_RM_109_Ed (hE : zz_E p m c cc nL s args R_RM D ca) (hM : Met l y_Ed_holdsOf w_Ed_holdsOf rm (zz_P D ca (.ref b :: As) Pre) (zz_Q P) mc ms free) (hrm : rm.cells = mc ∧ rm.slots = ms ∧ rm.frames + 1 ≤ R.frames ∧ 8 + (3 + 11) + rm.locals ≤ R.locals) (hpre : Pre H) (hat : va_at D zC (b, .inr (3, fs)) H) (hn : As.length = 2) (hls : ls.size = nL) (hst : st0 = As.reverse ++ .ref b :: rest) (hro : (rest.map fun v => v.category).sum ≤ 8) (hdg : decode cc pc = .ok (.invokevirtual 109, 3)) (hcs : cells + mc ≤ R.cells ∧ slots + ms ≤ R.slots) : va_Run p l e R s m args below meth c H locs cells slots mc ms (F0 m pc ls st0) rest (zz_Q P (.ref b :: As).toArray) free :=
  zz_rA (n := 2) (x := ({ cls := "RecordMatcher$Expression", name := "holdsOf", desc := "(LRecordMatcher$Entry;LRecordMatcher$Entry;)Z" } : MethodName)) (owner := "RecordMatcher$Expression") hE hM zm_285 zm_287 zm_288 zm_289 zm_8 zm_290 zn_286 (by decide +kernel) rfl rfl hrm hpre hat hn hls hst hro hdg hcs
theorem cl_RM_109_Jo (hE : zz_E p m c cc nL s args R_RM D ca) (hM : Met l y_Jo_holdsOf w_Jo_holdsOf rm (zz_P D ca (.ref b :: As) Pre) (zz_Q P) mc ms free) (hrm : rm.cells = mc ∧ rm.slots = ms ∧ rm.frames + 1 ≤ R.frames ∧ 8 + (3 + 11) + rm.locals ≤ R.locals) (hpre : Pre H) (hat : va_at D zC (b, .inr (4, fs)) H) (hn : As.length = 2) (hls : ls.size = nL) (hst : st0 = As.reverse ++ .ref b :: rest) (hro : (rest.map fun v => v.category).sum ≤ 8) (hdg : decode cc pc = .ok (.invokevirtual 109, 3)) (hcs : cells + mc ≤ R.cells ∧ slots + ms ≤ R.slots) : va_Run p l e R s m args below meth c H locs cells slots mc ms (F0 m pc ls st0) rest (zz_Q P (.ref b :: As).toArray) free :=
  zz_rA (n := 2) (x := ({ cls := "RecordMatcher$Expression", name := "holdsOf", desc := "(LRecordMatcher$Entry;LRecordMatcher$Entry;)Z" } : MethodName)) (owner := "RecordMatcher$Expression") hE hM zm_285 zm_287 zm_312 zm_313 zm_9 zm_314 zn_286 (by decide +kernel) rfl rfl hrm hpre hat hn hls hst hro hdg hcs
end ZXA
