/-! The calls that make expressions. -/
section ZJP
variable {D : va_G} {ca : Nat → ClassId} {H H1 H2 : Heap} {o n h : Nat} {rl : Option Nat} {S : Nat → Option Nat} {K : Nat → Nat} {tk w : Nat} {A : Nat → Nat → Nat} {F : Nat → Nat → Nat → Nat} {N Y : Nat → Nat → Nat} {W0 : Nat → Nat → Bool} {E : Nat → Prop} {rs : Nat} {B B2 : Nat → Nat → Nat} {T : Nat → List Tok} {ts : List Tok}
theorem JS.sz (J : JS D ca H o n h rl S K tk w A F N Y W0 E rs B) : o + 92 ≤ H.size := by
  have := (J.2.2.1.2 18 (by decide) (by decide)).lt
  have : o + 73 + 18 < H.size := this
  omega
theorem CX.push (h0 : CX D ca H o h rl S E T ts) {k q : Nat} (hk : k ≤ h) (hq : H.size = q) (hf : ∀ a, a < q → ¬ rmFr o a → H1[a]? = H[a]?) (hs : q < H1.size) {E2 : Nat → Prop} (he : ∀ a, E a → E2 a) (hn : ∀ a, E2 a → E a ∨ (q ≤ a ∧ a < H1.size)) (hoq : o + 92 ≤ q) (hR : Rows D ca E2 H1) {T2 : Nat → List Tok} (hT : ∀ i, i < k → T2 i = T i) (hnew : XR D ca E2 (o + 92) H1 q (T2 k)) : CX D ca H1 o (k + 1) rl (va_up S k (some q)) E2 T2 ts := by
  obtain ⟨h1, h2, h3, h4⟩ := h0
  have hx : ∀ {y : Nat} {u : List Tok}, XR D ca E (o + 92) H y u → XR D ca E2 (o + 92) H1 y u := fun {y u} g =>
    ⟨g.1, XAt.kp (fun a a1 a2 _ => hf a (by omega) (by unfold rmFr; omega)) hR (XAt.more he (fun a a1 a2 => (hn a a1).elim id (fun z => by omega)) g.2)⟩
  refine ⟨hR, fun a ha => ?_, fun i hi => ?_, ?_⟩
  · rcases hn a ha with z | z
    · exact ⟨(h2 a z).1, by have := (h2 a z).2; omega⟩
    · exact ⟨by omega, z.2⟩
  · by_cases e : i = k
    · subst e
      exact ⟨q, va_up_self _ _ _, hnew⟩
    · obtain ⟨y, e1, g⟩ := h3 i (by omega)
      exact ⟨y, by rw [va_up_ne _ _ e]; exact e1, by rw [hT i (by omega)]; exact hx g⟩
  · rcases h4 with h4 | ⟨y, e, g⟩
    · exact Or.inl h4
    · exact Or.inr ⟨y, e, hx g⟩
theorem CK.push (hK : CK D ca H o n h rl S K tk w A F N Y W0) {q h2 : Nat} {S2 : Nat → Option Nat} (hoq : o + 92 ≤ q) (hf : ∀ a, a < q → ¬ rmFr o a → H1[a]? = H[a]?) (h1 : RmAt D ca H1 o n h2 rl S2 K) : CK D ca H1 o n h2 rl S2 K tk w A F N Y W0 :=
  ⟨h1, hK.2.1.kp fun a b d => hf a (by omega) (by unfold rmFr; omega), hK.2.2.kp fun a b d => hf a (by omega) (by unfold rmFr; omega)⟩
theorem MoAt.push {n t rs w q : Nat} (h0 : MoAt D ca H (o + 73) n t rs w B) (hoq : o + 92 ≤ q) (hf : ∀ a, a < q → ¬ rmFr o a → H1[a]? = H[a]?) : MoAt D ca H1 (o + 73) n t rs w B := h0.kp fun a b d => hf a (by omega) (by unfold rmFr; omega)
theorem Kp.push {q : Nat} (hoq : o + 92 ≤ q) (hf : ∀ a, a < q → ¬ rmFr o a → H1[a]? = H[a]?) : Kp o H H1 := fun a b => hf a (by omega) (by unfold rmFr; omega)
theorem jac_b {t : Nat} {x y z : Int32} (h : aJac t x y z = true) : t ≠ 6 ∧ cN x ≤ 1 ∧ cN y ≤ 100 ∧ cN z ≤ 100 := by
  unfold aJac at h
  simp only [Bool.and_eq_true, Bool.not_eq_true', decide_eq_false_iff_not, decide_eq_true_eq] at h
  obtain ⟨⟨⟨⟨h1, h2⟩, h3⟩, h4⟩, h5⟩ := h
  obtain ⟨f, hf, rfl⟩ := zisF_nat h1
  have n0 : ¬ y < 0 := fun q => h2 (Int32.lt_trans q (by rw [← nI_0]; exact (nI_ltI (by decide) (by decide)).mpr (by decide)))
  obtain ⟨a, ha, rfl⟩ := nI_of n0
  have n1 : ¬ z < 0 := fun q => h3 (Int32.lt_of_lt_of_le q (by rw [← nI_0]; exact (nI_leI (by decide) ha).mpr (Nat.zero_le _)))
  obtain ⟨b, hb, rfl⟩ := nI_of n1
  have e1 : ¬ b < a := fun q => h3 ((nI_ltI hb ha).mpr q)
  have e2 : ¬ 100 < b := fun q => h4 ((nI_ltI (by decide) hb).mpr q)
  rw [cN_n (by omega), cN_n ha, cN_n hb]
  exact ⟨h5, hf, by omega, by omega⟩
theorem edt_b {t : Nat} {x y : Int32} (h : aEdt t x y = true) : t ≠ 6 ∧ cN x ≤ 1 ∧ cN y ≤ 8 := by
  unfold aEdt at h
  simp only [Bool.and_eq_true, Bool.not_eq_true', decide_eq_false_iff_not, decide_eq_true_eq] at h
  obtain ⟨⟨⟨h1, h2⟩, h3⟩, h4⟩ := h
  obtain ⟨f, hf, rfl⟩ := zisF_nat h1
  obtain ⟨a, ha, rfl⟩ := nI_of h2
  have e1 : ¬ 8 < a := fun q => h3 ((nI_ltI (by decide) ha).mpr q)
  rw [cN_n (by omega), cN_n ha]
  exact ⟨h4, hf, by omega⟩
theorem tLv_leaf {t : Tok} (h : t.1 < 2) : tLv [t] = 1 := by rw [tLv_one]; simp [h]
theorem mo_jac (J : JS D ca H o n h rl S K tk w A F N Y W0 E rs B) {b : Bool} {q : Nat} (hq : H.size = q) {P : Prop} (g0 : b = false → H1 = H) (g1 : b = true → P ∧ (∀ a, a < q → ¬ rmFr o a → H1[a]? = H[a]?)) : MoAt D ca H1 (o + 73) n h rs w B := by
  have hs := J.sz
  cases b with
  | false => rw [g0 rfl]; exact J.2.2.1
  | true => exact J.2.2.1.push (by omega) (g1 rfl).2
theorem kp_jac (J : JS D ca H o n h rl S K tk w A F N Y W0 E rs B) {b : Bool} {q : Nat} (hq : H.size = q) {P : Prop} (g0 : b = false → H1 = H) (g1 : b = true → P ∧ (∀ a, a < q → ¬ rmFr o a → H1[a]? = H[a]?)) : Kp o H H1 := by
  have hs := J.sz
  cases b with
  | false => rw [g0 rfl]; exact Kp.rf
  | true => exact Kp.push (q := q) (by omega) (g1 rfl).2
theorem Kp.rm (hf : zz_fr (rmFr o) H H1) : Kp o H H1 := fun a ha => hf.2 a (by unfold rmFr; omega)
theorem MoAt.rm {n t rs w : Nat} (h0 : MoAt D ca H (o + 73) n t rs w B) (hf : zz_fr (rmFr o) H H1) : MoAt D ca H1 (o + 73) n t rs w B := h0.kp fun q a _ => hf.2 q (by unfold rmFr; omega)
theorem MoAt.ef {n t rs w : Nat} (h0 : MoAt D ca H (o + 73) n t rs w B) (hX : CX D ca H o h rl S E T ts) (hf : zz_fr E H H1) : MoAt D ca H1 (o + 73) n t rs w B := h0.kp fun q a b => hf.2 q (fun z => by have := (hX.2.1 q z).1; omega)
theorem MoAt.wk {n t rs w : Nat} (h0 : MoAt D ca H (o + 73) n t rs w B) (hX : CX D ca H o h rl S E T ts) (hf : zz_fr (wkFr E o) H H1) : MoAt D ca H1 (o + 73) n t rs w B := h0.kp fun q a b => hf.2 q (fun z => Or.elim z (fun z => by have := (hX.2.1 q z).1; omega) (fun z => by have := z.2; omega))
theorem jn_jaccard (J : JS D ca H o n h rl S K tk w A F N Y W0 E rs B) (x y z : Int32) {q : Nat} (hq : H.size = q) (g0 : aJac h x y z = false → H1 = H) (g1 : aJac h x y z = true → H1.size = q + 1 ∧ (∀ a, a < q → ¬ rmFr o a → H1[a]? = H[a]?) ∧ RmAt D ca H1 o n (h + 1) rl (va_up S h (some q)) K ∧ xJa D H1 q (cN x) (cN y) (cN z)) (hf : zz_fr (moFr (o + 73)) H1 H2) (hM : MoAt D ca H2 (o + 73) n (if aJac h x y z = true then h + 1 else h) rs w (if aJac h x y z = true then (up2 (mMk B h 0 (cN x) (cN y) (cN z)) 10 (h + 1) (B 10 h + 1)) else B)) : Jn D ca o H2 ∧ Kp o H H2 := by
  have hs := J.sz
  obtain ⟨hK, hX, hM0, hP⟩ := J
  by_cases e : aJac h x y z = true
  · rw [if_pos e, if_pos e] at hM
    obtain ⟨s1, s2, s3, s4⟩ := g1 e
    obtain ⟨b1, b2, b3, b4⟩ := jac_b e
    obtain ⟨p1, p2, p3, p4⟩ := hP.push b1 (k := 0) (f := cN x) (nu := cN y) (de := cN z) (by decide)
    have hR : Rows D ca E H1 := hX.1.kp fun a ha => s2 a (by have := (hX.2.1 a ha).2; omega) (by have := (hX.2.1 a ha).1; unfold rmFr; omega)
    have hnE : ¬ E q := fun z => by have := (hX.2.1 q z).2; omega
    have hnew : XR D ca E (o + 92) H1 q [(0, cN x, cN y, cN z)] := by
      have e1 : tLv [((0 : Nat), cN x, cN y, cN z)] = 1 := tLv_leaf (show (0 : Nat) < 2 by decide)
      unfold XR
      rw [e1]
      exact ⟨by omega, ⟨by omega, hnE⟩, Or.inl ⟨_, _, _, rfl, ⟨b2, b3, b4⟩, s4⟩⟩
    have hX2 := hX.push (Nat.le_refl h) hq s2 (by omega) (E2 := E) (fun _ => id) (fun _ => Or.inl) (by omega) hR (T2 := stk (up2 (mMk B h 0 (cN x) (cN y) (cN z)) 10 (h + 1) (B 10 h + 1))) p3 (by rw [p4]; exact hnew)
    exact ⟨jn_fin (hK.push (q := q) (by omega) s2 s3) hX2 hf hM p1 (fun _ _ => rfl) p2, (Kp.push (q := q) (by omega) s2).mo hf⟩
  · rw [if_neg e, if_neg e] at hM
    rw [g0 (Bool.of_not_eq_true e)] at hf
    exact ⟨jn_fin hK hX hf hM hP (fun _ _ => rfl) rfl, Kp.rf.mo hf⟩
theorem jn_edit (J : JS D ca H o n h rl S K tk w A F N Y W0 E rs B) (x y : Int32) {q : Nat} (hq : H.size = q) (g0 : aEdt h x y = false → H1 = H) (g1 : aEdt h x y = true → H1.size = q + 2 ∧ (∀ a, a < q → ¬ rmFr o a → H1[a]? = H[a]?) ∧ RmAt D ca H1 o n (h + 1) rl (va_up S h (some q)) K ∧ EdAt D ca H1 q (cN x) (cN y) (fun _ => 0)) (hf : zz_fr (moFr (o + 73)) H1 H2) (hM : MoAt D ca H2 (o + 73) n (if aEdt h x y = true then h + 1 else h) rs w (if aEdt h x y = true then (up2 (mMk B h 1 (cN x) 0 (cN y)) 10 (h + 1) (B 10 h + 1)) else B)) : Jn D ca o H2 ∧ Kp o H H2 := by
  have hs := J.sz
  obtain ⟨hK, hX, hM0, hP⟩ := J
  by_cases e : aEdt h x y = true
  · rw [if_pos e, if_pos e] at hM
    obtain ⟨s1, s2, s3, s4⟩ := g1 e
    obtain ⟨b1, b2, b3⟩ := edt_b e
    obtain ⟨p1, p2, p3, p4⟩ := hP.push b1 (k := 1) (f := cN x) (nu := 0) (de := cN y) (by decide)
    have hnE : ¬ E q := fun z => by have := (hX.2.1 q z).2; omega
    have hR : Rows D ca (fun a => E a ∨ a = q + 1) H1 := fun a ha => by
      rcases ha with ha | rfl
      · exact (hX.1.kp (H1 := H1) fun a ha => s2 a (by have := (hX.2.1 a ha).2; omega) (by have := (hX.2.1 a ha).1; unfold rmFr; omega)) a ha
      · exact ⟨_, s4.2⟩
    have hnew : XR D ca (fun a => E a ∨ a = q + 1) (o + 92) H1 q [(1, cN x, 0, cN y)] := by
      have e1 : tLv [((1 : Nat), cN x, 0, cN y)] = 1 := tLv_leaf (show (1 : Nat) < 2 by decide)
      unfold XR
      rw [e1]
      exact ⟨by omega, ⟨by omega, fun z => z.elim hnE (fun z => by omega)⟩, Or.inr (Or.inl ⟨_, _, rfl, ⟨b2, b3⟩, Or.inr rfl, _, s4⟩)⟩
    have hX2 := hX.push (Nat.le_refl h) hq s2 (by omega) (E2 := fun a => E a ∨ a = q + 1) (fun _ => Or.inl) (fun a z => z.elim Or.inl (fun z => Or.inr (by omega))) (by omega) hR (T2 := stk (up2 (mMk B h 1 (cN x) 0 (cN y)) 10 (h + 1) (B 10 h + 1))) p3 (by rw [p4]; exact hnew)
    exact ⟨jn_fin (hK.push (q := q) (by omega) s2 s3) hX2 hf hM p1 (fun _ _ => rfl) p2, (Kp.push (q := q) (by omega) s2).mo hf⟩
  · rw [if_neg e, if_neg e] at hM
    rw [g0 (Bool.of_not_eq_true e)] at hf
    exact ⟨jn_fin hK hX hf hM hP (fun _ _ => rfl) rfl, Kp.rf.mo hf⟩
theorem jp_join (J : JS D ca H o n h rl S K tk w A F N Y W0 E rs B) (h2 : 2 ≤ h) : ∃ lo up, (S (h - 1 - 1) = some lo ∧ XR D ca E (o + 92) H lo (stk B (h - 2)) ∧ o < lo ∧ lo < H.size ∧ XH D H lo (tLv (stk B (h - 2))) (tDr (stk B (h - 2)))) ∧ (S (h - 1 - 0) = some up ∧ XR D ca E (o + 92) H up (stk B (h - 1)) ∧ o < up ∧ up < H.size ∧ XH D H up (tLv (stk B (h - 1))) (tDr (stk B (h - 1)))) := by
  obtain ⟨hK, hX, hM0, hP⟩ := J
  obtain ⟨lo, e1, x1⟩ := hX.2.2.1 (h - 2) (by omega)
  obtain ⟨up, e2, x2⟩ := hX.2.2.1 (h - 1) (by omega)
  exact ⟨lo, up, ⟨by rw [show h - 1 - 1 = h - 2 by omega]; exact e1, x1, by have := x1.2.ge.1; omega, x1.2.lt, x1.2.head⟩, ⟨e2, x2, by have := x2.2.ge.1; omega, x2.2.lt, x2.2.head⟩⟩
theorem tDr_join {a b : List Tok} (ha : tOk a) (hb : tOk b) (all : Bool) : tDr (a ++ b ++ [(if all = true then 2 else 3, 0, 0, 0)]) = if all = true then tDr a || tDr b else tDr a && tDr b := by
  unfold tDr
  rw [(tOk_join ha hb (xk_ge all)).2]
  cases all <;> rfl
theorem jn_join (J : JS D ca H o n h rl S K tk w A F N Y W0 E rs B) (h2 : 2 ≤ h) (all : Bool) {lo up q : Nat} (hq : H.size = q) (x1 : XR D ca E (o + 92) H lo (stk B (h - 2))) (x2 : XR D ca E (o + 92) H up (stk B (h - 1))) (g0 : decide (tLv (stk B (h - 2)) + tLv (stk B (h - 1)) ≤ 12) = false → H1 = H) (g1 : decide (tLv (stk B (h - 2)) + tLv (stk B (h - 1)) ≤ 12) = true → H1.size = q + 1 ∧ (∀ a, a < q → ¬ rmFr o a → H1[a]? = H[a]?) ∧ RmAt D ca H1 o n (h - 1) rl (va_up S (h - 2) (some q)) K ∧ xJo D H1 q (tLv (stk B (h - 2)) + tLv (stk B (h - 1))) (if all = true then tDr (stk B (h - 2)) || tDr (stk B (h - 1)) else tDr (stk B (h - 2)) && tDr (stk B (h - 1))) all lo up) (hf : zz_fr (moFr (o + 73)) H1 H2) (hM : MoAt D ca H2 (o + 73) n (if aJoin B h = true then h - 1 else h) rs w (if aJoin B h = true then up2 (mMk B h (if all = true then 2 else 3) 0 0 0) 10 (h - 1) (B 10 h + 1) else B)) : decide (tLv (stk B (h - 2)) + tLv (stk B (h - 1)) ≤ 12) = aJoin B h ∧ Jn D ca o H2 ∧ Kp o H H2 := by
  have hs := J.sz
  obtain ⟨hK, hX, hM0, hP⟩ := J
  have ej : decide (tLv (stk B (h - 2)) + tLv (stk B (h - 1)) ≤ 12) = aJoin B h := by rw [hP.join_t]; simp [h2]
  refine ⟨ej, ?_⟩
  rw [← ej] at hM
  by_cases e : decide (tLv (stk B (h - 2)) + tLv (stk B (h - 1)) ≤ 12) = true
  · rw [if_pos e, if_pos e] at hM
    obtain ⟨s1, s2, s3, s4⟩ := g1 e
    have e12 := of_decide_eq_true e
    have t1 := x1.2.tg
    have t2 := x2.2.tg
    obtain ⟨p1, p2, p3, p4⟩ := hP.join h2 t1 t2 e12 (all := all)
    have hR : Rows D ca E H1 := hX.1.kp fun a ha => s2 a (by have := (hX.2.1 a ha).2; omega) (by have := (hX.2.1 a ha).1; unfold rmFr; omega)
    have hnE : ¬ E q := fun z => by have := (hX.2.1 q z).2; omega
    have hff : ∀ a, o + 92 ≤ a → a < H.size → ¬ E a → H1[a]? = H[a]? := fun a a1 a2 _ => s2 a (by omega) (by unfold rmFr; omega)
    have y1 := x1.kp hff hR
    have y2 := x2.kp hff hR
    have el : tLv (stk B (h - 2) ++ stk B (h - 1) ++ [(if all = true then 2 else 3, 0, 0, 0)]) = tLv (stk B (h - 2)) + tLv (stk B (h - 1)) := by
      rw [tLv_app, tLv_app, tLv_one]
      have := xk_ge all
      simp [this]
    have hnew : XR D ca E (o + 92) H1 q (stk B (h - 2) ++ stk B (h - 1) ++ [(if all = true then 2 else 3, 0, 0, 0)]) := by
      refine ⟨by rw [el]; exact e12, ?_⟩
      obtain ⟨d, hd⟩ : ∃ d, tLv (stk B (h - 2) ++ stk B (h - 1) ++ [(if all = true then 2 else 3, 0, 0, 0)]) = d + 1 := ⟨_, (Nat.sub_add_cancel (by rw [el]; have := t1.1; omega)).symm⟩
      have hd2 : d + 1 = tLv (stk B (h - 2)) + tLv (stk B (h - 1)) := by rw [← hd, el]
      have u1 := t1.1
      have u2 := t2.1
      rw [hd]
      refine ⟨⟨by omega, hnE⟩, Or.inr (Or.inr ⟨all, lo, up, _, _, rfl, ?_, y1.2.mono (by omega), y2.2.mono (by omega)⟩)⟩
      rw [el, tDr_join x1.2.ok.1 x2.2.ok.1]
      exact s4
    have eh : h - 2 + 1 = h - 1 := by omega
    have hX2 := hX.push (k := h - 2) (by omega) hq s2 (by omega) (E2 := E) (fun _ => id) (fun _ => Or.inl) (by omega) hR (T2 := stk (up2 (mMk B h (if all = true then 2 else 3) 0 0 0) 10 (h - 1) (B 10 h + 1))) p3 (by rw [p4]; exact hnew)
    rw [eh] at hX2
    exact ⟨jn_fin (hK.push (q := q) (by omega) s2 s3) hX2 hf hM p1 (fun _ _ => rfl) p2, (Kp.push (q := q) (by omega) s2).mo hf⟩
  · rw [if_neg e, if_neg e] at hM
    rw [g0 (Bool.of_not_eq_true e)] at hf
    exact ⟨jn_fin hK hX hf hM hP (fun _ _ => rfl) rfl, Kp.rf.mo hf⟩
theorem jn_join0 (J : JS D ca H o n h rl S K tk w A F N Y W0 E rs B) (h2 : ¬ 2 ≤ h) (all : Bool) (hf : zz_fr (moFr (o + 73)) H H2) (hM : MoAt D ca H2 (o + 73) n (if aJoin B h = true then h - 1 else h) rs w (if aJoin B h = true then up2 (mMk B h (if all = true then 2 else 3) 0 0 0) 10 (h - 1) (B 10 h + 1) else B)) : nI 0 = nI (aJoin B h).toNat ∧ Jn D ca o H2 ∧ Kp o H H2 := by
  obtain ⟨hK, hX, hM0, hP⟩ := J
  have e : aJoin B h = false := by rw [hP.join_t]; simp [h2]
  rw [e, if_neg (by decide), if_neg (by decide)] at hM
  exact ⟨by rw [e]; rfl, jn_fin hK hX hf hM hP (fun _ _ => rfl) rfl, Kp.rf.mo hf⟩
theorem jp_accept (J : JS D ca H o n h rl S K tk w A F N Y W0 E rs B) (h1 : 1 ≤ h) : ∃ y, S (h - 1 - 0) = some y ∧ XR D ca E (o + 92) H y (stk B (h - 1)) ∧ o + 73 ≤ y ∧ XH D H y (tLv (stk B (h - 1))) (tDr (stk B (h - 1))) := by
  obtain ⟨hK, hX, hM0, hP⟩ := J
  obtain ⟨up, e2, x2⟩ := hX.2.2.1 (h - 1) (by omega)
  exact ⟨up, e2, x2, by have := x2.2.ge.1; omega, x2.2.head⟩
theorem jp_acceptW (J : JS D ca H o n h rl S K tk w A F N Y W0 E rs B) : (h = 1 → smW (B 6) (B 10 h)) ∧ (h = 1 → smD (B 6) (B 10 h) = 1) := by
  obtain ⟨hK, hX, hM0, hP⟩ := J
  have key : h = 1 → smW (B 6) (B 10 h) ∧ smD (B 6) (B 10 h) = 1 := fun e => by
    obtain ⟨up, e2, x2⟩ := hX.2.2.1 0 (by omega)
    exact hP.accW e x2.2.tg x2.1
  exact ⟨fun e => (key e).1, fun e => (key e).2⟩
theorem jn_accept (J : JS D ca H o n h rl S K tk w A F N Y W0 E rs B) (h1 : 1 ≤ h) {y : Nat} (x1 : XR D ca E (o + 92) H y (stk B (h - 1))) (f1 : zz_fr (syFr o) H H1) (r1 : RmAt D ca H1 o n (if bAcc2 h (tDr (stk B (h - 1))) = true then 0 else h) (if bAcc2 h (tDr (stk B (h - 1))) = true then some y else rl) S K) (r2 : RuAt D ca H1 (o + 3) tk (if bAcc2 h (tDr (stk B (h - 1))) = true then 0 else w) A) (r3 : EnAll D ca H1 o F N Y W0) (hf : zz_fr (moFr (o + 73)) H1 H2) (hM : ∃ C, MoAt D ca H2 (o + 73) n (if bAcc B h = true then 0 else h) (if bAcc B h = true then B 10 h else rs) (if bAcc B h = true then 0 else w) C ∧ mOk C ∧ (bAcc B h = false → mS B C) ∧ (bAcc B h = true → (∀ a, a ≠ 3 → a ≠ 4 → a ≠ 5 → a ≠ 15 → a ≠ 11 → a ≠ 12 → a ≠ 13 → a ≠ 14 → C a = B a) ∧ ∀ u, u < B 10 h → C 11 u = B 6 u ∧ C 12 u = B 7 u ∧ C 13 u = B 8 u ∧ C 14 u = B 9 u)) : cAcc h (tLv (stk B (h - 1))) (tDr (stk B (h - 1))) = aAcc B h ∧ Jn D ca o H2 ∧ Kp o H H2 := by
  obtain ⟨hK, hX, hM0, hP⟩ := J
  have e := hP.acc h1
  refine ⟨e.1, ?_, (Kp.sy f1).mo hf⟩
  rw [e.2] at r1 r2
  obtain ⟨C, hM, hok, c1, c2⟩ := hM
  have hX1 := hX.sy f1
  by_cases q : bAcc B h = true
  · rw [if_pos q, if_pos q] at r1
    rw [if_pos q] at r2
    rw [if_pos q, if_pos q, if_pos q] at hM
    have eh : h = 1 := by unfold bAcc at q; simp only [Bool.and_eq_true, decide_eq_true_eq] at q; exact q.1
    have ex : stk B (h - 1) = stk B 0 := by rw [eh]
    rw [ex] at x1
    have p := hP.accept eh x1.2.tg x1.1 hok (c2 q).1 (c2 q).2
    have hx2 : XR D ca E (o + 92) H1 y (stk B 0) := x1.kp (fun a b _ _ => f1.2 a (fun z => by have := z.2; omega)) hX1.1
    have hX2 : CX D ca H1 o 0 (some y) S E (stk C) (rul C (B 10 h)) := ⟨hX1.1, hX1.2.1, fun i hi => absurd hi (by omega), Or.inr ⟨y, rfl, by rw [p.2.1]; exact hx2⟩⟩
    exact jn_fin ⟨r1, r2, r3⟩ hX2 hf hM p.1 (fun _ _ => rfl) rfl
  · rw [if_neg q, if_neg q] at r1
    rw [if_neg q] at r2
    rw [if_neg q, if_neg q, if_neg q] at hM
    exact jn_s8 ⟨r1, r2, r3⟩ hX1 hP hf hM (c1 (Bool.of_not_eq_true q)).s8
theorem jn_accept0 (J : JS D ca H o n h rl S K tk w A F N Y W0 E rs B) (h1 : h = 0) (hf : zz_fr (moFr (o + 73)) H H2) (hM : ∃ C, MoAt D ca H2 (o + 73) n (if bAcc B h = true then 0 else h) (if bAcc B h = true then B 10 h else rs) (if bAcc B h = true then 0 else w) C ∧ mOk C ∧ (bAcc B h = false → mS B C) ∧ (bAcc B h = true → (∀ a, a ≠ 3 → a ≠ 4 → a ≠ 5 → a ≠ 15 → a ≠ 11 → a ≠ 12 → a ≠ 13 → a ≠ 14 → C a = B a) ∧ ∀ u, u < B 10 h → C 11 u = B 6 u ∧ C 12 u = B 7 u ∧ C 13 u = B 8 u ∧ C 14 u = B 9 u)) : (-1 : Int32) = aAcc B h ∧ Jn D ca o H2 ∧ Kp o H H2 := by
  obtain ⟨hK, hX, hM0, hP⟩ := J
  have e := PR.acc0 (B := B) h1
  obtain ⟨C, hM, hok, c1, c2⟩ := hM
  rw [e.2, if_neg (by decide), if_neg (by decide), if_neg (by decide)] at hM
  exact ⟨e.1, jn_s8 hK hX hP hf hM (c1 e.2).s8, Kp.rf.mo hf⟩
/-- at the start -/
theorem jn_init (h1 : RmAt D ca H o 0 0 none (fun _ => none) (fun _ => 0)) (h2 : RuAt D ca H (o + 3) 0 0 (fun _ _ => 0)) (h3 : EnAll D ca H o (fun _ _ _ => 0) (fun _ _ => 0) (fun _ _ => 0) (fun _ _ => false)) (hM : MoAt D ca H (o + 73) 0 0 0 0 (fun _ _ => 0)) : Jn D ca o H :=
  ⟨0, 0, none, fun _ => none, fun _ => 0, 0, 0, fun _ _ => 0, fun _ _ _ => 0, fun _ _ => 0, fun _ _ => 0, fun _ _ => false, fun _ => False, 0, fun _ _ => 0, ⟨h1, h2, h3⟩, ⟨fun _ h => h.elim, fun _ h => h.elim, fun i hi => absurd hi (by omega), Or.inl ⟨rfl, rfl⟩⟩, hM, PR.init⟩
end ZJP
