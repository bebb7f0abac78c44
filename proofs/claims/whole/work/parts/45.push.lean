def nwFr (o q a : Nat) : Prop := rmFr o a ∨ q ≤ a
theorem k_RM_fromTop_n (l : Launch) (D : va_G) (ca : Nat → ClassId) (o n h : Nat) (rl : Option Nat) (S : Nat → Option Nat) (K : Nat → Nat) (k : Nat) (hh : h ≤ 6) (hk : k < 6) (hn : ¬ k < h) : Met l y_RM_fromTop w_RM_fromTop (zr 0 0 0) (zz_P D ca [.ref o, .int (nI k)] (fun H => RmAt D ca H o n h rl S K)) (zz_Q (fun H H1 v => H1 = H ∧ v = some .null)) 0 0 (fun _ => False) := by
  have h1 := k_RM_fromTop l D ca o n h rl S K k hh hk
  rw [if_neg hn] at h1
  exact h1
theorem k_RM_fromTop_s (l : Launch) (D : va_G) (ca : Nat → ClassId) (o n h : Nat) (rl : Option Nat) (S : Nat → Option Nat) (K : Nat → Nat) (k y : Nat) (hh : h ≤ 6) (hk : k < 6) (hn : k < h) (hs : S (h - 1 - k) = some y) : Met l y_RM_fromTop w_RM_fromTop (zr 0 0 0) (zz_P D ca [.ref o, .int (nI k)] (fun H => RmAt D ca H o n h rl S K)) (zz_Q (fun H H1 v => H1 = H ∧ v = some (.ref y))) 0 0 (fun _ => False) := by
  have h1 := k_RM_fromTop l D ca o n h rl S K k hh hk
  rw [if_pos hn, hs] at h1
  exact h1
theorem RmAt.lt {D : va_G} {ca : Nat → ClassId} {H : Heap} {o n h : Nat} {rl : Option Nat} {S : Nat → Option Nat} {K : Nat → Nat} (hM : RmAt D ca H o n h rl S K) : o + 7 < H.size := hM.2.2.2.lt

set_option maxHeartbeats 4000000 in
set_option maxRecDepth 100000 in
theorem k_RM_jaccard (l : Launch) (D : va_G) (ca : Nat → ClassId) (o n h : Nat) (rl : Option Nat) (S : Nat → Option Nat) (K : Nat → Nat) (q : Nat) (hh : h ≤ 6) (x y z : Int32) : Met l y_RM_jaccard w_RM_jaccard (zr 3 1 5) (zz_P D ca [.ref o, .int x, .int y, .int z] (fun H => RmAt D ca H o n h rl S K ∧ H.size = q)) (zz_Q (fun H H1 v => v = some (.int (nI (aJac h x y z).toNat)) ∧ (aJac h x y z = false → H1 = H) ∧ (aJac h x y z = true → H1.size = q + 1 ∧ (∀ a, a < q → ¬ rmFr o a → H1[a]? = H[a]?) ∧ RmAt D ca H1 o n (h + 1) rl (va_up S h (some q)) K ∧ xJa D H1 q (cN x) (cN y) (cN z)))) 1 5 (nwFr o q) := by
  refine zz_met (cc := c_RM_jaccard) (by decide) (Nat.le_of_ble_eq_true rfl) ?_
  intro p e s m below meth c ls hE hr hlk hnm ⟨hM, hsz⟩ hl
  have hx := hE.1.1
  have hb := hE.1.2.1
  have hK := hE.2
  have hl : lv_has ls 4 [(0, .ref o), (1, .int x), (2, .int y), (3, .int z)] := hl
  have hL : zz_L (nwFr o q) ([] : List Loc) := zz_L.nil
  have hFr : ∀ a, a < q → ¬ rmFr o a → s.heap[a]? = s.heap[a]? := fun _ _ _ => rfl
  have hlt : o + 7 < q := by have := hM.lt; omega
  refine lv_iload_n hx hb d_RM_jaccard_0 rfl (lv_at hl 1 rfl) ?_
  refine zz_callP (cl_RM_33 (rest := []) hE (k_RM_isField l D ca x) ⟨rfl, rfl, by decide, by decide⟩ trivial rfl hl.1 rfl (Nat.le_of_ble_eq_true rfl) d_RM_jaccard_1 ⟨by decide, by decide⟩) ?_
  refine zz_eqB hx hb d_RM_jaccard_4 (tgt := 32) rfl (fun hT4 => ?_) (fun hF4 => ?_)
  · refine lv_iconst (v := nI 0) hx hb d_RM_jaccard_32 (by decide) ?_
    have hval : aJac h x y z = false := by simp [aJac, hT4]
    refine W.widen (k := 1) (n := 5) (by decide) (by decide) ?_
    exact zz_iret hx hb hr hlk rfl ⟨by rw [hval]; rfl, fun _ => rfl, (fun h9 => by rw [hval] at h9; cases h9)⟩ hL d_RM_jaccard_33
  · refine lv_iload_n hx hb d_RM_jaccard_7 rfl (lv_at hl 2 rfl) ?_
    refine lv_iconst (v := nI 1) hx hb d_RM_jaccard_8 (by decide) ?_
    refine lv_icmp_lt hx hb d_RM_jaccard_9 (tgt := 32) rfl (fun hT9 => ?_) (fun hF9 => ?_)
    · refine lv_iconst (v := nI 0) hx hb d_RM_jaccard_32 (by decide) ?_
      have hval : aJac h x y z = false := by simp [aJac, hT9]
      refine W.widen (k := 1) (n := 5) (by decide) (by decide) ?_
      exact zz_iret hx hb hr hlk rfl ⟨by rw [hval]; rfl, fun _ => rfl, (fun h9 => by rw [hval] at h9; cases h9)⟩ hL d_RM_jaccard_33
    · refine lv_iload_n hx hb d_RM_jaccard_12 rfl (lv_at hl 2 rfl) ?_
      refine lv_iload_n hx hb d_RM_jaccard_13 rfl (lv_at hl 3 rfl) ?_
      refine lv_icmp_gt hx hb d_RM_jaccard_14 (tgt := 32) rfl (fun hT14 => ?_) (fun hF14 => ?_)
      · refine lv_iconst (v := nI 0) hx hb d_RM_jaccard_32 (by decide) ?_
        have hval : aJac h x y z = false := by simp [aJac, hT14]
        refine W.widen (k := 1) (n := 5) (by decide) (by decide) ?_
        exact zz_iret hx hb hr hlk rfl ⟨by rw [hval]; rfl, fun _ => rfl, (fun h9 => by rw [hval] at h9; cases h9)⟩ hL d_RM_jaccard_33
      · refine lv_iload_n hx hb d_RM_jaccard_17 rfl (lv_at hl 3 rfl) ?_
        refine lv_bipush (v := nI 100) hx hb d_RM_jaccard_18 (by decide) ?_
        refine lv_icmp_gt hx hb d_RM_jaccard_20 (tgt := 32) rfl (fun hT20 => ?_) (fun hF20 => ?_)
        · refine lv_iconst (v := nI 0) hx hb d_RM_jaccard_32 (by decide) ?_
          have hval : aJac h x y z = false := by simp [aJac, hT20]
          refine W.widen (k := 1) (n := 5) (by decide) (by decide) ?_
          exact zz_iret hx hb hr hlk rfl ⟨by rw [hval]; rfl, fun _ => rfl, (fun h9 => by rw [hval] at h9; cases h9)⟩ hL d_RM_jaccard_33
        · refine lv_aload_n hx hb d_RM_jaccard_23 rfl (lv_at hl 0 rfl) ?_
          refine fg_RM_68 hE hM.1 rfl d_RM_jaccard_24 ?_
          refine lv_bipush (v := nI 6) hx hb d_RM_jaccard_27 (by decide) ?_
          refine zz_lt hx hb (by omega) (by omega) d_RM_jaccard_29 (tgt := 34) rfl (fun hT29 => ?_) (fun hF29 => ?_)
          · have hx4 := hF4
            have hy9 := hF9
            have hy14 := hF14
            have hy20 := hF20
            obtain ⟨x0, hx0, rfl⟩ := zisF_nat hF4
            obtain ⟨n0, d0, rfl, rfl, hn1, hnd, hd1⟩ := zz_jac hF9 hF14 hF20
            have cx : cN (nI x0) = x0 := nI_clamp (by omega)
            have cn : cN (nI n0) = n0 := nI_clamp (by omega)
            have cd : cN (nI d0) = d0 := nI_clamp (by omega)
            refine lv_aload_n hx hb d_RM_jaccard_34 rfl (lv_at hl 0 rfl) ?_
            refine zz_new (own := R_RM) (C := R_Ja) (T := T_Ja) (N := 5) (ci := 2) hx hb hE.1.2.2.2.2 in_Ja ty_Ja tk_Ja hE.1.2.2.2.1 hE.2.1 (hE.1.2.2.2.2 _ zm_188) (hE.1.2.2.2.2 _ zm_189) (hE.1.2.2.2.2 _ zm_7) rfl [.int 0, .int 0, .int 0, .int 0, .int 0] (fun j hj => by rcases (show j = 0 ∨ j = 1 ∨ j = 2 ∨ j = 3 ∨ j = 4 by omega) with rfl | rfl | rfl | rfl | rfl <;> rfl) (h := q) hsz (by decide) (by decide) d_RM_jaccard_35 (fun H h1 hn1 => ?_)
            have hM : RmAt D ca H o n h rl S K := ⟨zz_keepN hn1 hM.1, zz_keepN hn1 hM.2.1, zz_keepN hn1 hM.2.2.1, zz_keepN hn1 hM.2.2.2⟩
            replace hFr : ∀ a, a < q → ¬ rmFr o a → H[a]? = s.heap[a]? := fun a h3 h4 => (hn1.2 a (by omega)).trans (hFr a h3 h4)
            replace hsz : H.size = q + 1 := by rw [hn1.1, hsz]
            refine lv_dup hx hb d_RM_jaccard_38 rfl ?_
            refine lv_iload_n hx hb d_RM_jaccard_39 rfl (lv_at hl 1 rfl) ?_
            refine lv_iload_n hx hb d_RM_jaccard_40 rfl (lv_at hl 2 rfl) ?_
            refine lv_iload_n hx hb d_RM_jaccard_41 rfl (lv_at hl 3 rfl) ?_
            refine zz_callN (cl_RM_73 (rest := [.ref q, .ref o]) (As := [.int (nI x0), .int (nI n0), .int (nI d0)]) hE (k_Ja_init l D ca q x0 n0 d0) ⟨rfl, rfl, by decide, by decide⟩ h1 rfl hl.1 rfl (Nat.le_of_ble_eq_true rfl) d_RM_jaccard_42 ⟨by decide, by decide⟩) hL (fun a h9 => by have h9 : a = q := h9; exact Or.inr (by omega)) (fun H locs hpost hL => ?_)
            obtain ⟨hfr1, hX⟩ := hpost
            have hM := hM.fr (fun a h3 h4 _ => hfr1.2 a (by show ¬ a = q; omega))
            replace hFr : ∀ a, a < q → ¬ rmFr o a → H[a]? = s.heap[a]? := fun a h3 h4 => (hfr1.2 a (by show ¬ a = q; omega)).trans (hFr a h3 h4)
            replace hsz : H.size = q + 1 := hfr1.1.trans hsz
            refine zz_callN (cl_RM_76 (rest := []) (As := [.ref q]) hE (k_RM_push_Ja l D ca o n h rl S K q _ (by omega)) ⟨rfl, rfl, by decide, by decide⟩ ⟨hM, hX⟩ hM.1 rfl hl.1 rfl (Nat.le_of_ble_eq_true rfl) d_RM_jaccard_45 ⟨by decide, by decide⟩) hL (fun a h9 => Or.inl h9) (fun H locs hpost hL => ?_)
            obtain ⟨hfr1, hM⟩ := hpost
            replace hFr : ∀ a, a < q → ¬ rmFr o a → H[a]? = s.heap[a]? := fun a h3 h4 => (hfr1.2 a h4).trans (hFr a h3 h4)
            replace hsz := hfr1.1.trans hsz
            have hqr : ∀ a, q ≤ a → ¬ rmFr o a := fun a h3 h4 => by rcases h4 with h4 | h4 | h4 <;> omega
            refine lv_iconst (v := nI 1) hx hb d_RM_jaccard_48 (by decide) ?_
            have hval : aJac h (nI x0) (nI n0) (nI d0) = true := by simp only [aJac, hx4, decide_eq_false hy9, decide_eq_false hy14, decide_eq_false hy20, decide_eq_true (show h ≠ 6 by omega)]; rfl
            exact zz_iret hx hb hr hlk rfl ⟨by rw [hval]; rfl, (fun h9 => by rw [hval] at h9; cases h9), fun _ => ⟨hsz, hFr, hM, by rw [cx, cn, cd]; exact hX.kept (hfr1.2 q (hqr q (Nat.le_refl _)))⟩⟩ hL d_RM_jaccard_49
          · refine lv_iconst (v := nI 0) hx hb d_RM_jaccard_32 (by decide) ?_
            have hval : aJac h x y z = false := by simp only [aJac, decide_eq_false (show ¬ h ≠ 6 by omega)]; simp
            refine W.widen (k := 1) (n := 5) (by decide) (by decide) ?_
            exact zz_iret hx hb hr hlk rfl ⟨by rw [hval]; rfl, fun _ => rfl, (fun h9 => by rw [hval] at h9; cases h9)⟩ hL d_RM_jaccard_33

set_option maxHeartbeats 4000000 in
set_option maxRecDepth 100000 in
theorem k_RM_edit (l : Launch) (D : va_G) (ca : Nat → ClassId) (o n h : Nat) (rl : Option Nat) (S : Nat → Option Nat) (K : Nat → Nat) (q : Nat) (hh : h ≤ 6) (x y : Int32) : Met l y_RM_edit w_RM_edit (zr 3 2 18) (zz_P D ca [.ref o, .int x, .int y] (fun H => RmAt D ca H o n h rl S K ∧ H.size = q)) (zz_Q (fun H H1 v => v = some (.int (nI (aEdt h x y).toNat)) ∧ (aEdt h x y = false → H1 = H) ∧ (aEdt h x y = true → H1.size = q + 2 ∧ (∀ a, a < q → ¬ rmFr o a → H1[a]? = H[a]?) ∧ RmAt D ca H1 o n (h + 1) rl (va_up S h (some q)) K ∧ EdAt D ca H1 q (cN x) (cN y) (fun _ => 0)))) 2 18 (nwFr o q) := by
  refine zz_met (cc := c_RM_edit) (by decide) (Nat.le_of_ble_eq_true rfl) ?_
  intro p e s m below meth c ls hE hr hlk hnm ⟨hM, hsz⟩ hl
  have hx := hE.1.1
  have hb := hE.1.2.1
  have hK := hE.2
  have hl : lv_has ls 3 [(0, .ref o), (1, .int x), (2, .int y)] := hl
  have hL : zz_L (nwFr o q) ([] : List Loc) := zz_L.nil
  have hFr : ∀ a, a < q → ¬ rmFr o a → s.heap[a]? = s.heap[a]? := fun _ _ _ => rfl
  have hlt : o + 7 < q := by have := hM.lt; omega
  refine lv_iload_n hx hb d_RM_edit_0 rfl (lv_at hl 1 rfl) ?_
  refine zz_callP (cl_RM_33 (rest := []) hE (k_RM_isField l D ca x) ⟨rfl, rfl, by decide, by decide⟩ trivial rfl hl.1 rfl (Nat.le_of_ble_eq_true rfl) d_RM_edit_1 ⟨by decide, by decide⟩) ?_
  refine zz_eqB hx hb d_RM_edit_4 (tgt := 26) rfl (fun hT4 => ?_) (fun hF4 => ?_)
  · refine lv_iconst (v := nI 0) hx hb d_RM_edit_26 (by decide) ?_
    have hval : aEdt h x y = false := by simp [aEdt, hT4]
    refine W.widen (k := 2) (n := 18) (by decide) (by decide) ?_
    exact zz_iret hx hb hr hlk rfl ⟨by rw [hval]; rfl, fun _ => rfl, (fun h9 => by rw [hval] at h9; cases h9)⟩ hL d_RM_edit_27
  · refine lv_iload_n hx hb d_RM_edit_7 rfl (lv_at hl 2 rfl) ?_
    refine lv_if_lt hx hb d_RM_edit_8 (tgt := 26) rfl (fun hT8 => ?_) (fun hF8 => ?_)
    · refine lv_iconst (v := nI 0) hx hb d_RM_edit_26 (by decide) ?_
      have hval : aEdt h x y = false := by simp [aEdt, hT8]
      refine W.widen (k := 2) (n := 18) (by decide) (by decide) ?_
      exact zz_iret hx hb hr hlk rfl ⟨by rw [hval]; rfl, fun _ => rfl, (fun h9 => by rw [hval] at h9; cases h9)⟩ hL d_RM_edit_27
    · refine lv_iload_n hx hb d_RM_edit_11 rfl (lv_at hl 2 rfl) ?_
      refine lv_bipush (v := nI 8) hx hb d_RM_edit_12 (by decide) ?_
      refine lv_icmp_gt hx hb d_RM_edit_14 (tgt := 26) rfl (fun hT14 => ?_) (fun hF14 => ?_)
      · refine lv_iconst (v := nI 0) hx hb d_RM_edit_26 (by decide) ?_
        have hval : aEdt h x y = false := by simp [aEdt, hT14]
        refine W.widen (k := 2) (n := 18) (by decide) (by decide) ?_
        exact zz_iret hx hb hr hlk rfl ⟨by rw [hval]; rfl, fun _ => rfl, (fun h9 => by rw [hval] at h9; cases h9)⟩ hL d_RM_edit_27
      · refine lv_aload_n hx hb d_RM_edit_17 rfl (lv_at hl 0 rfl) ?_
        refine fg_RM_68 hE hM.1 rfl d_RM_edit_18 ?_
        refine lv_bipush (v := nI 6) hx hb d_RM_edit_21 (by decide) ?_
        refine zz_lt hx hb (by omega) (by omega) d_RM_edit_23 (tgt := 28) rfl (fun hT23 => ?_) (fun hF23 => ?_)
        · have hx4 := hF4
          have hy8 := hF8
          have hy14 := hF14
          obtain ⟨x0, hx0, rfl⟩ := zisF_nat hF4
          obtain ⟨d0, rfl, hd1⟩ := zz_edt hF8 hF14
          have cx : cN (nI x0) = x0 := nI_clamp (by omega)
          have cd : cN (nI d0) = d0 := nI_clamp (by omega)
          refine lv_aload_n hx hb d_RM_edit_28 rfl (lv_at hl 0 rfl) ?_
          refine zz_new (own := R_RM) (C := R_Ed) (T := T_Ed) (N := 5) (ci := 3) hx hb hE.1.2.2.2.2 in_Ed ty_Ed tk_Ed hE.1.2.2.2.1 hE.2.1 (hE.1.2.2.2.2 _ zm_225) (hE.1.2.2.2.2 _ zm_226) (hE.1.2.2.2.2 _ zm_8) rfl [.int 0, .int 0, .int 0, .int 0, .null] (fun j hj => by rcases (show j = 0 ∨ j = 1 ∨ j = 2 ∨ j = 3 ∨ j = 4 by omega) with rfl | rfl | rfl | rfl | rfl <;> rfl) (h := q) hsz (by decide) (by decide) d_RM_edit_29 (fun H h1 hn1 => ?_)
          have hM : RmAt D ca H o n h rl S K := ⟨zz_keepN hn1 hM.1, zz_keepN hn1 hM.2.1, zz_keepN hn1 hM.2.2.1, zz_keepN hn1 hM.2.2.2⟩
          replace hFr : ∀ a, a < q → ¬ rmFr o a → H[a]? = s.heap[a]? := fun a h3 h4 => (hn1.2 a (by omega)).trans (hFr a h3 h4)
          replace hsz : H.size = q + 1 := by rw [hn1.1, hsz]
          refine lv_dup hx hb d_RM_edit_32 rfl ?_
          refine lv_iload_n hx hb d_RM_edit_33 rfl (lv_at hl 1 rfl) ?_
          refine lv_iload_n hx hb d_RM_edit_34 rfl (lv_at hl 2 rfl) ?_
          refine zz_callN (cl_RM_82 (rest := [.ref q, .ref o]) (As := [.int (nI x0), .int (nI d0)]) hE (k_Ed_init l D ca q x0 d0) ⟨rfl, rfl, by decide, by decide⟩ ⟨h1, hsz⟩ rfl hl.1 rfl (Nat.le_of_ble_eq_true rfl) d_RM_edit_35 ⟨by decide, by decide⟩) hL (fun a h9 => by have h9 : q ≤ a ∧ a ≤ q + 1 := h9; exact Or.inr h9.1) (fun H locs hpost hL => ?_)
          obtain ⟨hs9, hf9, hX9⟩ := hpost
          have hX := hX9.1
          have hM := hM.fr (fun a h3 h4 _ => hf9 a (by omega))
          replace hFr : ∀ a, a < q → ¬ rmFr o a → H[a]? = s.heap[a]? := fun a h3 h4 => (hf9 a h3).trans (hFr a h3 h4)
          replace hsz : H.size = q + 2 := hs9
          refine zz_callN (cl_RM_76 (rest := []) (As := [.ref q]) hE (k_RM_push_Ed l D ca o n h rl S K q _ (by omega)) ⟨rfl, rfl, by decide, by decide⟩ ⟨hM, hX⟩ hM.1 rfl hl.1 rfl (Nat.le_of_ble_eq_true rfl) d_RM_edit_38 ⟨by decide, by decide⟩) hL (fun a h9 => Or.inl h9) (fun H locs hpost hL => ?_)
          obtain ⟨hfr1, hM⟩ := hpost
          replace hFr : ∀ a, a < q → ¬ rmFr o a → H[a]? = s.heap[a]? := fun a h3 h4 => (hfr1.2 a h4).trans (hFr a h3 h4)
          replace hsz := hfr1.1.trans hsz
          have hqr : ∀ a, q ≤ a → ¬ rmFr o a := fun a h3 h4 => by rcases h4 with h4 | h4 | h4 <;> omega
          refine lv_iconst (v := nI 1) hx hb d_RM_edit_41 (by decide) ?_
          have hval : aEdt h (nI x0) (nI d0) = true := by simp only [aEdt, hx4, decide_eq_false hy8, decide_eq_false hy14, decide_eq_true (show h ≠ 6 by omega)]; rfl
          exact zz_iret hx hb hr hlk rfl ⟨by rw [hval]; rfl, (fun h9 => by rw [hval] at h9; cases h9), fun _ => ⟨hsz, hFr, hM, by rw [cx, cd]; exact ⟨hX9.1.kept (hfr1.2 q (hqr q (Nat.le_refl _))), hX9.2.kept (hfr1.2 (q + 1) (hqr (q + 1) (by omega)))⟩⟩⟩ hL d_RM_edit_42
        · refine lv_iconst (v := nI 0) hx hb d_RM_edit_26 (by decide) ?_
          have hval : aEdt h x y = false := by simp only [aEdt, decide_eq_false (show ¬ h ≠ 6 by omega)]; simp
          refine W.widen (k := 2) (n := 18) (by decide) (by decide) ?_
          exact zz_iret hx hb hr hlk rfl ⟨by rw [hval]; rfl, fun _ => rfl, (fun h9 => by rw [hval] at h9; cases h9)⟩ hL d_RM_edit_27

set_option maxHeartbeats 4000000 in
set_option maxRecDepth 100000 in
theorem k_RM_join_0 (l : Launch) (D : va_G) (ca : Nat → ClassId) (o n h : Nat) (rl : Option Nat) (S : Nat → Option Nat) (K : Nat → Nat) (hh : h = 0) (all : Bool) : Met l y_RM_join w_RM_join (zr 1 0 0) (zz_P D ca [.ref o, .int (nI all.toNat)] (fun H => RmAt D ca H o n h rl S K)) (zz_Q (fun H H1 v => H1 = H ∧ v = some (.int (nI 0)))) 0 0 (fun _ => False) := by
  refine zz_met (cc := c_RM_join) (by decide) (Nat.le_of_ble_eq_true rfl) ?_
  intro p e s m below meth c ls hE hr hlk hnm hM hl
  have hx := hE.1.1
  have hb := hE.1.2.1
  have hK := hE.2
  have hl : lv_has ls 4 [(0, .ref o), (1, .int (nI all.toNat))] := hl
  have hL : zz_L (fun _ => False) ([] : List Loc) := zz_L.nil
  refine lv_aload_n hx hb d_RM_join_0 rfl (lv_at hl 0 rfl) ?_
  refine lv_iconst (v := nI 1) hx hb d_RM_join_1 (by decide) ?_
  refine zz_callP (cl_RM_85 (rest := []) hE (k_RM_fromTop_n l D ca o n h rl S K 1 (by omega) (by decide) (by omega)) ⟨rfl, rfl, by decide, by decide⟩ hM hM.1 rfl hl.1 rfl (Nat.le_of_ble_eq_true rfl) d_RM_join_2 ⟨by decide, by decide⟩) ?_
  refine lv_astore_nN hx hb d_RM_join_5 rfl hl (by decide) rfl (fun ls hl => ?_)
  have hl : lv_has ls 4 [(2, .null), (0, .ref o), (1, .int (nI all.toNat))] := hl
  refine lv_aload_n hx hb d_RM_join_6 rfl (lv_at hl 1 rfl) ?_
  refine lv_iconst (v := nI 0) hx hb d_RM_join_7 (by decide) ?_
  refine zz_callP (cl_RM_85 (rest := []) hE (k_RM_fromTop_n l D ca o n h rl S K 0 (by omega) (by decide) (by omega)) ⟨rfl, rfl, by decide, by decide⟩ hM hM.1 rfl hl.1 rfl (Nat.le_of_ble_eq_true rfl) d_RM_join_8 ⟨by decide, by decide⟩) ?_
  refine lv_astore_nN hx hb d_RM_join_11 rfl hl (by decide) rfl (fun ls hl => ?_)
  have hl : lv_has ls 4 [(3, .null), (2, .null), (0, .ref o), (1, .int (nI all.toNat))] := hl
  refine lv_aload_nN hx hb d_RM_join_12 rfl (lv_at hl 1 rfl) ?_
  refine lv_ifnullN hx hb d_RM_join_13 (tgt := 34) rfl ?_
  refine lv_iconst (v := nI 0) hx hb d_RM_join_34 (by decide) ?_
  exact zz_iret hx hb hr hlk rfl ⟨rfl, congrArg (fun z => some (Value.int z)) (rfl)⟩ hL d_RM_join_35

set_option maxHeartbeats 4000000 in
set_option maxRecDepth 100000 in
theorem k_RM_join_1 (l : Launch) (D : va_G) (ca : Nat → ClassId) (o n h : Nat) (rl : Option Nat) (S : Nat → Option Nat) (K : Nat → Nat) (up : Nat) (hh : h = 1) (hs0 : S (h - 1 - 0) = some up) (all : Bool) : Met l y_RM_join w_RM_join (zr 1 0 0) (zz_P D ca [.ref o, .int (nI all.toNat)] (fun H => RmAt D ca H o n h rl S K)) (zz_Q (fun H H1 v => H1 = H ∧ v = some (.int (nI 0)))) 0 0 (fun _ => False) := by
  refine zz_met (cc := c_RM_join) (by decide) (Nat.le_of_ble_eq_true rfl) ?_
  intro p e s m below meth c ls hE hr hlk hnm hM hl
  have hx := hE.1.1
  have hb := hE.1.2.1
  have hK := hE.2
  have hl : lv_has ls 4 [(0, .ref o), (1, .int (nI all.toNat))] := hl
  have hL : zz_L (fun _ => False) ([] : List Loc) := zz_L.nil
  refine lv_aload_n hx hb d_RM_join_0 rfl (lv_at hl 0 rfl) ?_
  refine lv_iconst (v := nI 1) hx hb d_RM_join_1 (by decide) ?_
  refine zz_callP (cl_RM_85 (rest := []) hE (k_RM_fromTop_n l D ca o n h rl S K 1 (by omega) (by decide) (by omega)) ⟨rfl, rfl, by decide, by decide⟩ hM hM.1 rfl hl.1 rfl (Nat.le_of_ble_eq_true rfl) d_RM_join_2 ⟨by decide, by decide⟩) ?_
  refine lv_astore_nN hx hb d_RM_join_5 rfl hl (by decide) rfl (fun ls hl => ?_)
  have hl : lv_has ls 4 [(2, .null), (0, .ref o), (1, .int (nI all.toNat))] := hl
  refine lv_aload_n hx hb d_RM_join_6 rfl (lv_at hl 1 rfl) ?_
  refine lv_iconst (v := nI 0) hx hb d_RM_join_7 (by decide) ?_
  refine zz_callP (cl_RM_85 (rest := []) hE (k_RM_fromTop_s l D ca o n h rl S K 0 up (by omega) (by decide) (by omega) hs0) ⟨rfl, rfl, by decide, by decide⟩ hM hM.1 rfl hl.1 rfl (Nat.le_of_ble_eq_true rfl) d_RM_join_8 ⟨by decide, by decide⟩) ?_
  refine lv_astore_n hx hb d_RM_join_11 rfl hl (by decide) rfl (fun ls hl => ?_)
  have hl : lv_has ls 4 [(3, .ref up), (2, .null), (0, .ref o), (1, .int (nI all.toNat))] := hl
  refine lv_aload_nN hx hb d_RM_join_12 rfl (lv_at hl 1 rfl) ?_
  refine lv_ifnullN hx hb d_RM_join_13 (tgt := 34) rfl ?_
  refine lv_iconst (v := nI 0) hx hb d_RM_join_34 (by decide) ?_
  exact zz_iret hx hb hr hlk rfl ⟨rfl, congrArg (fun z => some (Value.int z)) (rfl)⟩ hL d_RM_join_35

set_option maxHeartbeats 4000000 in
set_option maxRecDepth 100000 in
theorem k_RM_join (l : Launch) (D : va_G) (ca : Nat → ClassId) (o n h : Nat) (rl : Option Nat) (S : Nat → Option Nat) (K : Nat → Nat) (q lo up c1 c2 : Nat) (d1 d2 : Bool) (hh : h ≤ 6) (h2 : 2 ≤ h) (hs1 : S (h - 1 - 1) = some lo) (hs0 : S (h - 1 - 0) = some up) (hc1 : c1 ≤ 12) (hc2 : c2 ≤ 12) (hlo : o < lo) (hup : o < up) (hlq : lo < q) (huq : up < q) (all : Bool) : Met l y_RM_join w_RM_join (zr 4 1 5) (zz_P D ca [.ref o, .int (nI all.toNat)] (fun H => RmAt D ca H o n h rl S K ∧ H.size = q ∧ XH D H lo c1 d1 ∧ XH D H up c2 d2)) (zz_Q (fun H H1 v => v = some (.int (nI (decide (c1 + c2 ≤ 12)).toNat)) ∧ (decide (c1 + c2 ≤ 12) = false → H1 = H) ∧ (decide (c1 + c2 ≤ 12) = true → H1.size = q + 1 ∧ (∀ a, a < q → ¬ rmFr o a → H1[a]? = H[a]?) ∧ RmAt D ca H1 o n (h - 1) rl (va_up S (h - 2) (some q)) K ∧ xJo D H1 q (c1 + c2) (if all = true then d1 || d2 else d1 && d2) all lo up))) 1 5 (nwFr o q) := by
  refine zz_met (cc := c_RM_join) (by decide) (Nat.le_of_ble_eq_true rfl) ?_
  intro p e s m below meth c ls hE hr hlk hnm ⟨hM, hsz, hP, hQ⟩ hl
  have hx := hE.1.1
  have hb := hE.1.2.1
  have hK := hE.2
  have hl : lv_has ls 4 [(0, .ref o), (1, .int (nI all.toNat))] := hl
  have hL : zz_L (nwFr o q) ([] : List Loc) := zz_L.nil
  have hFr : ∀ a, a < q → ¬ rmFr o a → s.heap[a]? = s.heap[a]? := fun _ _ _ => rfl
  have hlt : o + 7 < q := by have := hM.lt; omega
  refine lv_aload_n hx hb d_RM_join_0 rfl (lv_at hl 0 rfl) ?_
  refine lv_iconst (v := nI 1) hx hb d_RM_join_1 (by decide) ?_
  refine zz_callP (cl_RM_85 (rest := []) hE (k_RM_fromTop_s l D ca o n h rl S K 1 lo (by omega) (by decide) (by omega) hs1) ⟨rfl, rfl, by decide, by decide⟩ hM hM.1 rfl hl.1 rfl (Nat.le_of_ble_eq_true rfl) d_RM_join_2 ⟨by decide, by decide⟩) ?_
  refine lv_astore_n hx hb d_RM_join_5 rfl hl (by decide) rfl (fun ls hl => ?_)
  have hl : lv_has ls 4 [(2, .ref lo), (0, .ref o), (1, .int (nI all.toNat))] := hl
  refine lv_aload_n hx hb d_RM_join_6 rfl (lv_at hl 1 rfl) ?_
  refine lv_iconst (v := nI 0) hx hb d_RM_join_7 (by decide) ?_
  refine zz_callP (cl_RM_85 (rest := []) hE (k_RM_fromTop_s l D ca o n h rl S K 0 up (by omega) (by decide) (by omega) hs0) ⟨rfl, rfl, by decide, by decide⟩ hM hM.1 rfl hl.1 rfl (Nat.le_of_ble_eq_true rfl) d_RM_join_8 ⟨by decide, by decide⟩) ?_
  refine lv_astore_n hx hb d_RM_join_11 rfl hl (by decide) rfl (fun ls hl => ?_)
  have hl : lv_has ls 4 [(3, .ref up), (2, .ref lo), (0, .ref o), (1, .int (nI all.toNat))] := hl
  refine lv_aload_n hx hb d_RM_join_12 rfl (lv_at hl 1 rfl) ?_
  refine lv_ifnull hx hb d_RM_join_13 ?_
  refine lv_aload_n hx hb d_RM_join_16 rfl (lv_at hl 0 rfl) ?_
  refine lv_ifnull hx hb d_RM_join_17 ?_
  refine lv_aload_n hx hb d_RM_join_20 rfl (lv_at hl 1 rfl) ?_
  refine xg_RM_89 hE hP d_RM_join_21 ?_
  refine lv_aload_n hx hb d_RM_join_24 rfl (lv_at hl 0 rfl) ?_
  refine xg_RM_89 hE hQ d_RM_join_25 ?_
  refine zz_iadd hx hb d_RM_join_28 ?_
  refine lv_bipush (v := nI 12) hx hb d_RM_join_29 (by decide) ?_
  refine zz_le hx hb (by omega) (by omega) d_RM_join_31 (tgt := 36) rfl (fun hT31 => ?_) (fun hF31 => ?_)
  · refine lv_aload_n hx hb d_RM_join_36 rfl (lv_at hl 2 rfl) ?_
    refine lv_dup hx hb d_RM_join_37 rfl ?_
    refine fg_RM_68 hE hM.1 rfl d_RM_join_38 ?_
    refine lv_iconst (v := nI 2) hx hb d_RM_join_41 (by decide) ?_
    refine zz_isub (by omega) hx hb d_RM_join_42 ?_
    refine fp_RM_68 hE hM.1 hL (show nwFr o q o from Or.inl (Or.inl rfl)) (Nat.le_of_ble_eq_true rfl) d_RM_join_43 (fun H locs h1 hu hL => ?_)
    replace hFr : ∀ a, a < q → ¬ rmFr o a → H[a]? = s.heap[a]? := fun a h3 h4 => (hu.2 a (fun e => h4 (Or.inl e))).trans (hFr a h3 h4)
    replace hsz : H.size = q := by rw [hu.1, hsz]
    have hM : RmAt D ca H o n (h - 2) rl S K := ⟨h1, zz_keep hu (show o + 1 ≠ o by omega) hM.2.1, zz_keep hu (show o + 2 ≠ o by omega) hM.2.2.1, zz_keep hu (show o + 7 ≠ o by omega) hM.2.2.2⟩
    replace hP := hP.kp (hu.2 _ (by omega))
    replace hQ := hQ.kp (hu.2 _ (by omega))
    refine lv_aload_n hx hb d_RM_join_46 rfl (lv_at hl 2 rfl) ?_
    refine zz_new (own := R_RM) (C := R_Jo) (T := T_Jo) (N := 5) (ci := 4) hx hb hE.1.2.2.2.2 in_Jo ty_Jo tk_Jo hE.1.2.2.2.1 hE.2.1 (hE.1.2.2.2.2 _ zm_251) (hE.1.2.2.2.2 _ zm_252) (hE.1.2.2.2.2 _ zm_9) rfl [.int 0, .int 0, .int 0, .null, .null] (fun j hj => by rcases (show j = 0 ∨ j = 1 ∨ j = 2 ∨ j = 3 ∨ j = 4 by omega) with rfl | rfl | rfl | rfl | rfl <;> rfl) (h := q) hsz (by decide) (by decide) d_RM_join_47 (fun H h1 hn1 => ?_)
    have hM : RmAt D ca H o n (h - 2) rl S K := ⟨zz_keepN hn1 hM.1, zz_keepN hn1 hM.2.1, zz_keepN hn1 hM.2.2.1, zz_keepN hn1 hM.2.2.2⟩
    replace hFr : ∀ a, a < q → ¬ rmFr o a → H[a]? = s.heap[a]? := fun a h3 h4 => (hn1.2 a (by omega)).trans (hFr a h3 h4)
    replace hP := hP.kp (hn1.2 _ (by omega))
    replace hQ := hQ.kp (hn1.2 _ (by omega))
    replace hsz : H.size = q + 1 := by rw [hn1.1, hsz]
    refine lv_dup hx hb d_RM_join_50 rfl ?_
    refine lv_iload_n hx hb d_RM_join_51 rfl (lv_at hl 3 rfl) ?_
    refine lv_aload_n hx hb d_RM_join_52 rfl (lv_at hl 1 rfl) ?_
    refine lv_aload_n hx hb d_RM_join_53 rfl (lv_at hl 0 rfl) ?_
    refine zz_callN (cl_RM_94 (rest := [.ref q, .ref o]) (As := [.int (nI all.toNat), .ref lo, .ref up]) hE (k_Jo_init l D ca q lo up c1 c2 d1 d2 all) ⟨rfl, rfl, by decide, by decide⟩ ⟨h1, hP, hQ⟩ rfl hl.1 rfl (Nat.le_of_ble_eq_true rfl) d_RM_join_54 ⟨by decide, by decide⟩) hL (fun a h9 => by have h9 : a = q := h9; exact Or.inr (by omega)) (fun H locs hpost hL => ?_)
    obtain ⟨hfr1, hX⟩ := hpost
    have hM := hM.fr (fun a h3 h4 _ => hfr1.2 a (by show ¬ a = q; omega))
    replace hFr : ∀ a, a < q → ¬ rmFr o a → H[a]? = s.heap[a]? := fun a h3 h4 => (hfr1.2 a (by show ¬ a = q; omega)).trans (hFr a h3 h4)
    replace hsz : H.size = q + 1 := hfr1.1.trans hsz
    refine zz_callN (cl_RM_76 (rest := []) (As := [.ref q]) hE (k_RM_push_Jo l D ca o n (h - 2) rl S K q _ (by omega)) ⟨rfl, rfl, by decide, by decide⟩ ⟨hM, hX⟩ hM.1 rfl hl.1 rfl (Nat.le_of_ble_eq_true rfl) d_RM_join_57 ⟨by decide, by decide⟩) hL (fun a h9 => Or.inl h9) (fun H locs hpost hL => ?_)
    obtain ⟨hfr1, hM⟩ := hpost
    replace hFr : ∀ a, a < q → ¬ rmFr o a → H[a]? = s.heap[a]? := fun a h3 h4 => (hfr1.2 a h4).trans (hFr a h3 h4)
    replace hsz := hfr1.1.trans hsz
    have hqr : ∀ a, q ≤ a → ¬ rmFr o a := fun a h3 h4 => by rcases h4 with h4 | h4 | h4 <;> omega
    refine lv_iconst (v := nI 1) hx hb d_RM_join_60 (by decide) ?_
    exact zz_iret hx hb hr hlk rfl ⟨by rw [decide_eq_true (show c1 + c2 ≤ 12 by omega)]; rfl, (fun h9 => by have := of_decide_eq_false h9; omega), fun _ => ⟨hsz, hFr, by rw [show h - 2 + 1 = h - 1 by omega] at hM; exact hM, hX.kept (hfr1.2 q (hqr q (Nat.le_refl _)))⟩⟩ hL d_RM_join_61
  · refine lv_iconst (v := nI 0) hx hb d_RM_join_34 (by decide) ?_
    refine W.widen (k := 1) (n := 5) (by decide) (by decide) ?_
    exact zz_iret hx hb hr hlk rfl ⟨by rw [decide_eq_false (show ¬ c1 + c2 ≤ 12 by omega)]; rfl, fun _ => rfl, (fun h9 => by have := of_decide_eq_true h9; omega)⟩ hL d_RM_join_35
