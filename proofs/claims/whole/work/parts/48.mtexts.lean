/-! The class's texts against the reference's. -/
/-- f and n hold the text L -/
def TxR (f : Nat → Nat) (n : Nat) (L : List Nat) : Prop := n = L.length ∧ ∀ j, j < n → f j = tAt L j
/-- no blank at the start, none behind a blank, none at the end -/
def Nm (L : List Nat) : Prop := ((0 < L.length → tAt L 0 ≠ 32) ∧ ∀ i, i + 1 < L.length → tAt L i = 32 → tAt L (i + 1) ≠ 32) ∧ (0 < L.length → tAt L (L.length - 1) ≠ 32)
theorem tAt_l {a b : List Nat} {i : Nat} (h : i < a.length) : tAt (a ++ b) i = tAt a i := by unfold tAt; simp [List.getD, List.getElem?_append_left h]
theorem tAt_r {a b : List Nat} (i : Nat) : tAt (a ++ b) (a.length + i) = tAt b i := by unfold tAt; simp [List.getD, List.getElem?_append_right]
theorem tAt_r0 {a : List Nat} {x : Nat} (b : List Nat) : tAt (a ++ x :: b) a.length = x := by simp [tAt]
theorem tAt_ge {a : List Nat} {i : Nat} (h : a.length ≤ i) : tAt a i = 32 := by unfold tAt; simp [List.getD, List.getElem?_eq_none h]
theorem tAt_n {a : List Nat} {i : Nat} (h : tAt a i ≠ 32) : i < a.length := Nat.lt_of_not_le fun q => h (tAt_ge q)
theorem nm_one {L : List Nat} {x : Nat} (h : Nm L) (hx : x ≠ 32) : Nm (L ++ [x]) := by
  have hl : (L ++ [x]).length = L.length + 1 := by simp
  refine ⟨⟨fun _ => ?_, fun i hi hb => ?_⟩, fun _ => ?_⟩
  · by_cases h0 : 0 < L.length
    · rw [tAt_l h0]; exact h.1.1 h0
    · have : L = [] := List.eq_nil_of_length_eq_zero (by omega)
      subst this; exact hx
  · rw [hl] at hi
    rw [tAt_l (by omega)] at hb
    by_cases h1 : i + 1 < L.length
    · rw [tAt_l h1]; exact h.1.2 i h1 hb
    · have e : i = L.length - 1 := by omega
      exact absurd hb (e ▸ h.2 (by omega))
  · rw [hl, Nat.add_sub_cancel, tAt_r0]; exact hx
theorem nm_two {L : List Nat} {x : Nat} (h : Nm L) (h0 : 0 < L.length) (hx : x ≠ 32) : Nm (L ++ [32, x]) := by
  have hl : (L ++ [32, x]).length = L.length + 2 := by simp
  have hz : tAt (L ++ [32, x]) (L.length + 1) = x := by rw [tAt_r]; rfl
  refine ⟨⟨fun _ => ?_, fun i hi hb => ?_⟩, fun _ => ?_⟩
  · rw [tAt_l h0]; exact h.1.1 h0
  · rw [hl] at hi
    by_cases h2 : i = L.length
    · subst h2; rw [hz]; exact hx
    rw [tAt_l (by omega)] at hb
    by_cases h1 : i + 1 < L.length
    · rw [tAt_l h1]; exact h.1.2 i h1 hb
    · have e : i = L.length - 1 := by omega
      exact absurd hb (e ▸ h.2 h0)
  · rw [hl, show L.length + 2 - 1 = L.length + 1 from rfl, hz]; exact hx
theorem mLet_b {c : Nat} (h : mLet c ≠ 0) : mLet c ≠ 32 := by
  unfold mLet at h ⊢
  split
  · omega
  · split
    · omega
    · omega
theorem nfS_nm (c : Nat → Nat) : ∀ i, Nm (nfS c i).1
  | 0 => ⟨⟨fun h => absurd h (by simp [nfS]), fun i h => absurd h (by simp [nfS])⟩, fun h => absurd h (by simp [nfS])⟩
  | i + 1 => by
    have ih := nfS_nm c i
    simp only [nfS]
    by_cases h : mLet (c i) = 0
    · rw [if_pos h]; exact ih
    · rw [if_neg h]
      by_cases h2 : (nfS c i).2 = true ∧ 0 < (nfS c i).1.length
      · rw [if_pos h2]; exact nm_two ih h2.2 (mLet_b h)
      · rw [if_neg h2]; exact nm_one ih (mLet_b h)
theorem nfS_cg {c d : Nat → Nat} : ∀ {m : Nat}, (∀ i, i < m → c i = d i) → nfS c m = nfS d m
  | 0, _ => rfl
  | m + 1, h => by simp only [nfS]; rw [nfS_cg fun i hi => h i (by omega), h m (by omega)]
theorem cEw_t {f : Nat → Nat} {n : Nat} {L : List Nat} (h : TxR f n L) (i : Nat) : cEw f n i = decide (tAt L i = 32) := by
  unfold cEw
  by_cases q : n ≤ i
  · rw [tAt_ge (by rw [← h.1]; exact q)]; simp [q]
  · rw [h.2 i (by omega)]; simp [q]
theorem lSwF_e {La Lb : List Nat} {i j u k : Nat} : lSwF La i Lb j (u + 1) k = if tAt La (i + k) = tAt Lb (j + k) ∧ tAt La (i + k) ≠ 32 then lSwF La i Lb j u (k + 1) else decide (tAt La (i + k) = tAt Lb (j + k)) := rfl
theorem cSwF_t {f : Nat → Nat} {n : Nat} {La : List Nat} {g : Nat → Nat} {n2 : Nat} {Lb : List Nat} (hf : TxR f n La) (hg : TxR g n2 Lb) (hn : n ≤ 12) (hn2 : n2 ≤ 12) (i j : Nat) : ∀ u k, u + k = 12 → cSwF f n g n2 i j u k = lSwF La i Lb j (u + 1) k
  | 0, k, h => by
    have a : tAt La (i + k) = 32 := tAt_ge (by rw [← hf.1]; omega)
    have b : tAt Lb (j + k) = 32 := tAt_ge (by rw [← hg.1]; omega)
    rw [lSwF_e, a, b]; simp [cSwF]
  | u + 1, k, h => by
    rw [lSwF_e]
    simp only [cSwF]
    rw [cEw_t hf, cEw_t hg, cSwF_t hf hg hn hn2 i j u (k + 1) (by omega)]
    by_cases a : tAt La (i + k) = 32
    · by_cases b : tAt Lb (j + k) = 32
      · simp [a, b]
      · have b' : ¬ 32 = tAt Lb (j + k) := fun q => b q.symm
        simp [a, b, b']
    · by_cases b : tAt Lb (j + k) = 32
      · simp [a, b]
      · have ha := tAt_n a
        have hb := tAt_n b
        rw [hf.2 _ (by rw [hf.1]; exact ha), hg.2 _ (by rw [hg.1]; exact hb)]
        by_cases e : tAt La (i + k) = tAt Lb (j + k)
        · simp [b, e]
        · simp [a, b, e]
theorem cSw_t {f : Nat → Nat} {n : Nat} {La : List Nat} {g : Nat → Nat} {n2 : Nat} {Lb : List Nat} (hf : TxR f n La) (hg : TxR g n2 Lb) (hn : n ≤ 12) (hn2 : n2 ≤ 12) (i j : Nat) : cSw f n g n2 i j = lSw La i Lb j := cSwF_t hf hg hn hn2 i j 12 0 rfl
theorem lSwF_sy (La : List Nat) (i : Nat) (Lb : List Nat) (j : Nat) : ∀ u k, lSwF La i Lb j u k = lSwF Lb j La i u k
  | 0, _ => rfl
  | u + 1, k => by
    rw [lSwF_e, lSwF_e, lSwF_sy La i Lb j u (k + 1)]
    by_cases e : tAt La (i + k) = tAt Lb (j + k)
    · simp [e]
    · have e' : ¬ tAt Lb (j + k) = tAt La (i + k) := fun q => e q.symm
      simp [e, e']
theorem lSw_sy (La : List Nat) (i : Nat) (Lb : List Nat) (j : Nat) : lSw La i Lb j = lSw Lb j La i := lSwF_sy La i Lb j 13 0
theorem cBw_t {f : Nat → Nat} {n : Nat} {L : List Nat} (h : TxR f n L) (hm : Nm L) {i : Nat} (hi : i < n) : cBw f i = lBg L i := by
  unfold cBw lBg
  by_cases h0 : i = 0
  · subst h0
    have := hm.1.1 (by rw [← h.1]; exact hi)
    simp [this]
  · rw [h.2 (i - 1) (by omega)]
    by_cases hb : tAt L (i - 1) = 32
    · have := hm.1.2 (i - 1) (by rw [← h.1]; omega) hb
      rw [Nat.sub_add_cancel (by omega)] at this
      simp [hb, this]
    · simp [hb, h0]
theorem cHw_t {f : Nat → Nat} {n : Nat} {La : List Nat} {g : Nat → Nat} {n2 : Nat} {Lb : List Nat} (hf : TxR f n La) (hg : TxR g n2 Lb) (hm : Nm La) (hn : n ≤ 12) (hn2 : n2 ≤ 12) (j : Nat) {e : Nat} (he : e ≤ n) : cHw f n g n2 j e = lSt Lb j La e := by
  unfold cHw lSt
  refine zany_congr fun i hi => ?_
  rw [cBw_t hf hm (by omega), cSw_t hf hg hn hn2, lSw_sy]
theorem cWs_t {f : Nat → Nat} {n : Nat} {La : List Nat} (hf : TxR f n La) (hm : Nm La) (hn : n ≤ 12) : cWs f n n = lIn La La false := by
  unfold cWs lIn
  rw [← hf.1]
  refine zcnt_congr fun i hi => ?_
  rw [cBw_t hf hm hi, cHw_t hf hf hm hn hn i (by omega)]
  simp
theorem cSh_t {f : Nat → Nat} {n : Nat} {La : List Nat} {g : Nat → Nat} {n2 : Nat} {Lb : List Nat} (hf : TxR f n La) (hg : TxR g n2 Lb) (hm : Nm La) (hm2 : Nm Lb) (hn : n ≤ 12) (hn2 : n2 ≤ 12) : cSh f n g n2 n = lIn La Lb true := by
  unfold cSh lIn
  rw [← hf.1, ← hg.1]
  refine zcnt_congr fun i hi => ?_
  rw [cBw_t hf hm hi, cHw_t hf hf hm hn hn i (by omega), cHw_t hg hf hm2 hn2 hn i (Nat.le_refl _)]
  simp
theorem dst_cg {x x2 y y2 : Nat → Nat} : ∀ i j, (∀ a, a < i → x a = x2 a) → (∀ b, b < j → y b = y2 b) → dst x y i j = dst x2 y2 i j
  | 0, j, _, _ => by rw [dst_0, dst_0]
  | i + 1, 0, _, _ => by rw [dst_s0, dst_s0]
  | i + 1, j + 1, hx, hy => by
    rw [dst_ss, dst_ss, dst_cg i j (fun a ha => hx a (by omega)) (fun b hb => hy b (by omega)), dst_cg i (j + 1) (fun a ha => hx a (by omega)) hy, dst_cg (i + 1) j hx (fun b hb => hy b (by omega)), hx i (by omega), hy j (by omega)]
termination_by i j => (i, j)
theorem dst_t {f : Nat → Nat} {n : Nat} {La : List Nat} {g : Nat → Nat} {n2 : Nat} {Lb : List Nat} (hf : TxR f n La) (hg : TxR g n2 Lb) : dst f g n n2 = lEd La Lb := by
  unfold lEd
  rw [← hf.1, ← hg.1]
  exact dst_cg n n2 hf.2 hg.2
theorem leaf_t {f : Nat → Nat} {n : Nat} {La : List Nat} {g : Nat → Nat} {n2 : Nat} {Lb : List Nat} (hf : TxR f n La) (hg : TxR g n2 Lb) (hm : Nm La) (hm2 : Nm Lb) (hn : n ≤ 12) (hn2 : n2 ≤ 12) (kd nu de : Nat) : (if kd = 1 then decide (dst f g n n2 ≤ de) else cJa nu de f n g n2) = leafV kd nu de La Lb := by
  unfold leafV cJa
  rw [dst_t hf hg, cWs_t hf hm hn, cWs_t hg hm2 hn2, cSh_t hf hg hm hm2 hn hn2]
theorem nI_sub {a b : Nat} (ha : a < 65536) (hb : b < 65536) : (nI a - nI b).toInt = (a : Int) - b := by
  rw [Int32.toInt_sub, nI_toInt (by omega), nI_toInt (by omega)]
  exact Int.bmod_eq_of_le (by omega) (by omega)
theorem nI_sub0 {a b : Nat} (ha : a < 65536) (hb : b < 65536) : nI a - nI b = 0 ↔ a = b := by
  rw [← Int32.toInt_inj, nI_sub ha hb, show (0 : Int32).toInt = 0 from rfl]
  omega
theorem nI_subL {a b : Nat} (ha : a < 65536) (hb : b < 65536) : nI a - nI b < 0 ↔ a < b := by
  rw [Int32.lt_iff_toInt_lt, nI_sub ha hb, show (0 : Int32).toInt = 0 from rfl]
  omega
theorem lCmpF_e {La Lb : List Nat} : ∀ v i, La.length ≤ i → Lb.length ≤ i → lCmpF La Lb v i = 0
  | 0, _, _, _ => rfl
  | v + 1, i, ha, hb => by
    simp only [lCmpF]
    have a : cI La i = cI Lb i := by unfold cI; rw [if_neg (by omega), if_neg (by omega)]
    rw [if_pos a]
    exact lCmpF_e v (i + 1) (by omega) (by omega)
theorem cI_lt {L : List Nat} {i : Nat} (h : i < L.length) : cI L i = nI (tAt L i) := if_pos h
theorem cI_ge {L : List Nat} {i : Nat} (h : L.length ≤ i) : cI L i = -1 := if_neg (by omega)
theorem nI_m1 {a : Nat} (ha : a < 65536) : (-1 : Int32) < nI a := by
  rw [Int32.lt_iff_toInt_lt, nI_toInt (by omega), show (-1 : Int32).toInt = -1 from rfl]
  omega
theorem cCmpF_t {f : Nat → Nat} {n : Nat} {La : List Nat} {g : Nat → Nat} {n2 : Nat} {Lb : List Nat} (hf : TxR f n La) (hg : TxR g n2 Lb) (hn : n ≤ 12) (hn2 : n2 ≤ 12) (hfb : ∀ j, j < 12 → f j < 65536) (hgb : ∀ j, j < 12 → g j < 65536) : ∀ u i v, u + i = min n n2 → v + i = 12 → ((cCmpF f n g n2 u i = 0 ↔ lCmpF La Lb v i = 0) ∧ (cCmpF f n g n2 u i < 0 ↔ lCmpF La Lb v i < 0))
  | 0, i, v, hu, hv => by
    simp only [cCmpF]
    rw [nI_sub0 (by omega) (by omega), nI_subL (by omega) (by omega)]
    by_cases e : n = n2
    · rw [lCmpF_e v i (by rw [← hf.1]; omega) (by rw [← hg.1]; omega)]
      subst e
      refine ⟨⟨fun _ => rfl, fun _ => rfl⟩, ⟨fun h => by omega, fun h => absurd h (by decide)⟩⟩
    · obtain ⟨v2, rfl⟩ : ∃ z, v = z + 1 := ⟨v - 1, by omega⟩
      simp only [lCmpF]
      by_cases q : n < n2
      · have hb : g i < 65536 := hgb i (by omega)
        rw [cI_ge (show La.length ≤ i by rw [← hf.1]; omega), cI_lt (show i < Lb.length by rw [← hg.1]; omega), ← hg.2 i (by omega)]
        have := nI_m1 hb
        rw [if_neg (fun e => by rw [e] at this; exact Int32.lt_irrefl this), if_pos this]
        refine ⟨⟨fun h => by omega, fun h => absurd h (by decide)⟩, ⟨fun _ => by decide, fun _ => q⟩⟩
      · have hb : f i < 65536 := hfb i (by omega)
        rw [cI_ge (show Lb.length ≤ i by rw [← hg.1]; omega), cI_lt (show i < La.length by rw [← hf.1]; omega), ← hf.2 i (by omega)]
        have := nI_m1 hb
        rw [if_neg (fun e => by rw [e] at this; exact Int32.lt_irrefl this), if_neg (fun e => Int32.lt_irrefl (Int32.lt_trans this e))]
        refine ⟨⟨fun h => by omega, fun h => absurd h (by decide)⟩, ⟨fun h => by omega, fun h => absurd h (by decide)⟩⟩
  | u + 1, i, v, hu, hv => by
    obtain ⟨v2, rfl⟩ : ∃ z, v = z + 1 := ⟨v - 1, by omega⟩
    simp only [cCmpF, lCmpF]
    have ha : f i < 65536 := hfb i (by omega)
    have hb : g i < 65536 := hgb i (by omega)
    rw [cI_lt (show i < La.length by rw [← hf.1]; omega), cI_lt (show i < Lb.length by rw [← hg.1]; omega), ← hf.2 i (by omega), ← hg.2 i (by omega)]
    by_cases e : f i = g i
    · rw [if_pos e, if_pos (by rw [e])]
      exact cCmpF_t hf hg hn hn2 hfb hgb u (i + 1) v2 (by omega) (by omega)
    · rw [if_neg e, if_neg (fun q => e ((nI_eq (by omega) (by omega)).mp q)), nI_sub0 ha hb, nI_subL ha hb]
      by_cases q : f i < g i
      · rw [if_pos ((nI_ltI (by omega) (by omega)).mpr q)]
        exact ⟨⟨fun h => absurd h e, fun h => absurd h (by decide)⟩, ⟨fun _ => by decide, fun _ => q⟩⟩
      · rw [if_neg (fun z => q ((nI_ltI (by omega) (by omega)).mp z))]
        exact ⟨⟨fun h => absurd h e, fun h => absurd h (by decide)⟩, ⟨fun h => absurd h q, fun h => absurd h (by decide)⟩⟩
theorem cCmp_t {f : Nat → Nat} {n : Nat} {La : List Nat} {g : Nat → Nat} {n2 : Nat} {Lb : List Nat} (hf : TxR f n La) (hg : TxR g n2 Lb) (hn : n ≤ 12) (hn2 : n2 ≤ 12) (hfb : ∀ j, j < 12 → f j < 65536) (hgb : ∀ j, j < 12 → g j < 65536) : (decide (cCmp f n g n2 = 0) = decide (lCmp La Lb = 0)) ∧ (decide (cCmp f n g n2 < 0) = decide (lCmp La Lb < 0)) := by
  have := cCmpF_t hf hg hn hn2 hfb hgb (min n n2) 0 12 rfl rfl
  exact ⟨decide_eq_decide.mpr this.1, decide_eq_decide.mpr this.2⟩
/-- a character more -/
theorem cTk_t {f : Nat → Nat} {n : Nat} {iw : Bool} {c : Nat → Nat} {m : Nat} (h : TxR f n (nfS c m).1) (hi : 0 < n → iw = !(nfS c m).2) : TxR (cTk f n iw (c m)).1 (cTk f n iw (c m)).2 (nfS c (m + 1)).1 := by
  simp only [nfS]
  unfold cTk
  by_cases h0 : mLet (c m) = 0
  · rw [if_pos h0, if_pos h0]; exact h
  · rw [if_neg h0, if_neg h0]
    have hl := h.1
    by_cases h1 : (nfS c m).2 = true ∧ 0 < (nfS c m).1.length
    · rw [if_pos h1, if_pos ⟨by rw [hi (by omega), h1.1]; rfl, by omega⟩]
      refine ⟨by simp [hl], fun j hj => ?_⟩
      have hj : j < n + 1 + 1 := hj
      show va_up (va_up f n 32) (n + 1) (mLet (c m)) j = _
      by_cases e1 : j = n + 1
      · subst e1; rw [va_up_self, hl, tAt_r]; rfl
      rw [va_up_ne _ _ e1]
      by_cases e2 : j = n
      · subst e2; rw [va_up_self, hl, tAt_r0]
      rw [va_up_ne _ _ e2, h.2 j (by omega), tAt_l (by omega)]
    · rw [if_neg h1, if_neg (fun q => h1 ⟨by have := hi q.2; rw [q.1] at this; simpa using this.symm, by omega⟩)]
      refine ⟨by simp [hl], fun j hj => ?_⟩
      have hj : j < n + 1 := hj
      show va_up f n (mLet (c m)) j = _
      by_cases e2 : j = n
      · subst e2; rw [va_up_self, hl, tAt_r0]
      rw [va_up_ne _ _ e2, h.2 j (by omega), tAt_l (by omega)]
theorem nfS_flag (c : Nat → Nat) (m : Nat) : decide (mLet (c m) ≠ 0) = !(nfS c (m + 1)).2 := by
  simp only [nfS]
  by_cases h0 : mLet (c m) = 0
  · rw [if_pos h0]; simp [h0]
  · rw [if_neg h0]; split <;> simp [h0]
theorem cTk_b {f : Nat → Nat} {n : Nat} {iw : Bool} {c0 : Nat} (hc : c0 < 256) (hf : ∀ j, j < 12 → f j < 65536) : ∀ j, j < 12 → (cTk f n iw c0).1 j < 65536 := by
  have hl : mLet c0 < 65536 := by unfold mLet; split; · omega
                                  split <;> omega
  intro j hj
  unfold cTk
  split
  · exact hf j hj
  split
  · show va_up (va_up f n 32) (n + 1) (mLet c0) j < _
    unfold va_up
    split; · exact hl
    split; · omega
    exact hf j hj
  · show va_up f n (mLet c0) j < _
    unfold va_up
    split; · exact hl
    exact hf j hj
