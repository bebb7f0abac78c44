/-! Texts as lists: what words and steps are, and that the reference's buffers say the same. -/
def tAt (L : List Nat) (i : Nat) : Nat := L.getD i 32
def lBg (L : List Nat) (i : Nat) : Bool := decide (tAt L i ≠ 32) && (decide (i = 0) || decide (tAt L (i - 1) = 32))
def lSwF (La : List Nat) (i : Nat) (Lb : List Nat) (j : Nat) : Nat → Nat → Bool
  | 0, _ => true
  | f + 1, k => if tAt La (i + k) = tAt Lb (j + k) ∧ tAt La (i + k) ≠ 32 then lSwF La i Lb j f (k + 1) else decide (tAt La (i + k) = tAt Lb (j + k))
def lSw (La : List Nat) (i : Nat) (Lb : List Nat) (j : Nat) : Bool := lSwF La i Lb j 13 0
def lSt (La : List Nat) (i : Nat) (Lb : List Nat) : Nat → Bool := zany (fun j => lBg Lb j && lSw La i Lb j)
def lIn (La Lb : List Nat) (both : Bool) : Nat := zcnt (fun i => lBg La i && !(lSt La i La i) && (!both || lSt La i Lb Lb.length)) La.length
def lEd (La Lb : List Nat) : Nat := dst (tAt La) (tAt Lb) La.length Lb.length
/-- whether a comparison holds of two texts -/
def leafV (kd nu de : Nat) (La Lb : List Nat) : Bool := if kd = 1 then decide (lEd La Lb ≤ de) else decide (0 < lIn La La false + lIn Lb Lb false - lIn La Lb true) && decide (nu * (lIn La La false + lIn Lb Lb false - lIn La Lb true) ≤ lIn La Lb true * de)
theorem mSwF_eq {A : Nat → Nat → Nat} {a b i j : Nat} {La Lb : List Nat} (ha : mAt A a = tAt La) (hb : mAt A b = tAt Lb) : ∀ f k, mSwF A a i b j f k = lSwF La i Lb j f k
  | 0, k => rfl
  | f + 1, k => by
    simp only [mSwF, lSwF]
    rw [ha, hb, mSwF_eq ha hb f (k + 1)]
theorem mSt_eq {A : Nat → Nat → Nat} {a b i : Nat} {La Lb : List Nat} (ha : mAt A a = tAt La) (hb : mAt A b = tAt Lb) (n : Nat) : mSt A a i b n = lSt La i Lb n := by
  refine zany_congr fun j _ => ?_
  simp only [mBg, mSw, lBg, lSw]
  rw [mSwF_eq ha hb, hb]
theorem mIn_eq {A : Nat → Nat → Nat} {a b : Nat} {La Lb : List Nat} {both : Bool} (ha : mAt A a = tAt La) (hb : mAt A b = tAt Lb) (h4a : A 4 a = La.length) (h4b : A 4 b = Lb.length) : mIn A a b both (A 4 a) = lIn La Lb both := by
  rw [h4a]
  refine zcnt_congr fun i _ => ?_
  rw [mSt_eq ha ha, mSt_eq ha hb, h4b]
  simp only [mBg, lBg]
  rw [ha]
theorem zcnt_mono {P Q : Nat → Bool} : ∀ {n : Nat}, (∀ i, i < n → P i = true → Q i = true) → zcnt P n ≤ zcnt Q n
  | 0, _ => Nat.le_refl _
  | n + 1, h => by
    have h1 := zcnt_mono (n := n) (fun i hi => h i (by omega))
    have h2 := h n (by omega)
    simp only [zcnt]
    cases hp : P n
    · simp; omega
    · rw [h2 hp]; simp; omega
theorem mIn_mono (A : Nat → Nat → Nat) (a b b2 n : Nat) : mIn A a b true n ≤ mIn A a b2 false n := zcnt_mono fun i _ h => by
  simp only [Bool.and_eq_true] at h
  simp [h.1.1, h.1.2]
/-- the normal text of a record's field, and of the draft's (record 12) -/
def mTx (A : Nat → Nat → Nat) (rr f : Nat) : List Nat := (nfS (fun i => A 1 (12 * (2 * rr + f) + i)) (A 2 (2 * rr + f))).1
/-- the bounds of what the arrays hold -/
def mOk (A : Nat → Nat → Nat) : Prop := (∀ j, j < 312 → A 1 j < 256) ∧ (∀ j, j < 26 → A 2 j ≤ 12) ∧ (∀ j, j < 24 → A 3 j < 256) ∧ (∀ j, j < 2 → A 4 j ≤ 12) ∧ (∀ j, j < 24 → A 15 j ≤ 1)
/-- only the scratch arrays are other -/
def mS (A B : Nat → Nat → Nat) : Prop := mOk B ∧ ∀ k, k ≠ 3 → k ≠ 4 → k ≠ 5 → k ≠ 15 → B k = A k
theorem mS.rf {A : Nat → Nat → Nat} (h : mOk A) : mS A A := ⟨h, fun _ _ _ _ _ => rfl⟩
theorem mS.tr {A B C : Nat → Nat → Nat} (h1 : mS A B) (h2 : mS B C) : mS A C := ⟨h2.1, fun k a b c d => (h2.2 k a b c d).trans (h1.2 k a b c d)⟩
theorem mS.tx {A B : Nat → Nat → Nat} (h : mS A B) (rr f : Nat) : mTx B rr f = mTx A rr f := by
  unfold mTx
  rw [h.2 1 (by decide) (by decide) (by decide) (by decide), h.2 2 (by decide) (by decide) (by decide) (by decide)]
theorem nfS_lt {c : Nat → Nat} : ∀ {i : Nat}, (∀ j, j < i → c j < 256) → ∀ x ∈ (nfS c i).1, x < 256
  | 0, _, x, hx => by simp [nfS] at hx
  | i + 1, h, x, hx => by
    have ih := nfS_lt (c := c) (i := i) (fun j hj => h j (by omega))
    have h1 := mLet_lt (h i (by omega))
    simp only [nfS] at hx
    split at hx
    · exact ih x hx
    · split at hx
      · simp at hx
        rcases hx with hx | hx | hx
        · exact ih x hx
        · omega
        · omega
      · simp at hx
        rcases hx with hx | hx
        · exact ih x hx
        · omega
theorem nfS_le (c : Nat → Nat) (i : Nat) : (nfS c i).1.length ≤ i := by
  have h := nfS_len c i
  omega
theorem mTx_lt {A : Nat → Nat → Nat} {rr f : Nat} (h : mOk A) (hr : rr ≤ 12) (hf : f ≤ 1) : (mTx A rr f).length ≤ 12 ∧ ∀ x ∈ mTx A rr f, x < 256 := by
  have h2 := h.2.1 (2 * rr + f) (by omega)
  refine ⟨Nat.le_trans (nfS_le _ _) h2, nfS_lt fun j hj => h.1 _ (by omega)⟩
theorem mLook_ok {A B : Nat → Nat → Nat} {q rr f : Nat} (h : mOk A) (hq : q ≤ 1) (hr : rr ≤ 12) (hf : f ≤ 1) (hB : mLook A B q (mTx A rr f)) : mS A B ∧ mAt B q = tAt (mTx A rr f) ∧ B 4 q = (mTx A rr f).length ∧ ∀ q2, q2 ≤ 1 → q2 ≠ q → mAt B q2 = mAt A q2 ∧ B 4 q2 = A 4 q2 := by
  obtain ⟨hl, hx⟩ := mTx_lt h hr hf
  generalize mTx A rr f = L at hB hl hx ⊢
  obtain ⟨b1, b2, b3, b4, b5⟩ := hB
  have e1 := b1 1 (by decide) (by decide)
  have e2 := b1 2 (by decide) (by decide)
  have e15 := b1 15 (by decide) (by decide)
  refine ⟨⟨⟨?_, ?_, ?_, ?_, ?_⟩, fun k k3 k4 _ _ => b1 k k3 k4⟩, ?_, b2, fun q2 hq2 hne => ⟨?_, b3 q2 hne⟩⟩
  · rw [e1]; exact h.1
  · rw [e2]; exact h.2.1
  · intro j hj
    by_cases hin : 12 * q ≤ j ∧ j < 12 * q + 12
    · by_cases hjl : j - 12 * q < L.length
      · have e := b4 (j - 12 * q) hjl
        rw [show 12 * q + (j - 12 * q) = j by omega] at e
        rw [e, List.getD_eq_getElem?_getD, List.getElem?_eq_getElem hjl]
        exact hx _ (List.getElem_mem hjl)
      · rw [b5 j (by omega)]; exact h.2.2.1 j hj
    · rw [b5 j (by omega)]; exact h.2.2.1 j hj
  · intro j hj
    by_cases hjq : j = q
    · subst hjq; rw [b2]; exact hl
    · rw [b3 j hjq]; exact h.2.2.2.1 j hj
  · rw [e15]; exact h.2.2.2.2
  · funext i
    unfold mAt tAt
    rw [b2]
    by_cases hi : i < L.length
    · rw [if_pos hi, b4 i hi, List.getD_eq_getElem?_getD, List.getD_eq_getElem?_getD, List.getElem?_eq_getElem hi]
      rfl
    · rw [if_neg hi, List.getD_eq_getElem?_getD, List.getElem?_eq_none (by omega)]
      rfl
  · funext i
    have h4 := h.2.2.2.1 q2 (by omega)
    unfold mAt
    rw [b3 q2 hne]
    by_cases hi : i < A 4 q2
    · rw [if_pos hi, if_pos hi, b5 _ (by omega)]
    · rw [if_neg hi, if_neg hi]
/-! The little machine of marks: a stack of truth values, the top first. -/
def smS (kd : Nat → Nat) (lf : Nat → Bool) (op : Nat → Bool → Bool → Bool) : Nat → List Bool
  | 0 => []
  | k + 1 => if kd k < 2 then lf k :: smS kd lf op k else match smS kd lf op k with
    | b :: a :: T => op (kd k) a b :: T
    | T => T
/-- how high the stack is -/
def smD (kd : Nat → Nat) : Nat → Nat
  | 0 => 0
  | k + 1 => if kd k < 2 then smD kd k + 1 else smD kd k - 1
/-- the marks below m are of an expression, or of a beginning of one: no value is wanting, and there are at most twelve at once -/
def smW (kd : Nat → Nat) (m : Nat) : Prop := ∀ k, k < m → kd k < 4 ∧ (2 ≤ kd k → 2 ≤ smD kd k) ∧ smD kd (k + 1) ≤ 12
theorem smS_len {kd : Nat → Nat} {lf : Nat → Bool} {op : Nat → Bool → Bool → Bool} {m : Nat} (hw : smW kd m) : ∀ k, k ≤ m → (smS kd lf op k).length = smD kd k
  | 0, _ => rfl
  | k + 1, h => by
    have ih := smS_len (lf := lf) (op := op) hw k (by omega)
    obtain ⟨-, h2, -⟩ := hw k (by omega)
    simp only [smS, smD]
    by_cases hk : kd k < 2
    · rw [if_pos hk, if_pos hk, List.length_cons, ih]
    · rw [if_neg hk, if_neg hk]
      have h3 := h2 (by omega)
      rw [← ih] at h3 ⊢
      match hS : smS kd lf op k, h3 with
      | b :: a :: T, _ => simp
theorem smS_leaf {kd : Nat → Nat} {lf : Nat → Bool} {op : Nat → Bool → Bool → Bool} {k : Nat} (h : kd k < 2) : smS kd lf op (k + 1) = lf k :: smS kd lf op k := by simp only [smS]; rw [if_pos h]
theorem smS_bin {kd : Nat → Nat} {lf : Nat → Bool} {op : Nat → Bool → Bool → Bool} {k : Nat} {a b : Bool} {T : List Bool} (h : ¬ kd k < 2) (hS : smS kd lf op k = b :: a :: T) : smS kd lf op (k + 1) = op (kd k) a b :: T := by simp only [smS]; rw [if_neg h, hS]
/-- the array holds the stack, the top last -/
def smR (g : Nat → Nat) (S : List Bool) : Prop := ∀ i, i < S.length → g i = (S.getD (S.length - 1 - i) false).toNat
theorem smR_0 (g : Nat → Nat) : smR g [] := fun i h => absurd h (Nat.not_lt_zero _)
theorem smR_push {B : Nat → Nat → Nat} {S : List Bool} {b : Bool} (h : smR (B 15) S) : smR (up2 B 15 S.length b.toNat 15) (b :: S) := by
  intro i hi
  simp only [List.length_cons] at hi ⊢
  by_cases h1 : i = S.length
  · subst h1
    rw [up2_s]
    simp
  · rw [up2_i h1, h i (by omega), show S.length + 1 - 1 - i = (S.length - 1 - i) + 1 by omega]
    simp
theorem smR_top {g : Nat → Nat} {S : List Bool} (h : smR g S) (h2 : 2 ≤ S.length) : ∃ a b T, S = b :: a :: T ∧ g (S.length - 1 - 1) = a.toNat ∧ g (S.length - 1) = b.toNat := by
  match S, h2 with
  | b :: a :: T, _ =>
    refine ⟨a, b, T, rfl, ?_, ?_⟩
    · rw [h _ (by simp only [List.length_cons]; omega)]; simp
    · rw [h _ (by simp only [List.length_cons]; omega)]; simp
theorem smR_bin {B : Nat → Nat → Nat} {a b v : Bool} {T : List Bool} (h : smR (B 15) (b :: a :: T)) : smR (up2 B 15 ((b :: a :: T).length - 1 - 1) v.toNat 15) (v :: T) := by
  intro i hi
  simp only [List.length_cons] at hi ⊢
  by_cases h1 : i = T.length
  · subst h1
    rw [show T.length + 1 + 1 - 1 - 1 = T.length by omega, up2_s]
    simp
  · rw [up2_i (by omega), h i (by simp; omega)]
    simp only [List.length_cons]
    rw [show T.length + 1 + 1 - 1 - i = (T.length - 1 - i) + 1 + 1 by omega, show T.length + 1 - 1 - i = (T.length - 1 - i) + 1 by omega]
    simp
def opH (kd : Nat) (a b : Bool) : Bool := if kd = 2 then a && b else a || b
def opD (kd : Nat) (a b : Bool) : Bool := if kd = 2 then a || b else a && b
