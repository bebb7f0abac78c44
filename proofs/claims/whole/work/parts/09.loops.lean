/-! Loops of a walk; small functions over numbers. -/
section ZLo
variable {p : Program} {l : Launch} {e : Env} {R : Room} {s : State} {m : MethodId} {args : Array Value} {below : List Frame} {meth : Method} {c : Code} {H : Heap} {locs : List Loc} {cells slots : Nat} {Q : State → Prop} {pc : Nat} {st : List Value}
theorem zz_loopP {σ : Type} (I : σ → Array Slot → Prop) (μ : σ → Nat) (body : ∀ x, (∀ x' ls', I x' ls' → μ x' < μ x → W p l e R s m args below meth c H locs cells slots Q (F0 m pc ls' st)) → ∀ ls, I x ls → W p l e R s m args below meth c H locs cells slots Q (F0 m pc ls st)) : ∀ x ls, I x ls → W p l e R s m args below meth c H locs cells slots Q (F0 m pc ls st) := by
  have key : ∀ n x, μ x < n → ∀ ls, I x ls → W p l e R s m args below meth c H locs cells slots Q (F0 m pc ls st) := by
    intro n
    induction n with
    | zero => intro x h; exact absurd h (Nat.not_lt_zero _)
    | succ n ih => intro x hx ls hI; exact body x (fun x' ls' h' hlt => ih x' (by omega) ls' h') ls hI
  exact fun x ls h => key (μ x + 1) x (Nat.lt_succ_self _) ls h
theorem zz_loopH {σ : Type} (I : σ → Array Slot → Heap → List Loc → Prop) (μ : σ → Nat) (body : ∀ x, (∀ x' ls' H' locs', I x' ls' H' locs' → μ x' < μ x → W p l e R s m args below meth c H' locs' cells slots Q (F0 m pc ls' st)) → ∀ ls H locs, I x ls H locs → W p l e R s m args below meth c H locs cells slots Q (F0 m pc ls st)) : ∀ x ls H locs, I x ls H locs → W p l e R s m args below meth c H locs cells slots Q (F0 m pc ls st) := by
  have key : ∀ n x, μ x < n → ∀ ls H locs, I x ls H locs → W p l e R s m args below meth c H locs cells slots Q (F0 m pc ls st) := by
    intro n
    induction n with
    | zero => intro x h; exact absurd h (Nat.not_lt_zero _)
    | succ n ih => intro x hx ls H locs hI; exact body x (fun x' ls' H' locs' h' hlt => ih x' (by omega) ls' H' locs' h') ls H locs hI
  exact fun x ls H locs h => key (μ x + 1) x (Nat.lt_succ_self _) ls H locs h
end ZLo
/-- how many below n -/
def zcnt (P : Nat → Bool) : Nat → Nat
  | 0 => 0
  | n + 1 => zcnt P n + (P n).toNat
/-- one below n -/
def zany (P : Nat → Bool) : Nat → Bool
  | 0 => false
  | n + 1 => zany P n || P n
theorem zcnt_le (P : Nat → Bool) : ∀ n, zcnt P n ≤ n
  | 0 => Nat.le_refl _
  | n + 1 => by
    have h := zcnt_le P n
    have h2 : (P n).toNat ≤ 1 := by cases P n <;> decide
    simp only [zcnt]
    omega
theorem zcnt_congr {P Q : Nat → Bool} : ∀ {n : Nat}, (∀ i, i < n → P i = Q i) → zcnt P n = zcnt Q n
  | 0, _ => rfl
  | n + 1, h => by simp only [zcnt]; rw [zcnt_congr (fun i hi => h i (by omega)), h n (by omega)]
theorem zany_congr {P Q : Nat → Bool} : ∀ {n : Nat}, (∀ i, i < n → P i = Q i) → zany P n = zany Q n
  | 0, _ => rfl
  | n + 1, h => by simp only [zany]; rw [zany_congr (fun i hi => h i (by omega)), h n (by omega)]
theorem zany_iff {P : Nat → Bool} : ∀ {n : Nat}, zany P n = true ↔ ∃ i, i < n ∧ P i = true
  | 0 => by simp [zany]
  | n + 1 => by
    simp only [zany, Bool.or_eq_true, zany_iff]
    constructor
    · rintro (⟨i, h1, h2⟩ | h)
      · exact ⟨i, by omega, h2⟩
      · exact ⟨n, by omega, h⟩
    · rintro ⟨i, h1, h2⟩
      by_cases hi : i = n
      · exact Or.inr (hi ▸ h2)
      · exact Or.inl ⟨i, by omega, h2⟩
def zisR (n : Nat) (x : Int32) : Bool := !(decide (x < 0)) && !(decide (nI n ≤ x))
def zisF (x : Int32) : Bool := decide (x = 0) || decide (x = 1)
/-! The reference's texts -/
def mLet (c : Nat) : Nat := if (48 ≤ c ∧ c ≤ 57) ∨ (97 ≤ c ∧ c ≤ 122) then c else if 65 ≤ c ∧ c ≤ 90 then c + 32 else 0
def mAt (A : Nat → Nat → Nat) (w i : Nat) : Nat := if i < A 4 w then A 3 (12 * w + i) else 32
def mBg (A : Nat → Nat → Nat) (w i : Nat) : Bool := decide (mAt A w i ≠ 32) && (decide (i = 0) || decide (mAt A w (i - 1) = 32))
def mSwF (A : Nat → Nat → Nat) (a i b j : Nat) : Nat → Nat → Bool
  | 0, _ => true
  | f + 1, k => if mAt A a (i + k) = mAt A b (j + k) ∧ mAt A a (i + k) ≠ 32 then mSwF A a i b j f (k + 1) else decide (mAt A a (i + k) = mAt A b (j + k))
def mSw (A : Nat → Nat → Nat) (a i b j : Nat) : Bool := mSwF A a i b j 13 0
def mSt (A : Nat → Nat → Nat) (a i b : Nat) : Nat → Bool := zany (fun j => mBg A b j && mSw A a i b j)
def mIn (A : Nat → Nat → Nat) (a b : Nat) (both : Bool) : Nat → Nat := zcnt (fun i => mBg A a i && !(mSt A a i a i) && (!both || mSt A a i b (A 4 b)))
