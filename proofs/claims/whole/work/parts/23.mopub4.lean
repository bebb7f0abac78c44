/-! Clusters: the least record that one can go to. -/
noncomputable def lbl (n : Nat) (F : Nat → Nat → Bool) (r : Nat) : Nat := Classical.epsilon (fun k => mCn n F k r ∧ ∀ j, j < k → ¬ mCn n F j r)
theorem mSp_lbl {n : Nat} {F : Nat → Nat → Bool} {L : Nat → Nat} (hs : ∀ a b, F a b = F b a) (h : mSp n F L) {r : Nat} (hr : r < n) : L r = lbl n F r := by
  have he : ∀ a b, a < n → b < n → F a b = true → L a = L b := fun a b ha hb hf => by
    have h1 := h.2 a b ha hb hf
    have h2 := h.2 b a hb ha (by rw [hs]; exact hf)
    omega
  have hleast : mCn n F (L r) r ∧ ∀ j, j < L r → ¬ mCn n F j r := by
    refine ⟨(h.1 r hr).2, fun j hj hc => ?_⟩
    have h1 := hc L he
    have h2 := (h.1 r hr).1
    have h3 := (h.1 j (by omega)).1
    omega
  have hx : ∃ k, mCn n F k r ∧ ∀ j, j < k → ¬ mCn n F j r := ⟨_, hleast⟩
  have h2 := Classical.epsilon_spec hx
  have h3 : ¬ L r < lbl n F r := fun q => h2.2 _ q hleast.1
  have h4 : ¬ lbl n F r < L r := fun q => hleast.2 _ q h2.1
  omega
theorem mFd_symm (A : Nat → Nat → Nat) (w rs a b : Nat) : mFd A w rs a b = mFd A w rs b a := by
  unfold mFd
  by_cases h : a = b
  · subst h; rfl
  · by_cases h2 : a < b
    · simp only [if_pos h2, if_neg (show ¬ b < a by omega)]
    · simp only [if_neg h2, if_pos (show b < a by omega)]
noncomputable def aCluster (n w : Nat) (dn : Bool) (fd : Nat → Nat → Bool) (x : Int32) : Int32 := if w = 0 then -4 else if zisR n x = false then -1 else if dn = false then -6 else nI (lbl n fd (cN x))
/-- the best of those behind s0, each taken if it is better than the one before -/
def zbest (q : Nat → Nat → Bool) (s0 : Nat) : Nat → Nat
  | 0 => s0
  | k + 1 => if q (s0 + 1 + k) (zbest q s0 k) = true then s0 + 1 + k else zbest q s0 k
theorem zbest_le (q : Nat → Nat → Bool) (s0 : Nat) : ∀ k, zbest q s0 k ≤ s0 + k
  | 0 => Nat.le_refl _
  | k + 1 => by
    have h := zbest_le q s0 k
    simp only [zbest]
    split <;> omega
theorem zbest_congr {q q2 : Nat → Nat → Bool} {s0 : Nat} : ∀ {k : Nat}, (∀ a b, a ≤ s0 + k → b ≤ s0 + k → q a b = q2 a b) → zbest q s0 k = zbest q2 s0 k
  | 0, _ => rfl
  | k + 1, h => by
    have ih := zbest_congr (q := q) (q2 := q2) (s0 := s0) (k := k) (fun a b ha hb => h a b (by omega) (by omega))
    have h2 := zbest_le q2 s0 k
    simp only [zbest]
    rw [ih, h _ _ (by omega) (by omega)]
def sSa (Lb : Nat → Nat) (tx : Nat → Nat → List Nat) (nm rr f : Nat) : Nat → Nat := zcnt (fun k => decide (Lb k = nm) && decide (lCmp (tx k f) (tx rr f) = 0))
def sBt (n : Nat) (Lb : Nat → Nat) (tx : Nat → Nat → List Nat) (kp nm rr b f : Nat) : Bool := if kp = 0 then decide ((tx b f).length < (tx rr f).length) else if (tx rr f).length = 0 ∨ (tx b f).length = 0 then decide ((tx b f).length = 0) && decide (0 < (tx rr f).length) else if kp = 2 then decide (lCmp (tx rr f) (tx b f) < 0) else decide (sSa Lb tx nm b f n < sSa Lb tx nm rr f n)
/-- the kept record of a cluster -/
def sKe (n : Nat) (Lb : Nat → Nat) (tx : Nat → Nat → List Nat) (kp nm f : Nat) : Nat := zbest (fun a b => decide (Lb a = nm) && sBt n Lb tx kp nm a b f) nm (n - 1 - nm)
noncomputable def aKept (n w : Nat) (dn : Bool) (fd : Nat → Nat → Bool) (tx : Nat → Nat → List Nat) (kp : Nat → Nat) (x y : Int32) : Int32 := if w = 0 then -4 else if ¬ (zisR n x = true ∧ zisF y = true) then -1 else if dn = false then -6 else nI (sKe n (lbl n fd) tx (kp (cN y)) (lbl n fd (cN x)) (cN y))
theorem sSa_congr {Lb Lc : Nat → Nat} {tx : Nat → Nat → List Nat} {nm rr f n : Nat} (h : ∀ k, k < n → Lb k = Lc k) : sSa Lb tx nm rr f n = sSa Lc tx nm rr f n := zcnt_congr fun k hk => by rw [h k hk]
theorem sBt_congr {n : Nat} {Lb Lc : Nat → Nat} {tx : Nat → Nat → List Nat} {kp nm rr b f : Nat} (h : ∀ k, k < n → Lb k = Lc k) : sBt n Lb tx kp nm rr b f = sBt n Lc tx kp nm rr b f := by
  unfold sBt
  rw [sSa_congr h, sSa_congr h]
theorem sKe_congr {n : Nat} {Lb Lc : Nat → Nat} {tx : Nat → Nat → List Nat} {kp nm f : Nat} (hnm : nm < n) (h : ∀ k, k < n → Lb k = Lc k) : sKe n Lb tx kp nm f = sKe n Lc tx kp nm f := zbest_congr fun a b ha hb => by rw [h a (by omega), sBt_congr h]
theorem mBt_s (A : Nat → Nat → Nat) (n nm rr b f : Nat) : mBt A n nm rr b f = sBt n (A 18) (mTx A) (A 17 f) nm rr b f := rfl
theorem mTxE {A B : Nat → Nat → Nat} (h : mS8 A B) : mTx B = mTx A := by funext a b; exact h.tx a b

set_option maxHeartbeats 4000000 in
set_option maxRecDepth 100000 in
theorem k_Mo_cluster (l : Launch) (D : va_G) (ca : Nat → ClassId) (r n t rs w : Nat) (A : Nat → Nat → Nat) (x : Int32) (hA : mAll A n rs w) : Met l y_Mo_cluster w_Mo_cluster (zr 8 0 0) (zz_P D ca [.ref r, .int x] (fun H => MoAt D ca H r n t rs w A)) (zz_Q (fun H H1 v => v = some (.int (aCluster n w (mDn A n w) (mFd A w rs) x)) ∧ zz_fr (moFr r) H H1 ∧ ∃ B, MoAt D ca H1 r n t rs w B ∧ mS8 A B)) 0 0 (moFr r) := by
  refine zz_met (cc := c_Mo_cluster) (by decide) (Nat.le_of_ble_eq_true rfl) ?_
  intro p e s m below meth c ls hE hr hlk hnm hM hl
  have hx := hE.1.1
  have hb := hE.1.2.1
  have hK := hE.2
  have hl : lv_has ls 2 [(0, .ref r), (1, .int x)] := hl
  have hL : zz_L (moFr r) ([] : List Loc) := zz_L.nil
  have hS : zz_fr (moFr r) s.heap s.heap := zz_fr.rf
  obtain ⟨okA, hn, hw4, hRu, hwr, hdd, hkp⟩ := hA
  have hrs24 := hRu.1
  refine lv_aload_n hx hb d_Mo_cluster_0 rfl (lv_at hl 0 rfl) ?_
  refine fg_Mo_73 hE hM.1 rfl d_Mo_cluster_1 ?_
  refine zz_ne0 hx hb (by omega) d_Mo_cluster_4 (tgt := 10) rfl (fun hT4 => ?_) (fun hF4 => ?_)
  · have hw : 0 < w := by omega
    have hrs := hwr hw
    refine lv_aload_n hx hb d_Mo_cluster_10 rfl (lv_at hl 0 rfl) ?_
    refine lv_iload_n hx hb d_Mo_cluster_11 rfl (lv_at hl 1 rfl) ?_
    refine zz_callP (cl_Mo_95 (rest := []) hE (k_Mo_isRecord l D ca r n t rs w A x) ⟨rfl, rfl, by decide, by decide⟩ hM hM.1 rfl hl.1 rfl (Nat.le_of_ble_eq_true rfl) d_Mo_cluster_12 ⟨by decide, by decide⟩) ?_
    refine zz_neB hx hb d_Mo_cluster_15 (tgt := 20) rfl (fun hT15 => ?_) (fun hF15 => ?_)
    · refine lv_aload_n hx hb d_Mo_cluster_20 rfl (lv_at hl 0 rfl) ?_
      refine zz_callP (cl_Mo_149 (rest := []) hE (k_Mo_isDone l D ca r n t rs w A hn hw hw4 hdd) ⟨rfl, rfl, by decide, by decide⟩ hM hM.1 rfl hl.1 rfl (Nat.le_of_ble_eq_true rfl) d_Mo_cluster_21 ⟨by decide, by decide⟩) ?_
      refine zz_neB hx hb d_Mo_cluster_24 (tgt := 30) rfl (fun hT24 => ?_) (fun hF24 => ?_)
      · have hx15 := hT15
        obtain ⟨x0, hx0, rfl⟩ := zisR_nat hT15 (by omega)
        have cx : cN (nI x0) = x0 := nI_clamp (by omega)
        refine lv_aload_n hx hb d_Mo_cluster_30 rfl (lv_at hl 0 rfl) ?_
        refine zz_callN (cl_Mo_155 (rest := []) hE (k_Mo_spread l D ca r n t rs w A hn okA hrs hRu hw hw4 hdd) ⟨rfl, rfl, by decide, by decide⟩ hM hM.1 rfl hl.1 rfl (Nat.le_of_ble_eq_true rfl) d_Mo_cluster_31 ⟨by decide, by decide⟩) hL (fun _ h => h) (fun H locs hpost hL => ?_)
        obtain ⟨hfr1, B, hM, hm8, hsp⟩ := hpost
        have hS := hS.tr hfr1
        have hlb : ∀ k, k < n → B 18 k = lbl n (mFd A w rs) k := fun k hk => mSp_lbl (mFd_symm A w rs) hsp hk
        have hle : ∀ k, k < n → B 18 k ≤ 12 := fun k hk => by have := (hsp.1 k hk).1; omega
        refine lv_aload_n hx hb d_Mo_cluster_34 rfl (lv_at hl 0 rfl) ?_
        refine fg_Mo_62 hE hM.1 rfl d_Mo_cluster_35 ?_
        refine lv_iload_n hx hb d_Mo_cluster_38 rfl (lv_at hl 1 rfl) ?_
        refine mo_ld hE hM 18 (by decide) (i := x0) (show x0 < 12 by omega) d_Mo_cluster_39 ?_
        have hval : aCluster n w (mDn A n w) (mFd A w rs) (nI x0) = nI (B 18 x0) := by
            unfold aCluster
            rw [if_neg (by omega), if_neg (by simp [hx15]), if_neg (by simp [hT24]), cx, ← hlb x0 hx0]
        exact zz_iret hx hb hr hlk rfl ⟨by rw [hval], hS, B, hM, hm8⟩ hL d_Mo_cluster_40
      · refine lv_bipush (v := (-6 : Int32)) hx hb d_Mo_cluster_27 (by decide) ?_
        have hval : aCluster n w (mDn A n w) (mFd A w rs) x = (-6 : Int32) := by
            unfold aCluster
            rw [if_neg (by omega), if_neg (by simp [hT15]), if_pos hF24]
        exact zz_iret hx hb hr hlk rfl ⟨by rw [hval], hS, A, hM, mS8.rf okA⟩ hL d_Mo_cluster_29
    · refine lv_iconst (v := (-1 : Int32)) hx hb d_Mo_cluster_18 (by decide) ?_
      have hval : aCluster n w (mDn A n w) (mFd A w rs) x = (-1 : Int32) := by
          unfold aCluster
          rw [if_neg (by omega), if_pos hF15]
      exact zz_iret hx hb hr hlk rfl ⟨by rw [hval], hS, A, hM, mS8.rf okA⟩ hL d_Mo_cluster_19
  · refine lv_bipush (v := (-4 : Int32)) hx hb d_Mo_cluster_7 (by decide) ?_
    have hval : aCluster n w (mDn A n w) (mFd A w rs) x = (-4 : Int32) := by
        unfold aCluster
        rw [if_pos (by omega)]
    exact zz_iret hx hb hr hlk rfl ⟨by rw [hval], hS, A, hM, mS8.rf okA⟩ hL d_Mo_cluster_9

set_option maxHeartbeats 4000000 in
set_option maxRecDepth 100000 in
theorem k_Mo_kept (l : Launch) (D : va_G) (ca : Nat → ClassId) (r n t rs w : Nat) (A : Nat → Nat → Nat) (x y : Int32) (hA : mAll A n rs w) : Met l y_Mo_kept w_Mo_kept (zr 8 0 0) (zz_P D ca [.ref r, .int x, .int y] (fun H => MoAt D ca H r n t rs w A)) (zz_Q (fun H H1 v => v = some (.int (aKept n w (mDn A n w) (mFd A w rs) (mTx A) (A 17) x y)) ∧ zz_fr (moFr r) H H1 ∧ ∃ B, MoAt D ca H1 r n t rs w B ∧ mS8 A B)) 0 0 (moFr r) := by
  refine zz_met (cc := c_Mo_kept) (by decide) (Nat.le_of_ble_eq_true rfl) ?_
  intro p e s m below meth c ls hE hr hlk hnm hM hl
  have hx := hE.1.1
  have hb := hE.1.2.1
  have hK := hE.2
  have hl : lv_has ls 7 [(0, .ref r), (1, .int x), (2, .int y)] := hl
  have hL : zz_L (moFr r) ([] : List Loc) := zz_L.nil
  have hS : zz_fr (moFr r) s.heap s.heap := zz_fr.rf
  obtain ⟨okA, hn, hw4, hRu, hwr, hdd, hkp⟩ := hA
  have hrs24 := hRu.1
  refine lv_aload_n hx hb d_Mo_kept_0 rfl (lv_at hl 0 rfl) ?_
  refine fg_Mo_73 hE hM.1 rfl d_Mo_kept_1 ?_
  refine zz_ne0 hx hb (by omega) d_Mo_kept_4 (tgt := 10) rfl (fun hT4 => ?_) (fun hF4 => ?_)
  · have hw : 0 < w := by omega
    have hrs := hwr hw
    refine lv_aload_n hx hb d_Mo_kept_10 rfl (lv_at hl 0 rfl) ?_
    refine lv_iload_n hx hb d_Mo_kept_11 rfl (lv_at hl 1 rfl) ?_
    refine zz_callP (cl_Mo_95 (rest := []) hE (k_Mo_isRecord l D ca r n t rs w A x) ⟨rfl, rfl, by decide, by decide⟩ hM hM.1 rfl hl.1 rfl (Nat.le_of_ble_eq_true rfl) d_Mo_kept_12 ⟨by decide, by decide⟩) ?_
    refine zz_eqB hx hb d_Mo_kept_15 (tgt := 25) rfl (fun hT15 => ?_) (fun hF15 => ?_)
    · refine lv_iconst (v := (-1 : Int32)) hx hb d_Mo_kept_25 (by decide) ?_
      have hval : aKept n w (mDn A n w) (mFd A w rs) (mTx A) (A 17) x y = (-1 : Int32) := by
          unfold aKept
          rw [if_neg (by omega), if_pos (by simp [hT15])]
      exact zz_iret hx hb hr hlk rfl ⟨by rw [hval], hS, A, hM, mS8.rf okA⟩ hL d_Mo_kept_26
    · refine lv_iload_n hx hb d_Mo_kept_18 rfl (lv_at hl 2 rfl) ?_
      refine zz_callP (cl_Mo_69 (rest := []) hE (k_Mo_isField l D ca y) ⟨rfl, rfl, by decide, by decide⟩ trivial rfl hl.1 rfl (Nat.le_of_ble_eq_true rfl) d_Mo_kept_19 ⟨by decide, by decide⟩) ?_
      refine zz_neB hx hb d_Mo_kept_22 (tgt := 27) rfl (fun hT22 => ?_) (fun hF22 => ?_)
      · refine lv_aload_n hx hb d_Mo_kept_27 rfl (lv_at hl 0 rfl) ?_
        refine zz_callP (cl_Mo_149 (rest := []) hE (k_Mo_isDone l D ca r n t rs w A hn hw hw4 hdd) ⟨rfl, rfl, by decide, by decide⟩ hM hM.1 rfl hl.1 rfl (Nat.le_of_ble_eq_true rfl) d_Mo_kept_28 ⟨by decide, by decide⟩) ?_
        refine zz_neB hx hb d_Mo_kept_31 (tgt := 37) rfl (fun hT31 => ?_) (fun hF31 => ?_)
        · have hx15 := hF15
          have hx22 := hT22
          obtain ⟨x0, hx0, rfl⟩ := zisR_nat hF15 (by omega)
          obtain ⟨y0, hy0, rfl⟩ := zisF_nat hT22
          have cx : cN (nI x0) = x0 := nI_clamp (by omega)
          have cy : cN (nI y0) = y0 := nI_clamp (by omega)
          refine lv_aload_n hx hb d_Mo_kept_37 rfl (lv_at hl 0 rfl) ?_
          refine zz_callN (cl_Mo_155 (rest := []) hE (k_Mo_spread l D ca r n t rs w A hn okA hrs hRu hw hw4 hdd) ⟨rfl, rfl, by decide, by decide⟩ hM hM.1 rfl hl.1 rfl (Nat.le_of_ble_eq_true rfl) d_Mo_kept_38 ⟨by decide, by decide⟩) hL (fun _ h => h) (fun H locs hpost hL => ?_)
          obtain ⟨hfr1, B, hM, hm8, hsp⟩ := hpost
          have hS := hS.tr hfr1
          have hlb : ∀ k, k < n → B 18 k = lbl n (mFd A w rs) k := fun k hk => mSp_lbl (mFd_symm A w rs) hsp hk
          have hle : ∀ k, k < n → B 18 k ≤ 12 := fun k hk => by have := (hsp.1 k hk).1; omega
          refine lv_aload_n hx hb d_Mo_kept_41 rfl (lv_at hl 0 rfl) ?_
          refine fg_Mo_62 hE hM.1 rfl d_Mo_kept_42 ?_
          refine lv_iload_n hx hb d_Mo_kept_45 rfl (lv_at hl 1 rfl) ?_
          refine mo_ld hE hM 18 (by decide) (i := x0) (show x0 < 12 by omega) d_Mo_kept_46 ?_
          obtain ⟨B0, hB0⟩ : ∃ z, z = B := ⟨_, rfl⟩
          obtain ⟨nm, hnm9⟩ : ∃ z, z = B 18 x0 := ⟨_, rfl⟩
          have hnn : nm < n := by have := (hsp.1 x0 hx0).1; omega
          refine zz_top (y := nI nm) (by rw [hnm9]) ?_
          rw [← hB0] at hm8 hlb hle hnm9 hsp
          refine lv_istore_n hx hb d_Mo_kept_47 rfl hl (by decide) rfl (fun ls hl => ?_)
          have hl : lv_has ls 7 [(3, .int (nI nm)), (0, .ref r), (1, .int (nI x0)), (2, .int (nI y0))] := hl
          refine lv_iload_n hx hb d_Mo_kept_48 rfl (lv_at hl 0 rfl) ?_
          refine lv_istore hx hb d_Mo_kept_49 hl (by decide) rfl (fun ls hl => ?_)
          have hl : lv_has ls 7 [(4, .int (nI nm)), (3, .int (nI nm)), (0, .ref r), (1, .int (nI x0)), (2, .int (nI y0))] := hl
          refine lv_iload_n hx hb d_Mo_kept_51 rfl (lv_at hl 1 rfl) ?_
          refine lv_iconst (v := nI 1) hx hb d_Mo_kept_52 (by decide) ?_
          refine zz_iadd hx hb d_Mo_kept_53 ?_
          refine lv_istore hx hb d_Mo_kept_54 hl (by decide) rfl (fun ls hl => ?_)
          have hl : lv_has ls 7 [(5, .int (nI (nm + 1))), (4, .int (nI nm)), (3, .int (nI nm)), (0, .ref r), (1, .int (nI x0)), (2, .int (nI y0))] := hl
          have hmsB : mS B0 B := by rw [← hB0]; exact mS.rf hm8.1
          have hl : lv_has ls 7 [(0, .ref r), (1, .int (nI x0)), (2, .int (nI y0)), (3, .int (nI nm)), (4, .int (nI nm)), (5, .int (nI (nm + 1)))] := lv_sub hl [3, 4, 5, 2, 1, 0] rfl
          refine zz_loopH (σ := Nat × (Nat → Nat → Nat)) (fun ⟨k, B⟩ ls H locs => lv_has ls 7 [(0, .ref r), (1, .int (nI x0)), (2, .int (nI y0)), (3, .int (nI nm)), (4, .int (nI (zbest (fun a b => decide (B0 18 a = nm) && sBt n (B0 18) (mTx A) (A 17 y0) nm a b y0) nm k))), (5, .int (nI (nm + 1 + k)))] ∧ k ≤ n - 1 - nm ∧ MoAt D ca H r n t rs w B ∧ mS B0 B ∧ zz_fr (moFr r) s.heap H ∧ zz_L (moFr r) locs) (fun ⟨k, B⟩ => n - 1 - nm - k) ?_ (0, B) ls _ _ ⟨hl, Nat.zero_le _, hM, hmsB, hS, hL⟩
          rintro ⟨k, B⟩ ih ls H locs ⟨hl, hk, hM, hms, hS, hL⟩
          have e18 : B 18 = B0 18 := hms.2 18 (by decide) (by decide) (by decide) (by decide)
          have e17 : B 17 = A 17 := (hms.2 17 (by decide) (by decide) (by decide) (by decide)).trans (hm8.2 17 (by decide) (by decide) (by decide) (by decide) (by decide))
          have zle := zbest_le (fun a b => decide (B0 18 a = nm) && sBt n (B0 18) (mTx A) (A 17 y0) nm a b y0) nm k
          refine lv_iload hx hb d_Mo_kept_56 (lv_at hl 5 rfl) ?_
          refine lv_aload_n hx hb d_Mo_kept_58 rfl (lv_at hl 0 rfl) ?_
          refine fg_Mo_65 hE hM.1 rfl d_Mo_kept_59 ?_
          refine zz_ge hx hb (by omega) (by omega) d_Mo_kept_62 (tgt := 116) rfl (fun hT62 => ?_) (fun hF62 => ?_)
          · refine lv_iload hx hb d_Mo_kept_116 (lv_at hl 4 rfl) ?_
            have hval : aKept n w (mDn A n w) (mFd A w rs) (mTx A) (A 17) (nI x0) (nI y0) = nI (zbest (fun a b => decide (B0 18 a = nm) && sBt n (B0 18) (mTx A) (A 17 y0) nm a b y0) nm k) := by
                unfold aKept
                rw [if_neg (by omega), if_neg (fun h => h ⟨hx15, hx22⟩), if_neg (by simp [hT31]), cx, cy, ← hlb x0 hx0, ← hnm9, ← sKe_congr (Lb := B0 18) hnn hlb]
                unfold sKe
                rw [show n - 1 - nm = k by omega]
            exact zz_iret hx hb hr hlk rfl ⟨by rw [hval], hS, B, hM, hm8.tr hms.s8⟩ hL d_Mo_kept_118
          · have hl1 := hle (nm + 1 + k) (by omega)
            rw [← e18] at hl1
            have hbe : mBt B n nm (nm + 1 + k) (zbest (fun a b => decide (B0 18 a = nm) && sBt n (B0 18) (mTx A) (A 17 y0) nm a b y0) nm k) y0 = sBt n (B0 18) (mTx A) (A 17 y0) nm (nm + 1 + k) (zbest (fun a b => decide (B0 18 a = nm) && sBt n (B0 18) (mTx A) (A 17 y0) nm a b y0) nm k) y0 := by rw [mBt_s, e18, e17, mTxE (hm8.tr hms.s8)]
            refine lv_aload_n hx hb d_Mo_kept_65 rfl (lv_at hl 0 rfl) ?_
            refine fg_Mo_62 hE hM.1 rfl d_Mo_kept_66 ?_
            refine lv_iload hx hb d_Mo_kept_69 (lv_at hl 5 rfl) ?_
            refine mo_ld hE hM 18 (by decide) (i := nm + 1 + k) (show nm + 1 + k < 12 by omega) d_Mo_kept_71 ?_
            refine lv_iload_n hx hb d_Mo_kept_72 rfl (lv_at hl 3 rfl) ?_
            refine zz_ne hx hb (by omega) (by omega) d_Mo_kept_73 (tgt := 93) rfl (fun hT73 => ?_) (fun hF73 => ?_)
            · refine lv_iconst (v := nI 0) hx hb d_Mo_kept_93 (by decide) ?_
              refine lv_istore hx hb d_Mo_kept_94 hl (by decide) rfl (fun ls hl => ?_)
              have hl : lv_has ls 7 [(6, .int (nI 0)), (0, .ref r), (1, .int (nI x0)), (2, .int (nI y0)), (3, .int (nI nm)), (4, .int (nI (zbest (fun a b => decide (B0 18 a = nm) && sBt n (B0 18) (mTx A) (A 17 y0) nm a b y0) nm k))), (5, .int (nI (nm + 1 + k)))] := hl
              refine lv_iload hx hb d_Mo_kept_96 (lv_at hl 0 rfl) ?_
              refine zz_eq0 hx hb (by decide) d_Mo_kept_98 (tgt := 106) rfl (fun _ => ?_) (fun h => absurd h (by decide))
              refine lv_iload hx hb d_Mo_kept_106 (lv_at hl 5 rfl) ?_
              refine lv_istore hx hb d_Mo_kept_108 hl (by decide) rfl (fun ls hl => ?_)
              have hl : lv_has ls 7 [(4, .int (nI (zbest (fun a b => decide (B0 18 a = nm) && sBt n (B0 18) (mTx A) (A 17 y0) nm a b y0) nm k))), (6, .int (nI 0)), (0, .ref r), (1, .int (nI x0)), (2, .int (nI y0)), (3, .int (nI nm)), (5, .int (nI (nm + 1 + k)))] := hl
              refine lv_iinc (k := 6) (v := nI (nm + 1 + k + 1)) hx hb d_Mo_kept_110 hl rfl (zz_inc _) (by decide) rfl (fun ls hl => ?_)
              have hl : lv_has ls 7 [(5, .int (nI (nm + 1 + k + 1))), (4, .int (nI (zbest (fun a b => decide (B0 18 a = nm) && sBt n (B0 18) (mTx A) (A 17 y0) nm a b y0) nm k))), (6, .int (nI 0)), (0, .ref r), (1, .int (nI x0)), (2, .int (nI y0)), (3, .int (nI nm))] := hl
              refine lv_goto hx hb d_Mo_kept_113 (tgt := 56) rfl ?_
              have hz9 : zbest (fun a b => decide (B0 18 a = nm) && sBt n (B0 18) (mTx A) (A 17 y0) nm a b y0) nm (k + 1) = zbest (fun a b => decide (B0 18 a = nm) && sBt n (B0 18) (mTx A) (A 17 y0) nm a b y0) nm k := by
                  show (if (decide (B0 18 (nm + 1 + k) = nm) && sBt n (B0 18) (mTx A) (A 17 y0) nm (nm + 1 + k) (zbest (fun a b => decide (B0 18 a = nm) && sBt n (B0 18) (mTx A) (A 17 y0) nm a b y0) nm k) y0) = true then nm + 1 + k else zbest (fun a b => decide (B0 18 a = nm) && sBt n (B0 18) (mTx A) (A 17 y0) nm a b y0) nm k) = _
                  rw [decide_eq_false (show ¬ B0 18 (nm + 1 + k) = nm by rw [← e18]; exact hT73)]; simp
              have hl : lv_has ls 7 [(0, .ref r), (1, .int (nI x0)), (2, .int (nI y0)), (3, .int (nI nm)), (4, .int (nI (zbest (fun a b => decide (B0 18 a = nm) && sBt n (B0 18) (mTx A) (A 17 y0) nm a b y0) nm (k + 1)))), (5, .int (nI (nm + 1 + (k + 1))))] := (by rw [hz9]; exact lv_sub hl [3, 4, 5, 6, 1, 0] rfl)
              exact ih (k + 1, B) ls _ _ ⟨hl, by omega, hM, hms, hS, hL⟩ (by show n - 1 - nm - (k + 1) < n - 1 - nm - k; omega)
            · refine lv_aload_n hx hb d_Mo_kept_76 rfl (lv_at hl 0 rfl) ?_
              refine lv_iload_n hx hb d_Mo_kept_77 rfl (lv_at hl 3 rfl) ?_
              refine lv_iload hx hb d_Mo_kept_78 (lv_at hl 5 rfl) ?_
              refine lv_iload hx hb d_Mo_kept_80 (lv_at hl 4 rfl) ?_
              refine lv_iload_n hx hb d_Mo_kept_82 rfl (lv_at hl 2 rfl) ?_
              refine zz_callI (cl_Mo_168 (rest := []) hE (k_Mo_better l D ca r n t rs w B nm (nm + 1 + k) (zbest (fun a b => decide (B0 18 a = nm) && sBt n (B0 18) (mTx A) (A 17 y0) nm a b y0) nm k) y0 hn (by omega) (by omega) (by omega) hy0 hms.1 (by rw [e18]; exact hle) (by rw [e17]; exact hkp _ hy0)) ⟨rfl, rfl, by decide, by decide⟩ hM hM.1 rfl hl.1 rfl (Nat.le_of_ble_eq_true rfl) d_Mo_kept_83 ⟨by decide, by decide⟩) hL (fun _ h => h) (fun H locs hpost hL => ?_)
              obtain ⟨hfr2, B2, hM, hms2⟩ := hpost
              have hS := hS.tr hfr2
              have hms9 := hms.tr hms2
              refine zz_eqB hx hb d_Mo_kept_86 (tgt := 93) rfl (fun hT86 => ?_) (fun hF86 => ?_)
              · refine lv_iconst (v := nI 0) hx hb d_Mo_kept_93 (by decide) ?_
                refine lv_istore hx hb d_Mo_kept_94 hl (by decide) rfl (fun ls hl => ?_)
                have hl : lv_has ls 7 [(6, .int (nI 0)), (0, .ref r), (1, .int (nI x0)), (2, .int (nI y0)), (3, .int (nI nm)), (4, .int (nI (zbest (fun a b => decide (B0 18 a = nm) && sBt n (B0 18) (mTx A) (A 17 y0) nm a b y0) nm k))), (5, .int (nI (nm + 1 + k)))] := hl
                refine lv_iload hx hb d_Mo_kept_96 (lv_at hl 0 rfl) ?_
                refine zz_eq0 hx hb (by decide) d_Mo_kept_98 (tgt := 106) rfl (fun _ => ?_) (fun h => absurd h (by decide))
                refine lv_iload hx hb d_Mo_kept_106 (lv_at hl 5 rfl) ?_
                refine lv_istore hx hb d_Mo_kept_108 hl (by decide) rfl (fun ls hl => ?_)
                have hl : lv_has ls 7 [(4, .int (nI (zbest (fun a b => decide (B0 18 a = nm) && sBt n (B0 18) (mTx A) (A 17 y0) nm a b y0) nm k))), (6, .int (nI 0)), (0, .ref r), (1, .int (nI x0)), (2, .int (nI y0)), (3, .int (nI nm)), (5, .int (nI (nm + 1 + k)))] := hl
                refine lv_iinc (k := 6) (v := nI (nm + 1 + k + 1)) hx hb d_Mo_kept_110 hl rfl (zz_inc _) (by decide) rfl (fun ls hl => ?_)
                have hl : lv_has ls 7 [(5, .int (nI (nm + 1 + k + 1))), (4, .int (nI (zbest (fun a b => decide (B0 18 a = nm) && sBt n (B0 18) (mTx A) (A 17 y0) nm a b y0) nm k))), (6, .int (nI 0)), (0, .ref r), (1, .int (nI x0)), (2, .int (nI y0)), (3, .int (nI nm))] := hl
                refine lv_goto hx hb d_Mo_kept_113 (tgt := 56) rfl ?_
                have hz9 : zbest (fun a b => decide (B0 18 a = nm) && sBt n (B0 18) (mTx A) (A 17 y0) nm a b y0) nm (k + 1) = zbest (fun a b => decide (B0 18 a = nm) && sBt n (B0 18) (mTx A) (A 17 y0) nm a b y0) nm k := by
                    show (if (decide (B0 18 (nm + 1 + k) = nm) && sBt n (B0 18) (mTx A) (A 17 y0) nm (nm + 1 + k) (zbest (fun a b => decide (B0 18 a = nm) && sBt n (B0 18) (mTx A) (A 17 y0) nm a b y0) nm k) y0) = true then nm + 1 + k else zbest (fun a b => decide (B0 18 a = nm) && sBt n (B0 18) (mTx A) (A 17 y0) nm a b y0) nm k) = _
                    rw [decide_eq_true (show B0 18 (nm + 1 + k) = nm by rw [← e18]; exact hF73), ← hbe, hT86]; simp
                have hl : lv_has ls 7 [(0, .ref r), (1, .int (nI x0)), (2, .int (nI y0)), (3, .int (nI nm)), (4, .int (nI (zbest (fun a b => decide (B0 18 a = nm) && sBt n (B0 18) (mTx A) (A 17 y0) nm a b y0) nm (k + 1)))), (5, .int (nI (nm + 1 + (k + 1))))] := (by rw [hz9]; exact lv_sub hl [3, 4, 5, 6, 1, 0] rfl)
                exact ih (k + 1, B2) ls _ _ ⟨hl, by omega, hM, hms9, hS, hL⟩ (by show n - 1 - nm - (k + 1) < n - 1 - nm - k; omega)
              · refine lv_iconst (v := nI 1) hx hb d_Mo_kept_89 (by decide) ?_
                refine lv_goto hx hb d_Mo_kept_90 (tgt := 94) rfl ?_
                refine lv_istore hx hb d_Mo_kept_94 hl (by decide) rfl (fun ls hl => ?_)
                have hl : lv_has ls 7 [(6, .int (nI 1)), (0, .ref r), (1, .int (nI x0)), (2, .int (nI y0)), (3, .int (nI nm)), (4, .int (nI (zbest (fun a b => decide (B0 18 a = nm) && sBt n (B0 18) (mTx A) (A 17 y0) nm a b y0) nm k))), (5, .int (nI (nm + 1 + k)))] := hl
                refine lv_iload hx hb d_Mo_kept_96 (lv_at hl 0 rfl) ?_
                refine zz_eq0 hx hb (by decide) d_Mo_kept_98 (tgt := 106) rfl (fun h => absurd h (by decide)) (fun _ => ?_)
                refine lv_iload hx hb d_Mo_kept_101 (lv_at hl 6 rfl) ?_
                refine lv_goto hx hb d_Mo_kept_103 (tgt := 108) rfl ?_
                refine lv_istore hx hb d_Mo_kept_108 hl (by decide) rfl (fun ls hl => ?_)
                have hl : lv_has ls 7 [(4, .int (nI (nm + 1 + k))), (6, .int (nI 1)), (0, .ref r), (1, .int (nI x0)), (2, .int (nI y0)), (3, .int (nI nm)), (5, .int (nI (nm + 1 + k)))] := hl
                refine lv_iinc (k := 6) (v := nI (nm + 1 + k + 1)) hx hb d_Mo_kept_110 hl rfl (zz_inc _) (by decide) rfl (fun ls hl => ?_)
                have hl : lv_has ls 7 [(5, .int (nI (nm + 1 + k + 1))), (4, .int (nI (nm + 1 + k))), (6, .int (nI 1)), (0, .ref r), (1, .int (nI x0)), (2, .int (nI y0)), (3, .int (nI nm))] := hl
                refine lv_goto hx hb d_Mo_kept_113 (tgt := 56) rfl ?_
                have hz9 : zbest (fun a b => decide (B0 18 a = nm) && sBt n (B0 18) (mTx A) (A 17 y0) nm a b y0) nm (k + 1) = nm + 1 + k := by
                    show (if (decide (B0 18 (nm + 1 + k) = nm) && sBt n (B0 18) (mTx A) (A 17 y0) nm (nm + 1 + k) (zbest (fun a b => decide (B0 18 a = nm) && sBt n (B0 18) (mTx A) (A 17 y0) nm a b y0) nm k) y0) = true then nm + 1 + k else zbest (fun a b => decide (B0 18 a = nm) && sBt n (B0 18) (mTx A) (A 17 y0) nm a b y0) nm k) = _
                    rw [decide_eq_true (show B0 18 (nm + 1 + k) = nm by rw [← e18]; exact hF73), ← hbe, hF86]; simp
                have hl : lv_has ls 7 [(0, .ref r), (1, .int (nI x0)), (2, .int (nI y0)), (3, .int (nI nm)), (4, .int (nI (zbest (fun a b => decide (B0 18 a = nm) && sBt n (B0 18) (mTx A) (A 17 y0) nm a b y0) nm (k + 1)))), (5, .int (nI (nm + 1 + (k + 1))))] := (by rw [hz9]; exact lv_sub hl [3, 4, 5, 6, 1, 0] rfl)
                exact ih (k + 1, B2) ls _ _ ⟨hl, by omega, hM, hms9, hS, hL⟩ (by show n - 1 - nm - (k + 1) < n - 1 - nm - k; omega)
        · refine lv_bipush (v := (-6 : Int32)) hx hb d_Mo_kept_34 (by decide) ?_
          have hval : aKept n w (mDn A n w) (mFd A w rs) (mTx A) (A 17) x y = (-6 : Int32) := by
              unfold aKept
              rw [if_neg (by omega), if_neg (fun h => h ⟨hF15, hT22⟩), if_pos hF31]
          exact zz_iret hx hb hr hlk rfl ⟨by rw [hval], hS, A, hM, mS8.rf okA⟩ hL d_Mo_kept_36
      · refine lv_iconst (v := (-1 : Int32)) hx hb d_Mo_kept_25 (by decide) ?_
        have hval : aKept n w (mDn A n w) (mFd A w rs) (mTx A) (A 17) x y = (-1 : Int32) := by
            unfold aKept
            rw [if_neg (by omega), if_pos (by simp [hF15, hF22])]
        exact zz_iret hx hb hr hlk rfl ⟨by rw [hval], hS, A, hM, mS8.rf okA⟩ hL d_Mo_kept_26
  · refine lv_bipush (v := (-4 : Int32)) hx hb d_Mo_kept_7 (by decide) ?_
    have hval : aKept n w (mDn A n w) (mFd A w rs) (mTx A) (A 17) x y = (-4 : Int32) := by
        unfold aKept
        rw [if_pos (by omega)]
    exact zz_iret hx hb hr hlk rfl ⟨by rw [hval], hS, A, hM, mS8.rf okA⟩ hL d_Mo_kept_9
