/-! what the packing's rows hold -/
def IsK (K : Nat → Nat) (L : Nat → Nat → Bool) (k : Nat) : Prop := K k = 3 ∧ ∀ j, j < 10 → L k j = true ∧ K (k + 1 + j) = 108
def PKr (I σ : Mem) (k e : Nat) : Prop := I (k + 1) e = σ 11 e ∧ I (k + 2) e = wrS σ e ∧ I (k + 3) e = rdS σ e ∧ I (k + 4) e = nI (en σ e + 1) ∧ I (k + 5) e = nI (sN (mfF σ e) e) ∧ I (k + 6) e = nI (sN (mjF σ e) e) ∧ I (k + 7) e = nI (lev σ e)
def PKI (I σ : Mem) (k t : Nat) : Prop := ∀ e, e < t → PKr I σ k e
theorem PKr_cong {I J σ : Mem} {k e : Nat} (h : ∀ a, k + 1 ≤ a → a ≤ k + 7 → J a e = I a e) (H : PKr I σ k e) : PKr J σ k e := by
  obtain ⟨h1, h2, h3, h4, h5, h6, h7⟩ := H
  exact ⟨by rw [h _ (by omega) (by omega)]; exact h1, by rw [h _ (by omega) (by omega)]; exact h2, by rw [h _ (by omega) (by omega)]; exact h3, by rw [h _ (by omega) (by omega)]; exact h4, by rw [h _ (by omega) (by omega)]; exact h5, by rw [h _ (by omega) (by omega)]; exact h6, by rw [h _ (by omega) (by omega)]; exact h7⟩
/-- table t is being looked at, as far as j -/
def LK (I J σ : Mem) (k t j : Nat) : Prop := (∀ a, a < k + 1 ∨ k + 7 < a → J a = I a) ∧ PKI J σ k t ∧ J (k + 1) t = σ 11 t ∧ J (k + 2) t = wrS σ t ∧ J (k + 3) t = rdS σ t ∧ J (k + 4) t = nI (en σ t + 1) ∧ J (k + 5) t = nI (sN (mfF σ t) j) ∧ J (k + 6) t = nI (sN (mjF σ t) j) ∧ J (k + 7) t = nI (lvP σ t j)
theorem LK_nd {I J σ : Mem} {k t j : Nat} (H : LK I J σ k t j) (hj : j < t) : ndR (J (k + 2) j) (J (k + 3) j) (J (k + 1) t) (J (k + 3) t) (J (k + 2) t) = nd σ j t := by
  obtain ⟨-, H1, h1, h2, h3, -⟩ := H
  obtain ⟨g1, g2, g3, -⟩ := H1 j hj
  unfold nd; rw [g2, g3, h1, h2, h3]
theorem LK_2 {I J σ : Mem} {k t j : Nat} (H : LK I J σ k t j) (hj : j < t) (ht : t < 8) (h : 2 ≤ nd σ j t) : LK I (up2 (up2 J (k + 5) t (nI (sN (mfF σ t) j) ||| sB (nI j))) (k + 7) t (nI (max (lvP σ t j) (lev σ j + 1)))) σ k t (j + 1) := by
  obtain ⟨h0, H1, h1, h2, h3, h4, h5, h6, h7⟩ := H
  refine ⟨fun a ha => by rw [up2_r (by omega), up2_r (by omega), h0 a ha], fun e he => PKr_cong (fun a _ _ => by rw [up2_k (by omega), up2_k (by omega)]) (H1 e he), by rw [up2_r (by omega), up2_r (by omega)]; exact h1, by rw [up2_r (by omega), up2_r (by omega)]; exact h2, by rw [up2_r (by omega), up2_r (by omega)]; exact h3, by rw [up2_r (by omega), up2_r (by omega)]; exact h4, ?_, ?_, ?_⟩
  · rw [up2_r (by omega), up2_s, or_sb (sN_lt _ _) (by omega)]
    simp [sN, mfF, h]
  · rw [up2_r (by omega), up2_r (by omega), h6]
    simp [sN, mjF, show nd σ j t ≠ 1 by omega]
  · rw [up2_s]
    simp [lvP, mxF, h]
theorem LK_1 {I J σ : Mem} {k t j : Nat} (H : LK I J σ k t j) (hj : j < t) (ht : t < 8) (h : nd σ j t = 1) : LK I (up2 J (k + 6) t (nI (sN (mjF σ t) j) ||| sB (nI j))) σ k t (j + 1) := by
  obtain ⟨h0, H1, h1, h2, h3, h4, h5, h6, h7⟩ := H
  refine ⟨fun a ha => by rw [up2_r (by omega), h0 a ha], fun e he => PKr_cong (fun a _ _ => by rw [up2_k (by omega)]) (H1 e he), by rw [up2_r (by omega)]; exact h1, by rw [up2_r (by omega)]; exact h2, by rw [up2_r (by omega)]; exact h3, by rw [up2_r (by omega)]; exact h4, ?_, ?_, ?_⟩
  · rw [up2_r (by omega), h5]
    simp [sN, mfF, h]
  · rw [up2_s, or_sb (sN_lt _ _) (by omega)]
    simp [sN, mjF, h]
  · rw [up2_r (by omega), h7]
    simp [lvP, mxF, h]
theorem LK_0 {I J σ : Mem} {k t j : Nat} (H : LK I J σ k t j) (h : nd σ j t = 0) : LK I J σ k t (j + 1) := by
  obtain ⟨h0, H1, h1, h2, h3, h4, h5, h6, h7⟩ := H
  refine ⟨h0, H1, h1, h2, h3, h4, ?_, ?_, ?_⟩
  · rw [h5]; simp [sN, mfF, h]
  · rw [h6]; simp [sN, mjF, h]
  · rw [h7]; simp [lvP, mxF, h]
theorem LK_e {I J σ : Mem} {k t : Nat} (H : LK I J σ k t t) : (∀ a, a < k + 1 ∨ k + 7 < a → J a = I a) ∧ PKI J σ k (t + 1) := by
  obtain ⟨h0, H1, h1, h2, h3, h4, h5, h6, h7⟩ := H
  refine ⟨h0, fun e he => ?_⟩
  by_cases q : e = t
  · subst q; exact ⟨h1, h2, h3, h4, h5, h6, by rw [h7, lev_eq]⟩
  · exact H1 e (by omega)
/-- where tables are put -/
def PLI (I σ : Mem) (k t : Nat) (pl : Nat → Nat) : Prop := (∀ e, e < t → I (k + 8) e = nI (pl e) ∧ pl e < 8) ∧ ∀ s, s < 8 → I (k + 9) s = nI (sN (atF pl s) t) ∧ I (k + 10) s = nI (szP σ pl s t)
theorem PLI_s {I σ : Mem} {k t s : Nat} {pl : Nat → Nat} (H : PLI I σ k t pl) (ht : t < 8) (hs : s < 8) :
    PLI (up2 (up2 (up2 I (k + 8) t (nI s)) (k + 9) s (nI (sN (atF pl s) t) ||| sB (nI t))) (k + 10) s (nI (szP σ pl s t + (en σ t + 1)))) σ k (t + 1) (fun i => if i = t then s else pl i) := by
  refine ⟨fun e he => ?_, fun u hu => ?_⟩
  · rw [up2_r (by omega), up2_r (by omega)]
    by_cases q : e = t
    · subst q; rw [up2_s]; simp [hs]
    · rw [up2_k q]; simp only [q, if_false]; exact H.1 e (by omega)
  · have c1 : sN (atF (fun i => if i = t then s else pl i) u) t = sN (atF pl u) t := sN_congr fun i hi => by simp [atF, show i ≠ t by omega]
    have c2 : szP σ (fun i => if i = t then s else pl i) u t = szP σ pl u t := szP_congr fun i hi => by simp [show i ≠ t by omega]
    simp only [sN, szP]
    rw [c1, c2]
    by_cases q : u = s
    · subst q
      refine ⟨?_, ?_⟩
      · rw [up2_r (by omega), up2_s, or_sb (sN_lt _ _) (by omega)]; simp [atF]
      · rw [up2_s]; simp
    · refine ⟨?_, ?_⟩
      · rw [up2_r (by omega), up2_k q, up2_r (by omega), (H.2 u hu).1]; simp [atF, Ne.symm q]
      · rw [up2_k q, up2_r (by omega), up2_r (by omega), (H.2 u hu).2]; simp [Ne.symm q]
theorem PLI_cong {I J σ : Mem} {k t : Nat} {pl : Nat → Nat} (h : ∀ a, k + 8 ≤ a → a ≤ k + 10 → J a = I a) (H : PLI I σ k t pl) : PLI J σ k t pl :=
  ⟨fun e he => by rw [h _ (by omega) (by omega)]; exact H.1 e he, fun s hs => by rw [h _ (by omega) (by omega), h _ (by omega) (by omega)]; exact H.2 s hs⟩
/-- bitCount -/
def ush (x : Int32) (k : Nat) : Int32 := (x.toUInt32 >>> ((nI k).toUInt32 &&& Int32.toUInt32 31)).toInt32
def bc1 (x : Int32) : Int32 := x - (ush x 1 &&& 1431655765)
def bc2 (x : Int32) : Int32 := (x &&& 858993459) + (ush x 2 &&& 858993459)
def bc3 (x : Int32) : Int32 := (x + ush x 4) &&& 252645135
def bc4 (x : Int32) : Int32 := x + ush x 8
def bc5 (x : Int32) : Int32 := (x + ush x 16) &&& nI 63
def bcF (x : Int32) : Int32 := bc5 (bc4 (bc3 (bc2 (bc1 x))))
theorem bcF_ok : ∀ n, n < 256 → bcF (nI n) = nI (cn (fun e => n.testBit e) 8) := by decide +kernel
theorem cn_sN {f : Nat → Bool} : ∀ {t : Nat}, t ≤ 8 → cn (fun e => (sN f t).testBit e) 8 = cn f t := by
  intro t ht
  have h1 : cn (fun e => (sN f t).testBit e) 8 = cn (fun e => decide (e < t) && f e) 8 := cn_congr fun e _ => sN_bit f t e
  rw [h1]
  have h2 : ∀ d, t ≤ 8 → cn (fun e => decide (e < t) && f e) (t + d) = cn f t := by
    intro d _
    induction d with
    | zero => exact cn_congr fun e he => by simp [show e < t from he]
    | succ d ih =>
      show cn _ (t + d + 1) = _
      simp only [cn]
      rw [ih]
      simp [show ¬ t + d < t by omega]
  have := h2 (8 - t) ht
  rwa [show t + (8 - t) = 8 by omega] at this
theorem bcF_sN {f : Nat → Bool} {t : Nat} (ht : t ≤ 8) : bcF (nI (sN f t)) = nI (cn f t) := by
  rw [bcF_ok _ (Nat.lt_of_lt_of_le (sN_lt f t) (Nat.pow_le_pow_right (by decide) ht : 2 ^ t ≤ 2 ^ 8)), cn_sN ht]
theorem mf_bit {σ : Mem} {t j : Nat} (hj : j < t) (ht : t < 8) : (nI (sN (mfF σ t) t) &&& sB (nI j)) = 0 ↔ ¬ 2 ≤ nd σ j t := by
  rw [and_sb (by omega), sN_bit]
  simp [mfF, hj]
theorem mj_bit {σ : Mem} {t j : Nat} (hj : j < t) (ht : t < 8) : (nI (sN (mjF σ t) t) &&& sB (nI j)) = 0 ↔ ¬ nd σ j t = 1 := by
  rw [and_sb (by omega), sN_bit]
  simp [mjF, hj]
/-- the packing's rows when all is arranged -/
def ARR (J σ : Mem) (k : Nat) : Prop := PKI J σ k (mn σ) ∧ ((J k 10 = 1 ∧ ∃ pl, pkS σ (mn σ) = some pl ∧ PLI J σ k (mn σ) pl) ∨ (J k 10 = 0 ∧ pkS σ (mn σ) = none))
theorem PLI_0 {J σ : Mem} {k : Nat} (h1 : ∀ s, s < 8 → J (k + 9) s = nI 0) (h2 : ∀ s, s < 8 → J (k + 10) s = nI 0) : PLI J σ k 0 (fun _ => 0) := ⟨fun e he => absurd he (Nat.not_lt_zero e), fun s hs => ⟨h1 s hs, h2 s hs⟩⟩
theorem PKI_cong {I J σ : Mem} {k t : Nat} (h : ∀ a, k + 1 ≤ a → a ≤ k + 7 → J a = I a) (H : PKI I σ k t) : PKI J σ k t := fun e he => PKr_cong (fun a h1 h2 => by rw [h a h1 h2]) (H e he)
theorem PR_cong {b : Nat} {J J' σ : Mem} (hn : mn σ ≤ 8) (he : ∀ t, t < mn σ → en σ t ≤ 4) (hc : ∀ a, b ≤ a → a < b + 72 → J' a = J a) (H : PR b J σ) : PR b J' σ := by
  obtain ⟨h0, h1, h2, h3, h4, h5⟩ := H
  have h7 : ∀ t, t < 8 → J' (b + 1) t = J (b + 1) t := fun t _ => by rw [hc (b + 1) (by omega) (by omega)]
  refine ⟨by rw [hc b (by omega) (by omega)]; exact h0, PM_cong h7 h1, fun t ht => ?_, fun i hi => by rw [hc (b + 2) (by omega) (by omega)]; exact h3 i hi, fun i hi => by rw [hc (b + 3) (by omega) (by omega)]; exact h4 i hi, fun i hi => by rw [hc (b + 4) (by omega) (by omega)]; exact h5 i hi⟩
  have hlo := tr_lo J b t
  have hhi := tr_hi h1 (show t < 8 by omega)
  rw [tr_cong (h7 t (by omega))]
  exact TRp_cong (he t ht) (fun a g1 g2 => hc a (by omega) (by omega)) (h2 t ht)
