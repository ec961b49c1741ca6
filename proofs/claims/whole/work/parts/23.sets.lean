/-! sets as numbers; counts; greatest ones -/
def sN (f : Nat → Bool) : Nat → Nat
  | 0 => 0
  | k + 1 => sN f k + (if f k then 2 ^ k else 0)
def cn (f : Nat → Bool) : Nat → Nat
  | 0 => 0
  | k + 1 => cn f k + (if f k then 1 else 0)
def mxF (f : Nat → Nat) : Nat → Nat
  | 0 => 0
  | k + 1 => max (mxF f k) (f k)
theorem sN_lt (f : Nat → Bool) : ∀ k, sN f k < 2 ^ k
  | 0 => by simp [sN]
  | k + 1 => by
    have := sN_lt f k
    simp only [sN]
    rw [Nat.pow_succ]
    split <;> omega
theorem sN_congr {f g : Nat → Bool} : ∀ {k : Nat}, (∀ i, i < k → f i = g i) → sN f k = sN g k
  | 0, _ => rfl
  | k + 1, h => by simp only [sN]; rw [sN_congr (fun i hi => h i (by omega)), h k (by omega)]
theorem cn_congr {f g : Nat → Bool} : ∀ {k : Nat}, (∀ i, i < k → f i = g i) → cn f k = cn g k
  | 0, _ => rfl
  | k + 1, h => by simp only [cn]; rw [cn_congr (fun i hi => h i (by omega)), h k (by omega)]
theorem mxF_congr {f g : Nat → Nat} : ∀ {k : Nat}, (∀ i, i < k → f i = g i) → mxF f k = mxF g k
  | 0, _ => rfl
  | k + 1, h => by simp only [mxF]; rw [mxF_congr (fun i hi => h i (by omega)), h k (by omega)]
theorem mxF_le {f : Nat → Nat} {m : Nat} : ∀ {k : Nat}, (∀ i, i < k → f i ≤ m) → mxF f k ≤ m
  | 0, _ => Nat.zero_le _
  | k + 1, h => by simp only [mxF]; exact Nat.max_le.mpr ⟨mxF_le (fun i hi => h i (by omega)), h k (by omega)⟩
theorem cn_le (f : Nat → Bool) : ∀ k, cn f k ≤ k
  | 0 => Nat.le_refl _
  | k + 1 => by have := cn_le f k; simp only [cn]; split <;> omega
theorem tb_add {a k i : Nat} (h : a < 2 ^ k) : (a + 2 ^ k).testBit i = (decide (i = k) || a.testBit i) := by
  rw [Nat.add_comm]
  by_cases e : i = k
  · subst e
    rw [Nat.testBit_two_pow_add_eq]
    simp [Nat.testBit_lt_two_pow h]
  · rcases Nat.lt_or_ge i k with q | q
    · rw [Nat.testBit_two_pow_add_gt q]; simp [e]
    · have h1 : 2 ^ k + a < 2 ^ i := by
        have : 2 ^ (k + 1) ≤ 2 ^ i := Nat.pow_le_pow_right (by decide) (by omega)
        rw [Nat.pow_succ] at this; omega
      rw [Nat.testBit_lt_two_pow h1, Nat.testBit_lt_two_pow (by omega : a < 2 ^ i)]
      simp [e]
theorem sN_bit (f : Nat → Bool) : ∀ (k i : Nat), (sN f k).testBit i = (decide (i < k) && f i)
  | 0, i => by simp [sN]
  | k + 1, i => by
    simp only [sN]
    have ih := sN_bit f k i
    by_cases hf : f k = true
    · rw [if_pos hf, tb_add (sN_lt f k), ih]
      by_cases e : i = k
      · subst e; simp [hf]
      · by_cases q : i < k
        · simp [e, q, show i < k + 1 by omega]
        · simp [e, q, show ¬ i < k + 1 by omega]
    · rw [if_neg hf, Nat.add_zero, ih]
      by_cases e : i = k
      · subst e; simp [hf]
      · by_cases q : i < k
        · simp [q, show i < k + 1 by omega]
        · simp [q, show ¬ i < k + 1 by omega]
theorem sb_nat : ∀ e, e < 31 → (sB (nI e)) = nI (2 ^ e) := by decide +kernel
theorem nI_bv (n : Nat) : (nI n).toBitVec = BitVec.ofNat 32 n := rfl
theorem nI_and (a b : Nat) : nI a &&& nI b = nI (a &&& b) := by
  apply Int32.toBitVec_inj.mp
  show (nI a).toBitVec &&& (nI b).toBitVec = _
  rw [nI_bv, nI_bv, nI_bv]
  apply BitVec.eq_of_toNat_eq
  simp [BitVec.toNat_and, BitVec.toNat_ofNat, Nat.and_mod_two_pow]
theorem nI_or (a b : Nat) : nI a ||| nI b = nI (a ||| b) := by
  apply Int32.toBitVec_inj.mp
  show (nI a).toBitVec ||| (nI b).toBitVec = _
  rw [nI_bv, nI_bv, nI_bv]
  apply BitVec.eq_of_toNat_eq
  simp [BitVec.toNat_or, BitVec.toNat_ofNat, Nat.or_mod_two_pow]
theorem nat_or_add {a k : Nat} (h : a < 2 ^ k) : a ||| 2 ^ k = a + 2 ^ k := by
  apply Nat.eq_of_testBit_eq
  intro i
  rw [tb_add h, Nat.testBit_or, Nat.testBit_two_pow]
  by_cases e : i = k
  · subst e; simp
  · simp [e, Ne.symm e]
theorem or_sb {S e : Nat} (h : S < 2 ^ e) (he : e < 31) : nI S ||| sB (nI e) = nI (S + 2 ^ e) := by rw [sb_nat e he, nI_or, nat_or_add h]
theorem nat_and_pow (S e : Nat) : S &&& 2 ^ e = if S.testBit e then 2 ^ e else 0 := by
  apply Nat.eq_of_testBit_eq
  intro i
  rw [Nat.testBit_and, Nat.testBit_two_pow]
  by_cases h : S.testBit e = true
  · rw [if_pos h, Nat.testBit_two_pow]
    by_cases q : e = i
    · subst q; simp [h]
    · simp [q]
  · rw [if_neg h, Nat.zero_testBit]
    by_cases q : e = i
    · subst q; simp at h; simp [h]
    · simp [q]
theorem and_sb {S e : Nat} (he : e < 31) : (nI S &&& sB (nI e)) = 0 ↔ S.testBit e = false := by
  rw [sb_nat e he, nI_and, nat_and_pow]
  have h2 : (2 : Nat) ^ e < 2 ^ 31 := Nat.pow_lt_pow_right (by decide) he
  by_cases h : S.testBit e = true
  · rw [if_pos h]
    simp only [h]
    constructor
    · intro q
      exact absurd q (nI_ne0 (Nat.two_pow_pos e) h2)
    · intro q; cases q
  · rw [if_neg h]
    simp at h
    simp [h, nI]
theorem mmaxN {a b : Nat} (ha : a < 2 ^ 31) (hb : b < 2 ^ 31) : (if nI a < nI b then nI b else nI a) = nI (max a b) := by
  by_cases h : a < b
  · rw [if_pos (nI_lt h hb), Nat.max_eq_right (by omega)]
  · rw [if_neg (nI_nlt (by omega) ha), Nat.max_eq_left (by omega)]
theorem mminN {a b : Nat} (ha : a < 2 ^ 31) (hb : b < 2 ^ 31) : (if nI b < nI a then nI b else nI a) = nI (min a b) := by
  by_cases h : b < a
  · rw [if_pos (nI_lt h ha), Nat.min_eq_right (by omega)]
  · rw [if_neg (nI_nlt (by omega) hb), Nat.min_eq_left (by omega)]
/-! what tables need of one another, levels, packing -/
def ndR (wE rE kL rL wL : Int32) : Nat := if wE &&& sB kL ≠ 0 then 3 else if wE &&& (rL ||| wL) ≠ 0 then 2 else if wL &&& rE ≠ 0 then 1 else 0
def nd (σ : Mem) (e t : Nat) : Nat := ndR (wrS σ e) (rdS σ e) (σ 11 t) (rdS σ t) (wrS σ t)
theorem nd_le (σ : Mem) (e t : Nat) : nd σ e t ≤ 3 := by unfold nd ndR; split <;> (try split) <;> (try split) <;> omega
def mfF (σ : Mem) (t e : Nat) : Bool := decide (2 ≤ nd σ e t)
def mjF (σ : Mem) (t e : Nat) : Bool := decide (nd σ e t = 1)
def lvA (σ : Mem) : Nat → Nat → Nat
  | 0 => fun _ => 0
  | t + 1 => fun i => if i = t then mxF (fun e => if 2 ≤ nd σ e t then lvA σ t e + 1 else 0) t else lvA σ t i
def lev (σ : Mem) (t : Nat) : Nat := lvA σ (t + 1) t
theorem lvA_lev (σ : Mem) : ∀ (s e : Nat), e < s → lvA σ s e = lev σ e
  | 0, _, h => absurd h (Nat.not_lt_zero _)
  | s + 1, e, h => by
    by_cases q : e = s
    · subst q; rfl
    · simp only [lvA]; rw [if_neg q]; exact lvA_lev σ s e (by omega)
def lvP (σ : Mem) (t j : Nat) : Nat := mxF (fun e => if 2 ≤ nd σ e t then lev σ e + 1 else 0) j
theorem lev_eq (σ : Mem) (t : Nat) : lev σ t = lvP σ t t := by
  unfold lev lvP
  simp only [lvA, if_true]
  exact mxF_congr fun e he => by rw [lvA_lev σ t e he]
theorem lev_le (σ : Mem) : ∀ (s t : Nat), t < s → lev σ t ≤ t
  | 0, _, h => absurd h (Nat.not_lt_zero _)
  | s + 1, t, h => by
    rw [lev_eq]
    unfold lvP
    refine mxF_le fun e he => ?_
    have := lev_le σ s e (by omega)
    split <;> omega
def ru (σ : Mem) (i : Nat) : Nat := (σ 19 i).toNatClampNeg
def lsP (σ : Mem) (pl : Nat → Nat) (t j : Nat) : Nat := mxF (fun e => if 2 ≤ nd σ e t then pl e + 1 else if nd σ e t = 1 then pl e else 0) j
def atF (pl : Nat → Nat) (s : Nat) (e : Nat) : Bool := decide (pl e = s)
def szP (σ : Mem) (pl : Nat → Nat) (s : Nat) : Nat → Nat
  | 0 => 0
  | t + 1 => szP σ pl s t + (if pl t = s then en σ t + 1 else 0)
abbrev ftS (σ : Mem) (pl : Nat → Nat) (t s : Nat) : Prop := cn (atF pl s) t < ru σ 1 ∧ szP σ pl s t + (en σ t + 1) ≤ ru σ 0
def srch (σ : Mem) (pl : Nat → Nat) (t : Nat) : Nat → Nat → Option Nat
  | 0, _ => none
  | d + 1, s => if ftS σ pl t s then some s else srch σ pl t d (s + 1)
def pkS (σ : Mem) : Nat → Option (Nat → Nat)
  | 0 => some (fun _ => 0)
  | t + 1 => match pkS σ t with
    | none => none
    | some pl => match srch σ pl t (ru σ 2 - lsP σ pl t t) (lsP σ pl t t) with
      | none => none
      | some s => some (fun i => if i = t then s else pl i)
theorem pkS_n {σ : Mem} {t : Nat} (h : pkS σ t = none) : pkS σ (t + 1) = none := by simp only [pkS]; rw [h]
theorem pkS_no {σ : Mem} {t : Nat} {pl : Nat → Nat} (h : pkS σ t = some pl) (g : srch σ pl t (ru σ 2 - lsP σ pl t t) (lsP σ pl t t) = none) : pkS σ (t + 1) = none := by simp only [pkS]; rw [h]; dsimp only; rw [g]
theorem pkS_so {σ : Mem} {t s : Nat} {pl : Nat → Nat} (h : pkS σ t = some pl) (g : srch σ pl t (ru σ 2 - lsP σ pl t t) (lsP σ pl t t) = some s) : pkS σ (t + 1) = some (fun i => if i = t then s else pl i) := by simp only [pkS]; rw [h]; dsimp only; rw [g]
theorem pkS_none_le {σ : Mem} {t u : Nat} (h : pkS σ t = none) (hu : t ≤ u) : pkS σ u = none := by
  induction u with
  | zero => rw [show t = 0 by omega] at h; exact h
  | succ u ih =>
    by_cases e : t = u + 1
    · rw [← e]; exact h
    · exact pkS_n (ih (by omega))
theorem srch_hit {σ : Mem} {pl : Nat → Nat} {t : Nat} : ∀ (d s s1 : Nat), s ≤ s1 → s1 < s + d → ftS σ pl t s1 → (∀ a, s ≤ a → a < s1 → ¬ ftS σ pl t a) → srch σ pl t d s = some s1 := by
  intro d
  induction d with
  | zero => intro s s1 h1 h2; omega
  | succ d ih =>
    intro s s1 h1 h2 h3 h4
    simp only [srch]
    by_cases e : s = s1
    · subst e; rw [if_pos h3]
    · rw [if_neg (h4 s (by omega) (by omega))]
      exact ih (s + 1) s1 (by omega) (by omega) h3 (fun a ha hb => h4 a (by omega) hb)
theorem srch_miss {σ : Mem} {pl : Nat → Nat} {t : Nat} : ∀ (d s : Nat), (∀ a, s ≤ a → a < s + d → ¬ ftS σ pl t a) → srch σ pl t d s = none := by
  intro d
  induction d with
  | zero => intro s _; rfl
  | succ d ih =>
    intro s h
    simp only [srch]
    rw [if_neg (h s (by omega) (by omega))]
    exact ih (s + 1) (fun a ha hb => h a (by omega) (by omega))
theorem szP_le {σ : Mem} {pl : Nat → Nat} {s : Nat} : ∀ {t : Nat}, (∀ e, e < t → en σ e ≤ 4) → szP σ pl s t ≤ 5 * t
  | 0, _ => Nat.le_refl _
  | t + 1, h => by
    have := szP_le (σ := σ) (pl := pl) (s := s) (fun e he => h e (Nat.lt_succ_of_lt he))
    have := h t (Nat.lt_succ_self t)
    simp only [szP]; split <;> omega
theorem szP_congr {σ : Mem} {pl pl' : Nat → Nat} {s : Nat} : ∀ {t : Nat}, (∀ e, e < t → pl' e = pl e) → szP σ pl' s t = szP σ pl s t
  | 0, _ => rfl
  | t + 1, h => by simp only [szP]; rw [szP_congr (fun e he => h e (Nat.lt_succ_of_lt he)), h t (Nat.lt_succ_self t)]
theorem wf_ru {σ : Mem} (hw : WF σ) : (∀ i, i < 4 → σ 19 i = nI (ru σ i)) ∧ (5 ≤ ru σ 0 ∧ ru σ 0 ≤ 20) ∧ (1 ≤ ru σ 1 ∧ ru σ 1 ≤ 4) ∧ (1 ≤ ru σ 2 ∧ ru σ 2 ≤ 8) ∧ 1 ≤ ru σ 3 ∧ ru σ 3 ≤ 4 := by
  obtain ⟨-, -, -, -, ⟨r0, r1, r2, r3⟩, -⟩ := hw
  have key : ∀ i, 0 ≤ (σ 19 i).toInt → (σ 19 i).toInt = ((ru σ i : Nat) : Int) := fun i h => by unfold ru; show _ = (((σ 19 i).toInt.toNat : Nat) : Int); omega
  have k0 := key 0 (by omega)
  have k1 := key 1 (by omega)
  have k2 := key 2 (by omega)
  have k3 := key 3 (by omega)
  refine ⟨fun i hi => ?_, by omega, by omega, by omega, by omega, by omega⟩
  match i, hi with
  | 0, _ => exact i32_eq (by omega) k0
  | 1, _ => exact i32_eq (by omega) k1
  | 2, _ => exact i32_eq (by omega) k2
  | 3, _ => exact i32_eq (by omega) k3
  | i + 4, h => omega
