/-! bits (the family bt, pasted) -/
def bt (x : Int32) (i : Nat) : Bool := x.toBitVec.getLsbD i
theorem b_ext {x y : Int32} (h : ∀ i, i < 32 → bt x i = bt y i) : x = y := Int32.toBitVec_inj.mp (BitVec.eq_of_getLsbD_eq (fun i hi => h i hi))
theorem b_or (x y : Int32) (i : Nat) : bt (x ||| y) i = (bt x i || bt y i) := by unfold bt; rw [Int32.toBitVec_or, BitVec.getLsbD_or]
theorem b_and (x y : Int32) (i : Nat) : bt (x &&& y) i = (bt x i && bt y i) := by unfold bt; rw [Int32.toBitVec_and, BitVec.getLsbD_and]
theorem b_xor (x y : Int32) (i : Nat) : bt (x ^^^ y) i = (bt x i ^^ bt y i) := by unfold bt; rw [Int32.toBitVec_xor, BitVec.getLsbD_xor]
theorem b_big {x : Int32} {i : Nat} (h : 32 ≤ i) : bt x i = false := BitVec.getLsbD_of_ge _ _ h
theorem b_255 (i : Nat) : bt 255 i = decide (i < 8) := by
  rcases Nat.lt_or_ge i 32 with h | h
  · exact (by decide +kernel : ∀ i, i < 32 → bt 255 i = decide (i < 8)) i h
  · rw [b_big h, decide_eq_false (by omega)]
theorem b_65535 (i : Nat) : bt 65535 i = decide (i < 16) := by
  rcases Nat.lt_or_ge i 32 with h | h
  · exact (by decide +kernel : ∀ i, i < 32 → bt 65535 i = decide (i < 16)) i h
  · rw [b_big h, decide_eq_false (by omega)]
theorem b_m1 : ∀ i, i < 32 → bt (-1) i = true := by decide +kernel
theorem b_0 (i : Nat) : bt 0 i = false := BitVec.getLsbD_zero
theorem s_l : ∀ n, n < 32 → ((nI n &&& 31).toBitVec.smod 32).toNat = n := by decide +kernel
theorem s_u : ∀ n, n < 32 → (((nI n).toUInt32 &&& Int32.toUInt32 31).toBitVec % 32).toNat = n := by decide +kernel
theorem b_shl (n : Nat) (hn : n < 32) (x : Int32) {i : Nat} (hi : i < 32) : bt (x <<< (nI n &&& 31)) i = (decide (n ≤ i) && bt x (i - n)) := by
  unfold bt
  rw [Int32.toBitVec_shiftLeft]
  show (x.toBitVec <<< ((nI n &&& 31).toBitVec.smod 32).toNat).getLsbD i = _
  rw [s_l n hn, BitVec.getLsbD_shiftLeft]
  rcases Nat.lt_or_ge i n with h | h
  · simp [h, Nat.not_le.mpr h]
  · simp [hi, h, Nat.not_lt.mpr h]
theorem b_ushr (n : Nat) (hn : n < 32) (x : Int32) (i : Nat) : bt ((x.toUInt32 >>> ((nI n).toUInt32 &&& Int32.toUInt32 31)).toInt32) i = bt x (n + i) := by
  show (x.toUInt32 >>> ((nI n).toUInt32 &&& Int32.toUInt32 31)).toBitVec.getLsbD i = x.toUInt32.toBitVec.getLsbD (n + i)
  rw [UInt32.toBitVec_shiftRight]
  show (x.toUInt32.toBitVec >>> (((nI n).toUInt32 &&& Int32.toUInt32 31).toBitVec % 32).toNat).getLsbD i = _
  rw [s_u n hn, BitVec.getLsbD_ushiftRight]
theorem b_sshr (n : Nat) (hn : n < 32) (x : Int32) {i : Nat} (hi : i < 32) : bt (x >>> (nI n &&& 31)) i = if n + i < 32 then bt x (n + i) else bt x 31 := by
  unfold bt
  rw [Int32.toBitVec_shiftRight]
  show (x.toBitVec.sshiftRight ((nI n &&& 31).toBitVec.smod 32).toNat).getLsbD i = _
  rw [s_l n hn, BitVec.getLsbD_sshiftRight, BitVec.msb_eq_getLsbD_last]
  simp [hi]
/-- a bit of s, by a shift and by a mask -/
theorem has_sb {z : Int32} {j : Nat} (hj : j < 31) : ((z >>> (nI j &&& 31)) &&& nI 1 = nI 1) ↔ z &&& sB (nI j) ≠ 0 := by
  have h1 : ∀ i, i < 32 → bt (nI 1) i = decide (i = 0) := by decide +kernel
  have hL : ((z >>> (nI j &&& 31)) &&& nI 1 = nI 1) ↔ bt z j = true := by
    constructor
    · intro h
      have := congrArg (fun x => bt x 0) h
      simp only [b_and, b_sshr j (by omega) z (show 0 < 32 by decide), h1 0 (by decide)] at this
      rw [if_pos (by omega)] at this
      simpa using this
    · intro h
      refine b_ext fun i hi => ?_
      rw [b_and, h1 i hi, b_sshr j (by omega) z hi]
      by_cases e : i = 0
      · subst e; rw [if_pos (by omega)]; simp [h]
      · simp [e]
  have hR : z &&& sB (nI j) = 0 ↔ bt z j = false := by
    constructor
    · intro h
      have := congrArg (fun x => bt x j) h
      simp only [b_and, b_0, sB, b_shl j (by omega) (nI 1) (show j < 32 by omega), Nat.sub_self, h1 0 (by decide)] at this
      simpa using this
    · intro h
      refine b_ext fun i hi => ?_
      rw [b_and, b_0, sB, b_shl j (by omega) (nI 1) hi]
      by_cases e : i = j
      · subst e; simp [h]
      · by_cases q : j ≤ i
        · rw [h1 (i - j) (by omega)]; simp [show ¬ i - j = 0 by omega]
        · simp [q]
  rw [hL, Ne, hR]; simp
theorem has_nI {S j : Nat} (hj : j < 31) : (nI S >>> (nI j &&& 31)) &&& nI 1 = nI (if S.testBit j then 1 else 0) := by
  by_cases h : S.testBit j = true
  · rw [if_pos h]
    refine (has_sb hj).mpr fun q => ?_
    rw [(and_sb hj).mp q] at h; cases h
  · rw [if_neg h]
    have h0 : (nI S &&& sB (nI j)) = 0 := (and_sb hj).mpr (by simpa using h)
    have h1 : ∀ i, i < 32 → bt (nI 1) i = decide (i = 0) := by decide +kernel
    refine b_ext fun i hi => ?_
    have hz : bt (nI 0) i = false := b_0 i
    rw [b_and, h1 i hi, b_sshr j (by omega) _ hi, hz]
    by_cases e : i = 0
    · subst e
      rw [if_pos (by omega)]
      have := congrArg (fun x => bt x j) h0
      simp only [b_and, b_0, sB, b_shl j (by omega) (nI 1) (show j < 32 by omega), Nat.sub_self, h1 0 (by decide)] at this
      simpa using this
    · simp [e]
theorem or_and_0 {a b z : Int32} : (a ||| b) &&& z = 0 ↔ a &&& z = 0 ∧ b &&& z = 0 := by
  constructor
  · intro h
    have hh : ∀ i, i < 32 → (bt a i || bt b i) = true → bt z i = false := fun i hi q => by
      have := congrArg (fun x => bt x i) h
      simp only [b_and, b_or, b_0] at this
      cases hz : bt z i
      · rfl
      · rw [hz, q] at this; cases this
    refine ⟨b_ext fun i hi => ?_, b_ext fun i hi => ?_⟩
    · rw [b_and, b_0]; cases ha : bt a i
      · rfl
      · rw [hh i hi (by rw [ha]; rfl)]; rfl
    · rw [b_and, b_0]; cases hb : bt b i
      · rfl
      · rw [hh i hi (by rw [hb]; simp)]; rfl
  · intro h
    refine b_ext fun i hi => ?_
    have h1 := congrArg (fun x => bt x i) h.1
    have h2 := congrArg (fun x => bt x i) h.2
    simp only [b_and, b_0] at h1 h2
    rw [b_and, b_or, b_0]
    cases hz : bt z i
    · simp
    · rw [hz] at h1 h2; simp at h1 h2; simp [h1, h2]
theorem nI0_and (z : Int32) : nI 0 &&& z = 0 := b_ext fun i hi => by rw [b_and, b_0, show bt (nI 0) i = false from b_0 i]; rfl
theorem or_nI0 (z : Int32) : z ||| nI 0 = z := b_ext fun i hi => by rw [b_or, show bt (nI 0) i = false from b_0 i]; simp
theorem or_asc (a b d : Int32) : a ||| b ||| d = a ||| (b ||| d) := b_ext fun i hi => by rw [b_or, b_or, b_or, b_or, Bool.or_assoc]
theorem or_com (a b : Int32) : a ||| b = b ||| a := b_ext fun i hi => by rw [b_or, b_or, Bool.or_comm]
theorem tkO_iff {σ : Mem} {t0 : Nat} {z : Int32} : ∀ (n : Nat), tkO σ t0 n &&& z ≠ 0 ↔ ∃ k, k < n ∧ k ≠ t0 ∧ rgS σ k &&& z ≠ 0
  | 0 => by
    constructor
    · intro h; exact absurd (nI0_and z) h
    · intro ⟨k, hk, _⟩; omega
  | n + 1 => by
    have ih := tkO_iff (σ := σ) (t0 := t0) (z := z) n
    have e : tkO σ t0 (n + 1) = tkO σ t0 n ||| (if n = t0 then nI 0 else rgS σ n) := rfl
    rw [e, Ne, or_and_0]
    constructor
    · intro h
      by_cases q : tkO σ t0 n &&& z = 0
      · have q2 : ¬ (if n = t0 then nI 0 else rgS σ n) &&& z = 0 := fun w => h ⟨q, w⟩
        by_cases w : n = t0
        · rw [if_pos w] at q2; exact absurd (nI0_and z) q2
        · rw [if_neg w] at q2; exact ⟨n, by omega, w, q2⟩
      · obtain ⟨k, h1, h2⟩ := ih.mp q; exact ⟨k, by omega, h2⟩
    · intro ⟨k, h1, h2, h3⟩ ⟨g1, g2⟩
      by_cases q : k = n
      · subst q; rw [if_neg h2] at g2; exact h3 g2
      · exact ih.mpr ⟨k, by omega, h2, h3⟩ g1
/-! THE SPEC: what each call answers and does to the abstract state -/
abbrev isTb (σ : Mem) (t : Int32) : Prop := 0 ≤ t.toInt ∧ t.toInt < (mn σ : Int)
abbrev isFd (f : Int32) : Prop := 0 ≤ f.toInt ∧ f.toInt < 6
abbrev tn (t : Int32) : Nat := t.toNatClampNeg
def layS (σ : Mem) (w : Nat) (k t x : Int32) : Mem := up2 (up2 (up2 σ 14 w k) 15 w (mq k t)) 16 w (mq k x)
def sTable (σ : Mem) (k : Int32) : Int32 × Mem := if isFd k then (if mn σ = 8 then (-4, σ) else (nI (mn σ), up2 (layS (up2 (up2 σ 11 (mn σ) k) 12 (mn σ) (nI 0)) (5 * mn σ + 4) (nI 0) (nI 0) (nI 0)) 10 0 (nI (mn σ + 1)))) else (-1, σ)
def sEntry (σ : Mem) (t v k g x : Int32) : Int32 × Mem := if isTb σ t then (if (0 ≤ v.toInt ∧ v.toInt ≤ 255) ∧ okA k g x then (if fnd (fun e => σ 13 (5 * tn t + e)) v (en σ (tn t)) 0 ≠ 4 ∨ (hrg k ∧ tk σ (tn t) x) then (-5, σ) else if en σ (tn t) = 4 then (-4, σ) else (nI (en σ (tn t) + 1), up2 (layS (up2 σ 13 (5 * tn t + en σ (tn t)) v) (5 * tn t + en σ (tn t)) k g x) 12 (tn t) (nI (en σ (tn t) + 1)))) else (-2, σ)) else (-1, σ)
def sOther (σ : Mem) (t k g x : Int32) : Int32 × Mem := if isTb σ t then (if okA k g x then (if hrg k ∧ tk σ (tn t) x then (-5, σ) else (σ 14 (5 * tn t + 4), layS σ (5 * tn t + 4) k g x)) else (-2, σ)) else (-1, σ)
def fgU (σ : Mem) (u e0 n : Nat) : Mem := fun a i => if a = 12 ∧ i = u then nI (n - 1) else if (13 ≤ a ∧ a ≤ 16) ∧ 5 * u + e0 ≤ i ∧ i < 5 * u + (n - 1) then σ a (i + 1) else σ a i
def sForget (σ : Mem) (t e : Int32) : Int32 × Mem := if isTb σ t then (if 0 ≤ e.toInt ∧ e.toInt < (en σ (tn t) : Int) then (nI (en σ (tn t) - 1), fgU σ (tn t) (tn e) (en σ (tn t))) else (-2, σ)) else (-1, σ)
def drU (σ : Mem) (u n : Nat) : Mem := fun a i => if a = 10 ∧ i = 0 then nI (n - 1) else if (a = 11 ∨ a = 12) ∧ u ≤ i ∧ i < n - 1 then σ a (i + 1) else if (13 ≤ a ∧ a ≤ 16) ∧ 5 * u ≤ i ∧ i < 5 * (n - 1) then σ a (i + 5) else σ a i
def sDrop (σ : Mem) (t : Int32) : Int32 × Mem := if isTb σ t then (nI (mn σ - 1), drU σ (tn t) (mn σ)) else (-1, σ)
def ruL (w : Int32) : Int := if w.toInt = 0 then 5 else 1
def ruH (w : Int32) : Int := if w.toInt = 0 then 20 else if w.toInt = 2 then 8 else 4
def sRule (σ : Mem) (w n : Int32) : Int32 × Mem := if (0 ≤ w.toInt ∧ w.toInt < 4) ∧ (ruL w ≤ n.toInt ∧ n.toInt ≤ ruH w) then (σ 19 (tn w), up2 σ 19 (tn w) n) else (-2, σ)
def sTell (σ : Mem) (f n : Int32) : Int32 × Mem := if isFd f then (if 0 ≤ n.toInt ∧ n.toInt ≤ 255 then (σ 18 (tn f), up2 σ 18 (tn f) n) else (-2, σ)) else (-1, σ)
def sPut (σ : Mem) (r n : Int32) : Int32 × Mem := if 0 ≤ r.toInt ∧ r.toInt < 4 then (if 0 ≤ n.toInt ∧ n.toInt ≤ 65535 then (σ 17 (tn r), up2 σ 17 (tn r) n) else (-2, σ)) else (-1, σ)
def sReg (σ : Mem) (r : Int32) : Int32 := if 0 ≤ r.toInt ∧ r.toInt < 4 then σ 17 (tn r) else -1
/-- the reference at role 10 -/
def IsM (K : Nat → Nat) (L : Nat → Nat → Bool) : Prop := K 10 = 8 ∧ L 10 1 = true ∧ L 10 2 = true ∧ L 10 3 = true ∧ L 10 4 = true ∧ L 10 5 = true ∧ L 10 6 = true ∧ L 10 7 = true ∧ L 10 8 = true ∧ L 10 9 = true ∧ L 10 10 = true ∧ L 10 11 = true ∧ L 10 12 = true ∧ L 10 13 = true ∧ L 10 14 = true ∧ L 10 15 = true ∧ L 10 16 = true ∧ L 10 17 = true ∧ L 10 21 = true ∧ L 10 25 = true ∧ L 10 26 = true ∧ K 11 = 108 ∧ K 12 = 108 ∧ K 13 = 140 ∧ K 14 = 140 ∧ K 15 = 140 ∧ K 16 = 140 ∧ K 17 = 104 ∧ K 18 = 106 ∧ K 19 = 104 ∧ K 20 = 108 ∧ K 21 = 108 ∧ K 22 = 108 ∧ K 23 = 108 ∧ K 24 = 356 ∧ K 25 = 108 ∧ K 26 = 108 ∧ K 27 = 106 ∧ K 31 = 132 ∧ K 35 = 482 ∧ K 36 = 15
theorem rd_or {o A B kd tg nm : Int32} (hA : A = if kd.toInt = 2 ∨ kd.toInt = 4 then sB nm else nI 0) (hB : B = if kd.toInt = 3 ∨ kd.toInt = 4 ∨ kd.toInt = 6 ∨ kd.toInt = 7 then sB tg else nI 0) : o ||| A ||| B = o ||| rdA kd tg nm := by
  rw [or_asc, hA, hB]
  congr 1
  unfold rdA
  by_cases h2 : kd.toInt = 2
  · rw [if_pos (by omega), if_neg (by omega), if_pos h2, or_nI0]
  · by_cases h4 : kd.toInt = 4
    · rw [if_pos (by omega), if_pos (by omega), if_neg h2, if_neg (by omega), if_pos h4, or_com]
    · by_cases h3 : kd.toInt = 3 ∨ kd.toInt = 6 ∨ kd.toInt = 7
      · rw [if_neg (by omega), if_pos (by omega), if_neg h2, if_pos h3, or_com, or_nI0]
      · rw [if_neg (by omega), if_neg (by omega), if_neg h2, if_neg h3, if_neg h4, or_nI0]
theorem en_cong {I J : Mem} {t : Nat} (h : J 12 = I 12) : en J t = en I t := by unfold en; rw [h]
theorem mn_cong {I J : Mem} (h : J 10 0 = I 10 0) : mn J = mn I := by unfold mn; rw [h]
theorem nd_cong {I J : Mem} {e t : Nat} (h : ∀ a, 11 ≤ a → a ≤ 16 → J a = I a) : nd J e t = nd I e t := by
  unfold nd wrS rdS
  rw [en_cong (h 12 (by decide) (by decide)), en_cong (h 12 (by decide) (by decide)), h 11 (by decide) (by decide), h 14 (by decide) (by decide), h 15 (by decide) (by decide), h 16 (by decide) (by decide)]
theorem WFt_cong {I J : Mem} {t : Nat} (h : ∀ a, 11 ≤ a → a ≤ 16 → J a = I a) (H : WFt I t) : WFt J t := by
  unfold WFt at *
  rw [en_cong (h 12 (by decide) (by decide)), h 11 (by decide) (by decide), h 12 (by decide) (by decide), h 13 (by decide) (by decide), h 14 (by decide) (by decide), h 15 (by decide) (by decide), h 16 (by decide) (by decide)]
  exact H
/-- the last place that holds v, where no two places hold the same, is the first -/
theorem fnd_one {f : Nat → Int32} {v : Int32} {n i : Nat} (hd : ∀ a b, a < n → b < n → f a = f b → a = b) (hi : i < n) (h : f i = v) : fnd f v n 0 = i := fnd_hit n 0 i (Nat.zero_le _) (by omega) h (fun a _ h2 q => absurd (hd a i (by omega) hi (q.trans h.symm)) (by omega))
theorem fnd_le4 {f : Nat → Int32} {v : Int32} : ∀ (k i : Nat), i + k ≤ 4 → (fnd f v k i = 4 ∨ (i ≤ fnd f v k i ∧ fnd f v k i < i + k ∧ f (fnd f v k i) = v))
  | 0, _, _ => Or.inl rfl
  | k + 1, i, h => by
    simp only [fnd]
    by_cases q : f i = v
    · rw [if_pos q]; exact Or.inr ⟨Nat.le_refl _, by omega, q⟩
    · rw [if_neg q]
      rcases fnd_le4 (f := f) (v := v) k (i + 1) (by omega) with w | ⟨w1, w2, w3⟩
      · exact Or.inl w
      · exact Or.inr ⟨by omega, by omega, w3⟩
def cp4 (I : Mem) (f t : Nat) : Mem := up2 (up2 (up2 (up2 I 13 t (I 13 f)) 14 t (I 14 f)) 15 t (I 15 f)) 16 t (I 16 f)
theorem cp4_eq (I : Mem) (f t a i : Nat) : cp4 I f t a i = if (13 ≤ a ∧ a ≤ 16) ∧ i = t then I a f else I a i := by
  unfold cp4
  simp only [up2_eq]
  by_cases h : (13 ≤ a ∧ a ≤ 16) ∧ i = t
  · rw [if_pos h]
    obtain ⟨⟨h1, h2⟩, rfl⟩ := h
    rcases (show a = 13 ∨ a = 14 ∨ a = 15 ∨ a = 16 by omega) with rfl | rfl | rfl | rfl <;> simp
  · rw [if_neg h, if_neg (by omega), if_neg (by omega), if_neg (by omega), if_neg (by omega)]
def FG (I : Mem) (u e0 n j : Nat) : Mem := fun a i => if a = 12 ∧ i = u then nI (n - 1) else if (13 ≤ a ∧ a ≤ 16) ∧ 5 * u + e0 ≤ i ∧ i < 5 * u + j then I a (i + 1) else I a i
theorem FG_0 (I : Mem) (u e0 n : Nat) : up2 I 12 u (nI (n - 1)) = FG I u e0 n e0 := by
  funext a i
  simp only [up2_eq, FG]
  by_cases h : a = 12 ∧ i = u
  · rw [if_pos h, if_pos h]
  · rw [if_neg h, if_neg h, if_neg (by omega)]
theorem FG_s {I : Mem} {u e0 n j : Nat} (h0 : e0 ≤ j) : cp4 (FG I u e0 n j) (5 * u + j + 1) (5 * u + j) = FG I u e0 n (j + 1) := by
  funext a i
  rw [cp4_eq]
  simp only [FG]
  by_cases h : (13 ≤ a ∧ a ≤ 16) ∧ i = 5 * u + j
  · rw [if_pos h, if_neg (by omega), if_neg (by omega), if_neg (by omega), if_pos (by omega), h.2]
  · rw [if_neg h]
    by_cases q : a = 12 ∧ i = u
    · rw [if_pos q, if_pos q]
    · rw [if_neg q, if_neg q]
      by_cases w : (13 ≤ a ∧ a ≤ 16) ∧ 5 * u + e0 ≤ i ∧ i < 5 * u + j
      · rw [if_pos w, if_pos (by omega)]
      · rw [if_neg w, if_neg (by omega)]
def DR (I : Mem) (u n k q : Nat) : Mem := fun a i => if a = 10 ∧ i = 0 then nI (n - 1) else if (a = 11 ∨ a = 12) ∧ u ≤ i ∧ i < k then I a (i + 1) else if (13 ≤ a ∧ a ≤ 16) ∧ 5 * u ≤ i ∧ i < q then I a (i + 5) else I a i
theorem DR_0 (I : Mem) (u n : Nat) : up2 I 10 0 (nI (n - 1)) = DR I u n u (5 * u) := by
  funext a i
  simp only [up2_eq, DR]
  by_cases h : a = 10 ∧ i = 0
  · rw [if_pos h, if_pos h]
  · rw [if_neg h, if_neg h, if_neg (by omega), if_neg (by omega)]
theorem DR_k {I : Mem} {u n k q : Nat} (hk : u ≤ k) : up2 (up2 (DR I u n k q) 11 k (DR I u n k q 11 (k + 1))) 12 k (up2 (DR I u n k q) 11 k (DR I u n k q 11 (k + 1)) 12 (k + 1)) = DR I u n (k + 1) q := by
  funext a i
  have h11 : DR I u n k q 11 (k + 1) = I 11 (k + 1) := by simp only [DR]; rw [if_neg (by omega), if_neg (by omega), if_neg (by omega)]
  have h12 : DR I u n k q 12 (k + 1) = I 12 (k + 1) := by simp only [DR]; rw [if_neg (by omega), if_neg (by omega), if_neg (by omega)]
  rw [up2_r (show (12 : Nat) ≠ 11 by decide), h11, h12, up2_eq, up2_eq]
  by_cases h : a = 12 ∧ i = k
  · rw [if_pos h]; simp only [DR]; rw [if_neg (by omega), if_pos (by omega), h.1, h.2]
  · rw [if_neg h]
    by_cases g : a = 11 ∧ i = k
    · rw [if_pos g]; simp only [DR]; rw [if_neg (by omega), if_pos (by omega), g.1, g.2]
    · rw [if_neg g]
      simp only [DR]
      by_cases w : a = 10 ∧ i = 0
      · rw [if_pos w, if_pos w]
      · rw [if_neg w, if_neg w]
        by_cases z : (a = 11 ∨ a = 12) ∧ u ≤ i ∧ i < k
        · rw [if_pos z, if_pos (by omega)]
        · rw [if_neg z, if_neg (show ¬ ((a = 11 ∨ a = 12) ∧ u ≤ i ∧ i < k + 1) by omega)]
theorem DR_a {I : Mem} {u n k j : Nat} (hk : u ≤ k) : cp4 (DR I u n (k + 1) (5 * k + j)) (5 * k + 5 + j) (5 * k + j) = DR I u n (k + 1) (5 * k + (j + 1)) := by
  funext a i
  rw [cp4_eq]
  simp only [DR]
  by_cases h : (13 ≤ a ∧ a ≤ 16) ∧ i = 5 * k + j
  · rw [if_pos h, if_neg (by omega), if_neg (by omega), if_neg (by omega), if_neg (by omega), if_neg (by omega), if_pos (by omega), h.2, show 5 * k + 5 + j = 5 * k + j + 5 by omega]
  · rw [if_neg h]
    by_cases w : a = 10 ∧ i = 0
    · rw [if_pos w, if_pos w]
    · rw [if_neg w, if_neg w]
      by_cases z : (a = 11 ∨ a = 12) ∧ u ≤ i ∧ i < k + 1
      · rw [if_pos z, if_pos z]
      · rw [if_neg z, if_neg z]
        by_cases y : (13 ≤ a ∧ a ≤ 16) ∧ 5 * u ≤ i ∧ i < 5 * k + j
        · rw [if_pos y, if_pos (by omega)]
        · rw [if_neg y, if_neg (by omega)]
