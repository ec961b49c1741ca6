/-! packets: an act on the memory (fields at row F, registers at row G, flags at slots sd, sa of o), and on an abstract state -/
abbrev nv (x : Int32) : Nat := x.toNatClampNeg
def actM (F G o sd sa : Nat) (k t x : Int32) (I : Mem) : Mem :=
  if k.toInt = 1 then up2 I F (tn t) x
  else if k.toInt = 2 then up2 I F (tn t) (I F (tn x))
  else if k.toInt = 3 then up2 I F (tn t) (nI ((nv (I F (tn t)) + nv x) % 256))
  else if k.toInt = 4 then up2 I F (tn t) (I F (tn t) ^^^ I F (tn x))
  else if k.toInt = 5 then up2 (up2 I G (tn x) (nI ((nv (I G (tn x)) + 1) % 65536))) F (tn t) (nI (((nv (I G (tn x)) + 1) % 65536) % 256))
  else if k.toInt = 6 then (if (I G (tn x)).toInt < (I F (tn t)).toInt then up2 (up2 I G (tn x) (I F (tn t))) F (tn t) (nI 1) else up2 I F (tn t) (nI 0))
  else if k.toInt = 7 then up2 (up2 I G (tn x) (I F (tn t))) F (tn t) (nI (nv (I G (tn x)) % 256))
  else if k.toInt = 8 then up2 I o sd (nI 1)
  else if k.toInt = 9 then up2 I o sa (nI 1) else I
abbrev PSt : Type := (Nat → Int32) × (Nat → Int32) × Int32 × Int32
def actP (k t x : Int32) (S : PSt) : PSt :=
  if k.toInt = 1 then (upd S.1 (tn t) x, S.2)
  else if k.toInt = 2 then (upd S.1 (tn t) (S.1 (tn x)), S.2)
  else if k.toInt = 3 then (upd S.1 (tn t) (nI ((nv (S.1 (tn t)) + nv x) % 256)), S.2)
  else if k.toInt = 4 then (upd S.1 (tn t) (S.1 (tn t) ^^^ S.1 (tn x)), S.2)
  else if k.toInt = 5 then (upd S.1 (tn t) (nI (((nv (S.2.1 (tn x)) + 1) % 65536) % 256)), upd S.2.1 (tn x) (nI ((nv (S.2.1 (tn x)) + 1) % 65536)), S.2.2)
  else if k.toInt = 6 then (if (S.2.1 (tn x)).toInt < (S.1 (tn t)).toInt then (upd S.1 (tn t) (nI 1), upd S.2.1 (tn x) (S.1 (tn t)), S.2.2) else (upd S.1 (tn t) (nI 0), S.2))
  else if k.toInt = 7 then (upd S.1 (tn t) (nI (nv (S.2.1 (tn x)) % 256)), upd S.2.1 (tn x) (S.1 (tn t)), S.2.2)
  else if k.toInt = 8 then (S.1, S.2.1, nI 1, S.2.2.2)
  else if k.toInt = 9 then (S.1, S.2.1, S.2.2.1, nI 1) else S
def Rp (F G o sd sa : Nat) (I : Mem) (S : PSt) : Prop := (∀ j, j < 6 → I F j = S.1 j) ∧ (∀ j, j < 4 → I G j = S.2.1 j) ∧ I o sd = S.2.2.1 ∧ I o sa = S.2.2.2
def okP (S : PSt) : Prop := (∀ j, j < 6 → 0 ≤ (S.1 j).toInt ∧ (S.1 j).toInt ≤ 255) ∧ (∀ j, j < 4 → 0 ≤ (S.2.1 j).toInt ∧ (S.2.1 j).toInt ≤ 65535) ∧ (S.2.2.1 = 0 ∨ S.2.2.1 = 1) ∧ (S.2.2.2 = 0 ∨ S.2.2.2 = 1)
theorem upd_eq (f : Nat → Int32) (k : Nat) (v : Int32) (j : Nat) : upd f k v j = if j = k then v else f j := rfl
theorem nv_lt {x : Int32} {m : Nat} (h0 : 0 ≤ x.toInt) (h : x.toInt < (m : Int)) : nv x < m := by
  show x.toInt.toNat < m; omega
theorem nv_eq {x : Int32} (h0 : 0 ≤ x.toInt) : x = nI (nv x) := i32_eq (by have := Int32.toInt_lt x; show x.toInt.toNat < 2 ^ 31; omega) (by show x.toInt = ((x.toInt.toNat : Nat) : Int); omega)
theorem act_rep {F G o sd sa : Nat} {k t x : Int32} {I : Mem} {S : PSt} (hd : F ≠ G ∧ o ≠ F ∧ o ≠ G ∧ sd ≠ sa) (H : Rp F G o sd sa I S) (ok : okA k t x) : Rp F G o sd sa (actM F G o sd sa k t x I) (actP k t x S) := by
  obtain ⟨hFG, hoF, hoG, hds⟩ := hd
  obtain ⟨h1, h2, h3, h4⟩ := H
  obtain ⟨⟨k0, k9⟩, hm⟩ := ok
  have hmost : mat k → most k = (if k.toInt = 1 ∨ k.toInt = 3 then 255 else if k.toInt = 2 ∨ k.toInt = 4 then 5 else 3) := fun _ => rfl
  have ht : mat k → tn t < 6 := fun q => nv_lt (hm q).1.1 (by have := (hm q).1.2; omega)
  have hx5 : k.toInt = 2 ∨ k.toInt = 4 → tn x < 6 := fun q => by
    have := hm (by omega)
    have e : most k = 5 := by unfold most; rw [if_neg (by omega), if_pos q]
    exact nv_lt this.2.1 (by have := this.2.2; omega)
  have hx3 : 5 ≤ k.toInt ∧ k.toInt ≤ 7 → tn x < 4 := fun q => by
    have := hm (by omega)
    have e : most k = 3 := by unfold most; rw [if_neg (by omega), if_neg (by omega)]
    exact nv_lt this.2.1 (by have := this.2.2; omega)
  have fld : ∀ (I' : Mem) (v : Int32), (∀ j, j < 6 → I' F j = upd S.1 (tn t) v j) → True := fun _ _ _ => trivial
  unfold actM actP
  by_cases c1 : k.toInt = 1
  · rw [if_pos c1, if_pos c1]
    refine ⟨fun j hj => ?_, fun j hj => by rw [up2_r (Ne.symm hFG)]; exact h2 j hj, by rw [up2_r hoF]; exact h3, by rw [up2_r hoF]; exact h4⟩
    dsimp only; rw [up2_eq, upd_eq]; by_cases q : j = tn t
    · rw [if_pos ⟨rfl, q⟩, if_pos q]
    · rw [if_neg (fun w => q w.2), if_neg q]; exact h1 j hj
  rw [if_neg c1, if_neg c1]
  by_cases c2 : k.toInt = 2
  · rw [if_pos c2, if_pos c2]
    refine ⟨fun j hj => ?_, fun j hj => by rw [up2_r (Ne.symm hFG)]; exact h2 j hj, by rw [up2_r hoF]; exact h3, by rw [up2_r hoF]; exact h4⟩
    dsimp only; rw [up2_eq, upd_eq]; by_cases q : j = tn t
    · rw [if_pos ⟨rfl, q⟩, if_pos q, h1 _ (hx5 (Or.inl c2))]
    · rw [if_neg (fun w => q w.2), if_neg q]; exact h1 j hj
  rw [if_neg c2, if_neg c2]
  by_cases c3 : k.toInt = 3
  · rw [if_pos c3, if_pos c3]
    refine ⟨fun j hj => ?_, fun j hj => by rw [up2_r (Ne.symm hFG)]; exact h2 j hj, by rw [up2_r hoF]; exact h3, by rw [up2_r hoF]; exact h4⟩
    dsimp only; rw [up2_eq, upd_eq]; by_cases q : j = tn t
    · rw [if_pos ⟨rfl, q⟩, if_pos q, h1 _ (ht (by omega))]
    · rw [if_neg (fun w => q w.2), if_neg q]; exact h1 j hj
  rw [if_neg c3, if_neg c3]
  by_cases c4 : k.toInt = 4
  · rw [if_pos c4, if_pos c4]
    refine ⟨fun j hj => ?_, fun j hj => by rw [up2_r (Ne.symm hFG)]; exact h2 j hj, by rw [up2_r hoF]; exact h3, by rw [up2_r hoF]; exact h4⟩
    dsimp only; rw [up2_eq, upd_eq]; by_cases q : j = tn t
    · rw [if_pos ⟨rfl, q⟩, if_pos q, h1 _ (ht (by omega)), h1 _ (hx5 (Or.inr c4))]
    · rw [if_neg (fun w => q w.2), if_neg q]; exact h1 j hj
  rw [if_neg c4, if_neg c4]
  by_cases c5 : k.toInt = 5
  · rw [if_pos c5, if_pos c5]
    have hx := h2 _ (hx3 (by omega))
    refine ⟨fun j hj => ?_, fun j hj => ?_, by rw [up2_r hoF, up2_r hoG]; exact h3, by rw [up2_r hoF, up2_r hoG]; exact h4⟩
    · dsimp only; rw [up2_eq, upd_eq]; by_cases q : j = tn t
      · rw [if_pos ⟨rfl, q⟩, if_pos q, hx]
      · rw [if_neg (fun w => q w.2), if_neg q, up2_r hFG]; exact h1 j hj
    · dsimp only; rw [up2_r (Ne.symm hFG), up2_eq, upd_eq]; by_cases q : j = tn x
      · rw [if_pos ⟨rfl, q⟩, if_pos q, hx]
      · rw [if_neg (fun w => q w.2), if_neg q]; exact h2 j hj
  rw [if_neg c5, if_neg c5]
  by_cases c6 : k.toInt = 6
  · rw [if_pos c6, if_pos c6]
    have hx := h2 _ (hx3 (by omega))
    have htt := h1 _ (ht (by omega))
    rw [hx, htt]
    by_cases g : (S.2.1 (tn x)).toInt < (S.1 (tn t)).toInt
    · rw [if_pos g, if_pos g]
      refine ⟨fun j hj => ?_, fun j hj => ?_, by rw [up2_r hoF, up2_r hoG]; exact h3, by rw [up2_r hoF, up2_r hoG]; exact h4⟩
      · dsimp only; rw [up2_eq, upd_eq]; by_cases q : j = tn t
        · rw [if_pos ⟨rfl, q⟩, if_pos q]
        · rw [if_neg (fun w => q w.2), if_neg q, up2_r hFG]; exact h1 j hj
      · dsimp only; rw [up2_r (Ne.symm hFG), up2_eq, upd_eq]; by_cases q : j = tn x
        · rw [if_pos ⟨rfl, q⟩, if_pos q]
        · rw [if_neg (fun w => q w.2), if_neg q]; exact h2 j hj
    · rw [if_neg g, if_neg g]
      refine ⟨fun j hj => ?_, fun j hj => by rw [up2_r (Ne.symm hFG)]; exact h2 j hj, by rw [up2_r hoF]; exact h3, by rw [up2_r hoF]; exact h4⟩
      dsimp only; rw [up2_eq, upd_eq]; by_cases q : j = tn t
      · rw [if_pos ⟨rfl, q⟩, if_pos q]
      · rw [if_neg (fun w => q w.2), if_neg q]; exact h1 j hj
  rw [if_neg c6, if_neg c6]
  by_cases c7 : k.toInt = 7
  · rw [if_pos c7, if_pos c7]
    have hx := h2 _ (hx3 (by omega))
    have htt := h1 _ (ht (by omega))
    rw [hx, htt]
    refine ⟨fun j hj => ?_, fun j hj => ?_, by rw [up2_r hoF, up2_r hoG]; exact h3, by rw [up2_r hoF, up2_r hoG]; exact h4⟩
    · dsimp only; rw [up2_eq, upd_eq]; by_cases q : j = tn t
      · rw [if_pos ⟨rfl, q⟩, if_pos q]
      · rw [if_neg (fun w => q w.2), if_neg q, up2_r hFG]; exact h1 j hj
    · dsimp only; rw [up2_r (Ne.symm hFG), up2_eq, upd_eq]; by_cases q : j = tn x
      · rw [if_pos ⟨rfl, q⟩, if_pos q]
      · rw [if_neg (fun w => q w.2), if_neg q]; exact h2 j hj
  rw [if_neg c7, if_neg c7]
  by_cases c8 : k.toInt = 8
  · rw [if_pos c8, if_pos c8]
    exact ⟨fun j hj => by rw [up2_r (Ne.symm hoF)]; exact h1 j hj, fun j hj => by rw [up2_r (Ne.symm hoG)]; exact h2 j hj, up2_s _ _ _ _, by rw [up2_k (Ne.symm hds)]; exact h4⟩
  rw [if_neg c8, if_neg c8]
  by_cases c9 : k.toInt = 9
  · rw [if_pos c9, if_pos c9]
    exact ⟨fun j hj => by rw [up2_r (Ne.symm hoF)]; exact h1 j hj, fun j hj => by rw [up2_r (Ne.symm hoG)]; exact h2 j hj, by rw [up2_k hds]; exact h3, up2_s _ _ _ _⟩
  rw [if_neg c9, if_neg c9]
  exact ⟨h1, h2, h3, h4⟩
/-- rows and slots that an act doesn't touch -/
theorem actM_r {F G o sd sa : Nat} {k t x : Int32} {I : Mem} {a : Nat} (h1 : a ≠ F) (h2 : a ≠ G) (h3 : a ≠ o) : actM F G o sd sa k t x I a = I a := by
  unfold actM
  repeat' split
  all_goals first | rfl | (rw [up2_r h1, up2_r h2]) | (rw [up2_r h1]) | (rw [up2_r h3])
theorem actM_o {F G o sd sa : Nat} {k t x : Int32} {I : Mem} {j : Nat} (hF : o ≠ F) (hG : o ≠ G) (h1 : j ≠ sd) (h2 : j ≠ sa) : actM F G o sd sa k t x I o j = I o j := by
  unfold actM
  repeat' split
  all_goals first | rfl | (rw [up2_r hF, up2_r hG]) | (rw [up2_r hF]) | (rw [up2_k h1]) | (rw [up2_k h2])
theorem xor_lt : ∀ a b : Nat, a < 256 → b < 256 → a ^^^ b < 256 := fun a b ha hb => Nat.xor_lt_two_pow (n := 8) ha hb
theorem nI_xor (a b : Nat) : nI a ^^^ nI b = nI (a ^^^ b) := by
  apply Int32.toBitVec_inj.mp
  show BitVec.ofNat 32 a ^^^ BitVec.ofNat 32 b = BitVec.ofNat 32 (a ^^^ b)
  apply BitVec.eq_of_getLsbD_eq
  intro i hi
  simp [hi]
theorem rng {n m : Nat} (h : n ≤ m) (hm : m < 2 ^ 31) : 0 ≤ (nI n).toInt ∧ (nI n).toInt ≤ (m : Int) := by rw [nI_toInt (by omega)]; omega
theorem act_ok {k t x : Int32} {S : PSt} (H : okP S) (ok : okA k t x) : okP (actP k t x S) := by
  obtain ⟨h1, h2, h3, h4⟩ := H
  obtain ⟨⟨k0, k9⟩, hm⟩ := ok
  have ht : mat k → tn t < 6 := fun q => nv_lt (hm q).1.1 (by have := (hm q).1.2; omega)
  have hx5 : k.toInt = 2 ∨ k.toInt = 4 → tn x < 6 := fun q => by
    have := hm (by omega)
    have e : most k = 5 := by unfold most; rw [if_neg (by omega), if_pos q]
    exact nv_lt this.2.1 (by have := this.2.2; omega)
  have hx3 : 5 ≤ k.toInt ∧ k.toInt ≤ 7 → tn x < 4 := fun q => by
    have := hm (by omega)
    have e : most k = 3 := by unfold most; rw [if_neg (by omega), if_neg (by omega)]
    exact nv_lt this.2.1 (by have := this.2.2; omega)
  have F1 : ∀ v : Int32, (0 ≤ v.toInt ∧ v.toInt ≤ 255) → ∀ j, j < 6 → 0 ≤ (upd S.1 (tn t) v j).toInt ∧ (upd S.1 (tn t) v j).toInt ≤ 255 := fun v hv j hj => by
    rw [upd_eq]; by_cases q : j = tn t
    · rw [if_pos q]; exact hv
    · rw [if_neg q]; exact h1 j hj
  have G1 : ∀ v : Int32, (0 ≤ v.toInt ∧ v.toInt ≤ 65535) → ∀ j, j < 4 → 0 ≤ (upd S.2.1 (tn x) v j).toInt ∧ (upd S.2.1 (tn x) v j).toInt ≤ 65535 := fun v hv j hj => by
    rw [upd_eq]; by_cases q : j = tn x
    · rw [if_pos q]; exact hv
    · rw [if_neg q]; exact h2 j hj
  unfold actP
  by_cases c1 : k.toInt = 1
  · rw [if_pos c1]
    have e : most k = 255 := by unfold most; rw [if_pos (by omega)]
    exact ⟨F1 x (by have := (hm (by omega)).2; omega), h2, h3, h4⟩
  rw [if_neg c1]
  by_cases c2 : k.toInt = 2
  · rw [if_pos c2]; exact ⟨F1 _ (h1 _ (hx5 (Or.inl c2))), h2, h3, h4⟩
  rw [if_neg c2]
  by_cases c3 : k.toInt = 3
  · rw [if_pos c3]; exact ⟨F1 _ (rng (m := 255) (by omega) (by decide)), h2, h3, h4⟩
  rw [if_neg c3]
  by_cases c4 : k.toInt = 4
  · rw [if_pos c4]
    refine ⟨F1 _ ?_, h2, h3, h4⟩
    have a1 := h1 _ (ht (by omega))
    have a2 := h1 _ (hx5 (Or.inr c4))
    rw [nv_eq a1.1, nv_eq a2.1, nI_xor]
    exact rng (m := 255) (by have := xor_lt (nv (S.1 (tn t))) (nv (S.1 (tn x))) (nv_lt a1.1 (by omega)) (nv_lt a2.1 (by omega)); omega) (by decide)
  rw [if_neg c4]
  by_cases c5 : k.toInt = 5
  · rw [if_pos c5]; exact ⟨F1 _ (rng (m := 255) (by omega) (by decide)), G1 _ (rng (m := 65535) (by omega) (by decide)), h3, h4⟩
  rw [if_neg c5]
  by_cases c6 : k.toInt = 6
  · rw [if_pos c6]
    have a1 := h1 _ (ht (by omega))
    by_cases g : (S.2.1 (tn x)).toInt < (S.1 (tn t)).toInt
    · rw [if_pos g]; exact ⟨F1 _ (by decide), G1 _ (by omega), h3, h4⟩
    · rw [if_neg g]; exact ⟨F1 _ (by decide), h2, h3, h4⟩
  rw [if_neg c6]
  by_cases c7 : k.toInt = 7
  · rw [if_pos c7]
    have a1 := h1 _ (ht (by omega))
    exact ⟨F1 _ (rng (m := 255) (by omega) (by decide)), G1 _ (by omega), h3, h4⟩
  rw [if_neg c7]
  by_cases c8 : k.toInt = 8
  · rw [if_pos c8]; exact ⟨h1, h2, Or.inr rfl, h4⟩
  rw [if_neg c8]
  by_cases c9 : k.toInt = 9
  · rw [if_pos c9]; exact ⟨h1, h2, h3, Or.inr rfl⟩
  rw [if_neg c9]
  exact ⟨h1, h2, h3, h4⟩

/-! rounds -/
def stT (σ : Mem) (t : Nat) (S : PSt) : Nat := fnd (fun e => σ 13 (5 * t + e)) (S.1 (tn (σ 11 t))) (en σ t) 0
def rnd (σ : Mem) : Nat → PSt → PSt
  | 0, S => S
  | t + 1, S => actP (σ 14 (5 * t + stT σ t (rnd σ t S))) (σ 15 (5 * t + stT σ t (rnd σ t S))) (σ 16 (5 * t + stT σ t (rnd σ t S))) (rnd σ t S)
theorem stT_le {σ : Mem} {t : Nat} {S : PSt} (h : en σ t ≤ 4) : stT σ t S < 5 ∧ thr (en σ t) (stT σ t S) := by
  unfold stT
  rcases fnd_le4 (f := fun e => σ 13 (5 * t + e)) (v := S.1 (tn (σ 11 t))) (en σ t) 0 (by omega) with q | q
  · rw [q]; exact ⟨by decide, Or.inr rfl⟩
  · exact ⟨by omega, Or.inl (by omega)⟩
theorem rnd_ok {σ : Mem} {S : PSt} (H : okP S) : ∀ (t : Nat), (∀ i, i < t → WFt σ i) → okP (rnd σ t S)
  | 0, _ => H
  | t + 1, h => by
    have ih := rnd_ok H t (fun i hi => h i (by omega))
    have hw := h t (by omega)
    have hs := stT_le (S := rnd σ t S) hw.2.1
    simp only [rnd]
    exact act_ok ih (hw.2.2.2.1 _ hs.1 hs.2)
def sA (S : PSt) : PSt := (S.1, S.2.1, S.2.2.1, nI 0)
theorem sA_ok {S : PSt} (H : okP S) : okP (sA S) := ⟨H.1, H.2.1, H.2.2.1, Or.inl rfl⟩
/-- the state when i rounds are done -/
def itR (σ : Mem) (S : PSt) : Nat → PSt
  | 0 => S
  | i + 1 => rnd σ (mn σ) (sA (itR σ S i))
theorem itR_ok {σ : Mem} {S : PSt} (hw : WF σ) (H : okP S) : ∀ i, okP (itR σ S i)
  | 0 => H
  | i + 1 => rnd_ok (sA_ok (itR_ok hw H i)) _ (fun t ht => hw.2.2.1 t ht)
abbrev goes (S : PSt) : Prop := S.2.2.2 ≠ 0 ∧ S.2.2.1 = 0
/-- how many rounds there are, from i on, d left -/
def rnN (σ : Mem) (S : PSt) : Nat → Nat → Nat
  | 0, i => i
  | d + 1, i => if goes (itR σ S i) then rnN σ S d (i + 1) else i
theorem rnN_le (σ : Mem) (S : PSt) : ∀ d i, i ≤ rnN σ S d i ∧ rnN σ S d i ≤ i + d
  | 0, i => by simp [rnN]
  | d + 1, i => by
    simp only [rnN]
    split
    · have := rnN_le σ S d (i + 1); omega
    · omega
def tk1 (σ : Mem) (S : PSt) (t : Nat) : Int32 := if t < mn σ then nI (stT σ t (rnd σ t S)) else -6
/-- the packet as it is told -/
def pS0 (σ : Mem) : PSt := (σ 18, σ 17, nI 0, nI 1)
theorem pS0_ok {σ : Mem} (hw : WF σ) : okP (pS0 σ) := ⟨hw.2.2.2.2.2, hw.2.2.2.1, Or.inl rfl, Or.inr rfl⟩
def rN (σ : Mem) : Nat := rnN σ (pS0 σ) (ru σ 3) 0
def rS (σ : Mem) : PSt := itR σ (pS0 σ) (rN σ)
def sRun (σ : Mem) : Int32 := match pkS σ (mn σ) with
  | none => -3
  | some _ => if (rS σ).2.2.1 ≠ 0 then nI 1 else if (rS σ).2.2.2 ≠ 0 then nI 2 else nI 0
