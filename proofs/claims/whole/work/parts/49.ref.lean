/-! the reference: images -/
def imS (I : Mem) (o : Nat) : Int32 := if o < 8 then I 11 (o - 0) else if o < 16 then I 12 (o - 8) else if o < 56 then I 13 (o - 16) else if o < 96 then I 14 (o - 56) else if o < 136 then I 15 (o - 96) else if o < 176 then I 16 (o - 136) else if o < 180 then I 17 (o - 176) else if o < 184 then I 19 (o - 180) else if o < 190 then I 18 (o - 184) else I 10 0
theorem imS_11 {I : Mem} {j : Nat} (hj : j < 8) : imS I (0 + j) = I 11 j := by
  unfold imS
  rw [if_pos (by omega), show 0 + j - 0 = j by omega]
theorem imS_12 {I : Mem} {j : Nat} (hj : j < 8) : imS I (8 + j) = I 12 j := by
  unfold imS
  rw [if_neg (by omega), if_pos (by omega), show 8 + j - 8 = j by omega]
theorem imS_13 {I : Mem} {j : Nat} (hj : j < 40) : imS I (16 + j) = I 13 j := by
  unfold imS
  rw [if_neg (by omega), if_neg (by omega), if_pos (by omega), show 16 + j - 16 = j by omega]
theorem imS_14 {I : Mem} {j : Nat} (hj : j < 40) : imS I (56 + j) = I 14 j := by
  unfold imS
  rw [if_neg (by omega), if_neg (by omega), if_neg (by omega), if_pos (by omega), show 56 + j - 56 = j by omega]
theorem imS_15 {I : Mem} {j : Nat} (hj : j < 40) : imS I (96 + j) = I 15 j := by
  unfold imS
  rw [if_neg (by omega), if_neg (by omega), if_neg (by omega), if_neg (by omega), if_pos (by omega), show 96 + j - 96 = j by omega]
theorem imS_16 {I : Mem} {j : Nat} (hj : j < 40) : imS I (136 + j) = I 16 j := by
  unfold imS
  rw [if_neg (by omega), if_neg (by omega), if_neg (by omega), if_neg (by omega), if_neg (by omega), if_pos (by omega), show 136 + j - 136 = j by omega]
theorem imS_17 {I : Mem} {j : Nat} (hj : j < 4) : imS I (176 + j) = I 17 j := by
  unfold imS
  rw [if_neg (by omega), if_neg (by omega), if_neg (by omega), if_neg (by omega), if_neg (by omega), if_neg (by omega), if_pos (by omega), show 176 + j - 176 = j by omega]
theorem imS_19 {I : Mem} {j : Nat} (hj : j < 4) : imS I (180 + j) = I 19 j := by
  unfold imS
  rw [if_neg (by omega), if_neg (by omega), if_neg (by omega), if_neg (by omega), if_neg (by omega), if_neg (by omega), if_neg (by omega), if_pos (by omega), show 180 + j - 180 = j by omega]
theorem imS_18 {I : Mem} {j : Nat} (hj : j < 6) : imS I (184 + j) = I 18 j := by
  unfold imS
  rw [if_neg (by omega), if_neg (by omega), if_neg (by omega), if_neg (by omega), if_neg (by omega), if_neg (by omega), if_neg (by omega), if_neg (by omega), if_pos (by omega), show 184 + j - 184 = j by omega]
theorem imS_10 (I : Mem) : imS I 190 = I 10 0 := by
  unfold imS
  rw [if_neg (by omega), if_neg (by omega), if_neg (by omega), if_neg (by omega), if_neg (by omega), if_neg (by omega), if_neg (by omega), if_neg (by omega), if_neg (by omega)]
def ofs (a i : Nat) : Nat := if a = 11 ∧ i < 8 then 0 + i else if a = 12 ∧ i < 8 then 8 + i else if a = 13 ∧ i < 40 then 16 + i else if a = 14 ∧ i < 40 then 56 + i else if a = 15 ∧ i < 40 then 96 + i else if a = 16 ∧ i < 40 then 136 + i else if a = 17 ∧ i < 4 then 176 + i else if a = 19 ∧ i < 4 then 180 + i else if a = 18 ∧ i < 6 then 184 + i else if a = 10 ∧ i = 0 then 190 else 191
theorem ofs_11 {j : Nat} (hj : j < 8) : ofs 11 j = 0 + j := by
  unfold ofs
  rw [if_pos (by omega)]
theorem ofs_12 {j : Nat} (hj : j < 8) : ofs 12 j = 8 + j := by
  unfold ofs
  rw [if_neg (by omega), if_pos (by omega)]
theorem ofs_13 {j : Nat} (hj : j < 40) : ofs 13 j = 16 + j := by
  unfold ofs
  rw [if_neg (by omega), if_neg (by omega), if_pos (by omega)]
theorem ofs_14 {j : Nat} (hj : j < 40) : ofs 14 j = 56 + j := by
  unfold ofs
  rw [if_neg (by omega), if_neg (by omega), if_neg (by omega), if_pos (by omega)]
theorem ofs_15 {j : Nat} (hj : j < 40) : ofs 15 j = 96 + j := by
  unfold ofs
  rw [if_neg (by omega), if_neg (by omega), if_neg (by omega), if_neg (by omega), if_pos (by omega)]
theorem ofs_16 {j : Nat} (hj : j < 40) : ofs 16 j = 136 + j := by
  unfold ofs
  rw [if_neg (by omega), if_neg (by omega), if_neg (by omega), if_neg (by omega), if_neg (by omega), if_pos (by omega)]
theorem ofs_17 {j : Nat} (hj : j < 4) : ofs 17 j = 176 + j := by
  unfold ofs
  rw [if_neg (by omega), if_neg (by omega), if_neg (by omega), if_neg (by omega), if_neg (by omega), if_neg (by omega), if_pos (by omega)]
theorem ofs_19 {j : Nat} (hj : j < 4) : ofs 19 j = 180 + j := by
  unfold ofs
  rw [if_neg (by omega), if_neg (by omega), if_neg (by omega), if_neg (by omega), if_neg (by omega), if_neg (by omega), if_neg (by omega), if_pos (by omega)]
theorem ofs_18 {j : Nat} (hj : j < 6) : ofs 18 j = 184 + j := by
  unfold ofs
  rw [if_neg (by omega), if_neg (by omega), if_neg (by omega), if_neg (by omega), if_neg (by omega), if_neg (by omega), if_neg (by omega), if_neg (by omega), if_pos (by omega)]
theorem ofs_10 : ofs 10 0 = 190 := by decide
def rowO (o : Nat) : Nat := if o < 8 then 11 else if o < 16 then 12 else if o < 56 then 13 else if o < 96 then 14 else if o < 136 then 15 else if o < 176 then 16 else if o < 180 then 17 else if o < 184 then 19 else if o < 190 then 18 else 10
def idxO (o : Nat) : Nat := if o < 8 then o - 0 else if o < 16 then o - 8 else if o < 56 then o - 16 else if o < 96 then o - 56 else if o < 136 then o - 96 else if o < 176 then o - 136 else if o < 180 then o - 176 else if o < 184 then o - 180 else if o < 190 then o - 184 else 0
theorem inv_11 {j : Nat} (hj : j < 8) : rowO (0 + j) = 11 ∧ idxO (0 + j) = j := by
  unfold rowO idxO
  rw [if_pos (by omega), if_pos (by omega)]
  exact ⟨rfl, by omega⟩
theorem inv_12 {j : Nat} (hj : j < 8) : rowO (8 + j) = 12 ∧ idxO (8 + j) = j := by
  unfold rowO idxO
  rw [if_neg (by omega), if_pos (by omega), if_neg (by omega), if_pos (by omega)]
  exact ⟨rfl, by omega⟩
theorem inv_13 {j : Nat} (hj : j < 40) : rowO (16 + j) = 13 ∧ idxO (16 + j) = j := by
  unfold rowO idxO
  rw [if_neg (by omega), if_neg (by omega), if_pos (by omega), if_neg (by omega), if_neg (by omega), if_pos (by omega)]
  exact ⟨rfl, by omega⟩
theorem inv_14 {j : Nat} (hj : j < 40) : rowO (56 + j) = 14 ∧ idxO (56 + j) = j := by
  unfold rowO idxO
  rw [if_neg (by omega), if_neg (by omega), if_neg (by omega), if_pos (by omega), if_neg (by omega), if_neg (by omega), if_neg (by omega), if_pos (by omega)]
  exact ⟨rfl, by omega⟩
theorem inv_15 {j : Nat} (hj : j < 40) : rowO (96 + j) = 15 ∧ idxO (96 + j) = j := by
  unfold rowO idxO
  rw [if_neg (by omega), if_neg (by omega), if_neg (by omega), if_neg (by omega), if_pos (by omega), if_neg (by omega), if_neg (by omega), if_neg (by omega), if_neg (by omega), if_pos (by omega)]
  exact ⟨rfl, by omega⟩
theorem inv_16 {j : Nat} (hj : j < 40) : rowO (136 + j) = 16 ∧ idxO (136 + j) = j := by
  unfold rowO idxO
  rw [if_neg (by omega), if_neg (by omega), if_neg (by omega), if_neg (by omega), if_neg (by omega), if_pos (by omega), if_neg (by omega), if_neg (by omega), if_neg (by omega), if_neg (by omega), if_neg (by omega), if_pos (by omega)]
  exact ⟨rfl, by omega⟩
theorem inv_17 {j : Nat} (hj : j < 4) : rowO (176 + j) = 17 ∧ idxO (176 + j) = j := by
  unfold rowO idxO
  rw [if_neg (by omega), if_neg (by omega), if_neg (by omega), if_neg (by omega), if_neg (by omega), if_neg (by omega), if_pos (by omega), if_neg (by omega), if_neg (by omega), if_neg (by omega), if_neg (by omega), if_neg (by omega), if_neg (by omega), if_pos (by omega)]
  exact ⟨rfl, by omega⟩
theorem inv_19 {j : Nat} (hj : j < 4) : rowO (180 + j) = 19 ∧ idxO (180 + j) = j := by
  unfold rowO idxO
  rw [if_neg (by omega), if_neg (by omega), if_neg (by omega), if_neg (by omega), if_neg (by omega), if_neg (by omega), if_neg (by omega), if_pos (by omega), if_neg (by omega), if_neg (by omega), if_neg (by omega), if_neg (by omega), if_neg (by omega), if_neg (by omega), if_neg (by omega), if_pos (by omega)]
  exact ⟨rfl, by omega⟩
theorem inv_18 {j : Nat} (hj : j < 6) : rowO (184 + j) = 18 ∧ idxO (184 + j) = j := by
  unfold rowO idxO
  rw [if_neg (by omega), if_neg (by omega), if_neg (by omega), if_neg (by omega), if_neg (by omega), if_neg (by omega), if_neg (by omega), if_neg (by omega), if_pos (by omega), if_neg (by omega), if_neg (by omega), if_neg (by omega), if_neg (by omega), if_neg (by omega), if_neg (by omega), if_neg (by omega), if_neg (by omega), if_pos (by omega)]
  exact ⟨rfl, by omega⟩
theorem ofs_inv {a i : Nat} (h : ofs a i < 191) : rowO (ofs a i) = a ∧ idxO (ofs a i) = i := by
  by_cases h11 : a = 11 ∧ i < 8
  · obtain ⟨rfl, h11⟩ := h11; rw [ofs_11 h11]; exact inv_11 h11
  by_cases h12 : a = 12 ∧ i < 8
  · obtain ⟨rfl, h12⟩ := h12; rw [ofs_12 h12]; exact inv_12 h12
  by_cases h13 : a = 13 ∧ i < 40
  · obtain ⟨rfl, h13⟩ := h13; rw [ofs_13 h13]; exact inv_13 h13
  by_cases h14 : a = 14 ∧ i < 40
  · obtain ⟨rfl, h14⟩ := h14; rw [ofs_14 h14]; exact inv_14 h14
  by_cases h15 : a = 15 ∧ i < 40
  · obtain ⟨rfl, h15⟩ := h15; rw [ofs_15 h15]; exact inv_15 h15
  by_cases h16 : a = 16 ∧ i < 40
  · obtain ⟨rfl, h16⟩ := h16; rw [ofs_16 h16]; exact inv_16 h16
  by_cases h17 : a = 17 ∧ i < 4
  · obtain ⟨rfl, h17⟩ := h17; rw [ofs_17 h17]; exact inv_17 h17
  by_cases h19 : a = 19 ∧ i < 4
  · obtain ⟨rfl, h19⟩ := h19; rw [ofs_19 h19]; exact inv_19 h19
  by_cases h18 : a = 18 ∧ i < 6
  · obtain ⟨rfl, h18⟩ := h18; rw [ofs_18 h18]; exact inv_18 h18
  by_cases h10 : a = 10 ∧ i = 0
  · obtain ⟨rfl, rfl⟩ := h10; exact ⟨by decide, by decide⟩
  · exfalso; unfold ofs at h; rw [if_neg h11, if_neg h12, if_neg h13, if_neg h14, if_neg h15, if_neg h16, if_neg h17, if_neg h19, if_neg h18, if_neg h10] at h; omega
theorem ofs_inj {a i b j : Nat} (h : ofs a i = ofs b j) (hl : ofs a i < 191) : a = b ∧ i = j := by
  have h1 := ofs_inv hl
  have h2 := ofs_inv (show ofs b j < 191 by omega)
  rw [h] at h1
  exact ⟨h1.1.symm.trans h2.1, h1.2.symm.trans h2.2⟩
theorem ofs_35 (i : Nat) : ofs 35 i = 191 := by
  unfold ofs
  rw [if_neg (by omega), if_neg (by omega), if_neg (by omega), if_neg (by omega), if_neg (by omega), if_neg (by omega), if_neg (by omega), if_neg (by omega), if_neg (by omega), if_neg (by omega)]
def IMf (I : Mem) (k : Nat) (D : Nat → Bool) : Mem := fun a i => if a = 35 ∧ (191 * k ≤ i ∧ i < 191 * k + 191) ∧ D (i - 191 * k) = true then imS I (i - 191 * k) else I a i
theorem IM_r {I : Mem} {k : Nat} {D : Nat → Bool} {a : Nat} (h : a ≠ 35) : IMf I k D a = I a := by
  funext i; simp only [IMf]; rw [if_neg (fun q => h q.1)]
theorem IM_s {I : Mem} {k i o : Nat} {D : Nat → Bool} {v : Int32} (hi : i = 191 * k + o) (ho : o < 191) (hv : v = imS I o) : up2 (IMf I k D) 35 i v = IMf I k (fun x => D x || decide (x = o)) := by
  funext a j
  rw [up2_eq]
  simp only [IMf]
  by_cases h : a = 35 ∧ j = i
  · rw [if_pos h, if_pos ⟨h.1, by omega, by simp; right; omega⟩, hv, show j - 191 * k = o by omega]
  · rw [if_neg h]
    by_cases g : a = 35 ∧ (191 * k ≤ j ∧ j < 191 * k + 191) ∧ D (j - 191 * k) = true
    · rw [if_pos g, if_pos ⟨g.1, g.2.1, by simp [g.2.2]⟩]
    · rw [if_neg g, if_neg]
      intro q
      have q3 := q.2.2
      simp only [Bool.or_eq_true, decide_eq_true_eq] at q3
      rcases q3 with q3 | q3
      · exact g ⟨q.1, q.2.1, q3⟩
      · exact h ⟨q.1, by omega⟩
theorem IM_c {I : Mem} {k : Nat} {D D' : Nat → Bool} (h : ∀ x, x < 191 → D x = D' x) : IMf I k D = IMf I k D' := by
  funext a i
  simp only [IMf]
  by_cases g : a = 35 ∧ (191 * k ≤ i ∧ i < 191 * k + 191)
  · rw [h (i - 191 * k) (by omega)]
  · rw [if_neg (fun q => g ⟨q.1, q.2.1⟩), if_neg (fun q => g ⟨q.1, q.2.1⟩)]
theorem IM_0 (I : Mem) (k : Nat) : I = IMf I k (fun _ => false) := by
  funext a i; simp [IMf]
def imU (σ : Mem) (k : Nat) : Mem := up2 (IMf σ k (fun _ => true)) 36 k (nI 1)
def sImage (σ : Mem) (k : Int32) : Int32 × Mem := if 0 ≤ k.toInt ∧ k.toInt < 2 then (nI 1, imU σ (tn k)) else (-2, σ)
def REf (I : Mem) (k : Nat) (D : Nat → Bool) : Mem := fun a i => if ofs a i < 191 ∧ D (ofs a i) = true then I 35 (191 * k + ofs a i) else I a i
theorem RE_35 {I : Mem} {k : Nat} {D : Nat → Bool} : REf I k D 35 = I 35 := by
  funext i; simp only [REf]; rw [ofs_35, if_neg (by omega)]
theorem RE2_s {I : Mem} {k a i o : Nat} {D : Nat → Bool} {v : Int32} (ho : ofs a i = o) (hl : o < 191) (hv : v = I 35 (191 * k + o)) : up2 (REf I k D) a i v = REf I k (fun x => D x || decide (x = o)) := by
  subst ho
  funext b j
  rw [up2_eq]
  simp only [REf]
  by_cases h : b = a ∧ j = i
  · rw [if_pos h, h.1, h.2, if_pos ⟨hl, by simp⟩, hv]
  · rw [if_neg h]
    by_cases g : ofs b j < 191 ∧ D (ofs b j) = true
    · rw [if_pos g, if_pos ⟨g.1, by simp [g.2]⟩]
    · rw [if_neg g, if_neg]
      intro q
      have q3 := q.2
      simp only [Bool.or_eq_true, decide_eq_true_eq] at q3
      rcases q3 with q3 | q3
      · exact g ⟨q.1, q3⟩
      · exact h (ofs_inj q3 q.1)
theorem RE2_c {I : Mem} {k : Nat} {D D' : Nat → Bool} (h : ∀ x, x < 191 → D x = D' x) : REf I k D = REf I k D' := by
  funext a i
  simp only [REf]
  by_cases g : ofs a i < 191
  · rw [h _ g]
  · rw [if_neg (fun q => g q.1), if_neg (fun q => g q.1)]
theorem RE2_0 (I : Mem) (k : Nat) : I = REf I k (fun _ => false) := by
  funext a i; simp [REf]
def reU (σ : Mem) (k : Nat) : Mem := REf σ k (fun _ => true)
def sRest (σ : Mem) (k : Int32) : Int32 × Mem := if 0 ≤ k.toInt ∧ k.toInt < 2 then (if σ 36 (tn k) = 0 then (-3, σ) else (nI 1, reU σ (tn k))) else (-2, σ)
set_option maxHeartbeats 4000000 in
set_option maxRecDepth 100000 in
theorem c_X7_image {l : Launch} {E : En} {K : Nat → Nat} {L : Nat → Nat → Bool} {ad : Nat → Nat} {I : Nat → Nat → Int32} (k : Int32) (hM : IsM K L) : MI l E K L ad I yX7_image cX7_image 4 (some .int) 1 [.ref (ad 10), .int k] (fun rv RJ => rv = (sImage I k).1 ∧ RJ = (sImage I k).2) := by
  have hM0 := hM
  obtain ⟨m0, ml1, ml2, ml3, ml4, ml5, ml6, ml7, ml8, ml9, ml10, ml11, ml12, ml13, ml14, ml15, ml16, ml17, ml21, ml25, ml26, mk1, mk2, mk3, mk4, mk5, mk6, mk7, mk8, mk9, mk10, mk11, mk12, mk13, mk14, mk15, mk16, mk17, mk21, mk25, mk26⟩ := hM
  refine MI.of (by decide) (Nat.le_of_ble_eq_true rfl) ?_
  intro p ee s m args below meth c ls Qf C hret hP hl
  have C : Cx E p s m args c cX7_image RX7 4 := C
  have hx := C.1
  have hb := C.2.1
  have hS : va_S (AG E) s.heap s.heap [] := va_S.rf
  have hl : lv_has ls 4 [(0, .ref (ad 10)), (1, .int k)] := hl
  refine lv_iload_n hx hb dX7_image_0 rfl (lv_at hl 1 rfl) ?_
  refine lv_iconst (v := nI 0) hx hb dX7_image_1 (by decide) ?_
  refine lv_iconst (v := nI 1) hx hb dX7_image_2 (by decide) ?_
  refine k_X7_75 C hP hS (c_X7_inN k 0 1 (by first | decide | omega) (by first | decide | omega)) ⟨Nat.le_of_ble_eq_true rfl, Nat.le_of_ble_eq_true rfl⟩ ⟨Nat.zero_le _, Nat.zero_le _⟩ hl.1 (Nat.le_of_ble_eq_true rfl) dX7_image_3 (fun v1 I2 H locs hv3 hP hS => ?_)
  obtain ⟨eI2, hv3⟩ := hv3
  rw [eI2] at hP
  clear eI2
  rcases hv3 with ⟨rfl, hc4⟩ | ⟨rfl, hc4⟩
  · refine z_ne1 C dX7_image_6 (tgt := 12) (by decide) ?_
    obtain ⟨k0, hk0, ek0⟩ : ∃ j : Nat, j < 2 ∧ k = nI j := ⟨k.toInt.toNat, by omega, i32_eq (by omega) (by omega)⟩
    have ck0 : tn k = k0 := by rw [ek0]; exact nI_clamp (by omega)
    rw [ek0] at hl
    refine lv_sipush (v := nI 191) hx hb dX7_image_12 (by decide) ?_
    refine lv_iload_n hx hb dX7_image_15 rfl (lv_at hl 1 rfl) ?_
    refine r_mulN C dX7_image_16 ?_
    refine lv_istore_n (lv' := [(2, .int (nI (191 * k0))), (0, .ref (ad 10)), (1, .int (nI k0))]) hx hb dX7_image_17 rfl hl (by decide) rfl (fun ls hl => ?_)
    refine lv_iconst (v := nI 0) hx hb dX7_image_18 (by decide) ?_
    refine lv_istore_n (lv' := [(3, .int (nI 0)), (2, .int (nI (191 * k0))), (0, .ref (ad 10)), (1, .int (nI k0))]) hx hb dX7_image_19 rfl hl (by decide) rfl (fun ls hl => ?_)
    have hL20_5 : ∀ (d : Nat) (j : Nat) (J : Mem) (H : Heap) (locs : List Loc) (ls : Array Slot), 8 < j + d → (j ≤ 8) → (J = IMf I k0 (fun x => decide (x < 0 ∨ (0 ≤ x ∧ x < 0 + j) ∨ (8 ≤ x ∧ x < 8 + j)))) → Hp E K L ad J H → va_S (AG E) s.heap H locs → lv_has ls 4 [(0, .ref (ad 10)), (1, .int (nI k0)), (2, .int (nI (191 * k0))), (3, .int (nI j))] → W p l ee (rmk 1) s m args below meth c H locs 0 0 Qf (F0 m 20 ls []) := by
      intro d20
      induction d20 with
      | zero => intro j J H locs ls hd20 hj0 hc0 _ _ _; exact absurd hd20 (by omega)
      | succ d20 ih20 =>
        intro j J H locs ls hd20 hj0 hc0 hP hS hl
        refine lv_iload_n hx hb dX7_image_20 rfl (lv_at hl 3 rfl) ?_
        refine lv_bipush (v := nI 8) hx hb dX7_image_21 (by decide) ?_
        refine b_geN C (by omega) (by omega) dX7_image_23 (tgt := 63) (by decide) (fun h6 => ?_) (fun h6 => ?_)
        · refine lv_iconst (v := nI 0) hx hb dX7_image_63 (by decide) ?_
          refine lv_istore_n (lv' := [(3, .int (nI 0)), (0, .ref (ad 10)), (1, .int (nI k0)), (2, .int (nI (191 * k0)))]) hx hb dX7_image_64 rfl hl (by decide) rfl (fun ls hl => ?_)
          have hL65_7 : ∀ (d : Nat) (j : Nat) (J : Mem) (H : Heap) (locs : List Loc) (ls : Array Slot), 40 < j + d → (j ≤ 40) → (J = IMf I k0 (fun x => decide (x < 0 ∨ (0 ≤ x ∧ x < 0 + 8) ∨ (8 ≤ x ∧ x < 8 + 8) ∨ (16 ≤ x ∧ x < 16 + j) ∨ (56 ≤ x ∧ x < 56 + j) ∨ (96 ≤ x ∧ x < 96 + j) ∨ (136 ≤ x ∧ x < 136 + j)))) → Hp E K L ad J H → va_S (AG E) s.heap H locs → lv_has ls 4 [(0, .ref (ad 10)), (1, .int (nI k0)), (2, .int (nI (191 * k0))), (3, .int (nI j))] → W p l ee (rmk 1) s m args below meth c H locs 0 0 Qf (F0 m 65 ls []) := by
            intro d65
            induction d65 with
            | zero => intro j J H locs ls hd65 hj1 hc1 _ _ _; exact absurd hd65 (by omega)
            | succ d65 ih65 =>
              intro j J H locs ls hd65 hj1 hc1 hP hS hl
              refine lv_iload_n hx hb dX7_image_65 rfl (lv_at hl 3 rfl) ?_
              refine lv_bipush (v := nI 40) hx hb dX7_image_66 (by decide) ?_
              refine b_geN C (by omega) (by omega) dX7_image_68 (tgt := 146) (by decide) (fun h8 => ?_) (fun h8 => ?_)
              · refine lv_iconst (v := nI 0) hx hb dX7_image_146 (by decide) ?_
                refine lv_istore_n (lv' := [(3, .int (nI 0)), (0, .ref (ad 10)), (1, .int (nI k0)), (2, .int (nI (191 * k0)))]) hx hb dX7_image_147 rfl hl (by decide) rfl (fun ls hl => ?_)
                have hL148_9 : ∀ (d : Nat) (j : Nat) (J : Mem) (H : Heap) (locs : List Loc) (ls : Array Slot), 4 < j + d → (j ≤ 4) → (J = IMf I k0 (fun x => decide (x < 0 ∨ (0 ≤ x ∧ x < 0 + 8) ∨ (8 ≤ x ∧ x < 8 + 8) ∨ (16 ≤ x ∧ x < 16 + 40) ∨ (56 ≤ x ∧ x < 56 + 40) ∨ (96 ≤ x ∧ x < 96 + 40) ∨ (136 ≤ x ∧ x < 136 + 40) ∨ (176 ≤ x ∧ x < 176 + j) ∨ (180 ≤ x ∧ x < 180 + j)))) → Hp E K L ad J H → va_S (AG E) s.heap H locs → lv_has ls 4 [(0, .ref (ad 10)), (1, .int (nI k0)), (2, .int (nI (191 * k0))), (3, .int (nI j))] → W p l ee (rmk 1) s m args below meth c H locs 0 0 Qf (F0 m 148 ls []) := by
                  intro d148
                  induction d148 with
                  | zero => intro j J H locs ls hd148 hj2 hc2 _ _ _; exact absurd hd148 (by omega)
                  | succ d148 ih148 =>
                    intro j J H locs ls hd148 hj2 hc2 hP hS hl
                    refine lv_iload_n hx hb dX7_image_148 rfl (lv_at hl 3 rfl) ?_
                    refine lv_iconst (v := nI 4) hx hb dX7_image_149 (by decide) ?_
                    refine b_geN C (by omega) (by omega) dX7_image_150 (tgt := 195) (by decide) (fun h10 => ?_) (fun h10 => ?_)
                    · refine lv_iconst (v := nI 0) hx hb dX7_image_195 (by decide) ?_
                      refine lv_istore_n (lv' := [(3, .int (nI 0)), (0, .ref (ad 10)), (1, .int (nI k0)), (2, .int (nI (191 * k0)))]) hx hb dX7_image_196 rfl hl (by decide) rfl (fun ls hl => ?_)
                      have hL197_11 : ∀ (d : Nat) (j : Nat) (J : Mem) (H : Heap) (locs : List Loc) (ls : Array Slot), 6 < j + d → (j ≤ 6) → (J = IMf I k0 (fun x => decide (x < 0 ∨ (0 ≤ x ∧ x < 0 + 8) ∨ (8 ≤ x ∧ x < 8 + 8) ∨ (16 ≤ x ∧ x < 16 + 40) ∨ (56 ≤ x ∧ x < 56 + 40) ∨ (96 ≤ x ∧ x < 96 + 40) ∨ (136 ≤ x ∧ x < 136 + 40) ∨ (176 ≤ x ∧ x < 176 + 4) ∨ (180 ≤ x ∧ x < 180 + 4) ∨ (184 ≤ x ∧ x < 184 + j)))) → Hp E K L ad J H → va_S (AG E) s.heap H locs → lv_has ls 4 [(0, .ref (ad 10)), (1, .int (nI k0)), (2, .int (nI (191 * k0))), (3, .int (nI j))] → W p l ee (rmk 1) s m args below meth c H locs 0 0 Qf (F0 m 197 ls []) := by
                        intro d197
                        induction d197 with
                        | zero => intro j J H locs ls hd197 hj3 hc3 _ _ _; exact absurd hd197 (by omega)
                        | succ d197 ih197 =>
                          intro j J H locs ls hd197 hj3 hc3 hP hS hl
                          refine lv_iload_n hx hb dX7_image_197 rfl (lv_at hl 3 rfl) ?_
                          refine lv_bipush (v := nI 6) hx hb dX7_image_198 (by decide) ?_
                          refine b_geN C (by omega) (by omega) dX7_image_200 (tgt := 227) (by decide) (fun h12 => ?_) (fun h12 => ?_)
                          · refine lv_aload_n hx hb dX7_image_227 rfl (lv_at hl 0 rfl) ?_
                            refine f_X7_64 (q := 35) C hP (by assumption) (by assumption) rfl dX7_image_228 ?_
                            refine lv_iload_n hx hb dX7_image_231 rfl (lv_at hl 2 rfl) ?_
                            refine lv_sipush (v := nI 190) hx hb dX7_image_232 (by decide) ?_
                            refine r_addN C dX7_image_235 ?_
                            refine lv_aload_n hx hb dX7_image_236 rfl (lv_at hl 0 rfl) ?_
                            refine f_X7_71 C hP (by first | assumption | exact hKa _ (by omega)) dX7_image_237 ?_
                            refine r_iast (n := 382) C hP hS (by assumption) (by omega) (by decide) dX7_image_240 (fun H locs hP hS => ?_)
                            obtain ⟨I13, eI13⟩ : ∃ Znew : Nat → Nat → Int32, Znew = up2 J 35 (191 * k0 + 190) (J 10 0) := ⟨_, rfl⟩
                            rw [← eI13] at hP
                            have sI13 := eI13
                            rw [hc3] at sI13
                            rw [IM_s (o := 190) (by omega) (by decide) (by rw [imS_10, IM_r (by decide)])] at sI13
                            refine lv_aload_n hx hb dX7_image_241 rfl (lv_at hl 0 rfl) ?_
                            refine f_X7_67 (q := 36) C hP (by assumption) (by assumption) rfl dX7_image_242 ?_
                            refine lv_iload_n hx hb dX7_image_245 rfl (lv_at hl 1 rfl) ?_
                            refine lv_iconst (v := nI 1) hx hb dX7_image_246 (by decide) ?_
                            refine r_zast C hP hS (by assumption) (by omega) (by decide) dX7_image_247 (fun H locs hP hS => ?_)
                            obtain ⟨I14, eI14⟩ : ∃ Znew : Nat → Nat → Int32, Znew = up2 I13 36 k0 (nI 1) := ⟨_, rfl⟩
                            rw [← eI14] at hP
                            refine lv_iconst (v := nI 1) hx hb dX7_image_248 (by decide) ?_
                            exact hret _ _ _ _ _ _ dX7_image_249 hP hS (by unfold sImage; rw [if_pos (by omega), ck0]; refine ⟨rfl, ?_⟩; rw [eI14, sI13]; unfold imU; congr 1; exact IM_c (fun x hx => by simp only [← Bool.decide_or]; exact decide_eq_true (by omega)))
                          · refine lv_aload_n hx hb dX7_image_203 rfl (lv_at hl 0 rfl) ?_
                            refine f_X7_64 (q := 35) C hP (by assumption) (by assumption) rfl dX7_image_204 ?_
                            refine lv_iload_n hx hb dX7_image_207 rfl (lv_at hl 2 rfl) ?_
                            refine lv_sipush (v := nI 184) hx hb dX7_image_208 (by decide) ?_
                            refine r_addN C dX7_image_211 ?_
                            refine lv_iload_n hx hb dX7_image_212 rfl (lv_at hl 3 rfl) ?_
                            refine r_addN C dX7_image_213 ?_
                            refine lv_aload_n hx hb dX7_image_214 rfl (lv_at hl 0 rfl) ?_
                            refine f_X7_31 (q := 18) C hP (by assumption) (by assumption) rfl dX7_image_215 ?_
                            refine lv_iload_n hx hb dX7_image_218 rfl (lv_at hl 3 rfl) ?_
                            refine r_iald (n := 6) C hP (by assumption) (by omega) (by decide) dX7_image_219 ?_
                            refine r_iast (n := 382) C hP hS (by assumption) (by omega) (by decide) dX7_image_220 (fun H locs hP hS => ?_)
                            obtain ⟨I15, eI15⟩ : ∃ Znew : Nat → Nat → Int32, Znew = up2 J 35 ((191 * k0 + 184) + j) (J 18 j) := ⟨_, rfl⟩
                            rw [← eI15] at hP
                            have sI15 := eI15
                            rw [hc3] at sI15
                            rw [IM_s (o := 184 + j) (by omega) (by omega) (by rw [imS_18 (by omega), IM_r (by decide)])] at sI15
                            refine lv_iinc (v := nI (j + 1)) (lv' := [(3, .int (nI (j + 1))), (0, .ref (ad 10)), (1, .int (nI k0)), (2, .int (nI (191 * k0)))]) hx hb dX7_image_221 hl (k := 3) rfl (nI_1 _) (by decide) rfl (fun ls hl => ?_)
                            refine lv_goto (tgt := 197) hx hb dX7_image_224 (by decide) ?_
                            exact ih197 (j + 1) I15 _ _ _ (by omega) (by omega) (by rw [sI15]; exact IM_c (fun x hx => by simp only [← Bool.decide_or]; exact decide_eq_decide.mpr (by omega))) hP hS (lv_sub hl [1, 2, 3, 0] rfl)
                      exact hL197_11 (6 + 1) 0 J _ _ _ (by omega) (by omega) (by rw [hc2]; exact IM_c (fun x hx => by exact decide_eq_decide.mpr (by omega))) hP hS (lv_sub hl [1, 2, 3, 0] rfl)
                    · refine lv_aload_n hx hb dX7_image_153 rfl (lv_at hl 0 rfl) ?_
                      refine f_X7_64 (q := 35) C hP (by assumption) (by assumption) rfl dX7_image_154 ?_
                      refine lv_iload_n hx hb dX7_image_157 rfl (lv_at hl 2 rfl) ?_
                      refine lv_sipush (v := nI 176) hx hb dX7_image_158 (by decide) ?_
                      refine r_addN C dX7_image_161 ?_
                      refine lv_iload_n hx hb dX7_image_162 rfl (lv_at hl 3 rfl) ?_
                      refine r_addN C dX7_image_163 ?_
                      refine lv_aload_n hx hb dX7_image_164 rfl (lv_at hl 0 rfl) ?_
                      refine f_X7_28 (q := 17) C hP (by assumption) (by assumption) rfl dX7_image_165 ?_
                      refine lv_iload_n hx hb dX7_image_168 rfl (lv_at hl 3 rfl) ?_
                      refine r_iald (n := 4) C hP (by assumption) (by omega) (by decide) dX7_image_169 ?_
                      refine r_iast (n := 382) C hP hS (by assumption) (by omega) (by decide) dX7_image_170 (fun H locs hP hS => ?_)
                      obtain ⟨I16, eI16⟩ : ∃ Znew : Nat → Nat → Int32, Znew = up2 J 35 ((191 * k0 + 176) + j) (J 17 j) := ⟨_, rfl⟩
                      rw [← eI16] at hP
                      have sI16 := eI16
                      rw [hc2] at sI16
                      rw [IM_s (o := 176 + j) (by omega) (by omega) (by rw [imS_17 (by omega), IM_r (by decide)])] at sI16
                      refine lv_aload_n hx hb dX7_image_171 rfl (lv_at hl 0 rfl) ?_
                      refine f_X7_64 (q := 35) C hP (by assumption) (by assumption) rfl dX7_image_172 ?_
                      refine lv_iload_n hx hb dX7_image_175 rfl (lv_at hl 2 rfl) ?_
                      refine lv_sipush (v := nI 180) hx hb dX7_image_176 (by decide) ?_
                      refine r_addN C dX7_image_179 ?_
                      refine lv_iload_n hx hb dX7_image_180 rfl (lv_at hl 3 rfl) ?_
                      refine r_addN C dX7_image_181 ?_
                      refine lv_aload_n hx hb dX7_image_182 rfl (lv_at hl 0 rfl) ?_
                      refine f_X7_34 (q := 19) C hP (by assumption) (by assumption) rfl dX7_image_183 ?_
                      refine lv_iload_n hx hb dX7_image_186 rfl (lv_at hl 3 rfl) ?_
                      refine r_iald (n := 4) C hP (by assumption) (by omega) (by decide) dX7_image_187 ?_
                      refine r_iast (n := 382) C hP hS (by assumption) (by omega) (by decide) dX7_image_188 (fun H locs hP hS => ?_)
                      obtain ⟨I17, eI17⟩ : ∃ Znew : Nat → Nat → Int32, Znew = up2 I16 35 ((191 * k0 + 180) + j) (I16 19 j) := ⟨_, rfl⟩
                      rw [← eI17] at hP
                      have sI17 := eI17
                      rw [sI16] at sI17
                      rw [IM_s (o := 180 + j) (by omega) (by omega) (by rw [imS_19 (by omega), IM_r (by decide)])] at sI17
                      refine lv_iinc (v := nI (j + 1)) (lv' := [(3, .int (nI (j + 1))), (0, .ref (ad 10)), (1, .int (nI k0)), (2, .int (nI (191 * k0)))]) hx hb dX7_image_189 hl (k := 3) rfl (nI_1 _) (by decide) rfl (fun ls hl => ?_)
                      refine lv_goto (tgt := 148) hx hb dX7_image_192 (by decide) ?_
                      exact ih148 (j + 1) I17 _ _ _ (by omega) (by omega) (by rw [sI17]; exact IM_c (fun x hx => by simp only [← Bool.decide_or]; exact decide_eq_decide.mpr (by omega))) hP hS (lv_sub hl [1, 2, 3, 0] rfl)
                exact hL148_9 (4 + 1) 0 J _ _ _ (by omega) (by omega) (by rw [hc1]; exact IM_c (fun x hx => by exact decide_eq_decide.mpr (by omega))) hP hS (lv_sub hl [1, 2, 3, 0] rfl)
              · refine lv_aload_n hx hb dX7_image_71 rfl (lv_at hl 0 rfl) ?_
                refine f_X7_64 (q := 35) C hP (by assumption) (by assumption) rfl dX7_image_72 ?_
                refine lv_iload_n hx hb dX7_image_75 rfl (lv_at hl 2 rfl) ?_
                refine lv_bipush (v := nI 16) hx hb dX7_image_76 (by decide) ?_
                refine r_addN C dX7_image_78 ?_
                refine lv_iload_n hx hb dX7_image_79 rfl (lv_at hl 3 rfl) ?_
                refine r_addN C dX7_image_80 ?_
                refine lv_aload_n hx hb dX7_image_81 rfl (lv_at hl 0 rfl) ?_
                refine f_X7_16 (q := 13) C hP (by assumption) (by assumption) rfl dX7_image_82 ?_
                refine lv_iload_n hx hb dX7_image_85 rfl (lv_at hl 3 rfl) ?_
                refine r_iald (n := 40) C hP (by assumption) (by omega) (by decide) dX7_image_86 ?_
                refine r_iast (n := 382) C hP hS (by assumption) (by omega) (by decide) dX7_image_87 (fun H locs hP hS => ?_)
                obtain ⟨I18, eI18⟩ : ∃ Znew : Nat → Nat → Int32, Znew = up2 J 35 ((191 * k0 + 16) + j) (J 13 j) := ⟨_, rfl⟩
                rw [← eI18] at hP
                have sI18 := eI18
                rw [hc1] at sI18
                rw [IM_s (o := 16 + j) (by omega) (by omega) (by rw [imS_13 (by omega), IM_r (by decide)])] at sI18
                refine lv_aload_n hx hb dX7_image_88 rfl (lv_at hl 0 rfl) ?_
                refine f_X7_64 (q := 35) C hP (by assumption) (by assumption) rfl dX7_image_89 ?_
                refine lv_iload_n hx hb dX7_image_92 rfl (lv_at hl 2 rfl) ?_
                refine lv_bipush (v := nI 56) hx hb dX7_image_93 (by decide) ?_
                refine r_addN C dX7_image_95 ?_
                refine lv_iload_n hx hb dX7_image_96 rfl (lv_at hl 3 rfl) ?_
                refine r_addN C dX7_image_97 ?_
                refine lv_aload_n hx hb dX7_image_98 rfl (lv_at hl 0 rfl) ?_
                refine f_X7_19 (q := 14) C hP (by assumption) (by assumption) rfl dX7_image_99 ?_
                refine lv_iload_n hx hb dX7_image_102 rfl (lv_at hl 3 rfl) ?_
                refine r_iald (n := 40) C hP (by assumption) (by omega) (by decide) dX7_image_103 ?_
                refine r_iast (n := 382) C hP hS (by assumption) (by omega) (by decide) dX7_image_104 (fun H locs hP hS => ?_)
                obtain ⟨I19, eI19⟩ : ∃ Znew : Nat → Nat → Int32, Znew = up2 I18 35 ((191 * k0 + 56) + j) (I18 14 j) := ⟨_, rfl⟩
                rw [← eI19] at hP
                have sI19 := eI19
                rw [sI18] at sI19
                rw [IM_s (o := 56 + j) (by omega) (by omega) (by rw [imS_14 (by omega), IM_r (by decide)])] at sI19
                refine lv_aload_n hx hb dX7_image_105 rfl (lv_at hl 0 rfl) ?_
                refine f_X7_64 (q := 35) C hP (by assumption) (by assumption) rfl dX7_image_106 ?_
                refine lv_iload_n hx hb dX7_image_109 rfl (lv_at hl 2 rfl) ?_
                refine lv_bipush (v := nI 96) hx hb dX7_image_110 (by decide) ?_
                refine r_addN C dX7_image_112 ?_
                refine lv_iload_n hx hb dX7_image_113 rfl (lv_at hl 3 rfl) ?_
                refine r_addN C dX7_image_114 ?_
                refine lv_aload_n hx hb dX7_image_115 rfl (lv_at hl 0 rfl) ?_
                refine f_X7_22 (q := 15) C hP (by assumption) (by assumption) rfl dX7_image_116 ?_
                refine lv_iload_n hx hb dX7_image_119 rfl (lv_at hl 3 rfl) ?_
                refine r_iald (n := 40) C hP (by assumption) (by omega) (by decide) dX7_image_120 ?_
                refine r_iast (n := 382) C hP hS (by assumption) (by omega) (by decide) dX7_image_121 (fun H locs hP hS => ?_)
                obtain ⟨I20, eI20⟩ : ∃ Znew : Nat → Nat → Int32, Znew = up2 I19 35 ((191 * k0 + 96) + j) (I19 15 j) := ⟨_, rfl⟩
                rw [← eI20] at hP
                have sI20 := eI20
                rw [sI19] at sI20
                rw [IM_s (o := 96 + j) (by omega) (by omega) (by rw [imS_15 (by omega), IM_r (by decide)])] at sI20
                refine lv_aload_n hx hb dX7_image_122 rfl (lv_at hl 0 rfl) ?_
                refine f_X7_64 (q := 35) C hP (by assumption) (by assumption) rfl dX7_image_123 ?_
                refine lv_iload_n hx hb dX7_image_126 rfl (lv_at hl 2 rfl) ?_
                refine lv_sipush (v := nI 136) hx hb dX7_image_127 (by decide) ?_
                refine r_addN C dX7_image_130 ?_
                refine lv_iload_n hx hb dX7_image_131 rfl (lv_at hl 3 rfl) ?_
                refine r_addN C dX7_image_132 ?_
                refine lv_aload_n hx hb dX7_image_133 rfl (lv_at hl 0 rfl) ?_
                refine f_X7_25 (q := 16) C hP (by assumption) (by assumption) rfl dX7_image_134 ?_
                refine lv_iload_n hx hb dX7_image_137 rfl (lv_at hl 3 rfl) ?_
                refine r_iald (n := 40) C hP (by assumption) (by omega) (by decide) dX7_image_138 ?_
                refine r_iast (n := 382) C hP hS (by assumption) (by omega) (by decide) dX7_image_139 (fun H locs hP hS => ?_)
                obtain ⟨I21, eI21⟩ : ∃ Znew : Nat → Nat → Int32, Znew = up2 I20 35 ((191 * k0 + 136) + j) (I20 16 j) := ⟨_, rfl⟩
                rw [← eI21] at hP
                have sI21 := eI21
                rw [sI20] at sI21
                rw [IM_s (o := 136 + j) (by omega) (by omega) (by rw [imS_16 (by omega), IM_r (by decide)])] at sI21
                refine lv_iinc (v := nI (j + 1)) (lv' := [(3, .int (nI (j + 1))), (0, .ref (ad 10)), (1, .int (nI k0)), (2, .int (nI (191 * k0)))]) hx hb dX7_image_140 hl (k := 3) rfl (nI_1 _) (by decide) rfl (fun ls hl => ?_)
                refine lv_goto (tgt := 65) hx hb dX7_image_143 (by decide) ?_
                exact ih65 (j + 1) I21 _ _ _ (by omega) (by omega) (by rw [sI21]; exact IM_c (fun x hx => by simp only [← Bool.decide_or]; exact decide_eq_decide.mpr (by omega))) hP hS (lv_sub hl [1, 2, 3, 0] rfl)
          exact hL65_7 (40 + 1) 0 J _ _ _ (by omega) (by omega) (by rw [hc0]; exact IM_c (fun x hx => by exact decide_eq_decide.mpr (by omega))) hP hS (lv_sub hl [1, 2, 3, 0] rfl)
        · refine lv_aload_n hx hb dX7_image_26 rfl (lv_at hl 0 rfl) ?_
          refine f_X7_64 (q := 35) C hP (by assumption) (by assumption) rfl dX7_image_27 ?_
          refine lv_iload_n hx hb dX7_image_30 rfl (lv_at hl 2 rfl) ?_
          refine lv_iload_n hx hb dX7_image_31 rfl (lv_at hl 3 rfl) ?_
          refine r_addN C dX7_image_32 ?_
          refine lv_aload_n hx hb dX7_image_33 rfl (lv_at hl 0 rfl) ?_
          refine f_X7_7 (q := 11) C hP (by assumption) (by assumption) rfl dX7_image_34 ?_
          refine lv_iload_n hx hb dX7_image_37 rfl (lv_at hl 3 rfl) ?_
          refine r_iald (n := 8) C hP (by assumption) (by omega) (by decide) dX7_image_38 ?_
          refine r_iast (n := 382) C hP hS (by assumption) (by omega) (by decide) dX7_image_39 (fun H locs hP hS => ?_)
          obtain ⟨I22, eI22⟩ : ∃ Znew : Nat → Nat → Int32, Znew = up2 J 35 (191 * k0 + j) (J 11 j) := ⟨_, rfl⟩
          rw [← eI22] at hP
          have sI22 := eI22
          rw [hc0] at sI22
          rw [IM_s (o := 0 + j) (by omega) (by omega) (by rw [imS_11 (by omega), IM_r (by decide)])] at sI22
          refine lv_aload_n hx hb dX7_image_40 rfl (lv_at hl 0 rfl) ?_
          refine f_X7_64 (q := 35) C hP (by assumption) (by assumption) rfl dX7_image_41 ?_
          refine lv_iload_n hx hb dX7_image_44 rfl (lv_at hl 2 rfl) ?_
          refine lv_bipush (v := nI 8) hx hb dX7_image_45 (by decide) ?_
          refine r_addN C dX7_image_47 ?_
          refine lv_iload_n hx hb dX7_image_48 rfl (lv_at hl 3 rfl) ?_
          refine r_addN C dX7_image_49 ?_
          refine lv_aload_n hx hb dX7_image_50 rfl (lv_at hl 0 rfl) ?_
          refine f_X7_13 (q := 12) C hP (by assumption) (by assumption) rfl dX7_image_51 ?_
          refine lv_iload_n hx hb dX7_image_54 rfl (lv_at hl 3 rfl) ?_
          refine r_iald (n := 8) C hP (by assumption) (by omega) (by decide) dX7_image_55 ?_
          refine r_iast (n := 382) C hP hS (by assumption) (by omega) (by decide) dX7_image_56 (fun H locs hP hS => ?_)
          obtain ⟨I23, eI23⟩ : ∃ Znew : Nat → Nat → Int32, Znew = up2 I22 35 ((191 * k0 + 8) + j) (I22 12 j) := ⟨_, rfl⟩
          rw [← eI23] at hP
          have sI23 := eI23
          rw [sI22] at sI23
          rw [IM_s (o := 8 + j) (by omega) (by omega) (by rw [imS_12 (by omega), IM_r (by decide)])] at sI23
          refine lv_iinc (v := nI (j + 1)) (lv' := [(3, .int (nI (j + 1))), (0, .ref (ad 10)), (1, .int (nI k0)), (2, .int (nI (191 * k0)))]) hx hb dX7_image_57 hl (k := 3) rfl (nI_1 _) (by decide) rfl (fun ls hl => ?_)
          refine lv_goto (tgt := 20) hx hb dX7_image_60 (by decide) ?_
          exact ih20 (j + 1) I23 _ _ _ (by omega) (by omega) (by rw [sI23]; exact IM_c (fun x hx => by simp only [← Bool.decide_or]; exact decide_eq_decide.mpr (by omega))) hP hS (lv_sub hl [1, 2, 3, 0] rfl)
    exact hL20_5 (8 + 1) 0 I _ _ _ (by omega) (by omega) (by rw [show (IMf I k0 (fun x => decide (x < 0 ∨ (0 ≤ x ∧ x < 0 + 0) ∨ (8 ≤ x ∧ x < 8 + 0)))) = IMf I k0 (fun _ => false) from IM_c (fun x hx => by simp)]; exact IM_0 I k0) hP hS (lv_sub hl [2, 3, 1, 0] rfl)
  · refine z_ne0 C dX7_image_6 (tgt := 12) (by decide) ?_
    refine lv_bipush (v := (-2)) hx hb dX7_image_9 (by decide) ?_
    exact hret _ _ _ _ _ _ dX7_image_11 hP hS (by unfold sImage; rw [if_neg (by omega)]; exact ⟨rfl, rfl⟩)
set_option maxHeartbeats 4000000 in
set_option maxRecDepth 100000 in
theorem c_X7_restore {l : Launch} {E : En} {K : Nat → Nat} {L : Nat → Nat → Bool} {ad : Nat → Nat} {I : Nat → Nat → Int32} (k : Int32) (hM : IsM K L) : MI l E K L ad I yX7_restore cX7_restore 4 (some .int) 1 [.ref (ad 10), .int k] (fun rv RJ => rv = (sRest I k).1 ∧ RJ = (sRest I k).2) := by
  have hM0 := hM
  obtain ⟨m0, ml1, ml2, ml3, ml4, ml5, ml6, ml7, ml8, ml9, ml10, ml11, ml12, ml13, ml14, ml15, ml16, ml17, ml21, ml25, ml26, mk1, mk2, mk3, mk4, mk5, mk6, mk7, mk8, mk9, mk10, mk11, mk12, mk13, mk14, mk15, mk16, mk17, mk21, mk25, mk26⟩ := hM
  refine MI.of (by decide) (Nat.le_of_ble_eq_true rfl) ?_
  intro p ee s m args below meth c ls Qf C hret hP hl
  have C : Cx E p s m args c cX7_restore RX7 4 := C
  have hx := C.1
  have hb := C.2.1
  have hS : va_S (AG E) s.heap s.heap [] := va_S.rf
  have hl : lv_has ls 4 [(0, .ref (ad 10)), (1, .int k)] := hl
  refine lv_iload_n hx hb dX7_restore_0 rfl (lv_at hl 1 rfl) ?_
  refine lv_iconst (v := nI 0) hx hb dX7_restore_1 (by decide) ?_
  refine lv_iconst (v := nI 1) hx hb dX7_restore_2 (by decide) ?_
  refine k_X7_75 C hP hS (c_X7_inN k 0 1 (by first | decide | omega) (by first | decide | omega)) ⟨Nat.le_of_ble_eq_true rfl, Nat.le_of_ble_eq_true rfl⟩ ⟨Nat.zero_le _, Nat.zero_le _⟩ hl.1 (Nat.le_of_ble_eq_true rfl) dX7_restore_3 (fun v1 I2 H locs hv3 hP hS => ?_)
  obtain ⟨eI2, hv3⟩ := hv3
  rw [eI2] at hP
  clear eI2
  rcases hv3 with ⟨rfl, hc4⟩ | ⟨rfl, hc4⟩
  · refine z_ne1 C dX7_restore_6 (tgt := 12) (by decide) ?_
    obtain ⟨k0, hk0, ek0⟩ : ∃ j : Nat, j < 2 ∧ k = nI j := ⟨k.toInt.toNat, by omega, i32_eq (by omega) (by omega)⟩
    have ck0 : tn k = k0 := by rw [ek0]; exact nI_clamp (by omega)
    rw [ek0] at hl
    refine lv_aload_n hx hb dX7_restore_12 rfl (lv_at hl 0 rfl) ?_
    refine f_X7_67 (q := 36) C hP (by assumption) (by assumption) rfl dX7_restore_13 ?_
    refine lv_iload_n hx hb dX7_restore_16 rfl (lv_at hl 1 rfl) ?_
    refine r_zald C hP (by assumption) (by omega) dX7_restore_17 ?_
    refine z_ne C dX7_restore_18 (tgt := 24) (by decide) (fun h5 => ?_) (fun h5 => ?_)
    · refine lv_sipush (v := nI 191) hx hb dX7_restore_24 (by decide) ?_
      refine lv_iload_n hx hb dX7_restore_27 rfl (lv_at hl 1 rfl) ?_
      refine r_mulN C dX7_restore_28 ?_
      refine lv_istore_n (lv' := [(2, .int (nI (191 * k0))), (0, .ref (ad 10)), (1, .int (nI k0))]) hx hb dX7_restore_29 rfl hl (by decide) rfl (fun ls hl => ?_)
      refine lv_iconst (v := nI 0) hx hb dX7_restore_30 (by decide) ?_
      refine lv_istore_n (lv' := [(3, .int (nI 0)), (2, .int (nI (191 * k0))), (0, .ref (ad 10)), (1, .int (nI k0))]) hx hb dX7_restore_31 rfl hl (by decide) rfl (fun ls hl => ?_)
      have hL32_6 : ∀ (d : Nat) (j : Nat) (J : Mem) (H : Heap) (locs : List Loc) (ls : Array Slot), 8 < j + d → (j ≤ 8) → (J = REf I k0 (fun x => decide (x < 0 ∨ (0 ≤ x ∧ x < 0 + j) ∨ (8 ≤ x ∧ x < 8 + j)))) → Hp E K L ad J H → va_S (AG E) s.heap H locs → lv_has ls 4 [(0, .ref (ad 10)), (1, .int (nI k0)), (2, .int (nI (191 * k0))), (3, .int (nI j))] → W p l ee (rmk 1) s m args below meth c H locs 0 0 Qf (F0 m 32 ls []) := by
        intro d32
        induction d32 with
        | zero => intro j J H locs ls hd32 hj0 hc0 _ _ _; exact absurd hd32 (by omega)
        | succ d32 ih32 =>
          intro j J H locs ls hd32 hj0 hc0 hP hS hl
          refine lv_iload_n hx hb dX7_restore_32 rfl (lv_at hl 3 rfl) ?_
          refine lv_bipush (v := nI 8) hx hb dX7_restore_33 (by decide) ?_
          refine b_geN C (by omega) (by omega) dX7_restore_35 (tgt := 75) (by decide) (fun h7 => ?_) (fun h7 => ?_)
          · refine lv_iconst (v := nI 0) hx hb dX7_restore_75 (by decide) ?_
            refine lv_istore_n (lv' := [(3, .int (nI 0)), (0, .ref (ad 10)), (1, .int (nI k0)), (2, .int (nI (191 * k0)))]) hx hb dX7_restore_76 rfl hl (by decide) rfl (fun ls hl => ?_)
            have hL77_8 : ∀ (d : Nat) (j : Nat) (J : Mem) (H : Heap) (locs : List Loc) (ls : Array Slot), 40 < j + d → (j ≤ 40) → (J = REf I k0 (fun x => decide (x < 0 ∨ (0 ≤ x ∧ x < 0 + 8) ∨ (8 ≤ x ∧ x < 8 + 8) ∨ (16 ≤ x ∧ x < 16 + j) ∨ (56 ≤ x ∧ x < 56 + j) ∨ (96 ≤ x ∧ x < 96 + j) ∨ (136 ≤ x ∧ x < 136 + j)))) → Hp E K L ad J H → va_S (AG E) s.heap H locs → lv_has ls 4 [(0, .ref (ad 10)), (1, .int (nI k0)), (2, .int (nI (191 * k0))), (3, .int (nI j))] → W p l ee (rmk 1) s m args below meth c H locs 0 0 Qf (F0 m 77 ls []) := by
              intro d77
              induction d77 with
              | zero => intro j J H locs ls hd77 hj1 hc1 _ _ _; exact absurd hd77 (by omega)
              | succ d77 ih77 =>
                intro j J H locs ls hd77 hj1 hc1 hP hS hl
                refine lv_iload_n hx hb dX7_restore_77 rfl (lv_at hl 3 rfl) ?_
                refine lv_bipush (v := nI 40) hx hb dX7_restore_78 (by decide) ?_
                refine b_geN C (by omega) (by omega) dX7_restore_80 (tgt := 158) (by decide) (fun h9 => ?_) (fun h9 => ?_)
                · refine lv_iconst (v := nI 0) hx hb dX7_restore_158 (by decide) ?_
                  refine lv_istore_n (lv' := [(3, .int (nI 0)), (0, .ref (ad 10)), (1, .int (nI k0)), (2, .int (nI (191 * k0)))]) hx hb dX7_restore_159 rfl hl (by decide) rfl (fun ls hl => ?_)
                  have hL160_10 : ∀ (d : Nat) (j : Nat) (J : Mem) (H : Heap) (locs : List Loc) (ls : Array Slot), 4 < j + d → (j ≤ 4) → (J = REf I k0 (fun x => decide (x < 0 ∨ (0 ≤ x ∧ x < 0 + 8) ∨ (8 ≤ x ∧ x < 8 + 8) ∨ (16 ≤ x ∧ x < 16 + 40) ∨ (56 ≤ x ∧ x < 56 + 40) ∨ (96 ≤ x ∧ x < 96 + 40) ∨ (136 ≤ x ∧ x < 136 + 40) ∨ (176 ≤ x ∧ x < 176 + j) ∨ (180 ≤ x ∧ x < 180 + j)))) → Hp E K L ad J H → va_S (AG E) s.heap H locs → lv_has ls 4 [(0, .ref (ad 10)), (1, .int (nI k0)), (2, .int (nI (191 * k0))), (3, .int (nI j))] → W p l ee (rmk 1) s m args below meth c H locs 0 0 Qf (F0 m 160 ls []) := by
                    intro d160
                    induction d160 with
                    | zero => intro j J H locs ls hd160 hj2 hc2 _ _ _; exact absurd hd160 (by omega)
                    | succ d160 ih160 =>
                      intro j J H locs ls hd160 hj2 hc2 hP hS hl
                      refine lv_iload_n hx hb dX7_restore_160 rfl (lv_at hl 3 rfl) ?_
                      refine lv_iconst (v := nI 4) hx hb dX7_restore_161 (by decide) ?_
                      refine b_geN C (by omega) (by omega) dX7_restore_162 (tgt := 207) (by decide) (fun h11 => ?_) (fun h11 => ?_)
                      · refine lv_iconst (v := nI 0) hx hb dX7_restore_207 (by decide) ?_
                        refine lv_istore_n (lv' := [(3, .int (nI 0)), (0, .ref (ad 10)), (1, .int (nI k0)), (2, .int (nI (191 * k0)))]) hx hb dX7_restore_208 rfl hl (by decide) rfl (fun ls hl => ?_)
                        have hL209_12 : ∀ (d : Nat) (j : Nat) (J : Mem) (H : Heap) (locs : List Loc) (ls : Array Slot), 6 < j + d → (j ≤ 6) → (J = REf I k0 (fun x => decide (x < 0 ∨ (0 ≤ x ∧ x < 0 + 8) ∨ (8 ≤ x ∧ x < 8 + 8) ∨ (16 ≤ x ∧ x < 16 + 40) ∨ (56 ≤ x ∧ x < 56 + 40) ∨ (96 ≤ x ∧ x < 96 + 40) ∨ (136 ≤ x ∧ x < 136 + 40) ∨ (176 ≤ x ∧ x < 176 + 4) ∨ (180 ≤ x ∧ x < 180 + 4) ∨ (184 ≤ x ∧ x < 184 + j)))) → Hp E K L ad J H → va_S (AG E) s.heap H locs → lv_has ls 4 [(0, .ref (ad 10)), (1, .int (nI k0)), (2, .int (nI (191 * k0))), (3, .int (nI j))] → W p l ee (rmk 1) s m args below meth c H locs 0 0 Qf (F0 m 209 ls []) := by
                          intro d209
                          induction d209 with
                          | zero => intro j J H locs ls hd209 hj3 hc3 _ _ _; exact absurd hd209 (by omega)
                          | succ d209 ih209 =>
                            intro j J H locs ls hd209 hj3 hc3 hP hS hl
                            refine lv_iload_n hx hb dX7_restore_209 rfl (lv_at hl 3 rfl) ?_
                            refine lv_bipush (v := nI 6) hx hb dX7_restore_210 (by decide) ?_
                            refine b_geN C (by omega) (by omega) dX7_restore_212 (tgt := 239) (by decide) (fun h13 => ?_) (fun h13 => ?_)
                            · refine lv_aload_n hx hb dX7_restore_239 rfl (lv_at hl 0 rfl) ?_
                              refine lv_aload_n hx hb dX7_restore_240 rfl (lv_at hl 0 rfl) ?_
                              refine f_X7_64 (q := 35) C hP (by assumption) (by assumption) rfl dX7_restore_241 ?_
                              refine lv_iload_n hx hb dX7_restore_244 rfl (lv_at hl 2 rfl) ?_
                              refine lv_sipush (v := nI 190) hx hb dX7_restore_245 (by decide) ?_
                              refine r_addN C dX7_restore_248 ?_
                              refine r_iald (n := 382) C hP (by assumption) (by omega) (by decide) dX7_restore_249 ?_
                              refine p_X7_71 C hP hS (by assumption) dX7_restore_250 (fun H locs hP hS => ?_)
                              obtain ⟨I14, eI14⟩ : ∃ Znew : Nat → Nat → Int32, Znew = up2 J 10 0 (J 35 (191 * k0 + 190)) := ⟨_, rfl⟩
                              rw [← eI14] at hP
                              have sI14 := eI14
                              rw [hc3] at sI14
                              rw [RE2_s (o := 190) ofs_10 (by decide) (by rw [RE_35])] at sI14
                              refine lv_iconst (v := nI 1) hx hb dX7_restore_253 (by decide) ?_
                              exact hret _ _ _ _ _ _ dX7_restore_254 hP hS (by unfold sRest; rw [if_pos (by omega), ck0, if_neg (by assumption)]; refine ⟨rfl, ?_⟩; rw [sI14]; show _ = reU I k0; unfold reU; exact RE2_c (fun x hx => by simp only [← Bool.decide_or]; exact decide_eq_true (by omega)))
                            · refine lv_aload_n hx hb dX7_restore_215 rfl (lv_at hl 0 rfl) ?_
                              refine f_X7_31 (q := 18) C hP (by assumption) (by assumption) rfl dX7_restore_216 ?_
                              refine lv_iload_n hx hb dX7_restore_219 rfl (lv_at hl 3 rfl) ?_
                              refine lv_aload_n hx hb dX7_restore_220 rfl (lv_at hl 0 rfl) ?_
                              refine f_X7_64 (q := 35) C hP (by assumption) (by assumption) rfl dX7_restore_221 ?_
                              refine lv_iload_n hx hb dX7_restore_224 rfl (lv_at hl 2 rfl) ?_
                              refine lv_sipush (v := nI 184) hx hb dX7_restore_225 (by decide) ?_
                              refine r_addN C dX7_restore_228 ?_
                              refine lv_iload_n hx hb dX7_restore_229 rfl (lv_at hl 3 rfl) ?_
                              refine r_addN C dX7_restore_230 ?_
                              refine r_iald (n := 382) C hP (by assumption) (by omega) (by decide) dX7_restore_231 ?_
                              refine r_iast (n := 6) C hP hS (by assumption) (by omega) (by decide) dX7_restore_232 (fun H locs hP hS => ?_)
                              obtain ⟨I15, eI15⟩ : ∃ Znew : Nat → Nat → Int32, Znew = up2 J 18 j (J 35 ((191 * k0 + 184) + j)) := ⟨_, rfl⟩
                              rw [← eI15] at hP
                              have sI15 := eI15
                              rw [hc3] at sI15
                              rw [RE2_s (o := 184 + j) (ofs_18 (by omega)) (by omega) (by rw [RE_35]; congr 1; omega)] at sI15
                              refine lv_iinc (v := nI (j + 1)) (lv' := [(3, .int (nI (j + 1))), (0, .ref (ad 10)), (1, .int (nI k0)), (2, .int (nI (191 * k0)))]) hx hb dX7_restore_233 hl (k := 3) rfl (nI_1 _) (by decide) rfl (fun ls hl => ?_)
                              refine lv_goto (tgt := 209) hx hb dX7_restore_236 (by decide) ?_
                              exact ih209 (j + 1) I15 _ _ _ (by omega) (by omega) (by rw [sI15]; exact RE2_c (fun x hx => by simp only [← Bool.decide_or]; exact decide_eq_decide.mpr (by omega))) hP hS (lv_sub hl [1, 2, 3, 0] rfl)
                        exact hL209_12 (6 + 1) 0 J _ _ _ (by omega) (by omega) (by rw [hc2]; exact RE2_c (fun x hx => by exact decide_eq_decide.mpr (by omega))) hP hS (lv_sub hl [1, 2, 3, 0] rfl)
                      · refine lv_aload_n hx hb dX7_restore_165 rfl (lv_at hl 0 rfl) ?_
                        refine f_X7_28 (q := 17) C hP (by assumption) (by assumption) rfl dX7_restore_166 ?_
                        refine lv_iload_n hx hb dX7_restore_169 rfl (lv_at hl 3 rfl) ?_
                        refine lv_aload_n hx hb dX7_restore_170 rfl (lv_at hl 0 rfl) ?_
                        refine f_X7_64 (q := 35) C hP (by assumption) (by assumption) rfl dX7_restore_171 ?_
                        refine lv_iload_n hx hb dX7_restore_174 rfl (lv_at hl 2 rfl) ?_
                        refine lv_sipush (v := nI 176) hx hb dX7_restore_175 (by decide) ?_
                        refine r_addN C dX7_restore_178 ?_
                        refine lv_iload_n hx hb dX7_restore_179 rfl (lv_at hl 3 rfl) ?_
                        refine r_addN C dX7_restore_180 ?_
                        refine r_iald (n := 382) C hP (by assumption) (by omega) (by decide) dX7_restore_181 ?_
                        refine r_iast (n := 4) C hP hS (by assumption) (by omega) (by decide) dX7_restore_182 (fun H locs hP hS => ?_)
                        obtain ⟨I16, eI16⟩ : ∃ Znew : Nat → Nat → Int32, Znew = up2 J 17 j (J 35 ((191 * k0 + 176) + j)) := ⟨_, rfl⟩
                        rw [← eI16] at hP
                        have sI16 := eI16
                        rw [hc2] at sI16
                        rw [RE2_s (o := 176 + j) (ofs_17 (by omega)) (by omega) (by rw [RE_35]; congr 1; omega)] at sI16
                        refine lv_aload_n hx hb dX7_restore_183 rfl (lv_at hl 0 rfl) ?_
                        refine f_X7_34 (q := 19) C hP (by assumption) (by assumption) rfl dX7_restore_184 ?_
                        refine lv_iload_n hx hb dX7_restore_187 rfl (lv_at hl 3 rfl) ?_
                        refine lv_aload_n hx hb dX7_restore_188 rfl (lv_at hl 0 rfl) ?_
                        refine f_X7_64 (q := 35) C hP (by assumption) (by assumption) rfl dX7_restore_189 ?_
                        refine lv_iload_n hx hb dX7_restore_192 rfl (lv_at hl 2 rfl) ?_
                        refine lv_sipush (v := nI 180) hx hb dX7_restore_193 (by decide) ?_
                        refine r_addN C dX7_restore_196 ?_
                        refine lv_iload_n hx hb dX7_restore_197 rfl (lv_at hl 3 rfl) ?_
                        refine r_addN C dX7_restore_198 ?_
                        refine r_iald (n := 382) C hP (by assumption) (by omega) (by decide) dX7_restore_199 ?_
                        refine r_iast (n := 4) C hP hS (by assumption) (by omega) (by decide) dX7_restore_200 (fun H locs hP hS => ?_)
                        obtain ⟨I17, eI17⟩ : ∃ Znew : Nat → Nat → Int32, Znew = up2 I16 19 j (I16 35 ((191 * k0 + 180) + j)) := ⟨_, rfl⟩
                        rw [← eI17] at hP
                        have sI17 := eI17
                        rw [sI16] at sI17
                        rw [RE2_s (o := 180 + j) (ofs_19 (by omega)) (by omega) (by rw [RE_35]; congr 1; omega)] at sI17
                        refine lv_iinc (v := nI (j + 1)) (lv' := [(3, .int (nI (j + 1))), (0, .ref (ad 10)), (1, .int (nI k0)), (2, .int (nI (191 * k0)))]) hx hb dX7_restore_201 hl (k := 3) rfl (nI_1 _) (by decide) rfl (fun ls hl => ?_)
                        refine lv_goto (tgt := 160) hx hb dX7_restore_204 (by decide) ?_
                        exact ih160 (j + 1) I17 _ _ _ (by omega) (by omega) (by rw [sI17]; exact RE2_c (fun x hx => by simp only [← Bool.decide_or]; exact decide_eq_decide.mpr (by omega))) hP hS (lv_sub hl [1, 2, 3, 0] rfl)
                  exact hL160_10 (4 + 1) 0 J _ _ _ (by omega) (by omega) (by rw [hc1]; exact RE2_c (fun x hx => by exact decide_eq_decide.mpr (by omega))) hP hS (lv_sub hl [1, 2, 3, 0] rfl)
                · refine lv_aload_n hx hb dX7_restore_83 rfl (lv_at hl 0 rfl) ?_
                  refine f_X7_16 (q := 13) C hP (by assumption) (by assumption) rfl dX7_restore_84 ?_
                  refine lv_iload_n hx hb dX7_restore_87 rfl (lv_at hl 3 rfl) ?_
                  refine lv_aload_n hx hb dX7_restore_88 rfl (lv_at hl 0 rfl) ?_
                  refine f_X7_64 (q := 35) C hP (by assumption) (by assumption) rfl dX7_restore_89 ?_
                  refine lv_iload_n hx hb dX7_restore_92 rfl (lv_at hl 2 rfl) ?_
                  refine lv_bipush (v := nI 16) hx hb dX7_restore_93 (by decide) ?_
                  refine r_addN C dX7_restore_95 ?_
                  refine lv_iload_n hx hb dX7_restore_96 rfl (lv_at hl 3 rfl) ?_
                  refine r_addN C dX7_restore_97 ?_
                  refine r_iald (n := 382) C hP (by assumption) (by omega) (by decide) dX7_restore_98 ?_
                  refine r_iast (n := 40) C hP hS (by assumption) (by omega) (by decide) dX7_restore_99 (fun H locs hP hS => ?_)
                  obtain ⟨I18, eI18⟩ : ∃ Znew : Nat → Nat → Int32, Znew = up2 J 13 j (J 35 ((191 * k0 + 16) + j)) := ⟨_, rfl⟩
                  rw [← eI18] at hP
                  have sI18 := eI18
                  rw [hc1] at sI18
                  rw [RE2_s (o := 16 + j) (ofs_13 (by omega)) (by omega) (by rw [RE_35]; congr 1; omega)] at sI18
                  refine lv_aload_n hx hb dX7_restore_100 rfl (lv_at hl 0 rfl) ?_
                  refine f_X7_19 (q := 14) C hP (by assumption) (by assumption) rfl dX7_restore_101 ?_
                  refine lv_iload_n hx hb dX7_restore_104 rfl (lv_at hl 3 rfl) ?_
                  refine lv_aload_n hx hb dX7_restore_105 rfl (lv_at hl 0 rfl) ?_
                  refine f_X7_64 (q := 35) C hP (by assumption) (by assumption) rfl dX7_restore_106 ?_
                  refine lv_iload_n hx hb dX7_restore_109 rfl (lv_at hl 2 rfl) ?_
                  refine lv_bipush (v := nI 56) hx hb dX7_restore_110 (by decide) ?_
                  refine r_addN C dX7_restore_112 ?_
                  refine lv_iload_n hx hb dX7_restore_113 rfl (lv_at hl 3 rfl) ?_
                  refine r_addN C dX7_restore_114 ?_
                  refine r_iald (n := 382) C hP (by assumption) (by omega) (by decide) dX7_restore_115 ?_
                  refine r_iast (n := 40) C hP hS (by assumption) (by omega) (by decide) dX7_restore_116 (fun H locs hP hS => ?_)
                  obtain ⟨I19, eI19⟩ : ∃ Znew : Nat → Nat → Int32, Znew = up2 I18 14 j (I18 35 ((191 * k0 + 56) + j)) := ⟨_, rfl⟩
                  rw [← eI19] at hP
                  have sI19 := eI19
                  rw [sI18] at sI19
                  rw [RE2_s (o := 56 + j) (ofs_14 (by omega)) (by omega) (by rw [RE_35]; congr 1; omega)] at sI19
                  refine lv_aload_n hx hb dX7_restore_117 rfl (lv_at hl 0 rfl) ?_
                  refine f_X7_22 (q := 15) C hP (by assumption) (by assumption) rfl dX7_restore_118 ?_
                  refine lv_iload_n hx hb dX7_restore_121 rfl (lv_at hl 3 rfl) ?_
                  refine lv_aload_n hx hb dX7_restore_122 rfl (lv_at hl 0 rfl) ?_
                  refine f_X7_64 (q := 35) C hP (by assumption) (by assumption) rfl dX7_restore_123 ?_
                  refine lv_iload_n hx hb dX7_restore_126 rfl (lv_at hl 2 rfl) ?_
                  refine lv_bipush (v := nI 96) hx hb dX7_restore_127 (by decide) ?_
                  refine r_addN C dX7_restore_129 ?_
                  refine lv_iload_n hx hb dX7_restore_130 rfl (lv_at hl 3 rfl) ?_
                  refine r_addN C dX7_restore_131 ?_
                  refine r_iald (n := 382) C hP (by assumption) (by omega) (by decide) dX7_restore_132 ?_
                  refine r_iast (n := 40) C hP hS (by assumption) (by omega) (by decide) dX7_restore_133 (fun H locs hP hS => ?_)
                  obtain ⟨I20, eI20⟩ : ∃ Znew : Nat → Nat → Int32, Znew = up2 I19 15 j (I19 35 ((191 * k0 + 96) + j)) := ⟨_, rfl⟩
                  rw [← eI20] at hP
                  have sI20 := eI20
                  rw [sI19] at sI20
                  rw [RE2_s (o := 96 + j) (ofs_15 (by omega)) (by omega) (by rw [RE_35]; congr 1; omega)] at sI20
                  refine lv_aload_n hx hb dX7_restore_134 rfl (lv_at hl 0 rfl) ?_
                  refine f_X7_25 (q := 16) C hP (by assumption) (by assumption) rfl dX7_restore_135 ?_
                  refine lv_iload_n hx hb dX7_restore_138 rfl (lv_at hl 3 rfl) ?_
                  refine lv_aload_n hx hb dX7_restore_139 rfl (lv_at hl 0 rfl) ?_
                  refine f_X7_64 (q := 35) C hP (by assumption) (by assumption) rfl dX7_restore_140 ?_
                  refine lv_iload_n hx hb dX7_restore_143 rfl (lv_at hl 2 rfl) ?_
                  refine lv_sipush (v := nI 136) hx hb dX7_restore_144 (by decide) ?_
                  refine r_addN C dX7_restore_147 ?_
                  refine lv_iload_n hx hb dX7_restore_148 rfl (lv_at hl 3 rfl) ?_
                  refine r_addN C dX7_restore_149 ?_
                  refine r_iald (n := 382) C hP (by assumption) (by omega) (by decide) dX7_restore_150 ?_
                  refine r_iast (n := 40) C hP hS (by assumption) (by omega) (by decide) dX7_restore_151 (fun H locs hP hS => ?_)
                  obtain ⟨I21, eI21⟩ : ∃ Znew : Nat → Nat → Int32, Znew = up2 I20 16 j (I20 35 ((191 * k0 + 136) + j)) := ⟨_, rfl⟩
                  rw [← eI21] at hP
                  have sI21 := eI21
                  rw [sI20] at sI21
                  rw [RE2_s (o := 136 + j) (ofs_16 (by omega)) (by omega) (by rw [RE_35]; congr 1; omega)] at sI21
                  refine lv_iinc (v := nI (j + 1)) (lv' := [(3, .int (nI (j + 1))), (0, .ref (ad 10)), (1, .int (nI k0)), (2, .int (nI (191 * k0)))]) hx hb dX7_restore_152 hl (k := 3) rfl (nI_1 _) (by decide) rfl (fun ls hl => ?_)
                  refine lv_goto (tgt := 77) hx hb dX7_restore_155 (by decide) ?_
                  exact ih77 (j + 1) I21 _ _ _ (by omega) (by omega) (by rw [sI21]; exact RE2_c (fun x hx => by simp only [← Bool.decide_or]; exact decide_eq_decide.mpr (by omega))) hP hS (lv_sub hl [1, 2, 3, 0] rfl)
            exact hL77_8 (40 + 1) 0 J _ _ _ (by omega) (by omega) (by rw [hc0]; exact RE2_c (fun x hx => by exact decide_eq_decide.mpr (by omega))) hP hS (lv_sub hl [1, 2, 3, 0] rfl)
          · refine lv_aload_n hx hb dX7_restore_38 rfl (lv_at hl 0 rfl) ?_
            refine f_X7_7 (q := 11) C hP (by assumption) (by assumption) rfl dX7_restore_39 ?_
            refine lv_iload_n hx hb dX7_restore_42 rfl (lv_at hl 3 rfl) ?_
            refine lv_aload_n hx hb dX7_restore_43 rfl (lv_at hl 0 rfl) ?_
            refine f_X7_64 (q := 35) C hP (by assumption) (by assumption) rfl dX7_restore_44 ?_
            refine lv_iload_n hx hb dX7_restore_47 rfl (lv_at hl 2 rfl) ?_
            refine lv_iload_n hx hb dX7_restore_48 rfl (lv_at hl 3 rfl) ?_
            refine r_addN C dX7_restore_49 ?_
            refine r_iald (n := 382) C hP (by assumption) (by omega) (by decide) dX7_restore_50 ?_
            refine r_iast (n := 8) C hP hS (by assumption) (by omega) (by decide) dX7_restore_51 (fun H locs hP hS => ?_)
            obtain ⟨I22, eI22⟩ : ∃ Znew : Nat → Nat → Int32, Znew = up2 J 11 j (J 35 (191 * k0 + j)) := ⟨_, rfl⟩
            rw [← eI22] at hP
            have sI22 := eI22
            rw [hc0] at sI22
            rw [RE2_s (o := 0 + j) (ofs_11 (by omega)) (by omega) (by rw [RE_35]; congr 1; omega)] at sI22
            refine lv_aload_n hx hb dX7_restore_52 rfl (lv_at hl 0 rfl) ?_
            refine f_X7_13 (q := 12) C hP (by assumption) (by assumption) rfl dX7_restore_53 ?_
            refine lv_iload_n hx hb dX7_restore_56 rfl (lv_at hl 3 rfl) ?_
            refine lv_aload_n hx hb dX7_restore_57 rfl (lv_at hl 0 rfl) ?_
            refine f_X7_64 (q := 35) C hP (by assumption) (by assumption) rfl dX7_restore_58 ?_
            refine lv_iload_n hx hb dX7_restore_61 rfl (lv_at hl 2 rfl) ?_
            refine lv_bipush (v := nI 8) hx hb dX7_restore_62 (by decide) ?_
            refine r_addN C dX7_restore_64 ?_
            refine lv_iload_n hx hb dX7_restore_65 rfl (lv_at hl 3 rfl) ?_
            refine r_addN C dX7_restore_66 ?_
            refine r_iald (n := 382) C hP (by assumption) (by omega) (by decide) dX7_restore_67 ?_
            refine r_iast (n := 8) C hP hS (by assumption) (by omega) (by decide) dX7_restore_68 (fun H locs hP hS => ?_)
            obtain ⟨I23, eI23⟩ : ∃ Znew : Nat → Nat → Int32, Znew = up2 I22 12 j (I22 35 ((191 * k0 + 8) + j)) := ⟨_, rfl⟩
            rw [← eI23] at hP
            have sI23 := eI23
            rw [sI22] at sI23
            rw [RE2_s (o := 8 + j) (ofs_12 (by omega)) (by omega) (by rw [RE_35]; congr 1; omega)] at sI23
            refine lv_iinc (v := nI (j + 1)) (lv' := [(3, .int (nI (j + 1))), (0, .ref (ad 10)), (1, .int (nI k0)), (2, .int (nI (191 * k0)))]) hx hb dX7_restore_69 hl (k := 3) rfl (nI_1 _) (by decide) rfl (fun ls hl => ?_)
            refine lv_goto (tgt := 32) hx hb dX7_restore_72 (by decide) ?_
            exact ih32 (j + 1) I23 _ _ _ (by omega) (by omega) (by rw [sI23]; exact RE2_c (fun x hx => by simp only [← Bool.decide_or]; exact decide_eq_decide.mpr (by omega))) hP hS (lv_sub hl [1, 2, 3, 0] rfl)
      exact hL32_6 (8 + 1) 0 I _ _ _ (by omega) (by omega) (by rw [show (REf I k0 (fun x => decide (x < 0 ∨ (0 ≤ x ∧ x < 0 + 0) ∨ (8 ≤ x ∧ x < 8 + 0)))) = REf I k0 (fun _ => false) from RE2_c (fun x hx => by simp)]; exact RE2_0 I k0) hP hS (lv_sub hl [2, 3, 1, 0] rfl)
    · refine lv_bipush (v := (-3)) hx hb dX7_restore_21 (by decide) ?_
      exact hret _ _ _ _ _ _ dX7_restore_23 hP hS (by unfold sRest; rw [if_pos (by omega), ck0, if_pos (by assumption)]; exact ⟨rfl, rfl⟩)
  · refine z_ne0 C dX7_restore_6 (tgt := 12) (by decide) ?_
    refine lv_bipush (v := (-2)) hx hb dX7_restore_9 (by decide) ?_
    exact hret _ _ _ _ _ _ dX7_restore_11 hP hS (by unfold sRest; rw [if_neg (by omega)]; exact ⟨rfl, rfl⟩)
