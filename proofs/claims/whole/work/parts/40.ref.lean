/-! the reference: leaves -/
set_option maxHeartbeats 4000000 in
set_option maxRecDepth 100000 in
theorem c_X7_in {l : Launch} {E : En} {K : Nat → Nat} {L : Nat → Nat → Bool} {ad : Nat → Nat} {I : Nat → Nat → Int32} (n x y : Int32)  : MI l E K L ad I yX7_in cX7_in 3 (some .boolean) 0 [.int n, .int x, .int y] (fun v J => J = I ∧ (v = 1 ∧ (x.toInt ≤ n.toInt ∧ n.toInt ≤ y.toInt) ∨ v = 0 ∧ ¬ (x.toInt ≤ n.toInt ∧ n.toInt ≤ y.toInt))) := by
  refine MZ.of (by decide) (Nat.le_of_ble_eq_true rfl) ?_
  intro p ee s m args below meth c ls Qf C hret hP hl
  have C : Cx E p s m args c cX7_in RX7 3 := C
  have hx := C.1
  have hb := C.2.1
  have hS : va_S (AG E) s.heap s.heap [] := va_S.rf
  have hl : lv_has ls 3 [(0, .int n), (1, .int x), (2, .int y)] := hl
  refine lv_iload_n hx hb dX7_in_0 rfl (lv_at hl 0 rfl) ?_
  refine lv_iload_n hx hb dX7_in_1 rfl (lv_at hl 1 rfl) ?_
  refine b_lt C dX7_in_2 (tgt := 14) (by decide) (fun h1 => ?_) (fun h1 => ?_)
  · refine lv_iconst (v := nI 0) hx hb dX7_in_14 (by decide) ?_
    exact hret _ _ _ _ _ _ dX7_in_15 hP hS (by first | rfl | (rcases hbv with rfl | rfl <;> rfl)) (⟨rfl, Or.inr ⟨rfl, by omega⟩⟩)
  · refine lv_iload_n hx hb dX7_in_5 rfl (lv_at hl 0 rfl) ?_
    refine lv_iload_n hx hb dX7_in_6 rfl (lv_at hl 2 rfl) ?_
    refine b_gt C dX7_in_7 (tgt := 14) (by decide) (fun h2 => ?_) (fun h2 => ?_)
    · refine lv_iconst (v := nI 0) hx hb dX7_in_14 (by decide) ?_
      exact hret _ _ _ _ _ _ dX7_in_15 hP hS (by first | rfl | (rcases hbv with rfl | rfl <;> rfl)) (⟨rfl, Or.inr ⟨rfl, by omega⟩⟩)
    · refine lv_iconst (v := nI 1) hx hb dX7_in_10 (by decide) ?_
      refine lv_goto (tgt := 15) hx hb dX7_in_11 (by decide) ?_
      exact hret _ _ _ _ _ _ dX7_in_15 hP hS (by first | rfl | (rcases hbv with rfl | rfl <;> rfl)) (⟨rfl, Or.inl ⟨rfl, by omega⟩⟩)
set_option maxHeartbeats 4000000 in
set_option maxRecDepth 100000 in
theorem c_X7_inN {l : Launch} {E : En} {K : Nat → Nat} {L : Nat → Nat → Bool} {ad : Nat → Nat} {I : Nat → Nat → Int32} (n : Int32) (a b : Nat) (ha : a < 2 ^ 31) (hb0 : b < 2 ^ 31) : MI l E K L ad I yX7_in cX7_in 3 (some .boolean) 0 [.int n, .int (nI a), .int (nI b)] (fun v J => J = I ∧ (v = 1 ∧ ((a : Int) ≤ n.toInt ∧ n.toInt ≤ (b : Int)) ∨ v = 0 ∧ ¬ ((a : Int) ≤ n.toInt ∧ n.toInt ≤ (b : Int)))) := by
  refine MZ.of (by decide) (Nat.le_of_ble_eq_true rfl) ?_
  intro p ee s m args below meth c ls Qf C hret hP hl
  have C : Cx E p s m args c cX7_in RX7 3 := C
  have hx := C.1
  have hb := C.2.1
  have hS : va_S (AG E) s.heap s.heap [] := va_S.rf
  have hl : lv_has ls 3 [(0, .int n), (1, .int (nI a)), (2, .int (nI b))] := hl
  refine lv_iload_n hx hb dX7_in_0 rfl (lv_at hl 0 rfl) ?_
  refine lv_iload_n hx hb dX7_in_1 rfl (lv_at hl 1 rfl) ?_
  refine b_lt C dX7_in_2 (tgt := 14) (by decide) (fun h1 => ?_) (fun h1 => ?_)
  · rw [nI_toInt (by omega)] at h1
    refine lv_iconst (v := nI 0) hx hb dX7_in_14 (by decide) ?_
    exact hret _ _ _ _ _ _ dX7_in_15 hP hS (by first | rfl | (rcases hbv with rfl | rfl <;> rfl)) (⟨rfl, Or.inr ⟨rfl, by omega⟩⟩)
  · rw [nI_toInt (by omega)] at h1
    refine lv_iload_n hx hb dX7_in_5 rfl (lv_at hl 0 rfl) ?_
    refine lv_iload_n hx hb dX7_in_6 rfl (lv_at hl 2 rfl) ?_
    refine b_gt C dX7_in_7 (tgt := 14) (by decide) (fun h2 => ?_) (fun h2 => ?_)
    · rw [nI_toInt (by omega)] at h2
      refine lv_iconst (v := nI 0) hx hb dX7_in_14 (by decide) ?_
      exact hret _ _ _ _ _ _ dX7_in_15 hP hS (by first | rfl | (rcases hbv with rfl | rfl <;> rfl)) (⟨rfl, Or.inr ⟨rfl, by omega⟩⟩)
    · rw [nI_toInt (by omega)] at h2
      refine lv_iconst (v := nI 1) hx hb dX7_in_10 (by decide) ?_
      refine lv_goto (tgt := 15) hx hb dX7_in_11 (by decide) ?_
      exact hret _ _ _ _ _ _ dX7_in_15 hP hS (by first | rfl | (rcases hbv with rfl | rfl <;> rfl)) (⟨rfl, Or.inl ⟨rfl, by omega⟩⟩)
set_option maxHeartbeats 4000000 in
set_option maxRecDepth 100000 in
theorem c_X7_isTable {l : Launch} {E : En} {K : Nat → Nat} {L : Nat → Nat → Bool} {ad : Nat → Nat} {I : Nat → Nat → Int32} (n : Nat) (t : Int32) (m0 : K 10 = 8) (he : I 10 0 = nI n) (hn : n ≤ 8) : MI l E K L ad I yX7_isTable cX7_isTable 2 (some .boolean) 1 [.ref (ad 10), .int t] (fun v J => J = I ∧ (v = 1 ∧ (0 ≤ t.toInt ∧ t.toInt < (n : Int)) ∨ v = 0 ∧ ¬ (0 ≤ t.toInt ∧ t.toInt < (n : Int)))) := by
  refine MZ.of (by decide) (Nat.le_of_ble_eq_true rfl) ?_
  intro p ee s m args below meth c ls Qf C hret hP hl
  have C : Cx E p s m args c cX7_isTable RX7 2 := C
  have hx := C.1
  have hb := C.2.1
  have hS : va_S (AG E) s.heap s.heap [] := va_S.rf
  have hl : lv_has ls 2 [(0, .ref (ad 10)), (1, .int t)] := hl
  refine lv_iload_n hx hb dX7_isTable_0 rfl (lv_at hl 1 rfl) ?_
  refine lv_iconst (v := nI 0) hx hb dX7_isTable_1 (by decide) ?_
  refine lv_aload_n hx hb dX7_isTable_2 rfl (lv_at hl 0 rfl) ?_
  refine f_X7_71 C hP (by first | assumption | exact hKa _ (by omega)) dX7_isTable_3 ?_
  refine lv_iconst (v := nI 1) hx hb dX7_isTable_6 (by decide) ?_
  refine lv_isub hx hb dX7_isTable_7 ?_
  refine lv_topi (fun x1 ex1 => ?_)
  have hq : (x1).toInt = (n : Int) - 1 := by rw [ex1, he, pk_sub_toInt (by omega) (by decide)]; rfl
  have h00 : (nI 0).toInt = 0 := rfl
  refine k_X7_75 C hP hS (c_X7_in t ((nI 0)) x1) ⟨Nat.le_of_ble_eq_true rfl, Nat.le_of_ble_eq_true rfl⟩ ⟨Nat.zero_le _, Nat.zero_le _⟩ hl.1 (Nat.le_of_ble_eq_true rfl) dX7_isTable_8 (fun v2 I3 H locs hv4 hP hS => ?_)
  obtain ⟨eI3, hv4⟩ := hv4
  rw [eI3] at hP
  clear eI3
  rcases hv4 with ⟨rfl, hc5⟩ | ⟨rfl, hc5⟩
  · exact hret _ _ _ _ _ _ dX7_isTable_11 hP hS (by first | rfl | (rcases hbv with rfl | rfl <;> rfl)) (⟨rfl, Or.inl ⟨rfl, by omega⟩⟩)
  · exact hret _ _ _ _ _ _ dX7_isTable_11 hP hS (by first | rfl | (rcases hbv with rfl | rfl <;> rfl)) (⟨rfl, Or.inr ⟨rfl, by omega⟩⟩)
set_option maxHeartbeats 4000000 in
set_option maxRecDepth 100000 in
theorem c_X7_isField {l : Launch} {E : En} {K : Nat → Nat} {L : Nat → Nat → Bool} {ad : Nat → Nat} {I : Nat → Nat → Int32} (f : Int32)  : MI l E K L ad I yX7_isField cX7_isField 1 (some .boolean) 1 [.int f] (fun v J => J = I ∧ (v = 1 ∧ (isFd f) ∨ v = 0 ∧ ¬ (isFd f))) := by
  refine MZ.of (by decide) (Nat.le_of_ble_eq_true rfl) ?_
  intro p ee s m args below meth c ls Qf C hret hP hl
  have C : Cx E p s m args c cX7_isField RX7 1 := C
  have hx := C.1
  have hb := C.2.1
  have hS : va_S (AG E) s.heap s.heap [] := va_S.rf
  have hl : lv_has ls 1 [(0, .int f)] := hl
  refine lv_iload_n hx hb dX7_isField_0 rfl (lv_at hl 0 rfl) ?_
  refine lv_iconst (v := nI 0) hx hb dX7_isField_1 (by decide) ?_
  refine lv_iconst (v := nI 5) hx hb dX7_isField_2 (by decide) ?_
  refine k_X7_75 C hP hS (c_X7_inN f 0 5 (by first | decide | omega) (by first | decide | omega)) ⟨Nat.le_of_ble_eq_true rfl, Nat.le_of_ble_eq_true rfl⟩ ⟨Nat.zero_le _, Nat.zero_le _⟩ hl.1 (Nat.le_of_ble_eq_true rfl) dX7_isField_3 (fun v1 I2 H locs hv3 hP hS => ?_)
  obtain ⟨eI2, hv3⟩ := hv3
  rw [eI2] at hP
  clear eI2
  rcases hv3 with ⟨rfl, hc4⟩ | ⟨rfl, hc4⟩
  · exact hret _ _ _ _ _ _ dX7_isField_6 hP hS (by first | rfl | (rcases hbv with rfl | rfl <;> rfl)) (⟨rfl, Or.inl ⟨rfl, by omega⟩⟩)
  · exact hret _ _ _ _ _ _ dX7_isField_6 hP hS (by first | rfl | (rcases hbv with rfl | rfl <;> rfl)) (⟨rfl, Or.inr ⟨rfl, by omega⟩⟩)
set_option maxHeartbeats 4000000 in
set_option maxRecDepth 100000 in
theorem c_X7_matters {l : Launch} {E : En} {K : Nat → Nat} {L : Nat → Nat → Bool} {ad : Nat → Nat} {I : Nat → Nat → Int32} (k : Int32)  : MI l E K L ad I yX7_matters cX7_matters 1 (some .boolean) 1 [.int k] (fun v J => J = I ∧ (v = 1 ∧ (mat k) ∨ v = 0 ∧ ¬ (mat k))) := by
  refine MZ.of (by decide) (Nat.le_of_ble_eq_true rfl) ?_
  intro p ee s m args below meth c ls Qf C hret hP hl
  have C : Cx E p s m args c cX7_matters RX7 1 := C
  have hx := C.1
  have hb := C.2.1
  have hS : va_S (AG E) s.heap s.heap [] := va_S.rf
  have hl : lv_has ls 1 [(0, .int k)] := hl
  refine lv_iload_n hx hb dX7_matters_0 rfl (lv_at hl 0 rfl) ?_
  refine lv_iconst (v := nI 1) hx hb dX7_matters_1 (by decide) ?_
  refine lv_bipush (v := nI 7) hx hb dX7_matters_2 (by decide) ?_
  refine k_X7_75 C hP hS (c_X7_inN k 1 7 (by first | decide | omega) (by first | decide | omega)) ⟨Nat.le_of_ble_eq_true rfl, Nat.le_of_ble_eq_true rfl⟩ ⟨Nat.zero_le _, Nat.zero_le _⟩ hl.1 (Nat.le_of_ble_eq_true rfl) dX7_matters_4 (fun v1 I2 H locs hv3 hP hS => ?_)
  obtain ⟨eI2, hv3⟩ := hv3
  rw [eI2] at hP
  clear eI2
  rcases hv3 with ⟨rfl, hc4⟩ | ⟨rfl, hc4⟩
  · exact hret _ _ _ _ _ _ dX7_matters_7 hP hS (by first | rfl | (rcases hbv with rfl | rfl <;> rfl)) (⟨rfl, Or.inl ⟨rfl, by omega⟩⟩)
  · exact hret _ _ _ _ _ _ dX7_matters_7 hP hS (by first | rfl | (rcases hbv with rfl | rfl <;> rfl)) (⟨rfl, Or.inr ⟨rfl, by omega⟩⟩)
set_option maxHeartbeats 4000000 in
set_option maxRecDepth 100000 in
theorem c_X7_has {l : Launch} {E : En} {K : Nat → Nat} {L : Nat → Nat → Bool} {ad : Nat → Nat} {I : Nat → Nat → Int32} (z i : Int32) (h0 : 0 ≤ i.toInt) (h1 : i.toInt < 31) : MI l E K L ad I yX7_has cX7_has 2 (some .boolean) 0 [.int z, .int i] (fun v J => J = I ∧ (v = 1 ∧ (z &&& sB i ≠ 0) ∨ v = 0 ∧ ¬ (z &&& sB i ≠ 0))) := by
  obtain ⟨j, hj, ei⟩ : ∃ j : Nat, j < 31 ∧ i = nI j := ⟨i.toInt.toNat, by omega, i32_eq (by omega) (by omega)⟩
  refine MZ.of (by decide) (Nat.le_of_ble_eq_true rfl) ?_
  intro p ee s m args below meth c ls Qf C hret hP hl
  have C : Cx E p s m args c cX7_has RX7 2 := C
  have hx := C.1
  have hb := C.2.1
  have hS : va_S (AG E) s.heap s.heap [] := va_S.rf
  have hl : lv_has ls 2 [(0, .int z), (1, .int i)] := hl
  refine lv_iload_n hx hb dX7_has_0 rfl (lv_at hl 0 rfl) ?_
  refine lv_iload_n hx hb dX7_has_1 rfl (lv_at hl 1 rfl) ?_
  refine lv_ishr hx hb dX7_has_2 ?_
  refine lv_topi (fun x1 ex1 => ?_)
  refine lv_iconst (v := nI 1) hx hb dX7_has_3 (by decide) ?_
  refine lv_iand hx hb dX7_has_4 ?_
  refine lv_topi (fun x2 ex2 => ?_)
  refine lv_iconst (v := nI 1) hx hb dX7_has_5 (by decide) ?_
  refine b_ne C dX7_has_6 (tgt := 13) (by decide) (fun h3 => ?_) (fun h3 => ?_)
  · refine lv_iconst (v := nI 0) hx hb dX7_has_13 (by decide) ?_
    exact hret _ _ _ _ _ _ dX7_has_14 hP hS (by first | rfl | (rcases hbv with rfl | rfl <;> rfl)) (⟨rfl, Or.inr ⟨rfl, fun q => h3 (by rw [ex2, ex1, ei]; rw [ei] at q; exact (has_sb hj).mpr q)⟩⟩)
  · refine lv_iconst (v := nI 1) hx hb dX7_has_9 (by decide) ?_
    refine lv_goto (tgt := 14) hx hb dX7_has_10 (by decide) ?_
    exact hret _ _ _ _ _ _ dX7_has_14 hP hS (by first | rfl | (rcases hbv with rfl | rfl <;> rfl)) (⟨rfl, Or.inl ⟨rfl, by rw [ei]; exact (has_sb hj).mp (by rw [ex2, ex1, ei] at h3; exact h3)⟩⟩)
set_option maxHeartbeats 4000000 in
set_option maxRecDepth 100000 in
theorem c_X7_bits {l : Launch} {E : En} {K : Nat → Nat} {L : Nat → Nat → Bool} {ad : Nat → Nat} {I : Nat → Nat → Int32} (S : Nat)  : MI l E K L ad I yX7_bits cX7_bits 3 (some .int) 0 [.int (nI S)] (fun v J => J = I ∧ v = nI (cn (fun e => S.testBit e) 8)) := by
  refine MI.of (by decide) (Nat.le_of_ble_eq_true rfl) ?_
  intro p ee s m args below meth c ls Qf C hret hP hl
  have C : Cx E p s m args c cX7_bits RX7 3 := C
  have hx := C.1
  have hb := C.2.1
  have hS : va_S (AG E) s.heap s.heap [] := va_S.rf
  have hl : lv_has ls 3 [(0, .int (nI S))] := hl
  refine lv_iconst (v := nI 0) hx hb dX7_bits_0 (by decide) ?_
  refine lv_istore_n (lv' := [(1, .int (nI 0)), (0, .int (nI S))]) hx hb dX7_bits_1 rfl hl (by decide) rfl (fun ls hl => ?_)
  refine lv_iconst (v := nI 0) hx hb dX7_bits_2 (by decide) ?_
  refine lv_istore_n (lv' := [(2, .int (nI 0)), (1, .int (nI 0)), (0, .int (nI S))]) hx hb dX7_bits_3 rfl hl (by decide) rfl (fun ls hl => ?_)
  have hL4_1 : ∀ (d : Nat) (j : Nat) (a : Nat) (H : Heap) (locs : List Loc) (ls : Array Slot), 8 < j + d → (j ≤ 8) → (a = cn (fun e => S.testBit e) j) → (a ≤ j) → Hp E K L ad I H → va_S (AG E) s.heap H locs → lv_has ls 3 [(0, .int (nI S)), (1, .int (nI a)), (2, .int (nI j))] → W p l ee (rmk 0) s m args below meth c H locs 0 0 Qf (F0 m 4 ls []) := by
    intro d
    induction d with
    | zero => intro j a H locs ls hd hj ha ha8 _ _ _; exact absurd hd (by omega)
    | succ d ih =>
      intro j a H locs ls hd hj ha ha8 hP hS hl
      refine lv_iload_n hx hb dX7_bits_4 rfl (lv_at hl 2 rfl) ?_
      refine lv_bipush (v := nI 8) hx hb dX7_bits_5 (by decide) ?_
      refine b_geN C (by omega) (by omega) dX7_bits_7 (tgt := 24) (by decide) (fun h2 => ?_) (fun h2 => ?_)
      · refine lv_iload_n hx hb dX7_bits_24 rfl (lv_at hl 1 rfl) ?_
        exact hret _ _ _ _ _ _ dX7_bits_25 hP hS (⟨rfl, by rw [ha, show j = 8 by omega]⟩)
      · refine lv_iload_n hx hb dX7_bits_10 rfl (lv_at hl 1 rfl) ?_
        refine lv_iload_n hx hb dX7_bits_11 rfl (lv_at hl 0 rfl) ?_
        refine lv_iload_n hx hb dX7_bits_12 rfl (lv_at hl 2 rfl) ?_
        refine lv_ishr hx hb dX7_bits_13 ?_
        refine lv_topi (fun x3 ex3 => ?_)
        refine lv_iconst (v := nI 1) hx hb dX7_bits_14 (by decide) ?_
        refine lv_iand hx hb dX7_bits_15 ?_
        refine lv_topi (fun x4 ex4 => ?_)
        refine r_eqi (y := nI (if S.testBit j then 1 else 0)) (by rw [ex4, ex3]; exact has_nI (by omega)) ?_
        refine r_addN C dX7_bits_16 ?_
        refine lv_istore_n (lv' := [(1, .int (nI (a + ((if S.testBit j then 1 else 0))))), (0, .int (nI S)), (2, .int (nI j))]) hx hb dX7_bits_17 rfl hl (by decide) rfl (fun ls hl => ?_)
        refine lv_iinc (v := nI (j + 1)) (lv' := [(2, .int (nI (j + 1))), (1, .int (nI (a + ((if S.testBit j then 1 else 0))))), (0, .int (nI S))]) hx hb dX7_bits_18 hl (k := 2) rfl (nI_1 _) (by decide) rfl (fun ls hl => ?_)
        refine lv_goto (tgt := 4) hx hb dX7_bits_21 (by decide) ?_
        exact ih (j + 1) (a + (if S.testBit j then 1 else 0)) _ _ _ (by omega) (by omega) (by simp only [cn]; rw [ha]) (by split <;> omega) hP hS (lv_sub hl [2, 1, 0] rfl)
  exact hL4_1 (8 + 1) 0 0 _ _ _ (by omega) (by omega) (rfl) (by omega) hP hS (lv_sub hl [2, 1, 0] rfl)
set_option maxHeartbeats 4000000 in
set_option maxRecDepth 100000 in
theorem c_X7_lay {l : Launch} {E : En} {K : Nat → Nat} {L : Nat → Nat → Bool} {ad : Nat → Nat} {I : Nat → Nat → Int32} (w : Nat) (k t x : Int32) (hM : IsM K L) (hw : w < 40) : MV l E K L ad I yX7_lay cX7_lay 5 2 [.ref (ad 10), .int (nI w), .int k, .int t, .int x] (fun J => J = layS I w k t x) := by
  have hM0 := hM
  obtain ⟨m0, ml1, ml2, ml3, ml4, ml5, ml6, ml7, ml8, ml9, ml10, ml11, ml12, ml13, ml14, ml15, ml16, ml17, ml21, ml25, ml26, mk1, mk2, mk3, mk4, mk5, mk6, mk7, mk8, mk9, mk10, mk11, mk12, mk13, mk14, mk15, mk16, mk17, mk21, mk25, mk26⟩ := hM
  refine MV.of (by decide) (Nat.le_of_ble_eq_true rfl) ?_
  intro p ee s m args below meth c ls Qf C hret hP hl
  have C : Cx E p s m args c cX7_lay RX7 5 := C
  have hx := C.1
  have hb := C.2.1
  have hS : va_S (AG E) s.heap s.heap [] := va_S.rf
  have hl : lv_has ls 5 [(0, .ref (ad 10)), (1, .int (nI w)), (2, .int k), (3, .int t), (4, .int x)] := hl
  refine lv_aload_n hx hb dX7_lay_0 rfl (lv_at hl 0 rfl) ?_
  refine f_X7_19 (q := 14) C hP (by assumption) (by assumption) rfl dX7_lay_1 ?_
  refine lv_iload_n hx hb dX7_lay_4 rfl (lv_at hl 1 rfl) ?_
  refine lv_iload_n hx hb dX7_lay_5 rfl (lv_at hl 2 rfl) ?_
  refine r_iast (n := 40) C hP hS (by assumption) (by omega) (by decide) dX7_lay_6 (fun H locs hP hS => ?_)
  obtain ⟨I1, eI1⟩ : ∃ Z : Nat → Nat → Int32, Z = up2 I 14 w k := ⟨_, rfl⟩
  rw [← eI1] at hP
  refine lv_aload_n hx hb dX7_lay_7 rfl (lv_at hl 0 rfl) ?_
  refine f_X7_22 (q := 15) C hP (by assumption) (by assumption) rfl dX7_lay_8 ?_
  refine lv_iload_n hx hb dX7_lay_11 rfl (lv_at hl 1 rfl) ?_
  refine lv_iload_n hx hb dX7_lay_12 rfl (lv_at hl 2 rfl) ?_
  refine k_X7_87 C hP hS (c_X7_matters k) ⟨Nat.le_of_ble_eq_true rfl, Nat.le_of_ble_eq_true rfl⟩ ⟨Nat.zero_le _, Nat.zero_le _⟩ hl.1 (Nat.le_of_ble_eq_true rfl) dX7_lay_13 (fun v2 I3 H locs hv4 hP hS => ?_)
  obtain ⟨eI3, hv4⟩ := hv4
  rw [eI3] at hP
  clear eI3
  rcases hv4 with ⟨rfl, hc5⟩ | ⟨rfl, hc5⟩
  · refine z_eq1 C dX7_lay_16 (tgt := 23) (by decide) ?_
    refine lv_iload_n hx hb dX7_lay_19 rfl (lv_at hl 3 rfl) ?_
    refine lv_goto (tgt := 25) hx hb dX7_lay_20 (by decide) ?_
    refine r_iast (n := 40) C hP hS (by assumption) (by omega) (by decide) dX7_lay_25 (fun H locs hP hS => ?_)
    obtain ⟨I6, eI6⟩ : ∃ Z : Nat → Nat → Int32, Z = up2 I1 15 w t := ⟨_, rfl⟩
    rw [← eI6] at hP
    refine lv_aload_n hx hb dX7_lay_26 rfl (lv_at hl 0 rfl) ?_
    refine f_X7_25 (q := 16) C hP (by assumption) (by assumption) rfl dX7_lay_27 ?_
    refine lv_iload_n hx hb dX7_lay_30 rfl (lv_at hl 1 rfl) ?_
    refine lv_iload_n hx hb dX7_lay_31 rfl (lv_at hl 2 rfl) ?_
    refine k_X7_87 C hP hS (c_X7_matters k) ⟨Nat.le_of_ble_eq_true rfl, Nat.le_of_ble_eq_true rfl⟩ ⟨Nat.zero_le _, Nat.zero_le _⟩ hl.1 (Nat.le_of_ble_eq_true rfl) dX7_lay_32 (fun v7 I8 H locs hv9 hP hS => ?_)
    obtain ⟨eI8, hv9⟩ := hv9
    rw [eI8] at hP
    clear eI8
    rcases hv9 with ⟨rfl, hc10⟩ | ⟨rfl, hc10⟩
    · refine z_eq1 C dX7_lay_35 (tgt := 43) (by decide) ?_
      refine lv_iload hx hb dX7_lay_38 (lv_at hl 4 rfl) ?_
      refine lv_goto (tgt := 45) hx hb dX7_lay_40 (by decide) ?_
      refine r_iast (n := 40) C hP hS (by assumption) (by omega) (by decide) dX7_lay_45 (fun H locs hP hS => ?_)
      obtain ⟨I11, eI11⟩ : ∃ Z : Nat → Nat → Int32, Z = up2 I6 16 w x := ⟨_, rfl⟩
      rw [← eI11] at hP
      exact hret _ _ _ _ _ dX7_lay_46 hP hS (by simp only [layS]; subst_vars; first | contradiction | rw [mq_t (by assumption), mq_t (by assumption)] | rw [mq_f (by assumption), mq_f (by assumption)])
    · refine z_eq0 C dX7_lay_35 (tgt := 43) (by decide) ?_
      refine lv_bipush (v := (-6)) hx hb dX7_lay_43 (by decide) ?_
      refine r_iast (n := 40) C hP hS (by assumption) (by omega) (by decide) dX7_lay_45 (fun H locs hP hS => ?_)
      obtain ⟨I12, eI12⟩ : ∃ Z : Nat → Nat → Int32, Z = up2 I6 16 w ((-6)) := ⟨_, rfl⟩
      rw [← eI12] at hP
      exact hret _ _ _ _ _ dX7_lay_46 hP hS (by simp only [layS]; subst_vars; first | contradiction | rw [mq_t (by assumption), mq_t (by assumption)] | rw [mq_f (by assumption), mq_f (by assumption)])
  · refine z_eq0 C dX7_lay_16 (tgt := 23) (by decide) ?_
    refine lv_bipush (v := (-6)) hx hb dX7_lay_23 (by decide) ?_
    refine r_iast (n := 40) C hP hS (by assumption) (by omega) (by decide) dX7_lay_25 (fun H locs hP hS => ?_)
    obtain ⟨I13, eI13⟩ : ∃ Z : Nat → Nat → Int32, Z = up2 I1 15 w ((-6)) := ⟨_, rfl⟩
    rw [← eI13] at hP
    refine lv_aload_n hx hb dX7_lay_26 rfl (lv_at hl 0 rfl) ?_
    refine f_X7_25 (q := 16) C hP (by assumption) (by assumption) rfl dX7_lay_27 ?_
    refine lv_iload_n hx hb dX7_lay_30 rfl (lv_at hl 1 rfl) ?_
    refine lv_iload_n hx hb dX7_lay_31 rfl (lv_at hl 2 rfl) ?_
    refine k_X7_87 C hP hS (c_X7_matters k) ⟨Nat.le_of_ble_eq_true rfl, Nat.le_of_ble_eq_true rfl⟩ ⟨Nat.zero_le _, Nat.zero_le _⟩ hl.1 (Nat.le_of_ble_eq_true rfl) dX7_lay_32 (fun v14 I15 H locs hv16 hP hS => ?_)
    obtain ⟨eI15, hv16⟩ := hv16
    rw [eI15] at hP
    clear eI15
    rcases hv16 with ⟨rfl, hc17⟩ | ⟨rfl, hc17⟩
    · refine z_eq1 C dX7_lay_35 (tgt := 43) (by decide) ?_
      refine lv_iload hx hb dX7_lay_38 (lv_at hl 4 rfl) ?_
      refine lv_goto (tgt := 45) hx hb dX7_lay_40 (by decide) ?_
      refine r_iast (n := 40) C hP hS (by assumption) (by omega) (by decide) dX7_lay_45 (fun H locs hP hS => ?_)
      obtain ⟨I18, eI18⟩ : ∃ Z : Nat → Nat → Int32, Z = up2 I13 16 w x := ⟨_, rfl⟩
      rw [← eI18] at hP
      exact hret _ _ _ _ _ dX7_lay_46 hP hS (by simp only [layS]; subst_vars; first | contradiction | rw [mq_t (by assumption), mq_t (by assumption)] | rw [mq_f (by assumption), mq_f (by assumption)])
    · refine z_eq0 C dX7_lay_35 (tgt := 43) (by decide) ?_
      refine lv_bipush (v := (-6)) hx hb dX7_lay_43 (by decide) ?_
      refine r_iast (n := 40) C hP hS (by assumption) (by omega) (by decide) dX7_lay_45 (fun H locs hP hS => ?_)
      obtain ⟨I19, eI19⟩ : ∃ Z : Nat → Nat → Int32, Z = up2 I13 16 w ((-6)) := ⟨_, rfl⟩
      rw [← eI19] at hP
      exact hret _ _ _ _ _ dX7_lay_46 hP hS (by simp only [layS]; subst_vars; first | contradiction | rw [mq_t (by assumption), mq_t (by assumption)] | rw [mq_f (by assumption), mq_f (by assumption)])
set_option maxHeartbeats 4000000 in
set_option maxRecDepth 100000 in
theorem c_X7_isAct {l : Launch} {E : En} {K : Nat → Nat} {L : Nat → Nat → Bool} {ad : Nat → Nat} {I : Nat → Nat → Int32} (k t x : Int32)  : MI l E K L ad I yX7_isAct cX7_isAct 4 (some .boolean) 2 [.int k, .int t, .int x] (fun v J => J = I ∧ (v = 1 ∧ (okA k t x) ∨ v = 0 ∧ ¬ (okA k t x))) := by
  refine MZ.of (by decide) (Nat.le_of_ble_eq_true rfl) ?_
  intro p ee s m args below meth c ls Qf C hret hP hl
  have C : Cx E p s m args c cX7_isAct RX7 4 := C
  have hx := C.1
  have hb := C.2.1
  have hS : va_S (AG E) s.heap s.heap [] := va_S.rf
  have hl : lv_has ls 4 [(0, .int k), (1, .int t), (2, .int x)] := hl
  refine lv_iload_n hx hb dX7_isAct_0 rfl (lv_at hl 0 rfl) ?_
  refine lv_iconst (v := nI 0) hx hb dX7_isAct_1 (by decide) ?_
  refine lv_bipush (v := nI 9) hx hb dX7_isAct_2 (by decide) ?_
  refine k_X7_75 C hP hS (c_X7_inN k 0 9 (by first | decide | omega) (by first | decide | omega)) ⟨Nat.le_of_ble_eq_true rfl, Nat.le_of_ble_eq_true rfl⟩ ⟨Nat.zero_le _, Nat.zero_le _⟩ hl.1 (Nat.le_of_ble_eq_true rfl) dX7_isAct_4 (fun v1 I2 H locs hv3 hP hS => ?_)
  obtain ⟨eI2, hv3⟩ := hv3
  rw [eI2] at hP
  clear eI2
  rcases hv3 with ⟨rfl, hc4⟩ | ⟨rfl, hc4⟩
  · refine z_ne1 C dX7_isAct_7 (tgt := 12) (by decide) ?_
    refine lv_iload_n hx hb dX7_isAct_12 rfl (lv_at hl 0 rfl) ?_
    refine k_X7_87 C hP hS (c_X7_matters k) ⟨Nat.le_of_ble_eq_true rfl, Nat.le_of_ble_eq_true rfl⟩ ⟨Nat.zero_le _, Nat.zero_le _⟩ hl.1 (Nat.le_of_ble_eq_true rfl) dX7_isAct_13 (fun v5 I6 H locs hv7 hP hS => ?_)
    obtain ⟨eI6, hv7⟩ := hv7
    rw [eI6] at hP
    clear eI6
    rcases hv7 with ⟨rfl, hc8⟩ | ⟨rfl, hc8⟩
    · refine z_ne1 C dX7_isAct_16 (tgt := 21) (by decide) ?_
      refine lv_iload_n hx hb dX7_isAct_21 rfl (lv_at hl 0 rfl) ?_
      refine lv_iconst (v := nI 1) hx hb dX7_isAct_22 (by decide) ?_
      refine b_eq C dX7_isAct_23 (tgt := 31) (by decide) (fun h9 => ?_) (fun h9 => ?_)
      · refine lv_sipush (v := nI 255) hx hb dX7_isAct_31 (by decide) ?_
        refine lv_goto (tgt := 52) hx hb dX7_isAct_34 (by decide) ?_
        refine lv_istore_n (lv' := [(3, .int (nI 255)), (0, .int k), (1, .int t), (2, .int x)]) hx hb dX7_isAct_52 rfl hl (by decide) rfl (fun ls hl => ?_)
        refine lv_iload_n hx hb dX7_isAct_53 rfl (lv_at hl 2 rfl) ?_
        refine k_X7_79 C hP hS (c_X7_isField t) ⟨Nat.le_of_ble_eq_true rfl, Nat.le_of_ble_eq_true rfl⟩ ⟨Nat.zero_le _, Nat.zero_le _⟩ hl.1 (Nat.le_of_ble_eq_true rfl) dX7_isAct_54 (fun v10 I11 H locs hv12 hP hS => ?_)
        obtain ⟨eI11, hv12⟩ := hv12
        rw [eI11] at hP
        clear eI11
        rcases hv12 with ⟨rfl, hc13⟩ | ⟨rfl, hc13⟩
        · refine z_eq1 C dX7_isAct_57 (tgt := 73) (by decide) ?_
          refine lv_iload_n hx hb dX7_isAct_60 rfl (lv_at hl 3 rfl) ?_
          refine lv_iconst (v := nI 0) hx hb dX7_isAct_61 (by decide) ?_
          refine lv_iload_n hx hb dX7_isAct_62 rfl (lv_at hl 0 rfl) ?_
          refine k_X7_75 C hP hS (c_X7_inN x 0 255 (by first | decide | omega) (by first | decide | omega)) ⟨Nat.le_of_ble_eq_true rfl, Nat.le_of_ble_eq_true rfl⟩ ⟨Nat.zero_le _, Nat.zero_le _⟩ hl.1 (Nat.le_of_ble_eq_true rfl) dX7_isAct_63 (fun v14 I15 H locs hv16 hP hS => ?_)
          obtain ⟨eI15, hv16⟩ := hv16
          rw [eI15] at hP
          clear eI15
          rcases hv16 with ⟨rfl, hc17⟩ | ⟨rfl, hc17⟩
          · refine z_eq1 C dX7_isAct_66 (tgt := 73) (by decide) ?_
            refine lv_iconst (v := nI 1) hx hb dX7_isAct_69 (by decide) ?_
            refine lv_goto (tgt := 74) hx hb dX7_isAct_70 (by decide) ?_
            exact hret _ _ _ _ _ _ dX7_isAct_74 hP hS (by first | rfl | (rcases hbv with rfl | rfl <;> rfl)) (⟨rfl, Or.inl ⟨rfl, by simp only [okA, most, ← Int32.toInt_inj, ne_eq, show (nI 1).toInt = 1 from rfl, show (nI 2).toInt = 2 from rfl, show (nI 3).toInt = 3 from rfl, show (nI 4).toInt = 4 from rfl] at *; (repeat split) <;> omega⟩⟩)
          · refine z_eq0 C dX7_isAct_66 (tgt := 73) (by decide) ?_
            refine lv_iconst (v := nI 0) hx hb dX7_isAct_73 (by decide) ?_
            exact hret _ _ _ _ _ _ dX7_isAct_74 hP hS (by first | rfl | (rcases hbv with rfl | rfl <;> rfl)) (⟨rfl, Or.inr ⟨rfl, by simp only [okA, most, ← Int32.toInt_inj, ne_eq, show (nI 1).toInt = 1 from rfl, show (nI 2).toInt = 2 from rfl, show (nI 3).toInt = 3 from rfl, show (nI 4).toInt = 4 from rfl] at *; (repeat split) <;> omega⟩⟩)
        · refine z_eq0 C dX7_isAct_57 (tgt := 73) (by decide) ?_
          refine lv_iconst (v := nI 0) hx hb dX7_isAct_73 (by decide) ?_
          exact hret _ _ _ _ _ _ dX7_isAct_74 hP hS (by first | rfl | (rcases hbv with rfl | rfl <;> rfl)) (⟨rfl, Or.inr ⟨rfl, by simp only [okA, most, ← Int32.toInt_inj, ne_eq, show (nI 1).toInt = 1 from rfl, show (nI 2).toInt = 2 from rfl, show (nI 3).toInt = 3 from rfl, show (nI 4).toInt = 4 from rfl] at *; (repeat split) <;> omega⟩⟩)
      · refine lv_iload_n hx hb dX7_isAct_26 rfl (lv_at hl 0 rfl) ?_
        refine lv_iconst (v := nI 3) hx hb dX7_isAct_27 (by decide) ?_
        refine b_ne C dX7_isAct_28 (tgt := 37) (by decide) (fun h18 => ?_) (fun h18 => ?_)
        · refine lv_iload_n hx hb dX7_isAct_37 rfl (lv_at hl 0 rfl) ?_
          refine lv_iconst (v := nI 2) hx hb dX7_isAct_38 (by decide) ?_
          refine b_eq C dX7_isAct_39 (tgt := 47) (by decide) (fun h19 => ?_) (fun h19 => ?_)
          · refine lv_iconst (v := nI 5) hx hb dX7_isAct_47 (by decide) ?_
            refine lv_goto (tgt := 52) hx hb dX7_isAct_48 (by decide) ?_
            refine lv_istore_n (lv' := [(3, .int (nI 5)), (0, .int k), (1, .int t), (2, .int x)]) hx hb dX7_isAct_52 rfl hl (by decide) rfl (fun ls hl => ?_)
            refine lv_iload_n hx hb dX7_isAct_53 rfl (lv_at hl 2 rfl) ?_
            refine k_X7_79 C hP hS (c_X7_isField t) ⟨Nat.le_of_ble_eq_true rfl, Nat.le_of_ble_eq_true rfl⟩ ⟨Nat.zero_le _, Nat.zero_le _⟩ hl.1 (Nat.le_of_ble_eq_true rfl) dX7_isAct_54 (fun v20 I21 H locs hv22 hP hS => ?_)
            obtain ⟨eI21, hv22⟩ := hv22
            rw [eI21] at hP
            clear eI21
            rcases hv22 with ⟨rfl, hc23⟩ | ⟨rfl, hc23⟩
            · refine z_eq1 C dX7_isAct_57 (tgt := 73) (by decide) ?_
              refine lv_iload_n hx hb dX7_isAct_60 rfl (lv_at hl 3 rfl) ?_
              refine lv_iconst (v := nI 0) hx hb dX7_isAct_61 (by decide) ?_
              refine lv_iload_n hx hb dX7_isAct_62 rfl (lv_at hl 0 rfl) ?_
              refine k_X7_75 C hP hS (c_X7_inN x 0 5 (by first | decide | omega) (by first | decide | omega)) ⟨Nat.le_of_ble_eq_true rfl, Nat.le_of_ble_eq_true rfl⟩ ⟨Nat.zero_le _, Nat.zero_le _⟩ hl.1 (Nat.le_of_ble_eq_true rfl) dX7_isAct_63 (fun v24 I25 H locs hv26 hP hS => ?_)
              obtain ⟨eI25, hv26⟩ := hv26
              rw [eI25] at hP
              clear eI25
              rcases hv26 with ⟨rfl, hc27⟩ | ⟨rfl, hc27⟩
              · refine z_eq1 C dX7_isAct_66 (tgt := 73) (by decide) ?_
                refine lv_iconst (v := nI 1) hx hb dX7_isAct_69 (by decide) ?_
                refine lv_goto (tgt := 74) hx hb dX7_isAct_70 (by decide) ?_
                exact hret _ _ _ _ _ _ dX7_isAct_74 hP hS (by first | rfl | (rcases hbv with rfl | rfl <;> rfl)) (⟨rfl, Or.inl ⟨rfl, by simp only [okA, most, ← Int32.toInt_inj, ne_eq, show (nI 1).toInt = 1 from rfl, show (nI 2).toInt = 2 from rfl, show (nI 3).toInt = 3 from rfl, show (nI 4).toInt = 4 from rfl] at *; (repeat split) <;> omega⟩⟩)
              · refine z_eq0 C dX7_isAct_66 (tgt := 73) (by decide) ?_
                refine lv_iconst (v := nI 0) hx hb dX7_isAct_73 (by decide) ?_
                exact hret _ _ _ _ _ _ dX7_isAct_74 hP hS (by first | rfl | (rcases hbv with rfl | rfl <;> rfl)) (⟨rfl, Or.inr ⟨rfl, by simp only [okA, most, ← Int32.toInt_inj, ne_eq, show (nI 1).toInt = 1 from rfl, show (nI 2).toInt = 2 from rfl, show (nI 3).toInt = 3 from rfl, show (nI 4).toInt = 4 from rfl] at *; (repeat split) <;> omega⟩⟩)
            · refine z_eq0 C dX7_isAct_57 (tgt := 73) (by decide) ?_
              refine lv_iconst (v := nI 0) hx hb dX7_isAct_73 (by decide) ?_
              exact hret _ _ _ _ _ _ dX7_isAct_74 hP hS (by first | rfl | (rcases hbv with rfl | rfl <;> rfl)) (⟨rfl, Or.inr ⟨rfl, by simp only [okA, most, ← Int32.toInt_inj, ne_eq, show (nI 1).toInt = 1 from rfl, show (nI 2).toInt = 2 from rfl, show (nI 3).toInt = 3 from rfl, show (nI 4).toInt = 4 from rfl] at *; (repeat split) <;> omega⟩⟩)
          · refine lv_iload_n hx hb dX7_isAct_42 rfl (lv_at hl 0 rfl) ?_
            refine lv_iconst (v := nI 4) hx hb dX7_isAct_43 (by decide) ?_
            refine b_ne C dX7_isAct_44 (tgt := 51) (by decide) (fun h28 => ?_) (fun h28 => ?_)
            · refine lv_iconst (v := nI 3) hx hb dX7_isAct_51 (by decide) ?_
              refine lv_istore_n (lv' := [(3, .int (nI 3)), (0, .int k), (1, .int t), (2, .int x)]) hx hb dX7_isAct_52 rfl hl (by decide) rfl (fun ls hl => ?_)
              refine lv_iload_n hx hb dX7_isAct_53 rfl (lv_at hl 2 rfl) ?_
              refine k_X7_79 C hP hS (c_X7_isField t) ⟨Nat.le_of_ble_eq_true rfl, Nat.le_of_ble_eq_true rfl⟩ ⟨Nat.zero_le _, Nat.zero_le _⟩ hl.1 (Nat.le_of_ble_eq_true rfl) dX7_isAct_54 (fun v29 I30 H locs hv31 hP hS => ?_)
              obtain ⟨eI30, hv31⟩ := hv31
              rw [eI30] at hP
              clear eI30
              rcases hv31 with ⟨rfl, hc32⟩ | ⟨rfl, hc32⟩
              · refine z_eq1 C dX7_isAct_57 (tgt := 73) (by decide) ?_
                refine lv_iload_n hx hb dX7_isAct_60 rfl (lv_at hl 3 rfl) ?_
                refine lv_iconst (v := nI 0) hx hb dX7_isAct_61 (by decide) ?_
                refine lv_iload_n hx hb dX7_isAct_62 rfl (lv_at hl 0 rfl) ?_
                refine k_X7_75 C hP hS (c_X7_inN x 0 3 (by first | decide | omega) (by first | decide | omega)) ⟨Nat.le_of_ble_eq_true rfl, Nat.le_of_ble_eq_true rfl⟩ ⟨Nat.zero_le _, Nat.zero_le _⟩ hl.1 (Nat.le_of_ble_eq_true rfl) dX7_isAct_63 (fun v33 I34 H locs hv35 hP hS => ?_)
                obtain ⟨eI34, hv35⟩ := hv35
                rw [eI34] at hP
                clear eI34
                rcases hv35 with ⟨rfl, hc36⟩ | ⟨rfl, hc36⟩
                · refine z_eq1 C dX7_isAct_66 (tgt := 73) (by decide) ?_
                  refine lv_iconst (v := nI 1) hx hb dX7_isAct_69 (by decide) ?_
                  refine lv_goto (tgt := 74) hx hb dX7_isAct_70 (by decide) ?_
                  exact hret _ _ _ _ _ _ dX7_isAct_74 hP hS (by first | rfl | (rcases hbv with rfl | rfl <;> rfl)) (⟨rfl, Or.inl ⟨rfl, by simp only [okA, most, ← Int32.toInt_inj, ne_eq, show (nI 1).toInt = 1 from rfl, show (nI 2).toInt = 2 from rfl, show (nI 3).toInt = 3 from rfl, show (nI 4).toInt = 4 from rfl] at *; (repeat split) <;> omega⟩⟩)
                · refine z_eq0 C dX7_isAct_66 (tgt := 73) (by decide) ?_
                  refine lv_iconst (v := nI 0) hx hb dX7_isAct_73 (by decide) ?_
                  exact hret _ _ _ _ _ _ dX7_isAct_74 hP hS (by first | rfl | (rcases hbv with rfl | rfl <;> rfl)) (⟨rfl, Or.inr ⟨rfl, by simp only [okA, most, ← Int32.toInt_inj, ne_eq, show (nI 1).toInt = 1 from rfl, show (nI 2).toInt = 2 from rfl, show (nI 3).toInt = 3 from rfl, show (nI 4).toInt = 4 from rfl] at *; (repeat split) <;> omega⟩⟩)
              · refine z_eq0 C dX7_isAct_57 (tgt := 73) (by decide) ?_
                refine lv_iconst (v := nI 0) hx hb dX7_isAct_73 (by decide) ?_
                exact hret _ _ _ _ _ _ dX7_isAct_74 hP hS (by first | rfl | (rcases hbv with rfl | rfl <;> rfl)) (⟨rfl, Or.inr ⟨rfl, by simp only [okA, most, ← Int32.toInt_inj, ne_eq, show (nI 1).toInt = 1 from rfl, show (nI 2).toInt = 2 from rfl, show (nI 3).toInt = 3 from rfl, show (nI 4).toInt = 4 from rfl] at *; (repeat split) <;> omega⟩⟩)
            · refine lv_iconst (v := nI 5) hx hb dX7_isAct_47 (by decide) ?_
              refine lv_goto (tgt := 52) hx hb dX7_isAct_48 (by decide) ?_
              refine lv_istore_n (lv' := [(3, .int (nI 5)), (0, .int k), (1, .int t), (2, .int x)]) hx hb dX7_isAct_52 rfl hl (by decide) rfl (fun ls hl => ?_)
              refine lv_iload_n hx hb dX7_isAct_53 rfl (lv_at hl 2 rfl) ?_
              refine k_X7_79 C hP hS (c_X7_isField t) ⟨Nat.le_of_ble_eq_true rfl, Nat.le_of_ble_eq_true rfl⟩ ⟨Nat.zero_le _, Nat.zero_le _⟩ hl.1 (Nat.le_of_ble_eq_true rfl) dX7_isAct_54 (fun v37 I38 H locs hv39 hP hS => ?_)
              obtain ⟨eI38, hv39⟩ := hv39
              rw [eI38] at hP
              clear eI38
              rcases hv39 with ⟨rfl, hc40⟩ | ⟨rfl, hc40⟩
              · refine z_eq1 C dX7_isAct_57 (tgt := 73) (by decide) ?_
                refine lv_iload_n hx hb dX7_isAct_60 rfl (lv_at hl 3 rfl) ?_
                refine lv_iconst (v := nI 0) hx hb dX7_isAct_61 (by decide) ?_
                refine lv_iload_n hx hb dX7_isAct_62 rfl (lv_at hl 0 rfl) ?_
                refine k_X7_75 C hP hS (c_X7_inN x 0 5 (by first | decide | omega) (by first | decide | omega)) ⟨Nat.le_of_ble_eq_true rfl, Nat.le_of_ble_eq_true rfl⟩ ⟨Nat.zero_le _, Nat.zero_le _⟩ hl.1 (Nat.le_of_ble_eq_true rfl) dX7_isAct_63 (fun v41 I42 H locs hv43 hP hS => ?_)
                obtain ⟨eI42, hv43⟩ := hv43
                rw [eI42] at hP
                clear eI42
                rcases hv43 with ⟨rfl, hc44⟩ | ⟨rfl, hc44⟩
                · refine z_eq1 C dX7_isAct_66 (tgt := 73) (by decide) ?_
                  refine lv_iconst (v := nI 1) hx hb dX7_isAct_69 (by decide) ?_
                  refine lv_goto (tgt := 74) hx hb dX7_isAct_70 (by decide) ?_
                  exact hret _ _ _ _ _ _ dX7_isAct_74 hP hS (by first | rfl | (rcases hbv with rfl | rfl <;> rfl)) (⟨rfl, Or.inl ⟨rfl, by simp only [okA, most, ← Int32.toInt_inj, ne_eq, show (nI 1).toInt = 1 from rfl, show (nI 2).toInt = 2 from rfl, show (nI 3).toInt = 3 from rfl, show (nI 4).toInt = 4 from rfl] at *; (repeat split) <;> omega⟩⟩)
                · refine z_eq0 C dX7_isAct_66 (tgt := 73) (by decide) ?_
                  refine lv_iconst (v := nI 0) hx hb dX7_isAct_73 (by decide) ?_
                  exact hret _ _ _ _ _ _ dX7_isAct_74 hP hS (by first | rfl | (rcases hbv with rfl | rfl <;> rfl)) (⟨rfl, Or.inr ⟨rfl, by simp only [okA, most, ← Int32.toInt_inj, ne_eq, show (nI 1).toInt = 1 from rfl, show (nI 2).toInt = 2 from rfl, show (nI 3).toInt = 3 from rfl, show (nI 4).toInt = 4 from rfl] at *; (repeat split) <;> omega⟩⟩)
              · refine z_eq0 C dX7_isAct_57 (tgt := 73) (by decide) ?_
                refine lv_iconst (v := nI 0) hx hb dX7_isAct_73 (by decide) ?_
                exact hret _ _ _ _ _ _ dX7_isAct_74 hP hS (by first | rfl | (rcases hbv with rfl | rfl <;> rfl)) (⟨rfl, Or.inr ⟨rfl, by simp only [okA, most, ← Int32.toInt_inj, ne_eq, show (nI 1).toInt = 1 from rfl, show (nI 2).toInt = 2 from rfl, show (nI 3).toInt = 3 from rfl, show (nI 4).toInt = 4 from rfl] at *; (repeat split) <;> omega⟩⟩)
        · refine lv_sipush (v := nI 255) hx hb dX7_isAct_31 (by decide) ?_
          refine lv_goto (tgt := 52) hx hb dX7_isAct_34 (by decide) ?_
          refine lv_istore_n (lv' := [(3, .int (nI 255)), (0, .int k), (1, .int t), (2, .int x)]) hx hb dX7_isAct_52 rfl hl (by decide) rfl (fun ls hl => ?_)
          refine lv_iload_n hx hb dX7_isAct_53 rfl (lv_at hl 2 rfl) ?_
          refine k_X7_79 C hP hS (c_X7_isField t) ⟨Nat.le_of_ble_eq_true rfl, Nat.le_of_ble_eq_true rfl⟩ ⟨Nat.zero_le _, Nat.zero_le _⟩ hl.1 (Nat.le_of_ble_eq_true rfl) dX7_isAct_54 (fun v45 I46 H locs hv47 hP hS => ?_)
          obtain ⟨eI46, hv47⟩ := hv47
          rw [eI46] at hP
          clear eI46
          rcases hv47 with ⟨rfl, hc48⟩ | ⟨rfl, hc48⟩
          · refine z_eq1 C dX7_isAct_57 (tgt := 73) (by decide) ?_
            refine lv_iload_n hx hb dX7_isAct_60 rfl (lv_at hl 3 rfl) ?_
            refine lv_iconst (v := nI 0) hx hb dX7_isAct_61 (by decide) ?_
            refine lv_iload_n hx hb dX7_isAct_62 rfl (lv_at hl 0 rfl) ?_
            refine k_X7_75 C hP hS (c_X7_inN x 0 255 (by first | decide | omega) (by first | decide | omega)) ⟨Nat.le_of_ble_eq_true rfl, Nat.le_of_ble_eq_true rfl⟩ ⟨Nat.zero_le _, Nat.zero_le _⟩ hl.1 (Nat.le_of_ble_eq_true rfl) dX7_isAct_63 (fun v49 I50 H locs hv51 hP hS => ?_)
            obtain ⟨eI50, hv51⟩ := hv51
            rw [eI50] at hP
            clear eI50
            rcases hv51 with ⟨rfl, hc52⟩ | ⟨rfl, hc52⟩
            · refine z_eq1 C dX7_isAct_66 (tgt := 73) (by decide) ?_
              refine lv_iconst (v := nI 1) hx hb dX7_isAct_69 (by decide) ?_
              refine lv_goto (tgt := 74) hx hb dX7_isAct_70 (by decide) ?_
              exact hret _ _ _ _ _ _ dX7_isAct_74 hP hS (by first | rfl | (rcases hbv with rfl | rfl <;> rfl)) (⟨rfl, Or.inl ⟨rfl, by simp only [okA, most, ← Int32.toInt_inj, ne_eq, show (nI 1).toInt = 1 from rfl, show (nI 2).toInt = 2 from rfl, show (nI 3).toInt = 3 from rfl, show (nI 4).toInt = 4 from rfl] at *; (repeat split) <;> omega⟩⟩)
            · refine z_eq0 C dX7_isAct_66 (tgt := 73) (by decide) ?_
              refine lv_iconst (v := nI 0) hx hb dX7_isAct_73 (by decide) ?_
              exact hret _ _ _ _ _ _ dX7_isAct_74 hP hS (by first | rfl | (rcases hbv with rfl | rfl <;> rfl)) (⟨rfl, Or.inr ⟨rfl, by simp only [okA, most, ← Int32.toInt_inj, ne_eq, show (nI 1).toInt = 1 from rfl, show (nI 2).toInt = 2 from rfl, show (nI 3).toInt = 3 from rfl, show (nI 4).toInt = 4 from rfl] at *; (repeat split) <;> omega⟩⟩)
          · refine z_eq0 C dX7_isAct_57 (tgt := 73) (by decide) ?_
            refine lv_iconst (v := nI 0) hx hb dX7_isAct_73 (by decide) ?_
            exact hret _ _ _ _ _ _ dX7_isAct_74 hP hS (by first | rfl | (rcases hbv with rfl | rfl <;> rfl)) (⟨rfl, Or.inr ⟨rfl, by simp only [okA, most, ← Int32.toInt_inj, ne_eq, show (nI 1).toInt = 1 from rfl, show (nI 2).toInt = 2 from rfl, show (nI 3).toInt = 3 from rfl, show (nI 4).toInt = 4 from rfl] at *; (repeat split) <;> omega⟩⟩)
    · refine z_ne0 C dX7_isAct_16 (tgt := 21) (by decide) ?_
      refine lv_iconst (v := nI 1) hx hb dX7_isAct_19 (by decide) ?_
      exact hret _ _ _ _ _ _ dX7_isAct_20 hP hS (by first | rfl | (rcases hbv with rfl | rfl <;> rfl)) (⟨rfl, Or.inl ⟨rfl, by simp only [okA, most, ← Int32.toInt_inj, ne_eq, show (nI 1).toInt = 1 from rfl, show (nI 2).toInt = 2 from rfl, show (nI 3).toInt = 3 from rfl, show (nI 4).toInt = 4 from rfl] at *; (repeat split) <;> omega⟩⟩)
  · refine z_ne0 C dX7_isAct_7 (tgt := 12) (by decide) ?_
    refine lv_iconst (v := nI 0) hx hb dX7_isAct_10 (by decide) ?_
    exact hret _ _ _ _ _ _ dX7_isAct_11 hP hS (by first | rfl | (rcases hbv with rfl | rfl <;> rfl)) (⟨rfl, Or.inr ⟨rfl, by simp only [okA, most, ← Int32.toInt_inj, ne_eq, show (nI 1).toInt = 1 from rfl, show (nI 2).toInt = 2 from rfl, show (nI 3).toInt = 3 from rfl, show (nI 4).toInt = 4 from rfl] at *; (repeat split) <;> omega⟩⟩)
set_option maxHeartbeats 4000000 in
set_option maxRecDepth 100000 in
theorem c_X7_isThere {l : Launch} {E : En} {K : Nat → Nat} {L : Nat → Nat → Bool} {ad : Nat → Nat} {I : Nat → Nat → Int32} (t e n : Nat) (hM : IsM K L) (ht : t < 8) (he : e < 5) (hn : I 12 t = nI n) (hn4 : n ≤ 4) : MI l E K L ad I yX7_isThere cX7_isThere 2 (some .boolean) 0 [.ref (ad 10), .int (nI (5 * t + e))] (fun v J => J = I ∧ (v = 1 ∧ (thr n e) ∨ v = 0 ∧ ¬ (thr n e))) := by
  have hM0 := hM
  obtain ⟨m0, ml1, ml2, ml3, ml4, ml5, ml6, ml7, ml8, ml9, ml10, ml11, ml12, ml13, ml14, ml15, ml16, ml17, ml21, ml25, ml26, mk1, mk2, mk3, mk4, mk5, mk6, mk7, mk8, mk9, mk10, mk11, mk12, mk13, mk14, mk15, mk16, mk17, mk21, mk25, mk26⟩ := hM
  refine MZ.of (by decide) (Nat.le_of_ble_eq_true rfl) ?_
  intro p ee s m args below meth c ls Qf C hret hP hl
  have C : Cx E p s m args c cX7_isThere RX7 2 := C
  have hx := C.1
  have hb := C.2.1
  have hS : va_S (AG E) s.heap s.heap [] := va_S.rf
  have hl : lv_has ls 2 [(0, .ref (ad 10)), (1, .int (nI (5 * t + e)))] := hl
  refine lv_iload_n hx hb dX7_isThere_0 rfl (lv_at hl 1 rfl) ?_
  refine lv_iconst (v := nI 5) hx hb dX7_isThere_1 (by decide) ?_
  refine r_remN C (by omega) (by decide) (by decide) dX7_isThere_2 ?_
  refine lv_iconst (v := nI 4) hx hb dX7_isThere_3 (by decide) ?_
  refine b_eqN C (by omega) (by omega) dX7_isThere_4 (tgt := 21) (by decide) (fun h1 => ?_) (fun h1 => ?_)
  · refine lv_iconst (v := nI 1) hx hb dX7_isThere_21 (by decide) ?_
    refine lv_goto (tgt := 26) hx hb dX7_isThere_22 (by decide) ?_
    exact hret _ _ _ _ _ _ dX7_isThere_26 hP hS (by first | rfl | (rcases hbv with rfl | rfl <;> rfl)) (⟨rfl, Or.inl ⟨rfl, by omega⟩⟩)
  · refine lv_iload_n hx hb dX7_isThere_7 rfl (lv_at hl 1 rfl) ?_
    refine lv_iconst (v := nI 5) hx hb dX7_isThere_8 (by decide) ?_
    refine r_remN C (by omega) (by decide) (by decide) dX7_isThere_9 ?_
    refine lv_aload_n hx hb dX7_isThere_10 rfl (lv_at hl 0 rfl) ?_
    refine f_X7_13 (q := 12) C hP (by assumption) (by assumption) rfl dX7_isThere_11 ?_
    refine lv_iload_n hx hb dX7_isThere_14 rfl (lv_at hl 1 rfl) ?_
    refine lv_iconst (v := nI 5) hx hb dX7_isThere_15 (by decide) ?_
    refine r_divN C (by omega) (by decide) (by decide) dX7_isThere_16 ?_
    refine r_iald (n := 8) C hP (by assumption) (by omega) (by decide) dX7_isThere_17 ?_
    refine r_eqi (y := (nI n)) (by rw [show (5 * t + e) / 5 = t by omega]; exact hn) ?_
    refine b_geN C (by omega) (by omega) dX7_isThere_18 (tgt := 25) (by decide) (fun h2 => ?_) (fun h2 => ?_)
    · refine lv_iconst (v := nI 0) hx hb dX7_isThere_25 (by decide) ?_
      exact hret _ _ _ _ _ _ dX7_isThere_26 hP hS (by first | rfl | (rcases hbv with rfl | rfl <;> rfl)) (⟨rfl, Or.inr ⟨rfl, by omega⟩⟩)
    · refine lv_iconst (v := nI 1) hx hb dX7_isThere_21 (by decide) ?_
      refine lv_goto (tgt := 26) hx hb dX7_isThere_22 (by decide) ?_
      exact hret _ _ _ _ _ _ dX7_isThere_26 hP hS (by first | rfl | (rcases hbv with rfl | rfl <;> rfl)) (⟨rfl, Or.inl ⟨rfl, by omega⟩⟩)
