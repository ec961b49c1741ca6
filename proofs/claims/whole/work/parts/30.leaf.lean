/-! leaves of the class -/
set_option maxHeartbeats 4000000 in
set_option maxRecDepth 100000 in
theorem c_X6_isIn {l : Launch} {E : En} {K : Nat → Nat} {L : Nat → Nat → Bool} {ad : Nat → Nat} {I : Nat → Nat → Int32} (n z : Int32)  : MI l E K L ad I yX6_isIn cX6_isIn 2 (some .boolean) 0 [.int n, .int z] (fun v J => J = I ∧ (v = 1 ∧ (0 ≤ n.toInt ∧ n.toInt < z.toInt) ∨ v = 0 ∧ ¬ (0 ≤ n.toInt ∧ n.toInt < z.toInt))) := by
  refine MZ.of (by decide) (Nat.le_of_ble_eq_true rfl) ?_
  intro p e s m args below meth c ls Qf C hret hP hl
  have C : Cx E p s m args c cX6_isIn RX6 2 := C
  have hx := C.1
  have hb := C.2.1
  have hS : va_S (AG E) s.heap s.heap [] := va_S.rf
  have hl : lv_has ls 2 [(0, .int n), (1, .int z)] := hl
  refine lv_iload_n hx hb dX6_isIn_0 rfl (lv_at hl 0 rfl) ?_
  refine z_lt C dX6_isIn_1 (tgt := 13) (by decide) (fun h1 => ?_) (fun h1 => ?_)
  · refine lv_iconst (v := nI 0) hx hb dX6_isIn_13 (by decide) ?_
    exact hret _ _ _ _ _ _ dX6_isIn_14 hP hS (by first | rfl | (rcases hbv with rfl | rfl <;> rfl)) (by refine ⟨rfl, Or.inr ⟨rfl, ?_⟩⟩; omega)
  · refine lv_iload_n hx hb dX6_isIn_4 rfl (lv_at hl 0 rfl) ?_
    refine lv_iload_n hx hb dX6_isIn_5 rfl (lv_at hl 1 rfl) ?_
    refine b_ge C dX6_isIn_6 (tgt := 13) (by decide) (fun h2 => ?_) (fun h2 => ?_)
    · refine lv_iconst (v := nI 0) hx hb dX6_isIn_13 (by decide) ?_
      exact hret _ _ _ _ _ _ dX6_isIn_14 hP hS (by first | rfl | (rcases hbv with rfl | rfl <;> rfl)) (by refine ⟨rfl, Or.inr ⟨rfl, ?_⟩⟩; omega)
    · refine lv_iconst (v := nI 1) hx hb dX6_isIn_9 (by decide) ?_
      refine lv_goto (tgt := 14) hx hb dX6_isIn_10 (by decide) ?_
      exact hret _ _ _ _ _ _ dX6_isIn_14 hP hS (by first | rfl | (rcases hbv with rfl | rfl <;> rfl)) (by refine ⟨rfl, Or.inl ⟨rfl, ?_⟩⟩; omega)
set_option maxHeartbeats 4000000 in
set_option maxRecDepth 100000 in
theorem c_X6_isUpTo {l : Launch} {E : En} {K : Nat → Nat} {L : Nat → Nat → Bool} {ad : Nat → Nat} {I : Nat → Nat → Int32} (n z : Int32)  : MI l E K L ad I yX6_isUpTo cX6_isUpTo 2 (some .boolean) 0 [.int n, .int z] (fun v J => J = I ∧ (v = 1 ∧ (0 ≤ n.toInt ∧ n.toInt ≤ z.toInt) ∨ v = 0 ∧ ¬ (0 ≤ n.toInt ∧ n.toInt ≤ z.toInt))) := by
  refine MZ.of (by decide) (Nat.le_of_ble_eq_true rfl) ?_
  intro p e s m args below meth c ls Qf C hret hP hl
  have C : Cx E p s m args c cX6_isUpTo RX6 2 := C
  have hx := C.1
  have hb := C.2.1
  have hS : va_S (AG E) s.heap s.heap [] := va_S.rf
  have hl : lv_has ls 2 [(0, .int n), (1, .int z)] := hl
  refine lv_iload_n hx hb dX6_isUpTo_0 rfl (lv_at hl 0 rfl) ?_
  refine z_lt C dX6_isUpTo_1 (tgt := 13) (by decide) (fun h1 => ?_) (fun h1 => ?_)
  · refine lv_iconst (v := nI 0) hx hb dX6_isUpTo_13 (by decide) ?_
    exact hret _ _ _ _ _ _ dX6_isUpTo_14 hP hS (by first | rfl | (rcases hbv with rfl | rfl <;> rfl)) (by refine ⟨rfl, Or.inr ⟨rfl, ?_⟩⟩; omega)
  · refine lv_iload_n hx hb dX6_isUpTo_4 rfl (lv_at hl 0 rfl) ?_
    refine lv_iload_n hx hb dX6_isUpTo_5 rfl (lv_at hl 1 rfl) ?_
    refine b_gt C dX6_isUpTo_6 (tgt := 13) (by decide) (fun h2 => ?_) (fun h2 => ?_)
    · refine lv_iconst (v := nI 0) hx hb dX6_isUpTo_13 (by decide) ?_
      exact hret _ _ _ _ _ _ dX6_isUpTo_14 hP hS (by first | rfl | (rcases hbv with rfl | rfl <;> rfl)) (by refine ⟨rfl, Or.inr ⟨rfl, ?_⟩⟩; omega)
    · refine lv_iconst (v := nI 1) hx hb dX6_isUpTo_9 (by decide) ?_
      refine lv_goto (tgt := 14) hx hb dX6_isUpTo_10 (by decide) ?_
      exact hret _ _ _ _ _ _ dX6_isUpTo_14 hP hS (by first | rfl | (rcases hbv with rfl | rfl <;> rfl)) (by refine ⟨rfl, Or.inl ⟨rfl, ?_⟩⟩; omega)
set_option maxHeartbeats 4000000 in
set_option maxRecDepth 100000 in
theorem c_X6_hasTarget {l : Launch} {E : En} {K : Nat → Nat} {L : Nat → Nat → Bool} {ad : Nat → Nat} {I : Nat → Nat → Int32} (k : Int32)  : MI l E K L ad I yX6_hasTarget cX6_hasTarget 1 (some .boolean) 0 [.int k] (fun v J => J = I ∧ (v = 1 ∧ (mat k) ∨ v = 0 ∧ ¬ (mat k))) := by
  refine MZ.of (by decide) (Nat.le_of_ble_eq_true rfl) ?_
  intro p e s m args below meth c ls Qf C hret hP hl
  have C : Cx E p s m args c cX6_hasTarget RX6 1 := C
  have hx := C.1
  have hb := C.2.1
  have hS : va_S (AG E) s.heap s.heap [] := va_S.rf
  have hl : lv_has ls 1 [(0, .int k)] := hl
  refine lv_iload_n hx hb dX6_hasTarget_0 rfl (lv_at hl 0 rfl) ?_
  refine lv_iconst (v := nI 1) hx hb dX6_hasTarget_1 (by decide) ?_
  refine b_lt C dX6_hasTarget_2 (tgt := 15) (by decide) (fun h1 => ?_) (fun h1 => ?_)
  · rw [nI_toInt (by omega)] at h1
    refine lv_iconst (v := nI 0) hx hb dX6_hasTarget_15 (by decide) ?_
    exact hret _ _ _ _ _ _ dX6_hasTarget_16 hP hS (by first | rfl | (rcases hbv with rfl | rfl <;> rfl)) (by refine ⟨rfl, Or.inr ⟨rfl, ?_⟩⟩; omega)
  · rw [nI_toInt (by omega)] at h1
    refine lv_iload_n hx hb dX6_hasTarget_5 rfl (lv_at hl 0 rfl) ?_
    refine lv_bipush (v := nI 7) hx hb dX6_hasTarget_6 (by decide) ?_
    refine b_gt C dX6_hasTarget_8 (tgt := 15) (by decide) (fun h2 => ?_) (fun h2 => ?_)
    · rw [nI_toInt (by omega)] at h2
      refine lv_iconst (v := nI 0) hx hb dX6_hasTarget_15 (by decide) ?_
      exact hret _ _ _ _ _ _ dX6_hasTarget_16 hP hS (by first | rfl | (rcases hbv with rfl | rfl <;> rfl)) (by refine ⟨rfl, Or.inr ⟨rfl, ?_⟩⟩; omega)
    · rw [nI_toInt (by omega)] at h2
      refine lv_iconst (v := nI 1) hx hb dX6_hasTarget_11 (by decide) ?_
      refine lv_goto (tgt := 16) hx hb dX6_hasTarget_12 (by decide) ?_
      exact hret _ _ _ _ _ _ dX6_hasTarget_16 hP hS (by first | rfl | (rcases hbv with rfl | rfl <;> rfl)) (by refine ⟨rfl, Or.inl ⟨rfl, ?_⟩⟩; omega)
set_option maxHeartbeats 4000000 in
set_option maxRecDepth 100000 in
theorem c_X6_hasRegister {l : Launch} {E : En} {K : Nat → Nat} {L : Nat → Nat → Bool} {ad : Nat → Nat} {I : Nat → Nat → Int32} (k : Int32)  : MI l E K L ad I yX6_hasRegister cX6_hasRegister 1 (some .boolean) 0 [.int k] (fun v J => J = I ∧ (v = 1 ∧ (hrg k) ∨ v = 0 ∧ ¬ (hrg k))) := by
  refine MZ.of (by decide) (Nat.le_of_ble_eq_true rfl) ?_
  intro p e s m args below meth c ls Qf C hret hP hl
  have C : Cx E p s m args c cX6_hasRegister RX6 1 := C
  have hx := C.1
  have hb := C.2.1
  have hS : va_S (AG E) s.heap s.heap [] := va_S.rf
  have hl : lv_has ls 1 [(0, .int k)] := hl
  refine lv_iload_n hx hb dX6_hasRegister_0 rfl (lv_at hl 0 rfl) ?_
  refine lv_iconst (v := nI 5) hx hb dX6_hasRegister_1 (by decide) ?_
  refine b_lt C dX6_hasRegister_2 (tgt := 15) (by decide) (fun h1 => ?_) (fun h1 => ?_)
  · rw [nI_toInt (by omega)] at h1
    refine lv_iconst (v := nI 0) hx hb dX6_hasRegister_15 (by decide) ?_
    exact hret _ _ _ _ _ _ dX6_hasRegister_16 hP hS (by first | rfl | (rcases hbv with rfl | rfl <;> rfl)) (by refine ⟨rfl, Or.inr ⟨rfl, ?_⟩⟩; omega)
  · rw [nI_toInt (by omega)] at h1
    refine lv_iload_n hx hb dX6_hasRegister_5 rfl (lv_at hl 0 rfl) ?_
    refine lv_bipush (v := nI 7) hx hb dX6_hasRegister_6 (by decide) ?_
    refine b_gt C dX6_hasRegister_8 (tgt := 15) (by decide) (fun h2 => ?_) (fun h2 => ?_)
    · rw [nI_toInt (by omega)] at h2
      refine lv_iconst (v := nI 0) hx hb dX6_hasRegister_15 (by decide) ?_
      exact hret _ _ _ _ _ _ dX6_hasRegister_16 hP hS (by first | rfl | (rcases hbv with rfl | rfl <;> rfl)) (by refine ⟨rfl, Or.inr ⟨rfl, ?_⟩⟩; omega)
    · rw [nI_toInt (by omega)] at h2
      refine lv_iconst (v := nI 1) hx hb dX6_hasRegister_11 (by decide) ?_
      refine lv_goto (tgt := 16) hx hb dX6_hasRegister_12 (by decide) ?_
      exact hret _ _ _ _ _ _ dX6_hasRegister_16 hP hS (by first | rfl | (rcases hbv with rfl | rfl <;> rfl)) (by refine ⟨rfl, Or.inl ⟨rfl, ?_⟩⟩; omega)
set_option maxHeartbeats 4000000 in
set_option maxRecDepth 100000 in
theorem c_X5_size {l : Launch} {E : En} {K : Nat → Nat} {L : Nat → Nat → Bool} {ad : Nat → Nat} {I : Nat → Nat → Int32} (h : Nat) (hk : K h = 6) : MI l E K L ad I yX5_size cX5_size 1 (some .int) 0 [.ref (ad h)] (fun r J => J = I ∧ r = I h 1 + nI 1) := by
  refine MI.of (by decide) (Nat.le_of_ble_eq_true rfl) ?_
  intro p e s m args below meth c ls Qf C hret hP hl
  have C : Cx E p s m args c cX5_size RX5 1 := C
  have hx := C.1
  have hb := C.2.1
  have hS : va_S (AG E) s.heap s.heap [] := va_S.rf
  have hl : lv_has ls 1 [(0, .ref (ad h))] := hl
  refine lv_aload_n hx hb dX5_size_0 rfl (lv_at hl 0 rfl) ?_
  refine f_X5_26 C hP (by assumption) dX5_size_1 ?_
  refine lv_iconst (v := nI 1) hx hb dX5_size_4 (by decide) ?_
  refine lv_iadd hx hb dX5_size_5 ?_
  refine lv_topi (fun x1 ex1 => ?_)
  exact hret _ _ _ _ _ _ dX5_size_6 hP hS (⟨rfl, ex1⟩)
set_option maxHeartbeats 4000000 in
set_option maxRecDepth 100000 in
theorem c_X5_isUsed {l : Launch} {E : En} {K : Nat → Nat} {L : Nat → Nat → Bool} {ad : Nat → Nat} {I : Nat → Nat → Int32} (h n j : Nat) (hk : K h = 6) (he : I h 1 = nI n) (hn : n ≤ 4) (hj : j < 5) : MI l E K L ad I yX5_isUsed cX5_isUsed 2 (some .boolean) 0 [.ref (ad h), .int (nI j)] (fun v J => J = I ∧ (v = 1 ∧ (thr n j) ∨ v = 0 ∧ ¬ (thr n j))) := by
  refine MZ.of (by decide) (Nat.le_of_ble_eq_true rfl) ?_
  intro p e s m args below meth c ls Qf C hret hP hl
  have C : Cx E p s m args c cX5_isUsed RX5 2 := C
  have hx := C.1
  have hb := C.2.1
  have hS : va_S (AG E) s.heap s.heap [] := va_S.rf
  have hl : lv_has ls 2 [(0, .ref (ad h)), (1, .int (nI j))] := hl
  refine lv_iload_n hx hb dX5_isUsed_0 rfl (lv_at hl 1 rfl) ?_
  refine lv_aload_n hx hb dX5_isUsed_1 rfl (lv_at hl 0 rfl) ?_
  refine f_X5_26 C hP (by assumption) dX5_isUsed_2 ?_
  refine r_eqi (y := (nI n)) (he) ?_
  refine b_ltN C (by omega) (by omega) dX5_isUsed_5 (tgt := 13) (by decide) (fun h1 => ?_) (fun h1 => ?_)
  · refine lv_iconst (v := nI 1) hx hb dX5_isUsed_13 (by decide) ?_
    refine lv_goto (tgt := 18) hx hb dX5_isUsed_14 (by decide) ?_
    exact hret _ _ _ _ _ _ dX5_isUsed_18 hP hS (by first | rfl | (rcases hbv with rfl | rfl <;> rfl)) (by refine ⟨rfl, Or.inl ⟨rfl, ?_⟩⟩; omega)
  · refine lv_iload_n hx hb dX5_isUsed_8 rfl (lv_at hl 1 rfl) ?_
    refine lv_iconst (v := nI 4) hx hb dX5_isUsed_9 (by decide) ?_
    refine b_neN C (by omega) (by omega) dX5_isUsed_10 (tgt := 17) (by decide) (fun h2 => ?_) (fun h2 => ?_)
    · refine lv_iconst (v := nI 0) hx hb dX5_isUsed_17 (by decide) ?_
      exact hret _ _ _ _ _ _ dX5_isUsed_18 hP hS (by first | rfl | (rcases hbv with rfl | rfl <;> rfl)) (by refine ⟨rfl, Or.inr ⟨rfl, ?_⟩⟩; omega)
    · refine lv_iconst (v := nI 1) hx hb dX5_isUsed_13 (by decide) ?_
      refine lv_goto (tgt := 18) hx hb dX5_isUsed_14 (by decide) ?_
      exact hret _ _ _ _ _ _ dX5_isUsed_18 hP hS (by first | rfl | (rcases hbv with rfl | rfl <;> rfl)) (by refine ⟨rfl, Or.inl ⟨rfl, ?_⟩⟩; omega)
set_option maxHeartbeats 4000000 in
set_option maxRecDepth 100000 in
theorem c_X5_slotOf {l : Launch} {E : En} {K : Nat → Nat} {L : Nat → Nat → Bool} {ad : Nat → Nat} {I : Nat → Nat → Int32} (h n : Nat) (v : Int32) (hk : K h = 6) (hl2 : L h 2 = true) (hk1 : K (h + 1) = 104) (he : I h 1 = nI n) (hn : n ≤ 4) : MI l E K L ad I yX5_slotOf cX5_slotOf 3 (some .int) 0 [.ref (ad h), .int v] (fun r J => J = I ∧ r = nI (fnd (I (h + 1)) v n 0)) := by
  refine MI.of (by decide) (Nat.le_of_ble_eq_true rfl) ?_
  intro p e s m args below meth c ls Qf C hret hP hl
  have C : Cx E p s m args c cX5_slotOf RX5 3 := C
  have hx := C.1
  have hb := C.2.1
  have hS : va_S (AG E) s.heap s.heap [] := va_S.rf
  have hl : lv_has ls 3 [(0, .ref (ad h)), (1, .int v)] := hl
  refine lv_iconst (v := nI 0) hx hb dX5_slotOf_0 (by decide) ?_
  refine lv_istore_n (lv' := [(2, .int (nI 0)), (0, .ref (ad h)), (1, .int v)]) hx hb dX5_slotOf_1 rfl hl (by decide) rfl (fun ls hl => ?_)
  have hL2_1 : ∀ (d : Nat) (j : Nat) (H : Heap) (locs : List Loc) (ls : Array Slot), n < j + d → (j ≤ n) → (∀ i, i < j → I (h + 1) i ≠ v) → Hp E K L ad I H → va_S (AG E) s.heap H locs → lv_has ls 3 [(0, .ref (ad h)), (1, .int v), (2, .int (nI j))] → W p l e (rmk 0) s m args below meth c H locs 0 0 Qf (F0 m 2 ls []) := by
    intro d
    induction d with
    | zero => intro j H locs ls hd hj hno _ _ _; exact absurd hd (by omega)
    | succ d ih =>
      intro j H locs ls hd hj hno hP hS hl
      refine lv_iload_n hx hb dX5_slotOf_2 rfl (lv_at hl 2 rfl) ?_
      refine lv_aload_n hx hb dX5_slotOf_3 rfl (lv_at hl 0 rfl) ?_
      refine f_X5_26 C hP (by assumption) dX5_slotOf_4 ?_
      refine r_eqi (y := (nI n)) (he) ?_
      refine b_geN C (by omega) (by omega) dX5_slotOf_7 (tgt := 28) (by decide) (fun h2 => ?_) (fun h2 => ?_)
      · refine lv_iconst (v := nI 4) hx hb dX5_slotOf_28 (by decide) ?_
        exact hret _ _ _ _ _ _ dX5_slotOf_29 hP hS (⟨rfl, by rw [fnd_miss n 0 (fun a _ h2 => hno a (by omega))]⟩)
      · refine lv_aload_n hx hb dX5_slotOf_10 rfl (lv_at hl 0 rfl) ?_
        refine f_X5_9 (q := h + 1) C hP (by assumption) (by assumption) rfl dX5_slotOf_11 ?_
        refine lv_iload_n hx hb dX5_slotOf_14 rfl (lv_at hl 2 rfl) ?_
        refine r_iald (n := 4) C hP (by assumption) (by omega) (by decide) dX5_slotOf_15 ?_
        refine lv_iload_n hx hb dX5_slotOf_16 rfl (lv_at hl 1 rfl) ?_
        refine b_ne C dX5_slotOf_17 (tgt := 22) (by decide) (fun h3 => ?_) (fun h3 => ?_)
        · refine lv_iinc (v := nI (j + 1)) (lv' := [(2, .int (nI (j + 1))), (0, .ref (ad h)), (1, .int v)]) hx hb dX5_slotOf_22 hl (k := 2) rfl (nI_1 _) (by decide) rfl (fun ls hl => ?_)
          refine lv_goto (tgt := 2) hx hb dX5_slotOf_25 (by decide) ?_
          exact ih (j + 1) _ _ _ (by omega) (by omega) (lt_s hno (by assumption)) hP hS (lv_sub hl [1, 2, 0] rfl)
        · refine lv_iload_n hx hb dX5_slotOf_20 rfl (lv_at hl 2 rfl) ?_
          exact hret _ _ _ _ _ _ dX5_slotOf_21 hP hS (⟨rfl, by rw [fnd_hit n 0 j (by omega) (by omega) (by assumption) (fun a _ h2 => hno a h2)]⟩)
  exact hL2_1 (n + 1) 0 _ _ _ (by omega) (Nat.zero_le _) (lt_0) hP hS (lv_sub hl [1, 2, 0] rfl)
