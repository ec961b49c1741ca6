/-! tables -/
set_option maxHeartbeats 4000000 in
set_option maxRecDepth 100000 in
theorem c_X5_begin {l : Launch} {E : En} {K : Nat → Nat} {L : Nat → Nat → Bool} {ad : Nat → Nat} {I : Nat → Nat → Int32} (h : Nat) (k : Int32) (hT : IsT K L h) : MV l E K L ad I yX5_begin cX5_begin 2 2 [.ref (ad h), .int k] (fun J => J = set3 (up2 (up2 I h 0 k) h 1 (nI 0)) (h + 7) (nI 0) (-6) (-6)) := by
  obtain ⟨hk, hl2, hl3, hk1, hk2, hLa, hKa⟩ := hT
  have hk7 := hKa 4 (by decide)
  have hL4 := hLa 4 (by decide)
  refine MV.of (by decide) (Nat.le_of_ble_eq_true rfl) ?_
  intro p e s m args below meth c ls Qf C hret hP hl
  have C : Cx E p s m args c cX5_begin RX5 2 := C
  have hx := C.1
  have hb := C.2.1
  have hS : va_S (AG E) s.heap s.heap [] := va_S.rf
  have hl : lv_has ls 2 [(0, .ref (ad h)), (1, .int k)] := hl
  refine lv_aload_n hx hb dX5_begin_0 rfl (lv_at hl 0 rfl) ?_
  refine lv_iload_n hx hb dX5_begin_1 rfl (lv_at hl 1 rfl) ?_
  refine p_X5_22 C hP hS (by assumption) dX5_begin_2 (fun H locs hP hS => ?_)
  obtain ⟨I1, eI1⟩ : ∃ Z : Nat → Nat → Int32, Z = up2 I h 0 k := ⟨_, rfl⟩
  rw [← eI1] at hP
  refine lv_aload_n hx hb dX5_begin_5 rfl (lv_at hl 0 rfl) ?_
  refine lv_iconst (v := nI 0) hx hb dX5_begin_6 (by decide) ?_
  refine p_X5_26 C hP hS (by assumption) dX5_begin_7 (fun H locs hP hS => ?_)
  obtain ⟨I2, eI2⟩ : ∃ Z : Nat → Nat → Int32, Z = up2 I1 h 1 (nI 0) := ⟨_, rfl⟩
  rw [← eI2] at hP
  refine lv_aload_n hx hb dX5_begin_10 rfl (lv_at hl 0 rfl) ?_
  refine f_X5_17 (q := h + 2) C hP (by assumption) (by assumption) rfl dX5_begin_11 ?_
  refine lv_iconst (v := nI 4) hx hb dX5_begin_14 (by decide) ?_
  refine r_ald11 (q := h + 3 + 4) C hP (by assumption) (by first | assumption | exact hLa _ (by omega)) (by omega) (by omega) dX5_begin_15 ?_
  refine lv_iconst (v := nI 0) hx hb dX5_begin_16 (by decide) ?_
  refine lv_bipush (v := (-6)) hx hb dX5_begin_17 (by decide) ?_
  refine lv_bipush (v := (-6)) hx hb dX5_begin_19 (by decide) ?_
  refine k_X5_29 C hP hS (by assumption) (c_X0_become (h + 3 + 4) (nI 0) (-6) (-6) (by assumption)) ⟨Nat.le_of_ble_eq_true rfl, Nat.le_of_ble_eq_true rfl⟩ ⟨Nat.zero_le _, Nat.zero_le _⟩ hl.1 (Nat.le_of_ble_eq_true rfl) dX5_begin_21 (fun I4 H locs hv5 hP hS => ?_)
  have eI4 := hv5
  exact hret _ _ _ _ _ dX5_begin_24 hP hS (by subst_vars; rw [mq_f (by decide)])
set_option maxHeartbeats 4000000 in
set_option maxRecDepth 100000 in
theorem c_X5_writtenFields {l : Launch} {E : En} {K : Nat → Nat} {L : Nat → Nat → Bool} {ad : Nat → Nat} {I : Nat → Nat → Int32} (h n : Nat) (hT : IsT K L h) (he : I h 1 = nI n) (hn : n ≤ 4) : MI l E K L ad I yX5_writtenFields cX5_writtenFields 3 (some .int) 2 [.ref (ad h)] (fun v J => J = I ∧ v = wrT n (fun e => I (h + 3 + e) 0) (fun e => I (h + 3 + e) 1)) := by
  obtain ⟨hk, hl2, hl3, hk1, hk2, hLa, hKa⟩ := hT
  refine MI.of (by decide) (Nat.le_of_ble_eq_true rfl) ?_
  intro p e s m args below meth c ls Qf C hret hP hl
  have C : Cx E p s m args c cX5_writtenFields RX5 3 := C
  have hx := C.1
  have hb := C.2.1
  have hS : va_S (AG E) s.heap s.heap [] := va_S.rf
  have hl : lv_has ls 3 [(0, .ref (ad h))] := hl
  refine lv_iconst (v := nI 0) hx hb dX5_writtenFields_0 (by decide) ?_
  refine lv_istore_n (lv' := [(1, .int (nI 0)), (0, .ref (ad h))]) hx hb dX5_writtenFields_1 rfl hl (by decide) rfl (fun ls hl => ?_)
  refine lv_iconst (v := nI 0) hx hb dX5_writtenFields_2 (by decide) ?_
  refine lv_istore_n (lv' := [(2, .int (nI 0)), (1, .int (nI 0)), (0, .ref (ad h))]) hx hb dX5_writtenFields_3 rfl hl (by decide) rfl (fun ls hl => ?_)
  have hL4_1 : ∀ (d : Nat) (j : Nat) (a : Int32) (H : Heap) (locs : List Loc) (ls : Array Slot), 5 < j + d → (j ≤ 5) → (a = orF (nI 0) (fun e => if thr n e then wrA (I (h + 3 + e) 0) (I (h + 3 + e) 1) else nI 0) j) → Hp E K L ad I H → va_S (AG E) s.heap H locs → lv_has ls 3 [(0, .ref (ad h)), (1, .int a), (2, .int (nI j))] → W p l e (rmk 2) s m args below meth c H locs 0 0 Qf (F0 m 4 ls []) := by
    intro d
    induction d with
    | zero => intro j a H locs ls hd hj ha _ _ _; exact absurd hd (by omega)
    | succ d ih =>
      intro j a H locs ls hd hj ha hP hS hl
      refine lv_iload_n hx hb dX5_writtenFields_4 rfl (lv_at hl 2 rfl) ?_
      refine lv_iconst (v := nI 4) hx hb dX5_writtenFields_5 (by decide) ?_
      refine b_gtN C (by omega) (by omega) dX5_writtenFields_6 (tgt := 39) (by decide) (fun h2 => ?_) (fun h2 => ?_)
      · refine lv_iload_n hx hb dX5_writtenFields_39 rfl (lv_at hl 1 rfl) ?_
        exact hret _ _ _ _ _ _ dX5_writtenFields_40 hP hS (⟨rfl, by rw [wrT]; rw [ha, show j = 5 by omega]⟩)
      · refine lv_iload_n hx hb dX5_writtenFields_9 rfl (lv_at hl 1 rfl) ?_
        refine lv_aload_n hx hb dX5_writtenFields_10 rfl (lv_at hl 0 rfl) ?_
        refine lv_iload_n hx hb dX5_writtenFields_11 rfl (lv_at hl 2 rfl) ?_
        refine k_X5_43 C hP hS (by assumption) (c_X5_isUsed h n j (by assumption) he hn (by omega)) ⟨Nat.le_of_ble_eq_true rfl, Nat.le_of_ble_eq_true rfl⟩ ⟨Nat.zero_le _, Nat.zero_le _⟩ hl.1 (Nat.le_of_ble_eq_true rfl) dX5_writtenFields_12 (fun v3 I4 H locs hv5 hP hS => ?_)
        obtain ⟨eI4, hv5⟩ := hv5
        rw [eI4] at hP
        clear eI4
        rcases hv5 with ⟨rfl, hc6⟩ | ⟨rfl, hc6⟩
        · refine z_eq1 C dX5_writtenFields_15 (tgt := 30) (by decide) ?_
          refine lv_aload_n hx hb dX5_writtenFields_18 rfl (lv_at hl 0 rfl) ?_
          refine f_X5_17 (q := h + 2) C hP (by assumption) (by assumption) rfl dX5_writtenFields_19 ?_
          refine lv_iload_n hx hb dX5_writtenFields_22 rfl (lv_at hl 2 rfl) ?_
          refine r_ald11 (q := h + 3 + j) C hP (by assumption) (by first | assumption | exact hLa _ (by omega)) (by omega) (by omega) dX5_writtenFields_23 ?_
          have hkj := hKa j (by omega)
          refine k_X5_47 C hP hS (by assumption) (c_X0_writtenFields (h + 3 + j) (by assumption)) ⟨Nat.le_of_ble_eq_true rfl, Nat.le_of_ble_eq_true rfl⟩ ⟨Nat.zero_le _, Nat.zero_le _⟩ hl.1 (Nat.le_of_ble_eq_true rfl) dX5_writtenFields_24 (fun v7 I8 H locs hv9 hP hS => ?_)
          obtain ⟨eI8, ev7⟩ := hv9
          rw [eI8] at hP
          clear eI8
          refine lv_goto (tgt := 31) hx hb dX5_writtenFields_27 (by decide) ?_
          refine lv_ior hx hb dX5_writtenFields_31 ?_
          refine lv_topi (fun x10 ex10 => ?_)
          refine lv_istore_n (lv' := [(1, .int x10), (0, .ref (ad h)), (2, .int (nI j))]) hx hb dX5_writtenFields_32 rfl hl (by decide) rfl (fun ls hl => ?_)
          refine lv_iinc (v := nI (j + 1)) (lv' := [(2, .int (nI (j + 1))), (1, .int x10), (0, .ref (ad h))]) hx hb dX5_writtenFields_33 hl (k := 2) rfl (nI_1 _) (by decide) rfl (fun ls hl => ?_)
          refine lv_goto (tgt := 4) hx hb dX5_writtenFields_36 (by decide) ?_
          exact ih (j + 1) x10 _ _ _ (by omega) (by omega) (by simp only [orF]; rw [ex10, ha]; first | (rw [if_pos (by assumption)]; subst_vars; rfl) | (rw [if_neg (by assumption)])) hP hS (lv_sub hl [2, 1, 0] rfl)
        · refine z_eq0 C dX5_writtenFields_15 (tgt := 30) (by decide) ?_
          refine lv_iconst (v := nI 0) hx hb dX5_writtenFields_30 (by decide) ?_
          refine lv_ior hx hb dX5_writtenFields_31 ?_
          refine lv_topi (fun x11 ex11 => ?_)
          refine lv_istore_n (lv' := [(1, .int x11), (0, .ref (ad h)), (2, .int (nI j))]) hx hb dX5_writtenFields_32 rfl hl (by decide) rfl (fun ls hl => ?_)
          refine lv_iinc (v := nI (j + 1)) (lv' := [(2, .int (nI (j + 1))), (1, .int x11), (0, .ref (ad h))]) hx hb dX5_writtenFields_33 hl (k := 2) rfl (nI_1 _) (by decide) rfl (fun ls hl => ?_)
          refine lv_goto (tgt := 4) hx hb dX5_writtenFields_36 (by decide) ?_
          exact ih (j + 1) x11 _ _ _ (by omega) (by omega) (by simp only [orF]; rw [ex11, ha]; first | (rw [if_pos (by assumption)]; subst_vars; rfl) | (rw [if_neg (by assumption)])) hP hS (lv_sub hl [2, 1, 0] rfl)
  exact hL4_1 (5 + 1) 0 ((nI 0)) _ _ _ (by omega) (by omega) (rfl) hP hS (lv_sub hl [2, 1, 0] rfl)
set_option maxHeartbeats 4000000 in
set_option maxRecDepth 100000 in
theorem c_X5_readFields {l : Launch} {E : En} {K : Nat → Nat} {L : Nat → Nat → Bool} {ad : Nat → Nat} {I : Nat → Nat → Int32} (h n : Nat) (hT : IsT K L h) (he : I h 1 = nI n) (hn : n ≤ 4) : MI l E K L ad I yX5_readFields cX5_readFields 3 (some .int) 2 [.ref (ad h)] (fun v J => J = I ∧ v = rdT (I h 0) n (fun e => I (h + 3 + e) 0) (fun e => I (h + 3 + e) 1) (fun e => I (h + 3 + e) 2)) := by
  obtain ⟨hk, hl2, hl3, hk1, hk2, hLa, hKa⟩ := hT
  refine MI.of (by decide) (Nat.le_of_ble_eq_true rfl) ?_
  intro p e s m args below meth c ls Qf C hret hP hl
  have C : Cx E p s m args c cX5_readFields RX5 3 := C
  have hx := C.1
  have hb := C.2.1
  have hS : va_S (AG E) s.heap s.heap [] := va_S.rf
  have hl : lv_has ls 3 [(0, .ref (ad h))] := hl
  refine lv_iconst (v := nI 1) hx hb dX5_readFields_0 (by decide) ?_
  refine lv_aload_n hx hb dX5_readFields_1 rfl (lv_at hl 0 rfl) ?_
  refine f_X5_22 C hP (by first | assumption | exact hKa _ (by omega)) dX5_readFields_2 ?_
  refine lv_ishl hx hb dX5_readFields_5 ?_
  refine lv_topi (fun x1 ex1 => ?_)
  refine lv_istore_n (lv' := [(1, .int x1), (0, .ref (ad h))]) hx hb dX5_readFields_6 rfl hl (by decide) rfl (fun ls hl => ?_)
  refine lv_iconst (v := nI 0) hx hb dX5_readFields_7 (by decide) ?_
  refine lv_istore_n (lv' := [(2, .int (nI 0)), (1, .int x1), (0, .ref (ad h))]) hx hb dX5_readFields_8 rfl hl (by decide) rfl (fun ls hl => ?_)
  have hL9_2 : ∀ (d : Nat) (j : Nat) (a : Int32) (H : Heap) (locs : List Loc) (ls : Array Slot), 5 < j + d → (j ≤ 5) → (a = orF (sB (I h 0)) (fun e => if thr n e then rdA (I (h + 3 + e) 0) (I (h + 3 + e) 1) (I (h + 3 + e) 2) else nI 0) j) → Hp E K L ad I H → va_S (AG E) s.heap H locs → lv_has ls 3 [(0, .ref (ad h)), (1, .int a), (2, .int (nI j))] → W p l e (rmk 2) s m args below meth c H locs 0 0 Qf (F0 m 9 ls []) := by
    intro d
    induction d with
    | zero => intro j a H locs ls hd hj ha _ _ _; exact absurd hd (by omega)
    | succ d ih =>
      intro j a H locs ls hd hj ha hP hS hl
      refine lv_iload_n hx hb dX5_readFields_9 rfl (lv_at hl 2 rfl) ?_
      refine lv_iconst (v := nI 4) hx hb dX5_readFields_10 (by decide) ?_
      refine b_gtN C (by omega) (by omega) dX5_readFields_11 (tgt := 44) (by decide) (fun h3 => ?_) (fun h3 => ?_)
      · refine lv_iload_n hx hb dX5_readFields_44 rfl (lv_at hl 1 rfl) ?_
        exact hret _ _ _ _ _ _ dX5_readFields_45 hP hS (⟨rfl, by rw [rdT]; rw [ha, show j = 5 by omega]⟩)
      · refine lv_iload_n hx hb dX5_readFields_14 rfl (lv_at hl 1 rfl) ?_
        refine lv_aload_n hx hb dX5_readFields_15 rfl (lv_at hl 0 rfl) ?_
        refine lv_iload_n hx hb dX5_readFields_16 rfl (lv_at hl 2 rfl) ?_
        refine k_X5_43 C hP hS (by assumption) (c_X5_isUsed h n j (by assumption) he hn (by omega)) ⟨Nat.le_of_ble_eq_true rfl, Nat.le_of_ble_eq_true rfl⟩ ⟨Nat.zero_le _, Nat.zero_le _⟩ hl.1 (Nat.le_of_ble_eq_true rfl) dX5_readFields_17 (fun v4 I5 H locs hv6 hP hS => ?_)
        obtain ⟨eI5, hv6⟩ := hv6
        rw [eI5] at hP
        clear eI5
        rcases hv6 with ⟨rfl, hc7⟩ | ⟨rfl, hc7⟩
        · refine z_eq1 C dX5_readFields_20 (tgt := 35) (by decide) ?_
          refine lv_aload_n hx hb dX5_readFields_23 rfl (lv_at hl 0 rfl) ?_
          refine f_X5_17 (q := h + 2) C hP (by assumption) (by assumption) rfl dX5_readFields_24 ?_
          refine lv_iload_n hx hb dX5_readFields_27 rfl (lv_at hl 2 rfl) ?_
          refine r_ald11 (q := h + 3 + j) C hP (by assumption) (by first | assumption | exact hLa _ (by omega)) (by omega) (by omega) dX5_readFields_28 ?_
          have hkj := hKa j (by omega)
          refine k_X5_51 C hP hS (by assumption) (c_X0_readFields (h + 3 + j) (by assumption)) ⟨Nat.le_of_ble_eq_true rfl, Nat.le_of_ble_eq_true rfl⟩ ⟨Nat.zero_le _, Nat.zero_le _⟩ hl.1 (Nat.le_of_ble_eq_true rfl) dX5_readFields_29 (fun v8 I9 H locs hv10 hP hS => ?_)
          obtain ⟨eI9, ev8⟩ := hv10
          rw [eI9] at hP
          clear eI9
          refine lv_goto (tgt := 36) hx hb dX5_readFields_32 (by decide) ?_
          refine lv_ior hx hb dX5_readFields_36 ?_
          refine lv_topi (fun x11 ex11 => ?_)
          refine lv_istore_n (lv' := [(1, .int x11), (0, .ref (ad h)), (2, .int (nI j))]) hx hb dX5_readFields_37 rfl hl (by decide) rfl (fun ls hl => ?_)
          refine lv_iinc (v := nI (j + 1)) (lv' := [(2, .int (nI (j + 1))), (1, .int x11), (0, .ref (ad h))]) hx hb dX5_readFields_38 hl (k := 2) rfl (nI_1 _) (by decide) rfl (fun ls hl => ?_)
          refine lv_goto (tgt := 9) hx hb dX5_readFields_41 (by decide) ?_
          exact ih (j + 1) x11 _ _ _ (by omega) (by omega) (by simp only [orF]; rw [ex11, ha]; first | (rw [if_pos (by assumption)]; subst_vars; rfl) | (rw [if_neg (by assumption)])) hP hS (lv_sub hl [2, 1, 0] rfl)
        · refine z_eq0 C dX5_readFields_20 (tgt := 35) (by decide) ?_
          refine lv_iconst (v := nI 0) hx hb dX5_readFields_35 (by decide) ?_
          refine lv_ior hx hb dX5_readFields_36 ?_
          refine lv_topi (fun x12 ex12 => ?_)
          refine lv_istore_n (lv' := [(1, .int x12), (0, .ref (ad h)), (2, .int (nI j))]) hx hb dX5_readFields_37 rfl hl (by decide) rfl (fun ls hl => ?_)
          refine lv_iinc (v := nI (j + 1)) (lv' := [(2, .int (nI (j + 1))), (1, .int x12), (0, .ref (ad h))]) hx hb dX5_readFields_38 hl (k := 2) rfl (nI_1 _) (by decide) rfl (fun ls hl => ?_)
          refine lv_goto (tgt := 9) hx hb dX5_readFields_41 (by decide) ?_
          exact ih (j + 1) x12 _ _ _ (by omega) (by omega) (by simp only [orF]; rw [ex12, ha]; first | (rw [if_pos (by assumption)]; subst_vars; rfl) | (rw [if_neg (by assumption)])) hP hS (lv_sub hl [2, 1, 0] rfl)
  exact hL9_2 (5 + 1) 0 x1 _ _ _ (by omega) (by omega) (by simp only [orF]; exact ex1) hP hS (lv_sub hl [2, 1, 0] rfl)
set_option maxHeartbeats 4000000 in
set_option maxRecDepth 100000 in
theorem c_X5_ownRegisters {l : Launch} {E : En} {K : Nat → Nat} {L : Nat → Nat → Bool} {ad : Nat → Nat} {I : Nat → Nat → Int32} (h n : Nat) (hT : IsT K L h) (he : I h 1 = nI n) (hn : n ≤ 4) : MI l E K L ad I yX5_ownRegisters cX5_ownRegisters 3 (some .int) 2 [.ref (ad h)] (fun v J => J = I ∧ v = rgT n (fun e => I (h + 3 + e) 0) (fun e => I (h + 3 + e) 2)) := by
  obtain ⟨hk, hl2, hl3, hk1, hk2, hLa, hKa⟩ := hT
  refine MI.of (by decide) (Nat.le_of_ble_eq_true rfl) ?_
  intro p e s m args below meth c ls Qf C hret hP hl
  have C : Cx E p s m args c cX5_ownRegisters RX5 3 := C
  have hx := C.1
  have hb := C.2.1
  have hS : va_S (AG E) s.heap s.heap [] := va_S.rf
  have hl : lv_has ls 3 [(0, .ref (ad h))] := hl
  refine lv_iconst (v := nI 0) hx hb dX5_ownRegisters_0 (by decide) ?_
  refine lv_istore_n (lv' := [(1, .int (nI 0)), (0, .ref (ad h))]) hx hb dX5_ownRegisters_1 rfl hl (by decide) rfl (fun ls hl => ?_)
  refine lv_iconst (v := nI 0) hx hb dX5_ownRegisters_2 (by decide) ?_
  refine lv_istore_n (lv' := [(2, .int (nI 0)), (1, .int (nI 0)), (0, .ref (ad h))]) hx hb dX5_ownRegisters_3 rfl hl (by decide) rfl (fun ls hl => ?_)
  have hL4_1 : ∀ (d : Nat) (j : Nat) (a : Int32) (H : Heap) (locs : List Loc) (ls : Array Slot), 5 < j + d → (j ≤ 5) → (a = orF (nI 0) (fun e => if thr n e then rgA (I (h + 3 + e) 0) (I (h + 3 + e) 2) else nI 0) j) → Hp E K L ad I H → va_S (AG E) s.heap H locs → lv_has ls 3 [(0, .ref (ad h)), (1, .int a), (2, .int (nI j))] → W p l e (rmk 2) s m args below meth c H locs 0 0 Qf (F0 m 4 ls []) := by
    intro d
    induction d with
    | zero => intro j a H locs ls hd hj ha _ _ _; exact absurd hd (by omega)
    | succ d ih =>
      intro j a H locs ls hd hj ha hP hS hl
      refine lv_iload_n hx hb dX5_ownRegisters_4 rfl (lv_at hl 2 rfl) ?_
      refine lv_iconst (v := nI 4) hx hb dX5_ownRegisters_5 (by decide) ?_
      refine b_gtN C (by omega) (by omega) dX5_ownRegisters_6 (tgt := 39) (by decide) (fun h2 => ?_) (fun h2 => ?_)
      · refine lv_iload_n hx hb dX5_ownRegisters_39 rfl (lv_at hl 1 rfl) ?_
        exact hret _ _ _ _ _ _ dX5_ownRegisters_40 hP hS (⟨rfl, by rw [rgT]; rw [ha, show j = 5 by omega]⟩)
      · refine lv_iload_n hx hb dX5_ownRegisters_9 rfl (lv_at hl 1 rfl) ?_
        refine lv_aload_n hx hb dX5_ownRegisters_10 rfl (lv_at hl 0 rfl) ?_
        refine lv_iload_n hx hb dX5_ownRegisters_11 rfl (lv_at hl 2 rfl) ?_
        refine k_X5_43 C hP hS (by assumption) (c_X5_isUsed h n j (by assumption) he hn (by omega)) ⟨Nat.le_of_ble_eq_true rfl, Nat.le_of_ble_eq_true rfl⟩ ⟨Nat.zero_le _, Nat.zero_le _⟩ hl.1 (Nat.le_of_ble_eq_true rfl) dX5_ownRegisters_12 (fun v3 I4 H locs hv5 hP hS => ?_)
        obtain ⟨eI4, hv5⟩ := hv5
        rw [eI4] at hP
        clear eI4
        rcases hv5 with ⟨rfl, hc6⟩ | ⟨rfl, hc6⟩
        · refine z_eq1 C dX5_ownRegisters_15 (tgt := 30) (by decide) ?_
          refine lv_aload_n hx hb dX5_ownRegisters_18 rfl (lv_at hl 0 rfl) ?_
          refine f_X5_17 (q := h + 2) C hP (by assumption) (by assumption) rfl dX5_ownRegisters_19 ?_
          refine lv_iload_n hx hb dX5_ownRegisters_22 rfl (lv_at hl 2 rfl) ?_
          refine r_ald11 (q := h + 3 + j) C hP (by assumption) (by first | assumption | exact hLa _ (by omega)) (by omega) (by omega) dX5_ownRegisters_23 ?_
          have hkj := hKa j (by omega)
          refine k_X5_54 C hP hS (by assumption) (c_X0_ownRegisters (h + 3 + j) (by assumption)) ⟨Nat.le_of_ble_eq_true rfl, Nat.le_of_ble_eq_true rfl⟩ ⟨Nat.zero_le _, Nat.zero_le _⟩ hl.1 (Nat.le_of_ble_eq_true rfl) dX5_ownRegisters_24 (fun v7 I8 H locs hv9 hP hS => ?_)
          obtain ⟨eI8, ev7⟩ := hv9
          rw [eI8] at hP
          clear eI8
          refine lv_goto (tgt := 31) hx hb dX5_ownRegisters_27 (by decide) ?_
          refine lv_ior hx hb dX5_ownRegisters_31 ?_
          refine lv_topi (fun x10 ex10 => ?_)
          refine lv_istore_n (lv' := [(1, .int x10), (0, .ref (ad h)), (2, .int (nI j))]) hx hb dX5_ownRegisters_32 rfl hl (by decide) rfl (fun ls hl => ?_)
          refine lv_iinc (v := nI (j + 1)) (lv' := [(2, .int (nI (j + 1))), (1, .int x10), (0, .ref (ad h))]) hx hb dX5_ownRegisters_33 hl (k := 2) rfl (nI_1 _) (by decide) rfl (fun ls hl => ?_)
          refine lv_goto (tgt := 4) hx hb dX5_ownRegisters_36 (by decide) ?_
          exact ih (j + 1) x10 _ _ _ (by omega) (by omega) (by simp only [orF]; rw [ex10, ha]; first | (rw [if_pos (by assumption)]; subst_vars; rfl) | (rw [if_neg (by assumption)])) hP hS (lv_sub hl [2, 1, 0] rfl)
        · refine z_eq0 C dX5_ownRegisters_15 (tgt := 30) (by decide) ?_
          refine lv_iconst (v := nI 0) hx hb dX5_ownRegisters_30 (by decide) ?_
          refine lv_ior hx hb dX5_ownRegisters_31 ?_
          refine lv_topi (fun x11 ex11 => ?_)
          refine lv_istore_n (lv' := [(1, .int x11), (0, .ref (ad h)), (2, .int (nI j))]) hx hb dX5_ownRegisters_32 rfl hl (by decide) rfl (fun ls hl => ?_)
          refine lv_iinc (v := nI (j + 1)) (lv' := [(2, .int (nI (j + 1))), (1, .int x11), (0, .ref (ad h))]) hx hb dX5_ownRegisters_33 hl (k := 2) rfl (nI_1 _) (by decide) rfl (fun ls hl => ?_)
          refine lv_goto (tgt := 4) hx hb dX5_ownRegisters_36 (by decide) ?_
          exact ih (j + 1) x11 _ _ _ (by omega) (by omega) (by simp only [orF]; rw [ex11, ha]; first | (rw [if_pos (by assumption)]; subst_vars; rfl) | (rw [if_neg (by assumption)])) hP hS (lv_sub hl [2, 1, 0] rfl)
  exact hL4_1 (5 + 1) 0 ((nI 0)) _ _ _ (by omega) (by omega) (rfl) hP hS (lv_sub hl [2, 1, 0] rfl)
set_option maxHeartbeats 4000000 in
set_option maxRecDepth 100000 in
theorem c_X5_copy {l : Launch} {E : En} {K : Nat → Nat} {L : Nat → Nat → Bool} {ad : Nat → Nat} {I : Nat → Nat → Int32} (h q : Nat) (hT : IsT K L h) (hU : IsT K L q) (hqd : h + 8 ≤ q ∨ q + 8 ≤ h) : MV l E K L ad I yX5_copy cX5_copy 3 1 [.ref (ad h), .ref (ad q)] (fun J => CT I J h q 5) := by
  obtain ⟨hk, hl2, hl3, hk1, hk2, hLa, hKa⟩ := hT
  obtain ⟨gk, gl2, gl3, gk1, gk2, gLa, gKa⟩ := hU
  refine MV.of (by decide) (Nat.le_of_ble_eq_true rfl) ?_
  intro p e s m args below meth c ls Qf C hret hP hl
  have C : Cx E p s m args c cX5_copy RX5 3 := C
  have hx := C.1
  have hb := C.2.1
  have hS : va_S (AG E) s.heap s.heap [] := va_S.rf
  have hl : lv_has ls 3 [(0, .ref (ad h)), (1, .ref (ad q))] := hl
  refine lv_aload_n hx hb dX5_copy_0 rfl (lv_at hl 0 rfl) ?_
  refine lv_aload_n hx hb dX5_copy_1 rfl (lv_at hl 1 rfl) ?_
  refine f_X5_22 C hP (by first | assumption | exact hKa _ (by omega)) dX5_copy_2 ?_
  refine p_X5_22 C hP hS (by assumption) dX5_copy_5 (fun H locs hP hS => ?_)
  obtain ⟨I1, eI1⟩ : ∃ Z : Nat → Nat → Int32, Z = up2 I h 0 (I q 0) := ⟨_, rfl⟩
  rw [← eI1] at hP
  refine lv_aload_n hx hb dX5_copy_8 rfl (lv_at hl 0 rfl) ?_
  refine lv_aload_n hx hb dX5_copy_9 rfl (lv_at hl 1 rfl) ?_
  refine f_X5_26 C hP (by first | assumption | exact hKa _ (by omega)) dX5_copy_10 ?_
  refine p_X5_26 C hP hS (by assumption) dX5_copy_13 (fun H locs hP hS => ?_)
  obtain ⟨I2, eI2⟩ : ∃ Z : Nat → Nat → Int32, Z = up2 I1 h 1 (I1 q 1) := ⟨_, rfl⟩
  rw [← eI2] at hP
  refine lv_aload_n hx hb dX5_copy_16 rfl (lv_at hl 1 rfl) ?_
  refine f_X5_9 (q := q + 1) C hP (by assumption) (by assumption) rfl dX5_copy_17 ?_
  refine lv_iconst (v := nI 0) hx hb dX5_copy_20 (by decide) ?_
  refine lv_aload_n hx hb dX5_copy_21 rfl (lv_at hl 0 rfl) ?_
  refine f_X5_9 (q := h + 1) C hP (by assumption) (by assumption) rfl dX5_copy_22 ?_
  refine lv_iconst (v := nI 0) hx hb dX5_copy_25 (by decide) ?_
  refine lv_iconst (v := nI 4) hx hb dX5_copy_26 (by decide) ?_
  refine r_acp (n0 := 4) (n1 := 4) C hP hS (by assumption) (by assumption) (by decide) (by decide) (by decide) tm_X5_33 (Nat.le_of_ble_eq_true rfl) (Nat.le_of_ble_eq_true rfl) hl.1 dX5_copy_27 (fun H locs hP hS => ?_)
  obtain ⟨I3, eI3⟩ : ∃ Z : Nat → Nat → Int32, Z = cpy2 I2 (h + 1) (q + 1) 4 := ⟨_, rfl⟩
  rw [← eI3] at hP
  refine lv_iconst (v := nI 0) hx hb dX5_copy_30 (by decide) ?_
  refine lv_istore_n (lv' := [(2, .int (nI 0)), (0, .ref (ad h)), (1, .ref (ad q))]) hx hb dX5_copy_31 rfl hl (by decide) rfl (fun ls hl => ?_)
  have hL32_4 : ∀ (d : Nat) (j : Nat) (J : Nat → Nat → Int32) (H : Heap) (locs : List Loc) (ls : Array Slot), 5 < j + d → (j ≤ 5) → (CT I J h q j) → Hp E K L ad J H → va_S (AG E) s.heap H locs → lv_has ls 3 [(0, .ref (ad h)), (1, .ref (ad q)), (2, .int (nI j))] → W p l e (rmk 1) s m args below meth c H locs 0 0 Qf (F0 m 32 ls []) := by
    intro d
    induction d with
    | zero => intro j J H locs ls hd hj hc _ _ _; exact absurd hd (by omega)
    | succ d ih =>
      intro j J H locs ls hd hj hc hP hS hl
      refine lv_iload_n hx hb dX5_copy_32 rfl (lv_at hl 2 rfl) ?_
      refine lv_iconst (v := nI 4) hx hb dX5_copy_33 (by decide) ?_
      refine b_gtN C (by omega) (by omega) dX5_copy_34 (tgt := 58) (by decide) (fun h5 => ?_) (fun h5 => ?_)
      · exact hret _ _ _ _ _ dX5_copy_58 hP hS (by rw [show (5 : Nat) = j by omega]; exact hc)
      · refine lv_aload_n hx hb dX5_copy_37 rfl (lv_at hl 0 rfl) ?_
        refine f_X5_17 (q := h + 2) C hP (by assumption) (by assumption) rfl dX5_copy_38 ?_
        refine lv_iload_n hx hb dX5_copy_41 rfl (lv_at hl 2 rfl) ?_
        refine r_ald11 (q := h + 3 + j) C hP (by assumption) (by first | exact hLa _ (by omega) | exact gLa _ (by omega)) (by omega) (by omega) dX5_copy_42 ?_
        refine lv_aload_n hx hb dX5_copy_43 rfl (lv_at hl 1 rfl) ?_
        refine f_X5_17 (q := q + 2) C hP (by assumption) (by assumption) rfl dX5_copy_44 ?_
        refine lv_iload_n hx hb dX5_copy_47 rfl (lv_at hl 2 rfl) ?_
        refine r_ald11 (q := q + 3 + j) C hP (by assumption) (by first | exact hLa _ (by omega) | exact gLa _ (by omega)) (by omega) (by omega) dX5_copy_48 ?_
        have hkj := hKa j (by omega)
        have gkj := gKa j (by omega)
        refine k_X5_39 C hP hS (by assumption) (c_X0_copy (h + 3 + j) (q + 3 + j) (by assumption) (by assumption) (by omega)) ⟨Nat.le_of_ble_eq_true rfl, Nat.le_of_ble_eq_true rfl⟩ ⟨Nat.zero_le _, Nat.zero_le _⟩ hl.1 (Nat.le_of_ble_eq_true rfl) dX5_copy_49 (fun I7 H locs hv8 hP hS => ?_)
        have eI7 := hv8
        refine lv_iinc (v := nI (j + 1)) (lv' := [(2, .int (nI (j + 1))), (0, .ref (ad h)), (1, .ref (ad q))]) hx hb dX5_copy_52 hl (k := 2) rfl (nI_1 _) (by decide) rfl (fun ls hl => ?_)
        refine lv_goto (tgt := 32) hx hb dX5_copy_55 (by decide) ?_
        exact ih (j + 1) I7 _ _ _ (by omega) (by omega) (by rw [eI7]; exact CT_s hc (by omega) hqd) hP hS (lv_sub hl [1, 2, 0] rfl)
  exact hL32_4 (5 + 1) 0 I3 _ _ _ (by omega) (by omega) (by subst_vars; refine ⟨fun a h0 h1 h2 => ?_, ?_, ?_, fun i hi => ?_, fun i hi => absurd hi (Nat.not_lt_zero i)⟩ <;> first | (rw [cpy2_r h1, up2_r h0, up2_r h0]) | (rw [cpy2_r (by omega), up2_k (by decide), up2_s]) | (rw [cpy2_r (by omega), up2_s, up2_r (by omega)]) | (rw [cpy2_s hi, up2_r (by omega), up2_r (by omega)])) hP hS (lv_sub hl [1, 2, 0] rfl)
set_option maxHeartbeats 4000000 in
set_option maxRecDepth 100000 in
theorem c_X5_addEntry {l : Launch} {E : En} {K : Nat → Nat} {L : Nat → Nat → Bool} {ad : Nat → Nat} {I : Nat → Nat → Int32} (h n : Nat) (v k t x : Int32) (hT : IsT K L h) (he : I h 1 = nI n) (hn : n < 4) : MI l E K L ad I yX5_addEntry cX5_addEntry 5 (some .int) 2 [.ref (ad h), .int v, .int k, .int t, .int x] (fun r J => J = up2 (set3 (up2 I (h + 1) n v) (h + 3 + n) k (mq k t) (mq k x)) h 1 (nI (n + 1)) ∧ r = nI (n + 1)) := by
  obtain ⟨hk, hl2, hl3, hk1, hk2, hLa, hKa⟩ := hT
  have hkn := hKa n (by omega)
  refine MI.of (by decide) (Nat.le_of_ble_eq_true rfl) ?_
  intro p e s m args below meth c ls Qf C hret hP hl
  have C : Cx E p s m args c cX5_addEntry RX5 5 := C
  have hx := C.1
  have hb := C.2.1
  have hS : va_S (AG E) s.heap s.heap [] := va_S.rf
  have hl : lv_has ls 5 [(0, .ref (ad h)), (1, .int v), (2, .int k), (3, .int t), (4, .int x)] := hl
  refine lv_aload_n hx hb dX5_addEntry_0 rfl (lv_at hl 0 rfl) ?_
  refine f_X5_9 (q := h + 1) C hP (by assumption) (by assumption) rfl dX5_addEntry_1 ?_
  refine lv_aload_n hx hb dX5_addEntry_4 rfl (lv_at hl 0 rfl) ?_
  refine f_X5_26 C hP (by first | assumption | exact hKa _ (by omega)) dX5_addEntry_5 ?_
  refine r_eqi (y := (nI n)) (he) ?_
  refine lv_iload_n hx hb dX5_addEntry_8 rfl (lv_at hl 1 rfl) ?_
  refine r_iast (n := 4) C hP hS (by assumption) (by omega) (by decide) dX5_addEntry_9 (fun H locs hP hS => ?_)
  obtain ⟨I1, eI1⟩ : ∃ Z : Nat → Nat → Int32, Z = up2 I (h + 1) n v := ⟨_, rfl⟩
  rw [← eI1] at hP
  refine lv_aload_n hx hb dX5_addEntry_10 rfl (lv_at hl 0 rfl) ?_
  refine f_X5_17 (q := h + 2) C hP (by assumption) (by assumption) rfl dX5_addEntry_11 ?_
  refine lv_aload_n hx hb dX5_addEntry_14 rfl (lv_at hl 0 rfl) ?_
  refine f_X5_26 C hP (by first | assumption | exact hKa _ (by omega)) dX5_addEntry_15 ?_
  refine r_eqi (y := (nI n)) (by rw [eI1, up2_r (by omega)]; exact he) ?_
  refine r_ald11 (q := h + 3 + n) C hP (by assumption) (by first | assumption | exact hLa _ (by omega)) (by omega) (by omega) dX5_addEntry_18 ?_
  refine lv_iload_n hx hb dX5_addEntry_19 rfl (lv_at hl 2 rfl) ?_
  refine lv_iload_n hx hb dX5_addEntry_20 rfl (lv_at hl 3 rfl) ?_
  refine lv_iload hx hb dX5_addEntry_21 (lv_at hl 4 rfl) ?_
  refine k_X5_29 C hP hS (by assumption) (c_X0_become (h + 3 + n) k t x (by assumption)) ⟨Nat.le_of_ble_eq_true rfl, Nat.le_of_ble_eq_true rfl⟩ ⟨Nat.zero_le _, Nat.zero_le _⟩ hl.1 (Nat.le_of_ble_eq_true rfl) dX5_addEntry_23 (fun I3 H locs hv4 hP hS => ?_)
  have eI3 := hv4
  refine lv_aload_n hx hb dX5_addEntry_26 rfl (lv_at hl 0 rfl) ?_
  refine lv_dup hx hb dX5_addEntry_27 rfl ?_
  refine f_X5_26 C hP (by first | assumption | exact hKa _ (by omega)) dX5_addEntry_28 ?_
  refine r_eqi (y := (nI n)) (by rw [eI3, set3_r (by omega)]; subst_vars; rw [up2_r (by omega)]; exact he) ?_
  refine lv_iconst (v := nI 1) hx hb dX5_addEntry_31 (by decide) ?_
  refine r_addN C dX5_addEntry_32 ?_
  refine p_X5_26 C hP hS (by assumption) dX5_addEntry_33 (fun H locs hP hS => ?_)
  obtain ⟨I5, eI5⟩ : ∃ Z : Nat → Nat → Int32, Z = up2 I3 h 1 (nI (n + 1)) := ⟨_, rfl⟩
  rw [← eI5] at hP
  refine lv_aload_n hx hb dX5_addEntry_36 rfl (lv_at hl 0 rfl) ?_
  refine f_X5_26 C hP (by first | assumption | exact hKa _ (by omega)) dX5_addEntry_37 ?_
  refine r_eqi (y := (nI (n + 1))) (by rw [eI5, up2_s]) ?_
  exact hret _ _ _ _ _ _ dX5_addEntry_40 hP hS (⟨by subst_vars; rfl, rfl⟩)
set_option maxHeartbeats 4000000 in
set_option maxRecDepth 100000 in
theorem c_X5_removeEntry {l : Launch} {E : En} {K : Nat → Nat} {L : Nat → Nat → Bool} {ad : Nat → Nat} {I : Nat → Nat → Int32} (h n e0 : Nat) (hT : IsT K L h) (he : I h 1 = nI n) (hn : n ≤ 4) (he0 : e0 < n) : MI l E K L ad I yX5_removeEntry cX5_removeEntry 3 (some .int) 1 [.ref (ad h), .int (nI e0)] (fun r J => (∃ J0, J = up2 J0 h 1 (nI (n - 1)) ∧ RE I J0 h e0 (n - 1)) ∧ r = nI (n - 1)) := by
  obtain ⟨hk, hl2, hl3, hk1, hk2, hLa, hKa⟩ := hT
  refine MI.of (by decide) (Nat.le_of_ble_eq_true rfl) ?_
  intro p e s m args below meth c ls Qf C hret hP hl
  have C : Cx E p s m args c cX5_removeEntry RX5 3 := C
  have hx := C.1
  have hb := C.2.1
  have hS : va_S (AG E) s.heap s.heap [] := va_S.rf
  have hl : lv_has ls 3 [(0, .ref (ad h)), (1, .int (nI e0))] := hl
  refine lv_iload_n hx hb dX5_removeEntry_0 rfl (lv_at hl 1 rfl) ?_
  refine lv_istore_n (lv' := [(2, .int (nI e0)), (0, .ref (ad h)), (1, .int (nI e0))]) hx hb dX5_removeEntry_1 rfl hl (by decide) rfl (fun ls hl => ?_)
  have hL2_1 : ∀ (d : Nat) (j : Nat) (J : Nat → Nat → Int32) (H : Heap) (locs : List Loc) (ls : Array Slot), n < j + d → (e0 ≤ j) → (j < n) → (RE I J h e0 j) → Hp E K L ad J H → va_S (AG E) s.heap H locs → lv_has ls 3 [(0, .ref (ad h)), (2, .int (nI j))] → W p l e (rmk 1) s m args below meth c H locs 0 0 Qf (F0 m 2 ls []) := by
    intro d
    induction d with
    | zero => intro j J H locs ls hd h0 hj hc _ _ _; exact absurd hd (by omega)
    | succ d ih =>
      intro j J H locs ls hd h0 hj hc hP hS hl
      have hJ1 : J h 1 = nI n := by rw [hc.1 h (by omega) (fun e _ => by omega)]; exact he
      refine lv_iload_n hx hb dX5_removeEntry_2 rfl (lv_at hl 1 rfl) ?_
      refine lv_iconst (v := nI 1) hx hb dX5_removeEntry_3 (by decide) ?_
      refine r_addN C dX5_removeEntry_4 ?_
      refine lv_aload_n hx hb dX5_removeEntry_5 rfl (lv_at hl 0 rfl) ?_
      refine f_X5_26 C hP (by first | assumption | exact hKa _ (by omega)) dX5_removeEntry_6 ?_
      refine r_eqi (y := (nI n)) (hJ1) ?_
      refine b_geN C (by omega) (by omega) dX5_removeEntry_9 (tgt := 49) (by decide) (fun h2 => ?_) (fun h2 => ?_)
      · refine lv_aload_n hx hb dX5_removeEntry_49 rfl (lv_at hl 0 rfl) ?_
        refine lv_dup hx hb dX5_removeEntry_50 rfl ?_
        refine f_X5_26 C hP (by first | assumption | exact hKa _ (by omega)) dX5_removeEntry_51 ?_
        refine r_eqi (y := (nI n)) (hJ1) ?_
        refine lv_iconst (v := nI 1) hx hb dX5_removeEntry_54 (by decide) ?_
        refine r_subN C (by omega) dX5_removeEntry_55 ?_
        refine p_X5_26 C hP hS (by assumption) dX5_removeEntry_56 (fun H locs hP hS => ?_)
        obtain ⟨I3, eI3⟩ : ∃ Z : Nat → Nat → Int32, Z = up2 J h 1 (nI (n - 1)) := ⟨_, rfl⟩
        rw [← eI3] at hP
        refine lv_aload_n hx hb dX5_removeEntry_59 rfl (lv_at hl 0 rfl) ?_
        refine f_X5_26 C hP (by first | assumption | exact hKa _ (by omega)) dX5_removeEntry_60 ?_
        refine r_eqi (y := (nI (n - 1))) (by rw [eI3, up2_s]) ?_
        exact hret _ _ _ _ _ _ dX5_removeEntry_63 hP hS (⟨⟨J, by assumption, by rw [show n - 1 = j by omega]; exact hc⟩, rfl⟩)
      · refine lv_aload_n hx hb dX5_removeEntry_12 rfl (lv_at hl 0 rfl) ?_
        refine f_X5_9 (q := h + 1) C hP (by assumption) (by assumption) rfl dX5_removeEntry_13 ?_
        refine lv_iload_n hx hb dX5_removeEntry_16 rfl (lv_at hl 1 rfl) ?_
        refine lv_aload_n hx hb dX5_removeEntry_17 rfl (lv_at hl 0 rfl) ?_
        refine f_X5_9 (q := h + 1) C hP (by assumption) (by assumption) rfl dX5_removeEntry_18 ?_
        refine lv_iload_n hx hb dX5_removeEntry_21 rfl (lv_at hl 1 rfl) ?_
        refine lv_iconst (v := nI 1) hx hb dX5_removeEntry_22 (by decide) ?_
        refine r_addN C dX5_removeEntry_23 ?_
        refine r_iald (n := 4) C hP (by assumption) (by omega) (by decide) dX5_removeEntry_24 ?_
        refine r_iast (n := 4) C hP hS (by assumption) (by omega) (by decide) dX5_removeEntry_25 (fun H locs hP hS => ?_)
        obtain ⟨I4, eI4⟩ : ∃ Z : Nat → Nat → Int32, Z = up2 J (h + 1) j (J (h + 1) (j + 1)) := ⟨_, rfl⟩
        rw [← eI4] at hP
        refine lv_aload_n hx hb dX5_removeEntry_26 rfl (lv_at hl 0 rfl) ?_
        refine f_X5_17 (q := h + 2) C hP (by assumption) (by assumption) rfl dX5_removeEntry_27 ?_
        refine lv_iload_n hx hb dX5_removeEntry_30 rfl (lv_at hl 1 rfl) ?_
        refine r_ald11 (q := h + 3 + j) C hP (by assumption) (by first | assumption | exact hLa _ (by omega)) (by omega) (by omega) dX5_removeEntry_31 ?_
        refine lv_aload_n hx hb dX5_removeEntry_32 rfl (lv_at hl 0 rfl) ?_
        refine f_X5_17 (q := h + 2) C hP (by assumption) (by assumption) rfl dX5_removeEntry_33 ?_
        refine lv_iload_n hx hb dX5_removeEntry_36 rfl (lv_at hl 1 rfl) ?_
        refine lv_iconst (v := nI 1) hx hb dX5_removeEntry_37 (by decide) ?_
        refine r_addN C dX5_removeEntry_38 ?_
        refine r_ald11 (q := h + 3 + (j + 1)) C hP (by assumption) (by first | assumption | exact hLa _ (by omega)) (by omega) (by omega) dX5_removeEntry_39 ?_
        have hkj := hKa j (by omega)
        have gkj := hKa (j + 1) (by omega)
        refine k_X5_39 C hP hS (by assumption) (c_X0_copy (h + 3 + j) (h + 3 + (j + 1)) (by assumption) (by assumption) (by omega)) ⟨Nat.le_of_ble_eq_true rfl, Nat.le_of_ble_eq_true rfl⟩ ⟨Nat.zero_le _, Nat.zero_le _⟩ hl.1 (Nat.le_of_ble_eq_true rfl) dX5_removeEntry_40 (fun I6 H locs hv7 hP hS => ?_)
        have eI6 := hv7
        refine lv_iinc (v := nI (j + 1)) (lv' := [(2, .int (nI (j + 1))), (0, .ref (ad h))]) hx hb dX5_removeEntry_43 hl (k := 1) rfl (nI_1 _) (by decide) rfl (fun ls hl => ?_)
        refine lv_goto (tgt := 2) hx hb dX5_removeEntry_46 (by decide) ?_
        exact ih (j + 1) I6 _ _ _ (by omega) (by omega) (by omega) (by have := RE_s hc h0 (by omega); rw [eI6]; subst_vars; rw [up2_r (by omega)]; exact this) hP hS (lv_sub hl [1, 0] rfl)
  exact hL2_1 (n + 1) e0 I _ _ _ (by omega) (Nat.le_refl _) (by omega) (RE_0 _ _ _) hP hS (lv_sub hl [1, 0] rfl)
set_option maxHeartbeats 4000000 in
set_option maxRecDepth 100000 in
theorem c_X5_partOfAct {l : Launch} {E : En} {K : Nat → Nat} {L : Nat → Nat → Bool} {ad : Nat → Nat} {I : Nat → Nat → Int32} (h n : Nat) (x : Int32) (hT : IsT K L h) (he : I h 1 = nI n) (hn : n ≤ 4) : MI l E K L ad I yX5_partOfAct cX5_partOfAct 5 (some .int) 0 [.ref (ad h), .int x] (fun r J => J = I ∧ r = prt n (I (h + 1)) (fun e => I (h + 3 + e)) x) := by
  obtain ⟨hk, hl2, hl3, hk1, hk2, hLa, hKa⟩ := hT
  refine MI.of (by decide) (Nat.le_of_ble_eq_true rfl) ?_
  intro p e s m args below meth c ls Qf C hret hP hl
  have C : Cx E p s m args c cX5_partOfAct RX5 5 := C
  have hx := C.1
  have hb := C.2.1
  have hS : va_S (AG E) s.heap s.heap [] := va_S.rf
  have hl : lv_has ls 5 [(0, .ref (ad h)), (1, .int x)] := hl
  rcases w_split x n hn with ⟨i, hi, ex⟩ | ⟨i, hi, ex⟩ | ⟨hA, hB⟩
  · rw [ex] at hl
    rw [ex, show @prt n _ _ (nI (i + 10)) = _ from prt_A hn hi] at hret
    refine lv_iload_n hx hb dX5_partOfAct_0 rfl (lv_at hl 1 rfl) ?_
    refine lv_bipush (v := nI 10) hx hb dX5_partOfAct_1 (by decide) ?_
    refine b_ltN C (by omega) (by omega) dX5_partOfAct_3 (tgt := 23) (by decide) (fun h1 => ?_) (fun h1 => ?_)
    · exact absurd h1 (by omega)
    · refine lv_iload_n hx hb dX5_partOfAct_6 rfl (lv_at hl 1 rfl) ?_
      refine lv_bipush (v := nI 10) hx hb dX5_partOfAct_7 (by decide) ?_
      refine lv_iconst (v := nI 4) hx hb dX5_partOfAct_9 (by decide) ?_
      refine lv_aload_n hx hb dX5_partOfAct_10 rfl (lv_at hl 0 rfl) ?_
      refine f_X5_26 C hP (by first | assumption | exact hKa _ (by omega)) dX5_partOfAct_11 ?_
      refine r_eqi (y := (nI n)) (he) ?_
      refine r_mulN C dX5_partOfAct_14 ?_
      refine r_addN C dX5_partOfAct_15 ?_
      refine b_geN C (by omega) (by omega) dX5_partOfAct_16 (tgt := 23) (by decide) (fun h2 => ?_) (fun h2 => ?_)
      · exact absurd h2 (by omega)
      · refine lv_iconst (v := nI 1) hx hb dX5_partOfAct_19 (by decide) ?_
        refine lv_goto (tgt := 24) hx hb dX5_partOfAct_20 (by decide) ?_
        refine lv_istore_n (lv' := [(2, .int (nI 1)), (0, .ref (ad h)), (1, .int (nI (i + 10)))]) hx hb dX5_partOfAct_24 rfl hl (by decide) rfl (fun ls hl => ?_)
        refine lv_iload_n hx hb dX5_partOfAct_25 rfl (lv_at hl 2 rfl) ?_
        refine lv_bipush (v := nI 31) hx hb dX5_partOfAct_26 (by decide) ?_
        refine b_ltN C (by omega) (by omega) dX5_partOfAct_28 (tgt := 41) (by decide) (fun h3 => ?_) (fun h3 => ?_)
        · refine lv_iconst (v := nI 0) hx hb dX5_partOfAct_41 (by decide) ?_
          refine lv_istore_n (lv' := [(3, .int (nI 0)), (2, .int (nI 1)), (0, .ref (ad h)), (1, .int (nI (i + 10)))]) hx hb dX5_partOfAct_42 rfl hl (by decide) rfl (fun ls hl => ?_)
          refine lv_iload_n hx hb dX5_partOfAct_43 rfl (lv_at hl 1 rfl) ?_
          refine r_eqi (y := 1) rfl ?_
          refine z_ne1 C dX5_partOfAct_44 (tgt := 54) (by decide) ?_
          refine lv_iload_n hx hb dX5_partOfAct_54 rfl (lv_at hl 1 rfl) ?_
          refine r_eqi (y := 1) rfl ?_
          refine z_eq1 C dX5_partOfAct_55 (tgt := 67) (by decide) ?_
          refine lv_iload_n hx hb dX5_partOfAct_58 rfl (lv_at hl 3 rfl) ?_
          refine lv_bipush (v := nI 10) hx hb dX5_partOfAct_59 (by decide) ?_
          refine r_subN C (by omega) dX5_partOfAct_61 ?_
          refine lv_iconst (v := nI 4) hx hb dX5_partOfAct_62 (by decide) ?_
          refine r_divN C (by omega) (by decide) (by decide) dX5_partOfAct_63 ?_
          refine lv_goto (tgt := 68) hx hb dX5_partOfAct_64 (by decide) ?_
          refine lv_istore (lv' := [(4, .int (nI (((i + 10) - 10) / 4))), (3, .int (nI 0)), (2, .int (nI 1)), (0, .ref (ad h)), (1, .int (nI (i + 10)))]) hx hb dX5_partOfAct_68 hl (by decide) rfl (fun ls hl => ?_)
          refine lv_iload_n hx hb dX5_partOfAct_70 rfl (lv_at hl 4 rfl) ?_
          refine lv_bipush (v := nI 10) hx hb dX5_partOfAct_71 (by decide) ?_
          refine r_subN C (by omega) dX5_partOfAct_73 ?_
          refine lv_iconst (v := nI 4) hx hb dX5_partOfAct_74 (by decide) ?_
          refine r_remN C (by omega) (by decide) (by decide) dX5_partOfAct_75 ?_
          by_cases sw4 : ((i + 10) - 10) % 4 = 0
          · refine sw_in (k := 0) C dX5_partOfAct_76 (by rw [nI_toInt (by omega)]; omega) (by decide) (by decide) (off := 28) (by decide) (tgt := 104) (by decide) ?_
            refine lv_aload_n hx hb dX5_partOfAct_104 rfl (lv_at hl 3 rfl) ?_
            refine f_X5_9 (q := h + 1) C hP (by assumption) (by assumption) rfl dX5_partOfAct_105 ?_
            refine lv_iload hx hb dX5_partOfAct_108 (lv_at hl 0 rfl) ?_
            refine r_iald (n := 4) C hP (by assumption) (by omega) (by decide) dX5_partOfAct_110 ?_
            exact hret _ _ _ _ _ _ dX5_partOfAct_111 hP hS (⟨rfl, by simp only [Nat.add_sub_cancel] at *; simp [pick, *]⟩)
          · by_cases sw5 : ((i + 10) - 10) % 4 = 1
            · refine sw_in (k := 1) C dX5_partOfAct_76 (by rw [nI_toInt (by omega)]; omega) (by decide) (by decide) (off := 36) (by decide) (tgt := 112) (by decide) ?_
              refine lv_aload_n hx hb dX5_partOfAct_112 rfl (lv_at hl 3 rfl) ?_
              refine f_X5_17 (q := h + 2) C hP (by assumption) (by assumption) rfl dX5_partOfAct_113 ?_
              refine lv_iload hx hb dX5_partOfAct_116 (lv_at hl 0 rfl) ?_
              refine r_ald11 (q := h + 3 + (((i + 10) - 10) / 4)) C hP (by assumption) (by first | assumption | exact hLa _ (by omega)) (by omega) (by omega) dX5_partOfAct_118 ?_
              refine f_X5_57 C hP (by first | assumption | exact hKa _ (by omega)) dX5_partOfAct_119 ?_
              exact hret _ _ _ _ _ _ dX5_partOfAct_122 hP hS (⟨rfl, by simp only [Nat.add_sub_cancel] at *; simp [pick, *]⟩)
            · by_cases sw6 : ((i + 10) - 10) % 4 = 2
              · refine sw_in (k := 2) C dX5_partOfAct_76 (by rw [nI_toInt (by omega)]; omega) (by decide) (by decide) (off := 47) (by decide) (tgt := 123) (by decide) ?_
                refine lv_aload_n hx hb dX5_partOfAct_123 rfl (lv_at hl 3 rfl) ?_
                refine f_X5_17 (q := h + 2) C hP (by assumption) (by assumption) rfl dX5_partOfAct_124 ?_
                refine lv_iload hx hb dX5_partOfAct_127 (lv_at hl 0 rfl) ?_
                refine r_ald11 (q := h + 3 + (((i + 10) - 10) / 4)) C hP (by assumption) (by first | assumption | exact hLa _ (by omega)) (by omega) (by omega) dX5_partOfAct_129 ?_
                refine f_X5_60 C hP (by first | assumption | exact hKa _ (by omega)) dX5_partOfAct_130 ?_
                exact hret _ _ _ _ _ _ dX5_partOfAct_133 hP hS (⟨rfl, by simp only [Nat.add_sub_cancel] at *; simp [pick, *]⟩)
              · refine lv_tableOut hx hb dX5_partOfAct_76 (by rw [nI_toInt (by omega)]; omega) (tgt := 134) (by decide) ?_
                refine lv_aload_n hx hb dX5_partOfAct_134 rfl (lv_at hl 3 rfl) ?_
                refine f_X5_17 (q := h + 2) C hP (by assumption) (by assumption) rfl dX5_partOfAct_135 ?_
                refine lv_iload hx hb dX5_partOfAct_138 (lv_at hl 0 rfl) ?_
                refine r_ald11 (q := h + 3 + (((i + 10) - 10) / 4)) C hP (by assumption) (by first | assumption | exact hLa _ (by omega)) (by omega) (by omega) dX5_partOfAct_140 ?_
                refine f_X5_63 C hP (by first | assumption | exact hKa _ (by omega)) dX5_partOfAct_141 ?_
                exact hret _ _ _ _ _ _ dX5_partOfAct_144 hP hS (⟨rfl, by simp only [Nat.add_sub_cancel] at *; simp [pick, *]⟩)
        · exact absurd h3 (by omega)
  · rw [ex] at hl
    rw [ex, show @prt n _ _ (nI (i + 31)) = _ from prt_B hn hi] at hret
    refine lv_iload_n hx hb dX5_partOfAct_0 rfl (lv_at hl 1 rfl) ?_
    refine lv_bipush (v := nI 10) hx hb dX5_partOfAct_1 (by decide) ?_
    refine b_ltN C (by omega) (by omega) dX5_partOfAct_3 (tgt := 23) (by decide) (fun h7 => ?_) (fun h7 => ?_)
    · exact absurd h7 (by omega)
    · refine lv_iload_n hx hb dX5_partOfAct_6 rfl (lv_at hl 1 rfl) ?_
      refine lv_bipush (v := nI 10) hx hb dX5_partOfAct_7 (by decide) ?_
      refine lv_iconst (v := nI 4) hx hb dX5_partOfAct_9 (by decide) ?_
      refine lv_aload_n hx hb dX5_partOfAct_10 rfl (lv_at hl 0 rfl) ?_
      refine f_X5_26 C hP (by first | assumption | exact hKa _ (by omega)) dX5_partOfAct_11 ?_
      refine r_eqi (y := (nI n)) (he) ?_
      refine r_mulN C dX5_partOfAct_14 ?_
      refine r_addN C dX5_partOfAct_15 ?_
      refine b_geN C (by omega) (by omega) dX5_partOfAct_16 (tgt := 23) (by decide) (fun h8 => ?_) (fun h8 => ?_)
      · refine lv_iconst (v := nI 0) hx hb dX5_partOfAct_23 (by decide) ?_
        refine lv_istore_n (lv' := [(2, .int (nI 0)), (0, .ref (ad h)), (1, .int (nI (i + 31)))]) hx hb dX5_partOfAct_24 rfl hl (by decide) rfl (fun ls hl => ?_)
        refine lv_iload_n hx hb dX5_partOfAct_25 rfl (lv_at hl 2 rfl) ?_
        refine lv_bipush (v := nI 31) hx hb dX5_partOfAct_26 (by decide) ?_
        refine b_ltN C (by omega) (by omega) dX5_partOfAct_28 (tgt := 41) (by decide) (fun h9 => ?_) (fun h9 => ?_)
        · exact absurd h9 (by omega)
        · refine lv_iload_n hx hb dX5_partOfAct_31 rfl (lv_at hl 2 rfl) ?_
          refine lv_bipush (v := nI 33) hx hb dX5_partOfAct_32 (by decide) ?_
          refine b_gtN C (by omega) (by omega) dX5_partOfAct_34 (tgt := 41) (by decide) (fun h10 => ?_) (fun h10 => ?_)
          · exact absurd h10 (by omega)
          · refine lv_iconst (v := nI 1) hx hb dX5_partOfAct_37 (by decide) ?_
            refine lv_goto (tgt := 42) hx hb dX5_partOfAct_38 (by decide) ?_
            refine lv_istore_n (lv' := [(3, .int (nI 1)), (2, .int (nI 0)), (0, .ref (ad h)), (1, .int (nI (i + 31)))]) hx hb dX5_partOfAct_42 rfl hl (by decide) rfl (fun ls hl => ?_)
            refine lv_iload_n hx hb dX5_partOfAct_43 rfl (lv_at hl 1 rfl) ?_
            refine r_eqi (y := 0) rfl ?_
            refine z_ne0 C dX5_partOfAct_44 (tgt := 54) (by decide) ?_
            refine lv_iload_n hx hb dX5_partOfAct_47 rfl (lv_at hl 0 rfl) ?_
            refine r_eqi (y := 1) rfl ?_
            refine z_ne1 C dX5_partOfAct_48 (tgt := 54) (by decide) ?_
            refine lv_iload_n hx hb dX5_partOfAct_54 rfl (lv_at hl 1 rfl) ?_
            refine r_eqi (y := 0) rfl ?_
            refine z_eq0 C dX5_partOfAct_55 (tgt := 67) (by decide) ?_
            refine lv_iconst (v := nI 4) hx hb dX5_partOfAct_67 (by decide) ?_
            refine lv_istore (lv' := [(4, .int (nI 4)), (3, .int (nI 1)), (2, .int (nI 0)), (0, .ref (ad h)), (1, .int (nI (i + 31)))]) hx hb dX5_partOfAct_68 hl (by decide) rfl (fun ls hl => ?_)
            refine lv_iload_n hx hb dX5_partOfAct_70 rfl (lv_at hl 4 rfl) ?_
            refine lv_bipush (v := nI 10) hx hb dX5_partOfAct_71 (by decide) ?_
            refine r_subN C (by omega) dX5_partOfAct_73 ?_
            refine lv_iconst (v := nI 4) hx hb dX5_partOfAct_74 (by decide) ?_
            refine r_remN C (by omega) (by decide) (by decide) dX5_partOfAct_75 ?_
            by_cases sw11 : ((i + 31) - 10) % 4 = 0
            · refine sw_in (k := 0) C dX5_partOfAct_76 (by rw [nI_toInt (by omega)]; omega) (by decide) (by decide) (off := 28) (by decide) (tgt := 104) (by decide) ?_
              refine lv_aload_n hx hb dX5_partOfAct_104 rfl (lv_at hl 3 rfl) ?_
              refine f_X5_9 (q := h + 1) C hP (by assumption) (by assumption) rfl dX5_partOfAct_105 ?_
              refine lv_iload hx hb dX5_partOfAct_108 (lv_at hl 0 rfl) ?_
              refine r_iald (n := 4) C hP (by assumption) (by omega) (by decide) dX5_partOfAct_110 ?_
              exact hret _ _ _ _ _ _ dX5_partOfAct_111 hP hS (⟨rfl, by simp only [show i + 31 - 10 = i + 21 by omega] at *; simp [pick, *]⟩)
            · by_cases sw12 : ((i + 31) - 10) % 4 = 1
              · refine sw_in (k := 1) C dX5_partOfAct_76 (by rw [nI_toInt (by omega)]; omega) (by decide) (by decide) (off := 36) (by decide) (tgt := 112) (by decide) ?_
                refine lv_aload_n hx hb dX5_partOfAct_112 rfl (lv_at hl 3 rfl) ?_
                refine f_X5_17 (q := h + 2) C hP (by assumption) (by assumption) rfl dX5_partOfAct_113 ?_
                refine lv_iload hx hb dX5_partOfAct_116 (lv_at hl 0 rfl) ?_
                refine r_ald11 (q := h + 3 + 4) C hP (by assumption) (by first | assumption | exact hLa _ (by omega)) (by omega) (by omega) dX5_partOfAct_118 ?_
                refine f_X5_57 C hP (by first | assumption | exact hKa _ (by omega)) dX5_partOfAct_119 ?_
                exact hret _ _ _ _ _ _ dX5_partOfAct_122 hP hS (⟨rfl, by simp only [show i + 31 - 10 = i + 21 by omega] at *; simp [pick, *]⟩)
              · by_cases sw13 : ((i + 31) - 10) % 4 = 2
                · refine sw_in (k := 2) C dX5_partOfAct_76 (by rw [nI_toInt (by omega)]; omega) (by decide) (by decide) (off := 47) (by decide) (tgt := 123) (by decide) ?_
                  refine lv_aload_n hx hb dX5_partOfAct_123 rfl (lv_at hl 3 rfl) ?_
                  refine f_X5_17 (q := h + 2) C hP (by assumption) (by assumption) rfl dX5_partOfAct_124 ?_
                  refine lv_iload hx hb dX5_partOfAct_127 (lv_at hl 0 rfl) ?_
                  refine r_ald11 (q := h + 3 + 4) C hP (by assumption) (by first | assumption | exact hLa _ (by omega)) (by omega) (by omega) dX5_partOfAct_129 ?_
                  refine f_X5_60 C hP (by first | assumption | exact hKa _ (by omega)) dX5_partOfAct_130 ?_
                  exact hret _ _ _ _ _ _ dX5_partOfAct_133 hP hS (⟨rfl, by simp only [show i + 31 - 10 = i + 21 by omega] at *; simp [pick, *]⟩)
                · refine lv_tableOut hx hb dX5_partOfAct_76 (by rw [nI_toInt (by omega)]; omega) (tgt := 134) (by decide) ?_
                  refine lv_aload_n hx hb dX5_partOfAct_134 rfl (lv_at hl 3 rfl) ?_
                  refine f_X5_17 (q := h + 2) C hP (by assumption) (by assumption) rfl dX5_partOfAct_135 ?_
                  refine lv_iload hx hb dX5_partOfAct_138 (lv_at hl 0 rfl) ?_
                  refine r_ald11 (q := h + 3 + 4) C hP (by assumption) (by first | assumption | exact hLa _ (by omega)) (by omega) (by omega) dX5_partOfAct_140 ?_
                  refine f_X5_63 C hP (by first | assumption | exact hKa _ (by omega)) dX5_partOfAct_141 ?_
                  exact hret _ _ _ _ _ _ dX5_partOfAct_144 hP hS (⟨rfl, by simp only [show i + 31 - 10 = i + 21 by omega] at *; simp [pick, *]⟩)
      · exact absurd h8 (by omega)
  · rw [prt_C hA hB] at hret
    refine lv_iload_n hx hb dX5_partOfAct_0 rfl (lv_at hl 1 rfl) ?_
    refine lv_bipush (v := nI 10) hx hb dX5_partOfAct_1 (by decide) ?_
    refine b_lt C dX5_partOfAct_3 (tgt := 23) (by decide) (fun h14 => ?_) (fun h14 => ?_)
    · rw [nI_toInt (by omega)] at h14
      refine lv_iconst (v := nI 0) hx hb dX5_partOfAct_23 (by decide) ?_
      refine lv_istore_n (lv' := [(2, .int (nI 0)), (0, .ref (ad h)), (1, .int x)]) hx hb dX5_partOfAct_24 rfl hl (by decide) rfl (fun ls hl => ?_)
      refine lv_iload_n hx hb dX5_partOfAct_25 rfl (lv_at hl 2 rfl) ?_
      refine lv_bipush (v := nI 31) hx hb dX5_partOfAct_26 (by decide) ?_
      refine b_lt C dX5_partOfAct_28 (tgt := 41) (by decide) (fun h15 => ?_) (fun h15 => ?_)
      · rw [nI_toInt (by omega)] at h15
        refine lv_iconst (v := nI 0) hx hb dX5_partOfAct_41 (by decide) ?_
        refine lv_istore_n (lv' := [(3, .int (nI 0)), (2, .int (nI 0)), (0, .ref (ad h)), (1, .int x)]) hx hb dX5_partOfAct_42 rfl hl (by decide) rfl (fun ls hl => ?_)
        refine lv_iload_n hx hb dX5_partOfAct_43 rfl (lv_at hl 1 rfl) ?_
        refine r_eqi (y := 0) rfl ?_
        refine z_ne0 C dX5_partOfAct_44 (tgt := 54) (by decide) ?_
        refine lv_iload_n hx hb dX5_partOfAct_47 rfl (lv_at hl 0 rfl) ?_
        refine r_eqi (y := 0) rfl ?_
        refine z_ne0 C dX5_partOfAct_48 (tgt := 54) (by decide) ?_
        refine lv_bipush (v := (-2)) hx hb dX5_partOfAct_51 (by decide) ?_
        exact hret _ _ _ _ _ _ dX5_partOfAct_53 hP hS (⟨rfl, rfl⟩)
      · rw [nI_toInt (by omega)] at h15
        refine lv_iload_n hx hb dX5_partOfAct_31 rfl (lv_at hl 2 rfl) ?_
        refine lv_bipush (v := nI 33) hx hb dX5_partOfAct_32 (by decide) ?_
        refine b_gt C dX5_partOfAct_34 (tgt := 41) (by decide) (fun h16 => ?_) (fun h16 => ?_)
        · rw [nI_toInt (by omega)] at h16
          refine lv_iconst (v := nI 0) hx hb dX5_partOfAct_41 (by decide) ?_
          refine lv_istore_n (lv' := [(3, .int (nI 0)), (2, .int (nI 0)), (0, .ref (ad h)), (1, .int x)]) hx hb dX5_partOfAct_42 rfl hl (by decide) rfl (fun ls hl => ?_)
          refine lv_iload_n hx hb dX5_partOfAct_43 rfl (lv_at hl 1 rfl) ?_
          refine r_eqi (y := 0) rfl ?_
          refine z_ne0 C dX5_partOfAct_44 (tgt := 54) (by decide) ?_
          refine lv_iload_n hx hb dX5_partOfAct_47 rfl (lv_at hl 0 rfl) ?_
          refine r_eqi (y := 0) rfl ?_
          refine z_ne0 C dX5_partOfAct_48 (tgt := 54) (by decide) ?_
          refine lv_bipush (v := (-2)) hx hb dX5_partOfAct_51 (by decide) ?_
          exact hret _ _ _ _ _ _ dX5_partOfAct_53 hP hS (⟨rfl, rfl⟩)
        · rw [nI_toInt (by omega)] at h16
          exfalso; omega
    · rw [nI_toInt (by omega)] at h14
      refine lv_iload_n hx hb dX5_partOfAct_6 rfl (lv_at hl 1 rfl) ?_
      refine lv_bipush (v := nI 10) hx hb dX5_partOfAct_7 (by decide) ?_
      refine lv_iconst (v := nI 4) hx hb dX5_partOfAct_9 (by decide) ?_
      refine lv_aload_n hx hb dX5_partOfAct_10 rfl (lv_at hl 0 rfl) ?_
      refine f_X5_26 C hP (by first | assumption | exact hKa _ (by omega)) dX5_partOfAct_11 ?_
      refine r_eqi (y := (nI n)) (he) ?_
      refine r_mulN C dX5_partOfAct_14 ?_
      refine r_addN C dX5_partOfAct_15 ?_
      refine b_ge C dX5_partOfAct_16 (tgt := 23) (by decide) (fun h17 => ?_) (fun h17 => ?_)
      · rw [nI_toInt (by omega)] at h17
        refine lv_iconst (v := nI 0) hx hb dX5_partOfAct_23 (by decide) ?_
        refine lv_istore_n (lv' := [(2, .int (nI 0)), (0, .ref (ad h)), (1, .int x)]) hx hb dX5_partOfAct_24 rfl hl (by decide) rfl (fun ls hl => ?_)
        refine lv_iload_n hx hb dX5_partOfAct_25 rfl (lv_at hl 2 rfl) ?_
        refine lv_bipush (v := nI 31) hx hb dX5_partOfAct_26 (by decide) ?_
        refine b_lt C dX5_partOfAct_28 (tgt := 41) (by decide) (fun h18 => ?_) (fun h18 => ?_)
        · rw [nI_toInt (by omega)] at h18
          refine lv_iconst (v := nI 0) hx hb dX5_partOfAct_41 (by decide) ?_
          refine lv_istore_n (lv' := [(3, .int (nI 0)), (2, .int (nI 0)), (0, .ref (ad h)), (1, .int x)]) hx hb dX5_partOfAct_42 rfl hl (by decide) rfl (fun ls hl => ?_)
          refine lv_iload_n hx hb dX5_partOfAct_43 rfl (lv_at hl 1 rfl) ?_
          refine r_eqi (y := 0) rfl ?_
          refine z_ne0 C dX5_partOfAct_44 (tgt := 54) (by decide) ?_
          refine lv_iload_n hx hb dX5_partOfAct_47 rfl (lv_at hl 0 rfl) ?_
          refine r_eqi (y := 0) rfl ?_
          refine z_ne0 C dX5_partOfAct_48 (tgt := 54) (by decide) ?_
          refine lv_bipush (v := (-2)) hx hb dX5_partOfAct_51 (by decide) ?_
          exact hret _ _ _ _ _ _ dX5_partOfAct_53 hP hS (⟨rfl, rfl⟩)
        · rw [nI_toInt (by omega)] at h18
          refine lv_iload_n hx hb dX5_partOfAct_31 rfl (lv_at hl 2 rfl) ?_
          refine lv_bipush (v := nI 33) hx hb dX5_partOfAct_32 (by decide) ?_
          refine b_gt C dX5_partOfAct_34 (tgt := 41) (by decide) (fun h19 => ?_) (fun h19 => ?_)
          · rw [nI_toInt (by omega)] at h19
            refine lv_iconst (v := nI 0) hx hb dX5_partOfAct_41 (by decide) ?_
            refine lv_istore_n (lv' := [(3, .int (nI 0)), (2, .int (nI 0)), (0, .ref (ad h)), (1, .int x)]) hx hb dX5_partOfAct_42 rfl hl (by decide) rfl (fun ls hl => ?_)
            refine lv_iload_n hx hb dX5_partOfAct_43 rfl (lv_at hl 1 rfl) ?_
            refine r_eqi (y := 0) rfl ?_
            refine z_ne0 C dX5_partOfAct_44 (tgt := 54) (by decide) ?_
            refine lv_iload_n hx hb dX5_partOfAct_47 rfl (lv_at hl 0 rfl) ?_
            refine r_eqi (y := 0) rfl ?_
            refine z_ne0 C dX5_partOfAct_48 (tgt := 54) (by decide) ?_
            refine lv_bipush (v := (-2)) hx hb dX5_partOfAct_51 (by decide) ?_
            exact hret _ _ _ _ _ _ dX5_partOfAct_53 hP hS (⟨rfl, rfl⟩)
          · rw [nI_toInt (by omega)] at h19
            exfalso; omega
      · rw [nI_toInt (by omega)] at h17
        exfalso; omega
