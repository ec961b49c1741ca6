/-! the reference: sets -/
set_option maxHeartbeats 4000000 in
set_option maxRecDepth 100000 in
theorem c_X7_registersOf {l : Launch} {E : En} {K : Nat → Nat} {L : Nat → Nat → Bool} {ad : Nat → Nat} {I : Nat → Nat → Int32} (t n : Nat) (hM : IsM K L) (ht : t < 8) (hn : I 12 t = nI n) (hn4 : n ≤ 4) : MI l E K L ad I yX7_registersOf cX7_registersOf 4 (some .int) 2 [.ref (ad 10), .int (nI t)] (fun v J => J = I ∧ v = rgT n (fun e => I 14 (5 * t + e)) (fun e => I 16 (5 * t + e))) := by
  have hM0 := hM
  obtain ⟨m0, ml1, ml2, ml3, ml4, ml5, ml6, ml7, ml8, ml9, ml10, ml11, ml12, ml13, ml14, ml15, ml16, ml17, ml21, ml25, ml26, mk1, mk2, mk3, mk4, mk5, mk6, mk7, mk8, mk9, mk10, mk11, mk12, mk13, mk14, mk15, mk16, mk17, mk21, mk25, mk26⟩ := hM
  refine MI.of (by decide) (Nat.le_of_ble_eq_true rfl) ?_
  intro p ee s m args below meth c ls Qf C hret hP hl
  have C : Cx E p s m args c cX7_registersOf RX7 4 := C
  have hx := C.1
  have hb := C.2.1
  have hS : va_S (AG E) s.heap s.heap [] := va_S.rf
  have hl : lv_has ls 4 [(0, .ref (ad 10)), (1, .int (nI t))] := hl
  refine lv_iconst (v := nI 0) hx hb dX7_registersOf_0 (by decide) ?_
  refine lv_istore_n (lv' := [(2, .int (nI 0)), (0, .ref (ad 10)), (1, .int (nI t))]) hx hb dX7_registersOf_1 rfl hl (by decide) rfl (fun ls hl => ?_)
  refine lv_iconst (v := nI 5) hx hb dX7_registersOf_2 (by decide) ?_
  refine lv_iload_n hx hb dX7_registersOf_3 rfl (lv_at hl 2 rfl) ?_
  refine r_mulN C dX7_registersOf_4 ?_
  refine lv_istore_n (lv' := [(3, .int (nI (5 * t))), (2, .int (nI 0)), (0, .ref (ad 10)), (1, .int (nI t))]) hx hb dX7_registersOf_5 rfl hl (by decide) rfl (fun ls hl => ?_)
  have hL6_1 : ∀ (d : Nat) (e : Nat) (a : Int32) (H : Heap) (locs : List Loc) (ls : Array Slot), 5 < e + d → (e ≤ 5) → (a = orF (nI 0) (fun e => if thr n e then rgA (I 14 (5 * t + e)) (I 16 (5 * t + e)) else nI 0) e) → Hp E K L ad I H → va_S (AG E) s.heap H locs → lv_has ls 4 [(0, .ref (ad 10)), (1, .int (nI t)), (2, .int a), (3, .int (nI (5 * t + e)))] → W p l ee (rmk 2) s m args below meth c H locs 0 0 Qf (F0 m 6 ls []) := by
    intro d
    induction d with
    | zero => intro e a H locs ls hd he ha _ _ _; exact absurd hd (by omega)
    | succ d ih =>
      intro e a H locs ls hd he ha hP hS hl
      refine lv_iload_n hx hb dX7_registersOf_6 rfl (lv_at hl 3 rfl) ?_
      refine lv_iconst (v := nI 5) hx hb dX7_registersOf_7 (by decide) ?_
      refine lv_iload_n hx hb dX7_registersOf_8 rfl (lv_at hl 1 rfl) ?_
      refine r_mulN C dX7_registersOf_9 ?_
      refine lv_iconst (v := nI 5) hx hb dX7_registersOf_10 (by decide) ?_
      refine r_addN C dX7_registersOf_11 ?_
      refine b_geN C (by omega) (by omega) dX7_registersOf_12 (tgt := 59) (by decide) (fun h2 => ?_) (fun h2 => ?_)
      · refine lv_iload_n hx hb dX7_registersOf_59 rfl (lv_at hl 2 rfl) ?_
        exact hret _ _ _ _ _ _ dX7_registersOf_60 hP hS (⟨rfl, by rw [rgT]; rw [ha, show e = 5 by omega]⟩)
      · refine lv_iload_n hx hb dX7_registersOf_15 rfl (lv_at hl 2 rfl) ?_
        refine lv_aload_n hx hb dX7_registersOf_16 rfl (lv_at hl 0 rfl) ?_
        refine lv_iload_n hx hb dX7_registersOf_17 rfl (lv_at hl 3 rfl) ?_
        refine k_X7_90 C hP hS (by assumption) (c_X7_isThere t e n hM0 ht (by omega) hn hn4) ⟨Nat.le_of_ble_eq_true rfl, Nat.le_of_ble_eq_true rfl⟩ ⟨Nat.zero_le _, Nat.zero_le _⟩ hl.1 (Nat.le_of_ble_eq_true rfl) dX7_registersOf_18 (fun v3 I4 H locs hv5 hP hS => ?_)
        obtain ⟨eI4, hv5⟩ := hv5
        rw [eI4] at hP
        clear eI4
        rcases hv5 with ⟨rfl, hc6⟩ | ⟨rfl, hc6⟩
        · refine z_eq1 C dX7_registersOf_21 (tgt := 50) (by decide) ?_
          refine lv_aload_n hx hb dX7_registersOf_24 rfl (lv_at hl 0 rfl) ?_
          refine f_X7_19 (q := 14) C hP (by assumption) (by assumption) rfl dX7_registersOf_25 ?_
          refine lv_iload_n hx hb dX7_registersOf_28 rfl (lv_at hl 3 rfl) ?_
          refine r_iald (n := 40) C hP (by assumption) (by omega) (by decide) dX7_registersOf_29 ?_
          refine lv_iconst (v := nI 5) hx hb dX7_registersOf_30 (by decide) ?_
          refine lv_bipush (v := nI 7) hx hb dX7_registersOf_31 (by decide) ?_
          refine k_X7_75 C hP hS (c_X7_inN ((I 14 (5 * t + e))) 5 7 (by first | decide | omega) (by first | decide | omega)) ⟨Nat.le_of_ble_eq_true rfl, Nat.le_of_ble_eq_true rfl⟩ ⟨Nat.zero_le _, Nat.zero_le _⟩ hl.1 (Nat.le_of_ble_eq_true rfl) dX7_registersOf_33 (fun v7 I8 H locs hv9 hP hS => ?_)
          obtain ⟨eI8, hv9⟩ := hv9
          rw [eI8] at hP
          clear eI8
          rcases hv9 with ⟨rfl, hc10⟩ | ⟨rfl, hc10⟩
          · refine z_eq1 C dX7_registersOf_36 (tgt := 50) (by decide) ?_
            refine lv_iconst (v := nI 1) hx hb dX7_registersOf_39 (by decide) ?_
            refine lv_aload_n hx hb dX7_registersOf_40 rfl (lv_at hl 0 rfl) ?_
            refine f_X7_25 (q := 16) C hP (by assumption) (by assumption) rfl dX7_registersOf_41 ?_
            refine lv_iload_n hx hb dX7_registersOf_44 rfl (lv_at hl 3 rfl) ?_
            refine r_iald (n := 40) C hP (by assumption) (by omega) (by decide) dX7_registersOf_45 ?_
            refine lv_ishl hx hb dX7_registersOf_46 ?_
            refine lv_topi (fun x11 ex11 => ?_)
            refine lv_goto (tgt := 51) hx hb dX7_registersOf_47 (by decide) ?_
            refine lv_ior hx hb dX7_registersOf_51 ?_
            refine lv_topi (fun x12 ex12 => ?_)
            refine lv_istore_n (lv' := [(2, .int x12), (0, .ref (ad 10)), (1, .int (nI t)), (3, .int (nI (5 * t + e)))]) hx hb dX7_registersOf_52 rfl hl (by decide) rfl (fun ls hl => ?_)
            refine lv_iinc (v := nI (5 * t + e + 1)) (lv' := [(3, .int (nI (5 * t + e + 1))), (2, .int x12), (0, .ref (ad 10)), (1, .int (nI t))]) hx hb dX7_registersOf_53 hl (k := 3) rfl (nI_1 _) (by decide) rfl (fun ls hl => ?_)
            refine lv_goto (tgt := 6) hx hb dX7_registersOf_56 (by decide) ?_
            exact ih (e + 1) x12 _ _ _ (by omega) (by omega) (by rw [ex12, ex11, ha]; simp only [orF]; congr 1; first | (rw [if_pos (by assumption), rgA, if_pos (by omega)]; done) | (rw [if_pos (by assumption), rgA, if_neg (by omega)]; done) | (rw [if_neg (by assumption)]; done)) hP hS (lv_sub hl [2, 3, 1, 0] rfl)
          · refine z_eq0 C dX7_registersOf_36 (tgt := 50) (by decide) ?_
            refine lv_iconst (v := nI 0) hx hb dX7_registersOf_50 (by decide) ?_
            refine lv_ior hx hb dX7_registersOf_51 ?_
            refine lv_topi (fun x13 ex13 => ?_)
            refine lv_istore_n (lv' := [(2, .int x13), (0, .ref (ad 10)), (1, .int (nI t)), (3, .int (nI (5 * t + e)))]) hx hb dX7_registersOf_52 rfl hl (by decide) rfl (fun ls hl => ?_)
            refine lv_iinc (v := nI (5 * t + e + 1)) (lv' := [(3, .int (nI (5 * t + e + 1))), (2, .int x13), (0, .ref (ad 10)), (1, .int (nI t))]) hx hb dX7_registersOf_53 hl (k := 3) rfl (nI_1 _) (by decide) rfl (fun ls hl => ?_)
            refine lv_goto (tgt := 6) hx hb dX7_registersOf_56 (by decide) ?_
            exact ih (e + 1) x13 _ _ _ (by omega) (by omega) (by rw [ex13, ha]; simp only [orF]; congr 1; first | (rw [if_pos (by assumption), rgA, if_pos (by omega)]; done) | (rw [if_pos (by assumption), rgA, if_neg (by omega)]; done) | (rw [if_neg (by assumption)]; done)) hP hS (lv_sub hl [2, 3, 1, 0] rfl)
        · refine z_eq0 C dX7_registersOf_21 (tgt := 50) (by decide) ?_
          refine lv_iconst (v := nI 0) hx hb dX7_registersOf_50 (by decide) ?_
          refine lv_ior hx hb dX7_registersOf_51 ?_
          refine lv_topi (fun x14 ex14 => ?_)
          refine lv_istore_n (lv' := [(2, .int x14), (0, .ref (ad 10)), (1, .int (nI t)), (3, .int (nI (5 * t + e)))]) hx hb dX7_registersOf_52 rfl hl (by decide) rfl (fun ls hl => ?_)
          refine lv_iinc (v := nI (5 * t + e + 1)) (lv' := [(3, .int (nI (5 * t + e + 1))), (2, .int x14), (0, .ref (ad 10)), (1, .int (nI t))]) hx hb dX7_registersOf_53 hl (k := 3) rfl (nI_1 _) (by decide) rfl (fun ls hl => ?_)
          refine lv_goto (tgt := 6) hx hb dX7_registersOf_56 (by decide) ?_
          exact ih (e + 1) x14 _ _ _ (by omega) (by omega) (by rw [ex14, ha]; simp only [orF]; congr 1; first | (rw [if_pos (by assumption), rgA, if_pos (by omega)]; done) | (rw [if_pos (by assumption), rgA, if_neg (by omega)]; done) | (rw [if_neg (by assumption)]; done)) hP hS (lv_sub hl [2, 3, 1, 0] rfl)
  exact hL6_1 (5 + 1) 0 (nI 0) _ _ _ (by omega) (by omega) (rfl) hP hS (lv_sub hl [2, 3, 1, 0] rfl)
set_option maxHeartbeats 4000000 in
set_option maxRecDepth 100000 in
theorem c_X7_writes {l : Launch} {E : En} {K : Nat → Nat} {L : Nat → Nat → Bool} {ad : Nat → Nat} {I : Nat → Nat → Int32} (t n : Nat) (hM : IsM K L) (ht : t < 8) (hn : I 12 t = nI n) (hn4 : n ≤ 4) : MI l E K L ad I yX7_writes cX7_writes 4 (some .int) 2 [.ref (ad 10), .int (nI t)] (fun v J => J = I ∧ v = wrT n (fun e => I 14 (5 * t + e)) (fun e => I 15 (5 * t + e))) := by
  have hM0 := hM
  obtain ⟨m0, ml1, ml2, ml3, ml4, ml5, ml6, ml7, ml8, ml9, ml10, ml11, ml12, ml13, ml14, ml15, ml16, ml17, ml21, ml25, ml26, mk1, mk2, mk3, mk4, mk5, mk6, mk7, mk8, mk9, mk10, mk11, mk12, mk13, mk14, mk15, mk16, mk17, mk21, mk25, mk26⟩ := hM
  refine MI.of (by decide) (Nat.le_of_ble_eq_true rfl) ?_
  intro p ee s m args below meth c ls Qf C hret hP hl
  have C : Cx E p s m args c cX7_writes RX7 4 := C
  have hx := C.1
  have hb := C.2.1
  have hS : va_S (AG E) s.heap s.heap [] := va_S.rf
  have hl : lv_has ls 4 [(0, .ref (ad 10)), (1, .int (nI t))] := hl
  refine lv_iconst (v := nI 0) hx hb dX7_writes_0 (by decide) ?_
  refine lv_istore_n (lv' := [(2, .int (nI 0)), (0, .ref (ad 10)), (1, .int (nI t))]) hx hb dX7_writes_1 rfl hl (by decide) rfl (fun ls hl => ?_)
  refine lv_iconst (v := nI 5) hx hb dX7_writes_2 (by decide) ?_
  refine lv_iload_n hx hb dX7_writes_3 rfl (lv_at hl 2 rfl) ?_
  refine r_mulN C dX7_writes_4 ?_
  refine lv_istore_n (lv' := [(3, .int (nI (5 * t))), (2, .int (nI 0)), (0, .ref (ad 10)), (1, .int (nI t))]) hx hb dX7_writes_5 rfl hl (by decide) rfl (fun ls hl => ?_)
  have hL6_1 : ∀ (d : Nat) (e : Nat) (a : Int32) (H : Heap) (locs : List Loc) (ls : Array Slot), 5 < e + d → (e ≤ 5) → (a = orF (nI 0) (fun e => if thr n e then wrA (I 14 (5 * t + e)) (I 15 (5 * t + e)) else nI 0) e) → Hp E K L ad I H → va_S (AG E) s.heap H locs → lv_has ls 4 [(0, .ref (ad 10)), (1, .int (nI t)), (2, .int a), (3, .int (nI (5 * t + e)))] → W p l ee (rmk 2) s m args below meth c H locs 0 0 Qf (F0 m 6 ls []) := by
    intro d
    induction d with
    | zero => intro e a H locs ls hd he ha _ _ _; exact absurd hd (by omega)
    | succ d ih =>
      intro e a H locs ls hd he ha hP hS hl
      refine lv_iload_n hx hb dX7_writes_6 rfl (lv_at hl 3 rfl) ?_
      refine lv_iconst (v := nI 5) hx hb dX7_writes_7 (by decide) ?_
      refine lv_iload_n hx hb dX7_writes_8 rfl (lv_at hl 1 rfl) ?_
      refine r_mulN C dX7_writes_9 ?_
      refine lv_iconst (v := nI 5) hx hb dX7_writes_10 (by decide) ?_
      refine r_addN C dX7_writes_11 ?_
      refine b_geN C (by omega) (by omega) dX7_writes_12 (tgt := 56) (by decide) (fun h2 => ?_) (fun h2 => ?_)
      · refine lv_iload_n hx hb dX7_writes_56 rfl (lv_at hl 2 rfl) ?_
        exact hret _ _ _ _ _ _ dX7_writes_57 hP hS (⟨rfl, by rw [wrT]; rw [ha, show e = 5 by omega]⟩)
      · refine lv_iload_n hx hb dX7_writes_15 rfl (lv_at hl 2 rfl) ?_
        refine lv_aload_n hx hb dX7_writes_16 rfl (lv_at hl 0 rfl) ?_
        refine lv_iload_n hx hb dX7_writes_17 rfl (lv_at hl 3 rfl) ?_
        refine k_X7_90 C hP hS (by assumption) (c_X7_isThere t e n hM0 ht (by omega) hn hn4) ⟨Nat.le_of_ble_eq_true rfl, Nat.le_of_ble_eq_true rfl⟩ ⟨Nat.zero_le _, Nat.zero_le _⟩ hl.1 (Nat.le_of_ble_eq_true rfl) dX7_writes_18 (fun v3 I4 H locs hv5 hP hS => ?_)
        obtain ⟨eI4, hv5⟩ := hv5
        rw [eI4] at hP
        clear eI4
        rcases hv5 with ⟨rfl, hc6⟩ | ⟨rfl, hc6⟩
        · refine z_eq1 C dX7_writes_21 (tgt := 47) (by decide) ?_
          refine lv_aload_n hx hb dX7_writes_24 rfl (lv_at hl 0 rfl) ?_
          refine f_X7_19 (q := 14) C hP (by assumption) (by assumption) rfl dX7_writes_25 ?_
          refine lv_iload_n hx hb dX7_writes_28 rfl (lv_at hl 3 rfl) ?_
          refine r_iald (n := 40) C hP (by assumption) (by omega) (by decide) dX7_writes_29 ?_
          refine k_X7_87 C hP hS (c_X7_matters ((I 14 (5 * t + e)))) ⟨Nat.le_of_ble_eq_true rfl, Nat.le_of_ble_eq_true rfl⟩ ⟨Nat.zero_le _, Nat.zero_le _⟩ hl.1 (Nat.le_of_ble_eq_true rfl) dX7_writes_30 (fun v7 I8 H locs hv9 hP hS => ?_)
          obtain ⟨eI8, hv9⟩ := hv9
          rw [eI8] at hP
          clear eI8
          rcases hv9 with ⟨rfl, hc10⟩ | ⟨rfl, hc10⟩
          · refine z_eq1 C dX7_writes_33 (tgt := 47) (by decide) ?_
            refine lv_iconst (v := nI 1) hx hb dX7_writes_36 (by decide) ?_
            refine lv_aload_n hx hb dX7_writes_37 rfl (lv_at hl 0 rfl) ?_
            refine f_X7_22 (q := 15) C hP (by assumption) (by assumption) rfl dX7_writes_38 ?_
            refine lv_iload_n hx hb dX7_writes_41 rfl (lv_at hl 3 rfl) ?_
            refine r_iald (n := 40) C hP (by assumption) (by omega) (by decide) dX7_writes_42 ?_
            refine lv_ishl hx hb dX7_writes_43 ?_
            refine lv_topi (fun x11 ex11 => ?_)
            refine lv_goto (tgt := 48) hx hb dX7_writes_44 (by decide) ?_
            refine lv_ior hx hb dX7_writes_48 ?_
            refine lv_topi (fun x12 ex12 => ?_)
            refine lv_istore_n (lv' := [(2, .int x12), (0, .ref (ad 10)), (1, .int (nI t)), (3, .int (nI (5 * t + e)))]) hx hb dX7_writes_49 rfl hl (by decide) rfl (fun ls hl => ?_)
            refine lv_iinc (v := nI (5 * t + e + 1)) (lv' := [(3, .int (nI (5 * t + e + 1))), (2, .int x12), (0, .ref (ad 10)), (1, .int (nI t))]) hx hb dX7_writes_50 hl (k := 3) rfl (nI_1 _) (by decide) rfl (fun ls hl => ?_)
            refine lv_goto (tgt := 6) hx hb dX7_writes_53 (by decide) ?_
            exact ih (e + 1) x12 _ _ _ (by omega) (by omega) (by rw [ex12, ex11, ha]; simp only [orF]; congr 1; first | (rw [if_pos (by assumption), wrA, if_pos (by omega)]; done) | (rw [if_pos (by assumption), wrA, if_neg (by omega)]; done) | (rw [if_neg (by assumption)]; done)) hP hS (lv_sub hl [2, 3, 1, 0] rfl)
          · refine z_eq0 C dX7_writes_33 (tgt := 47) (by decide) ?_
            refine lv_iconst (v := nI 0) hx hb dX7_writes_47 (by decide) ?_
            refine lv_ior hx hb dX7_writes_48 ?_
            refine lv_topi (fun x13 ex13 => ?_)
            refine lv_istore_n (lv' := [(2, .int x13), (0, .ref (ad 10)), (1, .int (nI t)), (3, .int (nI (5 * t + e)))]) hx hb dX7_writes_49 rfl hl (by decide) rfl (fun ls hl => ?_)
            refine lv_iinc (v := nI (5 * t + e + 1)) (lv' := [(3, .int (nI (5 * t + e + 1))), (2, .int x13), (0, .ref (ad 10)), (1, .int (nI t))]) hx hb dX7_writes_50 hl (k := 3) rfl (nI_1 _) (by decide) rfl (fun ls hl => ?_)
            refine lv_goto (tgt := 6) hx hb dX7_writes_53 (by decide) ?_
            exact ih (e + 1) x13 _ _ _ (by omega) (by omega) (by rw [ex13, ha]; simp only [orF]; congr 1; first | (rw [if_pos (by assumption), wrA, if_pos (by omega)]; done) | (rw [if_pos (by assumption), wrA, if_neg (by omega)]; done) | (rw [if_neg (by assumption)]; done)) hP hS (lv_sub hl [2, 3, 1, 0] rfl)
        · refine z_eq0 C dX7_writes_21 (tgt := 47) (by decide) ?_
          refine lv_iconst (v := nI 0) hx hb dX7_writes_47 (by decide) ?_
          refine lv_ior hx hb dX7_writes_48 ?_
          refine lv_topi (fun x14 ex14 => ?_)
          refine lv_istore_n (lv' := [(2, .int x14), (0, .ref (ad 10)), (1, .int (nI t)), (3, .int (nI (5 * t + e)))]) hx hb dX7_writes_49 rfl hl (by decide) rfl (fun ls hl => ?_)
          refine lv_iinc (v := nI (5 * t + e + 1)) (lv' := [(3, .int (nI (5 * t + e + 1))), (2, .int x14), (0, .ref (ad 10)), (1, .int (nI t))]) hx hb dX7_writes_50 hl (k := 3) rfl (nI_1 _) (by decide) rfl (fun ls hl => ?_)
          refine lv_goto (tgt := 6) hx hb dX7_writes_53 (by decide) ?_
          exact ih (e + 1) x14 _ _ _ (by omega) (by omega) (by rw [ex14, ha]; simp only [orF]; congr 1; first | (rw [if_pos (by assumption), wrA, if_pos (by omega)]; done) | (rw [if_pos (by assumption), wrA, if_neg (by omega)]; done) | (rw [if_neg (by assumption)]; done)) hP hS (lv_sub hl [2, 3, 1, 0] rfl)
  exact hL6_1 (5 + 1) 0 (nI 0) _ _ _ (by omega) (by omega) (rfl) hP hS (lv_sub hl [2, 3, 1, 0] rfl)
