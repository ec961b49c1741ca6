/-! programs -/
set_option maxHeartbeats 4000000 in
set_option maxRecDepth 100000 in
theorem c_X3_hasTable {l : Launch} {E : En} {K : Nat → Nat} {L : Nat → Nat → Bool} {ad : Nat → Nat} {I : Nat → Nat → Int32} (b : Nat) (t : Int32) (kb : K b = 4) : MI l E K L ad I yX3_hasTable cX3_hasTable 2 (some .boolean) 1 [.ref (ad b), .int t] (fun v J => J = I ∧ (v = 1 ∧ (0 ≤ t.toInt ∧ t.toInt < (I b 0).toInt) ∨ v = 0 ∧ ¬ (0 ≤ t.toInt ∧ t.toInt < (I b 0).toInt))) := by
  refine MZ.of (by decide) (Nat.le_of_ble_eq_true rfl) ?_
  intro p e s m args below meth c ls Qf C hret hP hl
  have C : Cx E p s m args c cX3_hasTable RX3 2 := C
  have hx := C.1
  have hb := C.2.1
  have hS : va_S (AG E) s.heap s.heap [] := va_S.rf
  have hl : lv_has ls 2 [(0, .ref (ad b)), (1, .int t)] := hl
  refine lv_iload_n hx hb dX3_hasTable_0 rfl (lv_at hl 1 rfl) ?_
  refine lv_aload_n hx hb dX3_hasTable_1 rfl (lv_at hl 0 rfl) ?_
  refine f_X3_36 C hP (by first | assumption | exact hKa _ (by omega)) dX3_hasTable_2 ?_
  refine k_X3_50 C hP hS (c_X6_isIn t (I b 0)) ⟨Nat.le_of_ble_eq_true rfl, Nat.le_of_ble_eq_true rfl⟩ ⟨Nat.zero_le _, Nat.zero_le _⟩ hl.1 (Nat.le_of_ble_eq_true rfl) dX3_hasTable_5 (fun v1 I2 H locs hv3 hP hS => ?_)
  obtain ⟨eI2, hv3⟩ := hv3
  rw [eI2] at hP
  clear eI2
  rcases hv3 with ⟨rfl, hc4⟩ | ⟨rfl, hc4⟩
  · exact hret _ _ _ _ _ _ dX3_hasTable_8 hP hS (by first | rfl | (rcases hbv with rfl | rfl <;> rfl)) (⟨rfl, Or.inl ⟨rfl, hc4⟩⟩)
  · exact hret _ _ _ _ _ _ dX3_hasTable_8 hP hS (by first | rfl | (rcases hbv with rfl | rfl <;> rfl)) (⟨rfl, Or.inr ⟨rfl, hc4⟩⟩)
set_option maxHeartbeats 4000000 in
set_option maxRecDepth 100000 in
theorem c_X3_addTable {l : Launch} {E : En} {K : Nat → Nat} {L : Nat → Nat → Bool} {ad : Nat → Nat} {I : Nat → Nat → Int32} (b n : Nat) (k : Int32) (hp : IsP K L b) (hm : PM I b) (he : I b 0 = nI n) (hn : n < 8) : MI l E K L ad I yX3_addTable cX3_addTable 2 (some .int) 3 [.ref (ad b), .int k] (fun r J => J = up2 (set3 (up2 (up2 I (tr I b n) 0 k) (tr I b n) 1 (nI 0)) (tr I b n + 7) (nI 0) (-6) (-6)) b 0 (nI (n + 1)) ∧ r = nI n) := by
  have hp0 := hp
  obtain ⟨kb, ⟨lb1, lb2, lb3, lb4⟩, kb1, hLb, kb2, kb3, kb4, hTb⟩ := hp
  have hTn := tr_T hp0 hm hn
  have hkT := hTn.1
  have hlo := tr_lo I b n
  refine MI.of (by decide) (Nat.le_of_ble_eq_true rfl) ?_
  intro p e s m args below meth c ls Qf C hret hP hl
  have C : Cx E p s m args c cX3_addTable RX3 2 := C
  have hx := C.1
  have hb := C.2.1
  have hS : va_S (AG E) s.heap s.heap [] := va_S.rf
  have hl : lv_has ls 2 [(0, .ref (ad b)), (1, .int k)] := hl
  refine lv_aload_n hx hb dX3_addTable_0 rfl (lv_at hl 0 rfl) ?_
  refine f_X3_11 (q := b + 1) C hP (by assumption) (by assumption) rfl dX3_addTable_1 ?_
  refine lv_aload_n hx hb dX3_addTable_4 rfl (lv_at hl 0 rfl) ?_
  refine f_X3_36 C hP (by first | assumption | exact hKa _ (by omega)) dX3_addTable_5 ?_
  refine r_eqi (y := (nI n)) (he) ?_
  refine r_ald12 (q := tr I b n) C hP (by assumption) (by first | assumption | exact hLb _ (by omega)) (by omega) rfl dX3_addTable_8 ?_
  refine lv_iload_n hx hb dX3_addTable_9 rfl (lv_at hl 1 rfl) ?_
  refine k_X3_54 C hP hS (by assumption) (c_X5_begin (tr I b n) k hTn) ⟨Nat.le_of_ble_eq_true rfl, Nat.le_of_ble_eq_true rfl⟩ ⟨Nat.zero_le _, Nat.zero_le _⟩ hl.1 (Nat.le_of_ble_eq_true rfl) dX3_addTable_10 (fun I2 H locs hv3 hP hS => ?_)
  have eI2 := hv3
  refine lv_aload_n hx hb dX3_addTable_13 rfl (lv_at hl 0 rfl) ?_
  refine lv_dup hx hb dX3_addTable_14 rfl ?_
  refine f_X3_36 C hP (by first | assumption | exact hKa _ (by omega)) dX3_addTable_15 ?_
  refine r_eqi (y := (nI n)) (by rw [eI2, set3_r (by omega), up2_r (by omega), up2_r (by omega)]; exact he) ?_
  refine lv_iconst (v := nI 1) hx hb dX3_addTable_18 (by decide) ?_
  refine r_addN C dX3_addTable_19 ?_
  refine p_X3_36 C hP hS (by assumption) dX3_addTable_20 (fun H locs hP hS => ?_)
  obtain ⟨I4, eI4⟩ : ∃ Z : Nat → Nat → Int32, Z = up2 I2 b 0 (nI (n + 1)) := ⟨_, rfl⟩
  rw [← eI4] at hP
  refine lv_aload_n hx hb dX3_addTable_23 rfl (lv_at hl 0 rfl) ?_
  refine f_X3_36 C hP (by first | assumption | exact hKa _ (by omega)) dX3_addTable_24 ?_
  refine r_eqi (y := (nI (n + 1))) (by rw [eI4, up2_s]) ?_
  refine lv_iconst (v := nI 1) hx hb dX3_addTable_27 (by decide) ?_
  refine r_subN C (by omega) dX3_addTable_28 ?_
  exact hret _ _ _ _ _ _ dX3_addTable_29 hP hS (⟨by subst_vars; rfl, rfl⟩)
set_option maxHeartbeats 4000000 in
set_option maxRecDepth 100000 in
theorem c_X3_removeTable {l : Launch} {E : En} {K : Nat → Nat} {L : Nat → Nat → Bool} {ad : Nat → Nat} {I : Nat → Nat → Int32} (b n t0 : Nat) (hp : IsP K L b) (hm : PM I b) (he : I b 0 = nI n) (hn : n ≤ 8) (ht0 : t0 < n) : MI l E K L ad I yX3_removeTable cX3_removeTable 4 (some .int) 0 [.ref (ad b), .int (nI t0)] (fun r J => RTe I J b n t0 ∧ r = nI (n - 1)) := by
  have hp0 := hp
  obtain ⟨kb, ⟨lb1, lb2, lb3, lb4⟩, kb1, hLb, kb2, kb3, kb4, hTb⟩ := hp
  have hk0 := (tr_T hp0 hm (show t0 < 8 by omega)).1
  have hu0 := hm.1 t0 (by omega)
  refine MI.of (by decide) (Nat.le_of_ble_eq_true rfl) ?_
  intro p e s m args below meth c ls Qf C hret hP hl
  have C : Cx E p s m args c cX3_removeTable RX3 4 := C
  have hx := C.1
  have hb := C.2.1
  have hS : va_S (AG E) s.heap s.heap [] := va_S.rf
  have hl : lv_has ls 4 [(0, .ref (ad b)), (1, .int (nI t0))] := hl
  refine lv_aload_n hx hb dX3_removeTable_0 rfl (lv_at hl 0 rfl) ?_
  refine f_X3_11 (q := b + 1) C hP (by assumption) (by assumption) rfl dX3_removeTable_1 ?_
  refine lv_iload_n hx hb dX3_removeTable_4 rfl (lv_at hl 1 rfl) ?_
  refine r_ald12 (q := tr I b t0) C hP (by assumption) (by first | assumption | exact hLb _ (by omega)) (by omega) rfl dX3_removeTable_5 ?_
  refine lv_astore_n (lv' := [(2, .ref (ad (tr I b t0))), (0, .ref (ad b)), (1, .int (nI t0))]) hx hb dX3_removeTable_6 rfl hl (by decide) rfl (fun ls hl => ?_)
  refine lv_iload_n hx hb dX3_removeTable_7 rfl (lv_at hl 2 rfl) ?_
  refine lv_istore_n (lv' := [(3, .int (nI t0)), (2, .ref (ad (tr I b t0))), (0, .ref (ad b)), (1, .int (nI t0))]) hx hb dX3_removeTable_8 rfl hl (by decide) rfl (fun ls hl => ?_)
  have hL9_1 : ∀ (d : Nat) (j : Nat) (J : Mem) (H : Heap) (locs : List Loc) (ls : Array Slot), n < j + d → (t0 ≤ j) → (j < n) → (RT I J b t0 j) → Hp E K L ad J H → va_S (AG E) s.heap H locs → lv_has ls 4 [(0, .ref (ad b)), (2, .ref (ad (tr I b t0))), (3, .int (nI j))] → W p l e (rmk 0) s m args below meth c H locs 0 0 Qf (F0 m 9 ls []) := by
    intro d
    induction d with
    | zero => intro j J H locs ls hd h0 hj hc _ _ _; exact absurd hd (by omega)
    | succ d ih =>
      intro j J H locs ls hd h0 hj hc hP hS hl
      have hJ1 : J b 0 = nI n := by rw [hc.1 b (by omega)]; exact he
      refine lv_iload_n hx hb dX3_removeTable_9 rfl (lv_at hl 2 rfl) ?_
      refine lv_iconst (v := nI 1) hx hb dX3_removeTable_10 (by decide) ?_
      refine r_addN C dX3_removeTable_11 ?_
      refine lv_aload_n hx hb dX3_removeTable_12 rfl (lv_at hl 0 rfl) ?_
      refine f_X3_36 C hP (by first | assumption | exact hKa _ (by omega)) dX3_removeTable_13 ?_
      refine r_eqi (y := (nI n)) (hJ1) ?_
      refine b_geN C (by omega) (by omega) dX3_removeTable_16 (tgt := 39) (by decide) (fun h2 => ?_) (fun h2 => ?_)
      · refine lv_aload_n hx hb dX3_removeTable_39 rfl (lv_at hl 0 rfl) ?_
        refine lv_dup hx hb dX3_removeTable_40 rfl ?_
        refine f_X3_36 C hP (by first | assumption | exact hKa _ (by omega)) dX3_removeTable_41 ?_
        refine r_eqi (y := (nI n)) (hJ1) ?_
        refine lv_iconst (v := nI 1) hx hb dX3_removeTable_44 (by decide) ?_
        refine r_subN C (by omega) dX3_removeTable_45 ?_
        refine p_X3_36 C hP hS (by assumption) dX3_removeTable_46 (fun H locs hP hS => ?_)
        obtain ⟨I3, eI3⟩ : ∃ Z : Nat → Nat → Int32, Z = up2 J b 0 (nI (n - 1)) := ⟨_, rfl⟩
        rw [← eI3] at hP
        refine lv_aload_n hx hb dX3_removeTable_49 rfl (lv_at hl 0 rfl) ?_
        refine f_X3_11 (q := b + 1) C hP (by assumption) (by assumption) rfl dX3_removeTable_50 ?_
        refine lv_aload_n hx hb dX3_removeTable_53 rfl (lv_at hl 0 rfl) ?_
        refine f_X3_36 C hP (by first | assumption | exact hKa _ (by omega)) dX3_removeTable_54 ?_
        refine r_eqi (y := (nI (n - 1))) (by rw [eI3, up2_s]) ?_
        refine lv_aload_n hx hb dX3_removeTable_57 rfl (lv_at hl 1 rfl) ?_
        refine r_ast12 (u := (I (b + 1) t0).toNatClampNeg) C hP hS (by assumption) (by first | assumption | exact hLb _ (by omega)) (hk0) (by omega) (by omega) (rfl) dX3_removeTable_58 (fun H locs hP hS => ?_)
        obtain ⟨I4, eI4⟩ : ∃ Z : Nat → Nat → Int32, Z = up2 I3 (b + 1) (n - 1) (nI ((I (b + 1) t0).toNatClampNeg)) := ⟨_, rfl⟩
        rw [← eI4] at hP
        refine lv_aload_n hx hb dX3_removeTable_59 rfl (lv_at hl 0 rfl) ?_
        refine f_X3_36 C hP (by first | assumption | exact hKa _ (by omega)) dX3_removeTable_60 ?_
        refine r_eqi (y := (nI (n - 1))) (by rw [eI4, up2_r (by omega)]; subst_vars; rw [up2_s]) ?_
        exact hret _ _ _ _ _ _ dX3_removeTable_63 hP hS (⟨by rw [show j = n - 1 by omega] at hc; have := RT_e hc ht0 hn; subst_vars; rw [hu0.1.symm]; exact this, rfl⟩)
      · have hJj : J (b + 1) (j + 1) = I (b + 1) (j + 1) := by rw [hc.2 _ (by omega), if_neg (by omega)]
        have hT6 : K (tr J b (j + 1)) = 6 := by rw [tr_cong hJj]; exact (tr_T hp0 hm (by omega)).1
        have hu := hm.1 (j + 1) (by omega)
        rw [← hJj] at hu
        refine lv_aload_n hx hb dX3_removeTable_19 rfl (lv_at hl 0 rfl) ?_
        refine f_X3_11 (q := b + 1) C hP (by assumption) (by assumption) rfl dX3_removeTable_20 ?_
        refine lv_iload_n hx hb dX3_removeTable_23 rfl (lv_at hl 2 rfl) ?_
        refine lv_aload_n hx hb dX3_removeTable_24 rfl (lv_at hl 0 rfl) ?_
        refine f_X3_11 (q := b + 1) C hP (by assumption) (by assumption) rfl dX3_removeTable_25 ?_
        refine lv_iload_n hx hb dX3_removeTable_28 rfl (lv_at hl 2 rfl) ?_
        refine lv_iconst (v := nI 1) hx hb dX3_removeTable_29 (by decide) ?_
        refine r_addN C dX3_removeTable_30 ?_
        refine r_ald12 (q := tr J b (j + 1)) C hP (by assumption) (by first | assumption | exact hLb _ (by omega)) (by omega) rfl dX3_removeTable_31 ?_
        refine r_ast12 (u := (J (b + 1) (j + 1)).toNatClampNeg) C hP hS (by assumption) (by first | assumption | exact hLb _ (by omega)) (by assumption) (by omega) (by omega) (rfl) dX3_removeTable_32 (fun H locs hP hS => ?_)
        obtain ⟨I5, eI5⟩ : ∃ Z : Nat → Nat → Int32, Z = up2 J (b + 1) j (nI ((J (b + 1) (j + 1)).toNatClampNeg)) := ⟨_, rfl⟩
        rw [← eI5] at hP
        refine lv_iinc (v := nI (j + 1)) (lv' := [(3, .int (nI (j + 1))), (0, .ref (ad b)), (2, .ref (ad (tr I b t0)))]) hx hb dX3_removeTable_33 hl (k := 2) rfl (nI_1 _) (by decide) rfl (fun ls hl => ?_)
        refine lv_goto (tgt := 9) hx hb dX3_removeTable_36 (by decide) ?_
        exact ih (j + 1) I5 _ _ _ (by omega) (by omega) (by omega) (by rw [eI5, hu.1.symm, hJj]; exact RT_s hc h0 (by omega)) hP hS (lv_sub hl [1, 2, 0] rfl)
  exact hL9_1 (n + 1) t0 I _ _ _ (by omega) (Nat.le_refl _) (by omega) (⟨fun _ _ => rfl, fun t _ => by rw [if_neg (by omega)]⟩) hP hS (lv_sub hl [2, 1, 0] rfl)
set_option maxHeartbeats 4000000 in
set_option maxRecDepth 100000 in
theorem c_X3_isTakenElsewhere {l : Launch} {E : En} {K : Nat → Nat} {L : Nat → Nat → Bool} {ad : Nat → Nat} {I : Nat → Nat → Int32} {σ : Mem} (b n t0 : Nat) (k x : Int32) (hp : IsP K L b) (hR : PR b I σ) (hw : WF σ) (hn : n = mn σ) (ht0 : t0 < 8) : MI l E K L ad I yX3_isTakenElsewhere cX3_isTakenElsewhere 6 (some .boolean) 3 [.ref (ad b), .int (nI t0), .int k, .int x] (fun v J => J = I ∧ (v = 1 ∧ (hrg k ∧ tk σ t0 x) ∨ v = 0 ∧ ¬ (hrg k ∧ tk σ t0 x))) := by
  have hp0 := hp
  obtain ⟨kb, ⟨lb1, lb2, lb3, lb4⟩, kb1, hLb, kb2, kb3, kb4, hTb⟩ := hp
  have hn8 := hw.2.1
  have he : I b 0 = nI n := by rw [hR.1, hn]; exact hw.1
  refine MZ.of (by decide) (Nat.le_of_ble_eq_true rfl) ?_
  intro p e s m args below meth c ls Qf C hret hP hl
  have C : Cx E p s m args c cX3_isTakenElsewhere RX3 6 := C
  have hx := C.1
  have hb := C.2.1
  have hS : va_S (AG E) s.heap s.heap [] := va_S.rf
  have hl : lv_has ls 6 [(0, .ref (ad b)), (1, .int (nI t0)), (2, .int k), (3, .int x)] := hl
  refine lv_iload_n hx hb dX3_isTakenElsewhere_0 rfl (lv_at hl 2 rfl) ?_
  refine k_X3_58 C hP hS (c_X6_hasRegister k) ⟨Nat.le_of_ble_eq_true rfl, Nat.le_of_ble_eq_true rfl⟩ ⟨Nat.zero_le _, Nat.zero_le _⟩ hl.1 (Nat.le_of_ble_eq_true rfl) dX3_isTakenElsewhere_1 (fun v1 I2 H locs hv3 hP hS => ?_)
  obtain ⟨eI2, hv3⟩ := hv3
  rw [eI2] at hP
  clear eI2
  rcases hv3 with ⟨rfl, hc4⟩ | ⟨rfl, hc4⟩
  · refine z_ne1 C dX3_isTakenElsewhere_4 (tgt := 9) (by decide) ?_
    refine lv_iconst (v := nI 0) hx hb dX3_isTakenElsewhere_9 (by decide) ?_
    refine lv_istore (lv' := [(4, .int (nI 0)), (0, .ref (ad b)), (1, .int (nI t0)), (2, .int k), (3, .int x)]) hx hb dX3_isTakenElsewhere_10 hl (by decide) rfl (fun ls hl => ?_)
    refine lv_iconst (v := nI 0) hx hb dX3_isTakenElsewhere_12 (by decide) ?_
    refine lv_istore (lv' := [(5, .int (nI 0)), (4, .int (nI 0)), (0, .ref (ad b)), (1, .int (nI t0)), (2, .int k), (3, .int x)]) hx hb dX3_isTakenElsewhere_13 hl (by decide) rfl (fun ls hl => ?_)
    have hL15_5 : ∀ (d : Nat) (j : Nat) (a : Int32) (H : Heap) (locs : List Loc) (ls : Array Slot), n < j + d → (j ≤ n) → (a = tkO σ t0 j) → Hp E K L ad I H → va_S (AG E) s.heap H locs → lv_has ls 6 [(0, .ref (ad b)), (1, .int (nI t0)), (3, .int x), (4, .int a), (5, .int (nI j))] → W p l e (rmk 3) s m args below meth c H locs 0 0 Qf (F0 m 15 ls []) := by
      intro d
      induction d with
      | zero => intro j a H locs ls hd hj ha _ _ _; exact absurd hd (by omega)
      | succ d ih =>
        intro j a H locs ls hd hj ha hP hS hl
        refine lv_iload hx hb dX3_isTakenElsewhere_15 (lv_at hl 4 rfl) ?_
        refine lv_aload_n hx hb dX3_isTakenElsewhere_17 rfl (lv_at hl 0 rfl) ?_
        refine f_X3_36 C hP (by first | assumption | exact hKa _ (by omega)) dX3_isTakenElsewhere_18 ?_
        refine r_eqi (y := (nI n)) (he) ?_
        refine b_geN C (by omega) (by omega) dX3_isTakenElsewhere_21 (tgt := 55) (by decide) (fun h6 => ?_) (fun h6 => ?_)
        · refine lv_iload hx hb dX3_isTakenElsewhere_55 (lv_at hl 3 rfl) ?_
          refine lv_iconst (v := nI 1) hx hb dX3_isTakenElsewhere_57 (by decide) ?_
          refine lv_iload_n hx hb dX3_isTakenElsewhere_58 rfl (lv_at hl 2 rfl) ?_
          refine lv_ishl hx hb dX3_isTakenElsewhere_59 ?_
          refine lv_topi (fun x7 ex7 => ?_)
          refine lv_iand hx hb dX3_isTakenElsewhere_60 ?_
          refine lv_topi (fun x8 ex8 => ?_)
          refine z_eq C dX3_isTakenElsewhere_61 (tgt := 68) (by decide) (fun h9 => ?_) (fun h9 => ?_)
          · refine lv_iconst (v := nI 0) hx hb dX3_isTakenElsewhere_68 (by decide) ?_
            exact hret _ _ _ _ _ _ dX3_isTakenElsewhere_69 hP hS (by first | rfl | (rcases hbv with rfl | rfl <;> rfl)) (⟨rfl, Or.inr ⟨rfl, fun q => q.2 (by rw [show mn σ = j by omega, ← ha]; subst_vars; first | assumption | (symm; assumption))⟩⟩)
          · refine lv_iconst (v := nI 1) hx hb dX3_isTakenElsewhere_64 (by decide) ?_
            refine lv_goto (tgt := 69) hx hb dX3_isTakenElsewhere_65 (by decide) ?_
            exact hret _ _ _ _ _ _ dX3_isTakenElsewhere_69 hP hS (by first | rfl | (rcases hbv with rfl | rfl <;> rfl)) (⟨rfl, Or.inl ⟨rfl, by assumption, by unfold tk; rw [show mn σ = j by omega, ← ha]; subst_vars; assumption⟩⟩)
        · refine lv_iload hx hb dX3_isTakenElsewhere_24 (lv_at hl 3 rfl) ?_
          refine lv_iload hx hb dX3_isTakenElsewhere_26 (lv_at hl 4 rfl) ?_
          refine lv_iload_n hx hb dX3_isTakenElsewhere_28 rfl (lv_at hl 1 rfl) ?_
          refine b_neN C (by omega) (by omega) dX3_isTakenElsewhere_29 (tgt := 36) (by decide) (fun h10 => ?_) (fun h10 => ?_)
          · refine lv_aload_n hx hb dX3_isTakenElsewhere_36 rfl (lv_at hl 0 rfl) ?_
            refine f_X3_11 (q := b + 1) C hP (by assumption) (by assumption) rfl dX3_isTakenElsewhere_37 ?_
            refine lv_iload hx hb dX3_isTakenElsewhere_40 (lv_at hl 4 rfl) ?_
            refine r_ald12 (q := tr I b j) C hP (by assumption) (by first | assumption | exact hLb _ (by omega)) (by omega) rfl dX3_isTakenElsewhere_42 ?_
            have hTj := tr_T hp0 hR.2.1 (show j < 8 by omega)
            have hkj := hTj.1
            have hRj := hR.2.2.1 j (by omega)
            have hWj := hw.2.2.1 j (by omega)
            refine k_X3_62 C hP hS (by assumption) (c_X5_ownRegisters (tr I b j) (en σ j) hTj (by rw [hRj.2.1]; exact hWj.1) hWj.2.1) ⟨Nat.le_of_ble_eq_true rfl, Nat.le_of_ble_eq_true rfl⟩ ⟨Nat.zero_le _, Nat.zero_le _⟩ hl.1 (Nat.le_of_ble_eq_true rfl) dX3_isTakenElsewhere_43 (fun v11 I12 H locs hv13 hP hS => ?_)
            obtain ⟨eI12, ev11⟩ := hv13
            rw [eI12] at hP
            clear eI12
            refine lv_ior hx hb dX3_isTakenElsewhere_46 ?_
            refine lv_topi (fun x14 ex14 => ?_)
            refine lv_istore (lv' := [(4, .int x14), (0, .ref (ad b)), (1, .int (nI t0)), (3, .int x), (5, .int (nI j))]) hx hb dX3_isTakenElsewhere_47 hl (by decide) rfl (fun ls hl => ?_)
            refine lv_iinc (v := nI (j + 1)) (lv' := [(5, .int (nI (j + 1))), (4, .int x14), (0, .ref (ad b)), (1, .int (nI t0)), (3, .int x)]) hx hb dX3_isTakenElsewhere_49 hl (k := 4) rfl (nI_1 _) (by decide) rfl (fun ls hl => ?_)
            refine lv_goto (tgt := 15) hx hb dX3_isTakenElsewhere_52 (by decide) ?_
            exact ih (j + 1) x14 _ _ _ (by omega) (by omega) (by rw [ex14, ha]; show _ = orF _ _ j ||| _; dsimp only; first | (rw [if_pos (by assumption)]; rfl) | (rw [if_neg (by assumption), ← rgS_rep hRj]; subst_vars; rfl)) hP hS (lv_sub hl [2, 3, 4, 1, 0] rfl)
          · refine lv_iconst (v := nI 0) hx hb dX3_isTakenElsewhere_32 (by decide) ?_
            refine lv_goto (tgt := 46) hx hb dX3_isTakenElsewhere_33 (by decide) ?_
            refine lv_ior hx hb dX3_isTakenElsewhere_46 ?_
            refine lv_topi (fun x15 ex15 => ?_)
            refine lv_istore (lv' := [(4, .int x15), (0, .ref (ad b)), (1, .int (nI t0)), (3, .int x), (5, .int (nI j))]) hx hb dX3_isTakenElsewhere_47 hl (by decide) rfl (fun ls hl => ?_)
            refine lv_iinc (v := nI (j + 1)) (lv' := [(5, .int (nI (j + 1))), (4, .int x15), (0, .ref (ad b)), (1, .int (nI t0)), (3, .int x)]) hx hb dX3_isTakenElsewhere_49 hl (k := 4) rfl (nI_1 _) (by decide) rfl (fun ls hl => ?_)
            refine lv_goto (tgt := 15) hx hb dX3_isTakenElsewhere_52 (by decide) ?_
            exact ih (j + 1) x15 _ _ _ (by omega) (by omega) (by rw [ex15, ha]; show _ = orF _ _ j ||| _; dsimp only; first | (rw [if_pos (by assumption)]; rfl) | (rw [if_neg (by assumption), ← rgS_rep hRj]; subst_vars; rfl)) hP hS (lv_sub hl [2, 3, 4, 1, 0] rfl)
    exact hL15_5 (n + 1) 0 (nI 0) _ _ _ (by omega) (by omega) (rfl) hP hS (lv_sub hl [2, 3, 5, 1, 0] rfl)
  · refine z_ne0 C dX3_isTakenElsewhere_4 (tgt := 9) (by decide) ?_
    refine lv_iconst (v := nI 0) hx hb dX3_isTakenElsewhere_7 (by decide) ?_
    exact hret _ _ _ _ _ _ dX3_isTakenElsewhere_8 hP hS (by first | rfl | (rcases hbv with rfl | rfl <;> rfl)) (⟨rfl, Or.inr ⟨rfl, fun q => absurd q.1 (by assumption)⟩⟩)
set_option maxHeartbeats 4000000 in
set_option maxRecDepth 100000 in
theorem c_X3_copy {l : Launch} {E : En} {K : Nat → Nat} {L : Nat → Nat → Bool} {ad : Nat → Nat} {I : Nat → Nat → Int32} {σ : Mem} (b q n : Nat) (hp : IsP K L b) (hq : IsP K L q) (hm : PM I b) (hQ : PR q I σ) (hw : WF σ) (hn : n = mn σ) (hbq : b + 72 ≤ q ∨ q + 72 ≤ b) : MV l E K L ad I yX3_copy cX3_copy 3 2 [.ref (ad b), .ref (ad q)] (fun J => (∀ a, ¬ (b ≤ a ∧ a < b + 72) → J a = I a) ∧ PR b J σ) := by
  have hp0 := hp
  obtain ⟨kb, ⟨lb1, lb2, lb3, lb4⟩, kb1, hLb, kb2, kb3, kb4, hTb⟩ := hp
  have hq0 := hq
  obtain ⟨gb, ⟨gb1, gb2, gb3, gb4⟩, gk1, gLb, gk2, gk3, gk4, gTb⟩ := hq
  have hn8 := hw.2.1
  refine MV.of (by decide) (Nat.le_of_ble_eq_true rfl) ?_
  intro p e s m args below meth c ls Qf C hret hP hl
  have C : Cx E p s m args c cX3_copy RX3 3 := C
  have hx := C.1
  have hb := C.2.1
  have hS : va_S (AG E) s.heap s.heap [] := va_S.rf
  have hl : lv_has ls 3 [(0, .ref (ad b)), (1, .ref (ad q))] := hl
  refine lv_aload_n hx hb dX3_copy_0 rfl (lv_at hl 0 rfl) ?_
  refine lv_aload_n hx hb dX3_copy_1 rfl (lv_at hl 1 rfl) ?_
  refine f_X3_36 C hP (by first | assumption | exact hKa _ (by omega)) dX3_copy_2 ?_
  refine p_X3_36 C hP hS (by assumption) dX3_copy_5 (fun H locs hP hS => ?_)
  obtain ⟨I1, eI1⟩ : ∃ Z : Nat → Nat → Int32, Z = up2 I b 0 (I q 0) := ⟨_, rfl⟩
  rw [← eI1] at hP
  refine lv_iconst (v := nI 0) hx hb dX3_copy_8 (by decide) ?_
  refine lv_istore_n (lv' := [(2, .int (nI 0)), (0, .ref (ad b)), (1, .ref (ad q))]) hx hb dX3_copy_9 rfl hl (by decide) rfl (fun ls hl => ?_)
  have hL10_2 : ∀ (d : Nat) (j : Nat) (J : Mem) (H : Heap) (locs : List Loc) (ls : Array Slot), n < j + d → (j ≤ n) → (CP I J σ b j) → Hp E K L ad J H → va_S (AG E) s.heap H locs → lv_has ls 3 [(0, .ref (ad b)), (1, .ref (ad q)), (2, .int (nI j))] → W p l e (rmk 2) s m args below meth c H locs 0 0 Qf (F0 m 10 ls []) := by
    intro d
    induction d with
    | zero => intro j J H locs ls hd hj hc _ _ _; exact absurd hd (by omega)
    | succ d ih =>
      intro j J H locs ls hd hj hc hP hS hl
      have hJ1 : J b 0 = nI n := by rw [hc.2.1, hn]; exact hw.1
      refine lv_iload_n hx hb dX3_copy_10 rfl (lv_at hl 2 rfl) ?_
      refine lv_aload_n hx hb dX3_copy_11 rfl (lv_at hl 0 rfl) ?_
      refine f_X3_36 C hP (by first | assumption | exact hKa _ (by omega)) dX3_copy_12 ?_
      refine r_eqi (y := (nI n)) (hJ1) ?_
      refine b_geN C (by omega) (by omega) dX3_copy_15 (tgt := 39) (by decide) (fun h3 => ?_) (fun h3 => ?_)
      · refine lv_aload_n hx hb dX3_copy_39 rfl (lv_at hl 1 rfl) ?_
        refine f_X3_17 (q := q + 2) C hP (by assumption) (by assumption) rfl dX3_copy_40 ?_
        refine lv_iconst (v := nI 0) hx hb dX3_copy_43 (by decide) ?_
        refine lv_aload_n hx hb dX3_copy_44 rfl (lv_at hl 0 rfl) ?_
        refine f_X3_17 (q := b + 2) C hP (by assumption) (by assumption) rfl dX3_copy_45 ?_
        refine lv_iconst (v := nI 0) hx hb dX3_copy_48 (by decide) ?_
        refine lv_iconst (v := nI 4) hx hb dX3_copy_49 (by decide) ?_
        refine r_acp (n0 := 4) (n1 := 4) C hP hS (by assumption) (by assumption) (by decide) (by decide) (by decide) tm_X3_44 (Nat.le_of_ble_eq_true rfl) (Nat.le_of_ble_eq_true rfl) hl.1 dX3_copy_50 (fun H locs hP hS => ?_)
        obtain ⟨I4, eI4⟩ : ∃ Z : Nat → Nat → Int32, Z = cpy2 J (b + 2) (q + 2) 4 := ⟨_, rfl⟩
        rw [← eI4] at hP
        refine lv_aload_n hx hb dX3_copy_53 rfl (lv_at hl 1 rfl) ?_
        refine f_X3_29 (q := q + 3) C hP (by assumption) (by assumption) rfl dX3_copy_54 ?_
        refine lv_iconst (v := nI 0) hx hb dX3_copy_57 (by decide) ?_
        refine lv_aload_n hx hb dX3_copy_58 rfl (lv_at hl 0 rfl) ?_
        refine f_X3_29 (q := b + 3) C hP (by assumption) (by assumption) rfl dX3_copy_59 ?_
        refine lv_iconst (v := nI 0) hx hb dX3_copy_62 (by decide) ?_
        refine lv_aload_n hx hb dX3_copy_63 rfl (lv_at hl 0 rfl) ?_
        refine f_X3_29 (q := b + 3) C hP (by assumption) (by assumption) rfl dX3_copy_64 ?_
        refine r_alen (n := 4) C hP (by assumption) dX3_copy_67 ?_
        refine r_acp (n0 := 4) (n1 := 4) C hP hS (by assumption) (by assumption) (by decide) (by decide) (by decide) tm_X3_44 (Nat.le_of_ble_eq_true rfl) (Nat.le_of_ble_eq_true rfl) hl.1 dX3_copy_68 (fun H locs hP hS => ?_)
        obtain ⟨I5, eI5⟩ : ∃ Z : Nat → Nat → Int32, Z = cpy2 I4 (b + 3) (q + 3) 4 := ⟨_, rfl⟩
        rw [← eI5] at hP
        refine lv_aload_n hx hb dX3_copy_71 rfl (lv_at hl 1 rfl) ?_
        refine f_X3_32 (q := q + 4) C hP (by assumption) (by assumption) rfl dX3_copy_72 ?_
        refine lv_iconst (v := nI 0) hx hb dX3_copy_75 (by decide) ?_
        refine lv_aload_n hx hb dX3_copy_76 rfl (lv_at hl 0 rfl) ?_
        refine f_X3_32 (q := b + 4) C hP (by assumption) (by assumption) rfl dX3_copy_77 ?_
        refine lv_iconst (v := nI 0) hx hb dX3_copy_80 (by decide) ?_
        refine lv_bipush (v := nI 6) hx hb dX3_copy_81 (by decide) ?_
        refine r_acp (n0 := 6) (n1 := 6) C hP hS (by assumption) (by assumption) (by decide) (by decide) (by decide) tm_X3_44 (Nat.le_of_ble_eq_true rfl) (Nat.le_of_ble_eq_true rfl) hl.1 dX3_copy_83 (fun H locs hP hS => ?_)
        obtain ⟨I6, eI6⟩ : ∃ Z : Nat → Nat → Int32, Z = cpy2 I5 (b + 4) (q + 4) 6 := ⟨_, rfl⟩
        rw [← eI6] at hP
        exact hret _ _ _ _ _ dX3_copy_86 hP hS (by rw [show j = mn σ by omega] at hc; have := CP_e hc hm hbq hn8 (fun t ht => (hw.2.2.1 t ht).2.1) hQ; subst_vars; exact this)
      · have ej := tr_cong (b := b) (hc.2.2.1 j (by omega))
        have fj : tr J q j = tr I q j := tr_cong (by rw [hc.1 (q + 1) (by omega)])
        have hTj := tr_T hp0 hm (show j < 8 by omega)
        have gTj := tr_T hq0 hQ.2.1 (show j < 8 by omega)
        rw [← ej] at hTj
        rw [← fj] at gTj
        have hkj := hTj.1
        have gkj := gTj.1
        have l1 := tr_lo I b j
        have l2 := tr_hi hm (show j < 8 by omega)
        have l3 := tr_lo I q j
        have l4 := tr_hi hQ.2.1 (show j < 8 by omega)
        refine lv_aload_n hx hb dX3_copy_18 rfl (lv_at hl 0 rfl) ?_
        refine f_X3_11 (q := b + 1) C hP (by assumption) (by assumption) rfl dX3_copy_19 ?_
        refine lv_iload_n hx hb dX3_copy_22 rfl (lv_at hl 2 rfl) ?_
        refine r_ald12 (q := tr J b j) C hP (by assumption) (by first | exact hLb _ (by omega) | exact gLb _ (by omega)) (by omega) rfl dX3_copy_23 ?_
        refine lv_aload_n hx hb dX3_copy_24 rfl (lv_at hl 1 rfl) ?_
        refine f_X3_11 (q := q + 1) C hP (by assumption) (by assumption) rfl dX3_copy_25 ?_
        refine lv_iload_n hx hb dX3_copy_28 rfl (lv_at hl 2 rfl) ?_
        refine r_ald12 (q := tr J q j) C hP (by assumption) (by first | exact hLb _ (by omega) | exact gLb _ (by omega)) (by omega) rfl dX3_copy_29 ?_
        refine k_X3_40 C hP hS (by assumption) (c_X5_copy (tr J b j) (tr J q j) hTj gTj (by omega)) ⟨Nat.le_of_ble_eq_true rfl, Nat.le_of_ble_eq_true rfl⟩ ⟨Nat.zero_le _, Nat.zero_le _⟩ hl.1 (Nat.le_of_ble_eq_true rfl) dX3_copy_30 (fun I8 H locs hv9 hP hS => ?_)
        have eI8 := hv9
        rw [ej, fj] at eI8
        refine lv_iinc (v := nI (j + 1)) (lv' := [(2, .int (nI (j + 1))), (0, .ref (ad b)), (1, .ref (ad q))]) hx hb dX3_copy_33 hl (k := 2) rfl (nI_1 _) (by decide) rfl (fun ls hl => ?_)
        refine lv_goto (tgt := 10) hx hb dX3_copy_36 (by decide) ?_
        exact ih (j + 1) I8 _ _ _ (by omega) (by omega) (CP_s hc hm (by omega) hbq (fun t ht => (hw.2.2.1 t (by omega)).2.1) hQ (by omega) eI8) hP hS (lv_sub hl [1, 2, 0] rfl)
  exact hL10_2 (n + 1) 0 I1 _ _ _ (by omega) (by omega) (by rw [eI1]; exact ⟨fun a ha => up2_r (by omega), by rw [up2_s]; exact hQ.1, fun t _ => by rw [up2_r (by omega)], fun t ht => absurd ht (Nat.not_lt_zero t)⟩) hP hS (lv_sub hl [1, 2, 0] rfl)
