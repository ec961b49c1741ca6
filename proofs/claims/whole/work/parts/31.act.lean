/-! acts -/
set_option maxHeartbeats 4000000 in
set_option maxRecDepth 100000 in
theorem c_X0_become {l : Launch} {E : En} {K : Nat → Nat} {L : Nat → Nat → Bool} {ad : Nat → Nat} {I : Nat → Nat → Int32} (r : Nat) (k t x : Int32) (hk : K r = 1) : MV l E K L ad I yX0_become cX0_become 4 1 [.ref (ad r), .int k, .int t, .int x] (fun J => J = set3 I r k (mq k t) (mq k x)) := by
  refine MV.of (by decide) (Nat.le_of_ble_eq_true rfl) ?_
  intro p e s m args below meth c ls Qf C hret hP hl
  have C : Cx E p s m args c cX0_become RX0 4 := C
  have hx := C.1
  have hb := C.2.1
  have hS : va_S (AG E) s.heap s.heap [] := va_S.rf
  have hl : lv_has ls 4 [(0, .ref (ad r)), (1, .int k), (2, .int t), (3, .int x)] := hl
  refine lv_aload_n hx hb dX0_become_0 rfl (lv_at hl 0 rfl) ?_
  refine lv_iload_n hx hb dX0_become_1 rfl (lv_at hl 1 rfl) ?_
  refine p_X0_9 C hP hS (by assumption) dX0_become_2 (fun H locs hP hS => ?_)
  obtain ⟨I1, eI1⟩ : ∃ Z : Nat → Nat → Int32, Z = up2 I r 0 k := ⟨_, rfl⟩
  rw [← eI1] at hP
  refine lv_aload_n hx hb dX0_become_5 rfl (lv_at hl 0 rfl) ?_
  refine lv_iload_n hx hb dX0_become_6 rfl (lv_at hl 1 rfl) ?_
  refine k_X0_21 C hP hS (c_X6_hasTarget k) ⟨Nat.le_of_ble_eq_true rfl, Nat.le_of_ble_eq_true rfl⟩ ⟨Nat.zero_le _, Nat.zero_le _⟩ hl.1 (Nat.le_of_ble_eq_true rfl) dX0_become_7 (fun v2 I3 H locs hv4 hP hS => ?_)
  obtain ⟨eI3, hv4⟩ := hv4
  rw [eI3] at hP
  clear eI3
  rcases hv4 with ⟨rfl, hc5⟩ | ⟨rfl, hc5⟩
  · refine z_eq1 C dX0_become_10 (tgt := 17) (by decide) ?_
    refine lv_iload_n hx hb dX0_become_13 rfl (lv_at hl 2 rfl) ?_
    refine lv_goto (tgt := 19) hx hb dX0_become_14 (by decide) ?_
    refine p_X0_15 C hP hS (by assumption) dX0_become_19 (fun H locs hP hS => ?_)
    obtain ⟨I6, eI6⟩ : ∃ Z : Nat → Nat → Int32, Z = up2 I1 r 1 t := ⟨_, rfl⟩
    rw [← eI6] at hP
    refine lv_aload_n hx hb dX0_become_22 rfl (lv_at hl 0 rfl) ?_
    refine lv_iload_n hx hb dX0_become_23 rfl (lv_at hl 1 rfl) ?_
    refine k_X0_21 C hP hS (c_X6_hasTarget k) ⟨Nat.le_of_ble_eq_true rfl, Nat.le_of_ble_eq_true rfl⟩ ⟨Nat.zero_le _, Nat.zero_le _⟩ hl.1 (Nat.le_of_ble_eq_true rfl) dX0_become_24 (fun v7 I8 H locs hv9 hP hS => ?_)
    obtain ⟨eI8, hv9⟩ := hv9
    rw [eI8] at hP
    clear eI8
    rcases hv9 with ⟨rfl, hc10⟩ | ⟨rfl, hc10⟩
    · refine z_eq1 C dX0_become_27 (tgt := 34) (by decide) ?_
      refine lv_iload_n hx hb dX0_become_30 rfl (lv_at hl 3 rfl) ?_
      refine lv_goto (tgt := 36) hx hb dX0_become_31 (by decide) ?_
      refine p_X0_18 C hP hS (by assumption) dX0_become_36 (fun H locs hP hS => ?_)
      obtain ⟨I11, eI11⟩ : ∃ Z : Nat → Nat → Int32, Z = up2 I6 r 2 x := ⟨_, rfl⟩
      rw [← eI11] at hP
      exact hret _ _ _ _ _ dX0_become_39 hP hS (by simp only [set3]; subst_vars; first | contradiction | rw [mq_t (by assumption), mq_t (by assumption)] | rw [mq_f (by assumption), mq_f (by assumption)])
    · refine z_eq0 C dX0_become_27 (tgt := 34) (by decide) ?_
      refine lv_bipush (v := (-6)) hx hb dX0_become_34 (by decide) ?_
      refine p_X0_18 C hP hS (by assumption) dX0_become_36 (fun H locs hP hS => ?_)
      obtain ⟨I12, eI12⟩ : ∃ Z : Nat → Nat → Int32, Z = up2 I6 r 2 ((-6)) := ⟨_, rfl⟩
      rw [← eI12] at hP
      exact hret _ _ _ _ _ dX0_become_39 hP hS (by simp only [set3]; subst_vars; first | contradiction | rw [mq_t (by assumption), mq_t (by assumption)] | rw [mq_f (by assumption), mq_f (by assumption)])
  · refine z_eq0 C dX0_become_10 (tgt := 17) (by decide) ?_
    refine lv_bipush (v := (-6)) hx hb dX0_become_17 (by decide) ?_
    refine p_X0_15 C hP hS (by assumption) dX0_become_19 (fun H locs hP hS => ?_)
    obtain ⟨I13, eI13⟩ : ∃ Z : Nat → Nat → Int32, Z = up2 I1 r 1 ((-6)) := ⟨_, rfl⟩
    rw [← eI13] at hP
    refine lv_aload_n hx hb dX0_become_22 rfl (lv_at hl 0 rfl) ?_
    refine lv_iload_n hx hb dX0_become_23 rfl (lv_at hl 1 rfl) ?_
    refine k_X0_21 C hP hS (c_X6_hasTarget k) ⟨Nat.le_of_ble_eq_true rfl, Nat.le_of_ble_eq_true rfl⟩ ⟨Nat.zero_le _, Nat.zero_le _⟩ hl.1 (Nat.le_of_ble_eq_true rfl) dX0_become_24 (fun v14 I15 H locs hv16 hP hS => ?_)
    obtain ⟨eI15, hv16⟩ := hv16
    rw [eI15] at hP
    clear eI15
    rcases hv16 with ⟨rfl, hc17⟩ | ⟨rfl, hc17⟩
    · refine z_eq1 C dX0_become_27 (tgt := 34) (by decide) ?_
      refine lv_iload_n hx hb dX0_become_30 rfl (lv_at hl 3 rfl) ?_
      refine lv_goto (tgt := 36) hx hb dX0_become_31 (by decide) ?_
      refine p_X0_18 C hP hS (by assumption) dX0_become_36 (fun H locs hP hS => ?_)
      obtain ⟨I18, eI18⟩ : ∃ Z : Nat → Nat → Int32, Z = up2 I13 r 2 x := ⟨_, rfl⟩
      rw [← eI18] at hP
      exact hret _ _ _ _ _ dX0_become_39 hP hS (by simp only [set3]; subst_vars; first | contradiction | rw [mq_t (by assumption), mq_t (by assumption)] | rw [mq_f (by assumption), mq_f (by assumption)])
    · refine z_eq0 C dX0_become_27 (tgt := 34) (by decide) ?_
      refine lv_bipush (v := (-6)) hx hb dX0_become_34 (by decide) ?_
      refine p_X0_18 C hP hS (by assumption) dX0_become_36 (fun H locs hP hS => ?_)
      obtain ⟨I19, eI19⟩ : ∃ Z : Nat → Nat → Int32, Z = up2 I13 r 2 ((-6)) := ⟨_, rfl⟩
      rw [← eI19] at hP
      exact hret _ _ _ _ _ dX0_become_39 hP hS (by simp only [set3]; subst_vars; first | contradiction | rw [mq_t (by assumption), mq_t (by assumption)] | rw [mq_f (by assumption), mq_f (by assumption)])
set_option maxHeartbeats 4000000 in
set_option maxRecDepth 100000 in
theorem c_X0_copy {l : Launch} {E : En} {K : Nat → Nat} {L : Nat → Nat → Bool} {ad : Nat → Nat} {I : Nat → Nat → Int32} (r q : Nat) (hk : K r = 1) (hkq : K q = 1) (hne : q ≠ r) : MV l E K L ad I yX0_copy cX0_copy 2 0 [.ref (ad r), .ref (ad q)] (fun J => J = set3 I r (I q 0) (I q 1) (I q 2)) := by
  refine MV.of (by decide) (Nat.le_of_ble_eq_true rfl) ?_
  intro p e s m args below meth c ls Qf C hret hP hl
  have C : Cx E p s m args c cX0_copy RX0 2 := C
  have hx := C.1
  have hb := C.2.1
  have hS : va_S (AG E) s.heap s.heap [] := va_S.rf
  have hl : lv_has ls 2 [(0, .ref (ad r)), (1, .ref (ad q))] := hl
  refine lv_aload_n hx hb dX0_copy_0 rfl (lv_at hl 0 rfl) ?_
  refine lv_aload_n hx hb dX0_copy_1 rfl (lv_at hl 1 rfl) ?_
  refine f_X0_9 C hP (by assumption) dX0_copy_2 ?_
  refine p_X0_9 C hP hS (by assumption) dX0_copy_5 (fun H locs hP hS => ?_)
  obtain ⟨I1, eI1⟩ : ∃ Z : Nat → Nat → Int32, Z = up2 I r 0 (I q 0) := ⟨_, rfl⟩
  rw [← eI1] at hP
  refine lv_aload_n hx hb dX0_copy_8 rfl (lv_at hl 0 rfl) ?_
  refine lv_aload_n hx hb dX0_copy_9 rfl (lv_at hl 1 rfl) ?_
  refine f_X0_15 C hP (by assumption) dX0_copy_10 ?_
  refine p_X0_15 C hP hS (by assumption) dX0_copy_13 (fun H locs hP hS => ?_)
  obtain ⟨I2, eI2⟩ : ∃ Z : Nat → Nat → Int32, Z = up2 I1 r 1 (I1 q 1) := ⟨_, rfl⟩
  rw [← eI2] at hP
  refine lv_aload_n hx hb dX0_copy_16 rfl (lv_at hl 0 rfl) ?_
  refine lv_aload_n hx hb dX0_copy_17 rfl (lv_at hl 1 rfl) ?_
  refine f_X0_18 C hP (by assumption) dX0_copy_18 ?_
  refine p_X0_18 C hP hS (by assumption) dX0_copy_21 (fun H locs hP hS => ?_)
  obtain ⟨I3, eI3⟩ : ∃ Z : Nat → Nat → Int32, Z = up2 I2 r 2 (I2 q 2) := ⟨_, rfl⟩
  rw [← eI3] at hP
  exact hret _ _ _ _ _ dX0_copy_24 hP hS (by simp only [set3]; subst_vars; simp only [up2_r hne])
set_option maxHeartbeats 4000000 in
set_option maxRecDepth 100000 in
theorem c_X0_writtenFields {l : Launch} {E : En} {K : Nat → Nat} {L : Nat → Nat → Bool} {ad : Nat → Nat} {I : Nat → Nat → Int32} (r : Nat) (hk : K r = 1) : MI l E K L ad I yX0_writtenFields cX0_writtenFields 1 (some .int) 1 [.ref (ad r)] (fun v J => J = I ∧ v = wrA (I r 0) (I r 1)) := by
  refine MI.of (by decide) (Nat.le_of_ble_eq_true rfl) ?_
  intro p e s m args below meth c ls Qf C hret hP hl
  have C : Cx E p s m args c cX0_writtenFields RX0 1 := C
  have hx := C.1
  have hb := C.2.1
  have hS : va_S (AG E) s.heap s.heap [] := va_S.rf
  have hl : lv_has ls 1 [(0, .ref (ad r))] := hl
  refine lv_aload_n hx hb dX0_writtenFields_0 rfl (lv_at hl 0 rfl) ?_
  refine f_X0_9 C hP (by assumption) dX0_writtenFields_1 ?_
  refine k_X0_21 C hP hS (c_X6_hasTarget ((I r 0))) ⟨Nat.le_of_ble_eq_true rfl, Nat.le_of_ble_eq_true rfl⟩ ⟨Nat.zero_le _, Nat.zero_le _⟩ hl.1 (Nat.le_of_ble_eq_true rfl) dX0_writtenFields_4 (fun v1 I2 H locs hv3 hP hS => ?_)
  obtain ⟨eI2, hv3⟩ := hv3
  rw [eI2] at hP
  clear eI2
  rcases hv3 with ⟨rfl, hc4⟩ | ⟨rfl, hc4⟩
  · refine z_eq1 C dX0_writtenFields_7 (tgt := 19) (by decide) ?_
    refine lv_iconst (v := nI 1) hx hb dX0_writtenFields_10 (by decide) ?_
    refine lv_aload_n hx hb dX0_writtenFields_11 rfl (lv_at hl 0 rfl) ?_
    refine f_X0_15 C hP (by assumption) dX0_writtenFields_12 ?_
    refine lv_ishl hx hb dX0_writtenFields_15 ?_
    refine lv_topi (fun x5 ex5 => ?_)
    refine lv_goto (tgt := 20) hx hb dX0_writtenFields_16 (by decide) ?_
    exact hret _ _ _ _ _ _ dX0_writtenFields_20 hP hS (⟨rfl, by rw [wrA, if_pos (by assumption)]; exact ex5⟩)
  · refine z_eq0 C dX0_writtenFields_7 (tgt := 19) (by decide) ?_
    refine lv_iconst (v := nI 0) hx hb dX0_writtenFields_19 (by decide) ?_
    exact hret _ _ _ _ _ _ dX0_writtenFields_20 hP hS (⟨rfl, by rw [wrA, if_neg (by assumption)]⟩)
set_option maxHeartbeats 4000000 in
set_option maxRecDepth 100000 in
theorem c_X0_ownRegisters {l : Launch} {E : En} {K : Nat → Nat} {L : Nat → Nat → Bool} {ad : Nat → Nat} {I : Nat → Nat → Int32} (r : Nat) (hk : K r = 1) : MI l E K L ad I yX0_ownRegisters cX0_ownRegisters 1 (some .int) 1 [.ref (ad r)] (fun v J => J = I ∧ v = rgA (I r 0) (I r 2)) := by
  refine MI.of (by decide) (Nat.le_of_ble_eq_true rfl) ?_
  intro p e s m args below meth c ls Qf C hret hP hl
  have C : Cx E p s m args c cX0_ownRegisters RX0 1 := C
  have hx := C.1
  have hb := C.2.1
  have hS : va_S (AG E) s.heap s.heap [] := va_S.rf
  have hl : lv_has ls 1 [(0, .ref (ad r))] := hl
  refine lv_aload_n hx hb dX0_ownRegisters_0 rfl (lv_at hl 0 rfl) ?_
  refine f_X0_9 C hP (by assumption) dX0_ownRegisters_1 ?_
  refine k_X0_25 C hP hS (c_X6_hasRegister ((I r 0))) ⟨Nat.le_of_ble_eq_true rfl, Nat.le_of_ble_eq_true rfl⟩ ⟨Nat.zero_le _, Nat.zero_le _⟩ hl.1 (Nat.le_of_ble_eq_true rfl) dX0_ownRegisters_4 (fun v1 I2 H locs hv3 hP hS => ?_)
  obtain ⟨eI2, hv3⟩ := hv3
  rw [eI2] at hP
  clear eI2
  rcases hv3 with ⟨rfl, hc4⟩ | ⟨rfl, hc4⟩
  · refine z_eq1 C dX0_ownRegisters_7 (tgt := 19) (by decide) ?_
    refine lv_iconst (v := nI 1) hx hb dX0_ownRegisters_10 (by decide) ?_
    refine lv_aload_n hx hb dX0_ownRegisters_11 rfl (lv_at hl 0 rfl) ?_
    refine f_X0_18 C hP (by assumption) dX0_ownRegisters_12 ?_
    refine lv_ishl hx hb dX0_ownRegisters_15 ?_
    refine lv_topi (fun x5 ex5 => ?_)
    refine lv_goto (tgt := 20) hx hb dX0_ownRegisters_16 (by decide) ?_
    exact hret _ _ _ _ _ _ dX0_ownRegisters_20 hP hS (⟨rfl, by rw [rgA, if_pos (by assumption)]; exact ex5⟩)
  · refine z_eq0 C dX0_ownRegisters_7 (tgt := 19) (by decide) ?_
    refine lv_iconst (v := nI 0) hx hb dX0_ownRegisters_19 (by decide) ?_
    exact hret _ _ _ _ _ _ dX0_ownRegisters_20 hP hS (⟨rfl, by rw [rgA, if_neg (by assumption)]⟩)
set_option maxHeartbeats 4000000 in
set_option maxRecDepth 100000 in
theorem c_X0_readFields {l : Launch} {E : En} {K : Nat → Nat} {L : Nat → Nat → Bool} {ad : Nat → Nat} {I : Nat → Nat → Int32} (r : Nat) (hk : K r = 1) : MI l E K L ad I yX0_readFields cX0_readFields 1 (some .int) 0 [.ref (ad r)] (fun v J => J = I ∧ v = rdA (I r 0) (I r 1) (I r 2)) := by
  refine MI.of (by decide) (Nat.le_of_ble_eq_true rfl) ?_
  intro p e s m args below meth c ls Qf C hret hP hl
  have C : Cx E p s m args c cX0_readFields RX0 1 := C
  have hx := C.1
  have hb := C.2.1
  have hS : va_S (AG E) s.heap s.heap [] := va_S.rf
  have hl : lv_has ls 1 [(0, .ref (ad r))] := hl
  refine lv_aload_n hx hb dX0_readFields_0 rfl (lv_at hl 0 rfl) ?_
  refine f_X0_9 C hP (by assumption) dX0_readFields_1 ?_
  by_cases sw1 : ((I r 0) : Int32).toInt = 2
  · refine sw_in C dX0_readFields_4 sw1 (by decide) (by decide) (off := 40) (by decide) (tgt := 44) (by decide) ?_
    refine lv_iconst (v := nI 1) hx hb dX0_readFields_44 (by decide) ?_
    refine lv_aload_n hx hb dX0_readFields_45 rfl (lv_at hl 0 rfl) ?_
    refine f_X0_18 C hP (by assumption) dX0_readFields_46 ?_
    refine lv_ishl hx hb dX0_readFields_49 ?_
    refine lv_topi (fun x2 ex2 => ?_)
    exact hret _ _ _ _ _ _ dX0_readFields_50 hP hS (⟨rfl, by subst_vars; simp [rdA, *]⟩)
  · by_cases sw3 : ((I r 0) : Int32).toInt = 3
    · refine sw_in C dX0_readFields_4 sw3 (by decide) (by decide) (off := 47) (by decide) (tgt := 51) (by decide) ?_
      refine lv_iconst (v := nI 1) hx hb dX0_readFields_51 (by decide) ?_
      refine lv_aload_n hx hb dX0_readFields_52 rfl (lv_at hl 0 rfl) ?_
      refine f_X0_15 C hP (by assumption) dX0_readFields_53 ?_
      refine lv_ishl hx hb dX0_readFields_56 ?_
      refine lv_topi (fun x4 ex4 => ?_)
      exact hret _ _ _ _ _ _ dX0_readFields_57 hP hS (⟨rfl, by subst_vars; simp [rdA, *]⟩)
    · by_cases sw5 : ((I r 0) : Int32).toInt = 4
      · refine sw_in C dX0_readFields_4 sw5 (by decide) (by decide) (off := 54) (by decide) (tgt := 58) (by decide) ?_
        refine lv_iconst (v := nI 1) hx hb dX0_readFields_58 (by decide) ?_
        refine lv_aload_n hx hb dX0_readFields_59 rfl (lv_at hl 0 rfl) ?_
        refine f_X0_15 C hP (by assumption) dX0_readFields_60 ?_
        refine lv_ishl hx hb dX0_readFields_63 ?_
        refine lv_topi (fun x6 ex6 => ?_)
        refine lv_iconst (v := nI 1) hx hb dX0_readFields_64 (by decide) ?_
        refine lv_aload_n hx hb dX0_readFields_65 rfl (lv_at hl 0 rfl) ?_
        refine f_X0_18 C hP (by assumption) dX0_readFields_66 ?_
        refine lv_ishl hx hb dX0_readFields_69 ?_
        refine lv_topi (fun x7 ex7 => ?_)
        refine lv_ior hx hb dX0_readFields_70 ?_
        refine lv_topi (fun x8 ex8 => ?_)
        exact hret _ _ _ _ _ _ dX0_readFields_71 hP hS (⟨rfl, by subst_vars; simp [rdA, *]⟩)
      · by_cases sw9 : ((I r 0) : Int32).toInt = 6
        · refine sw_in C dX0_readFields_4 sw9 (by decide) (by decide) (off := 47) (by decide) (tgt := 51) (by decide) ?_
          refine lv_iconst (v := nI 1) hx hb dX0_readFields_51 (by decide) ?_
          refine lv_aload_n hx hb dX0_readFields_52 rfl (lv_at hl 0 rfl) ?_
          refine f_X0_15 C hP (by assumption) dX0_readFields_53 ?_
          refine lv_ishl hx hb dX0_readFields_56 ?_
          refine lv_topi (fun x10 ex10 => ?_)
          exact hret _ _ _ _ _ _ dX0_readFields_57 hP hS (⟨rfl, by subst_vars; simp [rdA, *]⟩)
        · by_cases sw11 : ((I r 0) : Int32).toInt = 7
          · refine sw_in C dX0_readFields_4 sw11 (by decide) (by decide) (off := 47) (by decide) (tgt := 51) (by decide) ?_
            refine lv_iconst (v := nI 1) hx hb dX0_readFields_51 (by decide) ?_
            refine lv_aload_n hx hb dX0_readFields_52 rfl (lv_at hl 0 rfl) ?_
            refine f_X0_15 C hP (by assumption) dX0_readFields_53 ?_
            refine lv_ishl hx hb dX0_readFields_56 ?_
            refine lv_topi (fun x12 ex12 => ?_)
            exact hret _ _ _ _ _ _ dX0_readFields_57 hP hS (⟨rfl, by subst_vars; simp [rdA, *]⟩)
          · by_cases sw13 : ((I r 0) : Int32).toInt = 5
            · refine sw_in C dX0_readFields_4 sw13 (by decide) (by decide) (off := 68) (by decide) (tgt := 72) (by decide) ?_
              refine lv_iconst (v := nI 0) hx hb dX0_readFields_72 (by decide) ?_
              exact hret _ _ _ _ _ _ dX0_readFields_73 hP hS (⟨rfl, by subst_vars; simp [rdA, *]⟩)
            · refine lv_tableOut hx hb dX0_readFields_4 (by omega) (tgt := 72) (by decide) ?_
              refine lv_iconst (v := nI 0) hx hb dX0_readFields_72 (by decide) ?_
              exact hret _ _ _ _ _ _ dX0_readFields_73 hP hS (⟨rfl, by subst_vars; simp [rdA, *]⟩)
