/-! the packing -/
set_option maxHeartbeats 4000000 in
set_option maxRecDepth 100000 in
theorem c_X2_needOf {l : Launch} {E : En} {K : Nat → Nat} {L : Nat → Nat → Bool} {ad : Nat → Nat} {I : Nat → Nat → Int32} (k t e : Nat) (hk : IsK K L k) (ht : t < 8) (he : e < 8) : MI l E K L ad I yX2_needOf cX2_needOf 3 (some .int) 0 [.ref (ad k), .int (nI t), .int (nI e)] (fun r J => J = I ∧ r = nI (ndR (I (k + 2) e) (I (k + 3) e) (I (k + 1) t) (I (k + 3) t) (I (k + 2) t))) := by
  have kk0 := hk
  obtain ⟨kk, hA⟩ := hk
  have a0 := (hA 0 (by decide)).1
  have c0 : K (k + 1) = 108 := (hA 0 (by decide)).2
  have a1 := (hA 1 (by decide)).1
  have c1 : K (k + 2) = 108 := (hA 1 (by decide)).2
  have a2 := (hA 2 (by decide)).1
  have c2 : K (k + 3) = 108 := (hA 2 (by decide)).2
  have a3 := (hA 3 (by decide)).1
  have c3 : K (k + 4) = 108 := (hA 3 (by decide)).2
  have a4 := (hA 4 (by decide)).1
  have c4 : K (k + 5) = 108 := (hA 4 (by decide)).2
  have a5 := (hA 5 (by decide)).1
  have c5 : K (k + 6) = 108 := (hA 5 (by decide)).2
  have a6 := (hA 6 (by decide)).1
  have c6 : K (k + 7) = 108 := (hA 6 (by decide)).2
  have a7 := (hA 7 (by decide)).1
  have c7 : K (k + 8) = 108 := (hA 7 (by decide)).2
  have a8 := (hA 8 (by decide)).1
  have c8 : K (k + 9) = 108 := (hA 8 (by decide)).2
  have a9 := (hA 9 (by decide)).1
  have c9 : K (k + 10) = 108 := (hA 9 (by decide)).2
  refine MI.of (by decide) (Nat.le_of_ble_eq_true rfl) ?_
  intro p ee s m args below meth c ls Qf C hret hP hl
  have C : Cx E p s m args c cX2_needOf RX2 3 := C
  have hx := C.1
  have hb := C.2.1
  have hS : va_S (AG E) s.heap s.heap [] := va_S.rf
  have hl : lv_has ls 3 [(0, .ref (ad k)), (1, .int (nI t)), (2, .int (nI e))] := hl
  refine lv_aload_n hx hb dX2_needOf_0 rfl (lv_at hl 0 rfl) ?_
  refine f_X2_15 (q := k + 2) C hP (by assumption) (by assumption) rfl dX2_needOf_1 ?_
  refine lv_iload_n hx hb dX2_needOf_4 rfl (lv_at hl 2 rfl) ?_
  refine r_iald (n := 8) C hP (by assumption) (by omega) (by decide) dX2_needOf_5 ?_
  refine lv_iconst (v := nI 1) hx hb dX2_needOf_6 (by decide) ?_
  refine lv_aload_n hx hb dX2_needOf_7 rfl (lv_at hl 0 rfl) ?_
  refine f_X2_9 (q := k + 1) C hP (by assumption) (by assumption) rfl dX2_needOf_8 ?_
  refine lv_iload_n hx hb dX2_needOf_11 rfl (lv_at hl 1 rfl) ?_
  refine r_iald (n := 8) C hP (by assumption) (by omega) (by decide) dX2_needOf_12 ?_
  refine lv_ishl hx hb dX2_needOf_13 ?_
  refine lv_topi (fun x1 ex1 => ?_)
  refine lv_iand hx hb dX2_needOf_14 ?_
  refine lv_topi (fun x2 ex2 => ?_)
  refine z_eq C dX2_needOf_15 (tgt := 20) (by decide) (fun h3 => ?_) (fun h3 => ?_)
  · refine lv_aload_n hx hb dX2_needOf_20 rfl (lv_at hl 0 rfl) ?_
    refine f_X2_15 (q := k + 2) C hP (by assumption) (by assumption) rfl dX2_needOf_21 ?_
    refine lv_iload_n hx hb dX2_needOf_24 rfl (lv_at hl 2 rfl) ?_
    refine r_iald (n := 8) C hP (by assumption) (by omega) (by decide) dX2_needOf_25 ?_
    refine lv_aload_n hx hb dX2_needOf_26 rfl (lv_at hl 0 rfl) ?_
    refine f_X2_18 (q := k + 3) C hP (by assumption) (by assumption) rfl dX2_needOf_27 ?_
    refine lv_iload_n hx hb dX2_needOf_30 rfl (lv_at hl 1 rfl) ?_
    refine r_iald (n := 8) C hP (by assumption) (by omega) (by decide) dX2_needOf_31 ?_
    refine lv_aload_n hx hb dX2_needOf_32 rfl (lv_at hl 0 rfl) ?_
    refine f_X2_15 (q := k + 2) C hP (by assumption) (by assumption) rfl dX2_needOf_33 ?_
    refine lv_iload_n hx hb dX2_needOf_36 rfl (lv_at hl 1 rfl) ?_
    refine r_iald (n := 8) C hP (by assumption) (by omega) (by decide) dX2_needOf_37 ?_
    refine lv_ior hx hb dX2_needOf_38 ?_
    refine lv_topi (fun x4 ex4 => ?_)
    refine lv_iand hx hb dX2_needOf_39 ?_
    refine lv_topi (fun x5 ex5 => ?_)
    refine z_eq C dX2_needOf_40 (tgt := 45) (by decide) (fun h6 => ?_) (fun h6 => ?_)
    · refine lv_aload_n hx hb dX2_needOf_45 rfl (lv_at hl 0 rfl) ?_
      refine f_X2_15 (q := k + 2) C hP (by assumption) (by assumption) rfl dX2_needOf_46 ?_
      refine lv_iload_n hx hb dX2_needOf_49 rfl (lv_at hl 1 rfl) ?_
      refine r_iald (n := 8) C hP (by assumption) (by omega) (by decide) dX2_needOf_50 ?_
      refine lv_aload_n hx hb dX2_needOf_51 rfl (lv_at hl 0 rfl) ?_
      refine f_X2_18 (q := k + 3) C hP (by assumption) (by assumption) rfl dX2_needOf_52 ?_
      refine lv_iload_n hx hb dX2_needOf_55 rfl (lv_at hl 2 rfl) ?_
      refine r_iald (n := 8) C hP (by assumption) (by omega) (by decide) dX2_needOf_56 ?_
      refine lv_iand hx hb dX2_needOf_57 ?_
      refine lv_topi (fun x7 ex7 => ?_)
      refine z_eq C dX2_needOf_58 (tgt := 65) (by decide) (fun h8 => ?_) (fun h8 => ?_)
      · refine lv_iconst (v := nI 0) hx hb dX2_needOf_65 (by decide) ?_
        exact hret _ _ _ _ _ _ dX2_needOf_66 hP hS (⟨rfl, by unfold ndR; rw [if_neg (fun q => q (by rw [ex2, ex1] at h3; exact h3)), if_neg (fun q => q (by rw [ex5, ex4] at h6; exact h6)), if_neg (fun q => q (by rw [ex7] at h8; exact h8))]⟩)
      · refine lv_iconst (v := nI 1) hx hb dX2_needOf_61 (by decide) ?_
        refine lv_goto (tgt := 66) hx hb dX2_needOf_62 (by decide) ?_
        exact hret _ _ _ _ _ _ dX2_needOf_66 hP hS (⟨rfl, by unfold ndR; rw [if_neg (fun q => q (by rw [ex2, ex1] at h3; exact h3)), if_neg (fun q => q (by rw [ex5, ex4] at h6; exact h6)), if_pos (by rw [ex7] at h8; exact h8)]⟩)
    · refine lv_iconst (v := nI 2) hx hb dX2_needOf_43 (by decide) ?_
      exact hret _ _ _ _ _ _ dX2_needOf_44 hP hS (⟨rfl, by unfold ndR; rw [if_neg (fun q => q (by rw [ex2, ex1] at h3; exact h3)), if_pos (by rw [ex5, ex4] at h6; exact h6)]⟩)
  · refine lv_iconst (v := nI 3) hx hb dX2_needOf_18 (by decide) ?_
    exact hret _ _ _ _ _ _ dX2_needOf_19 hP hS (⟨rfl, by unfold ndR; rw [if_pos (by rw [ex2, ex1] at h3; exact h3)]⟩)
set_option maxHeartbeats 4000000 in
set_option maxRecDepth 100000 in
theorem c_X2_look {l : Launch} {E : En} {K : Nat → Nat} {L : Nat → Nat → Bool} {ad : Nat → Nat} {I : Nat → Nat → Int32} {σ : Mem} (k t h : Nat) (hk : IsK K L k) (hIT : IsT K L h) (ht : t < 8) (hI : PKI I σ k t) (hT : TRp h I σ t) (hW : WFt σ t) (hd : h + 8 ≤ k ∨ k + 11 ≤ h) : MV l E K L ad I yX2_look cX2_look 5 3 [.ref (ad k), .int (nI t), .ref (ad h)] (fun J => (∀ a, a < k + 1 ∨ k + 7 < a → J a = I a) ∧ PKI J σ k (t + 1)) := by
  have kk0 := hk
  obtain ⟨kk, hA⟩ := hk
  have a0 := (hA 0 (by decide)).1
  have c0 : K (k + 1) = 108 := (hA 0 (by decide)).2
  have a1 := (hA 1 (by decide)).1
  have c1 : K (k + 2) = 108 := (hA 1 (by decide)).2
  have a2 := (hA 2 (by decide)).1
  have c2 : K (k + 3) = 108 := (hA 2 (by decide)).2
  have a3 := (hA 3 (by decide)).1
  have c3 : K (k + 4) = 108 := (hA 3 (by decide)).2
  have a4 := (hA 4 (by decide)).1
  have c4 : K (k + 5) = 108 := (hA 4 (by decide)).2
  have a5 := (hA 5 (by decide)).1
  have c5 : K (k + 6) = 108 := (hA 5 (by decide)).2
  have a6 := (hA 6 (by decide)).1
  have c6 : K (k + 7) = 108 := (hA 6 (by decide)).2
  have a7 := (hA 7 (by decide)).1
  have c7 : K (k + 8) = 108 := (hA 7 (by decide)).2
  have a8 := (hA 8 (by decide)).1
  have c8 : K (k + 9) = 108 := (hA 8 (by decide)).2
  have a9 := (hA 9 (by decide)).1
  have c9 : K (k + 10) = 108 := (hA 9 (by decide)).2
  have hk6 := hIT.1
  refine MV.of (by decide) (Nat.le_of_ble_eq_true rfl) ?_
  intro p ee s m args below meth c ls Qf C hret hP hl
  have C : Cx E p s m args c cX2_look RX2 5 := C
  have hx := C.1
  have hb := C.2.1
  have hS : va_S (AG E) s.heap s.heap [] := va_S.rf
  have hl : lv_has ls 5 [(0, .ref (ad k)), (1, .int (nI t)), (2, .ref (ad h))] := hl
  refine lv_aload_n hx hb dX2_look_0 rfl (lv_at hl 0 rfl) ?_
  refine f_X2_9 (q := k + 1) C hP (by assumption) (by assumption) rfl dX2_look_1 ?_
  refine lv_iload_n hx hb dX2_look_4 rfl (lv_at hl 1 rfl) ?_
  refine lv_aload_n hx hb dX2_look_5 rfl (lv_at hl 2 rfl) ?_
  refine f_X2_73 C hP (by first | assumption | exact hKa _ (by omega)) dX2_look_6 ?_
  refine r_iast (n := 8) C hP hS (by assumption) (by omega) (by decide) dX2_look_9 (fun H locs hP hS => ?_)
  obtain ⟨I1, eI1⟩ : ∃ Z : Nat → Nat → Int32, Z = up2 I (k + 1) t (I h 0) := ⟨_, rfl⟩
  rw [← eI1] at hP
  refine lv_aload_n hx hb dX2_look_10 rfl (lv_at hl 0 rfl) ?_
  refine f_X2_15 (q := k + 2) C hP (by assumption) (by assumption) rfl dX2_look_11 ?_
  refine lv_iload_n hx hb dX2_look_14 rfl (lv_at hl 1 rfl) ?_
  refine lv_aload_n hx hb dX2_look_15 rfl (lv_at hl 2 rfl) ?_
  have hTq : TRp h I1 σ t := TRp_cong hW.2.1 (fun a h1 h2 => by subst_vars; first | rfl | (rw [up2_r (by omega), up2_r (by omega), up2_r (by omega)]) | (rw [up2_r (by omega), up2_r (by omega)]) | (rw [up2_r (by omega)])) hT
  refine k_X2_78 C hP hS (by assumption) (c_X5_writtenFields h (en σ t) hIT (by rw [hTq.2.1]; exact hW.1) hW.2.1) ⟨Nat.le_of_ble_eq_true rfl, Nat.le_of_ble_eq_true rfl⟩ ⟨Nat.zero_le _, Nat.zero_le _⟩ hl.1 (Nat.le_of_ble_eq_true rfl) dX2_look_16 (fun v2 I3 H locs hv4 hP hS => ?_)
  obtain ⟨eI3, ev2⟩ := hv4
  rw [eI3] at hP
  clear eI3
  have q1 := ev2.trans (wrS_rep hTq)
  clear hTq
  refine r_iast (n := 8) C hP hS (by assumption) (by omega) (by decide) dX2_look_19 (fun H locs hP hS => ?_)
  obtain ⟨I5, eI5⟩ : ∃ Z : Nat → Nat → Int32, Z = up2 I1 (k + 2) t v2 := ⟨_, rfl⟩
  rw [← eI5] at hP
  refine lv_aload_n hx hb dX2_look_20 rfl (lv_at hl 0 rfl) ?_
  refine f_X2_18 (q := k + 3) C hP (by assumption) (by assumption) rfl dX2_look_21 ?_
  refine lv_iload_n hx hb dX2_look_24 rfl (lv_at hl 1 rfl) ?_
  refine lv_aload_n hx hb dX2_look_25 rfl (lv_at hl 2 rfl) ?_
  have hTq : TRp h I5 σ t := TRp_cong hW.2.1 (fun a h1 h2 => by subst_vars; first | rfl | (rw [up2_r (by omega), up2_r (by omega), up2_r (by omega)]) | (rw [up2_r (by omega), up2_r (by omega)]) | (rw [up2_r (by omega)])) hT
  refine k_X2_82 C hP hS (by assumption) (c_X5_readFields h (en σ t) hIT (by rw [hTq.2.1]; exact hW.1) hW.2.1) ⟨Nat.le_of_ble_eq_true rfl, Nat.le_of_ble_eq_true rfl⟩ ⟨Nat.zero_le _, Nat.zero_le _⟩ hl.1 (Nat.le_of_ble_eq_true rfl) dX2_look_26 (fun v6 I7 H locs hv8 hP hS => ?_)
  obtain ⟨eI7, ev6⟩ := hv8
  rw [eI7] at hP
  clear eI7
  have q2 := ev6.trans (rdS_rep hTq)
  clear hTq
  refine r_iast (n := 8) C hP hS (by assumption) (by omega) (by decide) dX2_look_29 (fun H locs hP hS => ?_)
  obtain ⟨I9, eI9⟩ : ∃ Z : Nat → Nat → Int32, Z = up2 I5 (k + 3) t v6 := ⟨_, rfl⟩
  rw [← eI9] at hP
  refine lv_aload_n hx hb dX2_look_30 rfl (lv_at hl 0 rfl) ?_
  refine f_X2_21 (q := k + 4) C hP (by assumption) (by assumption) rfl dX2_look_31 ?_
  refine lv_iload_n hx hb dX2_look_34 rfl (lv_at hl 1 rfl) ?_
  refine lv_aload_n hx hb dX2_look_35 rfl (lv_at hl 2 rfl) ?_
  have hTq : TRp h I9 σ t := TRp_cong hW.2.1 (fun a h1 h2 => by subst_vars; first | rfl | (rw [up2_r (by omega), up2_r (by omega), up2_r (by omega)]) | (rw [up2_r (by omega), up2_r (by omega)]) | (rw [up2_r (by omega)])) hT
  refine k_X2_85 C hP hS (by assumption) (c_X5_size h (by assumption)) ⟨Nat.le_of_ble_eq_true rfl, Nat.le_of_ble_eq_true rfl⟩ ⟨Nat.zero_le _, Nat.zero_le _⟩ hl.1 (Nat.le_of_ble_eq_true rfl) dX2_look_36 (fun v10 I11 H locs hv12 hP hS => ?_)
  obtain ⟨eI11, ev10⟩ := hv12
  rw [eI11] at hP
  clear eI11
  have q3 := ev10.trans (by rw [hTq.2.1, hW.1, nI_add])
  clear hTq
  refine r_iast (n := 8) C hP hS (by assumption) (by omega) (by decide) dX2_look_39 (fun H locs hP hS => ?_)
  obtain ⟨I13, eI13⟩ : ∃ Z : Nat → Nat → Int32, Z = up2 I9 (k + 4) t v10 := ⟨_, rfl⟩
  rw [← eI13] at hP
  refine lv_aload_n hx hb dX2_look_40 rfl (lv_at hl 0 rfl) ?_
  refine f_X2_24 (q := k + 5) C hP (by assumption) (by assumption) rfl dX2_look_41 ?_
  refine lv_iload_n hx hb dX2_look_44 rfl (lv_at hl 1 rfl) ?_
  refine lv_iconst (v := nI 0) hx hb dX2_look_45 (by decide) ?_
  refine r_iast (n := 8) C hP hS (by assumption) (by omega) (by decide) dX2_look_46 (fun H locs hP hS => ?_)
  obtain ⟨I14, eI14⟩ : ∃ Z : Nat → Nat → Int32, Z = up2 I13 (k + 5) t (nI 0) := ⟨_, rfl⟩
  rw [← eI14] at hP
  refine lv_aload_n hx hb dX2_look_47 rfl (lv_at hl 0 rfl) ?_
  refine f_X2_27 (q := k + 6) C hP (by assumption) (by assumption) rfl dX2_look_48 ?_
  refine lv_iload_n hx hb dX2_look_51 rfl (lv_at hl 1 rfl) ?_
  refine lv_iconst (v := nI 0) hx hb dX2_look_52 (by decide) ?_
  refine r_iast (n := 8) C hP hS (by assumption) (by omega) (by decide) dX2_look_53 (fun H locs hP hS => ?_)
  obtain ⟨I15, eI15⟩ : ∃ Z : Nat → Nat → Int32, Z = up2 I14 (k + 6) t (nI 0) := ⟨_, rfl⟩
  rw [← eI15] at hP
  refine lv_aload_n hx hb dX2_look_54 rfl (lv_at hl 0 rfl) ?_
  refine f_X2_30 (q := k + 7) C hP (by assumption) (by assumption) rfl dX2_look_55 ?_
  refine lv_iload_n hx hb dX2_look_58 rfl (lv_at hl 1 rfl) ?_
  refine lv_iconst (v := nI 0) hx hb dX2_look_59 (by decide) ?_
  refine r_iast (n := 8) C hP hS (by assumption) (by omega) (by decide) dX2_look_60 (fun H locs hP hS => ?_)
  obtain ⟨I16, eI16⟩ : ∃ Z : Nat → Nat → Int32, Z = up2 I15 (k + 7) t (nI 0) := ⟨_, rfl⟩
  rw [← eI16] at hP
  refine lv_iconst (v := nI 0) hx hb dX2_look_61 (by decide) ?_
  refine lv_istore_n (lv' := [(3, .int (nI 0)), (0, .ref (ad k)), (1, .int (nI t)), (2, .ref (ad h))]) hx hb dX2_look_62 rfl hl (by decide) rfl (fun ls hl => ?_)
  have lkk : LK I I16 σ k t 0 := by
    subst_vars
    refine ⟨fun a ha => ?_, fun e he => PKr_cong (fun a _ _ => ?_) (hI e he), ?_, ?_, ?_, ?_, ?_, ?_, ?_⟩
    · rw [up2_r (by omega), up2_r (by omega), up2_r (by omega), up2_r (by omega), up2_r (by omega), up2_r (by omega), up2_r (by omega)]
    · rw [up2_k (by omega), up2_k (by omega), up2_k (by omega), up2_k (by omega), up2_k (by omega), up2_k (by omega), up2_k (by omega)]
    · rw [up2_r (by omega), up2_r (by omega), up2_r (by omega), up2_r (by omega), up2_r (by omega), up2_r (by omega), up2_s]; exact hT.1
    · rw [up2_r (by omega), up2_r (by omega), up2_r (by omega), up2_r (by omega), up2_r (by omega), up2_s]
    · rw [up2_r (by omega), up2_r (by omega), up2_r (by omega), up2_r (by omega), up2_s]
    · rw [up2_r (by omega), up2_r (by omega), up2_r (by omega), up2_s]
    · rw [up2_r (by omega), up2_r (by omega), up2_s]; rfl
    · rw [up2_r (by omega), up2_s]; rfl
    · rw [up2_s]; rfl
  have hL63_17 : ∀ (d : Nat) (j : Nat) (J : Mem) (H : Heap) (locs : List Loc) (ls : Array Slot), t < j + d → (j ≤ t) → (LK I J σ k t j) → Hp E K L ad J H → va_S (AG E) s.heap H locs → lv_has ls 5 [(0, .ref (ad k)), (1, .int (nI t)), (3, .int (nI j))] → W p l ee (rmk 3) s m args below meth c H locs 0 0 Qf (F0 m 63 ls []) := by
    intro d
    induction d with
    | zero => intro j J H locs ls hd hj hc _ _ _; exact absurd hd (by omega)
    | succ d ih =>
      intro j J H locs ls hd hj hc hP hS hl
      refine lv_iload_n hx hb dX2_look_63 rfl (lv_at hl 2 rfl) ?_
      refine lv_iload_n hx hb dX2_look_64 rfl (lv_at hl 1 rfl) ?_
      refine b_geN C (by omega) (by omega) dX2_look_65 (tgt := 144) (by decide) (fun h18 => ?_) (fun h18 => ?_)
      · exact hret _ _ _ _ _ dX2_look_144 hP hS (by rw [show j = t by omega] at hc; exact LK_e hc)
      · refine lv_aload_n hx hb dX2_look_68 rfl (lv_at hl 0 rfl) ?_
        refine lv_iload_n hx hb dX2_look_69 rfl (lv_at hl 1 rfl) ?_
        refine lv_iload_n hx hb dX2_look_70 rfl (lv_at hl 2 rfl) ?_
        have hnd := nd_le σ j t
        refine k_X2_87 C hP hS (by assumption) (c_X2_needOf k t j kk0 (by omega) (by omega)) ⟨Nat.le_of_ble_eq_true rfl, Nat.le_of_ble_eq_true rfl⟩ ⟨Nat.zero_le _, Nat.zero_le _⟩ hl.1 (Nat.le_of_ble_eq_true rfl) dX2_look_71 (fun v19 I20 H locs hv21 hP hS => ?_)
        obtain ⟨eI20, ev19⟩ := hv21
        rw [eI20] at hP
        clear eI20
        refine r_eqi (y := nI (nd σ j t)) (ev19.trans (congrArg nI (LK_nd hc (by omega)))) ?_
        refine lv_istore (lv' := [(4, .int (nI (nd σ j t))), (0, .ref (ad k)), (1, .int (nI t)), (3, .int (nI j))]) hx hb dX2_look_74 hl (by decide) rfl (fun ls hl => ?_)
        refine lv_iload hx hb dX2_look_76 (lv_at hl 0 rfl) ?_
        refine lv_iconst (v := nI 2) hx hb dX2_look_78 (by decide) ?_
        refine b_ltN C (by omega) (by omega) dX2_look_79 (tgt := 120) (by decide) (fun h22 => ?_) (fun h22 => ?_)
        · refine lv_iload hx hb dX2_look_120 (lv_at hl 0 rfl) ?_
          refine lv_iconst (v := nI 1) hx hb dX2_look_122 (by decide) ?_
          refine b_neN C (by omega) (by omega) dX2_look_123 (tgt := 138) (by decide) (fun h23 => ?_) (fun h23 => ?_)
          · refine lv_iinc (v := nI (j + 1)) (lv' := [(3, .int (nI (j + 1))), (4, .int (nI (nd σ j t))), (0, .ref (ad k)), (1, .int (nI t))]) hx hb dX2_look_138 hl (k := 3) rfl (nI_1 _) (by decide) rfl (fun ls hl => ?_)
            refine lv_goto (tgt := 63) hx hb dX2_look_141 (by decide) ?_
            exact ih (j + 1) J _ _ _ (by omega) (by omega) (LK_0 hc (by omega)) hP hS (lv_sub hl [2, 3, 0] rfl)
          · refine lv_aload_n hx hb dX2_look_126 rfl (lv_at hl 1 rfl) ?_
            refine f_X2_27 (q := k + 6) C hP (by assumption) (by assumption) rfl dX2_look_127 ?_
            refine lv_iload_n hx hb dX2_look_130 rfl (lv_at hl 2 rfl) ?_
            refine lv_dup2_11 hx hb dX2_look_131 rfl rfl ?_
            refine r_iald (n := 8) C hP (by assumption) (by omega) (by decide) dX2_look_132 ?_
            refine r_eqi (y := (nI (sN (mjF σ t) j))) (hc.2.2.2.2.2.2.2.1) ?_
            refine lv_iconst (v := nI 1) hx hb dX2_look_133 (by decide) ?_
            refine lv_iload_n hx hb dX2_look_134 rfl (lv_at hl 3 rfl) ?_
            refine lv_ishl hx hb dX2_look_135 ?_
            refine lv_topi (fun x24 ex24 => ?_)
            refine lv_ior hx hb dX2_look_136 ?_
            refine lv_topi (fun x25 ex25 => ?_)
            refine r_iast (n := 8) C hP hS (by assumption) (by omega) (by decide) dX2_look_137 (fun H locs hP hS => ?_)
            obtain ⟨I26, eI26⟩ : ∃ Z : Nat → Nat → Int32, Z = up2 J (k + 6) t x25 := ⟨_, rfl⟩
            rw [← eI26] at hP
            have hstep := LK_1 hc (by omega) ht (by omega)
            refine lv_iinc (v := nI (j + 1)) (lv' := [(3, .int (nI (j + 1))), (4, .int (nI (nd σ j t))), (0, .ref (ad k)), (1, .int (nI t))]) hx hb dX2_look_138 hl (k := 3) rfl (nI_1 _) (by decide) rfl (fun ls hl => ?_)
            refine lv_goto (tgt := 63) hx hb dX2_look_141 (by decide) ?_
            exact ih (j + 1) I26 _ _ _ (by omega) (by omega) (by rw [eI26]; subst_vars; exact hstep) hP hS (lv_sub hl [2, 3, 0] rfl)
        · have hlj := (hc.2.1 j (by omega)).2.2.2.2.2.2
          have hlb := lev_le σ 8 j (by omega)
          have hvb : lvP σ t j ≤ 8 := mxF_le fun e he => by have := lev_le σ 8 e (by omega); split <;> omega
          refine lv_aload_n hx hb dX2_look_82 rfl (lv_at hl 1 rfl) ?_
          refine f_X2_24 (q := k + 5) C hP (by assumption) (by assumption) rfl dX2_look_83 ?_
          refine lv_iload_n hx hb dX2_look_86 rfl (lv_at hl 2 rfl) ?_
          refine lv_dup2_11 hx hb dX2_look_87 rfl rfl ?_
          refine r_iald (n := 8) C hP (by assumption) (by omega) (by decide) dX2_look_88 ?_
          refine r_eqi (y := (nI (sN (mfF σ t) j))) (hc.2.2.2.2.2.2.1) ?_
          refine lv_iconst (v := nI 1) hx hb dX2_look_89 (by decide) ?_
          refine lv_iload_n hx hb dX2_look_90 rfl (lv_at hl 3 rfl) ?_
          refine lv_ishl hx hb dX2_look_91 ?_
          refine lv_topi (fun x27 ex27 => ?_)
          refine lv_ior hx hb dX2_look_92 ?_
          refine lv_topi (fun x28 ex28 => ?_)
          refine r_iast (n := 8) C hP hS (by assumption) (by omega) (by decide) dX2_look_93 (fun H locs hP hS => ?_)
          obtain ⟨I29, eI29⟩ : ∃ Z : Nat → Nat → Int32, Z = up2 J (k + 5) t x28 := ⟨_, rfl⟩
          rw [← eI29] at hP
          skip
          refine lv_aload_n hx hb dX2_look_94 rfl (lv_at hl 1 rfl) ?_
          refine f_X2_30 (q := k + 7) C hP (by assumption) (by assumption) rfl dX2_look_95 ?_
          refine lv_iload_n hx hb dX2_look_98 rfl (lv_at hl 2 rfl) ?_
          refine lv_aload_n hx hb dX2_look_99 rfl (lv_at hl 1 rfl) ?_
          refine f_X2_30 (q := k + 7) C hP (by assumption) (by assumption) rfl dX2_look_100 ?_
          refine lv_iload_n hx hb dX2_look_103 rfl (lv_at hl 2 rfl) ?_
          refine r_iald (n := 8) C hP (by assumption) (by omega) (by decide) dX2_look_104 ?_
          refine r_eqi (y := (nI (lvP σ t j))) (by rw [eI29, up2_r (by omega)]; exact hc.2.2.2.2.2.2.2.2) ?_
          refine lv_aload_n hx hb dX2_look_105 rfl (lv_at hl 1 rfl) ?_
          refine f_X2_30 (q := k + 7) C hP (by assumption) (by assumption) rfl dX2_look_106 ?_
          refine lv_iload_n hx hb dX2_look_109 rfl (lv_at hl 3 rfl) ?_
          refine r_iald (n := 8) C hP (by assumption) (by omega) (by decide) dX2_look_110 ?_
          refine r_eqi (y := (nI (lev σ j))) (by rw [eI29, up2_r (by omega)]; exact hlj) ?_
          refine lv_iconst (v := nI 1) hx hb dX2_look_111 (by decide) ?_
          refine r_addN C dX2_look_112 ?_
          refine r_mmax C tm_X2_91 (Nat.le_of_ble_eq_true rfl) (Nat.le_of_ble_eq_true rfl) ⟨Nat.zero_le _, Nat.zero_le _⟩ hl.1 dX2_look_113 ?_
          refine r_eqi (y := nI (max (lvP σ t j) ((lev σ j) + 1))) (mmaxN (by omega) (by omega)) ?_
          refine r_iast (n := 8) C hP hS (by assumption) (by omega) (by decide) dX2_look_116 (fun H locs hP hS => ?_)
          obtain ⟨I30, eI30⟩ : ∃ Z : Nat → Nat → Int32, Z = up2 I29 (k + 7) t (nI (max (lvP σ t j) ((lev σ j) + 1))) := ⟨_, rfl⟩
          rw [← eI30] at hP
          have hstep := LK_2 hc (by omega) ht (by omega)
          refine lv_goto (tgt := 138) hx hb dX2_look_117 (by decide) ?_
          refine lv_iinc (v := nI (j + 1)) (lv' := [(3, .int (nI (j + 1))), (4, .int (nI (nd σ j t))), (0, .ref (ad k)), (1, .int (nI t))]) hx hb dX2_look_138 hl (k := 3) rfl (nI_1 _) (by decide) rfl (fun ls hl => ?_)
          refine lv_goto (tgt := 63) hx hb dX2_look_141 (by decide) ?_
          exact ih (j + 1) I30 _ _ _ (by omega) (by omega) (by rw [eI30, eI29]; subst_vars; exact hstep) hP hS (lv_sub hl [2, 3, 0] rfl)
  exact hL63_17 (t + 1) 0 I16 _ _ _ (by omega) (by omega) (lkk) hP hS (lv_sub hl [1, 2, 0] rfl)
