/-! constructors of parts -/
set_option maxHeartbeats 4000000 in
set_option maxRecDepth 100000 in
theorem c_X2_init {l : Launch} {E : En} {L : Nat → Nat → Bool} {ad : Nat → Nat} {I : Nat → Nat → Int32} {z : Nat}  (hai : AI ad) (had0 : ad 110 < z) (had : ∀ k, k < 10 → ad (111 + k) = z + k) (hIf : ∀ k, k < 10 → ∀ j, I (111 + k) j = 0) : MK l E ad z L I yX2_init cX2_init 1 1 10 80 [.ref (ad 110)] (fun L9 J => L9 = Lsq L 110 10 ∧ J = I) := by
  have ad111 : ad 111 = z := had 0 (by decide)
  have i111 : ∀ j, I 111 j = 0 := hIf 0 (by decide)
  have ad112 : ad 112 = z + 1 := had 1 (by decide)
  have i112 : ∀ j, I 112 j = 0 := hIf 1 (by decide)
  have ad113 : ad 113 = z + 2 := had 2 (by decide)
  have i113 : ∀ j, I 113 j = 0 := hIf 2 (by decide)
  have ad114 : ad 114 = z + 3 := had 3 (by decide)
  have i114 : ∀ j, I 114 j = 0 := hIf 3 (by decide)
  have ad115 : ad 115 = z + 4 := had 4 (by decide)
  have i115 : ∀ j, I 115 j = 0 := hIf 4 (by decide)
  have ad116 : ad 116 = z + 5 := had 5 (by decide)
  have i116 : ∀ j, I 116 j = 0 := hIf 5 (by decide)
  have ad117 : ad 117 = z + 6 := had 6 (by decide)
  have i117 : ∀ j, I 117 j = 0 := hIf 6 (by decide)
  have ad118 : ad 118 = z + 7 := had 7 (by decide)
  have i118 : ∀ j, I 118 j = 0 := hIf 7 (by decide)
  have ad119 : ad 119 = z + 8 := had 8 (by decide)
  have i119 : ∀ j, I 119 j = 0 := hIf 8 (by decide)
  have ad120 : ad 120 = z + 9 := had 9 (by decide)
  have i120 : ∀ j, I 120 j = 0 := hIf 9 (by decide)
  refine MK.of (by decide) rfl (Nat.le_of_ble_eq_true rfl) ?_
  intro p ee s m args below meth c ls Qf C hin hX hret hP hz hl
  have C : Cx E p s m args c cX2_init RX2 1 := C
  have hx := C.1
  have hb := C.2.1
  have hS : va_S (AG E) s.heap s.heap [] := va_S.rf
  have hl : lv_has ls 1 [(0, .ref (ad 110))] := hl
  refine lv_aload_n hx hb dX2_init_0 rfl (lv_at hl 0 rfl) ?_
  refine W.objInit hx hb C.2.2.2.1 (C.2.2.1 _ tm_X2_3) (C.2.2.1 _ to_i) (C.2.2.1 _ to_c) rfl (by rw [C.2.2.2.2.2]; exact hl.1) rfl dX2_init_1 (Nat.le_of_ble_eq_true rfl) (Nat.le_of_ble_eq_true rfl) ?_
  refine W.eq (g2 := F0 m 4 ls []) rfl ?_
  refine lv_aload_n hx hb dX2_init_4 rfl (lv_at hl 0 rfl) ?_
  refine lv_bipush (v := nI 8) hx hb dX2_init_5 (by decide) ?_
  refine gc_newa (r := 111) C hP hz hai hS (by first | assumption | omega) (by first | assumption | rfl | omega) (i111) (by decide) (Nat.le_of_ble_eq_true rfl) (Nat.le_of_ble_eq_true rfl) dX2_init_7 (fun H hP hz hS => ?_)
  rw [show z + 1 = z + 1 from rfl] at hP hz
  have kf1 : KK ad (z + 1) 110 = 3 := kkf (by first | exact Nat.lt_of_lt_of_le had0 (Nat.le_add_right _ _) | exact had0 | omega) (by first | assumption | rfl | omega)
  refine q_X2_9 C hin hP hS (by assumption) (by first | rfl | omega) dX2_init_9 (fun H locs hz9 hP hS => ?_)
  replace hz := hz9.trans hz
  clear hz9
  obtain ⟨L2, eL2⟩ : ∃ Znew : Nat → Nat → Bool, Znew = sL L 110 0 := ⟨_, rfl⟩
  rw [← eL2] at hP
  refine lv_aload_n hx hb dX2_init_12 rfl (lv_at hl 0 rfl) ?_
  refine lv_bipush (v := nI 8) hx hb dX2_init_13 (by decide) ?_
  refine gc_newa (r := 112) C hP hz hai hS (by first | assumption | omega) (by first | assumption | rfl | omega) (i112) (by decide) (Nat.le_of_ble_eq_true rfl) (Nat.le_of_ble_eq_true rfl) dX2_init_15 (fun H hP hz hS => ?_)
  rw [show z + 1 + 1 = z + 2 from rfl] at hP hz
  have kf3 : KK ad (z + 2) 110 = 3 := kkf (by first | exact Nat.lt_of_lt_of_le had0 (Nat.le_add_right _ _) | exact had0 | omega) (by first | assumption | rfl | omega)
  refine q_X2_15 C hin hP hS (by assumption) (by first | rfl | omega) dX2_init_17 (fun H locs hz9 hP hS => ?_)
  replace hz := hz9.trans hz
  clear hz9
  obtain ⟨L4, eL4⟩ : ∃ Znew : Nat → Nat → Bool, Znew = sL L2 110 1 := ⟨_, rfl⟩
  rw [← eL4] at hP
  refine lv_aload_n hx hb dX2_init_20 rfl (lv_at hl 0 rfl) ?_
  refine lv_bipush (v := nI 8) hx hb dX2_init_21 (by decide) ?_
  refine gc_newa (r := 113) C hP hz hai hS (by first | assumption | omega) (by first | assumption | rfl | omega) (i113) (by decide) (Nat.le_of_ble_eq_true rfl) (Nat.le_of_ble_eq_true rfl) dX2_init_23 (fun H hP hz hS => ?_)
  rw [show z + 2 + 1 = z + 3 from rfl] at hP hz
  have kf5 : KK ad (z + 3) 110 = 3 := kkf (by first | exact Nat.lt_of_lt_of_le had0 (Nat.le_add_right _ _) | exact had0 | omega) (by first | assumption | rfl | omega)
  refine q_X2_18 C hin hP hS (by assumption) (by first | rfl | omega) dX2_init_25 (fun H locs hz9 hP hS => ?_)
  replace hz := hz9.trans hz
  clear hz9
  obtain ⟨L6, eL6⟩ : ∃ Znew : Nat → Nat → Bool, Znew = sL L4 110 2 := ⟨_, rfl⟩
  rw [← eL6] at hP
  refine lv_aload_n hx hb dX2_init_28 rfl (lv_at hl 0 rfl) ?_
  refine lv_bipush (v := nI 8) hx hb dX2_init_29 (by decide) ?_
  refine gc_newa (r := 114) C hP hz hai hS (by first | assumption | omega) (by first | assumption | rfl | omega) (i114) (by decide) (Nat.le_of_ble_eq_true rfl) (Nat.le_of_ble_eq_true rfl) dX2_init_31 (fun H hP hz hS => ?_)
  rw [show z + 3 + 1 = z + 4 from rfl] at hP hz
  have kf7 : KK ad (z + 4) 110 = 3 := kkf (by first | exact Nat.lt_of_lt_of_le had0 (Nat.le_add_right _ _) | exact had0 | omega) (by first | assumption | rfl | omega)
  refine q_X2_21 C hin hP hS (by assumption) (by first | rfl | omega) dX2_init_33 (fun H locs hz9 hP hS => ?_)
  replace hz := hz9.trans hz
  clear hz9
  obtain ⟨L8, eL8⟩ : ∃ Znew : Nat → Nat → Bool, Znew = sL L6 110 3 := ⟨_, rfl⟩
  rw [← eL8] at hP
  refine lv_aload_n hx hb dX2_init_36 rfl (lv_at hl 0 rfl) ?_
  refine lv_bipush (v := nI 8) hx hb dX2_init_37 (by decide) ?_
  refine gc_newa (r := 115) C hP hz hai hS (by first | assumption | omega) (by first | assumption | rfl | omega) (i115) (by decide) (Nat.le_of_ble_eq_true rfl) (Nat.le_of_ble_eq_true rfl) dX2_init_39 (fun H hP hz hS => ?_)
  rw [show z + 4 + 1 = z + 5 from rfl] at hP hz
  have kf9 : KK ad (z + 5) 110 = 3 := kkf (by first | exact Nat.lt_of_lt_of_le had0 (Nat.le_add_right _ _) | exact had0 | omega) (by first | assumption | rfl | omega)
  refine q_X2_24 C hin hP hS (by assumption) (by first | rfl | omega) dX2_init_41 (fun H locs hz9 hP hS => ?_)
  replace hz := hz9.trans hz
  clear hz9
  obtain ⟨L10, eL10⟩ : ∃ Znew : Nat → Nat → Bool, Znew = sL L8 110 4 := ⟨_, rfl⟩
  rw [← eL10] at hP
  refine lv_aload_n hx hb dX2_init_44 rfl (lv_at hl 0 rfl) ?_
  refine lv_bipush (v := nI 8) hx hb dX2_init_45 (by decide) ?_
  refine gc_newa (r := 116) C hP hz hai hS (by first | assumption | omega) (by first | assumption | rfl | omega) (i116) (by decide) (Nat.le_of_ble_eq_true rfl) (Nat.le_of_ble_eq_true rfl) dX2_init_47 (fun H hP hz hS => ?_)
  rw [show z + 5 + 1 = z + 6 from rfl] at hP hz
  have kf11 : KK ad (z + 6) 110 = 3 := kkf (by first | exact Nat.lt_of_lt_of_le had0 (Nat.le_add_right _ _) | exact had0 | omega) (by first | assumption | rfl | omega)
  refine q_X2_27 C hin hP hS (by assumption) (by first | rfl | omega) dX2_init_49 (fun H locs hz9 hP hS => ?_)
  replace hz := hz9.trans hz
  clear hz9
  obtain ⟨L12, eL12⟩ : ∃ Znew : Nat → Nat → Bool, Znew = sL L10 110 5 := ⟨_, rfl⟩
  rw [← eL12] at hP
  refine lv_aload_n hx hb dX2_init_52 rfl (lv_at hl 0 rfl) ?_
  refine lv_bipush (v := nI 8) hx hb dX2_init_53 (by decide) ?_
  refine gc_newa (r := 117) C hP hz hai hS (by first | assumption | omega) (by first | assumption | rfl | omega) (i117) (by decide) (Nat.le_of_ble_eq_true rfl) (Nat.le_of_ble_eq_true rfl) dX2_init_55 (fun H hP hz hS => ?_)
  rw [show z + 6 + 1 = z + 7 from rfl] at hP hz
  have kf13 : KK ad (z + 7) 110 = 3 := kkf (by first | exact Nat.lt_of_lt_of_le had0 (Nat.le_add_right _ _) | exact had0 | omega) (by first | assumption | rfl | omega)
  refine q_X2_30 C hin hP hS (by assumption) (by first | rfl | omega) dX2_init_57 (fun H locs hz9 hP hS => ?_)
  replace hz := hz9.trans hz
  clear hz9
  obtain ⟨L14, eL14⟩ : ∃ Znew : Nat → Nat → Bool, Znew = sL L12 110 6 := ⟨_, rfl⟩
  rw [← eL14] at hP
  refine lv_aload_n hx hb dX2_init_60 rfl (lv_at hl 0 rfl) ?_
  refine lv_bipush (v := nI 8) hx hb dX2_init_61 (by decide) ?_
  refine gc_newa (r := 118) C hP hz hai hS (by first | assumption | omega) (by first | assumption | rfl | omega) (i118) (by decide) (Nat.le_of_ble_eq_true rfl) (Nat.le_of_ble_eq_true rfl) dX2_init_63 (fun H hP hz hS => ?_)
  rw [show z + 7 + 1 = z + 8 from rfl] at hP hz
  have kf15 : KK ad (z + 8) 110 = 3 := kkf (by first | exact Nat.lt_of_lt_of_le had0 (Nat.le_add_right _ _) | exact had0 | omega) (by first | assumption | rfl | omega)
  refine q_X2_33 C hin hP hS (by assumption) (by first | rfl | omega) dX2_init_65 (fun H locs hz9 hP hS => ?_)
  replace hz := hz9.trans hz
  clear hz9
  obtain ⟨L16, eL16⟩ : ∃ Znew : Nat → Nat → Bool, Znew = sL L14 110 7 := ⟨_, rfl⟩
  rw [← eL16] at hP
  refine lv_aload_n hx hb dX2_init_68 rfl (lv_at hl 0 rfl) ?_
  refine lv_bipush (v := nI 8) hx hb dX2_init_69 (by decide) ?_
  refine gc_newa (r := 119) C hP hz hai hS (by first | assumption | omega) (by first | assumption | rfl | omega) (i119) (by decide) (Nat.le_of_ble_eq_true rfl) (Nat.le_of_ble_eq_true rfl) dX2_init_71 (fun H hP hz hS => ?_)
  rw [show z + 8 + 1 = z + 9 from rfl] at hP hz
  have kf17 : KK ad (z + 9) 110 = 3 := kkf (by first | exact Nat.lt_of_lt_of_le had0 (Nat.le_add_right _ _) | exact had0 | omega) (by first | assumption | rfl | omega)
  refine q_X2_36 C hin hP hS (by assumption) (by first | rfl | omega) dX2_init_73 (fun H locs hz9 hP hS => ?_)
  replace hz := hz9.trans hz
  clear hz9
  obtain ⟨L18, eL18⟩ : ∃ Znew : Nat → Nat → Bool, Znew = sL L16 110 8 := ⟨_, rfl⟩
  rw [← eL18] at hP
  refine lv_aload_n hx hb dX2_init_76 rfl (lv_at hl 0 rfl) ?_
  refine lv_bipush (v := nI 8) hx hb dX2_init_77 (by decide) ?_
  refine gc_newa (r := 120) C hP hz hai hS (by first | assumption | omega) (by first | assumption | rfl | omega) (i120) (by decide) (Nat.le_of_ble_eq_true rfl) (Nat.le_of_ble_eq_true rfl) dX2_init_79 (fun H hP hz hS => ?_)
  rw [show z + 9 + 1 = z + 10 from rfl] at hP hz
  have kf19 : KK ad (z + 10) 110 = 3 := kkf (by first | exact Nat.lt_of_lt_of_le had0 (Nat.le_add_right _ _) | exact had0 | omega) (by first | assumption | rfl | omega)
  refine q_X2_39 C hin hP hS (by assumption) (by first | rfl | omega) dX2_init_81 (fun H locs hz9 hP hS => ?_)
  replace hz := hz9.trans hz
  clear hz9
  obtain ⟨L20, eL20⟩ : ∃ Znew : Nat → Nat → Bool, Znew = sL L18 110 9 := ⟨_, rfl⟩
  rw [← eL20] at hP
  exact hret _ _ _ _ _ _ dX2_init_84 hP hz hS (⟨by rw [eL20, eL18, eL16, eL14, eL12, eL10, eL8, eL6, eL4, eL2, Lsq10], rfl⟩)
set_option maxHeartbeats 4000000 in
set_option maxRecDepth 100000 in
theorem c_X4_init {l : Launch} {E : En} {L : Nat → Nat → Bool} {ad : Nat → Nat} {I : Nat → Nat → Int32} {z : Nat}  (hai : AI ad) (had0 : ad 130 < z) (had : ∀ k, k < 3 → ad (131 + k) = z + k) (hIf : ∀ k, k < 3 → ∀ j, I (131 + k) j = 0) : MK l E ad z L I yX4_init cX4_init 1 1 3 768 [.ref (ad 130)] (fun L9 J => L9 = Lsq L 130 3 ∧ J = I) := by
  have ad131 : ad 131 = z := had 0 (by decide)
  have i131 : ∀ j, I 131 j = 0 := hIf 0 (by decide)
  have ad132 : ad 132 = z + 1 := had 1 (by decide)
  have i132 : ∀ j, I 132 j = 0 := hIf 1 (by decide)
  have ad133 : ad 133 = z + 2 := had 2 (by decide)
  have i133 : ∀ j, I 133 j = 0 := hIf 2 (by decide)
  refine MK.of (by decide) rfl (Nat.le_of_ble_eq_true rfl) ?_
  intro p ee s m args below meth c ls Qf C hin hX hret hP hz hl
  have C : Cx E p s m args c cX4_init RX4 1 := C
  have hx := C.1
  have hb := C.2.1
  have hS : va_S (AG E) s.heap s.heap [] := va_S.rf
  have hl : lv_has ls 1 [(0, .ref (ad 130))] := hl
  refine lv_aload_n hx hb dX4_init_0 rfl (lv_at hl 0 rfl) ?_
  refine W.objInit hx hb C.2.2.2.1 (C.2.2.1 _ tm_X4_3) (C.2.2.1 _ to_i) (C.2.2.1 _ to_c) rfl (by rw [C.2.2.2.2.2]; exact hl.1) rfl dX4_init_1 (Nat.le_of_ble_eq_true rfl) (Nat.le_of_ble_eq_true rfl) ?_
  refine W.eq (g2 := F0 m 4 ls []) rfl ?_
  refine lv_aload_n hx hb dX4_init_4 rfl (lv_at hl 0 rfl) ?_
  refine lv_sipush (v := nI 256) hx hb dX4_init_5 (by decide) ?_
  refine gc_newa (r := 131) C hP hz hai hS (by first | assumption | omega) (by first | assumption | rfl | omega) (i131) (by decide) (Nat.le_of_ble_eq_true rfl) (Nat.le_of_ble_eq_true rfl) dX4_init_8 (fun H hP hz hS => ?_)
  rw [show z + 1 = z + 1 from rfl] at hP hz
  have kf1 : KK ad (z + 1) 130 = 5 := kkf (by first | exact Nat.lt_of_lt_of_le had0 (Nat.le_add_right _ _) | exact had0 | omega) (by first | assumption | rfl | omega)
  refine q_X4_9 C hin hP hS (by assumption) (by first | rfl | omega) dX4_init_10 (fun H locs hz9 hP hS => ?_)
  replace hz := hz9.trans hz
  clear hz9
  obtain ⟨L2, eL2⟩ : ∃ Znew : Nat → Nat → Bool, Znew = sL L 130 0 := ⟨_, rfl⟩
  rw [← eL2] at hP
  refine lv_aload_n hx hb dX4_init_13 rfl (lv_at hl 0 rfl) ?_
  refine lv_sipush (v := nI 256) hx hb dX4_init_14 (by decide) ?_
  refine gc_newa (r := 132) C hP hz hai hS (by first | assumption | omega) (by first | assumption | rfl | omega) (i132) (by decide) (Nat.le_of_ble_eq_true rfl) (Nat.le_of_ble_eq_true rfl) dX4_init_17 (fun H hP hz hS => ?_)
  rw [show z + 1 + 1 = z + 2 from rfl] at hP hz
  have kf3 : KK ad (z + 2) 130 = 5 := kkf (by first | exact Nat.lt_of_lt_of_le had0 (Nat.le_add_right _ _) | exact had0 | omega) (by first | assumption | rfl | omega)
  refine q_X4_15 C hin hP hS (by assumption) (by first | rfl | omega) dX4_init_19 (fun H locs hz9 hP hS => ?_)
  replace hz := hz9.trans hz
  clear hz9
  obtain ⟨L4, eL4⟩ : ∃ Znew : Nat → Nat → Bool, Znew = sL L2 130 1 := ⟨_, rfl⟩
  rw [← eL4] at hP
  refine lv_aload_n hx hb dX4_init_22 rfl (lv_at hl 0 rfl) ?_
  refine lv_sipush (v := nI 256) hx hb dX4_init_23 (by decide) ?_
  refine gc_newa (r := 133) C hP hz hai hS (by first | assumption | omega) (by first | assumption | rfl | omega) (i133) (by decide) (Nat.le_of_ble_eq_true rfl) (Nat.le_of_ble_eq_true rfl) dX4_init_26 (fun H hP hz hS => ?_)
  rw [show z + 2 + 1 = z + 3 from rfl] at hP hz
  have kf5 : KK ad (z + 3) 130 = 5 := kkf (by first | exact Nat.lt_of_lt_of_le had0 (Nat.le_add_right _ _) | exact had0 | omega) (by first | assumption | rfl | omega)
  refine q_X4_18 C hin hP hS (by assumption) (by first | rfl | omega) dX4_init_28 (fun H locs hz9 hP hS => ?_)
  replace hz := hz9.trans hz
  clear hz9
  obtain ⟨L6, eL6⟩ : ∃ Znew : Nat → Nat → Bool, Znew = sL L4 130 2 := ⟨_, rfl⟩
  rw [← eL6] at hP
  exact hret _ _ _ _ _ _ dX4_init_31 hP hz hS (⟨by rw [eL6, eL4, eL2, Lsq3], rfl⟩)
set_option maxHeartbeats 4000000 in
set_option maxRecDepth 100000 in
theorem c_X1_init {l : Launch} {E : En} {L : Nat → Nat → Bool} {ad : Nat → Nat} {I : Nat → Nat → Int32} {z : Nat}  (hai : AI ad) (had0 : ad 140 < z) (had1 : ad 141 = z) (had2 : ad 142 = z + 1) (hads : ∀ j, j < 4 → ad (143 + j) = z + 2 + j) (h142 : ∀ j, L 142 j = false) (i141 : ∀ j, I 141 j = 0) (hI143 : ∀ q, q < 4 → ∀ j, I (143 + q) j = 0) : MK l E ad z L I yX1_init cX1_init 1 1 6 42 [.ref (ad 140)] (fun L9 J => L9 = sL (sL4 (sL L 140 0)) 140 5 ∧ J = I) := by
  refine MK.of (by decide) rfl (Nat.le_of_ble_eq_true rfl) ?_
  intro p ee s m args below meth c ls Qf C hin hX hret hP hz hl
  have C : Cx E p s m args c cX1_init RX1 1 := C
  have hx := C.1
  have hb := C.2.1
  have hS : va_S (AG E) s.heap s.heap [] := va_S.rf
  have hl : lv_has ls 1 [(0, .ref (ad 140))] := hl
  refine lv_aload_n hx hb dX1_init_0 rfl (lv_at hl 0 rfl) ?_
  refine W.objInit hx hb C.2.2.2.1 (C.2.2.1 _ tm_X1_3) (C.2.2.1 _ to_i) (C.2.2.1 _ to_c) rfl (by rw [C.2.2.2.2.2]; exact hl.1) rfl dX1_init_1 (Nat.le_of_ble_eq_true rfl) (Nat.le_of_ble_eq_true rfl) ?_
  refine W.eq (g2 := F0 m 4 ls []) rfl ?_
  refine lv_aload_n hx hb dX1_init_4 rfl (lv_at hl 0 rfl) ?_
  refine lv_bipush (v := nI 6) hx hb dX1_init_5 (by decide) ?_
  refine gc_newa (r := 141) C hP hz hai hS (by first | assumption | omega) (by first | assumption | rfl | omega) (i141) (by decide) (Nat.le_of_ble_eq_true rfl) (Nat.le_of_ble_eq_true rfl) dX1_init_7 (fun H hP hz hS => ?_)
  rw [show z + 1 = z + 1 from rfl] at hP hz
  have kf1 : KK ad (z + 1) 140 = 2 := kkf (by first | exact Nat.lt_of_lt_of_le had0 (Nat.le_add_right _ _) | exact had0 | omega) (by first | assumption | rfl | omega)
  refine q_X1_9 C hin hP hS (by assumption) (by first | rfl | omega) dX1_init_9 (fun H locs hz9 hP hS => ?_)
  replace hz := hz9.trans hz
  clear hz9
  obtain ⟨L2, eL2⟩ : ∃ Znew : Nat → Nat → Bool, Znew = sL L 140 0 := ⟨_, rfl⟩
  rw [← eL2] at hP
  refine lv_aload_n hx hb dX1_init_12 rfl (lv_at hl 0 rfl) ?_
  refine lv_iconst (v := nI 4) hx hb dX1_init_13 (by decide) ?_
  refine lv_bipush (v := nI 8) hx hb dX1_init_14 (by decide) ?_
  refine gc_mna C hX hP hz hai hS (by first | assumption | omega) (fun j hj => hads j hj) (fun j => by rw [eL2, sL_r (by decide)]; exact h142 j) hI143 (Nat.le_of_ble_eq_true rfl) (Nat.le_of_ble_eq_true rfl) dX1_init_16 (fun H hP hz hS => ?_)
  rw [show z + 1 + 5 = z + 6 from rfl] at hP hz
  obtain ⟨L3, eL3⟩ : ∃ Znew : Nat → Nat → Bool, Znew = sL4 L2 := ⟨_, rfl⟩
  rw [← eL3] at hP
  have kf4 : KK ad (z + 6) 140 = 2 := kkf (by first | exact Nat.lt_of_lt_of_le had0 (Nat.le_add_right _ _) | exact had0 | omega) (by first | assumption | rfl | omega)
  refine q_X1_17 C hin hP hS (by assumption) (by first | rfl | omega) dX1_init_20 (fun H locs hz9 hP hS => ?_)
  replace hz := hz9.trans hz
  clear hz9
  obtain ⟨L5, eL5⟩ : ∃ Znew : Nat → Nat → Bool, Znew = sL L3 140 5 := ⟨_, rfl⟩
  rw [← eL5] at hP
  exact hret _ _ _ _ _ _ dX1_init_23 hP hz hS (⟨by rw [eL5, eL3, eL2], rfl⟩)
