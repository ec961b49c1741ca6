/-! constructor of the reference -/
set_option maxHeartbeats 4000000 in
set_option maxRecDepth 100000 in
theorem c_X7_init {l : Launch} {E : En} {L : Nat → Nat → Bool} {ad : Nat → Nat} {I : Nat → Nat → Int32} {z : Nat}  (hai : AI ad) (had0 : ad 10 < z) (had : ∀ i k, ([1, 2, 3, 4, 5, 6, 7, 8, 9, 10, 11, 12, 13, 14, 15, 16, 17, 21, 25, 26] : List Nat)[i]? = some k → ad (10 + k) = z + i) (hIf : ∀ a, 10 ≤ a → a < 40 → ∀ j, I a j = 0) : MK l E ad z L I yX7_init cX7_init 1 1 20 916 [.ref (ad 10)] (fun L9 J => L9 = LMd L ∧ J = IMd I) := by
  have ad11 : ad 11 = z := had 0 1 rfl
  have i11 : ∀ j, I 11 j = 0 := hIf 11 (by decide) (by decide)
  have ad12 : ad 12 = z + 1 := had 1 2 rfl
  have i12 : ∀ j, I 12 j = 0 := hIf 12 (by decide) (by decide)
  have ad13 : ad 13 = z + 2 := had 2 3 rfl
  have i13 : ∀ j, I 13 j = 0 := hIf 13 (by decide) (by decide)
  have ad14 : ad 14 = z + 3 := had 3 4 rfl
  have i14 : ∀ j, I 14 j = 0 := hIf 14 (by decide) (by decide)
  have ad15 : ad 15 = z + 4 := had 4 5 rfl
  have i15 : ∀ j, I 15 j = 0 := hIf 15 (by decide) (by decide)
  have ad16 : ad 16 = z + 5 := had 5 6 rfl
  have i16 : ∀ j, I 16 j = 0 := hIf 16 (by decide) (by decide)
  have ad17 : ad 17 = z + 6 := had 6 7 rfl
  have i17 : ∀ j, I 17 j = 0 := hIf 17 (by decide) (by decide)
  have ad18 : ad 18 = z + 7 := had 7 8 rfl
  have i18 : ∀ j, I 18 j = 0 := hIf 18 (by decide) (by decide)
  have ad19 : ad 19 = z + 8 := had 8 9 rfl
  have i19 : ∀ j, I 19 j = 0 := hIf 19 (by decide) (by decide)
  have ad20 : ad 20 = z + 9 := had 9 10 rfl
  have i20 : ∀ j, I 20 j = 0 := hIf 20 (by decide) (by decide)
  have ad21 : ad 21 = z + 10 := had 10 11 rfl
  have i21 : ∀ j, I 21 j = 0 := hIf 21 (by decide) (by decide)
  have ad22 : ad 22 = z + 11 := had 11 12 rfl
  have i22 : ∀ j, I 22 j = 0 := hIf 22 (by decide) (by decide)
  have ad23 : ad 23 = z + 12 := had 12 13 rfl
  have i23 : ∀ j, I 23 j = 0 := hIf 23 (by decide) (by decide)
  have ad24 : ad 24 = z + 13 := had 13 14 rfl
  have i24 : ∀ j, I 24 j = 0 := hIf 24 (by decide) (by decide)
  have ad25 : ad 25 = z + 14 := had 14 15 rfl
  have i25 : ∀ j, I 25 j = 0 := hIf 25 (by decide) (by decide)
  have ad26 : ad 26 = z + 15 := had 15 16 rfl
  have i26 : ∀ j, I 26 j = 0 := hIf 26 (by decide) (by decide)
  have ad27 : ad 27 = z + 16 := had 16 17 rfl
  have i27 : ∀ j, I 27 j = 0 := hIf 27 (by decide) (by decide)
  have ad31 : ad 31 = z + 17 := had 17 21 rfl
  have i31 : ∀ j, I 31 j = 0 := hIf 31 (by decide) (by decide)
  have ad35 : ad 35 = z + 18 := had 18 25 rfl
  have i35 : ∀ j, I 35 j = 0 := hIf 35 (by decide) (by decide)
  have ad36 : ad 36 = z + 19 := had 19 26 rfl
  have i36 : ∀ j, I 36 j = 0 := hIf 36 (by decide) (by decide)
  refine MK.of (by decide) rfl (Nat.le_of_ble_eq_true rfl) ?_
  intro p ee s m args below meth c ls Qf C hin hX hret hP hz hl
  have C : Cx E p s m args c cX7_init RX7 1 := C
  have hx := C.1
  have hb := C.2.1
  have hS : va_S (AG E) s.heap s.heap [] := va_S.rf
  have hl : lv_has ls 1 [(0, .ref (ad 10))] := hl
  refine lv_aload_n hx hb dX7_init_0 rfl (lv_at hl 0 rfl) ?_
  refine W.objInit hx hb C.2.2.2.1 (C.2.2.1 _ tm_X7_1) (C.2.2.1 _ to_i) (C.2.2.1 _ to_c) rfl (by rw [C.2.2.2.2.2]; exact hl.1) rfl dX7_init_1 (Nat.le_of_ble_eq_true rfl) (Nat.le_of_ble_eq_true rfl) ?_
  refine W.eq (g2 := F0 m 4 ls []) rfl ?_
  refine lv_aload_n hx hb dX7_init_4 rfl (lv_at hl 0 rfl) ?_
  refine lv_bipush (v := nI 8) hx hb dX7_init_5 (by decide) ?_
  refine gc_newa (r := 11) C hP hz hai hS (by first | assumption | omega) (by first | assumption | rfl | omega) (i11) (by decide) (Nat.le_of_ble_eq_true rfl) (Nat.le_of_ble_eq_true rfl) dX7_init_7 (fun H hP hz hS => ?_)
  rw [show z + 1 = z + 1 from rfl] at hP hz
  have kf1 : KK ad (z + 1) 10 = 8 := kkf (by first | exact Nat.lt_of_lt_of_le had0 (Nat.le_add_right _ _) | exact had0 | omega) (by first | assumption | rfl | omega)
  refine q_X7_7 C hin hP hS (by assumption) (by first | rfl | omega) dX7_init_9 (fun H locs hz9 hP hS => ?_)
  replace hz := hz9.trans hz
  clear hz9
  obtain ⟨L2, eL2⟩ : ∃ Znew : Nat → Nat → Bool, Znew = sL L 10 1 := ⟨_, rfl⟩
  rw [← eL2] at hP
  refine lv_aload_n hx hb dX7_init_12 rfl (lv_at hl 0 rfl) ?_
  refine lv_bipush (v := nI 8) hx hb dX7_init_13 (by decide) ?_
  refine gc_newa (r := 12) C hP hz hai hS (by first | assumption | omega) (by first | assumption | rfl | omega) (i12) (by decide) (Nat.le_of_ble_eq_true rfl) (Nat.le_of_ble_eq_true rfl) dX7_init_15 (fun H hP hz hS => ?_)
  rw [show z + 1 + 1 = z + 2 from rfl] at hP hz
  have kf3 : KK ad (z + 2) 10 = 8 := kkf (by first | exact Nat.lt_of_lt_of_le had0 (Nat.le_add_right _ _) | exact had0 | omega) (by first | assumption | rfl | omega)
  refine q_X7_13 C hin hP hS (by assumption) (by first | rfl | omega) dX7_init_17 (fun H locs hz9 hP hS => ?_)
  replace hz := hz9.trans hz
  clear hz9
  obtain ⟨L4, eL4⟩ : ∃ Znew : Nat → Nat → Bool, Znew = sL L2 10 2 := ⟨_, rfl⟩
  rw [← eL4] at hP
  refine lv_aload_n hx hb dX7_init_20 rfl (lv_at hl 0 rfl) ?_
  refine lv_bipush (v := nI 40) hx hb dX7_init_21 (by decide) ?_
  refine gc_newa (r := 13) C hP hz hai hS (by first | assumption | omega) (by first | assumption | rfl | omega) (i13) (by decide) (Nat.le_of_ble_eq_true rfl) (Nat.le_of_ble_eq_true rfl) dX7_init_23 (fun H hP hz hS => ?_)
  rw [show z + 2 + 1 = z + 3 from rfl] at hP hz
  have kf5 : KK ad (z + 3) 10 = 8 := kkf (by first | exact Nat.lt_of_lt_of_le had0 (Nat.le_add_right _ _) | exact had0 | omega) (by first | assumption | rfl | omega)
  refine q_X7_16 C hin hP hS (by assumption) (by first | rfl | omega) dX7_init_25 (fun H locs hz9 hP hS => ?_)
  replace hz := hz9.trans hz
  clear hz9
  obtain ⟨L6, eL6⟩ : ∃ Znew : Nat → Nat → Bool, Znew = sL L4 10 3 := ⟨_, rfl⟩
  rw [← eL6] at hP
  refine lv_aload_n hx hb dX7_init_28 rfl (lv_at hl 0 rfl) ?_
  refine lv_bipush (v := nI 40) hx hb dX7_init_29 (by decide) ?_
  refine gc_newa (r := 14) C hP hz hai hS (by first | assumption | omega) (by first | assumption | rfl | omega) (i14) (by decide) (Nat.le_of_ble_eq_true rfl) (Nat.le_of_ble_eq_true rfl) dX7_init_31 (fun H hP hz hS => ?_)
  rw [show z + 3 + 1 = z + 4 from rfl] at hP hz
  have kf7 : KK ad (z + 4) 10 = 8 := kkf (by first | exact Nat.lt_of_lt_of_le had0 (Nat.le_add_right _ _) | exact had0 | omega) (by first | assumption | rfl | omega)
  refine q_X7_19 C hin hP hS (by assumption) (by first | rfl | omega) dX7_init_33 (fun H locs hz9 hP hS => ?_)
  replace hz := hz9.trans hz
  clear hz9
  obtain ⟨L8, eL8⟩ : ∃ Znew : Nat → Nat → Bool, Znew = sL L6 10 4 := ⟨_, rfl⟩
  rw [← eL8] at hP
  refine lv_aload_n hx hb dX7_init_36 rfl (lv_at hl 0 rfl) ?_
  refine lv_bipush (v := nI 40) hx hb dX7_init_37 (by decide) ?_
  refine gc_newa (r := 15) C hP hz hai hS (by first | assumption | omega) (by first | assumption | rfl | omega) (i15) (by decide) (Nat.le_of_ble_eq_true rfl) (Nat.le_of_ble_eq_true rfl) dX7_init_39 (fun H hP hz hS => ?_)
  rw [show z + 4 + 1 = z + 5 from rfl] at hP hz
  have kf9 : KK ad (z + 5) 10 = 8 := kkf (by first | exact Nat.lt_of_lt_of_le had0 (Nat.le_add_right _ _) | exact had0 | omega) (by first | assumption | rfl | omega)
  refine q_X7_22 C hin hP hS (by assumption) (by first | rfl | omega) dX7_init_41 (fun H locs hz9 hP hS => ?_)
  replace hz := hz9.trans hz
  clear hz9
  obtain ⟨L10, eL10⟩ : ∃ Znew : Nat → Nat → Bool, Znew = sL L8 10 5 := ⟨_, rfl⟩
  rw [← eL10] at hP
  refine lv_aload_n hx hb dX7_init_44 rfl (lv_at hl 0 rfl) ?_
  refine lv_bipush (v := nI 40) hx hb dX7_init_45 (by decide) ?_
  refine gc_newa (r := 16) C hP hz hai hS (by first | assumption | omega) (by first | assumption | rfl | omega) (i16) (by decide) (Nat.le_of_ble_eq_true rfl) (Nat.le_of_ble_eq_true rfl) dX7_init_47 (fun H hP hz hS => ?_)
  rw [show z + 5 + 1 = z + 6 from rfl] at hP hz
  have kf11 : KK ad (z + 6) 10 = 8 := kkf (by first | exact Nat.lt_of_lt_of_le had0 (Nat.le_add_right _ _) | exact had0 | omega) (by first | assumption | rfl | omega)
  refine q_X7_25 C hin hP hS (by assumption) (by first | rfl | omega) dX7_init_49 (fun H locs hz9 hP hS => ?_)
  replace hz := hz9.trans hz
  clear hz9
  obtain ⟨L12, eL12⟩ : ∃ Znew : Nat → Nat → Bool, Znew = sL L10 10 6 := ⟨_, rfl⟩
  rw [← eL12] at hP
  refine lv_aload_n hx hb dX7_init_52 rfl (lv_at hl 0 rfl) ?_
  refine lv_iconst (v := nI 4) hx hb dX7_init_53 (by decide) ?_
  refine gc_newa (r := 17) C hP hz hai hS (by first | assumption | omega) (by first | assumption | rfl | omega) (i17) (by decide) (Nat.le_of_ble_eq_true rfl) (Nat.le_of_ble_eq_true rfl) dX7_init_54 (fun H hP hz hS => ?_)
  rw [show z + 6 + 1 = z + 7 from rfl] at hP hz
  have kf13 : KK ad (z + 7) 10 = 8 := kkf (by first | exact Nat.lt_of_lt_of_le had0 (Nat.le_add_right _ _) | exact had0 | omega) (by first | assumption | rfl | omega)
  refine q_X7_28 C hin hP hS (by assumption) (by first | rfl | omega) dX7_init_56 (fun H locs hz9 hP hS => ?_)
  replace hz := hz9.trans hz
  clear hz9
  obtain ⟨L14, eL14⟩ : ∃ Znew : Nat → Nat → Bool, Znew = sL L12 10 7 := ⟨_, rfl⟩
  rw [← eL14] at hP
  refine lv_aload_n hx hb dX7_init_59 rfl (lv_at hl 0 rfl) ?_
  refine lv_bipush (v := nI 6) hx hb dX7_init_60 (by decide) ?_
  refine gc_newa (r := 18) C hP hz hai hS (by first | assumption | omega) (by first | assumption | rfl | omega) (i18) (by decide) (Nat.le_of_ble_eq_true rfl) (Nat.le_of_ble_eq_true rfl) dX7_init_62 (fun H hP hz hS => ?_)
  rw [show z + 7 + 1 = z + 8 from rfl] at hP hz
  have kf15 : KK ad (z + 8) 10 = 8 := kkf (by first | exact Nat.lt_of_lt_of_le had0 (Nat.le_add_right _ _) | exact had0 | omega) (by first | assumption | rfl | omega)
  refine q_X7_31 C hin hP hS (by assumption) (by first | rfl | omega) dX7_init_64 (fun H locs hz9 hP hS => ?_)
  replace hz := hz9.trans hz
  clear hz9
  obtain ⟨L16, eL16⟩ : ∃ Znew : Nat → Nat → Bool, Znew = sL L14 10 8 := ⟨_, rfl⟩
  rw [← eL16] at hP
  refine lv_aload_n hx hb dX7_init_67 rfl (lv_at hl 0 rfl) ?_
  refine lv_iconst (v := nI 4) hx hb dX7_init_68 (by decide) ?_
  refine gc_newa (r := 19) C hP hz hai hS (by first | assumption | omega) (by first | assumption | rfl | omega) (i19) (by decide) (Nat.le_of_ble_eq_true rfl) (Nat.le_of_ble_eq_true rfl) dX7_init_69 (fun H hP hz hS => ?_)
  rw [show z + 8 + 1 = z + 9 from rfl] at hP hz
  have kf17 : KK ad (z + 9) 10 = 8 := kkf (by first | exact Nat.lt_of_lt_of_le had0 (Nat.le_add_right _ _) | exact had0 | omega) (by first | assumption | rfl | omega)
  refine q_X7_34 C hin hP hS (by assumption) (by first | rfl | omega) dX7_init_71 (fun H locs hz9 hP hS => ?_)
  replace hz := hz9.trans hz
  clear hz9
  obtain ⟨L18, eL18⟩ : ∃ Znew : Nat → Nat → Bool, Znew = sL L16 10 9 := ⟨_, rfl⟩
  rw [← eL18] at hP
  refine lv_aload_n hx hb dX7_init_74 rfl (lv_at hl 0 rfl) ?_
  refine lv_bipush (v := nI 8) hx hb dX7_init_75 (by decide) ?_
  refine gc_newa (r := 20) C hP hz hai hS (by first | assumption | omega) (by first | assumption | rfl | omega) (i20) (by decide) (Nat.le_of_ble_eq_true rfl) (Nat.le_of_ble_eq_true rfl) dX7_init_77 (fun H hP hz hS => ?_)
  rw [show z + 9 + 1 = z + 10 from rfl] at hP hz
  have kf19 : KK ad (z + 10) 10 = 8 := kkf (by first | exact Nat.lt_of_lt_of_le had0 (Nat.le_add_right _ _) | exact had0 | omega) (by first | assumption | rfl | omega)
  refine q_X7_37 C hin hP hS (by assumption) (by first | rfl | omega) dX7_init_79 (fun H locs hz9 hP hS => ?_)
  replace hz := hz9.trans hz
  clear hz9
  obtain ⟨L20, eL20⟩ : ∃ Znew : Nat → Nat → Bool, Znew = sL L18 10 10 := ⟨_, rfl⟩
  rw [← eL20] at hP
  refine lv_aload_n hx hb dX7_init_82 rfl (lv_at hl 0 rfl) ?_
  refine lv_bipush (v := nI 8) hx hb dX7_init_83 (by decide) ?_
  refine gc_newa (r := 21) C hP hz hai hS (by first | assumption | omega) (by first | assumption | rfl | omega) (i21) (by decide) (Nat.le_of_ble_eq_true rfl) (Nat.le_of_ble_eq_true rfl) dX7_init_85 (fun H hP hz hS => ?_)
  rw [show z + 10 + 1 = z + 11 from rfl] at hP hz
  have kf21 : KK ad (z + 11) 10 = 8 := kkf (by first | exact Nat.lt_of_lt_of_le had0 (Nat.le_add_right _ _) | exact had0 | omega) (by first | assumption | rfl | omega)
  refine q_X7_40 C hin hP hS (by assumption) (by first | rfl | omega) dX7_init_87 (fun H locs hz9 hP hS => ?_)
  replace hz := hz9.trans hz
  clear hz9
  obtain ⟨L22, eL22⟩ : ∃ Znew : Nat → Nat → Bool, Znew = sL L20 10 11 := ⟨_, rfl⟩
  rw [← eL22] at hP
  refine lv_aload_n hx hb dX7_init_90 rfl (lv_at hl 0 rfl) ?_
  refine lv_bipush (v := nI 8) hx hb dX7_init_91 (by decide) ?_
  refine gc_newa (r := 22) C hP hz hai hS (by first | assumption | omega) (by first | assumption | rfl | omega) (i22) (by decide) (Nat.le_of_ble_eq_true rfl) (Nat.le_of_ble_eq_true rfl) dX7_init_93 (fun H hP hz hS => ?_)
  rw [show z + 11 + 1 = z + 12 from rfl] at hP hz
  have kf23 : KK ad (z + 12) 10 = 8 := kkf (by first | exact Nat.lt_of_lt_of_le had0 (Nat.le_add_right _ _) | exact had0 | omega) (by first | assumption | rfl | omega)
  refine q_X7_43 C hin hP hS (by assumption) (by first | rfl | omega) dX7_init_95 (fun H locs hz9 hP hS => ?_)
  replace hz := hz9.trans hz
  clear hz9
  obtain ⟨L24, eL24⟩ : ∃ Znew : Nat → Nat → Bool, Znew = sL L22 10 12 := ⟨_, rfl⟩
  rw [← eL24] at hP
  refine lv_aload_n hx hb dX7_init_98 rfl (lv_at hl 0 rfl) ?_
  refine lv_bipush (v := nI 8) hx hb dX7_init_99 (by decide) ?_
  refine gc_newa (r := 23) C hP hz hai hS (by first | assumption | omega) (by first | assumption | rfl | omega) (i23) (by decide) (Nat.le_of_ble_eq_true rfl) (Nat.le_of_ble_eq_true rfl) dX7_init_101 (fun H hP hz hS => ?_)
  rw [show z + 12 + 1 = z + 13 from rfl] at hP hz
  have kf25 : KK ad (z + 13) 10 = 8 := kkf (by first | exact Nat.lt_of_lt_of_le had0 (Nat.le_add_right _ _) | exact had0 | omega) (by first | assumption | rfl | omega)
  refine q_X7_46 C hin hP hS (by assumption) (by first | rfl | omega) dX7_init_103 (fun H locs hz9 hP hS => ?_)
  replace hz := hz9.trans hz
  clear hz9
  obtain ⟨L26, eL26⟩ : ∃ Znew : Nat → Nat → Bool, Znew = sL L24 10 13 := ⟨_, rfl⟩
  rw [← eL26] at hP
  refine lv_aload_n hx hb dX7_init_106 rfl (lv_at hl 0 rfl) ?_
  refine lv_sipush (v := nI 256) hx hb dX7_init_107 (by decide) ?_
  refine gc_newa (r := 24) C hP hz hai hS (by first | assumption | omega) (by first | assumption | rfl | omega) (i24) (by decide) (Nat.le_of_ble_eq_true rfl) (Nat.le_of_ble_eq_true rfl) dX7_init_110 (fun H hP hz hS => ?_)
  rw [show z + 13 + 1 = z + 14 from rfl] at hP hz
  have kf27 : KK ad (z + 14) 10 = 8 := kkf (by first | exact Nat.lt_of_lt_of_le had0 (Nat.le_add_right _ _) | exact had0 | omega) (by first | assumption | rfl | omega)
  refine q_X7_49 C hin hP hS (by assumption) (by first | rfl | omega) dX7_init_112 (fun H locs hz9 hP hS => ?_)
  replace hz := hz9.trans hz
  clear hz9
  obtain ⟨L28, eL28⟩ : ∃ Znew : Nat → Nat → Bool, Znew = sL L26 10 14 := ⟨_, rfl⟩
  rw [← eL28] at hP
  refine lv_aload_n hx hb dX7_init_115 rfl (lv_at hl 0 rfl) ?_
  refine lv_bipush (v := nI 8) hx hb dX7_init_116 (by decide) ?_
  refine gc_newa (r := 25) C hP hz hai hS (by first | assumption | omega) (by first | assumption | rfl | omega) (i25) (by decide) (Nat.le_of_ble_eq_true rfl) (Nat.le_of_ble_eq_true rfl) dX7_init_118 (fun H hP hz hS => ?_)
  rw [show z + 14 + 1 = z + 15 from rfl] at hP hz
  have kf29 : KK ad (z + 15) 10 = 8 := kkf (by first | exact Nat.lt_of_lt_of_le had0 (Nat.le_add_right _ _) | exact had0 | omega) (by first | assumption | rfl | omega)
  refine q_X7_52 C hin hP hS (by assumption) (by first | rfl | omega) dX7_init_120 (fun H locs hz9 hP hS => ?_)
  replace hz := hz9.trans hz
  clear hz9
  obtain ⟨L30, eL30⟩ : ∃ Znew : Nat → Nat → Bool, Znew = sL L28 10 15 := ⟨_, rfl⟩
  rw [← eL30] at hP
  refine lv_aload_n hx hb dX7_init_123 rfl (lv_at hl 0 rfl) ?_
  refine lv_bipush (v := nI 8) hx hb dX7_init_124 (by decide) ?_
  refine gc_newa (r := 26) C hP hz hai hS (by first | assumption | omega) (by first | assumption | rfl | omega) (i26) (by decide) (Nat.le_of_ble_eq_true rfl) (Nat.le_of_ble_eq_true rfl) dX7_init_126 (fun H hP hz hS => ?_)
  rw [show z + 15 + 1 = z + 16 from rfl] at hP hz
  have kf31 : KK ad (z + 16) 10 = 8 := kkf (by first | exact Nat.lt_of_lt_of_le had0 (Nat.le_add_right _ _) | exact had0 | omega) (by first | assumption | rfl | omega)
  refine q_X7_55 C hin hP hS (by assumption) (by first | rfl | omega) dX7_init_128 (fun H locs hz9 hP hS => ?_)
  replace hz := hz9.trans hz
  clear hz9
  obtain ⟨L32, eL32⟩ : ∃ Znew : Nat → Nat → Bool, Znew = sL L30 10 16 := ⟨_, rfl⟩
  rw [← eL32] at hP
  refine lv_aload_n hx hb dX7_init_131 rfl (lv_at hl 0 rfl) ?_
  refine lv_bipush (v := nI 6) hx hb dX7_init_132 (by decide) ?_
  refine gc_newa (r := 27) C hP hz hai hS (by first | assumption | omega) (by first | assumption | rfl | omega) (i27) (by decide) (Nat.le_of_ble_eq_true rfl) (Nat.le_of_ble_eq_true rfl) dX7_init_134 (fun H hP hz hS => ?_)
  rw [show z + 16 + 1 = z + 17 from rfl] at hP hz
  have kf33 : KK ad (z + 17) 10 = 8 := kkf (by first | exact Nat.lt_of_lt_of_le had0 (Nat.le_add_right _ _) | exact had0 | omega) (by first | assumption | rfl | omega)
  refine q_X7_58 C hin hP hS (by assumption) (by first | rfl | omega) dX7_init_136 (fun H locs hz9 hP hS => ?_)
  replace hz := hz9.trans hz
  clear hz9
  obtain ⟨L34, eL34⟩ : ∃ Znew : Nat → Nat → Bool, Znew = sL L32 10 17 := ⟨_, rfl⟩
  rw [← eL34] at hP
  refine lv_aload_n hx hb dX7_init_139 rfl (lv_at hl 0 rfl) ?_
  refine lv_bipush (v := nI 32) hx hb dX7_init_140 (by decide) ?_
  refine gc_newa (r := 31) C hP hz hai hS (by first | assumption | omega) (by first | assumption | rfl | omega) (i31) (by decide) (Nat.le_of_ble_eq_true rfl) (Nat.le_of_ble_eq_true rfl) dX7_init_142 (fun H hP hz hS => ?_)
  rw [show z + 17 + 1 = z + 18 from rfl] at hP hz
  have kf35 : KK ad (z + 18) 10 = 8 := kkf (by first | exact Nat.lt_of_lt_of_le had0 (Nat.le_add_right _ _) | exact had0 | omega) (by first | assumption | rfl | omega)
  refine q_X7_61 C hin hP hS (by assumption) (by first | rfl | omega) dX7_init_144 (fun H locs hz9 hP hS => ?_)
  replace hz := hz9.trans hz
  clear hz9
  obtain ⟨L36, eL36⟩ : ∃ Znew : Nat → Nat → Bool, Znew = sL L34 10 21 := ⟨_, rfl⟩
  rw [← eL36] at hP
  refine lv_aload_n hx hb dX7_init_147 rfl (lv_at hl 0 rfl) ?_
  refine lv_sipush (v := nI 382) hx hb dX7_init_148 (by decide) ?_
  refine gc_newa (r := 35) C hP hz hai hS (by first | assumption | omega) (by first | assumption | rfl | omega) (i35) (by decide) (Nat.le_of_ble_eq_true rfl) (Nat.le_of_ble_eq_true rfl) dX7_init_151 (fun H hP hz hS => ?_)
  rw [show z + 18 + 1 = z + 19 from rfl] at hP hz
  have kf37 : KK ad (z + 19) 10 = 8 := kkf (by first | exact Nat.lt_of_lt_of_le had0 (Nat.le_add_right _ _) | exact had0 | omega) (by first | assumption | rfl | omega)
  refine q_X7_64 C hin hP hS (by assumption) (by first | rfl | omega) dX7_init_153 (fun H locs hz9 hP hS => ?_)
  replace hz := hz9.trans hz
  clear hz9
  obtain ⟨L38, eL38⟩ : ∃ Znew : Nat → Nat → Bool, Znew = sL L36 10 25 := ⟨_, rfl⟩
  rw [← eL38] at hP
  refine lv_aload_n hx hb dX7_init_156 rfl (lv_at hl 0 rfl) ?_
  refine lv_iconst (v := nI 2) hx hb dX7_init_157 (by decide) ?_
  refine gc_newz (r := 36) C hP hz hai hS (by first | assumption | omega) (by first | assumption | rfl | omega) (i36) (Nat.le_of_ble_eq_true rfl) (Nat.le_of_ble_eq_true rfl) dX7_init_158 (fun H hP hz hS => ?_)
  rw [show z + 19 + 1 = z + 20 from rfl] at hP hz
  have kf39 : KK ad (z + 20) 10 = 8 := kkf (by first | exact Nat.lt_of_lt_of_le had0 (Nat.le_add_right _ _) | exact had0 | omega) (by first | assumption | rfl | omega)
  refine q_X7_67 C hin hP hS (by assumption) (by first | rfl | omega) dX7_init_160 (fun H locs hz9 hP hS => ?_)
  replace hz := hz9.trans hz
  clear hz9
  obtain ⟨L40, eL40⟩ : ∃ Znew : Nat → Nat → Bool, Znew = sL L38 10 26 := ⟨_, rfl⟩
  rw [← eL40] at hP
  refine lv_aload_n hx hb dX7_init_163 rfl (lv_at hl 0 rfl) ?_
  have kf41 : KK ad (z + 20) 10 = 8 := kkf (by first | exact Nat.lt_of_lt_of_le had0 (Nat.le_add_right _ _) | exact had0 | omega) (by first | assumption | rfl | omega)
  have lg42 : L40 10 9 = true := by rw [eL40, sL_k (by decide), eL38, sL_k (by decide), eL36, sL_k (by decide), eL34, sL_k (by decide), eL32, sL_k (by decide), eL30, sL_k (by decide), eL28, sL_k (by decide), eL26, sL_k (by decide), eL24, sL_k (by decide), eL22, sL_k (by decide), eL20, sL_k (by decide), eL18, sL_s]
  refine f_X7_34 (q := 19) C hP (by assumption) (by assumption) rfl dX7_init_164 ?_
  refine lv_iconst (v := nI 0) hx hb dX7_init_167 (by decide) ?_
  refine lv_bipush (v := nI 10) hx hb dX7_init_168 (by decide) ?_
  have kf43 : KK ad (z + 20) 19 = 104 := kkf (by first | exact Nat.lt_of_lt_of_le had0 (Nat.le_add_right _ _) | exact had0 | omega) (by first | assumption | rfl | omega)
  refine cr_iast (n := 4) C hP hS (by assumption) (by decide) (by decide) dX7_init_170 (fun H locs hz9 hP hS => ?_)
  replace hz := hz9.trans hz
  clear hz9
  obtain ⟨I44, eI44⟩ : ∃ Znew : Nat → Nat → Int32, Znew = up2 I 19 0 (nI 10) := ⟨_, rfl⟩
  rw [← eI44] at hP
  refine lv_aload_n hx hb dX7_init_171 rfl (lv_at hl 0 rfl) ?_
  have kf45 : KK ad (z + 20) 10 = 8 := kkf (by first | exact Nat.lt_of_lt_of_le had0 (Nat.le_add_right _ _) | exact had0 | omega) (by first | assumption | rfl | omega)
  have lg46 : L40 10 9 = true := by rw [eL40, sL_k (by decide), eL38, sL_k (by decide), eL36, sL_k (by decide), eL34, sL_k (by decide), eL32, sL_k (by decide), eL30, sL_k (by decide), eL28, sL_k (by decide), eL26, sL_k (by decide), eL24, sL_k (by decide), eL22, sL_k (by decide), eL20, sL_k (by decide), eL18, sL_s]
  refine f_X7_34 (q := 19) C hP (by assumption) (by assumption) rfl dX7_init_172 ?_
  refine lv_iconst (v := nI 1) hx hb dX7_init_175 (by decide) ?_
  refine lv_iconst (v := nI 2) hx hb dX7_init_176 (by decide) ?_
  have kf47 : KK ad (z + 20) 19 = 104 := kkf (by first | exact Nat.lt_of_lt_of_le had0 (Nat.le_add_right _ _) | exact had0 | omega) (by first | assumption | rfl | omega)
  refine cr_iast (n := 4) C hP hS (by assumption) (by decide) (by decide) dX7_init_177 (fun H locs hz9 hP hS => ?_)
  replace hz := hz9.trans hz
  clear hz9
  obtain ⟨I48, eI48⟩ : ∃ Znew : Nat → Nat → Int32, Znew = up2 I44 19 1 (nI 2) := ⟨_, rfl⟩
  rw [← eI48] at hP
  refine lv_aload_n hx hb dX7_init_178 rfl (lv_at hl 0 rfl) ?_
  have kf49 : KK ad (z + 20) 10 = 8 := kkf (by first | exact Nat.lt_of_lt_of_le had0 (Nat.le_add_right _ _) | exact had0 | omega) (by first | assumption | rfl | omega)
  have lg50 : L40 10 9 = true := by rw [eL40, sL_k (by decide), eL38, sL_k (by decide), eL36, sL_k (by decide), eL34, sL_k (by decide), eL32, sL_k (by decide), eL30, sL_k (by decide), eL28, sL_k (by decide), eL26, sL_k (by decide), eL24, sL_k (by decide), eL22, sL_k (by decide), eL20, sL_k (by decide), eL18, sL_s]
  refine f_X7_34 (q := 19) C hP (by assumption) (by assumption) rfl dX7_init_179 ?_
  refine lv_iconst (v := nI 2) hx hb dX7_init_182 (by decide) ?_
  refine lv_bipush (v := nI 8) hx hb dX7_init_183 (by decide) ?_
  have kf51 : KK ad (z + 20) 19 = 104 := kkf (by first | exact Nat.lt_of_lt_of_le had0 (Nat.le_add_right _ _) | exact had0 | omega) (by first | assumption | rfl | omega)
  refine cr_iast (n := 4) C hP hS (by assumption) (by decide) (by decide) dX7_init_185 (fun H locs hz9 hP hS => ?_)
  replace hz := hz9.trans hz
  clear hz9
  obtain ⟨I52, eI52⟩ : ∃ Znew : Nat → Nat → Int32, Znew = up2 I48 19 2 (nI 8) := ⟨_, rfl⟩
  rw [← eI52] at hP
  refine lv_aload_n hx hb dX7_init_186 rfl (lv_at hl 0 rfl) ?_
  have kf53 : KK ad (z + 20) 10 = 8 := kkf (by first | exact Nat.lt_of_lt_of_le had0 (Nat.le_add_right _ _) | exact had0 | omega) (by first | assumption | rfl | omega)
  have lg54 : L40 10 9 = true := by rw [eL40, sL_k (by decide), eL38, sL_k (by decide), eL36, sL_k (by decide), eL34, sL_k (by decide), eL32, sL_k (by decide), eL30, sL_k (by decide), eL28, sL_k (by decide), eL26, sL_k (by decide), eL24, sL_k (by decide), eL22, sL_k (by decide), eL20, sL_k (by decide), eL18, sL_s]
  refine f_X7_34 (q := 19) C hP (by assumption) (by assumption) rfl dX7_init_187 ?_
  refine lv_iconst (v := nI 3) hx hb dX7_init_190 (by decide) ?_
  refine lv_iconst (v := nI 3) hx hb dX7_init_191 (by decide) ?_
  have kf55 : KK ad (z + 20) 19 = 104 := kkf (by first | exact Nat.lt_of_lt_of_le had0 (Nat.le_add_right _ _) | exact had0 | omega) (by first | assumption | rfl | omega)
  refine cr_iast (n := 4) C hP hS (by assumption) (by decide) (by decide) dX7_init_192 (fun H locs hz9 hP hS => ?_)
  replace hz := hz9.trans hz
  clear hz9
  obtain ⟨I56, eI56⟩ : ∃ Znew : Nat → Nat → Int32, Znew = up2 I52 19 3 (nI 3) := ⟨_, rfl⟩
  rw [← eI56] at hP
  exact hret _ _ _ _ _ _ dX7_init_193 hP hz hS (⟨by rw [eL40, eL38, eL36, eL34, eL32, eL30, eL28, eL26, eL24, eL22, eL20, eL18, eL16, eL14, eL12, eL10, eL8, eL6, eL4, eL2]; rfl, by rw [eI56, eI52, eI48, eI44]; rfl⟩)
