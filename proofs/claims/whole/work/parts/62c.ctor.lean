/-! constructor of the object -/
set_option maxHeartbeats 4000000 in
set_option maxRecDepth 100000 in
theorem c_X6_init {l : Launch} {E : En} {L : Nat → Nat → Bool} {ad : Nat → Nat} {I : Nat → Nat → Int32} {z : Nat}  (hai : AI ad) (had0 : ad 100 < z) (had200 : ad 200 = z) (hadP : ∀ o, 1 ≤ o → o ≤ 4 → ad (200 + o) = z + o) (hadQ : ∀ o, 8 ≤ o → o < 72 → ad (200 + o) = z + o - 3) (had110 : ad 110 = z + 69) (hadK : ∀ k, k < 10 → ad (111 + k) = z + 70 + k) (had130 : ad 130 = z + 80) (hadS : ∀ k, k < 3 → ad (131 + k) = z + 81 + k) (had140 : ad 140 = z + 84) (had141 : ad 141 = z + 85) (had142 : ad 142 = z + 86) (hadT : ∀ j, j < 4 → ad (143 + j) = z + 87 + j) (had150 : ad 150 = z + 91) (hL0 : ∀ a, 100 ≤ a → a < 272 → ∀ i, L a i = false) (hI0 : ∀ a, 100 ≤ a → a < 272 → ∀ i, I a i = 0) : MK l E ad z L I yX6_init cX6_init 1 4 92 1163 [.ref (ad 100)] (fun L9 J => L9 = LO L ∧ J = IP I 200 8) := by
  refine MK.of (by decide) rfl (Nat.le_of_ble_eq_true rfl) ?_
  intro p ee s m args below meth c ls Qf C hin hX hret hP hz hl
  have C : Cx E p s m args c cX6_init RX6 1 := C
  have hx := C.1
  have hb := C.2.1
  have hS : va_S (AG E) s.heap s.heap [] := va_S.rf
  have hl : lv_has ls 1 [(0, .ref (ad 100))] := hl
  refine lv_aload_n hx hb dX6_init_0 rfl (lv_at hl 0 rfl) ?_
  refine W.objInit hx hb C.2.2.2.1 (C.2.2.1 _ tm_X6_3) (C.2.2.1 _ to_i) (C.2.2.1 _ to_c) rfl (by rw [C.2.2.2.2.2]; exact hl.1) rfl dX6_init_1 (Nat.le_of_ble_eq_true rfl) (Nat.le_of_ble_eq_true rfl) ?_
  refine W.eq (g2 := F0 m 4 ls []) rfl ?_
  refine lv_aload_n hx hb dX6_init_4 rfl (lv_at hl 0 rfl) ?_
  refine n_X6_9 (r := 200) C hP hz hai hS (by first | assumption | omega) (by first | assumption | rfl | omega) (fun i => hL0 200 (by decide) (by decide) i) (fun i => hI0 200 (by decide) (by decide) i) (Nat.le_of_ble_eq_true rfl) (Nat.le_of_ble_eq_true rfl) dX6_init_5 (fun H hP hz hS => ?_)
  rw [show z + 1 = z + 1 from rfl] at hP hz
  refine lv_dup hx hb dX6_init_8 rfl ?_
  refine gc_call C hX hP hz hS tm_X6_11 ti_X3_init tz_X3 tc_X3_init rfl (by decide +kernel) (c_X3_init 200 hai (fun o ho => by unfold KF; rw [if_pos (by omega), show 200 + o - 200 = o by omega]) (by omega) (by rw [hadP 1 (by decide) (by decide)]) (by rw [hadP 2 (by decide) (by decide)]) (by rw [hadP 3 (by decide) (by decide)]) (by rw [hadP 4 (by decide) (by decide)]) (fun o g1 g2 => by rw [hadQ o g1 g2]; omega) (fun a g1 g2 i => hL0 a (by omega) (by omega) i) (fun a g1 g2 i => hI0 a (by omega) (by omega) i)) ⟨Nat.le_of_ble_eq_true rfl, Nat.le_of_ble_eq_true rfl⟩ ⟨Nat.le_of_ble_eq_true rfl, Nat.le_of_ble_eq_true rfl⟩ hl.1 (Nat.le_of_ble_eq_true rfl) dX6_init_9 (fun L2 I1 H locs hv3 hP hz hS => ?_)
  obtain ⟨eL2, eI1⟩ := hv3
  rw [show z + 1 + 68 = z + 69 from rfl] at hP hz
  have hIx := eI1
  have kf4 : KK ad (z + 69) 100 = 7 := kkf (by first | exact Nat.lt_of_lt_of_le had0 (Nat.le_add_right _ _) | exact had0 | omega) (by first | assumption | rfl | omega)
  refine q_X6_12 C hin hP hS (by assumption) (by first | rfl | omega) dX6_init_12 (fun H locs hz9 hP hS => ?_)
  replace hz := hz9.trans hz
  clear hz9
  obtain ⟨L5, eL5⟩ : ∃ Znew : Nat → Nat → Bool, Znew = sL L2 100 0 := ⟨_, rfl⟩
  rw [← eL5] at hP
  refine lv_aload_n hx hb dX6_init_15 rfl (lv_at hl 0 rfl) ?_
  refine n_X6_16 (r := 110) C hP hz hai hS (by first | assumption | omega) (by first | assumption | rfl | omega) (fun i => by rw [eL5, sL_r (by decide), eL2, Lpg_r (by decide)]; exact hL0 110 (by decide) (by decide) i) (fun i => by rw [hIx, IP_r (by decide)]; exact hI0 110 (by decide) (by decide) i) (Nat.le_of_ble_eq_true rfl) (Nat.le_of_ble_eq_true rfl) dX6_init_16 (fun H hP hz hS => ?_)
  rw [show z + 69 + 1 = z + 70 from rfl] at hP hz
  refine lv_dup hx hb dX6_init_19 rfl ?_
  refine gc_callN C hX hP hz hS tn_X6_18 ti_X2_init tz_X2 tc_X2_init rfl (by decide +kernel) (c_X2_init hai (by omega) (fun k hk => hadK k hk) (fun k hk j => by rw [hIx, IP_r (by omega)]; exact hI0 (111 + k) (by omega) (by omega) j)) ⟨Nat.le_of_ble_eq_true rfl, Nat.le_of_ble_eq_true rfl⟩ ⟨Nat.le_of_ble_eq_true rfl, Nat.le_of_ble_eq_true rfl⟩ hl.1 (Nat.le_of_ble_eq_true rfl) dX6_init_20 (fun L7 I6 H locs hv8 hP hz hS => ?_)
  obtain ⟨eL7, eI6⟩ := hv8
  rw [show z + 70 + 10 = z + 80 from rfl] at hP hz
  rw [eI6] at hP
  have kf9 : KK ad (z + 80) 100 = 7 := kkf (by first | exact Nat.lt_of_lt_of_le had0 (Nat.le_add_right _ _) | exact had0 | omega) (by first | assumption | rfl | omega)
  refine q_X6_19 C hin hP hS (by assumption) (by first | rfl | omega) dX6_init_23 (fun H locs hz9 hP hS => ?_)
  replace hz := hz9.trans hz
  clear hz9
  obtain ⟨L10, eL10⟩ : ∃ Znew : Nat → Nat → Bool, Znew = sL L7 100 1 := ⟨_, rfl⟩
  rw [← eL10] at hP
  refine lv_aload_n hx hb dX6_init_26 rfl (lv_at hl 0 rfl) ?_
  refine n_X6_23 (r := 130) C hP hz hai hS (by first | assumption | omega) (by first | assumption | rfl | omega) (fun i => by rw [eL10, sL_r (by decide), eL7, Lsq_r (by decide), eL5, sL_r (by decide), eL2, Lpg_r (by decide)]; exact hL0 130 (by decide) (by decide) i) (fun i => by rw [hIx, IP_r (by decide)]; exact hI0 130 (by decide) (by decide) i) (Nat.le_of_ble_eq_true rfl) (Nat.le_of_ble_eq_true rfl) dX6_init_27 (fun H hP hz hS => ?_)
  rw [show z + 80 + 1 = z + 81 from rfl] at hP hz
  refine lv_dup hx hb dX6_init_30 rfl ?_
  refine gc_callN C hX hP hz hS tn_X6_25 ti_X4_init tz_X4 tc_X4_init rfl (by decide +kernel) (c_X4_init hai (by omega) (fun k hk => hadS k hk) (fun k hk j => by rw [hIx, IP_r (by omega)]; exact hI0 (131 + k) (by omega) (by omega) j)) ⟨Nat.le_of_ble_eq_true rfl, Nat.le_of_ble_eq_true rfl⟩ ⟨Nat.le_of_ble_eq_true rfl, Nat.le_of_ble_eq_true rfl⟩ hl.1 (Nat.le_of_ble_eq_true rfl) dX6_init_31 (fun L12 I11 H locs hv13 hP hz hS => ?_)
  obtain ⟨eL12, eI11⟩ := hv13
  rw [show z + 81 + 3 = z + 84 from rfl] at hP hz
  rw [eI11] at hP
  have kf14 : KK ad (z + 84) 100 = 7 := kkf (by first | exact Nat.lt_of_lt_of_le had0 (Nat.le_add_right _ _) | exact had0 | omega) (by first | assumption | rfl | omega)
  refine q_X6_26 C hin hP hS (by assumption) (by first | rfl | omega) dX6_init_34 (fun H locs hz9 hP hS => ?_)
  replace hz := hz9.trans hz
  clear hz9
  obtain ⟨L15, eL15⟩ : ∃ Znew : Nat → Nat → Bool, Znew = sL L12 100 2 := ⟨_, rfl⟩
  rw [← eL15] at hP
  refine lv_aload_n hx hb dX6_init_37 rfl (lv_at hl 0 rfl) ?_
  refine n_X6_30 (r := 140) C hP hz hai hS (by first | assumption | omega) (by first | assumption | rfl | omega) (fun i => by rw [eL15, sL_r (by decide), eL12, Lsq_r (by decide), eL10, sL_r (by decide), eL7, Lsq_r (by decide), eL5, sL_r (by decide), eL2, Lpg_r (by decide)]; exact hL0 140 (by decide) (by decide) i) (fun i => by rw [hIx, IP_r (by decide)]; exact hI0 140 (by decide) (by decide) i) (Nat.le_of_ble_eq_true rfl) (Nat.le_of_ble_eq_true rfl) dX6_init_38 (fun H hP hz hS => ?_)
  rw [show z + 84 + 1 = z + 85 from rfl] at hP hz
  refine lv_dup hx hb dX6_init_41 rfl ?_
  refine gc_callN C hX hP hz hS tn_X6_32 ti_X1_init tz_X1 tc_X1_init rfl (by decide +kernel) (c_X1_init hai (by omega) (by omega) (by omega) (fun j hj => hadT j hj) (fun j => by rw [eL15, sL_r (by decide), eL12, Lsq_r (by decide), eL10, sL_r (by decide), eL7, Lsq_r (by decide), eL5, sL_r (by decide), eL2, Lpg_r (by decide)]; exact hL0 142 (by decide) (by decide) j) (fun j => by rw [hIx, IP_r (by decide)]; exact hI0 141 (by decide) (by decide) j) (fun q hq j => by rw [hIx, IP_r (by omega)]; exact hI0 (143 + q) (by omega) (by omega) j)) ⟨Nat.le_of_ble_eq_true rfl, Nat.le_of_ble_eq_true rfl⟩ ⟨Nat.le_of_ble_eq_true rfl, Nat.le_of_ble_eq_true rfl⟩ hl.1 (Nat.le_of_ble_eq_true rfl) dX6_init_42 (fun L17 I16 H locs hv18 hP hz hS => ?_)
  obtain ⟨eL17, eI16⟩ := hv18
  rw [show z + 85 + 6 = z + 91 from rfl] at hP hz
  rw [eI16] at hP
  have kf19 : KK ad (z + 91) 100 = 7 := kkf (by first | exact Nat.lt_of_lt_of_le had0 (Nat.le_add_right _ _) | exact had0 | omega) (by first | assumption | rfl | omega)
  refine q_X6_33 C hin hP hS (by assumption) (by first | rfl | omega) dX6_init_45 (fun H locs hz9 hP hS => ?_)
  replace hz := hz9.trans hz
  clear hz9
  obtain ⟨L20, eL20⟩ : ∃ Znew : Nat → Nat → Bool, Znew = sL L17 100 3 := ⟨_, rfl⟩
  rw [← eL20] at hP
  refine lv_aload_n hx hb dX6_init_48 rfl (lv_at hl 0 rfl) ?_
  refine lv_iconst (v := nI 2) hx hb dX6_init_49 (by decide) ?_
  have kfz : KK ad (z + 91 + 1) 150 = 13 := kkf (by first | omega) (by first | assumption | rfl | omega)
  refine gc_anew (r := 150) (n := 2) (t0 := 4) (C0 := RX3) C hP hz hai hS (by first | assumption | omega) (by rw [show KF 150 = 13 by first | assumption | rfl | omega]; decide) (wE_13 _ _ _ _ kfz) (fun j => by have h9 : ∀ j, L20 150 j = false := (fun i => by rw [eL20, sL_r (by decide), eL17, sL_r (by decide), sL4_r (by decide), sL_r (by decide), eL15, sL_r (by decide), eL12, Lsq_r (by decide), eL10, sL_r (by decide), eL7, Lsq_r (by decide), eL5, sL_r (by decide), eL2, Lpg_r (by decide)]; exact hL0 150 (by decide) (by decide) i); simp only [h9]; rfl) rfl tl_X6_9 ta_X3 (by decide) (Nat.le_of_ble_eq_true rfl) (Nat.le_of_ble_eq_true rfl) dX6_init_50 (fun H hP hz hS => ?_)
  rw [show z + 91 + 1 = z + 92 from rfl] at hP hz
  have kf21 : KK ad (z + 92) 100 = 7 := kkf (by first | exact Nat.lt_of_lt_of_le had0 (Nat.le_add_right _ _) | exact had0 | omega) (by first | assumption | rfl | omega)
  refine q_X6_37 C hin hP hS (by assumption) (by first | rfl | omega) dX6_init_53 (fun H locs hz9 hP hS => ?_)
  replace hz := hz9.trans hz
  clear hz9
  obtain ⟨L22, eL22⟩ : ∃ Znew : Nat → Nat → Bool, Znew = sL L20 100 4 := ⟨_, rfl⟩
  rw [← eL22] at hP
  exact hret _ _ _ _ _ _ dX6_init_56 hP hz hS (⟨by rw [eL22, eL20, eL17, eL15, eL12, eL10, eL7, eL5, eL2]; rfl, by exact hIx⟩)
