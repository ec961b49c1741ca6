/-! constructors, further -/
theorem kP_t : ∀ u, u < 8 → kP (8 + 8 * u) = 6 ∧ kP (8 + 8 * u + 1) = 104 ∧ kP (8 + 8 * u + 2) = 11 ∧ ∀ e, e < 5 → kP (8 + 8 * u + 3 + e) = 1 := by decide
theorem Lpg_r {L : Nat → Nat → Bool} {b a : Nat} (h : a < b ∨ b + 72 ≤ a) : Lpg L b 8 a = L a := by
  funext i; unfold Lpg; rw [if_neg (by omega)]
theorem IP_r {I : Mem} {b a : Nat} (h : a < b ∨ b + 72 ≤ a) : IP I b 8 a = I a := by
  unfold IP; rw [if_neg (by omega), if_neg (by omega), if_neg (by omega)]
theorem Lsq_r {L : Nat → Nat → Bool} {r n a : Nat} (h : a ≠ r) : Lsq L r n a = L a := by
  funext i; unfold Lsq; rw [if_neg (by omega)]
theorem sL4_r {L : Nat → Nat → Bool} {a : Nat} (h : a ≠ 142) : sL4 L a = L a := by
  funext i; unfold sL4; rw [if_neg (by omega)]
def LO (L : Nat → Nat → Bool) : Nat → Nat → Bool := sL (sL (sL (sL4 (sL (sL (Lsq (sL (Lsq (sL (Lpg L 200 8) 100 0) 110 10) 100 1) 130 3) 100 2) 140 0)) 140 5) 100 3) 100 4
def LMd (L : Nat → Nat → Bool) : Nat → Nat → Bool := sL (sL (sL (sL (sL (sL (sL (sL (sL (sL (sL (sL (sL (sL (sL (sL (sL (sL (sL (sL L 10 1) 10 2) 10 3) 10 4) 10 5) 10 6) 10 7) 10 8) 10 9) 10 10) 10 11) 10 12) 10 13) 10 14) 10 15) 10 16) 10 17) 10 21) 10 25) 10 26
def IMd (I : Mem) : Mem := up2 (up2 (up2 (up2 I 19 0 (nI 10)) 19 1 (nI 2)) 19 2 (nI 8)) 19 3 (nI 3)
theorem Lsq10 (L : Nat → Nat → Bool) : sL (sL (sL (sL (sL (sL (sL (sL (sL (sL L 110 0) 110 1) 110 2) 110 3) 110 4) 110 5) 110 6) 110 7) 110 8) 110 9 = Lsq L 110 10 := by rw [show Lsq L 110 10 = sL (Lsq L 110 9) 110 9 from (Lsq_s L 110 9).symm, show Lsq L 110 9 = sL (Lsq L 110 8) 110 8 from (Lsq_s L 110 8).symm, show Lsq L 110 8 = sL (Lsq L 110 7) 110 7 from (Lsq_s L 110 7).symm, show Lsq L 110 7 = sL (Lsq L 110 6) 110 6 from (Lsq_s L 110 6).symm, show Lsq L 110 6 = sL (Lsq L 110 5) 110 5 from (Lsq_s L 110 5).symm, show Lsq L 110 5 = sL (Lsq L 110 4) 110 4 from (Lsq_s L 110 4).symm, show Lsq L 110 4 = sL (Lsq L 110 3) 110 3 from (Lsq_s L 110 3).symm, show Lsq L 110 3 = sL (Lsq L 110 2) 110 2 from (Lsq_s L 110 2).symm, show Lsq L 110 2 = sL (Lsq L 110 1) 110 1 from (Lsq_s L 110 1).symm, show Lsq L 110 1 = sL (Lsq L 110 0) 110 0 from (Lsq_s L 110 0).symm, Lsq_0]
theorem Lsq3 (L : Nat → Nat → Bool) : sL (sL (sL L 130 0) 130 1) 130 2 = Lsq L 130 3 := by rw [show Lsq L 130 3 = sL (Lsq L 130 2) 130 2 from (Lsq_s L 130 2).symm, show Lsq L 130 2 = sL (Lsq L 130 1) 130 1 from (Lsq_s L 130 1).symm, show Lsq L 130 1 = sL (Lsq L 130 0) 130 0 from (Lsq_s L 130 0).symm, Lsq_0]
set_option maxHeartbeats 4000000 in
set_option maxRecDepth 100000 in
theorem c_X3_init {l : Launch} {E : En} {L : Nat → Nat → Bool} {ad : Nat → Nat} {I : Nat → Nat → Int32} {z : Nat} (b : Nat) (hai : AI ad) (hFo : ∀ o, o < 72 → KF (b + o) = kP o) (had0 : ad b < z) (had1 : ad (b + 1) = z) (had2 : ad (b + 2) = z + 1) (had3 : ad (b + 3) = z + 2) (had4 : ad (b + 4) = z + 3) (hado : ∀ o, 8 ≤ o → o < 72 → ad (b + o) = z + o - 4) (hLf : ∀ a, b ≤ a → a < b + 72 → ∀ i, L a i = false) (hIf : ∀ a, b ≤ a → a < b + 72 → ∀ i, I a i = 0) : MK l E ad z L I yX3_init cX3_init 2 3 68 246 [.ref (ad b)] (fun L9 J => L9 = Lpg L b 8 ∧ J = IP I b 8) := by
  have hF0 : KF b = 4 := hFo 0 (by decide)
  have hF1 : KF (b + 1) = 12 := hFo 1 (by decide)
  have hF2 : KF (b + 2) = 104 := hFo 2 (by decide)
  have hF3 : KF (b + 3) = 104 := hFo 3 (by decide)
  have hF4 : KF (b + 4) = 106 := hFo 4 (by decide)
  refine MK.of (by decide) rfl (Nat.le_of_ble_eq_true rfl) ?_
  intro p ee s m args below meth c ls Qf C hin hX hret hP hz hl
  have C : Cx E p s m args c cX3_init RX3 2 := C
  have hx := C.1
  have hb := C.2.1
  have hS : va_S (AG E) s.heap s.heap [] := va_S.rf
  have hl : lv_has ls 2 [(0, .ref (ad b))] := hl
  refine lv_aload_n hx hb dX3_init_0 rfl (lv_at hl 0 rfl) ?_
  refine W.objInit hx hb C.2.2.2.1 (C.2.2.1 _ tm_X3_3) (C.2.2.1 _ to_i) (C.2.2.1 _ to_c) rfl (by rw [C.2.2.2.2.2]; exact hl.1) rfl dX3_init_1 (Nat.le_of_ble_eq_true rfl) (Nat.le_of_ble_eq_true rfl) ?_
  refine W.eq (g2 := F0 m 4 ls []) rfl ?_
  refine lv_aload_n hx hb dX3_init_4 rfl (lv_at hl 0 rfl) ?_
  refine lv_bipush (v := nI 8) hx hb dX3_init_5 (by decide) ?_
  have kfz : KK ad (z + 1) (b + 1) = 12 := kkf (by first | omega) (by first | assumption | rfl | omega)
  refine gc_anew (r := b + 1) (n := 8) (t0 := 3) (C0 := RX5) C hP hz hai hS (by first | assumption | omega) (by rw [show KF (b + 1) = 12 by first | assumption | rfl | omega]; decide) (wE_12 _ _ _ _ kfz) (fun j => by have h9 : ∀ j, L (b + 1) j = false := (fun i => hLf (b + 1) (by omega) (by omega) i); simp only [h9]; rfl) rfl tl_X3_9 ta_X5 (by decide) (Nat.le_of_ble_eq_true rfl) (Nat.le_of_ble_eq_true rfl) dX3_init_7 (fun H hP hz hS => ?_)
  rw [show z + 1 = z + 1 from rfl] at hP hz
  have kf1 : KK ad (z + 1) b = 4 := kkf (by first | exact Nat.lt_of_lt_of_le had0 (Nat.le_add_right _ _) | exact had0 | omega) (by first | assumption | rfl | omega)
  refine q_X3_11 C hin hP hS (by assumption) (by first | rfl | omega) dX3_init_10 (fun H locs hz9 hP hS => ?_)
  replace hz := hz9.trans hz
  clear hz9
  obtain ⟨L2, eL2⟩ : ∃ Znew : Nat → Nat → Bool, Znew = sL L b 1 := ⟨_, rfl⟩
  rw [← eL2] at hP
  refine lv_aload_n hx hb dX3_init_13 rfl (lv_at hl 0 rfl) ?_
  refine lv_iconst (v := nI 4) hx hb dX3_init_14 (by decide) ?_
  refine gc_newa (r := b + 2) C hP hz hai hS (by first | assumption | omega) (by first | assumption | rfl | omega) (fun i => hIf (b + 2) (by omega) (by omega) i) (by decide) (Nat.le_of_ble_eq_true rfl) (Nat.le_of_ble_eq_true rfl) dX3_init_15 (fun H hP hz hS => ?_)
  rw [show z + 1 + 1 = z + 2 from rfl] at hP hz
  have kf3 : KK ad (z + 2) b = 4 := kkf (by first | exact Nat.lt_of_lt_of_le had0 (Nat.le_add_right _ _) | exact had0 | omega) (by first | assumption | rfl | omega)
  refine q_X3_17 C hin hP hS (by assumption) (by first | rfl | omega) dX3_init_17 (fun H locs hz9 hP hS => ?_)
  replace hz := hz9.trans hz
  clear hz9
  obtain ⟨L4, eL4⟩ : ∃ Znew : Nat → Nat → Bool, Znew = sL L2 b 2 := ⟨_, rfl⟩
  rw [← eL4] at hP
  refine lv_aload_n hx hb dX3_init_20 rfl (lv_at hl 0 rfl) ?_
  refine gc_gets C hS dX3_init_21 ?_
  refine gc_clone (r := b + 3) C hX hP hz hai hS (by first | assumption | omega) (by first | assumption | rfl | omega) hl.1 (Nat.le_of_ble_eq_true rfl) (Nat.le_of_ble_eq_true rfl) (Nat.le_of_ble_eq_true rfl) (Nat.le_of_ble_eq_true rfl) dX3_init_24 (fun H hP hz hS => ?_)
  rw [show z + 2 + 1 = z + 3 from rfl] at hP hz
  obtain ⟨I5, eI5⟩ : ∃ Znew : Nat → Nat → Int32, Znew = sR I (b + 3) (stV 0) := ⟨_, rfl⟩
  rw [← eI5] at hP
  have kf6 : KK ad (z + 3) (b + 3) = 104 := kkf (by first | exact Nat.lt_of_lt_of_le had0 (Nat.le_add_right _ _) | exact had0 | omega) (by first | assumption | rfl | omega)
  refine gc_cast (n := 4) C hP (by assumption) dX3_init_27 ?_
  have kf7 : KK ad (z + 3) b = 4 := kkf (by first | exact Nat.lt_of_lt_of_le had0 (Nat.le_add_right _ _) | exact had0 | omega) (by first | assumption | rfl | omega)
  refine q_X3_29 C hin hP hS (by assumption) (by first | rfl | omega) dX3_init_30 (fun H locs hz9 hP hS => ?_)
  replace hz := hz9.trans hz
  clear hz9
  obtain ⟨L8, eL8⟩ : ∃ Znew : Nat → Nat → Bool, Znew = sL L4 b 3 := ⟨_, rfl⟩
  rw [← eL8] at hP
  refine lv_aload_n hx hb dX3_init_33 rfl (lv_at hl 0 rfl) ?_
  refine lv_bipush (v := nI 6) hx hb dX3_init_34 (by decide) ?_
  refine gc_newa (r := b + 4) C hP hz hai hS (by first | assumption | omega) (by first | assumption | rfl | omega) (fun i => by rw [eI5, sR_r (by omega)]; exact hIf (b + 4) (by omega) (by omega) i) (by decide) (Nat.le_of_ble_eq_true rfl) (Nat.le_of_ble_eq_true rfl) dX3_init_36 (fun H hP hz hS => ?_)
  rw [show z + 3 + 1 = z + 4 from rfl] at hP hz
  have kf9 : KK ad (z + 4) b = 4 := kkf (by first | exact Nat.lt_of_lt_of_le had0 (Nat.le_add_right _ _) | exact had0 | omega) (by first | assumption | rfl | omega)
  refine q_X3_32 C hin hP hS (by assumption) (by first | rfl | omega) dX3_init_38 (fun H locs hz9 hP hS => ?_)
  replace hz := hz9.trans hz
  clear hz9
  obtain ⟨L10, eL10⟩ : ∃ Znew : Nat → Nat → Bool, Znew = sL L8 b 4 := ⟨_, rfl⟩
  rw [← eL10] at hP
  refine lv_iconst (v := nI 0) hx hb dX3_init_41 (by decide) ?_
  refine lv_istore_n (lv' := [(1, .int (nI 0)), (0, .ref (ad b))]) hx hb dX3_init_42 rfl hl (by decide) rfl (fun ls hl => ?_)
  have hL43 : ∀ (d j : Nat) (H : Heap) (locs : List Loc) (ls : Array Slot), 8 < j + d → j ≤ 8 → Hp E (KK ad (z + (4 + 8 * j))) (Lpg L b j) ad (IP I b j) H → H.size = z + (4 + 8 * j) → va_S (AG E) s.heap H locs → lv_has ls 2 [(0, .ref (ad b)), (1, .int (nI j))] → W p l ee (rmc 3 68 246) s m args below meth c H locs (4 + 8 * j) (22 + 28 * j) Qf (F0 m 43 ls []) := by
    intro d
    induction d with
    | zero => intro j H locs ls h0 h1 _ _ _ _; exact absurd h0 (by omega)
    | succ d ih =>
      intro j H locs ls hd hj hP hz hS hl
      refine lv_iload_n hx hb dX3_init_43 rfl (lv_at hl 1 rfl) ?_
      refine lv_bipush (v := nI 8) hx hb dX3_init_44 (by decide) ?_
      refine b_geN C (by omega) (by omega) dX3_init_46 (tgt := 68) (by decide) (fun h11 => ?_) (fun h11 => ?_)
      · have hj8 : j = 8 := by omega
        rw [show z + (4 + 8 * j) = z + 68 by omega] at hP hz
        refine W.widen (k := 68) (n := 246) (by omega) (by omega) ?_
        exact hret _ _ _ _ _ _ dX3_init_68 hP hz hS (⟨by rw [hj8], by rw [hj8]⟩)
      · have hk9 := kP_t j (by omega)
        have hadq : ∀ o, 8 ≤ o → o < 72 → ∀ q, q = b + o → ad q = z + o - 4 := fun o g1 g2 q hq => by rw [hq]; exact hado o g1 g2
        have hk0 : KF (b + 8 + 8 * j) = 6 := by rw [show b + 8 + 8 * j = b + (8 + 8 * j) by omega, hFo _ (by omega)]; exact hk9.1
        have hk1 : KF (b + 8 + 8 * j + 1) = 104 := by rw [show b + 8 + 8 * j + 1 = b + (8 + 8 * j + 1) by omega, hFo _ (by omega)]; exact hk9.2.1
        have hk2 : KF (b + 8 + 8 * j + 2) = 11 := by rw [show b + 8 + 8 * j + 2 = b + (8 + 8 * j + 2) by omega, hFo _ (by omega)]; exact hk9.2.2.1
        have hk3 : ∀ e, e < 5 → KF (b + 8 + 8 * j + 3 + e) = 1 := fun e he => by rw [show b + 8 + 8 * j + 3 + e = b + (8 + 8 * j + 3 + e) by omega, hFo _ (by omega)]; exact hk9.2.2.2 e he
        have hA0 := hadq (8 + 8 * j) (by omega) (by omega) (b + 8 + 8 * j) (by omega)
        have hA1 := hadq (8 + 8 * j + 1) (by omega) (by omega) (b + 8 + 8 * j + 1) (by omega)
        have hA2 := hadq (8 + 8 * j + 2) (by omega) (by omega) (b + 8 + 8 * j + 2) (by omega)
        have hLg : Lpg L b j b 1 = true := by unfold Lpg; rw [if_pos (by omega)]
        refine lv_aload_n hx hb dX3_init_49 rfl (lv_at hl 0 rfl) ?_
        have kf12 : KK ad (z + (4 + 8 * j)) b = 4 := kkf (by first | exact Nat.lt_of_lt_of_le had0 (Nat.le_add_right _ _) | exact had0 | omega) (by first | assumption | rfl | omega)
        refine f_X3_11 (q := b + 1) C hP (by assumption) (by assumption) rfl dX3_init_50 ?_
        refine lv_iload_n hx hb dX3_init_53 rfl (lv_at hl 1 rfl) ?_
        refine n_X3_9 (r := b + 8 + 8 * j) C hP hz hai hS (by first | assumption | omega) (by first | assumption | rfl | omega) (fun i => by unfold Lpg; rw [if_neg (by omega)]; exact hLf _ (by omega) (by omega) i) (fun i => by unfold IP; rw [if_neg (by omega), if_neg (by omega), if_neg (by omega)]; exact hIf _ (by omega) (by omega) i) (by show 4 + 8 * j + 1 ≤ 68; omega) (by show 22 + 28 * j + 4 ≤ 246; omega) dX3_init_54 (fun H hP hz hS => ?_)
        rw [show z + (4 + 8 * j) + 1 = z + (4 + 8 * j + 1) by omega] at hP hz
        refine lv_dup hx hb dX3_init_57 rfl ?_
        refine gc_call C hX hP hz hS tm_X3_35 ti_X5_init tz_X5 tc_X5_init rfl (by decide +kernel) (c_X5_init (b + 8 + 8 * j) hai hk0 hk1 hk2 hk3 (by omega) (by omega) (by omega) (fun e he => by rw [hadq (8 + 8 * j + 3 + e) (by omega) (by omega) _ (by omega)]; omega) (fun a g1 g2 i => by unfold Lpg; rw [if_neg (by omega)]; exact hLf _ (by omega) (by omega) i) (fun a g1 g2 i => by unfold IP; rw [if_neg (by omega), if_neg (by omega), if_neg (by omega)]; exact hIf _ (by omega) (by omega) i)) ⟨Nat.le_of_ble_eq_true rfl, Nat.le_of_ble_eq_true rfl⟩ ⟨by show 4 + 8 * j + 1 + 7 ≤ 68; omega, by show 22 + 28 * j + 4 + 24 ≤ 246; omega⟩ hl.1 (Nat.le_of_ble_eq_true rfl) dX3_init_58 (fun L14 I13 H locs hv15 hP hz hS => ?_)
        obtain ⟨eL14, eI13⟩ := hv15
        rw [show z + (4 + 8 * j + 1) + 7 = z + (4 + 8 * j + 1 + 7) by omega] at hP hz
        have hLx := eL14
        have hIx := eI13
        have kf16 : KK ad (z + (4 + 8 * j + 1 + 7)) (b + 1) = 12 := kkf (by first | exact Nat.lt_of_lt_of_le had0 (Nat.le_add_right _ _) | exact had0 | omega) (by first | assumption | rfl | omega)
        have kf17 : KK ad (z + (4 + 8 * j + 1 + 7)) (b + 8 + 8 * j) = 6 := kkf (by first | exact Nat.lt_of_lt_of_le had0 (Nat.le_add_right _ _) | exact had0 | omega) (by first | assumption | rfl | omega)
        refine cr_ast12 (u := j) C hP hS (by assumption) (by assumption) (by omega) (by omega) (by omega) dX3_init_61 (fun H locs hz9 hP hS => ?_)
        replace hz := hz9.trans hz
        clear hz9
        obtain ⟨L18, eL18⟩ : ∃ Znew : Nat → Nat → Bool, Znew = sL L14 (b + 1) j := ⟨_, rfl⟩
        rw [← eL18] at hP
        obtain ⟨I19, eI19⟩ : ∃ Znew : Nat → Nat → Int32, Znew = up2 I13 (b + 1) j (nI j) := ⟨_, rfl⟩
        rw [← eI19] at hP
        refine lv_iinc (v := nI (j + 1)) (lv' := [(1, .int (nI (j + 1))), (0, .ref (ad b))]) hx hb dX3_init_62 hl (k := 1) rfl (nI_1 _) (by decide) rfl (fun ls hl => ?_)
        refine lv_goto (tgt := 43) hx hb dX3_init_65 (by decide) ?_
        refine W.widen (k := 4 + 8 * (j + 1)) (n := 22 + 28 * (j + 1)) (by omega) (by omega) ?_
        rw [eL18, hLx, Lpg_s] at hP
        rw [eI19, hIx, IP_s] at hP
        rw [show z + (4 + 8 * j + 1 + 7) = z + (4 + 8 * (j + 1)) by omega] at hP hz
        exact ih (j + 1) _ _ _ (by omega) (by omega) hP hz hS (lv_sub hl [1, 0] rfl)
  rw [eL10, eL8, eL4, eL2, Lpg_0] at hP
  rw [eI5, IP_0] at hP
  exact hL43 9 0 _ _ _ (by omega) (by omega) hP hz hS (lv_sub hl [1, 0] rfl)
