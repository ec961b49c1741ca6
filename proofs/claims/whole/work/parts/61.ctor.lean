/-! constructors -/
def actR : Nat → Int32 := fun k => if k = 0 then nI 0 else if k = 1 ∨ k = 2 then -6 else 0
theorem set3_new {I : Mem} {r : Nat} (h : ∀ j, I r j = 0) : set3 I r (nI 0) (-6) (-6) = sR I r actR := by
  funext a j
  by_cases e : a = r
  · subst e
    rw [sR_s]
    unfold set3
    rw [up2_eq, up2_eq, up2_eq]
    unfold actR
    by_cases j2 : j = 2
    · subst j2; simp
    · by_cases j1 : j = 1
      · subst j1; simp
      · by_cases j0 : j = 0
        · subst j0; simp
        · simp [j0, j1, j2, h]
  · rw [sR_r e, set3_r e]
def LT (L : Nat → Nat → Bool) (h j : Nat) : Nat → Nat → Bool := fun a i => if (a = h ∧ (i = 2 ∨ i = 3)) ∨ (a = h + 2 ∧ i < j) then true else L a i
def IT (I : Mem) (h j : Nat) : Mem := fun a => if h + 3 ≤ a ∧ a < h + 3 + j then actR else I a
theorem LT_0 (L : Nat → Nat → Bool) (h : Nat) : sL (sL L h 2) h 3 = LT L h 0 := by
  funext a i
  unfold sL LT
  by_cases q : a = h
  · subst q
    by_cases i2 : i = 2
    · subst i2; simp
    · by_cases i3 : i = 3
      · subst i3; simp
      · simp [i2, i3]
  · simp [q]
theorem LT_s (L : Nat → Nat → Bool) (h j : Nat) : sL (LT L h j) (h + 2) j = LT L h (j + 1) := by
  funext a i
  unfold sL LT
  by_cases q : a = h + 2 ∧ i = j
  · rw [if_pos q, if_pos (by omega)]
  · rw [if_neg q]
    by_cases w : (a = h ∧ (i = 2 ∨ i = 3)) ∨ (a = h + 2 ∧ i < j)
    · rw [if_pos w, if_pos (by omega)]
    · rw [if_neg w, if_neg (by omega)]
theorem IT_0 (I : Mem) (h : Nat) : IT I h 0 = I := by
  funext a; unfold IT; rw [if_neg (by omega)]
theorem IT_s {I : Mem} {h j : Nat} : sR (IT I h j) (h + 3 + j) actR = IT I h (j + 1) := by
  funext a
  unfold sR IT
  by_cases q : a = h + 3 + j
  · rw [if_pos q, if_pos (by omega)]
  · rw [if_neg q]
    by_cases w : h + 3 ≤ a ∧ a < h + 3 + j
    · rw [if_pos w, if_pos (by omega)]
    · rw [if_neg w, if_neg (by omega)]
def Lpg (L : Nat → Nat → Bool) (b j : Nat) : Nat → Nat → Bool := fun a i => if (a = b ∧ 1 ≤ i ∧ i ≤ 4) ∨ (a = b + 1 ∧ i < j) ∨ ((b + 8 ≤ a ∧ a < b + 8 + 8 * j) ∧ (((a - b) % 8 = 0 ∧ (i = 2 ∨ i = 3)) ∨ ((a - b) % 8 = 2 ∧ i < 5))) then true else L a i
def IP (I : Mem) (b j : Nat) : Mem := fun a => if a = b + 1 then (fun i => if i < j then nI i else I (b + 1) i) else if a = b + 3 then stV 0 else if (b + 8 ≤ a ∧ a < b + 8 + 8 * j) ∧ 3 ≤ (a - b) % 8 then actR else I a
theorem Lpg_0 (L : Nat → Nat → Bool) (b : Nat) : sL (sL (sL (sL L b 1) b 2) b 3) b 4 = Lpg L b 0 := by
  funext a i
  unfold sL Lpg
  by_cases q : a = b
  · subst q
    by_cases w : 1 ≤ i ∧ i ≤ 4
    · rw [if_pos (show (a = a ∧ 1 ≤ i ∧ i ≤ 4) ∨ _ from Or.inl ⟨rfl, w⟩)]
      rcases (show i = 1 ∨ i = 2 ∨ i = 3 ∨ i = 4 by omega) with rfl | rfl | rfl | rfl <;> simp
    · rw [if_neg (show ¬ ((a = a ∧ 1 ≤ i ∧ i ≤ 4) ∨ (a = a + 1 ∧ i < 0) ∨ ((a + 8 ≤ a ∧ a < a + 8 + 8 * 0) ∧ (((a - a) % 8 = 0 ∧ (i = 2 ∨ i = 3)) ∨ ((a - a) % 8 = 2 ∧ i < 5)))) by omega), if_neg (by omega), if_neg (by omega), if_neg (by omega), if_neg (by omega)]
  · rw [if_neg (by omega), if_neg (by omega), if_neg (by omega), if_neg (by omega), if_neg (by omega)]
theorem IP_0 {I : Mem} {b : Nat} : sR I (b + 3) (stV 0) = IP I b 0 := by
  funext a
  unfold sR IP
  by_cases q : a = b + 3
  · rw [if_pos q, if_neg (by omega), if_pos q]
  · rw [if_neg q, if_neg q]
    by_cases w : a = b + 1
    · rw [if_pos w, w]; funext i; rw [if_neg (by omega)]
    · rw [if_neg w, if_neg (by omega)]
theorem Lpg_s (L : Nat → Nat → Bool) (b j : Nat) : sL (LT (Lpg L b j) (b + 8 + 8 * j) 5) (b + 1) j = Lpg L b (j + 1) := by
  funext a i
  unfold sL LT Lpg
  by_cases q : a = b + 1 ∧ i = j
  · rw [if_pos q, if_pos (by omega)]
  · rw [if_neg q]
    by_cases w : (a = b + 8 + 8 * j ∧ (i = 2 ∨ i = 3)) ∨ (a = b + 8 + 8 * j + 2 ∧ i < 5)
    · rw [if_pos w, if_pos (by omega)]
    · rw [if_neg w]
      by_cases v : (a = b ∧ 1 ≤ i ∧ i ≤ 4) ∨ (a = b + 1 ∧ i < j) ∨ ((b + 8 ≤ a ∧ a < b + 8 + 8 * j) ∧ (((a - b) % 8 = 0 ∧ (i = 2 ∨ i = 3)) ∨ ((a - b) % 8 = 2 ∧ i < 5)))
      · rw [if_pos v, if_pos (by omega)]
      · rw [if_neg v, if_neg (by omega)]
theorem IP_s (I : Mem) (b j : Nat) : up2 (IT (IP I b j) (b + 8 + 8 * j) 5) (b + 1) j (nI j) = IP I b (j + 1) := by
  funext a
  by_cases q : a = b + 1
  · subst q
    rw [up2_at]
    funext i
    have e1 : IT (IP I b j) (b + 8 + 8 * j) 5 (b + 1) i = if i < j then nI i else I (b + 1) i := by unfold IT; rw [if_neg (by omega)]; unfold IP; rw [if_pos rfl]
    have e2 : IP I b (j + 1) (b + 1) i = if i < j + 1 then nI i else I (b + 1) i := by unfold IP; rw [if_pos rfl]
    rw [e2, upd_eq]
    by_cases w : i = j
    · rw [if_pos w, if_pos (by omega), w]
    · rw [if_neg w, e1]
      by_cases v : i < j
      · rw [if_pos v, if_pos (by omega)]
      · rw [if_neg v, if_neg (by omega)]
  · rw [up2_r q]
    unfold IT IP
    by_cases w : b + 8 + 8 * j + 3 ≤ a ∧ a < b + 8 + 8 * j + 3 + 5
    · rw [if_pos w, if_neg q, if_neg (by omega), if_pos (by omega)]
    · rw [if_neg w, if_neg q, if_neg q]
      by_cases v : a = b + 3
      · rw [if_pos v, if_pos v]
      · rw [if_neg v, if_neg v]
        by_cases u : (b + 8 ≤ a ∧ a < b + 8 + 8 * j) ∧ 3 ≤ (a - b) % 8
        · rw [if_pos u, if_pos (by omega)]
        · rw [if_neg u, if_neg (by omega)]
def Lsq (L : Nat → Nat → Bool) (r n : Nat) : Nat → Nat → Bool := fun a i => if a = r ∧ i < n then true else L a i
theorem Lsq_0 (L : Nat → Nat → Bool) (r : Nat) : Lsq L r 0 = L := by funext a i; unfold Lsq; rw [if_neg (by omega)]
theorem Lsq_s (L : Nat → Nat → Bool) (r n : Nat) : sL (Lsq L r n) r n = Lsq L r (n + 1) := by
  funext a i
  unfold sL Lsq
  by_cases q : a = r ∧ i = n
  · rw [if_pos q, if_pos (by omega)]
  · rw [if_neg q]
    by_cases w : a = r ∧ i < n
    · rw [if_pos w, if_pos (by omega)]
    · rw [if_neg w, if_neg (by omega)]
set_option maxHeartbeats 4000000 in
set_option maxRecDepth 100000 in
theorem c_X0_init {l : Launch} {E : En} {L : Nat → Nat → Bool} {ad : Nat → Nat} {I : Nat → Nat → Int32} {z : Nat} (r : Nat) (hai : AI ad) (hkr : KF r = 1) (har : ad r < z) (hI : ∀ j, I r j = 0) : MK l E ad z L I yX0_init cX0_init 1 1 0 0 [.ref (ad r)] (fun L9 J => L9 = L ∧ J = sR I r actR) := by
  refine MK.of (by decide) rfl (Nat.le_of_ble_eq_true rfl) ?_
  intro p ee s m args below meth c ls Qf C hin hX hret hP hz hl
  have C : Cx E p s m args c cX0_init RX0 1 := C
  have hx := C.1
  have hb := C.2.1
  have hS : va_S (AG E) s.heap s.heap [] := va_S.rf
  have hl : lv_has ls 1 [(0, .ref (ad r))] := hl
  refine lv_aload_n hx hb dX0_init_0 rfl (lv_at hl 0 rfl) ?_
  refine W.objInit hx hb C.2.2.2.1 (C.2.2.1 _ tm_X0_3) (C.2.2.1 _ to_i) (C.2.2.1 _ to_c) rfl (by rw [C.2.2.2.2.2]; exact hl.1) rfl dX0_init_1 (Nat.le_of_ble_eq_true rfl) (Nat.le_of_ble_eq_true rfl) ?_
  refine W.eq (g2 := F0 m 4 ls []) rfl ?_
  refine lv_aload_n hx hb dX0_init_4 rfl (lv_at hl 0 rfl) ?_
  refine lv_iconst (v := nI 0) hx hb dX0_init_5 (by decide) ?_
  have kf1 : KK ad (z) r = 1 := kkf (by first | exact Nat.lt_of_lt_of_le had0 (Nat.le_add_right _ _) | exact had0 | omega) (by first | assumption | rfl | omega)
  refine q_X0_9 C hP hS (by assumption) dX0_init_6 (fun H locs hz9 hP hS => ?_)
  replace hz := hz9.trans hz
  clear hz9
  obtain ⟨I2, eI2⟩ : ∃ Znew : Nat → Nat → Int32, Znew = up2 I r 0 (nI 0) := ⟨_, rfl⟩
  rw [← eI2] at hP
  refine lv_aload_n hx hb dX0_init_9 rfl (lv_at hl 0 rfl) ?_
  refine lv_bipush (v := (-6)) hx hb dX0_init_10 (by decide) ?_
  have kf3 : KK ad (z) r = 1 := kkf (by first | exact Nat.lt_of_lt_of_le had0 (Nat.le_add_right _ _) | exact had0 | omega) (by first | assumption | rfl | omega)
  refine q_X0_15 C hP hS (by assumption) dX0_init_12 (fun H locs hz9 hP hS => ?_)
  replace hz := hz9.trans hz
  clear hz9
  obtain ⟨I4, eI4⟩ : ∃ Znew : Nat → Nat → Int32, Znew = up2 I2 r 1 ((-6)) := ⟨_, rfl⟩
  rw [← eI4] at hP
  refine lv_aload_n hx hb dX0_init_15 rfl (lv_at hl 0 rfl) ?_
  refine lv_bipush (v := (-6)) hx hb dX0_init_16 (by decide) ?_
  have kf5 : KK ad (z) r = 1 := kkf (by first | exact Nat.lt_of_lt_of_le had0 (Nat.le_add_right _ _) | exact had0 | omega) (by first | assumption | rfl | omega)
  refine q_X0_18 C hP hS (by assumption) dX0_init_18 (fun H locs hz9 hP hS => ?_)
  replace hz := hz9.trans hz
  clear hz9
  obtain ⟨I6, eI6⟩ : ∃ Znew : Nat → Nat → Int32, Znew = up2 I4 r 2 ((-6)) := ⟨_, rfl⟩
  rw [← eI6] at hP
  exact hret _ _ _ _ _ _ dX0_init_21 hP hz hS (⟨rfl, by rw [eI6, eI4, eI2]; exact set3_new hI⟩)
set_option maxHeartbeats 4000000 in
set_option maxRecDepth 100000 in
theorem c_X5_init {l : Launch} {E : En} {L : Nat → Nat → Bool} {ad : Nat → Nat} {I : Nat → Nat → Int32} {z : Nat} (h : Nat) (hai : AI ad) (hF0 : KF h = 6) (hF1 : KF (h + 1) = 104) (hF2 : KF (h + 2) = 11) (hF3 : ∀ e, e < 5 → KF (h + 3 + e) = 1) (had0 : ad h < z) (had1 : ad (h + 1) = z) (had2 : ad (h + 2) = z + 1) (had3 : ∀ e, e < 5 → ad (h + 3 + e) = z + 2 + e) (hLf : ∀ a, h ≤ a → a < h + 8 → ∀ i, L a i = false) (hIf : ∀ a, h ≤ a → a < h + 8 → ∀ i, I a i = 0) : MK l E ad z L I yX5_init cX5_init 2 2 7 24 [.ref (ad h)] (fun L9 J => L9 = LT L h 5 ∧ J = IT I h 5) := by
  refine MK.of (by decide) rfl (Nat.le_of_ble_eq_true rfl) ?_
  intro p ee s m args below meth c ls Qf C hin hX hret hP hz hl
  have C : Cx E p s m args c cX5_init RX5 2 := C
  have hx := C.1
  have hb := C.2.1
  have hS : va_S (AG E) s.heap s.heap [] := va_S.rf
  have hl : lv_has ls 2 [(0, .ref (ad h))] := hl
  refine lv_aload_n hx hb dX5_init_0 rfl (lv_at hl 0 rfl) ?_
  refine W.objInit hx hb C.2.2.2.1 (C.2.2.1 _ tm_X5_3) (C.2.2.1 _ to_i) (C.2.2.1 _ to_c) rfl (by rw [C.2.2.2.2.2]; exact hl.1) rfl dX5_init_1 (Nat.le_of_ble_eq_true rfl) (Nat.le_of_ble_eq_true rfl) ?_
  refine W.eq (g2 := F0 m 4 ls []) rfl ?_
  refine lv_aload_n hx hb dX5_init_4 rfl (lv_at hl 0 rfl) ?_
  refine lv_iconst (v := nI 4) hx hb dX5_init_5 (by decide) ?_
  refine gc_newa (r := h + 1) C hP hz hai hS (by first | assumption | omega) (by first | assumption | rfl | omega) (fun i => hIf (h + 1) (by omega) (by omega) i) (by decide) (Nat.le_of_ble_eq_true rfl) (Nat.le_of_ble_eq_true rfl) dX5_init_6 (fun H hP hz hS => ?_)
  rw [show z + 1 = z + 1 from rfl] at hP hz
  have kf1 : KK ad (z + 1) h = 6 := kkf (by first | exact Nat.lt_of_lt_of_le had0 (Nat.le_add_right _ _) | exact had0 | omega) (by first | assumption | rfl | omega)
  refine q_X5_9 C hin hP hS (by assumption) (by first | rfl | omega) dX5_init_8 (fun H locs hz9 hP hS => ?_)
  replace hz := hz9.trans hz
  clear hz9
  obtain ⟨L2, eL2⟩ : ∃ Znew : Nat → Nat → Bool, Znew = sL L h 2 := ⟨_, rfl⟩
  rw [← eL2] at hP
  refine lv_aload_n hx hb dX5_init_11 rfl (lv_at hl 0 rfl) ?_
  refine lv_iconst (v := nI 5) hx hb dX5_init_12 (by decide) ?_
  have kfz : KK ad (z + 1 + 1) (h + 2) = 11 := kkf (by first | omega) (by first | assumption | rfl | omega)
  refine gc_anew (r := h + 2) (n := 5) (t0 := 2) (C0 := RX0) C hP hz hai hS (by first | assumption | omega) (by rw [show KF (h + 2) = 11 by first | assumption | rfl | omega]; decide) (wE_11 _ _ _ _ kfz) (fun j => by have h9 : ∀ j, L2 (h + 2) j = false := (fun i => by rw [eL2, sL_r (by omega)]; exact hLf (h + 2) (by omega) (by omega) i); simp only [h9]; rfl) rfl tl_X5_15 ta_X0 (by decide) (Nat.le_of_ble_eq_true rfl) (Nat.le_of_ble_eq_true rfl) dX5_init_13 (fun H hP hz hS => ?_)
  rw [show z + 1 + 1 = z + 2 from rfl] at hP hz
  have kf3 : KK ad (z + 2) h = 6 := kkf (by first | exact Nat.lt_of_lt_of_le had0 (Nat.le_add_right _ _) | exact had0 | omega) (by first | assumption | rfl | omega)
  refine q_X5_17 C hin hP hS (by assumption) (by first | rfl | omega) dX5_init_16 (fun H locs hz9 hP hS => ?_)
  replace hz := hz9.trans hz
  clear hz9
  obtain ⟨L4, eL4⟩ : ∃ Znew : Nat → Nat → Bool, Znew = sL L2 h 3 := ⟨_, rfl⟩
  rw [← eL4] at hP
  refine lv_iconst (v := nI 0) hx hb dX5_init_19 (by decide) ?_
  refine lv_istore_n (lv' := [(1, .int (nI 0)), (0, .ref (ad h))]) hx hb dX5_init_20 rfl hl (by decide) rfl (fun ls hl => ?_)
  have hL21 : ∀ (d j : Nat) (H : Heap) (locs : List Loc) (ls : Array Slot), 5 < j + d → j ≤ 5 → Hp E (KK ad (z + (2 + j))) (LT L h j) ad (IT I h j) H → H.size = z + (2 + j) → va_S (AG E) s.heap H locs → lv_has ls 2 [(0, .ref (ad h)), (1, .int (nI j))] → W p l ee (rmc 2 7 24) s m args below meth c H locs (2 + j) (9 + 3 * j) Qf (F0 m 21 ls []) := by
    intro d
    induction d with
    | zero => intro j H locs ls h0 h1 _ _ _ _; exact absurd h0 (by omega)
    | succ d ih =>
      intro j H locs ls hd hj hP hz hS hl
      refine lv_iload_n hx hb dX5_init_21 rfl (lv_at hl 1 rfl) ?_
      refine lv_iconst (v := nI 4) hx hb dX5_init_22 (by decide) ?_
      refine b_gtN C (by omega) (by omega) dX5_init_23 (tgt := 45) (by decide) (fun h5 => ?_) (fun h5 => ?_)
      · have hj5 : j = 5 := by omega
        rw [show z + (2 + j) = z + 7 by omega] at hP hz
        refine W.widen (k := 7) (n := 24) (by omega) (by omega) ?_
        exact hret _ _ _ _ _ _ dX5_init_45 hP hz hS (⟨by rw [hj5], by rw [hj5]⟩)
      · refine lv_aload_n hx hb dX5_init_26 rfl (lv_at hl 0 rfl) ?_
        have hLg : LT L h j h 3 = true := by unfold LT; rw [if_pos (by omega)]
        have kf6 : KK ad (z + (2 + j)) h = 6 := kkf (by first | exact Nat.lt_of_lt_of_le had0 (Nat.le_add_right _ _) | exact had0 | omega) (by first | assumption | rfl | omega)
        refine f_X5_17 (q := h + 2) C hP (by assumption) (by assumption) rfl dX5_init_27 ?_
        refine lv_iload_n hx hb dX5_init_30 rfl (lv_at hl 1 rfl) ?_
        have hFj := hF3 j (by omega)
        have hadj := had3 j (by omega)
        refine n_X5_15 (r := h + 3 + j) C hP hz hai hS (by first | assumption | omega) (by first | assumption | rfl | omega) (fun i => by unfold LT; rw [if_neg (by omega)]; exact hLf _ (by omega) (by omega) i) (fun i => by unfold IT; rw [if_neg (by omega)]; exact hIf _ (by omega) (by omega) i) (by show 2 + j + 1 ≤ 7; omega) (by show 9 + 3 * j + 3 ≤ 24; omega) dX5_init_31 (fun H hP hz hS => ?_)
        rw [show z + (2 + j) + 1 = z + (2 + j + 1) by omega] at hP hz
        refine lv_dup hx hb dX5_init_34 rfl ?_
        refine gc_callN C hX hP hz hS tn_X5_21 ti_X0_init tz_X0 tc_X0_init rfl (by decide +kernel) (c_X0_init (h + 3 + j) hai (hF3 j (by omega)) (by rw [had3 j (by omega)]; omega) (fun i => by unfold IT; rw [if_neg (by omega)]; exact hIf _ (by omega) (by omega) i)) ⟨Nat.le_of_ble_eq_true rfl, Nat.le_of_ble_eq_true rfl⟩ ⟨by show 2 + j + 1 + 0 ≤ 7; omega, by show 9 + 3 * j + 3 + 0 ≤ 24; omega⟩ hl.1 (Nat.le_of_ble_eq_true rfl) dX5_init_35 (fun L8 I7 H locs hv9 hP hz hS => ?_)
        obtain ⟨eL8, eI7⟩ := hv9
        rw [show z + (2 + j + 1) + 0 = z + (2 + j + 1) from rfl] at hP hz
        have hLx := eL8
        have hIx := eI7
        have kf10 : KK ad (z + (2 + j + 1)) (h + 2) = 11 := kkf (by first | exact Nat.lt_of_lt_of_le had0 (Nat.le_add_right _ _) | exact had0 | omega) (by first | assumption | rfl | omega)
        have kf11 : KK ad (z + (2 + j + 1)) (h + 3 + j) = 1 := kkf (by first | exact Nat.lt_of_lt_of_le had0 (Nat.le_add_right _ _) | exact had0 | omega) (by first | assumption | rfl | omega)
        refine cr_ast11 C hP hS (by assumption) (by assumption) (by omega) (by omega) dX5_init_38 (fun H locs hz9 hP hS => ?_)
        replace hz := hz9.trans hz
        clear hz9
        obtain ⟨L12, eL12⟩ : ∃ Znew : Nat → Nat → Bool, Znew = sL L8 (h + 2) j := ⟨_, rfl⟩
        rw [← eL12] at hP
        refine lv_iinc (v := nI (j + 1)) (lv' := [(1, .int (nI (j + 1))), (0, .ref (ad h))]) hx hb dX5_init_39 hl (k := 1) rfl (nI_1 _) (by decide) rfl (fun ls hl => ?_)
        refine lv_goto (tgt := 21) hx hb dX5_init_42 (by decide) ?_
        refine W.widen (k := 2 + (j + 1)) (n := 9 + 3 * (j + 1)) (by omega) (by omega) ?_
        rw [eL12, hLx, LT_s] at hP
        rw [hIx, IT_s] at hP
        rw [show z + (2 + j + 1) = z + (2 + (j + 1)) by omega] at hP hz
        exact ih (j + 1) _ _ _ (by omega) (by omega) hP hz hS (lv_sub hl [1, 0] rfl)
  rw [eL4, eL2, LT_0] at hP
  have hP9 : Hp E (KK ad (z + (2 + 0))) (LT L h 0) ad (IT I h 0) H := by rw [IT_0]; exact hP
  exact hL21 6 0 _ _ _ (by omega) (by omega) hP9 hz hS (lv_sub hl [1, 0] rfl)
