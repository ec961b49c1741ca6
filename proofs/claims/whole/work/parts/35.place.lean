/-! the packing: place -/
set_option maxHeartbeats 4000000 in
set_option maxRecDepth 100000 in
theorem c_J6_bitCount_0f7a4 {l : Launch} {E : En} {K : Nat → Nat} {L : Nat → Nat → Bool} {ad : Nat → Nat} {I : Nat → Nat → Int32} (x : Int32)  : MI l E K L ad I yJ6_bitCount_0f7a4 cJ6_bitCount_0f7a4 1 (some .int) 0 [.int x] (fun r J => J = I ∧ r = bcF x) := by
  refine MI.of (by decide) (Nat.le_of_ble_eq_true rfl) ?_
  intro p ee s m args below meth c ls Qf C hret hP hl
  have C : Cx E p s m args c cJ6_bitCount_0f7a4 RJ6 1 := C
  have hx := C.1
  have hb := C.2.1
  have hS : va_S (AG E) s.heap s.heap [] := va_S.rf
  have hl : lv_has ls 1 [(0, .int x)] := hl
  refine lv_iload_n hx hb dJ6_bitCount_0f7a4_0 rfl (lv_at hl 0 rfl) ?_
  refine lv_iload_n hx hb dJ6_bitCount_0f7a4_1 rfl (lv_at hl 0 rfl) ?_
  refine lv_iconst (v := nI 1) hx hb dJ6_bitCount_0f7a4_2 (by decide) ?_
  refine lv_iushr hx hb dJ6_bitCount_0f7a4_3 rfl ?_
  refine lv_topi (fun x1 ex1 => ?_)
  refine lv_ldcw hx hb C.2.2.2.1 (C.2.2.1 _ tk_J6_265) dJ6_bitCount_0f7a4_4 ?_
  refine lv_iand hx hb dJ6_bitCount_0f7a4_7 ?_
  refine lv_topi (fun x2 ex2 => ?_)
  refine lv_isub hx hb dJ6_bitCount_0f7a4_8 ?_
  refine lv_topi (fun x3 ex3 => ?_)
  refine lv_istore_n (lv' := [(0, .int x3)]) hx hb dJ6_bitCount_0f7a4_9 rfl hl (by decide) rfl (fun ls hl => ?_)
  refine lv_iload_n hx hb dJ6_bitCount_0f7a4_10 rfl (lv_at hl 0 rfl) ?_
  refine lv_ldcw hx hb C.2.2.2.1 (C.2.2.1 _ tk_J6_266) dJ6_bitCount_0f7a4_11 ?_
  refine lv_iand hx hb dJ6_bitCount_0f7a4_14 ?_
  refine lv_topi (fun x4 ex4 => ?_)
  refine lv_iload_n hx hb dJ6_bitCount_0f7a4_15 rfl (lv_at hl 0 rfl) ?_
  refine lv_iconst (v := nI 2) hx hb dJ6_bitCount_0f7a4_16 (by decide) ?_
  refine lv_iushr hx hb dJ6_bitCount_0f7a4_17 rfl ?_
  refine lv_topi (fun x5 ex5 => ?_)
  refine lv_ldcw hx hb C.2.2.2.1 (C.2.2.1 _ tk_J6_266) dJ6_bitCount_0f7a4_18 ?_
  refine lv_iand hx hb dJ6_bitCount_0f7a4_21 ?_
  refine lv_topi (fun x6 ex6 => ?_)
  refine lv_iadd hx hb dJ6_bitCount_0f7a4_22 ?_
  refine lv_topi (fun x7 ex7 => ?_)
  refine lv_istore_n (lv' := [(0, .int x7)]) hx hb dJ6_bitCount_0f7a4_23 rfl hl (by decide) rfl (fun ls hl => ?_)
  refine lv_iload_n hx hb dJ6_bitCount_0f7a4_24 rfl (lv_at hl 0 rfl) ?_
  refine lv_iload_n hx hb dJ6_bitCount_0f7a4_25 rfl (lv_at hl 0 rfl) ?_
  refine lv_iconst (v := nI 4) hx hb dJ6_bitCount_0f7a4_26 (by decide) ?_
  refine lv_iushr hx hb dJ6_bitCount_0f7a4_27 rfl ?_
  refine lv_topi (fun x8 ex8 => ?_)
  refine lv_iadd hx hb dJ6_bitCount_0f7a4_28 ?_
  refine lv_topi (fun x9 ex9 => ?_)
  refine lv_ldcw hx hb C.2.2.2.1 (C.2.2.1 _ tk_J6_267) dJ6_bitCount_0f7a4_29 ?_
  refine lv_iand hx hb dJ6_bitCount_0f7a4_32 ?_
  refine lv_topi (fun x10 ex10 => ?_)
  refine lv_istore_n (lv' := [(0, .int x10)]) hx hb dJ6_bitCount_0f7a4_33 rfl hl (by decide) rfl (fun ls hl => ?_)
  refine lv_iload_n hx hb dJ6_bitCount_0f7a4_34 rfl (lv_at hl 0 rfl) ?_
  refine lv_iload_n hx hb dJ6_bitCount_0f7a4_35 rfl (lv_at hl 0 rfl) ?_
  refine lv_bipush (v := nI 8) hx hb dJ6_bitCount_0f7a4_36 (by decide) ?_
  refine lv_iushr hx hb dJ6_bitCount_0f7a4_38 rfl ?_
  refine lv_topi (fun x11 ex11 => ?_)
  refine lv_iadd hx hb dJ6_bitCount_0f7a4_39 ?_
  refine lv_topi (fun x12 ex12 => ?_)
  refine lv_istore_n (lv' := [(0, .int x12)]) hx hb dJ6_bitCount_0f7a4_40 rfl hl (by decide) rfl (fun ls hl => ?_)
  refine lv_iload_n hx hb dJ6_bitCount_0f7a4_41 rfl (lv_at hl 0 rfl) ?_
  refine lv_iload_n hx hb dJ6_bitCount_0f7a4_42 rfl (lv_at hl 0 rfl) ?_
  refine lv_bipush (v := nI 16) hx hb dJ6_bitCount_0f7a4_43 (by decide) ?_
  refine lv_iushr hx hb dJ6_bitCount_0f7a4_45 rfl ?_
  refine lv_topi (fun x13 ex13 => ?_)
  refine lv_iadd hx hb dJ6_bitCount_0f7a4_46 ?_
  refine lv_topi (fun x14 ex14 => ?_)
  refine lv_istore_n (lv' := [(0, .int x14)]) hx hb dJ6_bitCount_0f7a4_47 rfl hl (by decide) rfl (fun ls hl => ?_)
  refine lv_iload_n hx hb dJ6_bitCount_0f7a4_48 rfl (lv_at hl 0 rfl) ?_
  refine lv_bipush (v := nI 63) hx hb dJ6_bitCount_0f7a4_49 (by decide) ?_
  refine lv_iand hx hb dJ6_bitCount_0f7a4_51 ?_
  refine lv_topi (fun x15 ex15 => ?_)
  exact hret _ _ _ _ _ _ dJ6_bitCount_0f7a4_52 hP hS (⟨rfl, by subst_vars; rfl⟩)
set_option maxHeartbeats 4000000 in
set_option maxRecDepth 100000 in
theorem c_J7_fill_53178 {l : Launch} {E : En} {K : Nat → Nat} {L : Nat → Nat → Bool} {ad : Nat → Nat} {I : Nat → Nat → Int32} (r n : Nat) (v : Int32) (hk : K r = 100 + n) (hn : n < 1000) : MV l E K L ad I yJ7_fill_53178 cJ7_fill_53178 4 0 [.ref (ad r), .int v] (fun J => (∀ a, a ≠ r → J a = I a) ∧ ∀ i, i < n → J r i = v) := by
  refine MV.of (by decide) (Nat.le_of_ble_eq_true rfl) ?_
  intro p ee s m args below meth c ls Qf C hret hP hl
  have C : Cx E p s m args c cJ7_fill_53178 RJ7 4 := C
  have hx := C.1
  have hb := C.2.1
  have hS : va_S (AG E) s.heap s.heap [] := va_S.rf
  have hl : lv_has ls 4 [(0, .ref (ad r)), (1, .int v)] := hl
  refine lv_iconst (v := nI 0) hx hb dJ7_fill_53178_0 (by decide) ?_
  refine lv_istore_n (lv' := [(2, .int (nI 0)), (0, .ref (ad r)), (1, .int v)]) hx hb dJ7_fill_53178_1 rfl hl (by decide) rfl (fun ls hl => ?_)
  refine lv_aload_n hx hb dJ7_fill_53178_2 rfl (lv_at hl 1 rfl) ?_
  refine r_alen (n := n) C hP (by assumption) dJ7_fill_53178_3 ?_
  refine lv_istore_n (lv' := [(3, .int (nI n)), (2, .int (nI 0)), (0, .ref (ad r)), (1, .int v)]) hx hb dJ7_fill_53178_4 rfl hl (by decide) rfl (fun ls hl => ?_)
  have hL5_1 : ∀ (d : Nat) (j : Nat) (J : Mem) (H : Heap) (locs : List Loc) (ls : Array Slot), n < j + d → (j ≤ n) → ((∀ a, a ≠ r → J a = I a) ∧ ∀ i, i < j → J r i = v) → Hp E K L ad J H → va_S (AG E) s.heap H locs → lv_has ls 4 [(0, .ref (ad r)), (1, .int v), (2, .int (nI j)), (3, .int (nI n))] → W p l ee (rmk 0) s m args below meth c H locs 0 0 Qf (F0 m 5 ls []) := by
    intro d
    induction d with
    | zero => intro j J H locs ls hd hj hc _ _ _; exact absurd hd (by omega)
    | succ d ih =>
      intro j J H locs ls hd hj hc hP hS hl
      refine lv_iload_n hx hb dJ7_fill_53178_5 rfl (lv_at hl 2 rfl) ?_
      refine lv_iload_n hx hb dJ7_fill_53178_6 rfl (lv_at hl 3 rfl) ?_
      refine b_geN C (by omega) (by omega) dJ7_fill_53178_7 (tgt := 20) (by decide) (fun h2 => ?_) (fun h2 => ?_)
      · exact hret _ _ _ _ _ dJ7_fill_53178_20 hP hS (by rw [show j = n by omega] at hc; exact hc)
      · refine lv_aload_n hx hb dJ7_fill_53178_10 rfl (lv_at hl 0 rfl) ?_
        refine lv_iload_n hx hb dJ7_fill_53178_11 rfl (lv_at hl 2 rfl) ?_
        refine lv_iload_n hx hb dJ7_fill_53178_12 rfl (lv_at hl 1 rfl) ?_
        refine r_iast (n := n) C hP hS (by assumption) (by omega) (by omega) dJ7_fill_53178_13 (fun H locs hP hS => ?_)
        obtain ⟨I3, eI3⟩ : ∃ Z : Nat → Nat → Int32, Z = up2 J r j v := ⟨_, rfl⟩
        rw [← eI3] at hP
        refine lv_iinc (v := nI (j + 1)) (lv' := [(2, .int (nI (j + 1))), (0, .ref (ad r)), (1, .int v), (3, .int (nI n))]) hx hb dJ7_fill_53178_14 hl (k := 2) rfl (nI_1 _) (by decide) rfl (fun ls hl => ?_)
        refine lv_goto (tgt := 5) hx hb dJ7_fill_53178_17 (by decide) ?_
        exact ih (j + 1) I3 _ _ _ (by omega) (by omega) (by rw [eI3]; refine ⟨fun a ha => by rw [up2_r ha]; exact hc.1 a ha, fun i hi => ?_⟩; exact if q : i = j then (by subst q; rw [up2_s]) else (by rw [up2_k q]; exact hc.2 i (by omega))) hP hS (lv_sub hl [1, 2, 0, 3] rfl)
  exact hL5_1 (n + 1) 0 I _ _ _ (by omega) (by omega) (⟨fun _ _ => rfl, fun i hi => absurd hi (Nat.not_lt_zero i)⟩) hP hS (lv_sub hl [2, 3, 1, 0] rfl)
set_option maxHeartbeats 4000000 in
set_option maxRecDepth 100000 in
theorem c_X2_leastStage {l : Launch} {E : En} {K : Nat → Nat} {L : Nat → Nat → Bool} {ad : Nat → Nat} {I : Nat → Nat → Int32} {σ : Mem} {pl : Nat → Nat} (k t : Nat) (hk : IsK K L k) (ht : t < 8) (hr : PKr I σ k t) (hpl : ∀ e, e < t → I (k + 8) e = nI (pl e) ∧ pl e < 8) : MI l E K L ad I yX2_leastStage cX2_leastStage 4 (some .int) 1 [.ref (ad k), .int (nI t)] (fun v J => J = I ∧ v = nI (lsP σ pl t t) ∧ lsP σ pl t t ≤ 8) := by
  have kk0 := hk
  obtain ⟨kk, hA⟩ := hk
  have a0 := (hA 0 (by decide)).1
  have c0 : K (k + 1) = 108 := (hA 0 (by decide)).2
  have a1 := (hA 1 (by decide)).1
  have c1 : K (k + 2) = 108 := (hA 1 (by decide)).2
  have a2 := (hA 2 (by decide)).1
  have c2 : K (k + 3) = 108 := (hA 2 (by decide)).2
  have a3 := (hA 3 (by decide)).1
  have c3 : K (k + 4) = 108 := (hA 3 (by decide)).2
  have a4 := (hA 4 (by decide)).1
  have c4 : K (k + 5) = 108 := (hA 4 (by decide)).2
  have a5 := (hA 5 (by decide)).1
  have c5 : K (k + 6) = 108 := (hA 5 (by decide)).2
  have a6 := (hA 6 (by decide)).1
  have c6 : K (k + 7) = 108 := (hA 6 (by decide)).2
  have a7 := (hA 7 (by decide)).1
  have c7 : K (k + 8) = 108 := (hA 7 (by decide)).2
  have a8 := (hA 8 (by decide)).1
  have c8 : K (k + 9) = 108 := (hA 8 (by decide)).2
  have a9 := (hA 9 (by decide)).1
  have c9 : K (k + 10) = 108 := (hA 9 (by decide)).2
  refine MI.of (by decide) (Nat.le_of_ble_eq_true rfl) ?_
  intro p ee s m args below meth c ls Qf C hret hP hl
  have C : Cx E p s m args c cX2_leastStage RX2 4 := C
  have hx := C.1
  have hb := C.2.1
  have hS : va_S (AG E) s.heap s.heap [] := va_S.rf
  have hl : lv_has ls 4 [(0, .ref (ad k)), (1, .int (nI t))] := hl
  refine lv_iconst (v := nI 0) hx hb dX2_leastStage_0 (by decide) ?_
  refine lv_istore_n (lv' := [(2, .int (nI 0)), (0, .ref (ad k)), (1, .int (nI t))]) hx hb dX2_leastStage_1 rfl hl (by decide) rfl (fun ls hl => ?_)
  refine lv_iconst (v := nI 0) hx hb dX2_leastStage_2 (by decide) ?_
  refine lv_istore_n (lv' := [(3, .int (nI 0)), (2, .int (nI 0)), (0, .ref (ad k)), (1, .int (nI t))]) hx hb dX2_leastStage_3 rfl hl (by decide) rfl (fun ls hl => ?_)
  have hL4_1 : ∀ (d : Nat) (j : Nat) (a : Nat) (H : Heap) (locs : List Loc) (ls : Array Slot), t < j + d → (j ≤ t) → (a = lsP σ pl t j) → (a ≤ 8) → Hp E K L ad I H → va_S (AG E) s.heap H locs → lv_has ls 4 [(0, .ref (ad k)), (1, .int (nI t)), (2, .int (nI a)), (3, .int (nI j))] → W p l ee (rmk 1) s m args below meth c H locs 0 0 Qf (F0 m 4 ls []) := by
    intro d
    induction d with
    | zero => intro j a H locs ls hd hj ha ha8 _ _ _; exact absurd hd (by omega)
    | succ d ih =>
      intro j a H locs ls hd hj ha ha8 hP hS hl
      refine lv_iload_n hx hb dX2_leastStage_4 rfl (lv_at hl 3 rfl) ?_
      refine lv_iload_n hx hb dX2_leastStage_5 rfl (lv_at hl 1 rfl) ?_
      refine b_geN C (by omega) (by omega) dX2_leastStage_6 (tgt := 68) (by decide) (fun h2 => ?_) (fun h2 => ?_)
      · refine lv_iload_n hx hb dX2_leastStage_68 rfl (lv_at hl 2 rfl) ?_
        exact hret _ _ _ _ _ _ dX2_leastStage_69 hP hS (by have e9 : j = t := (by omega); subst e9; exact ⟨rfl, by rw [ha], by omega⟩)
      · refine lv_aload_n hx hb dX2_leastStage_9 rfl (lv_at hl 0 rfl) ?_
        refine f_X2_24 (q := k + 5) C hP (by assumption) (by assumption) rfl dX2_leastStage_10 ?_
        refine lv_iload_n hx hb dX2_leastStage_13 rfl (lv_at hl 1 rfl) ?_
        refine r_iald (n := 8) C hP (by assumption) (by omega) (by decide) dX2_leastStage_14 ?_
        refine r_eqi (y := (nI (sN (mfF σ t) t))) (hr.2.2.2.2.1) ?_
        refine lv_iconst (v := nI 1) hx hb dX2_leastStage_15 (by decide) ?_
        refine lv_iload_n hx hb dX2_leastStage_16 rfl (lv_at hl 3 rfl) ?_
        refine lv_ishl hx hb dX2_leastStage_17 ?_
        refine lv_topi (fun x3 ex3 => ?_)
        refine lv_iand hx hb dX2_leastStage_18 ?_
        refine lv_topi (fun x4 ex4 => ?_)
        refine z_eq C dX2_leastStage_19 (tgt := 38) (by decide) (fun h5 => ?_) (fun h5 => ?_)
        · have hm1 : ¬ 2 ≤ nd σ j t := (mf_bit (by omega) ht).mp (by rw [ex4, ex3] at h5; exact h5)
          refine lv_aload_n hx hb dX2_leastStage_38 rfl (lv_at hl 0 rfl) ?_
          refine f_X2_27 (q := k + 6) C hP (by assumption) (by assumption) rfl dX2_leastStage_39 ?_
          refine lv_iload_n hx hb dX2_leastStage_42 rfl (lv_at hl 1 rfl) ?_
          refine r_iald (n := 8) C hP (by assumption) (by omega) (by decide) dX2_leastStage_43 ?_
          refine r_eqi (y := (nI (sN (mjF σ t) t))) (hr.2.2.2.2.2.1) ?_
          refine lv_iconst (v := nI 1) hx hb dX2_leastStage_44 (by decide) ?_
          refine lv_iload_n hx hb dX2_leastStage_45 rfl (lv_at hl 3 rfl) ?_
          refine lv_ishl hx hb dX2_leastStage_46 ?_
          refine lv_topi (fun x6 ex6 => ?_)
          refine lv_iand hx hb dX2_leastStage_47 ?_
          refine lv_topi (fun x7 ex7 => ?_)
          refine z_eq C dX2_leastStage_48 (tgt := 62) (by decide) (fun h8 => ?_) (fun h8 => ?_)
          · have hm2 : ¬ nd σ j t = 1 := (mj_bit (by omega) ht).mp (by rw [ex7, ex6] at h8; exact h8)
            refine lv_iinc (v := nI (j + 1)) (lv' := [(3, .int (nI (j + 1))), (0, .ref (ad k)), (1, .int (nI t)), (2, .int (nI a))]) hx hb dX2_leastStage_62 hl (k := 3) rfl (nI_1 _) (by decide) rfl (fun ls hl => ?_)
            refine lv_goto (tgt := 4) hx hb dX2_leastStage_65 (by decide) ?_
            exact ih (j + 1) a _ _ _ (by omega) (by omega) (by simp only [lsP, mxF]; rw [if_neg hm1, if_neg hm2, ha, Nat.max_eq_left (Nat.zero_le _)]; rfl) (by omega) hP hS (lv_sub hl [1, 2, 3, 0] rfl)
          · have hm2 : nd σ j t = 1 := Decidable.not_not.mp (fun q => h8 (by rw [ex7, ex6]; exact (mj_bit (by omega) ht).mpr q))
            have hpj := (hpl j (by omega)).2
            refine lv_iload_n hx hb dX2_leastStage_51 rfl (lv_at hl 2 rfl) ?_
            refine lv_aload_n hx hb dX2_leastStage_52 rfl (lv_at hl 0 rfl) ?_
            refine f_X2_33 (q := k + 8) C hP (by assumption) (by assumption) rfl dX2_leastStage_53 ?_
            refine lv_iload_n hx hb dX2_leastStage_56 rfl (lv_at hl 3 rfl) ?_
            refine r_iald (n := 8) C hP (by assumption) (by omega) (by decide) dX2_leastStage_57 ?_
            refine r_eqi (y := (nI (pl j))) ((hpl j (by omega)).1) ?_
            refine r_mmax C tm_X2_91 (Nat.le_of_ble_eq_true rfl) (Nat.le_of_ble_eq_true rfl) ⟨Nat.zero_le _, Nat.zero_le _⟩ hl.1 dX2_leastStage_58 ?_
            refine r_eqi (y := nI (max a (pl j))) (mmaxN (by omega) (by omega)) ?_
            refine lv_istore_n (lv' := [(2, .int (nI (max a (pl j)))), (0, .ref (ad k)), (1, .int (nI t)), (3, .int (nI j))]) hx hb dX2_leastStage_61 rfl hl (by decide) rfl (fun ls hl => ?_)
            refine lv_iinc (v := nI (j + 1)) (lv' := [(3, .int (nI (j + 1))), (2, .int (nI (max a (pl j)))), (0, .ref (ad k)), (1, .int (nI t))]) hx hb dX2_leastStage_62 hl (k := 3) rfl (nI_1 _) (by decide) rfl (fun ls hl => ?_)
            refine lv_goto (tgt := 4) hx hb dX2_leastStage_65 (by decide) ?_
            exact ih (j + 1) (max a (pl j)) _ _ _ (by omega) (by omega) (by simp only [lsP, mxF]; rw [if_neg hm1, if_pos hm2, ha]; rfl) (by omega) hP hS (lv_sub hl [2, 3, 1, 0] rfl)
        · have hm1 : 2 ≤ nd σ j t := Decidable.not_not.mp (fun q => h5 (by rw [ex4, ex3]; exact (mf_bit (by omega) ht).mpr q))
          have hpj := (hpl j (by omega)).2
          refine lv_iload_n hx hb dX2_leastStage_22 rfl (lv_at hl 2 rfl) ?_
          refine lv_aload_n hx hb dX2_leastStage_23 rfl (lv_at hl 0 rfl) ?_
          refine f_X2_33 (q := k + 8) C hP (by assumption) (by assumption) rfl dX2_leastStage_24 ?_
          refine lv_iload_n hx hb dX2_leastStage_27 rfl (lv_at hl 3 rfl) ?_
          refine r_iald (n := 8) C hP (by assumption) (by omega) (by decide) dX2_leastStage_28 ?_
          refine r_eqi (y := (nI (pl j))) ((hpl j (by omega)).1) ?_
          refine lv_iconst (v := nI 1) hx hb dX2_leastStage_29 (by decide) ?_
          refine r_addN C dX2_leastStage_30 ?_
          refine r_mmax C tm_X2_91 (Nat.le_of_ble_eq_true rfl) (Nat.le_of_ble_eq_true rfl) ⟨Nat.zero_le _, Nat.zero_le _⟩ hl.1 dX2_leastStage_31 ?_
          refine r_eqi (y := nI (max a ((pl j) + 1))) (mmaxN (by omega) (by omega)) ?_
          refine lv_istore_n (lv' := [(2, .int (nI (max a ((pl j) + 1)))), (0, .ref (ad k)), (1, .int (nI t)), (3, .int (nI j))]) hx hb dX2_leastStage_34 rfl hl (by decide) rfl (fun ls hl => ?_)
          refine lv_goto (tgt := 62) hx hb dX2_leastStage_35 (by decide) ?_
          refine lv_iinc (v := nI (j + 1)) (lv' := [(3, .int (nI (j + 1))), (2, .int (nI (max a ((pl j) + 1)))), (0, .ref (ad k)), (1, .int (nI t))]) hx hb dX2_leastStage_62 hl (k := 3) rfl (nI_1 _) (by decide) rfl (fun ls hl => ?_)
          refine lv_goto (tgt := 4) hx hb dX2_leastStage_65 (by decide) ?_
          exact ih (j + 1) (max a ((pl j) + 1)) _ _ _ (by omega) (by omega) (by simp only [lsP, mxF]; rw [if_pos hm1, ha]; rfl) (by omega) hP hS (lv_sub hl [2, 3, 1, 0] rfl)
  exact hL4_1 (t + 1) 0 0 _ _ _ (by omega) (by omega) (rfl) (by omega) hP hS (lv_sub hl [2, 3, 1, 0] rfl)
set_option maxHeartbeats 4000000 in
set_option maxRecDepth 100000 in
theorem c_X2_place {l : Launch} {E : En} {K : Nat → Nat} {L : Nat → Nat → Bool} {ad : Nat → Nat} {I : Nat → Nat → Int32} {σ : Mem} {pl : Nat → Nat} (k t q : Nat) (hk : IsK K L k) (hq : K q = 104) (ht : t < 8) (hr : PKr I σ k t) (hL2 : PLI I σ k t pl) (hw : WF σ) (htn : t < mn σ) (hru : ∀ i, i < 4 → I q i = σ 19 i) : MI l E K L ad I yX2_place cX2_place 4 (some .boolean) 2 [.ref (ad k), .int (nI t), .ref (ad q)] (fun v J => (v = 1 ∧ ∃ z, srch σ pl t (ru σ 2 - lsP σ pl t t) (lsP σ pl t t) = some z ∧ z < 8 ∧ J = up2 (up2 (up2 I (k + 8) t (nI z)) (k + 9) z (nI (sN (atF pl z) t) ||| sB (nI t))) (k + 10) z (nI (szP σ pl z t + (en σ t + 1)))) ∨ (v = 0 ∧ J = I ∧ srch σ pl t (ru σ 2 - lsP σ pl t t) (lsP σ pl t t) = none)) := by
  have kk0 := hk
  obtain ⟨kk, hA⟩ := hk
  have a0 := (hA 0 (by decide)).1
  have c0 : K (k + 1) = 108 := (hA 0 (by decide)).2
  have a1 := (hA 1 (by decide)).1
  have c1 : K (k + 2) = 108 := (hA 1 (by decide)).2
  have a2 := (hA 2 (by decide)).1
  have c2 : K (k + 3) = 108 := (hA 2 (by decide)).2
  have a3 := (hA 3 (by decide)).1
  have c3 : K (k + 4) = 108 := (hA 3 (by decide)).2
  have a4 := (hA 4 (by decide)).1
  have c4 : K (k + 5) = 108 := (hA 4 (by decide)).2
  have a5 := (hA 5 (by decide)).1
  have c5 : K (k + 6) = 108 := (hA 5 (by decide)).2
  have a6 := (hA 6 (by decide)).1
  have c6 : K (k + 7) = 108 := (hA 6 (by decide)).2
  have a7 := (hA 7 (by decide)).1
  have c7 : K (k + 8) = 108 := (hA 7 (by decide)).2
  have a8 := (hA 8 (by decide)).1
  have c8 : K (k + 9) = 108 := (hA 8 (by decide)).2
  have a9 := (hA 9 (by decide)).1
  have c9 : K (k + 10) = 108 := (hA 9 (by decide)).2
  obtain ⟨hu, hu0, hu1, hu2, hu3⟩ := wf_ru hw
  have hen : ∀ e, e < t → en σ e ≤ 4 := fun e he => (hw.2.2.1 e (by omega)).2.1
  have hen2 := (hw.2.2.1 t htn).2.1
  refine MZ.of (by decide) (Nat.le_of_ble_eq_true rfl) ?_
  intro p ee s m args below meth c ls Qf C hret hP hl
  have C : Cx E p s m args c cX2_place RX2 4 := C
  have hx := C.1
  have hb := C.2.1
  have hS : va_S (AG E) s.heap s.heap [] := va_S.rf
  have hl : lv_has ls 4 [(0, .ref (ad k)), (1, .int (nI t)), (2, .ref (ad q))] := hl
  refine lv_aload_n hx hb dX2_place_0 rfl (lv_at hl 0 rfl) ?_
  refine lv_iload_n hx hb dX2_place_1 rfl (lv_at hl 1 rfl) ?_
  refine k_X2_96 C hP hS (by assumption) (c_X2_leastStage (pl := pl) k t kk0 ht hr hL2.1) ⟨Nat.le_of_ble_eq_true rfl, Nat.le_of_ble_eq_true rfl⟩ ⟨Nat.zero_le _, Nat.zero_le _⟩ hl.1 (Nat.le_of_ble_eq_true rfl) dX2_place_2 (fun v1 I2 H locs hv3 hP hS => ?_)
  obtain ⟨eI2, ev1⟩ := hv3
  rw [eI2] at hP
  clear eI2
  refine r_eqi (y := nI (lsP σ pl t t)) (ev1.1) ?_
  have hls8 := ev1.2
  refine lv_istore_n (lv' := [(3, .int (nI (lsP σ pl t t))), (0, .ref (ad k)), (1, .int (nI t)), (2, .ref (ad q))]) hx hb dX2_place_5 rfl hl (by decide) rfl (fun ls hl => ?_)
  have hL6_4 : ∀ (d : Nat) (j : Nat) (H : Heap) (locs : List Loc) (ls : Array Slot), 8 < j + d → (lsP σ pl t t ≤ j) → (j ≤ 8) → (∀ a, lsP σ pl t t ≤ a → a < j → ¬ ftS σ pl t a) → Hp E K L ad I H → va_S (AG E) s.heap H locs → lv_has ls 4 [(0, .ref (ad k)), (1, .int (nI t)), (2, .ref (ad q)), (3, .int (nI j))] → W p l ee (rmk 2) s m args below meth c H locs 0 0 Qf (F0 m 6 ls []) := by
    intro d
    induction d with
    | zero => intro j H locs ls hd h0 hj hno _ _ _; exact absurd hd (by omega)
    | succ d ih =>
      intro j H locs ls hd h0 hj hno hP hS hl
      refine lv_iload_n hx hb dX2_place_6 rfl (lv_at hl 3 rfl) ?_
      refine lv_aload_n hx hb dX2_place_7 rfl (lv_at hl 2 rfl) ?_
      refine lv_iconst (v := nI 2) hx hb dX2_place_8 (by decide) ?_
      refine r_iald (n := 4) C hP (by assumption) (by omega) (by decide) dX2_place_9 ?_
      refine r_eqi (y := (nI (ru σ 2))) ((hru 2 (by decide)).trans (hu 2 (by decide))) ?_
      refine b_geN C (by omega) (by omega) dX2_place_10 (tgt := 89) (by decide) (fun h5 => ?_) (fun h5 => ?_)
      · refine lv_iconst (v := nI 0) hx hb dX2_place_89 (by decide) ?_
        exact hret _ _ _ _ _ _ dX2_place_90 hP hS (by first | rfl | (rcases hbv with rfl | rfl <;> rfl)) (Or.inr ⟨rfl, rfl, srch_miss _ _ (fun a h1 h2 => hno a h1 (by omega))⟩)
      · have hs1 := (hL2.2 j (by omega)).1
        have hs2 := (hL2.2 j (by omega)).2
        have hcn := cn_le (atF pl j) t
        have hsz : szP σ pl j t ≤ 5 * t := szP_le hen
        have hent := hen2
        refine lv_aload_n hx hb dX2_place_13 rfl (lv_at hl 0 rfl) ?_
        refine f_X2_36 (q := k + 9) C hP (by assumption) (by assumption) rfl dX2_place_14 ?_
        refine lv_iload_n hx hb dX2_place_17 rfl (lv_at hl 3 rfl) ?_
        refine r_iald (n := 8) C hP (by assumption) (by omega) (by decide) dX2_place_18 ?_
        refine r_eqi (y := (nI (sN (atF pl j) t))) (hs1) ?_
        refine k_X2_100 C hP hS (c_J6_bitCount_0f7a4 _) ⟨Nat.le_of_ble_eq_true rfl, Nat.le_of_ble_eq_true rfl⟩ ⟨Nat.zero_le _, Nat.zero_le _⟩ hl.1 (Nat.le_of_ble_eq_true rfl) dX2_place_19 (fun v6 I7 H locs hv8 hP hS => ?_)
        obtain ⟨eI7, ev6⟩ := hv8
        rw [eI7] at hP
        clear eI7
        refine r_eqi (y := nI (cn (atF pl j) t)) (ev6.trans (bcF_sN (by omega))) ?_
        refine lv_aload_n hx hb dX2_place_22 rfl (lv_at hl 2 rfl) ?_
        refine lv_iconst (v := nI 1) hx hb dX2_place_23 (by decide) ?_
        refine r_iald (n := 4) C hP (by assumption) (by omega) (by decide) dX2_place_24 ?_
        refine r_eqi (y := (nI (ru σ 1))) ((hru 1 (by decide)).trans (hu 1 (by decide))) ?_
        refine b_geN C (by omega) (by omega) dX2_place_25 (tgt := 83) (by decide) (fun h9 => ?_) (fun h9 => ?_)
        · refine lv_iinc (v := nI (j + 1)) (lv' := [(3, .int (nI (j + 1))), (0, .ref (ad k)), (1, .int (nI t)), (2, .ref (ad q))]) hx hb dX2_place_83 hl (k := 3) rfl (nI_1 _) (by decide) rfl (fun ls hl => ?_)
          refine lv_goto (tgt := 6) hx hb dX2_place_86 (by decide) ?_
          exact ih (j + 1) _ _ _ (by omega) (by omega) (by omega) (fun a h1 h2 => if q : a = j then by subst q; unfold ftS; omega else hno a h1 (by omega)) hP hS (lv_sub hl [1, 2, 3, 0] rfl)
        · refine lv_aload_n hx hb dX2_place_28 rfl (lv_at hl 0 rfl) ?_
          refine f_X2_39 (q := k + 10) C hP (by assumption) (by assumption) rfl dX2_place_29 ?_
          refine lv_iload_n hx hb dX2_place_32 rfl (lv_at hl 3 rfl) ?_
          refine r_iald (n := 8) C hP (by assumption) (by omega) (by decide) dX2_place_33 ?_
          refine r_eqi (y := (nI (szP σ pl j t))) (hs2) ?_
          refine lv_aload_n hx hb dX2_place_34 rfl (lv_at hl 0 rfl) ?_
          refine f_X2_21 (q := k + 4) C hP (by assumption) (by assumption) rfl dX2_place_35 ?_
          refine lv_iload_n hx hb dX2_place_38 rfl (lv_at hl 1 rfl) ?_
          refine r_iald (n := 8) C hP (by assumption) (by omega) (by decide) dX2_place_39 ?_
          refine r_eqi (y := (nI (en σ t + 1))) (hr.2.2.2.1) ?_
          refine r_addN C dX2_place_40 ?_
          refine lv_aload_n hx hb dX2_place_41 rfl (lv_at hl 2 rfl) ?_
          refine lv_iconst (v := nI 0) hx hb dX2_place_42 (by decide) ?_
          refine r_iald (n := 4) C hP (by assumption) (by omega) (by decide) dX2_place_43 ?_
          refine r_eqi (y := (nI (ru σ 0))) ((hru 0 (by decide)).trans (hu 0 (by decide))) ?_
          refine b_gtN C (by omega) (by omega) dX2_place_44 (tgt := 83) (by decide) (fun h10 => ?_) (fun h10 => ?_)
          · refine lv_iinc (v := nI (j + 1)) (lv' := [(3, .int (nI (j + 1))), (0, .ref (ad k)), (1, .int (nI t)), (2, .ref (ad q))]) hx hb dX2_place_83 hl (k := 3) rfl (nI_1 _) (by decide) rfl (fun ls hl => ?_)
            refine lv_goto (tgt := 6) hx hb dX2_place_86 (by decide) ?_
            exact ih (j + 1) _ _ _ (by omega) (by omega) (by omega) (fun a h1 h2 => if q : a = j then by subst q; unfold ftS; omega else hno a h1 (by omega)) hP hS (lv_sub hl [1, 2, 3, 0] rfl)
          · refine lv_aload_n hx hb dX2_place_47 rfl (lv_at hl 0 rfl) ?_
            refine f_X2_33 (q := k + 8) C hP (by assumption) (by assumption) rfl dX2_place_48 ?_
            refine lv_iload_n hx hb dX2_place_51 rfl (lv_at hl 1 rfl) ?_
            refine lv_iload_n hx hb dX2_place_52 rfl (lv_at hl 3 rfl) ?_
            refine r_iast (n := 8) C hP hS (by assumption) (by omega) (by decide) dX2_place_53 (fun H locs hP hS => ?_)
            obtain ⟨I11, eI11⟩ : ∃ Z : Nat → Nat → Int32, Z = up2 I (k + 8) t (nI j) := ⟨_, rfl⟩
            rw [← eI11] at hP
            refine lv_aload_n hx hb dX2_place_54 rfl (lv_at hl 0 rfl) ?_
            refine f_X2_36 (q := k + 9) C hP (by assumption) (by assumption) rfl dX2_place_55 ?_
            refine lv_iload_n hx hb dX2_place_58 rfl (lv_at hl 3 rfl) ?_
            refine lv_dup2_11 hx hb dX2_place_59 rfl rfl ?_
            refine r_iald (n := 8) C hP (by assumption) (by omega) (by decide) dX2_place_60 ?_
            refine r_eqi (y := (nI (sN (atF pl j) t))) (by rw [eI11, up2_r (by omega)]; exact hs1) ?_
            refine lv_iconst (v := nI 1) hx hb dX2_place_61 (by decide) ?_
            refine lv_iload_n hx hb dX2_place_62 rfl (lv_at hl 1 rfl) ?_
            refine lv_ishl hx hb dX2_place_63 ?_
            refine lv_topi (fun x12 ex12 => ?_)
            refine lv_ior hx hb dX2_place_64 ?_
            refine lv_topi (fun x13 ex13 => ?_)
            refine r_iast (n := 8) C hP hS (by assumption) (by omega) (by decide) dX2_place_65 (fun H locs hP hS => ?_)
            obtain ⟨I14, eI14⟩ : ∃ Z : Nat → Nat → Int32, Z = up2 I11 (k + 9) j x13 := ⟨_, rfl⟩
            rw [← eI14] at hP
            refine lv_aload_n hx hb dX2_place_66 rfl (lv_at hl 0 rfl) ?_
            refine f_X2_39 (q := k + 10) C hP (by assumption) (by assumption) rfl dX2_place_67 ?_
            refine lv_iload_n hx hb dX2_place_70 rfl (lv_at hl 3 rfl) ?_
            refine lv_dup2_11 hx hb dX2_place_71 rfl rfl ?_
            refine r_iald (n := 8) C hP (by assumption) (by omega) (by decide) dX2_place_72 ?_
            refine r_eqi (y := (nI (szP σ pl j t))) (by rw [eI14, up2_r (by omega), eI11, up2_r (by omega)]; exact hs2) ?_
            refine lv_aload_n hx hb dX2_place_73 rfl (lv_at hl 0 rfl) ?_
            refine f_X2_21 (q := k + 4) C hP (by assumption) (by assumption) rfl dX2_place_74 ?_
            refine lv_iload_n hx hb dX2_place_77 rfl (lv_at hl 1 rfl) ?_
            refine r_iald (n := 8) C hP (by assumption) (by omega) (by decide) dX2_place_78 ?_
            refine r_eqi (y := (nI (en σ t + 1))) (by rw [eI14, up2_r (by omega), eI11, up2_r (by omega)]; exact hr.2.2.2.1) ?_
            refine r_addN C dX2_place_79 ?_
            refine r_iast (n := 8) C hP hS (by assumption) (by omega) (by decide) dX2_place_80 (fun H locs hP hS => ?_)
            obtain ⟨I15, eI15⟩ : ∃ Z : Nat → Nat → Int32, Z = up2 I14 (k + 10) j (nI ((szP σ pl j t) + (en σ t + 1))) := ⟨_, rfl⟩
            rw [← eI15] at hP
            refine lv_iconst (v := nI 1) hx hb dX2_place_81 (by decide) ?_
            exact hret _ _ _ _ _ _ dX2_place_82 hP hS (by first | rfl | (rcases hbv with rfl | rfl <;> rfl)) (Or.inl ⟨rfl, j, srch_hit _ _ j h0 (by omega) ⟨by omega, by omega⟩ hno, by omega, by subst_vars; rfl⟩)
  exact hL6_4 (8 + 1) (lsP σ pl t t) _ _ _ (by omega) (Nat.le_refl _) (by omega) (fun a h1 h2 => absurd h1 (by omega)) hP hS (lv_sub hl [1, 2, 3, 0] rfl)
