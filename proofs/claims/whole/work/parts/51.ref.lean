/-! the reference: the fewest stages -/
theorem mfS_lt {σ : Mem} {t : Nat} (ht : t < 8) : mfS σ t < 256 := Nat.lt_of_lt_of_le (sN_lt _ t) (Nat.pow_le_pow_right (by decide) (by omega) : 2 ^ t ≤ 2 ^ 8)
theorem mjS_lt {σ : Mem} {t : Nat} (ht : t < 8) : mjS σ t < 256 := Nat.lt_of_lt_of_le (sN_lt _ t) (Nat.pow_le_pow_right (by decide) (by omega) : 2 ^ t ≤ 2 ^ 8)
theorem or_lt {a b : Nat} (ha : a < 256) (hb : b < 256) : a ||| b < 256 := Nat.or_lt_two_pow (n := 8) ha hb
theorem and_m1 {M B : Nat} (hM : M < 256) (hB : B < 256) : (nI M &&& (nI B ^^^ (-1))) = 0 ↔ M &&& B = M := d_and2 M hM B hB
theorem fit_n {σ : Mem} {B S j : Nat} (h : S.testBit j = false) : fitS σ B S (j + 1) ↔ fitS σ B S j :=
  ⟨fun H t ht => H t (by omega), fun H t ht hb => if q : t = j then by subst q; rw [h] at hb; cases hb else H t (by omega) hb⟩
theorem fit_y {σ : Mem} {B S j : Nat} (h : S.testBit j = true) : fitS σ B S (j + 1) ↔ fitS σ B S j ∧ mfS σ j &&& B = mfS σ j ∧ mjS σ j &&& (B ||| S) = mjS σ j :=
  ⟨fun H => ⟨fun t ht => H t (by omega), H j (by omega) h⟩, fun H t ht hb => if q : t = j then by subst q; exact H.2 else H.1 t (by omega) hb⟩
theorem szS_y {σ : Mem} {S j : Nat} (h : S.testBit j = true) : szS σ S (j + 1) = szS σ S j + (en σ j + 1) := by simp only [szS]; rw [if_pos h]
theorem szS_n {σ : Mem} {S j : Nat} (h : S.testBit j = false) : szS σ S (j + 1) = szS σ S j := by simp only [szS]; rw [if_neg (by rw [h]; decide)]; rfl
/-- the table of answers is right below D -/
def FwB (σ : Mem) (A : Nat → Option Nat) (B : Nat) : Prop := A 0 = some 0 ∧ (∀ D k, D < B → A D = some k → k ≤ D) ∧ ∀ D, 0 < D → D < B → MinOf (fun S => sub S D) (cnd σ A D) (A D)
theorem FwB_s {σ : Mem} {A : Nat → Option Nat} {D : Nat} {v : Option Nat} (H : FwB σ A D) (h0 : 0 < D) (hv : MinOf (fun S => sub S D) (cnd σ A D) v) (hk : ∀ k, v = some k → k ≤ D) : FwB σ (fun i => if i = D then v else A i) (D + 1) := by
  have key : ∀ (D' : Nat) (w : Option Nat), 0 < D' → D' ≤ D → MinOf (fun S => sub S D') (cnd σ A D') w → MinOf (fun S => sub S D') (cnd σ (fun i => if i = D then v else A i) D') w := fun D' w h1 h2 M => by
    have hc : ∀ S k, sub S D' → (cnd σ (fun i => if i = D then v else A i) D' S k ↔ cnd σ A D' S k) := fun S k hS => by
      have := hS.1
      have := sub_le hS
      unfold cnd
      dsimp only
      rw [if_neg (by omega)]
    exact ⟨fun S k h c => M.1 S k h ((hc S k h).mp c), fun m h => (M.2 m h).elim fun S q => ⟨S, q.1, (hc S m q.1).mpr q.2⟩⟩
  refine ⟨by dsimp only; rw [if_neg (by omega)]; exact H.1, fun D' k h1 h2 => ?_, fun D' h1 h2 => ?_⟩
  · dsimp only at h2
    by_cases q : D' = D
    · rw [if_pos q] at h2; rw [q]; exact hk k h2
    · rw [if_neg q] at h2; exact H.2.1 D' k (by omega) h2
  · by_cases q : D' = D
    · subst q
      dsimp only
      rw [if_pos rfl]
      exact key D' v h1 (Nat.le_refl _) hv
    · have := key D' (A D') h1 (by omega) (H.2.2 D' h1 (by omega))
      dsimp only
      rw [if_neg q]
      exact this
theorem cnd_le {σ : Mem} {A : Nat → Option Nat} {D S k : Nat} (H : FwB σ A D) (hS : sub S D) (c : cnd σ A D S k) : k ≤ D := by
  obtain ⟨-, m, h1, h2⟩ := c
  have := hS.1
  have := sub_le hS
  have := H.2.1 (D - S) m (by omega) h1
  omega
set_option maxHeartbeats 4000000 in
set_option maxRecDepth 100000 in
theorem c_X7_canFollow {l : Launch} {E : En} {K : Nat → Nat} {L : Nat → Nat → Bool} {ad : Nat → Nat} {I : Nat → Nat → Int32} {σ : Mem} (B S : Nat) (hM : IsM K L) (hw : WF σ) (hrow : ∀ a, a < 20 → I a = σ a) (hB : B < 256) (hS8 : S < 256) (hr25 : ∀ t, t < mn σ → I 25 t = nI (mfS σ t)) (hr26 : ∀ t, t < mn σ → I 26 t = nI (mjS σ t)) : MI l E K L ad I yX7_canFollow cX7_canFollow 6 (some .boolean) 1 [.ref (ad 10), .int (nI B), .int (nI S)] (fun v J => J = I ∧ (v = 1 ∧ (okS σ B S) ∨ v = 0 ∧ ¬ (okS σ B S))) := by
  have hM0 := hM
  obtain ⟨m0, ml1, ml2, ml3, ml4, ml5, ml6, ml7, ml8, ml9, ml10, ml11, ml12, ml13, ml14, ml15, ml16, ml17, ml21, ml25, ml26, mk1, mk2, mk3, mk4, mk5, mk6, mk7, mk8, mk9, mk10, mk11, mk12, mk13, mk14, mk15, mk16, mk17, mk21, mk25, mk26⟩ := hM
  have hn8 := hw.2.1
  have hpop : popN S ≤ 8 := cn_le _ 8
  obtain ⟨hu, hu0, hu1, hu2, hu3⟩ := wf_ru hw
  have hI0 : I 10 0 = nI (mn σ) := by rw [hrow 10 (by decide)]; exact hw.1
  refine MZ.of (by decide) (Nat.le_of_ble_eq_true rfl) ?_
  intro p ee s m args below meth c ls Qf C hret hP hl
  have C : Cx E p s m args c cX7_canFollow RX7 6 := C
  have hx := C.1
  have hb := C.2.1
  have hS : va_S (AG E) s.heap s.heap [] := va_S.rf
  have hl : lv_has ls 6 [(0, .ref (ad 10)), (1, .int (nI B)), (2, .int (nI S))] := hl
  refine lv_iconst (v := nI 0) hx hb dX7_canFollow_0 (by decide) ?_
  refine lv_istore_n (lv' := [(3, .int (nI 0)), (0, .ref (ad 10)), (1, .int (nI B)), (2, .int (nI S))]) hx hb dX7_canFollow_1 rfl hl (by decide) rfl (fun ls hl => ?_)
  refine lv_iload_n hx hb dX7_canFollow_2 rfl (lv_at hl 3 rfl) ?_
  refine k_X7_140 C hP hS (c_X7_bits S) ⟨Nat.le_of_ble_eq_true rfl, Nat.le_of_ble_eq_true rfl⟩ ⟨Nat.zero_le _, Nat.zero_le _⟩ hl.1 (Nat.le_of_ble_eq_true rfl) dX7_canFollow_3 (fun v1 I2 H locs hv3 hP hS => ?_)
  obtain ⟨eI2, ev1⟩ := hv3
  rw [eI2] at hP
  clear eI2
  refine r_eqi (y := nI (popN S)) (ev1) ?_
  refine lv_aload_n hx hb dX7_canFollow_6 rfl (lv_at hl 1 rfl) ?_
  refine f_X7_34 (q := 19) C hP (by assumption) (by assumption) rfl dX7_canFollow_7 ?_
  refine lv_iconst (v := nI 1) hx hb dX7_canFollow_10 (by decide) ?_
  refine r_iald (n := 4) C hP (by assumption) (by omega) (by decide) dX7_canFollow_11 ?_
  refine r_eqi (y := (nI (ru σ 1))) (by rw [hrow 19 (by decide)]; exact hu 1 (by decide)) ?_
  refine b_gtN C (by omega) (by omega) dX7_canFollow_12 (tgt := 19) (by decide) (fun h4 => ?_) (fun h4 => ?_)
  · refine lv_iconst (v := nI 0) hx hb dX7_canFollow_19 (by decide) ?_
    refine lv_istore (lv' := [(4, .int (nI 0)), (3, .int (nI 0)), (0, .ref (ad 10)), (1, .int (nI B)), (2, .int (nI S))]) hx hb dX7_canFollow_20 hl (by decide) rfl (fun ls hl => ?_)
    refine lv_iconst (v := nI 0) hx hb dX7_canFollow_22 (by decide) ?_
    refine lv_istore (lv' := [(5, .int (nI 0)), (4, .int (nI 0)), (3, .int (nI 0)), (0, .ref (ad 10)), (1, .int (nI B)), (2, .int (nI S))]) hx hb dX7_canFollow_23 hl (by decide) rfl (fun ls hl => ?_)
    have hL25_5 : ∀ (d : Nat) (j : Nat) (cq : Nat) (a : Nat) (H : Heap) (locs : List Loc) (ls : Array Slot), mn σ < j + d → (j ≤ mn σ) → (a = szS σ S j) → (cq = 1 ∧ (popN S ≤ ru σ 1 ∧ fitS σ B S  j) ∨ cq = 0 ∧ ¬ (popN S ≤ ru σ 1 ∧ fitS σ B S  j)) → Hp E K L ad I H → va_S (AG E) s.heap H locs → lv_has ls 6 [(0, .ref (ad 10)), (1, .int (nI B)), (2, .int (nI S)), (3, .int (nI a)), (4, .int (nI cq)), (5, .int (nI j))] → W p l ee (rmk 1) s m args below meth c H locs 0 0 Qf (F0 m 25 ls []) := by
      intro d25
      induction d25 with
      | zero => intro j cq a H locs ls hd25 hj ha hc _ _ _; exact absurd hd25 (by omega)
      | succ d25 ih25 =>
        intro j cq a H locs ls hd25 hj ha hc hP hS hl
        have hsz := szS_le (σ := σ) (S := S) (t := j) (fun e h => (hw.2.2.1 e (by omega)).2.1)
        refine lv_iload hx hb dX7_canFollow_25 (lv_at hl 5 rfl) ?_
        refine lv_aload_n hx hb dX7_canFollow_27 rfl (lv_at hl 0 rfl) ?_
        refine f_X7_71 C hP (by first | assumption | exact hKa _ (by omega)) dX7_canFollow_28 ?_
        refine r_eqi (y := (nI (mn σ))) (hI0) ?_
        refine b_geN C (by omega) (by omega) dX7_canFollow_31 (tgt := 100) (by decide) (fun h6 => ?_) (fun h6 => ?_)
        · refine lv_iload hx hb dX7_canFollow_100 (lv_at hl 4 rfl) ?_
          refine z_eq C dX7_canFollow_102 (tgt := 119) (by decide) (fun h7 => ?_) (fun h7 => ?_)
          · replace h7 : cq = 0 := (nI_eq (by omega) (by decide)).mp h7
            refine lv_iconst (v := nI 0) hx hb dX7_canFollow_119 (by decide) ?_
            exact hret _ _ _ _ _ _ dX7_canFollow_120 hP hS (by first | rfl | (rcases hbv with rfl | rfl <;> rfl)) (⟨rfl, Or.inr ⟨rfl, fun q => by unfold okS at q; rw [show j = mn σ by omega] at ha hc; rcases hc with hc | hc; (have := q.2.2; omega); exact hc.2 ⟨q.1, q.2.1⟩⟩⟩)
          · replace h7 : cq ≠ 0 := fun q => h7 (by rw [q]; rfl)
            refine lv_iload_n hx hb dX7_canFollow_105 rfl (lv_at hl 3 rfl) ?_
            refine lv_aload_n hx hb dX7_canFollow_106 rfl (lv_at hl 0 rfl) ?_
            refine f_X7_34 (q := 19) C hP (by assumption) (by assumption) rfl dX7_canFollow_107 ?_
            refine lv_iconst (v := nI 0) hx hb dX7_canFollow_110 (by decide) ?_
            refine r_iald (n := 4) C hP (by assumption) (by omega) (by decide) dX7_canFollow_111 ?_
            refine r_eqi (y := (nI (ru σ 0))) (by rw [hrow 19 (by decide)]; exact hu 0 (by decide)) ?_
            refine b_gtN C (by omega) (by omega) dX7_canFollow_112 (tgt := 119) (by decide) (fun h8 => ?_) (fun h8 => ?_)
            · refine lv_iconst (v := nI 0) hx hb dX7_canFollow_119 (by decide) ?_
              exact hret _ _ _ _ _ _ dX7_canFollow_120 hP hS (by first | rfl | (rcases hbv with rfl | rfl <;> rfl)) (⟨rfl, Or.inr ⟨rfl, fun q => by unfold okS at q; rw [show j = mn σ by omega] at ha hc; rcases hc with hc | hc; (have := q.2.2; omega); exact hc.2 ⟨q.1, q.2.1⟩⟩⟩)
            · refine lv_iconst (v := nI 1) hx hb dX7_canFollow_115 (by decide) ?_
              refine lv_goto (tgt := 120) hx hb dX7_canFollow_116 (by decide) ?_
              exact hret _ _ _ _ _ _ dX7_canFollow_120 hP hS (by first | rfl | (rcases hbv with rfl | rfl <;> rfl)) (⟨rfl, Or.inl ⟨rfl, by unfold okS; rw [show j = mn σ by omega] at ha hc; rcases hc with hc | hc; exact ⟨hc.2.1, hc.2.2, by omega⟩; omega⟩⟩)
        · have hWj := hw.2.2.1 j (by omega)
          have hIj : I 12 j = nI (en σ j) := by rw [hrow 12 (by decide)]; exact hWj.1
          have hej := hWj.2.1
          refine lv_iload_n hx hb dX7_canFollow_34 rfl (lv_at hl 2 rfl) ?_
          refine lv_iload hx hb dX7_canFollow_35 (lv_at hl 5 rfl) ?_
          refine k_X7_97 C hP hS (c_X7_has (nI S) (nI j) (by rw [nI_toInt (by omega)]; omega) (by rw [nI_toInt (by omega)]; omega)) ⟨Nat.le_of_ble_eq_true rfl, Nat.le_of_ble_eq_true rfl⟩ ⟨Nat.zero_le _, Nat.zero_le _⟩ hl.1 (Nat.le_of_ble_eq_true rfl) dX7_canFollow_37 (fun v9 I10 H locs hv11 hP hS => ?_)
          obtain ⟨eI10, hv11⟩ := hv11
          rw [eI10] at hP
          clear eI10
          rcases hv11 with ⟨rfl, hc12⟩ | ⟨rfl, hc12⟩
          · have hbit : S.testBit j = true := by cases q : S.testBit j; exact absurd ((and_sb (by omega)).mpr q) hc12; rfl
            refine z_eq1 C dX7_canFollow_40 (tgt := 94) (by decide) ?_
            refine lv_iload_n hx hb dX7_canFollow_43 rfl (lv_at hl 3 rfl) ?_
            refine lv_aload_n hx hb dX7_canFollow_44 rfl (lv_at hl 0 rfl) ?_
            refine lv_iload hx hb dX7_canFollow_45 (lv_at hl 5 rfl) ?_
            refine k_X7_127 C hP hS (by assumption) (c_X7_sizeOf j (en σ j) hM0 (by omega) hIj) ⟨Nat.le_of_ble_eq_true rfl, Nat.le_of_ble_eq_true rfl⟩ ⟨Nat.zero_le _, Nat.zero_le _⟩ hl.1 (Nat.le_of_ble_eq_true rfl) dX7_canFollow_47 (fun v13 I14 H locs hv15 hP hS => ?_)
            obtain ⟨eI14, ev13⟩ := hv15
            rw [eI14] at hP
            clear eI14
            refine r_eqi ev13 ?_
            refine r_addN C dX7_canFollow_50 ?_
            refine lv_istore_n (lv' := [(3, .int (nI (a + (en σ j + 1)))), (0, .ref (ad 10)), (1, .int (nI B)), (2, .int (nI S)), (4, .int (nI cq)), (5, .int (nI j))]) hx hb dX7_canFollow_51 rfl hl (by decide) rfl (fun ls hl => ?_)
            refine lv_iload hx hb dX7_canFollow_52 (lv_at hl 4 rfl) ?_
            refine z_eq C dX7_canFollow_54 (tgt := 91) (by decide) (fun h16 => ?_) (fun h16 => ?_)
            · replace h16 : cq = 0 := (nI_eq (by omega) (by decide)).mp h16
              refine lv_iconst (v := nI 0) hx hb dX7_canFollow_91 (by decide) ?_
              refine lv_istore (lv' := [(4, .int (nI 0)), (3, .int (nI (a + (en σ j + 1)))), (0, .ref (ad 10)), (1, .int (nI B)), (2, .int (nI S)), (5, .int (nI j))]) hx hb dX7_canFollow_92 hl (by decide) rfl (fun ls hl => ?_)
              refine lv_iinc (v := nI (j + 1)) (lv' := [(5, .int (nI (j + 1))), (4, .int (nI 0)), (3, .int (nI (a + (en σ j + 1)))), (0, .ref (ad 10)), (1, .int (nI B)), (2, .int (nI S))]) hx hb dX7_canFollow_94 hl (k := 5) rfl (nI_1 _) (by decide) rfl (fun ls hl => ?_)
              refine lv_goto (tgt := 25) hx hb dX7_canFollow_97 (by decide) ?_
              exact ih25 (j + 1) 0 (a + (en σ j + 1)) _ _ _ (by omega) (by omega) (by rw [szS_y hbit, ha]) (Or.inr ⟨rfl, fun q => by rcases hc with hc | hc; omega; exact hc.2 ⟨q.1, ((fit_y hbit).mp q.2).1⟩⟩) hP hS (lv_sub hl [3, 4, 5, 2, 1, 0] rfl)
            · replace h16 : cq ≠ 0 := fun q => h16 (by rw [q]; rfl)
              refine lv_aload_n hx hb dX7_canFollow_57 rfl (lv_at hl 1 rfl) ?_
              refine f_X7_52 (q := 25) C hP (by assumption) (by assumption) rfl dX7_canFollow_58 ?_
              refine lv_iload hx hb dX7_canFollow_61 (lv_at hl 5 rfl) ?_
              refine r_iald (n := 8) C hP (by assumption) (by omega) (by decide) dX7_canFollow_63 ?_
              refine r_eqi (y := (nI (mfS σ j))) (hr25 j (by omega)) ?_
              refine lv_iload_n hx hb dX7_canFollow_64 rfl (lv_at hl 2 rfl) ?_
              refine lv_iconst (v := (-1)) hx hb dX7_canFollow_65 (by decide) ?_
              refine lv_ixor hx hb dX7_canFollow_66 ?_
              refine lv_topi (fun x17 ex17 => ?_)
              refine lv_iand hx hb dX7_canFollow_67 ?_
              refine lv_topi (fun x18 ex18 => ?_)
              refine z_ne C dX7_canFollow_68 (tgt := 91) (by decide) (fun h19 => ?_) (fun h19 => ?_)
              · rw [ex18, ex17] at h19
                have hm1 : ¬ (mfS σ j &&& B = mfS σ j) := fun q => h19 ((and_m1 (mfS_lt (by omega)) hB).mpr q)
                refine lv_iconst (v := nI 0) hx hb dX7_canFollow_91 (by decide) ?_
                refine lv_istore (lv' := [(4, .int (nI 0)), (3, .int (nI (a + (en σ j + 1)))), (0, .ref (ad 10)), (1, .int (nI B)), (2, .int (nI S)), (5, .int (nI j))]) hx hb dX7_canFollow_92 hl (by decide) rfl (fun ls hl => ?_)
                refine lv_iinc (v := nI (j + 1)) (lv' := [(5, .int (nI (j + 1))), (4, .int (nI 0)), (3, .int (nI (a + (en σ j + 1)))), (0, .ref (ad 10)), (1, .int (nI B)), (2, .int (nI S))]) hx hb dX7_canFollow_94 hl (k := 5) rfl (nI_1 _) (by decide) rfl (fun ls hl => ?_)
                refine lv_goto (tgt := 25) hx hb dX7_canFollow_97 (by decide) ?_
                exact ih25 (j + 1) 0 (a + (en σ j + 1)) _ _ _ (by omega) (by omega) (by rw [szS_y hbit, ha]) (Or.inr ⟨rfl, fun q => hm1 ((fit_y hbit).mp q.2).2.1⟩) hP hS (lv_sub hl [3, 4, 5, 2, 1, 0] rfl)
              · rw [ex18, ex17] at h19
                have hm1 : mfS σ j &&& B = mfS σ j := (and_m1 (mfS_lt (by omega)) hB).mp h19
                refine lv_aload_n hx hb dX7_canFollow_71 rfl (lv_at hl 1 rfl) ?_
                refine f_X7_55 (q := 26) C hP (by assumption) (by assumption) rfl dX7_canFollow_72 ?_
                refine lv_iload hx hb dX7_canFollow_75 (lv_at hl 5 rfl) ?_
                refine r_iald (n := 8) C hP (by assumption) (by omega) (by decide) dX7_canFollow_77 ?_
                refine r_eqi (y := (nI (mjS σ j))) (hr26 j (by omega)) ?_
                refine lv_iload_n hx hb dX7_canFollow_78 rfl (lv_at hl 2 rfl) ?_
                refine lv_iload_n hx hb dX7_canFollow_79 rfl (lv_at hl 3 rfl) ?_
                refine lv_ior hx hb dX7_canFollow_80 ?_
                refine lv_topi (fun x20 ex20 => ?_)
                refine lv_iconst (v := (-1)) hx hb dX7_canFollow_81 (by decide) ?_
                refine lv_ixor hx hb dX7_canFollow_82 ?_
                refine lv_topi (fun x21 ex21 => ?_)
                refine lv_iand hx hb dX7_canFollow_83 ?_
                refine lv_topi (fun x22 ex22 => ?_)
                refine z_ne C dX7_canFollow_84 (tgt := 91) (by decide) (fun h23 => ?_) (fun h23 => ?_)
                · rw [ex22, ex21, ex20, nI_or] at h23
                  have hm2 : ¬ (mjS σ j &&& (B ||| S) = mjS σ j) := fun q => h23 ((and_m1 (mjS_lt (by omega)) (or_lt hB hS8)).mpr q)
                  refine lv_iconst (v := nI 0) hx hb dX7_canFollow_91 (by decide) ?_
                  refine lv_istore (lv' := [(4, .int (nI 0)), (3, .int (nI (a + (en σ j + 1)))), (0, .ref (ad 10)), (1, .int (nI B)), (2, .int (nI S)), (5, .int (nI j))]) hx hb dX7_canFollow_92 hl (by decide) rfl (fun ls hl => ?_)
                  refine lv_iinc (v := nI (j + 1)) (lv' := [(5, .int (nI (j + 1))), (4, .int (nI 0)), (3, .int (nI (a + (en σ j + 1)))), (0, .ref (ad 10)), (1, .int (nI B)), (2, .int (nI S))]) hx hb dX7_canFollow_94 hl (k := 5) rfl (nI_1 _) (by decide) rfl (fun ls hl => ?_)
                  refine lv_goto (tgt := 25) hx hb dX7_canFollow_97 (by decide) ?_
                  exact ih25 (j + 1) 0 (a + (en σ j + 1)) _ _ _ (by omega) (by omega) (by rw [szS_y hbit, ha]) (Or.inr ⟨rfl, fun q => hm2 ((fit_y hbit).mp q.2).2.2⟩) hP hS (lv_sub hl [3, 4, 5, 2, 1, 0] rfl)
                · rw [ex22, ex21, ex20, nI_or] at h23
                  have hm2 : mjS σ j &&& (B ||| S) = mjS σ j := (and_m1 (mjS_lt (by omega)) (or_lt hB hS8)).mp h23
                  refine lv_iconst (v := nI 1) hx hb dX7_canFollow_87 (by decide) ?_
                  refine lv_goto (tgt := 92) hx hb dX7_canFollow_88 (by decide) ?_
                  refine lv_istore (lv' := [(4, .int (nI 1)), (3, .int (nI (a + (en σ j + 1)))), (0, .ref (ad 10)), (1, .int (nI B)), (2, .int (nI S)), (5, .int (nI j))]) hx hb dX7_canFollow_92 hl (by decide) rfl (fun ls hl => ?_)
                  refine lv_iinc (v := nI (j + 1)) (lv' := [(5, .int (nI (j + 1))), (4, .int (nI 1)), (3, .int (nI (a + (en σ j + 1)))), (0, .ref (ad 10)), (1, .int (nI B)), (2, .int (nI S))]) hx hb dX7_canFollow_94 hl (k := 5) rfl (nI_1 _) (by decide) rfl (fun ls hl => ?_)
                  refine lv_goto (tgt := 25) hx hb dX7_canFollow_97 (by decide) ?_
                  exact ih25 (j + 1) 1 (a + (en σ j + 1)) _ _ _ (by omega) (by omega) (by rw [szS_y hbit, ha]) (Or.inl ⟨rfl, by rcases hc with hc | hc; exact ⟨hc.2.1, (fit_y hbit).mpr ⟨hc.2.2, hm1, hm2⟩⟩; omega⟩) hP hS (lv_sub hl [3, 4, 5, 2, 1, 0] rfl)
          · have hbit : S.testBit j = false := (and_sb (by omega)).mp (Decidable.not_not.mp hc12)
            refine z_eq0 C dX7_canFollow_40 (tgt := 94) (by decide) ?_
            refine lv_iinc (v := nI (j + 1)) (lv' := [(5, .int (nI (j + 1))), (0, .ref (ad 10)), (1, .int (nI B)), (2, .int (nI S)), (3, .int (nI a)), (4, .int (nI cq))]) hx hb dX7_canFollow_94 hl (k := 5) rfl (nI_1 _) (by decide) rfl (fun ls hl => ?_)
            refine lv_goto (tgt := 25) hx hb dX7_canFollow_97 (by decide) ?_
            exact ih25 (j + 1) cq a _ _ _ (by omega) (by omega) (by rw [szS_n hbit]; exact ha) (by rw [fit_n hbit]; exact hc) hP hS (lv_sub hl [1, 2, 3, 4, 5, 0] rfl)
    exact hL25_5 (mn σ + 1) 0 0 0 _ _ _ (by omega) (by omega) (rfl) (Or.inr ⟨rfl, fun q => by have := q.1; omega⟩) hP hS (lv_sub hl [3, 4, 5, 2, 1, 0] rfl)
  · refine lv_iconst (v := nI 1) hx hb dX7_canFollow_15 (by decide) ?_
    refine lv_goto (tgt := 20) hx hb dX7_canFollow_16 (by decide) ?_
    refine lv_istore (lv' := [(4, .int (nI 1)), (3, .int (nI 0)), (0, .ref (ad 10)), (1, .int (nI B)), (2, .int (nI S))]) hx hb dX7_canFollow_20 hl (by decide) rfl (fun ls hl => ?_)
    refine lv_iconst (v := nI 0) hx hb dX7_canFollow_22 (by decide) ?_
    refine lv_istore (lv' := [(5, .int (nI 0)), (4, .int (nI 1)), (3, .int (nI 0)), (0, .ref (ad 10)), (1, .int (nI B)), (2, .int (nI S))]) hx hb dX7_canFollow_23 hl (by decide) rfl (fun ls hl => ?_)
    have hL25_24 : ∀ (d : Nat) (j : Nat) (cq : Nat) (a : Nat) (H : Heap) (locs : List Loc) (ls : Array Slot), mn σ < j + d → (j ≤ mn σ) → (a = szS σ S j) → (cq = 1 ∧ (popN S ≤ ru σ 1 ∧ fitS σ B S  j) ∨ cq = 0 ∧ ¬ (popN S ≤ ru σ 1 ∧ fitS σ B S  j)) → Hp E K L ad I H → va_S (AG E) s.heap H locs → lv_has ls 6 [(0, .ref (ad 10)), (1, .int (nI B)), (2, .int (nI S)), (3, .int (nI a)), (4, .int (nI cq)), (5, .int (nI j))] → W p l ee (rmk 1) s m args below meth c H locs 0 0 Qf (F0 m 25 ls []) := by
      intro d25
      induction d25 with
      | zero => intro j cq a H locs ls hd25 hj ha hc _ _ _; exact absurd hd25 (by omega)
      | succ d25 ih25 =>
        intro j cq a H locs ls hd25 hj ha hc hP hS hl
        have hsz := szS_le (σ := σ) (S := S) (t := j) (fun e h => (hw.2.2.1 e (by omega)).2.1)
        refine lv_iload hx hb dX7_canFollow_25 (lv_at hl 5 rfl) ?_
        refine lv_aload_n hx hb dX7_canFollow_27 rfl (lv_at hl 0 rfl) ?_
        refine f_X7_71 C hP (by first | assumption | exact hKa _ (by omega)) dX7_canFollow_28 ?_
        refine r_eqi (y := (nI (mn σ))) (hI0) ?_
        refine b_geN C (by omega) (by omega) dX7_canFollow_31 (tgt := 100) (by decide) (fun h25 => ?_) (fun h25 => ?_)
        · refine lv_iload hx hb dX7_canFollow_100 (lv_at hl 4 rfl) ?_
          refine z_eq C dX7_canFollow_102 (tgt := 119) (by decide) (fun h26 => ?_) (fun h26 => ?_)
          · replace h26 : cq = 0 := (nI_eq (by omega) (by decide)).mp h26
            refine lv_iconst (v := nI 0) hx hb dX7_canFollow_119 (by decide) ?_
            exact hret _ _ _ _ _ _ dX7_canFollow_120 hP hS (by first | rfl | (rcases hbv with rfl | rfl <;> rfl)) (⟨rfl, Or.inr ⟨rfl, fun q => by unfold okS at q; rw [show j = mn σ by omega] at ha hc; rcases hc with hc | hc; (have := q.2.2; omega); exact hc.2 ⟨q.1, q.2.1⟩⟩⟩)
          · replace h26 : cq ≠ 0 := fun q => h26 (by rw [q]; rfl)
            refine lv_iload_n hx hb dX7_canFollow_105 rfl (lv_at hl 3 rfl) ?_
            refine lv_aload_n hx hb dX7_canFollow_106 rfl (lv_at hl 0 rfl) ?_
            refine f_X7_34 (q := 19) C hP (by assumption) (by assumption) rfl dX7_canFollow_107 ?_
            refine lv_iconst (v := nI 0) hx hb dX7_canFollow_110 (by decide) ?_
            refine r_iald (n := 4) C hP (by assumption) (by omega) (by decide) dX7_canFollow_111 ?_
            refine r_eqi (y := (nI (ru σ 0))) (by rw [hrow 19 (by decide)]; exact hu 0 (by decide)) ?_
            refine b_gtN C (by omega) (by omega) dX7_canFollow_112 (tgt := 119) (by decide) (fun h27 => ?_) (fun h27 => ?_)
            · refine lv_iconst (v := nI 0) hx hb dX7_canFollow_119 (by decide) ?_
              exact hret _ _ _ _ _ _ dX7_canFollow_120 hP hS (by first | rfl | (rcases hbv with rfl | rfl <;> rfl)) (⟨rfl, Or.inr ⟨rfl, fun q => by unfold okS at q; rw [show j = mn σ by omega] at ha hc; rcases hc with hc | hc; (have := q.2.2; omega); exact hc.2 ⟨q.1, q.2.1⟩⟩⟩)
            · refine lv_iconst (v := nI 1) hx hb dX7_canFollow_115 (by decide) ?_
              refine lv_goto (tgt := 120) hx hb dX7_canFollow_116 (by decide) ?_
              exact hret _ _ _ _ _ _ dX7_canFollow_120 hP hS (by first | rfl | (rcases hbv with rfl | rfl <;> rfl)) (⟨rfl, Or.inl ⟨rfl, by unfold okS; rw [show j = mn σ by omega] at ha hc; rcases hc with hc | hc; exact ⟨hc.2.1, hc.2.2, by omega⟩; omega⟩⟩)
        · have hWj := hw.2.2.1 j (by omega)
          have hIj : I 12 j = nI (en σ j) := by rw [hrow 12 (by decide)]; exact hWj.1
          have hej := hWj.2.1
          refine lv_iload_n hx hb dX7_canFollow_34 rfl (lv_at hl 2 rfl) ?_
          refine lv_iload hx hb dX7_canFollow_35 (lv_at hl 5 rfl) ?_
          refine k_X7_97 C hP hS (c_X7_has (nI S) (nI j) (by rw [nI_toInt (by omega)]; omega) (by rw [nI_toInt (by omega)]; omega)) ⟨Nat.le_of_ble_eq_true rfl, Nat.le_of_ble_eq_true rfl⟩ ⟨Nat.zero_le _, Nat.zero_le _⟩ hl.1 (Nat.le_of_ble_eq_true rfl) dX7_canFollow_37 (fun v28 I29 H locs hv30 hP hS => ?_)
          obtain ⟨eI29, hv30⟩ := hv30
          rw [eI29] at hP
          clear eI29
          rcases hv30 with ⟨rfl, hc31⟩ | ⟨rfl, hc31⟩
          · have hbit : S.testBit j = true := by cases q : S.testBit j; exact absurd ((and_sb (by omega)).mpr q) hc31; rfl
            refine z_eq1 C dX7_canFollow_40 (tgt := 94) (by decide) ?_
            refine lv_iload_n hx hb dX7_canFollow_43 rfl (lv_at hl 3 rfl) ?_
            refine lv_aload_n hx hb dX7_canFollow_44 rfl (lv_at hl 0 rfl) ?_
            refine lv_iload hx hb dX7_canFollow_45 (lv_at hl 5 rfl) ?_
            refine k_X7_127 C hP hS (by assumption) (c_X7_sizeOf j (en σ j) hM0 (by omega) hIj) ⟨Nat.le_of_ble_eq_true rfl, Nat.le_of_ble_eq_true rfl⟩ ⟨Nat.zero_le _, Nat.zero_le _⟩ hl.1 (Nat.le_of_ble_eq_true rfl) dX7_canFollow_47 (fun v32 I33 H locs hv34 hP hS => ?_)
            obtain ⟨eI33, ev32⟩ := hv34
            rw [eI33] at hP
            clear eI33
            refine r_eqi ev32 ?_
            refine r_addN C dX7_canFollow_50 ?_
            refine lv_istore_n (lv' := [(3, .int (nI (a + (en σ j + 1)))), (0, .ref (ad 10)), (1, .int (nI B)), (2, .int (nI S)), (4, .int (nI cq)), (5, .int (nI j))]) hx hb dX7_canFollow_51 rfl hl (by decide) rfl (fun ls hl => ?_)
            refine lv_iload hx hb dX7_canFollow_52 (lv_at hl 4 rfl) ?_
            refine z_eq C dX7_canFollow_54 (tgt := 91) (by decide) (fun h35 => ?_) (fun h35 => ?_)
            · replace h35 : cq = 0 := (nI_eq (by omega) (by decide)).mp h35
              refine lv_iconst (v := nI 0) hx hb dX7_canFollow_91 (by decide) ?_
              refine lv_istore (lv' := [(4, .int (nI 0)), (3, .int (nI (a + (en σ j + 1)))), (0, .ref (ad 10)), (1, .int (nI B)), (2, .int (nI S)), (5, .int (nI j))]) hx hb dX7_canFollow_92 hl (by decide) rfl (fun ls hl => ?_)
              refine lv_iinc (v := nI (j + 1)) (lv' := [(5, .int (nI (j + 1))), (4, .int (nI 0)), (3, .int (nI (a + (en σ j + 1)))), (0, .ref (ad 10)), (1, .int (nI B)), (2, .int (nI S))]) hx hb dX7_canFollow_94 hl (k := 5) rfl (nI_1 _) (by decide) rfl (fun ls hl => ?_)
              refine lv_goto (tgt := 25) hx hb dX7_canFollow_97 (by decide) ?_
              exact ih25 (j + 1) 0 (a + (en σ j + 1)) _ _ _ (by omega) (by omega) (by rw [szS_y hbit, ha]) (Or.inr ⟨rfl, fun q => by rcases hc with hc | hc; omega; exact hc.2 ⟨q.1, ((fit_y hbit).mp q.2).1⟩⟩) hP hS (lv_sub hl [3, 4, 5, 2, 1, 0] rfl)
            · replace h35 : cq ≠ 0 := fun q => h35 (by rw [q]; rfl)
              refine lv_aload_n hx hb dX7_canFollow_57 rfl (lv_at hl 1 rfl) ?_
              refine f_X7_52 (q := 25) C hP (by assumption) (by assumption) rfl dX7_canFollow_58 ?_
              refine lv_iload hx hb dX7_canFollow_61 (lv_at hl 5 rfl) ?_
              refine r_iald (n := 8) C hP (by assumption) (by omega) (by decide) dX7_canFollow_63 ?_
              refine r_eqi (y := (nI (mfS σ j))) (hr25 j (by omega)) ?_
              refine lv_iload_n hx hb dX7_canFollow_64 rfl (lv_at hl 2 rfl) ?_
              refine lv_iconst (v := (-1)) hx hb dX7_canFollow_65 (by decide) ?_
              refine lv_ixor hx hb dX7_canFollow_66 ?_
              refine lv_topi (fun x36 ex36 => ?_)
              refine lv_iand hx hb dX7_canFollow_67 ?_
              refine lv_topi (fun x37 ex37 => ?_)
              refine z_ne C dX7_canFollow_68 (tgt := 91) (by decide) (fun h38 => ?_) (fun h38 => ?_)
              · rw [ex37, ex36] at h38
                have hm1 : ¬ (mfS σ j &&& B = mfS σ j) := fun q => h38 ((and_m1 (mfS_lt (by omega)) hB).mpr q)
                refine lv_iconst (v := nI 0) hx hb dX7_canFollow_91 (by decide) ?_
                refine lv_istore (lv' := [(4, .int (nI 0)), (3, .int (nI (a + (en σ j + 1)))), (0, .ref (ad 10)), (1, .int (nI B)), (2, .int (nI S)), (5, .int (nI j))]) hx hb dX7_canFollow_92 hl (by decide) rfl (fun ls hl => ?_)
                refine lv_iinc (v := nI (j + 1)) (lv' := [(5, .int (nI (j + 1))), (4, .int (nI 0)), (3, .int (nI (a + (en σ j + 1)))), (0, .ref (ad 10)), (1, .int (nI B)), (2, .int (nI S))]) hx hb dX7_canFollow_94 hl (k := 5) rfl (nI_1 _) (by decide) rfl (fun ls hl => ?_)
                refine lv_goto (tgt := 25) hx hb dX7_canFollow_97 (by decide) ?_
                exact ih25 (j + 1) 0 (a + (en σ j + 1)) _ _ _ (by omega) (by omega) (by rw [szS_y hbit, ha]) (Or.inr ⟨rfl, fun q => hm1 ((fit_y hbit).mp q.2).2.1⟩) hP hS (lv_sub hl [3, 4, 5, 2, 1, 0] rfl)
              · rw [ex37, ex36] at h38
                have hm1 : mfS σ j &&& B = mfS σ j := (and_m1 (mfS_lt (by omega)) hB).mp h38
                refine lv_aload_n hx hb dX7_canFollow_71 rfl (lv_at hl 1 rfl) ?_
                refine f_X7_55 (q := 26) C hP (by assumption) (by assumption) rfl dX7_canFollow_72 ?_
                refine lv_iload hx hb dX7_canFollow_75 (lv_at hl 5 rfl) ?_
                refine r_iald (n := 8) C hP (by assumption) (by omega) (by decide) dX7_canFollow_77 ?_
                refine r_eqi (y := (nI (mjS σ j))) (hr26 j (by omega)) ?_
                refine lv_iload_n hx hb dX7_canFollow_78 rfl (lv_at hl 2 rfl) ?_
                refine lv_iload_n hx hb dX7_canFollow_79 rfl (lv_at hl 3 rfl) ?_
                refine lv_ior hx hb dX7_canFollow_80 ?_
                refine lv_topi (fun x39 ex39 => ?_)
                refine lv_iconst (v := (-1)) hx hb dX7_canFollow_81 (by decide) ?_
                refine lv_ixor hx hb dX7_canFollow_82 ?_
                refine lv_topi (fun x40 ex40 => ?_)
                refine lv_iand hx hb dX7_canFollow_83 ?_
                refine lv_topi (fun x41 ex41 => ?_)
                refine z_ne C dX7_canFollow_84 (tgt := 91) (by decide) (fun h42 => ?_) (fun h42 => ?_)
                · rw [ex41, ex40, ex39, nI_or] at h42
                  have hm2 : ¬ (mjS σ j &&& (B ||| S) = mjS σ j) := fun q => h42 ((and_m1 (mjS_lt (by omega)) (or_lt hB hS8)).mpr q)
                  refine lv_iconst (v := nI 0) hx hb dX7_canFollow_91 (by decide) ?_
                  refine lv_istore (lv' := [(4, .int (nI 0)), (3, .int (nI (a + (en σ j + 1)))), (0, .ref (ad 10)), (1, .int (nI B)), (2, .int (nI S)), (5, .int (nI j))]) hx hb dX7_canFollow_92 hl (by decide) rfl (fun ls hl => ?_)
                  refine lv_iinc (v := nI (j + 1)) (lv' := [(5, .int (nI (j + 1))), (4, .int (nI 0)), (3, .int (nI (a + (en σ j + 1)))), (0, .ref (ad 10)), (1, .int (nI B)), (2, .int (nI S))]) hx hb dX7_canFollow_94 hl (k := 5) rfl (nI_1 _) (by decide) rfl (fun ls hl => ?_)
                  refine lv_goto (tgt := 25) hx hb dX7_canFollow_97 (by decide) ?_
                  exact ih25 (j + 1) 0 (a + (en σ j + 1)) _ _ _ (by omega) (by omega) (by rw [szS_y hbit, ha]) (Or.inr ⟨rfl, fun q => hm2 ((fit_y hbit).mp q.2).2.2⟩) hP hS (lv_sub hl [3, 4, 5, 2, 1, 0] rfl)
                · rw [ex41, ex40, ex39, nI_or] at h42
                  have hm2 : mjS σ j &&& (B ||| S) = mjS σ j := (and_m1 (mjS_lt (by omega)) (or_lt hB hS8)).mp h42
                  refine lv_iconst (v := nI 1) hx hb dX7_canFollow_87 (by decide) ?_
                  refine lv_goto (tgt := 92) hx hb dX7_canFollow_88 (by decide) ?_
                  refine lv_istore (lv' := [(4, .int (nI 1)), (3, .int (nI (a + (en σ j + 1)))), (0, .ref (ad 10)), (1, .int (nI B)), (2, .int (nI S)), (5, .int (nI j))]) hx hb dX7_canFollow_92 hl (by decide) rfl (fun ls hl => ?_)
                  refine lv_iinc (v := nI (j + 1)) (lv' := [(5, .int (nI (j + 1))), (4, .int (nI 1)), (3, .int (nI (a + (en σ j + 1)))), (0, .ref (ad 10)), (1, .int (nI B)), (2, .int (nI S))]) hx hb dX7_canFollow_94 hl (k := 5) rfl (nI_1 _) (by decide) rfl (fun ls hl => ?_)
                  refine lv_goto (tgt := 25) hx hb dX7_canFollow_97 (by decide) ?_
                  exact ih25 (j + 1) 1 (a + (en σ j + 1)) _ _ _ (by omega) (by omega) (by rw [szS_y hbit, ha]) (Or.inl ⟨rfl, by rcases hc with hc | hc; exact ⟨hc.2.1, (fit_y hbit).mpr ⟨hc.2.2, hm1, hm2⟩⟩; omega⟩) hP hS (lv_sub hl [3, 4, 5, 2, 1, 0] rfl)
          · have hbit : S.testBit j = false := (and_sb (by omega)).mp (Decidable.not_not.mp hc31)
            refine z_eq0 C dX7_canFollow_40 (tgt := 94) (by decide) ?_
            refine lv_iinc (v := nI (j + 1)) (lv' := [(5, .int (nI (j + 1))), (0, .ref (ad 10)), (1, .int (nI B)), (2, .int (nI S)), (3, .int (nI a)), (4, .int (nI cq))]) hx hb dX7_canFollow_94 hl (k := 5) rfl (nI_1 _) (by decide) rfl (fun ls hl => ?_)
            refine lv_goto (tgt := 25) hx hb dX7_canFollow_97 (by decide) ?_
            exact ih25 (j + 1) cq a _ _ _ (by omega) (by omega) (by rw [szS_n hbit]; exact ha) (by rw [fit_n hbit]; exact hc) hP hS (lv_sub hl [1, 2, 3, 4, 5, 0] rfl)
    exact hL25_24 (mn σ + 1) 0 1 0 _ _ _ (by omega) (by omega) (rfl) (Or.inl ⟨rfl, by omega, lt_0⟩) hP hS (lv_sub hl [3, 4, 5, 2, 1, 0] rfl)
set_option maxHeartbeats 4000000 in
set_option maxRecDepth 100000 in
theorem c_X7_fewest {l : Launch} {E : En} {K : Nat → Nat} {L : Nat → Nat → Bool} {ad : Nat → Nat} {I : Nat → Nat → Int32}  (hM : IsM K L) (hw : WF I) : MI l E K L ad I yX7_fewest cX7_fewest 5 (some .int) 4 [.ref (ad 10)] (fun rv RJ => Sm I RJ ∧ ∃ A, Fw I A ∧ rv = encR (A (2 ^ mn I - 1))) := by
  have hM0 := hM
  obtain ⟨m0, ml1, ml2, ml3, ml4, ml5, ml6, ml7, ml8, ml9, ml10, ml11, ml12, ml13, ml14, ml15, ml16, ml17, ml21, ml25, ml26, mk1, mk2, mk3, mk4, mk5, mk6, mk7, mk8, mk9, mk10, mk11, mk12, mk13, mk14, mk15, mk16, mk17, mk21, mk25, mk26⟩ := hM
  have he := hw.1
  have hn8 := hw.2.1
  obtain ⟨al, hal, hal1, hal2⟩ : ∃ al : Nat, al = 2 ^ mn I ∧ 1 ≤ al ∧ al ≤ 256 := ⟨_, rfl, Nat.one_le_two_pow, Nat.pow_le_pow_right (by decide) hn8⟩
  refine MI.of (by decide) (Nat.le_of_ble_eq_true rfl) ?_
  intro p ee s m args below meth c ls Qf C hret hP hl
  have C : Cx E p s m args c cX7_fewest RX7 5 := C
  have hx := C.1
  have hb := C.2.1
  have hS : va_S (AG E) s.heap s.heap [] := va_S.rf
  have hl : lv_has ls 5 [(0, .ref (ad 10))] := hl
  refine lv_iconst (v := nI 0) hx hb dX7_fewest_0 (by decide) ?_
  refine lv_istore_n (lv' := [(1, .int (nI 0)), (0, .ref (ad 10))]) hx hb dX7_fewest_1 rfl hl (by decide) rfl (fun ls hl => ?_)
  have hL2_1 : ∀ (d : Nat) (t : Nat) (J : Mem) (H : Heap) (locs : List Loc) (ls : Array Slot), mn I < t + d → (t ≤ mn I) → ((∀ a, a ≠ 25 → a ≠ 26 → J a = I a) ∧ (∀ i, i < t → J 25 i = nI (mfS I i) ∧ J 26 i = nI (mjS I i))) → Hp E K L ad J H → va_S (AG E) s.heap H locs → lv_has ls 5 [(0, .ref (ad 10)), (1, .int (nI t))] → W p l ee (rmk 4) s m args below meth c H locs 0 0 Qf (F0 m 2 ls []) := by
    intro d2
    induction d2 with
    | zero => intro t J H locs ls hd2 ht hc _ _ _; exact absurd hd2 (by omega)
    | succ d2 ih2 =>
      intro t J H locs ls hd2 ht hc hP hS hl
      have hJ0 : J 10 0 = nI (mn I) := by rw [hc.1 10 (by decide) (by decide)]; exact he
      refine lv_iload_n hx hb dX7_fewest_2 rfl (lv_at hl 1 rfl) ?_
      refine lv_aload_n hx hb dX7_fewest_3 rfl (lv_at hl 0 rfl) ?_
      refine f_X7_71 C hP (by first | assumption | exact hKa _ (by omega)) dX7_fewest_4 ?_
      refine r_eqi (y := (nI (mn I))) (hJ0) ?_
      refine b_geN C (by omega) (by omega) dX7_fewest_7 (tgt := 92) (by decide) (fun h2 => ?_) (fun h2 => ?_)
      · refine lv_iconst (v := nI 1) hx hb dX7_fewest_92 (by decide) ?_
        refine lv_aload_n hx hb dX7_fewest_93 rfl (lv_at hl 0 rfl) ?_
        refine f_X7_71 C hP (by first | assumption | exact hKa _ (by omega)) dX7_fewest_94 ?_
        refine r_eqi (y := (nI (mn I))) (hJ0) ?_
        refine lv_ishl hx hb dX7_fewest_97 ?_
        refine lv_topi (fun x3 ex3 => ?_)
        refine lv_iconst (v := nI 1) hx hb dX7_fewest_98 (by decide) ?_
        refine lv_isub hx hb dX7_fewest_99 ?_
        refine lv_topi (fun x4 ex4 => ?_)
        refine r_eqi (y := nI (al - 1)) (by rw [ex4, ex3, show nI 1 <<< (nI (mn I) &&& 31) = nI (2 ^ mn I) from sb_nat (mn I) (by omega), ← hal]; exact pk_sub (by omega)) ?_
        refine lv_istore_n (lv' := [(1, .int (nI (al - 1))), (0, .ref (ad 10))]) hx hb dX7_fewest_100 rfl hl (by decide) rfl (fun ls hl => ?_)
        refine lv_aload_n hx hb dX7_fewest_101 rfl (lv_at hl 1 rfl) ?_
        refine f_X7_49 (q := 24) C hP (by assumption) (by assumption) rfl dX7_fewest_102 ?_
        refine lv_iconst (v := nI 0) hx hb dX7_fewest_105 (by decide) ?_
        refine lv_iconst (v := nI 0) hx hb dX7_fewest_106 (by decide) ?_
        refine r_iast (n := 256) C hP hS (by assumption) (by omega) (by decide) dX7_fewest_107 (fun H locs hP hS => ?_)
        obtain ⟨I5, eI5⟩ : ∃ Znew : Nat → Nat → Int32, Znew = up2 J 24 0 (nI 0) := ⟨_, rfl⟩
        rw [← eI5] at hP
        refine lv_iconst (v := nI 1) hx hb dX7_fewest_108 (by decide) ?_
        refine lv_istore_n (lv' := [(2, .int (nI 1)), (1, .int (nI (al - 1))), (0, .ref (ad 10))]) hx hb dX7_fewest_109 rfl hl (by decide) rfl (fun ls hl => ?_)
        have hyy : ((∀ a, a ≠ 24 → a ≠ 25 → a ≠ 26 → I5 a = I a) ∧ (∀ i, i < mn I → I5 25 i = nI (mfS I i) ∧ I5 26 i = nI (mjS I i))) ∧ (∀ i, i < 1 → I5 24 i = encR ((fun i => if i = 0 then some 0 else none : Nat → Option Nat) i)) ∧ FwB I (fun i => if i = 0 then some 0 else none) 1 := by
          rw [show t = mn I by omega] at hc
          rw [eI5]
          exact ⟨⟨fun a g1 g2 g3 => by rw [up2_r g1]; exact hc.1 a g2 g3, fun i hi => by rw [up2_r (by decide), up2_r (by decide)]; exact hc.2 i hi⟩, fun i hi => by rw [show i = 0 by omega, up2_s]; rfl, rfl, fun D k h1 h2 => by rw [show D = 0 by omega] at h2; cases h2; exact Nat.zero_le _, fun D h1 h2 => by omega⟩
        have hL110_6 : ∀ (d : Nat) (D : Nat) (A : Nat → Option Nat) (Y : Mem) (H : Heap) (locs : List Loc) (ls : Array Slot), al < D + d → (1 ≤ D) → (D ≤ al) → (((∀ a, a ≠ 24 → a ≠ 25 → a ≠ 26 → Y a = I a) ∧ (∀ i, i < mn I → Y 25 i = nI (mfS I i) ∧ Y 26 i = nI (mjS I i))) ∧ (∀ i, i < D → Y 24 i = encR (A i)) ∧ FwB I A D) → Hp E K L ad Y H → va_S (AG E) s.heap H locs → lv_has ls 5 [(0, .ref (ad 10)), (1, .int (nI (al - 1))), (2, .int (nI D))] → W p l ee (rmk 4) s m args below meth c H locs 0 0 Qf (F0 m 110 ls []) := by
          intro d110
          induction d110 with
          | zero => intro D A Y H locs ls hd110 hD1 hD2 hy _ _ _; exact absurd hd110 (by omega)
          | succ d110 ih110 =>
            intro D A Y H locs ls hd110 hD1 hD2 hy hP hS hl
            refine lv_iload_n hx hb dX7_fewest_110 rfl (lv_at hl 2 rfl) ?_
            refine lv_iload_n hx hb dX7_fewest_111 rfl (lv_at hl 1 rfl) ?_
            refine b_gtN C (by omega) (by omega) dX7_fewest_112 (tgt := 213) (by decide) (fun h7 => ?_) (fun h7 => ?_)
            · refine lv_aload_n hx hb dX7_fewest_213 rfl (lv_at hl 0 rfl) ?_
              refine f_X7_49 (q := 24) C hP (by assumption) (by assumption) rfl dX7_fewest_214 ?_
              refine lv_iload_n hx hb dX7_fewest_217 rfl (lv_at hl 1 rfl) ?_
              refine r_iald (n := 256) C hP (by assumption) (by omega) (by decide) dX7_fewest_218 ?_
              exact hret _ _ _ _ _ _ dX7_fewest_219 hP hS (⟨fun a ha => hy.1.1 a (by omega) (by omega) (by omega), A, ⟨hy.2.2.1, fun D h1 h2 => hy.2.2.2.2 D h1 (by rw [← hal] at h2; omega)⟩, by rw [← hal]; exact hy.2.1 _ (by omega)⟩)
            · refine lv_aload_n hx hb dX7_fewest_115 rfl (lv_at hl 0 rfl) ?_
              refine f_X7_49 (q := 24) C hP (by assumption) (by assumption) rfl dX7_fewest_116 ?_
              refine lv_iload_n hx hb dX7_fewest_119 rfl (lv_at hl 2 rfl) ?_
              refine lv_bipush (v := (-6)) hx hb dX7_fewest_120 (by decide) ?_
              refine r_iast (n := 256) C hP hS (by assumption) (by omega) (by decide) dX7_fewest_122 (fun H locs hP hS => ?_)
              obtain ⟨I8, eI8⟩ : ∃ Znew : Nat → Nat → Int32, Znew = up2 Y 24 D ((-6)) := ⟨_, rfl⟩
              rw [← eI8] at hP
              refine lv_iload_n hx hb dX7_fewest_123 rfl (lv_at hl 2 rfl) ?_
              refine lv_istore_n (lv' := [(3, .int (nI D)), (0, .ref (ad 10)), (1, .int (nI (al - 1))), (2, .int (nI D))]) hx hb dX7_fewest_124 rfl hl (by decide) rfl (fun ls hl => ?_)
              have hL125_9 : ∀ (d : Nat) (S : Nat) (vv : Option Nat) (X : Mem) (H : Heap) (locs : List Loc) (ls : Array Slot), D < (D - S) + d → (S ≤ D) → (S &&& D = S) → ((∀ a, a ≠ 24 → X a = Y a) ∧ (∀ i, i ≠ D → X 24 i = Y 24 i) ∧ X 24 D = encR vv ∧ Seen I A D S vv ∧ ∀ k, vv = some k → k ≤ D) → Hp E K L ad X H → va_S (AG E) s.heap H locs → lv_has ls 5 [(0, .ref (ad 10)), (1, .int (nI (al - 1))), (2, .int (nI D)), (3, .int (nI S))] → W p l ee (rmk 4) s m args below meth c H locs 0 0 Qf (F0 m 125 ls []) := by
                intro d125
                induction d125 with
                | zero => intro S vv X H locs ls hd125 hS1 hS2 hX _ _ _; exact absurd hd125 (by omega)
                | succ d125 ih125 =>
                  intro S vv X H locs ls hd125 hS1 hS2 hX hP hS hl
                  refine lv_iload_n hx hb dX7_fewest_125 rfl (lv_at hl 3 rfl) ?_
                  refine z_le C dX7_fewest_126 (tgt := 207) (by decide) (fun h10 => ?_) (fun h10 => ?_)
                  · rw [nI_toInt (by omega)] at h10
                    refine lv_iinc (v := nI (D + 1)) (lv' := [(2, .int (nI (D + 1))), (0, .ref (ad 10)), (1, .int (nI (al - 1))), (3, .int (nI S))]) hx hb dX7_fewest_207 hl (k := 2) rfl (nI_1 _) (by decide) rfl (fun ls hl => ?_)
                    refine lv_goto (tgt := 110) hx hb dX7_fewest_210 (by decide) ?_
                    exact ih110 (D + 1) ((fun i => if i = D then vv else A i)) X _ _ _ (by omega) (by omega) (by omega) (⟨⟨fun a g1 g2 g3 => by rw [hX.1 a g1]; exact hy.1.1 a g1 g2 g3, fun i hi => by rw [hX.1 25 (by decide), hX.1 26 (by decide)]; exact hy.1.2 i hi⟩, fun i hi => by by_cases q : i = D; (rw [if_pos q, q]; exact hX.2.2.1); (rw [if_neg q, hX.2.1 i q]; exact hy.2.1 i (by omega)), FwB_s hy.2.2 (by omega) (Seen_e (by rw [show S = 0 by omega] at hX; exact hX.2.2.2.1)) hX.2.2.2.2⟩) hP hS (lv_sub hl [1, 2, 0] rfl)
                  · rw [nI_toInt (by omega)] at h10
                    refine lv_iload_n hx hb dX7_fewest_129 rfl (lv_at hl 2 rfl) ?_
                    refine lv_iload_n hx hb dX7_fewest_130 rfl (lv_at hl 3 rfl) ?_
                    refine lv_iconst (v := (-1)) hx hb dX7_fewest_131 (by decide) ?_
                    refine lv_ixor hx hb dX7_fewest_132 ?_
                    refine lv_topi (fun x11 ex11 => ?_)
                    refine lv_iand hx hb dX7_fewest_133 ?_
                    refine lv_topi (fun x12 ex12 => ?_)
                    refine r_eqi (y := nI (D - S)) (by rw [ex12, ex11]; exact d_and1 D (by omega) S (by omega) hS2) ?_
                    refine lv_istore (lv' := [(4, .int (nI (D - S))), (0, .ref (ad 10)), (1, .int (nI (al - 1))), (2, .int (nI D)), (3, .int (nI S))]) hx hb dX7_fewest_134 hl (by decide) rfl (fun ls hl => ?_)
                    refine lv_aload_n hx hb dX7_fewest_136 rfl (lv_at hl 1 rfl) ?_
                    refine f_X7_49 (q := 24) C hP (by assumption) (by assumption) rfl dX7_fewest_137 ?_
                    refine lv_iload hx hb dX7_fewest_140 (lv_at hl 0 rfl) ?_
                    have hXB : X 24 (D - S) = encR (A (D - S)) := by rw [hX.2.1 _ (by omega)]; exact hy.2.1 _ (by omega)
                    rcases hA : A (D - S) with _ | m0
                    · refine r_iald (n := 256) C hP (by assumption) (by omega) (by decide) dX7_fewest_142 ?_
                      refine r_eqi (y := ((-6))) (by rw [hXB, hA]; rfl) ?_
                      refine z_lt C dX7_fewest_143 (tgt := 198) (by decide) (fun _ => ?_) (fun h13 => absurd h13 (by decide))
                      refine lv_iload_n hx hb dX7_fewest_198 rfl (lv_at hl 4 rfl) ?_
                      refine lv_iconst (v := nI 1) hx hb dX7_fewest_199 (by decide) ?_
                      refine r_subN C (by omega) dX7_fewest_200 ?_
                      refine lv_iload_n hx hb dX7_fewest_201 rfl (lv_at hl 3 rfl) ?_
                      refine lv_iand hx hb dX7_fewest_202 ?_
                      refine lv_topi (fun x14 ex14 => ?_)
                      refine r_eqi (y := nI ((S - 1) &&& D)) (by rw [ex14]; exact nI_and _ _) ?_
                      have hnx : (S - 1) &&& D ≤ S - 1 := Nat.and_le_left
                      refine lv_istore_n (lv' := [(3, .int (nI ((S - 1) &&& D))), (4, .int (nI (D - S))), (0, .ref (ad 10)), (1, .int (nI (al - 1))), (2, .int (nI D))]) hx hb dX7_fewest_203 rfl hl (by decide) rfl (fun ls hl => ?_)
                      refine lv_goto (tgt := 125) hx hb dX7_fewest_204 (by decide) ?_
                      exact ih125 ((S - 1) &&& D) vv X _ _ _ (by omega) (Nat.le_trans Nat.and_le_right (Nat.le_refl _)) (by rw [Nat.and_assoc, Nat.and_self]) (⟨hX.1, hX.2.1, hX.2.2.1, Seen_no hX.2.2.2.1 ⟨by omega, hS2⟩ (fun k c => by obtain ⟨-, m, h1, -⟩ := c; rw [hA] at h1; cases h1), hX.2.2.2.2⟩) hP hS (lv_sub hl [2, 3, 4, 0] rfl)
                    · have hm0 : m0 ≤ D - S := hy.2.2.2.1 (D - S) m0 (by omega) hA
                      refine r_iald (n := 256) C hP (by assumption) (by omega) (by decide) dX7_fewest_142 ?_
                      refine r_eqi (y := (nI m0)) (by rw [hXB, hA]; rfl) ?_
                      refine z_lt C dX7_fewest_143 (tgt := 198) (by decide) (fun h15 => absurd h15 (by rw [nI_toInt (by omega)]; omega)) (fun _ => ?_)
                      refine lv_aload_n hx hb dX7_fewest_146 rfl (lv_at hl 1 rfl) ?_
                      refine lv_iload hx hb dX7_fewest_147 (lv_at hl 0 rfl) ?_
                      refine lv_iload_n hx hb dX7_fewest_149 rfl (lv_at hl 4 rfl) ?_
                      refine k_X7_143 C hP hS (by assumption) (c_X7_canFollow (σ := I) (D - S) S hM0 hw (fun a ha => by rw [hX.1 a (by omega)]; exact hy.1.1 a (by omega) (by omega) (by omega)) (by omega) (by omega) (fun i hi => by rw [hX.1 25 (by decide)]; exact (hy.1.2 i hi).1) (fun i hi => by rw [hX.1 26 (by decide)]; exact (hy.1.2 i hi).2)) ⟨Nat.le_of_ble_eq_true rfl, Nat.le_of_ble_eq_true rfl⟩ ⟨Nat.zero_le _, Nat.zero_le _⟩ hl.1 (Nat.le_of_ble_eq_true rfl) dX7_fewest_150 (fun v16 I17 H locs hv18 hP hS => ?_)
                      obtain ⟨eI17, hv18⟩ := hv18
                      rw [eI17] at hP
                      clear eI17
                      rcases hv18 with ⟨rfl, hc19⟩ | ⟨rfl, hc19⟩
                      · have hcf := hc19
                        refine z_eq1 C dX7_fewest_153 (tgt := 198) (by decide) ?_
                        refine lv_aload_n hx hb dX7_fewest_156 rfl (lv_at hl 1 rfl) ?_
                        refine f_X7_49 (q := 24) C hP (by assumption) (by assumption) rfl dX7_fewest_157 ?_
                        refine lv_iload_n hx hb dX7_fewest_160 rfl (lv_at hl 3 rfl) ?_
                        rcases hv : vv with _ | k0
                        · subst hv
                          refine r_iald (n := 256) C hP (by assumption) (by omega) (by decide) dX7_fewest_161 ?_
                          refine r_eqi (y := ((-6))) (hX.2.2.1) ?_
                          refine z_lt C dX7_fewest_162 (tgt := 183) (by decide) (fun _ => ?_) (fun h20 => absurd h20 (by decide))
                          refine lv_aload_n hx hb dX7_fewest_183 rfl (lv_at hl 1 rfl) ?_
                          refine f_X7_49 (q := 24) C hP (by assumption) (by assumption) rfl dX7_fewest_184 ?_
                          refine lv_iload_n hx hb dX7_fewest_187 rfl (lv_at hl 3 rfl) ?_
                          refine lv_aload_n hx hb dX7_fewest_188 rfl (lv_at hl 1 rfl) ?_
                          refine f_X7_49 (q := 24) C hP (by assumption) (by assumption) rfl dX7_fewest_189 ?_
                          refine lv_iload hx hb dX7_fewest_192 (lv_at hl 0 rfl) ?_
                          refine r_iald (n := 256) C hP (by assumption) (by omega) (by decide) dX7_fewest_194 ?_
                          refine r_eqi (y := (nI m0)) (by rw [hXB, hA]; rfl) ?_
                          refine lv_iconst (v := nI 1) hx hb dX7_fewest_195 (by decide) ?_
                          refine r_addN C dX7_fewest_196 ?_
                          refine r_iast (n := 256) C hP hS (by assumption) (by omega) (by decide) dX7_fewest_197 (fun H locs hP hS => ?_)
                          obtain ⟨I21, eI21⟩ : ∃ Znew : Nat → Nat → Int32, Znew = up2 X 24 D (nI (m0 + 1)) := ⟨_, rfl⟩
                          rw [← eI21] at hP
                          refine lv_iload_n hx hb dX7_fewest_198 rfl (lv_at hl 4 rfl) ?_
                          refine lv_iconst (v := nI 1) hx hb dX7_fewest_199 (by decide) ?_
                          refine r_subN C (by omega) dX7_fewest_200 ?_
                          refine lv_iload_n hx hb dX7_fewest_201 rfl (lv_at hl 3 rfl) ?_
                          refine lv_iand hx hb dX7_fewest_202 ?_
                          refine lv_topi (fun x22 ex22 => ?_)
                          refine r_eqi (y := nI ((S - 1) &&& D)) (by rw [ex22]; exact nI_and _ _) ?_
                          have hnx : (S - 1) &&& D ≤ S - 1 := Nat.and_le_left
                          refine lv_istore_n (lv' := [(3, .int (nI ((S - 1) &&& D))), (4, .int (nI (D - S))), (0, .ref (ad 10)), (1, .int (nI (al - 1))), (2, .int (nI D))]) hx hb dX7_fewest_203 rfl hl (by decide) rfl (fun ls hl => ?_)
                          refine lv_goto (tgt := 125) hx hb dX7_fewest_204 (by decide) ?_
                          exact ih125 ((S - 1) &&& D) (some (m0 + 1)) I21 _ _ _ (by omega) (Nat.le_trans Nat.and_le_right (Nat.le_refl _)) (by rw [Nat.and_assoc, Nat.and_self]) (by rw [eI21]; exact ⟨fun a g => by rw [up2_r g]; exact hX.1 a g, fun i g => by rw [up2_k g]; exact hX.2.1 i g, up2_s _ _ _ _, Seen_yes hX.2.2.2.1 ⟨by omega, hS2⟩ ⟨hcf, m0, hA, rfl⟩ (fun q h => by cases h), fun k h => by cases h; omega⟩) hP hS (lv_sub hl [2, 3, 4, 0] rfl)
                        · subst hv
                          have hk0 : k0 ≤ D := hX.2.2.2.2 k0 rfl
                          refine r_iald (n := 256) C hP (by assumption) (by omega) (by decide) dX7_fewest_161 ?_
                          refine r_eqi (y := (nI k0)) (hX.2.2.1) ?_
                          refine z_lt C dX7_fewest_162 (tgt := 183) (by decide) (fun h23 => absurd h23 (by rw [nI_toInt (by omega)]; omega)) (fun _ => ?_)
                          refine lv_aload_n hx hb dX7_fewest_165 rfl (lv_at hl 1 rfl) ?_
                          refine f_X7_49 (q := 24) C hP (by assumption) (by assumption) rfl dX7_fewest_166 ?_
                          refine lv_iload hx hb dX7_fewest_169 (lv_at hl 0 rfl) ?_
                          refine r_iald (n := 256) C hP (by assumption) (by omega) (by decide) dX7_fewest_171 ?_
                          refine r_eqi (y := (nI m0)) (by rw [hXB, hA]; rfl) ?_
                          refine lv_iconst (v := nI 1) hx hb dX7_fewest_172 (by decide) ?_
                          refine r_addN C dX7_fewest_173 ?_
                          refine lv_aload_n hx hb dX7_fewest_174 rfl (lv_at hl 1 rfl) ?_
                          refine f_X7_49 (q := 24) C hP (by assumption) (by assumption) rfl dX7_fewest_175 ?_
                          refine lv_iload_n hx hb dX7_fewest_178 rfl (lv_at hl 3 rfl) ?_
                          refine r_iald (n := 256) C hP (by assumption) (by omega) (by decide) dX7_fewest_179 ?_
                          refine r_eqi (y := (nI k0)) (hX.2.2.1) ?_
                          refine b_geN C (by omega) (by omega) dX7_fewest_180 (tgt := 198) (by decide) (fun h24 => ?_) (fun h24 => ?_)
                          · refine lv_iload_n hx hb dX7_fewest_198 rfl (lv_at hl 4 rfl) ?_
                            refine lv_iconst (v := nI 1) hx hb dX7_fewest_199 (by decide) ?_
                            refine r_subN C (by omega) dX7_fewest_200 ?_
                            refine lv_iload_n hx hb dX7_fewest_201 rfl (lv_at hl 3 rfl) ?_
                            refine lv_iand hx hb dX7_fewest_202 ?_
                            refine lv_topi (fun x25 ex25 => ?_)
                            refine r_eqi (y := nI ((S - 1) &&& D)) (by rw [ex25]; exact nI_and _ _) ?_
                            have hnx : (S - 1) &&& D ≤ S - 1 := Nat.and_le_left
                            refine lv_istore_n (lv' := [(3, .int (nI ((S - 1) &&& D))), (4, .int (nI (D - S))), (0, .ref (ad 10)), (1, .int (nI (al - 1))), (2, .int (nI D))]) hx hb dX7_fewest_203 rfl hl (by decide) rfl (fun ls hl => ?_)
                            refine lv_goto (tgt := 125) hx hb dX7_fewest_204 (by decide) ?_
                            exact ih125 ((S - 1) &&& D) (some k0) X _ _ _ (by omega) (Nat.le_trans Nat.and_le_right (Nat.le_refl _)) (by rw [Nat.and_assoc, Nat.and_self]) (⟨hX.1, hX.2.1, hX.2.2.1, Seen_no hX.2.2.2.1 ⟨by omega, hS2⟩ (fun k c => by obtain ⟨-, m, h1, h2⟩ := c; rw [hA] at h1; cases h1; exact ⟨k0, rfl, by omega⟩), hX.2.2.2.2⟩) hP hS (lv_sub hl [2, 3, 4, 0] rfl)
                          · refine lv_aload_n hx hb dX7_fewest_183 rfl (lv_at hl 1 rfl) ?_
                            refine f_X7_49 (q := 24) C hP (by assumption) (by assumption) rfl dX7_fewest_184 ?_
                            refine lv_iload_n hx hb dX7_fewest_187 rfl (lv_at hl 3 rfl) ?_
                            refine lv_aload_n hx hb dX7_fewest_188 rfl (lv_at hl 1 rfl) ?_
                            refine f_X7_49 (q := 24) C hP (by assumption) (by assumption) rfl dX7_fewest_189 ?_
                            refine lv_iload hx hb dX7_fewest_192 (lv_at hl 0 rfl) ?_
                            refine r_iald (n := 256) C hP (by assumption) (by omega) (by decide) dX7_fewest_194 ?_
                            refine r_eqi (y := (nI m0)) (by rw [hXB, hA]; rfl) ?_
                            refine lv_iconst (v := nI 1) hx hb dX7_fewest_195 (by decide) ?_
                            refine r_addN C dX7_fewest_196 ?_
                            refine r_iast (n := 256) C hP hS (by assumption) (by omega) (by decide) dX7_fewest_197 (fun H locs hP hS => ?_)
                            obtain ⟨I26, eI26⟩ : ∃ Znew : Nat → Nat → Int32, Znew = up2 X 24 D (nI (m0 + 1)) := ⟨_, rfl⟩
                            rw [← eI26] at hP
                            refine lv_iload_n hx hb dX7_fewest_198 rfl (lv_at hl 4 rfl) ?_
                            refine lv_iconst (v := nI 1) hx hb dX7_fewest_199 (by decide) ?_
                            refine r_subN C (by omega) dX7_fewest_200 ?_
                            refine lv_iload_n hx hb dX7_fewest_201 rfl (lv_at hl 3 rfl) ?_
                            refine lv_iand hx hb dX7_fewest_202 ?_
                            refine lv_topi (fun x27 ex27 => ?_)
                            refine r_eqi (y := nI ((S - 1) &&& D)) (by rw [ex27]; exact nI_and _ _) ?_
                            have hnx : (S - 1) &&& D ≤ S - 1 := Nat.and_le_left
                            refine lv_istore_n (lv' := [(3, .int (nI ((S - 1) &&& D))), (4, .int (nI (D - S))), (0, .ref (ad 10)), (1, .int (nI (al - 1))), (2, .int (nI D))]) hx hb dX7_fewest_203 rfl hl (by decide) rfl (fun ls hl => ?_)
                            refine lv_goto (tgt := 125) hx hb dX7_fewest_204 (by decide) ?_
                            exact ih125 ((S - 1) &&& D) (some (m0 + 1)) I26 _ _ _ (by omega) (Nat.le_trans Nat.and_le_right (Nat.le_refl _)) (by rw [Nat.and_assoc, Nat.and_self]) (by rw [eI26]; exact ⟨fun a g => by rw [up2_r g]; exact hX.1 a g, fun i g => by rw [up2_k g]; exact hX.2.1 i g, up2_s _ _ _ _, Seen_yes hX.2.2.2.1 ⟨by omega, hS2⟩ ⟨hcf, m0, hA, rfl⟩ (fun q h => by cases h; omega), fun k h => by cases h; omega⟩) hP hS (lv_sub hl [2, 3, 4, 0] rfl)
                      · have hcf := hc19
                        refine z_eq0 C dX7_fewest_153 (tgt := 198) (by decide) ?_
                        refine lv_iload_n hx hb dX7_fewest_198 rfl (lv_at hl 4 rfl) ?_
                        refine lv_iconst (v := nI 1) hx hb dX7_fewest_199 (by decide) ?_
                        refine r_subN C (by omega) dX7_fewest_200 ?_
                        refine lv_iload_n hx hb dX7_fewest_201 rfl (lv_at hl 3 rfl) ?_
                        refine lv_iand hx hb dX7_fewest_202 ?_
                        refine lv_topi (fun x28 ex28 => ?_)
                        refine r_eqi (y := nI ((S - 1) &&& D)) (by rw [ex28]; exact nI_and _ _) ?_
                        have hnx : (S - 1) &&& D ≤ S - 1 := Nat.and_le_left
                        refine lv_istore_n (lv' := [(3, .int (nI ((S - 1) &&& D))), (4, .int (nI (D - S))), (0, .ref (ad 10)), (1, .int (nI (al - 1))), (2, .int (nI D))]) hx hb dX7_fewest_203 rfl hl (by decide) rfl (fun ls hl => ?_)
                        refine lv_goto (tgt := 125) hx hb dX7_fewest_204 (by decide) ?_
                        exact ih125 ((S - 1) &&& D) vv X _ _ _ (by omega) (Nat.le_trans Nat.and_le_right (Nat.le_refl _)) (by rw [Nat.and_assoc, Nat.and_self]) (⟨hX.1, hX.2.1, hX.2.2.1, Seen_no hX.2.2.2.1 ⟨by omega, hS2⟩ (fun k c => absurd c.1 hcf), hX.2.2.2.2⟩) hP hS (lv_sub hl [2, 3, 4, 0] rfl)
              exact hL125_9 (D + 1) D none I8 _ _ _ (by omega) (by omega) (Nat.and_self _) (by rw [eI8]; exact ⟨fun a g => by rw [up2_r g], fun i g => by rw [up2_k g], up2_s _ _ _ _, Seen_0, fun k h => by cases h⟩) hP hS (lv_sub hl [1, 2, 3, 0] rfl)
        exact hL110_6 (al + 1) 1 ((fun i => if i = 0 then some 0 else none)) I5 _ _ _ (by omega) (by omega) (by omega) (hyy) hP hS (lv_sub hl [2, 1, 0] rfl)
      · refine lv_aload_n hx hb dX7_fewest_10 rfl (lv_at hl 0 rfl) ?_
        refine f_X7_52 (q := 25) C hP (by assumption) (by assumption) rfl dX7_fewest_11 ?_
        refine lv_iload_n hx hb dX7_fewest_14 rfl (lv_at hl 1 rfl) ?_
        refine lv_iconst (v := nI 0) hx hb dX7_fewest_15 (by decide) ?_
        refine r_iast (n := 8) C hP hS (by assumption) (by omega) (by decide) dX7_fewest_16 (fun H locs hP hS => ?_)
        obtain ⟨I29, eI29⟩ : ∃ Znew : Nat → Nat → Int32, Znew = up2 J 25 t (nI 0) := ⟨_, rfl⟩
        rw [← eI29] at hP
        refine lv_aload_n hx hb dX7_fewest_17 rfl (lv_at hl 0 rfl) ?_
        refine f_X7_55 (q := 26) C hP (by assumption) (by assumption) rfl dX7_fewest_18 ?_
        refine lv_iload_n hx hb dX7_fewest_21 rfl (lv_at hl 1 rfl) ?_
        refine lv_iconst (v := nI 0) hx hb dX7_fewest_22 (by decide) ?_
        refine r_iast (n := 8) C hP hS (by assumption) (by omega) (by decide) dX7_fewest_23 (fun H locs hP hS => ?_)
        obtain ⟨I30, eI30⟩ : ∃ Znew : Nat → Nat → Int32, Znew = up2 I29 26 t (nI 0) := ⟨_, rfl⟩
        rw [← eI30] at hP
        refine lv_iconst (v := nI 0) hx hb dX7_fewest_24 (by decide) ?_
        refine lv_istore_n (lv' := [(2, .int (nI 0)), (0, .ref (ad 10)), (1, .int (nI t))]) hx hb dX7_fewest_25 rfl hl (by decide) rfl (fun ls hl => ?_)
        have hL26_31 : ∀ (d : Nat) (e0 : Nat) (Z : Mem) (H : Heap) (locs : List Loc) (ls : Array Slot), t < e0 + d → (e0 ≤ t) → (((∀ a, a ≠ 25 → a ≠ 26 → Z a = I a) ∧ (∀ i, i < t → Z 25 i = nI (mfS I i) ∧ Z 26 i = nI (mjS I i))) ∧ Z 25 t = nI (sN (mfF I t) e0) ∧ Z 26 t = nI (sN (mjF I t) e0)) → Hp E K L ad Z H → va_S (AG E) s.heap H locs → lv_has ls 5 [(0, .ref (ad 10)), (1, .int (nI t)), (2, .int (nI e0))] → W p l ee (rmk 4) s m args below meth c H locs 0 0 Qf (F0 m 26 ls []) := by
          intro d26
          induction d26 with
          | zero => intro e0 Z H locs ls hd26 he0 hz _ _ _; exact absurd hd26 (by omega)
          | succ d26 ih26 =>
            intro e0 Z H locs ls hd26 he0 hz hP hS hl
            refine lv_iload_n hx hb dX7_fewest_26 rfl (lv_at hl 2 rfl) ?_
            refine lv_iload_n hx hb dX7_fewest_27 rfl (lv_at hl 1 rfl) ?_
            refine b_geN C (by omega) (by omega) dX7_fewest_28 (tgt := 86) (by decide) (fun h32 => ?_) (fun h32 => ?_)
            · refine lv_iinc (v := nI (t + 1)) (lv' := [(1, .int (nI (t + 1))), (0, .ref (ad 10)), (2, .int (nI e0))]) hx hb dX7_fewest_86 hl (k := 1) rfl (nI_1 _) (by decide) rfl (fun ls hl => ?_)
              refine lv_goto (tgt := 2) hx hb dX7_fewest_89 (by decide) ?_
              exact ih2 (t + 1) Z _ _ _ (by omega) (by omega) (by rw [show e0 = t by omega] at hz; exact ⟨hz.1.1, fun i hi => if q : i = t then by subst q; exact hz.2 else hz.1.2 i (by omega)⟩) hP hS (lv_sub hl [1, 0] rfl)
            · refine lv_aload_n hx hb dX7_fewest_31 rfl (lv_at hl 0 rfl) ?_
              refine lv_iload_n hx hb dX7_fewest_32 rfl (lv_at hl 2 rfl) ?_
              refine lv_iload_n hx hb dX7_fewest_33 rfl (lv_at hl 1 rfl) ?_
              have hnd := nd_le I e0 t
              refine k_X7_124 C hP hS (by assumption) (c_X7_needOf e0 t hM0 (by omega) (by omega) (WFt_cong (fun a h1 h2 => hz.1.1 a (by omega) (by omega)) (hw.2.2.1 _ (by omega))) (WFt_cong (fun a h1 h2 => hz.1.1 a (by omega) (by omega)) (hw.2.2.1 _ (by omega)))) ⟨Nat.le_of_ble_eq_true rfl, Nat.le_of_ble_eq_true rfl⟩ ⟨Nat.zero_le _, Nat.zero_le _⟩ hl.1 (Nat.le_of_ble_eq_true rfl) dX7_fewest_34 (fun v33 I34 H locs hv35 hP hS => ?_)
              obtain ⟨eI34, ev33⟩ := hv35
              rw [eI34] at hP
              clear eI34
              refine r_eqi (y := nI (nd I e0 t)) (ev33.trans (congrArg nI (nd_cong (fun a h1 h2 => hz.1.1 a (by omega) (by omega))))) ?_
              refine lv_istore_n (lv' := [(3, .int (nI (nd I e0 t))), (0, .ref (ad 10)), (1, .int (nI t)), (2, .int (nI e0))]) hx hb dX7_fewest_37 rfl hl (by decide) rfl (fun ls hl => ?_)
              refine lv_aload_n hx hb dX7_fewest_38 rfl (lv_at hl 1 rfl) ?_
              refine f_X7_52 (q := 25) C hP (by assumption) (by assumption) rfl dX7_fewest_39 ?_
              refine lv_iload_n hx hb dX7_fewest_42 rfl (lv_at hl 2 rfl) ?_
              refine lv_dup2_11 hx hb dX7_fewest_43 rfl rfl ?_
              refine r_iald (n := 8) C hP (by assumption) (by omega) (by decide) dX7_fewest_44 ?_
              refine r_eqi (y := (nI (sN (mfF I t) e0))) (hz.2.1) ?_
              refine lv_iload_n hx hb dX7_fewest_45 rfl (lv_at hl 0 rfl) ?_
              refine lv_iconst (v := nI 1) hx hb dX7_fewest_46 (by decide) ?_
              refine b_leN C (by omega) (by omega) dX7_fewest_47 (tgt := 56) (by decide) (fun h36 => ?_) (fun h36 => ?_)
              · refine lv_iconst (v := nI 0) hx hb dX7_fewest_56 (by decide) ?_
                refine lv_ior hx hb dX7_fewest_57 ?_
                refine lv_topi (fun x37 ex37 => ?_)
                refine r_eqi (y := nI (sN (mfF I t) (e0 + 1))) (by rw [ex37]; simp only [sN]; rw [or_nI0, if_neg (by simp [mfF]; omega)]; rfl) ?_
                refine r_iast (n := 8) C hP hS (by assumption) (by omega) (by decide) dX7_fewest_58 (fun H locs hP hS => ?_)
                obtain ⟨I38, eI38⟩ : ∃ Znew : Nat → Nat → Int32, Znew = up2 Z 25 t (nI (sN (mfF I t) (e0 + 1))) := ⟨_, rfl⟩
                rw [← eI38] at hP
                refine lv_aload_n hx hb dX7_fewest_59 rfl (lv_at hl 1 rfl) ?_
                refine f_X7_55 (q := 26) C hP (by assumption) (by assumption) rfl dX7_fewest_60 ?_
                refine lv_iload_n hx hb dX7_fewest_63 rfl (lv_at hl 2 rfl) ?_
                refine lv_dup2_11 hx hb dX7_fewest_64 rfl rfl ?_
                refine r_iald (n := 8) C hP (by assumption) (by omega) (by decide) dX7_fewest_65 ?_
                refine r_eqi (y := (nI (sN (mjF I t) e0))) (by rw [eI38, up2_r (by decide)]; exact hz.2.2) ?_
                refine lv_iload_n hx hb dX7_fewest_66 rfl (lv_at hl 0 rfl) ?_
                refine lv_iconst (v := nI 1) hx hb dX7_fewest_67 (by decide) ?_
                refine b_neN C (by omega) (by omega) dX7_fewest_68 (tgt := 77) (by decide) (fun h39 => ?_) (fun h39 => ?_)
                · refine lv_iconst (v := nI 0) hx hb dX7_fewest_77 (by decide) ?_
                  refine lv_ior hx hb dX7_fewest_78 ?_
                  refine lv_topi (fun x40 ex40 => ?_)
                  refine r_eqi (y := nI (sN (mjF I t) (e0 + 1))) (by rw [ex40]; simp only [sN]; rw [or_nI0, if_neg (by simp [mjF]; omega)]; rfl) ?_
                  refine r_iast (n := 8) C hP hS (by assumption) (by omega) (by decide) dX7_fewest_79 (fun H locs hP hS => ?_)
                  obtain ⟨I41, eI41⟩ : ∃ Znew : Nat → Nat → Int32, Znew = up2 I38 26 t (nI (sN (mjF I t) (e0 + 1))) := ⟨_, rfl⟩
                  rw [← eI41] at hP
                  refine lv_iinc (v := nI (e0 + 1)) (lv' := [(2, .int (nI (e0 + 1))), (3, .int (nI (nd I e0 t))), (0, .ref (ad 10)), (1, .int (nI t))]) hx hb dX7_fewest_80 hl (k := 3) rfl (nI_1 _) (by decide) rfl (fun ls hl => ?_)
                  refine lv_goto (tgt := 26) hx hb dX7_fewest_83 (by decide) ?_
                  exact ih26 (e0 + 1) I41 _ _ _ (by omega) (by omega) (by rw [eI41, eI38]; exact ⟨⟨fun a g1 g2 => by rw [up2_r g2, up2_r g1]; exact hz.1.1 a g1 g2, fun i hi => by rw [up2_r (by decide), up2_k (by omega), up2_k (by omega), up2_r (by decide)]; exact hz.1.2 i hi⟩, by rw [up2_r (by decide), up2_s], by rw [up2_s]⟩) hP hS (lv_sub hl [2, 3, 0] rfl)
                · refine lv_iconst (v := nI 1) hx hb dX7_fewest_71 (by decide) ?_
                  refine lv_iload_n hx hb dX7_fewest_72 rfl (lv_at hl 3 rfl) ?_
                  refine lv_ishl hx hb dX7_fewest_73 ?_
                  refine lv_topi (fun x42 ex42 => ?_)
                  refine lv_goto (tgt := 78) hx hb dX7_fewest_74 (by decide) ?_
                  refine lv_ior hx hb dX7_fewest_78 ?_
                  refine lv_topi (fun x43 ex43 => ?_)
                  refine r_eqi (y := nI (sN (mjF I t) (e0 + 1))) (by rw [ex43, ex42]; simp only [sN]; rw [or_sb (sN_lt _ _) (by omega), if_pos (by simp [mjF]; omega)]) ?_
                  refine r_iast (n := 8) C hP hS (by assumption) (by omega) (by decide) dX7_fewest_79 (fun H locs hP hS => ?_)
                  obtain ⟨I44, eI44⟩ : ∃ Znew : Nat → Nat → Int32, Znew = up2 I38 26 t (nI (sN (mjF I t) (e0 + 1))) := ⟨_, rfl⟩
                  rw [← eI44] at hP
                  refine lv_iinc (v := nI (e0 + 1)) (lv' := [(2, .int (nI (e0 + 1))), (3, .int (nI (nd I e0 t))), (0, .ref (ad 10)), (1, .int (nI t))]) hx hb dX7_fewest_80 hl (k := 3) rfl (nI_1 _) (by decide) rfl (fun ls hl => ?_)
                  refine lv_goto (tgt := 26) hx hb dX7_fewest_83 (by decide) ?_
                  exact ih26 (e0 + 1) I44 _ _ _ (by omega) (by omega) (by rw [eI44, eI38]; exact ⟨⟨fun a g1 g2 => by rw [up2_r g2, up2_r g1]; exact hz.1.1 a g1 g2, fun i hi => by rw [up2_r (by decide), up2_k (by omega), up2_k (by omega), up2_r (by decide)]; exact hz.1.2 i hi⟩, by rw [up2_r (by decide), up2_s], by rw [up2_s]⟩) hP hS (lv_sub hl [2, 3, 0] rfl)
              · refine lv_iconst (v := nI 1) hx hb dX7_fewest_50 (by decide) ?_
                refine lv_iload_n hx hb dX7_fewest_51 rfl (lv_at hl 3 rfl) ?_
                refine lv_ishl hx hb dX7_fewest_52 ?_
                refine lv_topi (fun x45 ex45 => ?_)
                refine lv_goto (tgt := 57) hx hb dX7_fewest_53 (by decide) ?_
                refine lv_ior hx hb dX7_fewest_57 ?_
                refine lv_topi (fun x46 ex46 => ?_)
                refine r_eqi (y := nI (sN (mfF I t) (e0 + 1))) (by rw [ex46, ex45]; simp only [sN]; rw [or_sb (sN_lt _ _) (by omega), if_pos (by simp [mfF]; omega)]) ?_
                refine r_iast (n := 8) C hP hS (by assumption) (by omega) (by decide) dX7_fewest_58 (fun H locs hP hS => ?_)
                obtain ⟨I47, eI47⟩ : ∃ Znew : Nat → Nat → Int32, Znew = up2 Z 25 t (nI (sN (mfF I t) (e0 + 1))) := ⟨_, rfl⟩
                rw [← eI47] at hP
                refine lv_aload_n hx hb dX7_fewest_59 rfl (lv_at hl 1 rfl) ?_
                refine f_X7_55 (q := 26) C hP (by assumption) (by assumption) rfl dX7_fewest_60 ?_
                refine lv_iload_n hx hb dX7_fewest_63 rfl (lv_at hl 2 rfl) ?_
                refine lv_dup2_11 hx hb dX7_fewest_64 rfl rfl ?_
                refine r_iald (n := 8) C hP (by assumption) (by omega) (by decide) dX7_fewest_65 ?_
                refine r_eqi (y := (nI (sN (mjF I t) e0))) (by rw [eI47, up2_r (by decide)]; exact hz.2.2) ?_
                refine lv_iload_n hx hb dX7_fewest_66 rfl (lv_at hl 0 rfl) ?_
                refine lv_iconst (v := nI 1) hx hb dX7_fewest_67 (by decide) ?_
                refine b_neN C (by omega) (by omega) dX7_fewest_68 (tgt := 77) (by decide) (fun h48 => ?_) (fun h48 => ?_)
                · refine lv_iconst (v := nI 0) hx hb dX7_fewest_77 (by decide) ?_
                  refine lv_ior hx hb dX7_fewest_78 ?_
                  refine lv_topi (fun x49 ex49 => ?_)
                  refine r_eqi (y := nI (sN (mjF I t) (e0 + 1))) (by rw [ex49]; simp only [sN]; rw [or_nI0, if_neg (by simp [mjF]; omega)]; rfl) ?_
                  refine r_iast (n := 8) C hP hS (by assumption) (by omega) (by decide) dX7_fewest_79 (fun H locs hP hS => ?_)
                  obtain ⟨I50, eI50⟩ : ∃ Znew : Nat → Nat → Int32, Znew = up2 I47 26 t (nI (sN (mjF I t) (e0 + 1))) := ⟨_, rfl⟩
                  rw [← eI50] at hP
                  refine lv_iinc (v := nI (e0 + 1)) (lv' := [(2, .int (nI (e0 + 1))), (3, .int (nI (nd I e0 t))), (0, .ref (ad 10)), (1, .int (nI t))]) hx hb dX7_fewest_80 hl (k := 3) rfl (nI_1 _) (by decide) rfl (fun ls hl => ?_)
                  refine lv_goto (tgt := 26) hx hb dX7_fewest_83 (by decide) ?_
                  exact ih26 (e0 + 1) I50 _ _ _ (by omega) (by omega) (by rw [eI50, eI47]; exact ⟨⟨fun a g1 g2 => by rw [up2_r g2, up2_r g1]; exact hz.1.1 a g1 g2, fun i hi => by rw [up2_r (by decide), up2_k (by omega), up2_k (by omega), up2_r (by decide)]; exact hz.1.2 i hi⟩, by rw [up2_r (by decide), up2_s], by rw [up2_s]⟩) hP hS (lv_sub hl [2, 3, 0] rfl)
                · refine lv_iconst (v := nI 1) hx hb dX7_fewest_71 (by decide) ?_
                  refine lv_iload_n hx hb dX7_fewest_72 rfl (lv_at hl 3 rfl) ?_
                  refine lv_ishl hx hb dX7_fewest_73 ?_
                  refine lv_topi (fun x51 ex51 => ?_)
                  refine lv_goto (tgt := 78) hx hb dX7_fewest_74 (by decide) ?_
                  refine lv_ior hx hb dX7_fewest_78 ?_
                  refine lv_topi (fun x52 ex52 => ?_)
                  refine r_eqi (y := nI (sN (mjF I t) (e0 + 1))) (by rw [ex52, ex51]; simp only [sN]; rw [or_sb (sN_lt _ _) (by omega), if_pos (by simp [mjF]; omega)]) ?_
                  refine r_iast (n := 8) C hP hS (by assumption) (by omega) (by decide) dX7_fewest_79 (fun H locs hP hS => ?_)
                  obtain ⟨I53, eI53⟩ : ∃ Znew : Nat → Nat → Int32, Znew = up2 I47 26 t (nI (sN (mjF I t) (e0 + 1))) := ⟨_, rfl⟩
                  rw [← eI53] at hP
                  refine lv_iinc (v := nI (e0 + 1)) (lv' := [(2, .int (nI (e0 + 1))), (3, .int (nI (nd I e0 t))), (0, .ref (ad 10)), (1, .int (nI t))]) hx hb dX7_fewest_80 hl (k := 3) rfl (nI_1 _) (by decide) rfl (fun ls hl => ?_)
                  refine lv_goto (tgt := 26) hx hb dX7_fewest_83 (by decide) ?_
                  exact ih26 (e0 + 1) I53 _ _ _ (by omega) (by omega) (by rw [eI53, eI47]; exact ⟨⟨fun a g1 g2 => by rw [up2_r g2, up2_r g1]; exact hz.1.1 a g1 g2, fun i hi => by rw [up2_r (by decide), up2_k (by omega), up2_k (by omega), up2_r (by decide)]; exact hz.1.2 i hi⟩, by rw [up2_r (by decide), up2_s], by rw [up2_s]⟩) hP hS (lv_sub hl [2, 3, 0] rfl)
        exact hL26_31 (t + 1) 0 I30 _ _ _ (by omega) (by omega) (by rw [eI30, eI29]; exact ⟨⟨fun a g1 g2 => by rw [up2_r g2, up2_r g1]; exact hc.1 a g1 g2, fun i hi => by rw [up2_r (by decide), up2_k (by omega), up2_k (by omega), up2_r (by decide)]; exact hc.2 i hi⟩, by rw [up2_r (by decide), up2_s]; rfl, by rw [up2_s]; rfl⟩) hP hS (lv_sub hl [1, 2, 0] rfl)
  exact hL2_1 (mn I + 1) 0 I _ _ _ (by omega) (by omega) (⟨fun _ _ _ => rfl, lt_0⟩) hP hS (lv_sub hl [1, 0] rfl)
