/-! the reference: levels, packing -/
set_option maxHeartbeats 4000000 in
set_option maxRecDepth 100000 in
theorem c_X7_needs {l : Launch} {E : En} {K : Nat → Nat} {L : Nat → Nat → Bool} {ad : Nat → Nat} {I : Nat → Nat → Int32} (a b : Int32) (hM : IsM K L) (hw : WF I) : MI l E K L ad I yX7_needs cX7_needs 3 (some .int) 4 [.ref (ad 10), .int a, .int b] (fun rv RJ => RJ = I ∧ rv = sNeeds I a b) := by
  have hM0 := hM
  obtain ⟨m0, ml1, ml2, ml3, ml4, ml5, ml6, ml7, ml8, ml9, ml10, ml11, ml12, ml13, ml14, ml15, ml16, ml17, ml21, ml25, ml26, mk1, mk2, mk3, mk4, mk5, mk6, mk7, mk8, mk9, mk10, mk11, mk12, mk13, mk14, mk15, mk16, mk17, mk21, mk25, mk26⟩ := hM
  have he := hw.1
  have hn8 := hw.2.1
  refine MI.of (by decide) (Nat.le_of_ble_eq_true rfl) ?_
  intro p ee s m args below meth c ls Qf C hret hP hl
  have C : Cx E p s m args c cX7_needs RX7 3 := C
  have hx := C.1
  have hb := C.2.1
  have hS : va_S (AG E) s.heap s.heap [] := va_S.rf
  have hl : lv_has ls 3 [(0, .ref (ad 10)), (1, .int a), (2, .int b)] := hl
  refine lv_aload_n hx hb dX7_needs_0 rfl (lv_at hl 0 rfl) ?_
  refine lv_iload_n hx hb dX7_needs_1 rfl (lv_at hl 1 rfl) ?_
  refine k_X7_101 C hP hS (by assumption) (c_X7_isTable (mn I) a (by assumption) he hn8) ⟨Nat.le_of_ble_eq_true rfl, Nat.le_of_ble_eq_true rfl⟩ ⟨Nat.zero_le _, Nat.zero_le _⟩ hl.1 (Nat.le_of_ble_eq_true rfl) dX7_needs_2 (fun v1 I2 H locs hv3 hP hS => ?_)
  obtain ⟨eI2, hv3⟩ := hv3
  rw [eI2] at hP
  clear eI2
  rcases hv3 with ⟨rfl, hc4⟩ | ⟨rfl, hc4⟩
  · refine z_eq1 C dX7_needs_5 (tgt := 16) (by decide) ?_
    refine lv_aload_n hx hb dX7_needs_8 rfl (lv_at hl 0 rfl) ?_
    refine lv_iload_n hx hb dX7_needs_9 rfl (lv_at hl 2 rfl) ?_
    refine k_X7_101 C hP hS (by assumption) (c_X7_isTable (mn I) b (by assumption) he hn8) ⟨Nat.le_of_ble_eq_true rfl, Nat.le_of_ble_eq_true rfl⟩ ⟨Nat.zero_le _, Nat.zero_le _⟩ hl.1 (Nat.le_of_ble_eq_true rfl) dX7_needs_10 (fun v5 I6 H locs hv7 hP hS => ?_)
    obtain ⟨eI6, hv7⟩ := hv7
    rw [eI6] at hP
    clear eI6
    rcases hv7 with ⟨rfl, hc8⟩ | ⟨rfl, hc8⟩
    · refine z_ne1 C dX7_needs_13 (tgt := 18) (by decide) ?_
      obtain ⟨u, hu, eu⟩ : ∃ j : Nat, j < mn I ∧ a = nI j := ⟨a.toInt.toNat, by omega, i32_eq (by omega) (by omega)⟩
      have cu : tn a = u := by rw [eu]; exact nI_clamp (by omega)
      rw [eu] at hl
      obtain ⟨u2, hu2, eu2⟩ : ∃ j : Nat, j < mn I ∧ b = nI j := ⟨b.toInt.toNat, by omega, i32_eq (by omega) (by omega)⟩
      have cu2 : tn b = u2 := by rw [eu2]; exact nI_clamp (by omega)
      rw [eu2] at hl
      refine lv_iload_n hx hb dX7_needs_18 rfl (lv_at hl 1 rfl) ?_
      refine lv_iload_n hx hb dX7_needs_19 rfl (lv_at hl 2 rfl) ?_
      refine b_neN C (by omega) (by omega) dX7_needs_20 (tgt := 26) (by decide) (fun h9 => ?_) (fun h9 => ?_)
      · refine lv_iload_n hx hb dX7_needs_26 rfl (lv_at hl 1 rfl) ?_
        refine lv_iload_n hx hb dX7_needs_27 rfl (lv_at hl 2 rfl) ?_
        refine b_geN C (by omega) (by omega) dX7_needs_28 (tgt := 40) (by decide) (fun h10 => ?_) (fun h10 => ?_)
        · refine lv_aload_n hx hb dX7_needs_40 rfl (lv_at hl 0 rfl) ?_
          refine lv_iload_n hx hb dX7_needs_41 rfl (lv_at hl 2 rfl) ?_
          refine lv_iload_n hx hb dX7_needs_42 rfl (lv_at hl 1 rfl) ?_
          refine k_X7_124 C hP hS (by assumption) (c_X7_needOf u2 u hM0 (by omega) (by omega) (hw.2.2.1 _ (by omega)) (hw.2.2.1 _ (by omega))) ⟨Nat.le_of_ble_eq_true rfl, Nat.le_of_ble_eq_true rfl⟩ ⟨Nat.zero_le _, Nat.zero_le _⟩ hl.1 (Nat.le_of_ble_eq_true rfl) dX7_needs_43 (fun v11 I12 H locs hv13 hP hS => ?_)
          obtain ⟨eI12, ev11⟩ := hv13
          rw [eI12] at hP
          clear eI12
          exact hret _ _ _ _ _ _ dX7_needs_46 hP hS (⟨rfl, by unfold sNeeds; rw [if_pos ⟨by assumption, by assumption⟩, if_neg (fun q => h9 (by rw [eu, eu2] at q; exact (nI_eq (by omega) (by omega)).mp q)), if_neg (by rw [eu, eu2, nI_toInt (by omega), nI_toInt (by omega)]; omega), cu, cu2]; exact ev11⟩)
        · refine lv_aload_n hx hb dX7_needs_31 rfl (lv_at hl 0 rfl) ?_
          refine lv_iload_n hx hb dX7_needs_32 rfl (lv_at hl 1 rfl) ?_
          refine lv_iload_n hx hb dX7_needs_33 rfl (lv_at hl 2 rfl) ?_
          refine k_X7_124 C hP hS (by assumption) (c_X7_needOf u u2 hM0 (by omega) (by omega) (hw.2.2.1 _ (by omega)) (hw.2.2.1 _ (by omega))) ⟨Nat.le_of_ble_eq_true rfl, Nat.le_of_ble_eq_true rfl⟩ ⟨Nat.zero_le _, Nat.zero_le _⟩ hl.1 (Nat.le_of_ble_eq_true rfl) dX7_needs_34 (fun v14 I15 H locs hv16 hP hS => ?_)
          obtain ⟨eI15, ev14⟩ := hv16
          rw [eI15] at hP
          clear eI15
          refine lv_goto (tgt := 46) hx hb dX7_needs_37 (by decide) ?_
          exact hret _ _ _ _ _ _ dX7_needs_46 hP hS (⟨rfl, by unfold sNeeds; rw [if_pos ⟨by assumption, by assumption⟩, if_neg (fun q => h9 (by rw [eu, eu2] at q; exact (nI_eq (by omega) (by omega)).mp q)), if_pos (by rw [eu, eu2, nI_toInt (by omega), nI_toInt (by omega)]; omega), cu, cu2]; exact ev14⟩)
      · refine lv_bipush (v := (-2)) hx hb dX7_needs_23 (by decide) ?_
        exact hret _ _ _ _ _ _ dX7_needs_25 hP hS (⟨rfl, by unfold sNeeds; rw [if_pos ⟨by assumption, by assumption⟩, if_pos (by rw [eu, eu2, h9])]⟩)
    · refine z_ne0 C dX7_needs_13 (tgt := 18) (by decide) ?_
      refine lv_iconst (v := (-1)) hx hb dX7_needs_16 (by decide) ?_
      exact hret _ _ _ _ _ _ dX7_needs_17 hP hS (⟨rfl, by unfold sNeeds; rw [if_neg (fun q => by first | exact absurd q.1 (by assumption) | exact absurd q.2 (by assumption))]⟩)
  · refine z_eq0 C dX7_needs_5 (tgt := 16) (by decide) ?_
    refine lv_iconst (v := (-1)) hx hb dX7_needs_16 (by decide) ?_
    exact hret _ _ _ _ _ _ dX7_needs_17 hP hS (⟨rfl, by unfold sNeeds; rw [if_neg (fun q => by first | exact absurd q.1 (by assumption) | exact absurd q.2 (by assumption))]⟩)
set_option maxHeartbeats 4000000 in
set_option maxRecDepth 100000 in
theorem c_X7_levelOf {l : Launch} {E : En} {K : Nat → Nat} {L : Nat → Nat → Bool} {ad : Nat → Nat} {I : Nat → Nat → Int32} (t : Nat) (hM : IsM K L) (hw : WF I) (ht : t < mn I) : MI l E K L ad I yX7_levelOf cX7_levelOf 4 (some .int) 4 [.ref (ad 10), .int (nI t)] (fun rv RJ => Sm I RJ ∧ rv = nI (lev I t)) := by
  have hM0 := hM
  obtain ⟨m0, ml1, ml2, ml3, ml4, ml5, ml6, ml7, ml8, ml9, ml10, ml11, ml12, ml13, ml14, ml15, ml16, ml17, ml21, ml25, ml26, mk1, mk2, mk3, mk4, mk5, mk6, mk7, mk8, mk9, mk10, mk11, mk12, mk13, mk14, mk15, mk16, mk17, mk21, mk25, mk26⟩ := hM
  have he := hw.1
  have hn8 := hw.2.1
  refine MI.of (by decide) (Nat.le_of_ble_eq_true rfl) ?_
  intro p ee s m args below meth c ls Qf C hret hP hl
  have C : Cx E p s m args c cX7_levelOf RX7 4 := C
  have hx := C.1
  have hb := C.2.1
  have hS : va_S (AG E) s.heap s.heap [] := va_S.rf
  have hl : lv_has ls 4 [(0, .ref (ad 10)), (1, .int (nI t))] := hl
  refine lv_iconst (v := nI 0) hx hb dX7_levelOf_0 (by decide) ?_
  refine lv_istore_n (lv' := [(2, .int (nI 0)), (0, .ref (ad 10)), (1, .int (nI t))]) hx hb dX7_levelOf_1 rfl hl (by decide) rfl (fun ls hl => ?_)
  have hL2_1 : ∀ (d : Nat) (k0 : Nat) (J : Mem) (H : Heap) (locs : List Loc) (ls : Array Slot), (t + 1) < k0 + d → (k0 ≤ t + 1) → (LVo I J k0) → Hp E K L ad J H → va_S (AG E) s.heap H locs → lv_has ls 4 [(0, .ref (ad 10)), (1, .int (nI t)), (2, .int (nI k0))] → W p l ee (rmk 4) s m args below meth c H locs 0 0 Qf (F0 m 2 ls []) := by
    intro d2
    induction d2 with
    | zero => intro k0 J H locs ls hd2 hk hc _ _ _; exact absurd hd2 (by omega)
    | succ d2 ih2 =>
      intro k0 J H locs ls hd2 hk hc hP hS hl
      refine lv_iload_n hx hb dX7_levelOf_2 rfl (lv_at hl 2 rfl) ?_
      refine lv_iload_n hx hb dX7_levelOf_3 rfl (lv_at hl 1 rfl) ?_
      refine b_gtN C (by omega) (by omega) dX7_levelOf_4 (tgt := 81) (by decide) (fun h2 => ?_) (fun h2 => ?_)
      · refine lv_aload_n hx hb dX7_levelOf_81 rfl (lv_at hl 0 rfl) ?_
        refine f_X7_37 (q := 20) C hP (by assumption) (by assumption) rfl dX7_levelOf_82 ?_
        refine lv_iload_n hx hb dX7_levelOf_85 rfl (lv_at hl 1 rfl) ?_
        refine r_iald (n := 8) C hP (by assumption) (by omega) (by decide) dX7_levelOf_86 ?_
        refine r_eqi (y := (nI (lev I t))) (hc.2 t (by omega)) ?_
        exact hret _ _ _ _ _ _ dX7_levelOf_87 hP hS (⟨fun a ha => hc.1 a (by omega), rfl⟩)
      · refine lv_aload_n hx hb dX7_levelOf_7 rfl (lv_at hl 0 rfl) ?_
        refine f_X7_37 (q := 20) C hP (by assumption) (by assumption) rfl dX7_levelOf_8 ?_
        refine lv_iload_n hx hb dX7_levelOf_11 rfl (lv_at hl 2 rfl) ?_
        refine lv_iconst (v := nI 0) hx hb dX7_levelOf_12 (by decide) ?_
        refine r_iast (n := 8) C hP hS (by assumption) (by omega) (by decide) dX7_levelOf_13 (fun H locs hP hS => ?_)
        obtain ⟨I3, eI3⟩ : ∃ Znew : Nat → Nat → Int32, Znew = up2 J 20 k0 (nI 0) := ⟨_, rfl⟩
        rw [← eI3] at hP
        refine lv_iconst (v := nI 0) hx hb dX7_levelOf_14 (by decide) ?_
        refine lv_istore_n (lv' := [(3, .int (nI 0)), (0, .ref (ad 10)), (1, .int (nI t)), (2, .int (nI k0))]) hx hb dX7_levelOf_15 rfl hl (by decide) rfl (fun ls hl => ?_)
        have hL16_4 : ∀ (d : Nat) (e0 : Nat) (Z : Mem) (H : Heap) (locs : List Loc) (ls : Array Slot), k0 < e0 + d → (e0 ≤ k0) → (LVi I Z k0 e0) → Hp E K L ad Z H → va_S (AG E) s.heap H locs → lv_has ls 4 [(0, .ref (ad 10)), (1, .int (nI t)), (2, .int (nI k0)), (3, .int (nI e0))] → W p l ee (rmk 4) s m args below meth c H locs 0 0 Qf (F0 m 16 ls []) := by
          intro d16
          induction d16 with
          | zero => intro e0 Z H locs ls hd16 he0 hz _ _ _; exact absurd hd16 (by omega)
          | succ d16 ih16 =>
            intro e0 Z H locs ls hd16 he0 hz hP hS hl
            refine lv_iload_n hx hb dX7_levelOf_16 rfl (lv_at hl 3 rfl) ?_
            refine lv_iload_n hx hb dX7_levelOf_17 rfl (lv_at hl 2 rfl) ?_
            refine b_geN C (by omega) (by omega) dX7_levelOf_18 (tgt := 75) (by decide) (fun h5 => ?_) (fun h5 => ?_)
            · refine lv_iinc (v := nI (k0 + 1)) (lv' := [(2, .int (nI (k0 + 1))), (0, .ref (ad 10)), (1, .int (nI t)), (3, .int (nI e0))]) hx hb dX7_levelOf_75 hl (k := 2) rfl (nI_1 _) (by decide) rfl (fun ls hl => ?_)
              refine lv_goto (tgt := 2) hx hb dX7_levelOf_78 (by decide) ?_
              exact ih2 (k0 + 1) Z _ _ _ (by omega) (by omega) (by rw [show e0 = k0 by omega] at hz; exact LVi_e hz) hP hS (lv_sub hl [1, 2, 0] rfl)
            · have hle := hz.1.2 e0 (by omega)
              have hlb := lev_le I 8 e0 (by omega)
              have hvb : lvP I k0 e0 ≤ 8 := mxF_le fun i hi => by have := lev_le I 8 i (by omega); split <;> omega
              refine lv_aload_n hx hb dX7_levelOf_21 rfl (lv_at hl 0 rfl) ?_
              refine f_X7_37 (q := 20) C hP (by assumption) (by assumption) rfl dX7_levelOf_22 ?_
              refine lv_iload_n hx hb dX7_levelOf_25 rfl (lv_at hl 2 rfl) ?_
              refine lv_aload_n hx hb dX7_levelOf_26 rfl (lv_at hl 0 rfl) ?_
              refine lv_iload_n hx hb dX7_levelOf_27 rfl (lv_at hl 3 rfl) ?_
              refine lv_iload_n hx hb dX7_levelOf_28 rfl (lv_at hl 2 rfl) ?_
              have hnd := nd_le I e0 k0
              refine k_X7_124 C hP hS (by assumption) (c_X7_needOf e0 k0 hM0 (by omega) (by omega) (WFt_cong (fun a h1 h2 => hz.1.1 a (by omega)) (hw.2.2.1 _ (by omega))) (WFt_cong (fun a h1 h2 => hz.1.1 a (by omega)) (hw.2.2.1 _ (by omega)))) ⟨Nat.le_of_ble_eq_true rfl, Nat.le_of_ble_eq_true rfl⟩ ⟨Nat.zero_le _, Nat.zero_le _⟩ hl.1 (Nat.le_of_ble_eq_true rfl) dX7_levelOf_29 (fun v6 I7 H locs hv8 hP hS => ?_)
              obtain ⟨eI7, ev6⟩ := hv8
              rw [eI7] at hP
              clear eI7
              refine r_eqi (y := nI (nd I e0 k0)) (ev6.trans (congrArg nI (nd_cong (fun a h1 h2 => hz.1.1 a (by omega))))) ?_
              refine lv_iconst (v := nI 1) hx hb dX7_levelOf_32 (by decide) ?_
              refine b_leN C (by omega) (by omega) dX7_levelOf_33 (tgt := 62) (by decide) (fun h9 => ?_) (fun h9 => ?_)
              · refine lv_aload_n hx hb dX7_levelOf_62 rfl (lv_at hl 0 rfl) ?_
                refine f_X7_37 (q := 20) C hP (by assumption) (by assumption) rfl dX7_levelOf_63 ?_
                refine lv_iload_n hx hb dX7_levelOf_66 rfl (lv_at hl 2 rfl) ?_
                refine r_iald (n := 8) C hP (by assumption) (by omega) (by decide) dX7_levelOf_67 ?_
                refine r_eqi (y := (nI (lvP I k0 e0))) (hz.2) ?_
                refine r_iast (n := 8) C hP hS (by assumption) (by omega) (by decide) dX7_levelOf_68 (fun H locs hP hS => ?_)
                obtain ⟨I10, eI10⟩ : ∃ Znew : Nat → Nat → Int32, Znew = up2 Z 20 k0 (nI (lvP I k0 e0)) := ⟨_, rfl⟩
                rw [← eI10] at hP
                refine lv_iinc (v := nI (e0 + 1)) (lv' := [(3, .int (nI (e0 + 1))), (0, .ref (ad 10)), (1, .int (nI t)), (2, .int (nI k0))]) hx hb dX7_levelOf_69 hl (k := 3) rfl (nI_1 _) (by decide) rfl (fun ls hl => ?_)
                refine lv_goto (tgt := 16) hx hb dX7_levelOf_72 (by decide) ?_
                exact ih16 (e0 + 1) I10 _ _ _ (by omega) (by omega) (by rw [eI10]; exact LVi_s hz (lvP_3 (by omega))) hP hS (lv_sub hl [1, 2, 3, 0] rfl)
              · refine lv_aload_n hx hb dX7_levelOf_36 rfl (lv_at hl 0 rfl) ?_
                refine f_X7_37 (q := 20) C hP (by assumption) (by assumption) rfl dX7_levelOf_37 ?_
                refine lv_iload_n hx hb dX7_levelOf_40 rfl (lv_at hl 3 rfl) ?_
                refine r_iald (n := 8) C hP (by assumption) (by omega) (by decide) dX7_levelOf_41 ?_
                refine r_eqi (y := (nI (lev I e0))) (hle) ?_
                refine lv_aload_n hx hb dX7_levelOf_42 rfl (lv_at hl 0 rfl) ?_
                refine f_X7_37 (q := 20) C hP (by assumption) (by assumption) rfl dX7_levelOf_43 ?_
                refine lv_iload_n hx hb dX7_levelOf_46 rfl (lv_at hl 2 rfl) ?_
                refine r_iald (n := 8) C hP (by assumption) (by omega) (by decide) dX7_levelOf_47 ?_
                refine r_eqi (y := (nI (lvP I k0 e0))) (hz.2) ?_
                refine b_ltN C (by omega) (by omega) dX7_levelOf_48 (tgt := 62) (by decide) (fun h11 => ?_) (fun h11 => ?_)
                · refine lv_aload_n hx hb dX7_levelOf_62 rfl (lv_at hl 0 rfl) ?_
                  refine f_X7_37 (q := 20) C hP (by assumption) (by assumption) rfl dX7_levelOf_63 ?_
                  refine lv_iload_n hx hb dX7_levelOf_66 rfl (lv_at hl 2 rfl) ?_
                  refine r_iald (n := 8) C hP (by assumption) (by omega) (by decide) dX7_levelOf_67 ?_
                  refine r_eqi (y := (nI (lvP I k0 e0))) (hz.2) ?_
                  refine r_iast (n := 8) C hP hS (by assumption) (by omega) (by decide) dX7_levelOf_68 (fun H locs hP hS => ?_)
                  obtain ⟨I12, eI12⟩ : ∃ Znew : Nat → Nat → Int32, Znew = up2 Z 20 k0 (nI (lvP I k0 e0)) := ⟨_, rfl⟩
                  rw [← eI12] at hP
                  refine lv_iinc (v := nI (e0 + 1)) (lv' := [(3, .int (nI (e0 + 1))), (0, .ref (ad 10)), (1, .int (nI t)), (2, .int (nI k0))]) hx hb dX7_levelOf_69 hl (k := 3) rfl (nI_1 _) (by decide) rfl (fun ls hl => ?_)
                  refine lv_goto (tgt := 16) hx hb dX7_levelOf_72 (by decide) ?_
                  exact ih16 (e0 + 1) I12 _ _ _ (by omega) (by omega) (by rw [eI12]; exact LVi_s hz (lvP_2 (by omega))) hP hS (lv_sub hl [1, 2, 3, 0] rfl)
                · refine lv_aload_n hx hb dX7_levelOf_51 rfl (lv_at hl 0 rfl) ?_
                  refine f_X7_37 (q := 20) C hP (by assumption) (by assumption) rfl dX7_levelOf_52 ?_
                  refine lv_iload_n hx hb dX7_levelOf_55 rfl (lv_at hl 3 rfl) ?_
                  refine r_iald (n := 8) C hP (by assumption) (by omega) (by decide) dX7_levelOf_56 ?_
                  refine r_eqi (y := (nI (lev I e0))) (hle) ?_
                  refine lv_iconst (v := nI 1) hx hb dX7_levelOf_57 (by decide) ?_
                  refine r_addN C dX7_levelOf_58 ?_
                  refine lv_goto (tgt := 68) hx hb dX7_levelOf_59 (by decide) ?_
                  refine r_iast (n := 8) C hP hS (by assumption) (by omega) (by decide) dX7_levelOf_68 (fun H locs hP hS => ?_)
                  obtain ⟨I13, eI13⟩ : ∃ Znew : Nat → Nat → Int32, Znew = up2 Z 20 k0 (nI ((lev I e0) + 1)) := ⟨_, rfl⟩
                  rw [← eI13] at hP
                  refine lv_iinc (v := nI (e0 + 1)) (lv' := [(3, .int (nI (e0 + 1))), (0, .ref (ad 10)), (1, .int (nI t)), (2, .int (nI k0))]) hx hb dX7_levelOf_69 hl (k := 3) rfl (nI_1 _) (by decide) rfl (fun ls hl => ?_)
                  refine lv_goto (tgt := 16) hx hb dX7_levelOf_72 (by decide) ?_
                  exact ih16 (e0 + 1) I13 _ _ _ (by omega) (by omega) (by rw [eI13]; exact LVi_s hz (lvP_1 (by omega) (by omega))) hP hS (lv_sub hl [1, 2, 3, 0] rfl)
        exact hL16_4 (k0 + 1) 0 I3 _ _ _ (by omega) (by omega) (by rw [eI3]; exact ⟨⟨fun a ha => by rw [up2_r ha]; exact hc.1 a ha, fun i hi => by rw [up2_k (by omega)]; exact hc.2 i hi⟩, by rw [up2_s]; rfl⟩) hP hS (lv_sub hl [1, 2, 3, 0] rfl)
  exact hL2_1 ((t + 1) + 1) 0 I _ _ _ (by omega) (by omega) (⟨fun _ _ => rfl, lt_0⟩) hP hS (lv_sub hl [1, 2, 0] rfl)
set_option maxHeartbeats 4000000 in
set_option maxRecDepth 100000 in
theorem c_X7_pack {l : Launch} {E : En} {K : Nat → Nat} {L : Nat → Nat → Bool} {ad : Nat → Nat} {I : Nat → Nat → Int32}  (hM : IsM K L) (hw : WF I) : MI l E K L ad I yX7_pack cX7_pack 6 (some .boolean) 4 [.ref (ad 10)] (fun rv RJ => (rv = 1 ∧ ∃ pl, PKM I RJ (mn I) pl) ∨ (rv = 0 ∧ Sm I RJ ∧ pkS I (mn I) = none)) := by
  have hM0 := hM
  obtain ⟨m0, ml1, ml2, ml3, ml4, ml5, ml6, ml7, ml8, ml9, ml10, ml11, ml12, ml13, ml14, ml15, ml16, ml17, ml21, ml25, ml26, mk1, mk2, mk3, mk4, mk5, mk6, mk7, mk8, mk9, mk10, mk11, mk12, mk13, mk14, mk15, mk16, mk17, mk21, mk25, mk26⟩ := hM
  have he := hw.1
  have hn8 := hw.2.1
  obtain ⟨hu, hu0, hu1, hu2, hu3⟩ := wf_ru hw
  refine MZ.of (by decide) (Nat.le_of_ble_eq_true rfl) ?_
  intro p ee s m args below meth c ls Qf C hret hP hl
  have C : Cx E p s m args c cX7_pack RX7 6 := C
  have hx := C.1
  have hb := C.2.1
  have hS : va_S (AG E) s.heap s.heap [] := va_S.rf
  have hl : lv_has ls 6 [(0, .ref (ad 10))] := hl
  refine lv_iconst (v := nI 0) hx hb dX7_pack_0 (by decide) ?_
  refine lv_istore_n (lv' := [(1, .int (nI 0)), (0, .ref (ad 10))]) hx hb dX7_pack_1 rfl hl (by decide) rfl (fun ls hl => ?_)
  have hL2_1 : ∀ (d : Nat) (j : Nat) (J : Mem) (H : Heap) (locs : List Loc) (ls : Array Slot), 8 < j + d → (j ≤ 8) → ((∀ a, a < 22 ∨ 23 < a → J a = I a) ∧ ∀ z, z < j → J 22 z = nI 0 ∧ J 23 z = nI 0) → Hp E K L ad J H → va_S (AG E) s.heap H locs → lv_has ls 6 [(0, .ref (ad 10)), (1, .int (nI j))] → W p l ee (rmk 4) s m args below meth c H locs 0 0 Qf (F0 m 2 ls []) := by
    intro d2
    induction d2 with
    | zero => intro j J H locs ls hd2 hj hc _ _ _; exact absurd hd2 (by omega)
    | succ d2 ih2 =>
      intro j J H locs ls hd2 hj hc hP hS hl
      refine lv_iload_n hx hb dX7_pack_2 rfl (lv_at hl 1 rfl) ?_
      refine lv_bipush (v := nI 8) hx hb dX7_pack_3 (by decide) ?_
      refine b_geN C (by omega) (by omega) dX7_pack_5 (tgt := 28) (by decide) (fun h2 => ?_) (fun h2 => ?_)
      · refine lv_iconst (v := nI 0) hx hb dX7_pack_28 (by decide) ?_
        refine lv_istore_n (lv' := [(1, .int (nI 0)), (0, .ref (ad 10))]) hx hb dX7_pack_29 rfl hl (by decide) rfl (fun ls hl => ?_)
        have hL30_3 : ∀ (d : Nat) (t : Nat) (pl : Nat → Nat) (Z : Mem) (H : Heap) (locs : List Loc) (ls : Array Slot), mn I < t + d → (t ≤ mn I) → (PKM I Z t pl) → Hp E K L ad Z H → va_S (AG E) s.heap H locs → lv_has ls 6 [(0, .ref (ad 10)), (1, .int (nI t))] → W p l ee (rmk 4) s m args below meth c H locs 0 0 Qf (F0 m 30 ls []) := by
          intro d30
          induction d30 with
          | zero => intro t pl Z H locs ls hd30 ht hz _ _ _; exact absurd hd30 (by omega)
          | succ d30 ih30 =>
            intro t pl Z H locs ls hd30 ht hz hP hS hl
            have hZ0 : Z 10 0 = nI (mn I) := by rw [hz.2.1 10 (by decide)]; exact he
            have hZ19 : Z 19 = I 19 := hz.2.1 19 (by decide)
            refine lv_iload_n hx hb dX7_pack_30 rfl (lv_at hl 1 rfl) ?_
            refine lv_aload_n hx hb dX7_pack_31 rfl (lv_at hl 0 rfl) ?_
            refine f_X7_71 C hP (by first | assumption | exact hKa _ (by omega)) dX7_pack_32 ?_
            refine r_eqi (y := (nI (mn I))) (hZ0) ?_
            refine b_geN C (by omega) (by omega) dX7_pack_35 (tgt := 210) (by decide) (fun h4 => ?_) (fun h4 => ?_)
            · refine lv_iconst (v := nI 1) hx hb dX7_pack_210 (by decide) ?_
              exact hret _ _ _ _ _ _ dX7_pack_211 hP hS (by first | rfl | (rcases hbv with rfl | rfl <;> rfl)) (Or.inl ⟨rfl, pl, by rw [show mn I = t by omega]; exact hz⟩)
            · refine lv_iconst (v := nI 0) hx hb dX7_pack_38 (by decide) ?_
              refine lv_istore_n (lv' := [(2, .int (nI 0)), (0, .ref (ad 10)), (1, .int (nI t))]) hx hb dX7_pack_39 rfl hl (by decide) rfl (fun ls hl => ?_)
              refine lv_iconst (v := nI 0) hx hb dX7_pack_40 (by decide) ?_
              refine lv_istore_n (lv' := [(3, .int (nI 0)), (2, .int (nI 0)), (0, .ref (ad 10)), (1, .int (nI t))]) hx hb dX7_pack_41 rfl hl (by decide) rfl (fun ls hl => ?_)
              have hL42_5 : ∀ (d : Nat) (e0 : Nat) (a : Nat) (H : Heap) (locs : List Loc) (ls : Array Slot), t < e0 + d → (e0 ≤ t) → (a = lsP I pl t e0) → (a ≤ 8) → Hp E K L ad Z H → va_S (AG E) s.heap H locs → lv_has ls 6 [(0, .ref (ad 10)), (1, .int (nI t)), (2, .int (nI a)), (3, .int (nI e0))] → W p l ee (rmk 4) s m args below meth c H locs 0 0 Qf (F0 m 42 ls []) := by
                intro d42
                induction d42 with
                | zero => intro e0 a H locs ls hd42 he0 ha ha8 _ _ _; exact absurd hd42 (by omega)
                | succ d42 ih42 =>
                  intro e0 a H locs ls hd42 he0 ha ha8 hP hS hl
                  refine lv_iload_n hx hb dX7_pack_42 rfl (lv_at hl 3 rfl) ?_
                  refine lv_iload_n hx hb dX7_pack_43 rfl (lv_at hl 1 rfl) ?_
                  refine b_geN C (by omega) (by omega) dX7_pack_44 (tgt := 109) (by decide) (fun h6 => ?_) (fun h6 => ?_)
                  · have hL109_7 : ∀ (d : Nat) (z : Nat) (H : Heap) (locs : List Loc) (ls : Array Slot), 8 < z + d → (lsP I pl t t ≤ z) → (z ≤ 8) → (∀ b, lsP I pl t t ≤ b → b < z → ¬ ftS I pl t b) → Hp E K L ad Z H → va_S (AG E) s.heap H locs → lv_has ls 6 [(0, .ref (ad 10)), (1, .int (nI t)), (2, .int (nI z))] → W p l ee (rmk 4) s m args below meth c H locs 0 0 Qf (F0 m 109 ls []) := by
                      intro d109
                      induction d109 with
                      | zero => intro z H locs ls hd109 h0 hz8 hno _ _ _; exact absurd hd109 (by omega)
                      | succ d109 ih109 =>
                        intro z H locs ls hd109 h0 hz8 hno hP hS hl
                        refine lv_iload_n hx hb dX7_pack_109 rfl (lv_at hl 2 rfl) ?_
                        refine lv_aload_n hx hb dX7_pack_110 rfl (lv_at hl 0 rfl) ?_
                        refine f_X7_34 (q := 19) C hP (by assumption) (by assumption) rfl dX7_pack_111 ?_
                        refine lv_iconst (v := nI 2) hx hb dX7_pack_114 (by decide) ?_
                        refine r_iald (n := 4) C hP (by assumption) (by omega) (by decide) dX7_pack_115 ?_
                        refine r_eqi (y := (nI (ru I 2))) (by rw [hZ19]; exact hu 2 (by decide)) ?_
                        refine b_geN C (by omega) (by omega) dX7_pack_116 (tgt := 161) (by decide) (fun h8 => ?_) (fun h8 => ?_)
                        · refine lv_iload_n hx hb dX7_pack_161 rfl (lv_at hl 2 rfl) ?_
                          refine lv_aload_n hx hb dX7_pack_162 rfl (lv_at hl 0 rfl) ?_
                          refine f_X7_34 (q := 19) C hP (by assumption) (by assumption) rfl dX7_pack_163 ?_
                          refine lv_iconst (v := nI 2) hx hb dX7_pack_166 (by decide) ?_
                          refine r_iald (n := 4) C hP (by assumption) (by omega) (by decide) dX7_pack_167 ?_
                          refine r_eqi (y := (nI (ru I 2))) (by rw [hZ19]; exact hu 2 (by decide)) ?_
                          refine b_ltN C (by omega) (by omega) dX7_pack_168 (tgt := 173) (by decide) (fun h9 => ?_) (fun h9 => ?_)
                          · exact absurd h9 (by omega)
                          · refine lv_iconst (v := nI 0) hx hb dX7_pack_171 (by decide) ?_
                            exact hret _ _ _ _ _ _ dX7_pack_172 hP hS (by first | rfl | (rcases hbv with rfl | rfl <;> rfl)) (Or.inr ⟨rfl, fun a ha => hz.2.1 a (by omega), pkS_none_le (pkS_no hz.1 (srch_miss _ _ (fun b h1 h2 => hno b h1 (by omega)))) (by omega)⟩)
                        · obtain ⟨g1, g2, g3⟩ := hz.2.2.2 z (by omega)
                          have hsz : szP I pl z t ≤ 5 * t := szP_le fun e he => (hw.2.2.1 e (by omega)).2.1
                          have hWt := hw.2.2.1 t (by omega)
                          have het := hWt.2.1
                          have hZ12 : Z 12 t = nI (en I t) := by rw [hz.2.1 12 (by decide)]; exact hWt.1
                          refine lv_aload_n hx hb dX7_pack_119 rfl (lv_at hl 0 rfl) ?_
                          refine f_X7_43 (q := 22) C hP (by assumption) (by assumption) rfl dX7_pack_120 ?_
                          refine lv_iload_n hx hb dX7_pack_123 rfl (lv_at hl 2 rfl) ?_
                          refine r_iald (n := 8) C hP (by assumption) (by omega) (by decide) dX7_pack_124 ?_
                          refine r_eqi (y := (nI (cn (atF pl z) t))) (g1) ?_
                          refine lv_aload_n hx hb dX7_pack_125 rfl (lv_at hl 0 rfl) ?_
                          refine f_X7_34 (q := 19) C hP (by assumption) (by assumption) rfl dX7_pack_126 ?_
                          refine lv_iconst (v := nI 1) hx hb dX7_pack_129 (by decide) ?_
                          refine r_iald (n := 4) C hP (by assumption) (by omega) (by decide) dX7_pack_130 ?_
                          refine r_eqi (y := (nI (ru I 1))) (by rw [hZ19]; exact hu 1 (by decide)) ?_
                          refine b_eqN C (by omega) (by omega) dX7_pack_131 (tgt := 155) (by decide) (fun h10 => ?_) (fun h10 => ?_)
                          · refine lv_iinc (v := nI (z + 1)) (lv' := [(2, .int (nI (z + 1))), (0, .ref (ad 10)), (1, .int (nI t))]) hx hb dX7_pack_155 hl (k := 2) rfl (nI_1 _) (by decide) rfl (fun ls hl => ?_)
                            refine lv_goto (tgt := 109) hx hb dX7_pack_158 (by decide) ?_
                            exact ih109 (z + 1) _ _ _ (by omega) (by omega) (by omega) (fun b h1 h2 => if q : b = z then by subst q; unfold ftS; omega else hno b h1 (by omega)) hP hS (lv_sub hl [1, 2, 0] rfl)
                          · refine lv_aload_n hx hb dX7_pack_134 rfl (lv_at hl 0 rfl) ?_
                            refine f_X7_46 (q := 23) C hP (by assumption) (by assumption) rfl dX7_pack_135 ?_
                            refine lv_iload_n hx hb dX7_pack_138 rfl (lv_at hl 2 rfl) ?_
                            refine r_iald (n := 8) C hP (by assumption) (by omega) (by decide) dX7_pack_139 ?_
                            refine r_eqi (y := (nI (szP I pl z t))) (g2) ?_
                            refine lv_aload_n hx hb dX7_pack_140 rfl (lv_at hl 0 rfl) ?_
                            refine lv_iload_n hx hb dX7_pack_141 rfl (lv_at hl 1 rfl) ?_
                            refine k_X7_127 C hP hS (by assumption) (c_X7_sizeOf t (en I t) hM0 (by omega) (hZ12)) ⟨Nat.le_of_ble_eq_true rfl, Nat.le_of_ble_eq_true rfl⟩ ⟨Nat.zero_le _, Nat.zero_le _⟩ hl.1 (Nat.le_of_ble_eq_true rfl) dX7_pack_142 (fun v11 I12 H locs hv13 hP hS => ?_)
                            obtain ⟨eI12, ev11⟩ := hv13
                            rw [eI12] at hP
                            clear eI12
                            refine r_eqi ev11 ?_
                            refine r_addN C dX7_pack_145 ?_
                            refine lv_aload_n hx hb dX7_pack_146 rfl (lv_at hl 0 rfl) ?_
                            refine f_X7_34 (q := 19) C hP (by assumption) (by assumption) rfl dX7_pack_147 ?_
                            refine lv_iconst (v := nI 0) hx hb dX7_pack_150 (by decide) ?_
                            refine r_iald (n := 4) C hP (by assumption) (by omega) (by decide) dX7_pack_151 ?_
                            refine r_eqi (y := (nI (ru I 0))) (by rw [hZ19]; exact hu 0 (by decide)) ?_
                            refine b_leN C (by omega) (by omega) dX7_pack_152 (tgt := 161) (by decide) (fun h14 => ?_) (fun h14 => ?_)
                            · refine lv_iload_n hx hb dX7_pack_161 rfl (lv_at hl 2 rfl) ?_
                              refine lv_aload_n hx hb dX7_pack_162 rfl (lv_at hl 0 rfl) ?_
                              refine f_X7_34 (q := 19) C hP (by assumption) (by assumption) rfl dX7_pack_163 ?_
                              refine lv_iconst (v := nI 2) hx hb dX7_pack_166 (by decide) ?_
                              refine r_iald (n := 4) C hP (by assumption) (by omega) (by decide) dX7_pack_167 ?_
                              refine r_eqi (y := (nI (ru I 2))) (by rw [hZ19]; exact hu 2 (by decide)) ?_
                              refine b_ltN C (by omega) (by omega) dX7_pack_168 (tgt := 173) (by decide) (fun h15 => ?_) (fun h15 => ?_)
                              · refine lv_aload_n hx hb dX7_pack_173 rfl (lv_at hl 0 rfl) ?_
                                refine f_X7_40 (q := 21) C hP (by assumption) (by assumption) rfl dX7_pack_174 ?_
                                refine lv_iload_n hx hb dX7_pack_177 rfl (lv_at hl 1 rfl) ?_
                                refine lv_iload_n hx hb dX7_pack_178 rfl (lv_at hl 2 rfl) ?_
                                refine r_iast (n := 8) C hP hS (by assumption) (by omega) (by decide) dX7_pack_179 (fun H locs hP hS => ?_)
                                obtain ⟨I16, eI16⟩ : ∃ Znew : Nat → Nat → Int32, Znew = up2 Z 21 t (nI z) := ⟨_, rfl⟩
                                rw [← eI16] at hP
                                refine lv_aload_n hx hb dX7_pack_180 rfl (lv_at hl 0 rfl) ?_
                                refine f_X7_43 (q := 22) C hP (by assumption) (by assumption) rfl dX7_pack_181 ?_
                                refine lv_iload_n hx hb dX7_pack_184 rfl (lv_at hl 2 rfl) ?_
                                refine lv_dup2_11 hx hb dX7_pack_185 rfl rfl ?_
                                refine r_iald (n := 8) C hP (by assumption) (by omega) (by decide) dX7_pack_186 ?_
                                refine r_eqi (y := (nI (cn (atF pl z) t))) (by rw [eI16, up2_r (by decide)]; exact g1) ?_
                                refine lv_iconst (v := nI 1) hx hb dX7_pack_187 (by decide) ?_
                                refine r_addN C dX7_pack_188 ?_
                                refine r_iast (n := 8) C hP hS (by assumption) (by omega) (by decide) dX7_pack_189 (fun H locs hP hS => ?_)
                                obtain ⟨I17, eI17⟩ : ∃ Znew : Nat → Nat → Int32, Znew = up2 I16 22 z (nI ((cn (atF pl z) t) + 1)) := ⟨_, rfl⟩
                                rw [← eI17] at hP
                                refine lv_aload_n hx hb dX7_pack_190 rfl (lv_at hl 0 rfl) ?_
                                refine f_X7_46 (q := 23) C hP (by assumption) (by assumption) rfl dX7_pack_191 ?_
                                refine lv_iload_n hx hb dX7_pack_194 rfl (lv_at hl 2 rfl) ?_
                                refine lv_dup2_11 hx hb dX7_pack_195 rfl rfl ?_
                                refine r_iald (n := 8) C hP (by assumption) (by omega) (by decide) dX7_pack_196 ?_
                                refine r_eqi (y := (nI (szP I pl z t))) (by rw [eI17, up2_r (by decide)]; exact (by rw [eI16, up2_r (by decide)]; exact g2)) ?_
                                refine lv_aload_n hx hb dX7_pack_197 rfl (lv_at hl 0 rfl) ?_
                                refine lv_iload_n hx hb dX7_pack_198 rfl (lv_at hl 1 rfl) ?_
                                refine k_X7_127 C hP hS (by assumption) (c_X7_sizeOf t (en I t) hM0 (by omega) (by subst_vars; rw [up2_r (by decide), up2_r (by decide)]; exact hZ12)) ⟨Nat.le_of_ble_eq_true rfl, Nat.le_of_ble_eq_true rfl⟩ ⟨Nat.zero_le _, Nat.zero_le _⟩ hl.1 (Nat.le_of_ble_eq_true rfl) dX7_pack_199 (fun v18 I19 H locs hv20 hP hS => ?_)
                                obtain ⟨eI19, ev18⟩ := hv20
                                rw [eI19] at hP
                                clear eI19
                                refine r_eqi ev18 ?_
                                refine r_addN C dX7_pack_202 ?_
                                refine r_iast (n := 8) C hP hS (by assumption) (by omega) (by decide) dX7_pack_203 (fun H locs hP hS => ?_)
                                obtain ⟨I21, eI21⟩ : ∃ Znew : Nat → Nat → Int32, Znew = up2 I17 23 z (nI ((szP I pl z t) + (en I t + 1))) := ⟨_, rfl⟩
                                rw [← eI21] at hP
                                refine lv_iinc (v := nI (t + 1)) (lv' := [(1, .int (nI (t + 1))), (0, .ref (ad 10)), (2, .int (nI z))]) hx hb dX7_pack_204 hl (k := 1) rfl (nI_1 _) (by decide) rfl (fun ls hl => ?_)
                                refine lv_goto (tgt := 30) hx hb dX7_pack_207 (by decide) ?_
                                exact ih30 (t + 1) (fun i => if i = t then z else pl i) I21 _ _ _ (by omega) (by omega) (by have hst := PKM_s hz (by omega) (by omega) (srch_hit _ _ z h0 (by omega) ⟨by omega, by omega⟩ hno) (by omega); subst_vars; exact hst) hP hS (lv_sub hl [1, 0] rfl)
                              · exact absurd h15 (by omega)
                            · refine lv_iinc (v := nI (z + 1)) (lv' := [(2, .int (nI (z + 1))), (0, .ref (ad 10)), (1, .int (nI t))]) hx hb dX7_pack_155 hl (k := 2) rfl (nI_1 _) (by decide) rfl (fun ls hl => ?_)
                              refine lv_goto (tgt := 109) hx hb dX7_pack_158 (by decide) ?_
                              exact ih109 (z + 1) _ _ _ (by omega) (by omega) (by omega) (fun b h1 h2 => if q : b = z then by subst q; unfold ftS; omega else hno b h1 (by omega)) hP hS (lv_sub hl [1, 2, 0] rfl)
                    exact hL109_7 (8 + 1) a _ _ _ (by omega) (by rw [ha, show e0 = t by omega]; exact Nat.le_refl _) (by omega) (fun b h1 h2 => absurd h1 (by rw [ha, show e0 = t by omega] at h2; omega)) hP hS (lv_sub hl [0, 1, 2] rfl)
                  · refine lv_aload_n hx hb dX7_pack_47 rfl (lv_at hl 0 rfl) ?_
                    refine lv_iload_n hx hb dX7_pack_48 rfl (lv_at hl 3 rfl) ?_
                    refine lv_iload_n hx hb dX7_pack_49 rfl (lv_at hl 1 rfl) ?_
                    have hnd := nd_le I e0 t
                    refine k_X7_124 C hP hS (by assumption) (c_X7_needOf e0 t hM0 (by omega) (by omega) (WFt_cong (fun a h1 h2 => hz.2.1 a (by omega)) (hw.2.2.1 _ (by omega))) (WFt_cong (fun a h1 h2 => hz.2.1 a (by omega)) (hw.2.2.1 _ (by omega)))) ⟨Nat.le_of_ble_eq_true rfl, Nat.le_of_ble_eq_true rfl⟩ ⟨Nat.zero_le _, Nat.zero_le _⟩ hl.1 (Nat.le_of_ble_eq_true rfl) dX7_pack_50 (fun v22 I23 H locs hv24 hP hS => ?_)
                    obtain ⟨eI23, ev22⟩ := hv24
                    rw [eI23] at hP
                    clear eI23
                    refine r_eqi (y := nI (nd I e0 t)) (ev22.trans (congrArg nI (nd_cong (fun a h1 h2 => hz.2.1 a (by omega))))) ?_
                    refine lv_istore (lv' := [(4, .int (nI (nd I e0 t))), (0, .ref (ad 10)), (1, .int (nI t)), (2, .int (nI a)), (3, .int (nI e0))]) hx hb dX7_pack_53 hl (by decide) rfl (fun ls hl => ?_)
                    have hpe := hz.2.2.1 e0 (by omega)
                    refine lv_iload hx hb dX7_pack_55 (lv_at hl 0 rfl) ?_
                    refine lv_iconst (v := nI 1) hx hb dX7_pack_57 (by decide) ?_
                    refine b_leN C (by omega) (by omega) dX7_pack_58 (tgt := 72) (by decide) (fun h25 => ?_) (fun h25 => ?_)
                    · refine lv_iload hx hb dX7_pack_72 (lv_at hl 0 rfl) ?_
                      refine lv_iconst (v := nI 1) hx hb dX7_pack_74 (by decide) ?_
                      refine b_neN C (by omega) (by omega) dX7_pack_75 (tgt := 87) (by decide) (fun h26 => ?_) (fun h26 => ?_)
                      · refine lv_iconst (v := nI 0) hx hb dX7_pack_87 (by decide) ?_
                        refine lv_istore (lv' := [(5, .int (nI 0)), (4, .int (nI (nd I e0 t))), (0, .ref (ad 10)), (1, .int (nI t)), (2, .int (nI a)), (3, .int (nI e0))]) hx hb dX7_pack_88 hl (by decide) rfl (fun ls hl => ?_)
                        refine lv_iload hx hb dX7_pack_90 (lv_at hl 0 rfl) ?_
                        refine lv_iload_n hx hb dX7_pack_92 rfl (lv_at hl 4 rfl) ?_
                        refine b_leN C (by omega) (by omega) dX7_pack_93 (tgt := 101) (by decide) (fun h27 => ?_) (fun h27 => ?_)
                        · refine lv_iload_n hx hb dX7_pack_101 rfl (lv_at hl 4 rfl) ?_
                          refine lv_istore_n (lv' := [(2, .int (nI a)), (5, .int (nI 0)), (4, .int (nI (nd I e0 t))), (0, .ref (ad 10)), (1, .int (nI t)), (3, .int (nI e0))]) hx hb dX7_pack_102 rfl hl (by decide) rfl (fun ls hl => ?_)
                          refine lv_iinc (v := nI (e0 + 1)) (lv' := [(3, .int (nI (e0 + 1))), (2, .int (nI a)), (5, .int (nI 0)), (4, .int (nI (nd I e0 t))), (0, .ref (ad 10)), (1, .int (nI t))]) hx hb dX7_pack_103 hl (k := 5) rfl (nI_1 _) (by decide) rfl (fun ls hl => ?_)
                          refine lv_goto (tgt := 42) hx hb dX7_pack_106 (by decide) ?_
                          exact ih42 (e0 + 1) a _ _ _ (by omega) (by omega) (by unfold lsP at ha ⊢; simp only [mxF]; rw [if_neg (by omega), if_neg (by omega)]; omega) (by omega) hP hS (lv_sub hl [4, 5, 1, 0] rfl)
                        · refine lv_iload hx hb dX7_pack_96 (lv_at hl 0 rfl) ?_
                          refine lv_goto (tgt := 102) hx hb dX7_pack_98 (by decide) ?_
                          refine lv_istore_n (lv' := [(2, .int (nI 0)), (5, .int (nI 0)), (4, .int (nI (nd I e0 t))), (0, .ref (ad 10)), (1, .int (nI t)), (3, .int (nI e0))]) hx hb dX7_pack_102 rfl hl (by decide) rfl (fun ls hl => ?_)
                          refine lv_iinc (v := nI (e0 + 1)) (lv' := [(3, .int (nI (e0 + 1))), (2, .int (nI 0)), (5, .int (nI 0)), (4, .int (nI (nd I e0 t))), (0, .ref (ad 10)), (1, .int (nI t))]) hx hb dX7_pack_103 hl (k := 5) rfl (nI_1 _) (by decide) rfl (fun ls hl => ?_)
                          refine lv_goto (tgt := 42) hx hb dX7_pack_106 (by decide) ?_
                          exact ih42 (e0 + 1) 0 _ _ _ (by omega) (by omega) (by unfold lsP at ha ⊢; simp only [mxF]; rw [if_neg (by omega), if_neg (by omega)]; omega) (by omega) hP hS (lv_sub hl [4, 5, 1, 0] rfl)
                      · refine lv_aload_n hx hb dX7_pack_78 rfl (lv_at hl 1 rfl) ?_
                        refine f_X7_40 (q := 21) C hP (by assumption) (by assumption) rfl dX7_pack_79 ?_
                        refine lv_iload_n hx hb dX7_pack_82 rfl (lv_at hl 4 rfl) ?_
                        refine r_iald (n := 8) C hP (by assumption) (by omega) (by decide) dX7_pack_83 ?_
                        refine r_eqi (y := (nI (pl e0))) (hpe.1) ?_
                        refine lv_goto (tgt := 88) hx hb dX7_pack_84 (by decide) ?_
                        refine lv_istore (lv' := [(5, .int (nI (pl e0))), (4, .int (nI (nd I e0 t))), (0, .ref (ad 10)), (1, .int (nI t)), (2, .int (nI a)), (3, .int (nI e0))]) hx hb dX7_pack_88 hl (by decide) rfl (fun ls hl => ?_)
                        refine lv_iload hx hb dX7_pack_90 (lv_at hl 0 rfl) ?_
                        refine lv_iload_n hx hb dX7_pack_92 rfl (lv_at hl 4 rfl) ?_
                        refine b_leN C (by omega) (by omega) dX7_pack_93 (tgt := 101) (by decide) (fun h28 => ?_) (fun h28 => ?_)
                        · refine lv_iload_n hx hb dX7_pack_101 rfl (lv_at hl 4 rfl) ?_
                          refine lv_istore_n (lv' := [(2, .int (nI a)), (5, .int (nI (pl e0))), (4, .int (nI (nd I e0 t))), (0, .ref (ad 10)), (1, .int (nI t)), (3, .int (nI e0))]) hx hb dX7_pack_102 rfl hl (by decide) rfl (fun ls hl => ?_)
                          refine lv_iinc (v := nI (e0 + 1)) (lv' := [(3, .int (nI (e0 + 1))), (2, .int (nI a)), (5, .int (nI (pl e0))), (4, .int (nI (nd I e0 t))), (0, .ref (ad 10)), (1, .int (nI t))]) hx hb dX7_pack_103 hl (k := 5) rfl (nI_1 _) (by decide) rfl (fun ls hl => ?_)
                          refine lv_goto (tgt := 42) hx hb dX7_pack_106 (by decide) ?_
                          exact ih42 (e0 + 1) a _ _ _ (by omega) (by omega) (by unfold lsP at ha ⊢; simp only [mxF]; rw [if_neg (by omega), if_pos (by omega)]; omega) (by omega) hP hS (lv_sub hl [4, 5, 1, 0] rfl)
                        · refine lv_iload hx hb dX7_pack_96 (lv_at hl 0 rfl) ?_
                          refine lv_goto (tgt := 102) hx hb dX7_pack_98 (by decide) ?_
                          refine lv_istore_n (lv' := [(2, .int (nI (pl e0))), (5, .int (nI (pl e0))), (4, .int (nI (nd I e0 t))), (0, .ref (ad 10)), (1, .int (nI t)), (3, .int (nI e0))]) hx hb dX7_pack_102 rfl hl (by decide) rfl (fun ls hl => ?_)
                          refine lv_iinc (v := nI (e0 + 1)) (lv' := [(3, .int (nI (e0 + 1))), (2, .int (nI (pl e0))), (5, .int (nI (pl e0))), (4, .int (nI (nd I e0 t))), (0, .ref (ad 10)), (1, .int (nI t))]) hx hb dX7_pack_103 hl (k := 5) rfl (nI_1 _) (by decide) rfl (fun ls hl => ?_)
                          refine lv_goto (tgt := 42) hx hb dX7_pack_106 (by decide) ?_
                          exact ih42 (e0 + 1) (pl e0) _ _ _ (by omega) (by omega) (by unfold lsP at ha ⊢; simp only [mxF]; rw [if_neg (by omega), if_pos (by omega)]; omega) (by omega) hP hS (lv_sub hl [4, 5, 1, 0] rfl)
                    · refine lv_aload_n hx hb dX7_pack_61 rfl (lv_at hl 1 rfl) ?_
                      refine f_X7_40 (q := 21) C hP (by assumption) (by assumption) rfl dX7_pack_62 ?_
                      refine lv_iload_n hx hb dX7_pack_65 rfl (lv_at hl 4 rfl) ?_
                      refine r_iald (n := 8) C hP (by assumption) (by omega) (by decide) dX7_pack_66 ?_
                      refine r_eqi (y := (nI (pl e0))) (hpe.1) ?_
                      refine lv_iconst (v := nI 1) hx hb dX7_pack_67 (by decide) ?_
                      refine r_addN C dX7_pack_68 ?_
                      refine lv_goto (tgt := 88) hx hb dX7_pack_69 (by decide) ?_
                      refine lv_istore (lv' := [(5, .int (nI ((pl e0) + 1))), (4, .int (nI (nd I e0 t))), (0, .ref (ad 10)), (1, .int (nI t)), (2, .int (nI a)), (3, .int (nI e0))]) hx hb dX7_pack_88 hl (by decide) rfl (fun ls hl => ?_)
                      refine lv_iload hx hb dX7_pack_90 (lv_at hl 0 rfl) ?_
                      refine lv_iload_n hx hb dX7_pack_92 rfl (lv_at hl 4 rfl) ?_
                      refine b_leN C (by omega) (by omega) dX7_pack_93 (tgt := 101) (by decide) (fun h29 => ?_) (fun h29 => ?_)
                      · refine lv_iload_n hx hb dX7_pack_101 rfl (lv_at hl 4 rfl) ?_
                        refine lv_istore_n (lv' := [(2, .int (nI a)), (5, .int (nI ((pl e0) + 1))), (4, .int (nI (nd I e0 t))), (0, .ref (ad 10)), (1, .int (nI t)), (3, .int (nI e0))]) hx hb dX7_pack_102 rfl hl (by decide) rfl (fun ls hl => ?_)
                        refine lv_iinc (v := nI (e0 + 1)) (lv' := [(3, .int (nI (e0 + 1))), (2, .int (nI a)), (5, .int (nI ((pl e0) + 1))), (4, .int (nI (nd I e0 t))), (0, .ref (ad 10)), (1, .int (nI t))]) hx hb dX7_pack_103 hl (k := 5) rfl (nI_1 _) (by decide) rfl (fun ls hl => ?_)
                        refine lv_goto (tgt := 42) hx hb dX7_pack_106 (by decide) ?_
                        exact ih42 (e0 + 1) a _ _ _ (by omega) (by omega) (by unfold lsP at ha ⊢; simp only [mxF]; rw [if_pos (by omega)]; omega) (by omega) hP hS (lv_sub hl [4, 5, 1, 0] rfl)
                      · refine lv_iload hx hb dX7_pack_96 (lv_at hl 0 rfl) ?_
                        refine lv_goto (tgt := 102) hx hb dX7_pack_98 (by decide) ?_
                        refine lv_istore_n (lv' := [(2, .int (nI ((pl e0) + 1))), (5, .int (nI ((pl e0) + 1))), (4, .int (nI (nd I e0 t))), (0, .ref (ad 10)), (1, .int (nI t)), (3, .int (nI e0))]) hx hb dX7_pack_102 rfl hl (by decide) rfl (fun ls hl => ?_)
                        refine lv_iinc (v := nI (e0 + 1)) (lv' := [(3, .int (nI (e0 + 1))), (2, .int (nI ((pl e0) + 1))), (5, .int (nI ((pl e0) + 1))), (4, .int (nI (nd I e0 t))), (0, .ref (ad 10)), (1, .int (nI t))]) hx hb dX7_pack_103 hl (k := 5) rfl (nI_1 _) (by decide) rfl (fun ls hl => ?_)
                        refine lv_goto (tgt := 42) hx hb dX7_pack_106 (by decide) ?_
                        exact ih42 (e0 + 1) ((pl e0) + 1) _ _ _ (by omega) (by omega) (by unfold lsP at ha ⊢; simp only [mxF]; rw [if_pos (by omega)]; omega) (by omega) hP hS (lv_sub hl [4, 5, 1, 0] rfl)
              exact hL42_5 (t + 1) 0 0 _ _ _ (by omega) (by omega) (rfl) (by omega) hP hS (lv_sub hl [2, 3, 1, 0] rfl)
        exact hL30_3 (mn I + 1) 0 (fun _ => 0) J _ _ _ (by omega) (by omega) (⟨rfl, fun a ha => hc.1 a (by omega), lt_0, fun z hz => by rw [(hc.2 z (by omega)).1, (hc.2 z (by omega)).2]; exact ⟨rfl, rfl, Nat.zero_le _⟩⟩) hP hS (lv_sub hl [1, 0] rfl)
      · refine lv_aload_n hx hb dX7_pack_8 rfl (lv_at hl 0 rfl) ?_
        refine f_X7_43 (q := 22) C hP (by assumption) (by assumption) rfl dX7_pack_9 ?_
        refine lv_iload_n hx hb dX7_pack_12 rfl (lv_at hl 1 rfl) ?_
        refine lv_iconst (v := nI 0) hx hb dX7_pack_13 (by decide) ?_
        refine r_iast (n := 8) C hP hS (by assumption) (by omega) (by decide) dX7_pack_14 (fun H locs hP hS => ?_)
        obtain ⟨I30, eI30⟩ : ∃ Znew : Nat → Nat → Int32, Znew = up2 J 22 j (nI 0) := ⟨_, rfl⟩
        rw [← eI30] at hP
        refine lv_aload_n hx hb dX7_pack_15 rfl (lv_at hl 0 rfl) ?_
        refine f_X7_46 (q := 23) C hP (by assumption) (by assumption) rfl dX7_pack_16 ?_
        refine lv_iload_n hx hb dX7_pack_19 rfl (lv_at hl 1 rfl) ?_
        refine lv_iconst (v := nI 0) hx hb dX7_pack_20 (by decide) ?_
        refine r_iast (n := 8) C hP hS (by assumption) (by omega) (by decide) dX7_pack_21 (fun H locs hP hS => ?_)
        obtain ⟨I31, eI31⟩ : ∃ Znew : Nat → Nat → Int32, Znew = up2 I30 23 j (nI 0) := ⟨_, rfl⟩
        rw [← eI31] at hP
        refine lv_iinc (v := nI (j + 1)) (lv' := [(1, .int (nI (j + 1))), (0, .ref (ad 10))]) hx hb dX7_pack_22 hl (k := 1) rfl (nI_1 _) (by decide) rfl (fun ls hl => ?_)
        refine lv_goto (tgt := 2) hx hb dX7_pack_25 (by decide) ?_
        exact ih2 (j + 1) I31 _ _ _ (by omega) (by omega) (by subst_vars; exact ⟨fun a ha => by rw [up2_r (by omega), up2_r (by omega)]; exact hc.1 a ha, fun z hz => if q : z = j then by subst q; exact ⟨by rw [up2_r (by decide), up2_s], up2_s _ _ _ _⟩ else by rw [up2_r (by decide), up2_k q, up2_k q, up2_r (by decide)]; exact hc.2 z (by omega)⟩) hP hS (lv_sub hl [1, 0] rfl)
  exact hL2_1 (8 + 1) 0 I _ _ _ (by omega) (by omega) (⟨fun _ _ => rfl, lt_0⟩) hP hS (lv_sub hl [1, 0] rfl)
