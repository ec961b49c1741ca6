/-! the reference: what is told -/
set_option maxHeartbeats 4000000 in
set_option maxRecDepth 100000 in
theorem c_X7_part {l : Launch} {E : En} {K : Nat → Nat} {L : Nat → Nat → Bool} {ad : Nat → Nat} {I : Nat → Nat → Int32} (u n : Nat) (w : Int32) (hM : IsM K L) (hu8 : u < 8) (hn : I 12 u = nI n) (hn4 : n ≤ 4) (hw0 : (∃ i, i < 16 ∧ w = nI (i + 10)) ∨ ∃ i, i < 3 ∧ w = nI (i + 31)) : MI l E K L ad I yX7_part cX7_part 6 (some .int) 0 [.ref (ad 10), .int (nI u), .int w] (fun rv RJ => RJ = I ∧ rv = prt n (fun e => I 13 (5 * u + e)) (fun e k => I (14 + k) (5 * u + e)) w) := by
  have hM0 := hM
  obtain ⟨m0, ml1, ml2, ml3, ml4, ml5, ml6, ml7, ml8, ml9, ml10, ml11, ml12, ml13, ml14, ml15, ml16, ml17, ml21, ml25, ml26, mk1, mk2, mk3, mk4, mk5, mk6, mk7, mk8, mk9, mk10, mk11, mk12, mk13, mk14, mk15, mk16, mk17, mk21, mk25, mk26⟩ := hM
  refine MI.of (by decide) (Nat.le_of_ble_eq_true rfl) ?_
  intro p ee s m args below meth c ls Qf C hret hP hl
  have C : Cx E p s m args c cX7_part RX7 6 := C
  have hx := C.1
  have hb := C.2.1
  have hS : va_S (AG E) s.heap s.heap [] := va_S.rf
  have hl : lv_has ls 6 [(0, .ref (ad 10)), (1, .int (nI u)), (2, .int w)] := hl
  rcases hw0 with ⟨i, hi, ex⟩ | ⟨i, hi, ex⟩
  · rw [ex] at hl
    refine lv_iload_n hx hb dX7_part_0 rfl (lv_at hl 2 rfl) ?_
    refine lv_bipush (v := nI 30) hx hb dX7_part_1 (by decide) ?_
    refine b_leN C (by omega) (by omega) dX7_part_3 (tgt := 10) (by decide) (fun h1 => ?_) (fun h1 => ?_)
    · refine lv_iload_n hx hb dX7_part_10 rfl (lv_at hl 2 rfl) ?_
      refine lv_bipush (v := nI 10) hx hb dX7_part_11 (by decide) ?_
      refine r_subN C (by omega) dX7_part_13 ?_
      refine lv_iconst (v := nI 4) hx hb dX7_part_14 (by decide) ?_
      refine r_divN C (by omega) (by decide) (by decide) dX7_part_15 ?_
      refine lv_istore_n (lv' := [(3, .int (nI (((i + 10) - 10) / 4))), (0, .ref (ad 10)), (1, .int (nI u)), (2, .int (nI (i + 10)))]) hx hb dX7_part_16 rfl hl (by decide) rfl (fun ls hl => ?_)
      refine lv_iconst (v := nI 5) hx hb dX7_part_17 (by decide) ?_
      refine lv_iload_n hx hb dX7_part_18 rfl (lv_at hl 2 rfl) ?_
      refine r_mulN C dX7_part_19 ?_
      refine lv_iload_n hx hb dX7_part_20 rfl (lv_at hl 0 rfl) ?_
      refine r_addN C dX7_part_21 ?_
      refine lv_istore (lv' := [(4, .int (nI (5 * u + (((i + 10) - 10) / 4)))), (3, .int (nI (((i + 10) - 10) / 4))), (0, .ref (ad 10)), (1, .int (nI u)), (2, .int (nI (i + 10)))]) hx hb dX7_part_22 hl (by decide) rfl (fun ls hl => ?_)
      refine lv_iload_n hx hb dX7_part_24 rfl (lv_at hl 4 rfl) ?_
      refine lv_bipush (v := nI 30) hx hb dX7_part_25 (by decide) ?_
      refine b_leN C (by omega) (by omega) dX7_part_27 (tgt := 37) (by decide) (fun h2 => ?_) (fun h2 => ?_)
      · refine lv_iload_n hx hb dX7_part_37 rfl (lv_at hl 4 rfl) ?_
        refine lv_bipush (v := nI 10) hx hb dX7_part_38 (by decide) ?_
        refine r_subN C (by omega) dX7_part_40 ?_
        refine lv_iconst (v := nI 4) hx hb dX7_part_41 (by decide) ?_
        refine r_remN C (by omega) (by decide) (by decide) dX7_part_42 ?_
        refine lv_istore (lv' := [(5, .int (nI (((i + 10) - 10) % 4))), (4, .int (nI (5 * u + (((i + 10) - 10) / 4)))), (3, .int (nI (((i + 10) - 10) / 4))), (0, .ref (ad 10)), (1, .int (nI u)), (2, .int (nI (i + 10)))]) hx hb dX7_part_43 hl (by decide) rfl (fun ls hl => ?_)
        refine lv_iload_n hx hb dX7_part_45 rfl (lv_at hl 5 rfl) ?_
        refine lv_bipush (v := nI 31) hx hb dX7_part_46 (by decide) ?_
        refine b_geN C (by omega) (by omega) dX7_part_48 (tgt := 64) (by decide) (fun h3 => ?_) (fun h3 => ?_)
        · exact absurd h3 (by omega)
        · refine lv_iload_n hx hb dX7_part_51 rfl (lv_at hl 2 rfl) ?_
          refine lv_aload_n hx hb dX7_part_52 rfl (lv_at hl 3 rfl) ?_
          refine f_X7_13 (q := 12) C hP (by assumption) (by assumption) rfl dX7_part_53 ?_
          refine lv_iload_n hx hb dX7_part_56 rfl (lv_at hl 4 rfl) ?_
          refine r_iald (n := 8) C hP (by assumption) (by omega) (by decide) dX7_part_57 ?_
          refine r_eqi (y := (nI n)) (hn) ?_
          refine b_ltN C (by omega) (by omega) dX7_part_58 (tgt := 64) (by decide) (fun h4 => ?_) (fun h4 => ?_)
          · refine lv_iload hx hb dX7_part_64 (lv_at hl 0 rfl) ?_
            refine z_ne C dX7_part_66 (tgt := 79) (by decide) (fun h5 => ?_) (fun h5 => ?_)
            · replace h5 : ((i + 10) - 10) % 4 ≠ 0 := fun q => h5 (by rw [q]; rfl)
              refine lv_iload hx hb dX7_part_79 (lv_at hl 0 rfl) ?_
              refine lv_iconst (v := nI 1) hx hb dX7_part_81 (by decide) ?_
              refine b_neN C (by omega) (by omega) dX7_part_82 (tgt := 95) (by decide) (fun h6 => ?_) (fun h6 => ?_)
              · refine lv_iload hx hb dX7_part_95 (lv_at hl 0 rfl) ?_
                refine lv_iconst (v := nI 2) hx hb dX7_part_97 (by decide) ?_
                refine b_neN C (by omega) (by omega) dX7_part_98 (tgt := 111) (by decide) (fun h7 => ?_) (fun h7 => ?_)
                · refine lv_aload_n hx hb dX7_part_111 rfl (lv_at hl 3 rfl) ?_
                  refine f_X7_25 (q := 16) C hP (by assumption) (by assumption) rfl dX7_part_112 ?_
                  refine lv_iload hx hb dX7_part_115 (lv_at hl 1 rfl) ?_
                  refine r_iald (n := 40) C hP (by assumption) (by omega) (by decide) dX7_part_117 ?_
                  exact hret _ _ _ _ _ _ dX7_part_118 hP hS (⟨rfl, by rw [ex, prt_A hn4 (by omega)]; simp only [Nat.add_sub_cancel] at *; simp [pick, *]⟩)
                · refine lv_aload_n hx hb dX7_part_101 rfl (lv_at hl 3 rfl) ?_
                  refine f_X7_22 (q := 15) C hP (by assumption) (by assumption) rfl dX7_part_102 ?_
                  refine lv_iload hx hb dX7_part_105 (lv_at hl 1 rfl) ?_
                  refine r_iald (n := 40) C hP (by assumption) (by omega) (by decide) dX7_part_107 ?_
                  refine lv_goto (tgt := 118) hx hb dX7_part_108 (by decide) ?_
                  exact hret _ _ _ _ _ _ dX7_part_118 hP hS (⟨rfl, by rw [ex, prt_A hn4 (by omega)]; simp only [Nat.add_sub_cancel] at *; simp [pick, *]⟩)
              · refine lv_aload_n hx hb dX7_part_85 rfl (lv_at hl 3 rfl) ?_
                refine f_X7_19 (q := 14) C hP (by assumption) (by assumption) rfl dX7_part_86 ?_
                refine lv_iload hx hb dX7_part_89 (lv_at hl 1 rfl) ?_
                refine r_iald (n := 40) C hP (by assumption) (by omega) (by decide) dX7_part_91 ?_
                refine lv_goto (tgt := 118) hx hb dX7_part_92 (by decide) ?_
                exact hret _ _ _ _ _ _ dX7_part_118 hP hS (⟨rfl, by rw [ex, prt_A hn4 (by omega)]; simp only [Nat.add_sub_cancel] at *; simp [pick, *]⟩)
            · replace h5 : ((i + 10) - 10) % 4 = 0 := (nI_eq (by omega) (by decide)).mp h5
              refine lv_aload_n hx hb dX7_part_69 rfl (lv_at hl 3 rfl) ?_
              refine f_X7_16 (q := 13) C hP (by assumption) (by assumption) rfl dX7_part_70 ?_
              refine lv_iload hx hb dX7_part_73 (lv_at hl 1 rfl) ?_
              refine r_iald (n := 40) C hP (by assumption) (by omega) (by decide) dX7_part_75 ?_
              refine lv_goto (tgt := 118) hx hb dX7_part_76 (by decide) ?_
              exact hret _ _ _ _ _ _ dX7_part_118 hP hS (⟨rfl, by rw [ex, prt_A hn4 (by omega)]; simp only [Nat.add_sub_cancel] at *; simp [pick, *]⟩)
          · refine lv_bipush (v := (-2)) hx hb dX7_part_61 (by decide) ?_
            exact hret _ _ _ _ _ _ dX7_part_63 hP hS (⟨rfl, by rw [ex, prt_D hi (by omega)]⟩)
      · exact absurd h2 (by omega)
    · exact absurd h1 (by omega)
  · rw [ex] at hl
    refine lv_iload_n hx hb dX7_part_0 rfl (lv_at hl 2 rfl) ?_
    refine lv_bipush (v := nI 30) hx hb dX7_part_1 (by decide) ?_
    refine b_leN C (by omega) (by omega) dX7_part_3 (tgt := 10) (by decide) (fun h8 => ?_) (fun h8 => ?_)
    · exact absurd h8 (by omega)
    · refine lv_iconst (v := nI 4) hx hb dX7_part_6 (by decide) ?_
      refine lv_goto (tgt := 16) hx hb dX7_part_7 (by decide) ?_
      refine lv_istore_n (lv' := [(3, .int (nI 4)), (0, .ref (ad 10)), (1, .int (nI u)), (2, .int (nI (i + 31)))]) hx hb dX7_part_16 rfl hl (by decide) rfl (fun ls hl => ?_)
      refine lv_iconst (v := nI 5) hx hb dX7_part_17 (by decide) ?_
      refine lv_iload_n hx hb dX7_part_18 rfl (lv_at hl 2 rfl) ?_
      refine r_mulN C dX7_part_19 ?_
      refine lv_iload_n hx hb dX7_part_20 rfl (lv_at hl 0 rfl) ?_
      refine r_addN C dX7_part_21 ?_
      refine lv_istore (lv' := [(4, .int (nI (5 * u + 4))), (3, .int (nI 4)), (0, .ref (ad 10)), (1, .int (nI u)), (2, .int (nI (i + 31)))]) hx hb dX7_part_22 hl (by decide) rfl (fun ls hl => ?_)
      refine lv_iload_n hx hb dX7_part_24 rfl (lv_at hl 4 rfl) ?_
      refine lv_bipush (v := nI 30) hx hb dX7_part_25 (by decide) ?_
      refine b_leN C (by omega) (by omega) dX7_part_27 (tgt := 37) (by decide) (fun h9 => ?_) (fun h9 => ?_)
      · exact absurd h9 (by omega)
      · refine lv_iload_n hx hb dX7_part_30 rfl (lv_at hl 4 rfl) ?_
        refine lv_bipush (v := nI 30) hx hb dX7_part_31 (by decide) ?_
        refine r_subN C (by omega) dX7_part_33 ?_
        refine lv_goto (tgt := 43) hx hb dX7_part_34 (by decide) ?_
        refine lv_istore (lv' := [(5, .int (nI ((i + 31) - 30))), (4, .int (nI (5 * u + 4))), (3, .int (nI 4)), (0, .ref (ad 10)), (1, .int (nI u)), (2, .int (nI (i + 31)))]) hx hb dX7_part_43 hl (by decide) rfl (fun ls hl => ?_)
        refine lv_iload_n hx hb dX7_part_45 rfl (lv_at hl 5 rfl) ?_
        refine lv_bipush (v := nI 31) hx hb dX7_part_46 (by decide) ?_
        refine b_geN C (by omega) (by omega) dX7_part_48 (tgt := 64) (by decide) (fun h10 => ?_) (fun h10 => ?_)
        · refine lv_iload hx hb dX7_part_64 (lv_at hl 0 rfl) ?_
          refine z_ne C dX7_part_66 (tgt := 79) (by decide) (fun h11 => ?_) (fun h11 => ?_)
          · replace h11 : (i + 31) - 30 ≠ 0 := fun q => h11 (by rw [q]; rfl)
            refine lv_iload hx hb dX7_part_79 (lv_at hl 0 rfl) ?_
            refine lv_iconst (v := nI 1) hx hb dX7_part_81 (by decide) ?_
            refine b_neN C (by omega) (by omega) dX7_part_82 (tgt := 95) (by decide) (fun h12 => ?_) (fun h12 => ?_)
            · refine lv_iload hx hb dX7_part_95 (lv_at hl 0 rfl) ?_
              refine lv_iconst (v := nI 2) hx hb dX7_part_97 (by decide) ?_
              refine b_neN C (by omega) (by omega) dX7_part_98 (tgt := 111) (by decide) (fun h13 => ?_) (fun h13 => ?_)
              · refine lv_aload_n hx hb dX7_part_111 rfl (lv_at hl 3 rfl) ?_
                refine f_X7_25 (q := 16) C hP (by assumption) (by assumption) rfl dX7_part_112 ?_
                refine lv_iload hx hb dX7_part_115 (lv_at hl 1 rfl) ?_
                refine r_iald (n := 40) C hP (by assumption) (by omega) (by decide) dX7_part_117 ?_
                exact hret _ _ _ _ _ _ dX7_part_118 hP hS (⟨rfl, by rw [ex, prt_B hn4 hi]; rcases (show i = 0 ∨ i = 1 ∨ i = 2 by omega) with rfl | rfl | rfl <;> first | (exfalso; omega) | rfl⟩)
              · refine lv_aload_n hx hb dX7_part_101 rfl (lv_at hl 3 rfl) ?_
                refine f_X7_22 (q := 15) C hP (by assumption) (by assumption) rfl dX7_part_102 ?_
                refine lv_iload hx hb dX7_part_105 (lv_at hl 1 rfl) ?_
                refine r_iald (n := 40) C hP (by assumption) (by omega) (by decide) dX7_part_107 ?_
                refine lv_goto (tgt := 118) hx hb dX7_part_108 (by decide) ?_
                exact hret _ _ _ _ _ _ dX7_part_118 hP hS (⟨rfl, by rw [ex, prt_B hn4 hi]; rcases (show i = 0 ∨ i = 1 ∨ i = 2 by omega) with rfl | rfl | rfl <;> first | (exfalso; omega) | rfl⟩)
            · refine lv_aload_n hx hb dX7_part_85 rfl (lv_at hl 3 rfl) ?_
              refine f_X7_19 (q := 14) C hP (by assumption) (by assumption) rfl dX7_part_86 ?_
              refine lv_iload hx hb dX7_part_89 (lv_at hl 1 rfl) ?_
              refine r_iald (n := 40) C hP (by assumption) (by omega) (by decide) dX7_part_91 ?_
              refine lv_goto (tgt := 118) hx hb dX7_part_92 (by decide) ?_
              exact hret _ _ _ _ _ _ dX7_part_118 hP hS (⟨rfl, by rw [ex, prt_B hn4 hi]; rcases (show i = 0 ∨ i = 1 ∨ i = 2 by omega) with rfl | rfl | rfl <;> first | (exfalso; omega) | rfl⟩)
          · replace h11 : (i + 31) - 30 = 0 := (nI_eq (by omega) (by decide)).mp h11
            refine lv_aload_n hx hb dX7_part_69 rfl (lv_at hl 3 rfl) ?_
            refine f_X7_16 (q := 13) C hP (by assumption) (by assumption) rfl dX7_part_70 ?_
            refine lv_iload hx hb dX7_part_73 (lv_at hl 1 rfl) ?_
            refine r_iald (n := 40) C hP (by assumption) (by omega) (by decide) dX7_part_75 ?_
            refine lv_goto (tgt := 118) hx hb dX7_part_76 (by decide) ?_
            exact hret _ _ _ _ _ _ dX7_part_118 hP hS (⟨rfl, by rw [ex, prt_B hn4 hi]; rcases (show i = 0 ∨ i = 1 ∨ i = 2 by omega) with rfl | rfl | rfl <;> first | (exfalso; omega) | rfl⟩)
        · exact absurd h10 (by omega)
set_option maxHeartbeats 4000000 in
set_option maxRecDepth 100000 in
theorem c_X7_told {l : Launch} {E : En} {K : Nat → Nat} {L : Nat → Nat → Bool} {ad : Nat → Nat} {I : Nat → Nat → Int32} (t w : Int32) (hM : IsM K L) (hw : WF I) : MI l E K L ad I yX7_told cX7_told 3 (some .int) 5 [.ref (ad 10), .int t, .int w] (fun rv RJ => Sm I RJ ∧ rv = sTold I t w) := by
  have hM0 := hM
  obtain ⟨m0, ml1, ml2, ml3, ml4, ml5, ml6, ml7, ml8, ml9, ml10, ml11, ml12, ml13, ml14, ml15, ml16, ml17, ml21, ml25, ml26, mk1, mk2, mk3, mk4, mk5, mk6, mk7, mk8, mk9, mk10, mk11, mk12, mk13, mk14, mk15, mk16, mk17, mk21, mk25, mk26⟩ := hM
  have he := hw.1
  have hn8 := hw.2.1
  refine MI.of (by decide) (Nat.le_of_ble_eq_true rfl) ?_
  intro p ee s m args below meth c ls Qf C hret hP hl
  have C : Cx E p s m args c cX7_told RX7 3 := C
  have hx := C.1
  have hb := C.2.1
  have hS : va_S (AG E) s.heap s.heap [] := va_S.rf
  have hl : lv_has ls 3 [(0, .ref (ad 10)), (1, .int t), (2, .int w)] := hl
  refine lv_aload_n hx hb dX7_told_0 rfl (lv_at hl 0 rfl) ?_
  refine lv_iload_n hx hb dX7_told_1 rfl (lv_at hl 1 rfl) ?_
  refine k_X7_101 C hP hS (by assumption) (c_X7_isTable (mn I) t (by assumption) he hn8) ⟨Nat.le_of_ble_eq_true rfl, Nat.le_of_ble_eq_true rfl⟩ ⟨Nat.zero_le _, Nat.zero_le _⟩ hl.1 (Nat.le_of_ble_eq_true rfl) dX7_told_2 (fun v1 I2 H locs hv3 hP hS => ?_)
  obtain ⟨eI2, hv3⟩ := hv3
  rw [eI2] at hP
  clear eI2
  rcases hv3 with ⟨rfl, hc4⟩ | ⟨rfl, hc4⟩
  · obtain ⟨u, hu, eu⟩ : ∃ j : Nat, j < mn I ∧ t = nI j := ⟨t.toInt.toNat, by omega, i32_eq (by omega) (by omega)⟩
    have cu : tn t = u := by rw [eu]; exact nI_clamp (by omega)
    rw [eu] at hl
    have hWu := hw.2.2.1 u hu
    have h12 := hWu.1
    have hu4 := hWu.2.1
    refine z_ne1 C dX7_told_5 (tgt := 10) (by decide) ?_
    refine lv_iload_n hx hb dX7_told_10 rfl (lv_at hl 2 rfl) ?_
    refine lv_bipush (v := nI 10) hx hb dX7_told_11 (by decide) ?_
    refine lv_bipush (v := nI 25) hx hb dX7_told_13 (by decide) ?_
    refine k_X7_75 C hP hS (c_X7_inN w 10 25 (by first | decide | omega) (by first | decide | omega)) ⟨Nat.le_of_ble_eq_true rfl, Nat.le_of_ble_eq_true rfl⟩ ⟨Nat.zero_le _, Nat.zero_le _⟩ hl.1 (Nat.le_of_ble_eq_true rfl) dX7_told_15 (fun v5 I6 H locs hv7 hP hS => ?_)
    obtain ⟨eI6, hv7⟩ := hv7
    rw [eI6] at hP
    clear eI6
    rcases hv7 with ⟨rfl, hc8⟩ | ⟨rfl, hc8⟩
    · refine z_ne1 C dX7_told_18 (tgt := 32) (by decide) ?_
      have hw0 : (∃ i, i < 16 ∧ w = nI (i + 10)) ∨ ∃ i, i < 3 ∧ w = nI (i + 31) := by first | exact Or.inl ⟨(w.toInt - 10).toNat, by omega, i32_eq (by omega) (by omega)⟩ | exact Or.inr ⟨(w.toInt - 31).toNat, by omega, i32_eq (by omega) (by omega)⟩
      refine lv_aload_n hx hb dX7_told_32 rfl (lv_at hl 0 rfl) ?_
      refine lv_iload_n hx hb dX7_told_33 rfl (lv_at hl 1 rfl) ?_
      refine lv_iload_n hx hb dX7_told_34 rfl (lv_at hl 2 rfl) ?_
      refine k_X7_130 C hP hS (by assumption) (c_X7_part u (en I u) w hM0 (by omega) h12 hu4 hw0) ⟨Nat.le_of_ble_eq_true rfl, Nat.le_of_ble_eq_true rfl⟩ ⟨Nat.zero_le _, Nat.zero_le _⟩ hl.1 (Nat.le_of_ble_eq_true rfl) dX7_told_35 (fun v9 I10 H locs hv11 hP hS => ?_)
      obtain ⟨eI10, ev9⟩ := hv11
      rw [eI10] at hP
      clear eI10
      exact hret _ _ _ _ _ _ dX7_told_38 hP hS (⟨fun _ _ => rfl, by unfold sTold; rw [if_pos (by assumption), if_neg (by omega), if_neg (by omega), if_neg (by omega), if_neg (by omega), if_neg (by omega), if_neg (by omega), if_neg (by omega), cu]; exact ev9⟩)
    · refine z_ne0 C dX7_told_18 (tgt := 32) (by decide) ?_
      refine lv_iload_n hx hb dX7_told_21 rfl (lv_at hl 2 rfl) ?_
      refine lv_bipush (v := nI 31) hx hb dX7_told_22 (by decide) ?_
      refine lv_bipush (v := nI 33) hx hb dX7_told_24 (by decide) ?_
      refine k_X7_75 C hP hS (c_X7_inN w 31 33 (by first | decide | omega) (by first | decide | omega)) ⟨Nat.le_of_ble_eq_true rfl, Nat.le_of_ble_eq_true rfl⟩ ⟨Nat.zero_le _, Nat.zero_le _⟩ hl.1 (Nat.le_of_ble_eq_true rfl) dX7_told_26 (fun v12 I13 H locs hv14 hP hS => ?_)
      obtain ⟨eI13, hv14⟩ := hv14
      rw [eI13] at hP
      clear eI13
      rcases hv14 with ⟨rfl, hc15⟩ | ⟨rfl, hc15⟩
      · refine z_eq1 C dX7_told_29 (tgt := 39) (by decide) ?_
        have hw0 : (∃ i, i < 16 ∧ w = nI (i + 10)) ∨ ∃ i, i < 3 ∧ w = nI (i + 31) := by first | exact Or.inl ⟨(w.toInt - 10).toNat, by omega, i32_eq (by omega) (by omega)⟩ | exact Or.inr ⟨(w.toInt - 31).toNat, by omega, i32_eq (by omega) (by omega)⟩
        refine lv_aload_n hx hb dX7_told_32 rfl (lv_at hl 0 rfl) ?_
        refine lv_iload_n hx hb dX7_told_33 rfl (lv_at hl 1 rfl) ?_
        refine lv_iload_n hx hb dX7_told_34 rfl (lv_at hl 2 rfl) ?_
        refine k_X7_130 C hP hS (by assumption) (c_X7_part u (en I u) w hM0 (by omega) h12 hu4 hw0) ⟨Nat.le_of_ble_eq_true rfl, Nat.le_of_ble_eq_true rfl⟩ ⟨Nat.zero_le _, Nat.zero_le _⟩ hl.1 (Nat.le_of_ble_eq_true rfl) dX7_told_35 (fun v16 I17 H locs hv18 hP hS => ?_)
        obtain ⟨eI17, ev16⟩ := hv18
        rw [eI17] at hP
        clear eI17
        exact hret _ _ _ _ _ _ dX7_told_38 hP hS (⟨fun _ _ => rfl, by unfold sTold; rw [if_pos (by assumption), if_neg (by omega), if_neg (by omega), if_neg (by omega), if_neg (by omega), if_neg (by omega), if_neg (by omega), if_neg (by omega), cu]; exact ev16⟩)
      · refine z_eq0 C dX7_told_29 (tgt := 39) (by decide) ?_
        refine lv_iload_n hx hb dX7_told_39 rfl (lv_at hl 2 rfl) ?_
        by_cases sw19 : (w : Int32).toInt = 0
        · refine sw_in C dX7_told_40 sw19 (by decide) (by decide) (off := 44) (by decide) (tgt := 84) (by decide) ?_
          refine lv_aload_n hx hb dX7_told_84 rfl (lv_at hl 0 rfl) ?_
          refine f_X7_7 (q := 11) C hP (by assumption) (by assumption) rfl dX7_told_85 ?_
          refine lv_iload_n hx hb dX7_told_88 rfl (lv_at hl 1 rfl) ?_
          refine r_iald (n := 8) C hP (by assumption) (by omega) (by decide) dX7_told_89 ?_
          exact hret _ _ _ _ _ _ dX7_told_90 hP hS (⟨fun _ _ => rfl, by unfold sTold; rw [if_pos (by assumption), if_pos (by omega), cu]⟩)
        · by_cases sw20 : (w : Int32).toInt = 1
          · refine sw_in C dX7_told_40 sw20 (by decide) (by decide) (off := 51) (by decide) (tgt := 91) (by decide) ?_
            refine lv_aload_n hx hb dX7_told_91 rfl (lv_at hl 0 rfl) ?_
            refine f_X7_13 (q := 12) C hP (by assumption) (by assumption) rfl dX7_told_92 ?_
            refine lv_iload_n hx hb dX7_told_95 rfl (lv_at hl 1 rfl) ?_
            refine r_iald (n := 8) C hP (by assumption) (by omega) (by decide) dX7_told_96 ?_
            exact hret _ _ _ _ _ _ dX7_told_97 hP hS (⟨fun _ _ => rfl, by unfold sTold; rw [if_pos (by assumption), if_neg (by omega), if_pos (by omega), cu]⟩)
          · by_cases sw21 : (w : Int32).toInt = 2
            · refine sw_in C dX7_told_40 sw21 (by decide) (by decide) (off := 58) (by decide) (tgt := 98) (by decide) ?_
              refine lv_aload_n hx hb dX7_told_98 rfl (lv_at hl 0 rfl) ?_
              refine lv_iload_n hx hb dX7_told_99 rfl (lv_at hl 1 rfl) ?_
              refine k_X7_133 C hP hS (by assumption) (c_X7_levelOf u hM0 hw hu) ⟨Nat.le_of_ble_eq_true rfl, Nat.le_of_ble_eq_true rfl⟩ ⟨Nat.zero_le _, Nat.zero_le _⟩ hl.1 (Nat.le_of_ble_eq_true rfl) dX7_told_100 (fun v22 I23 H locs hv24 hP hS => ?_)
              obtain ⟨hlv, eXX⟩ := hv24
              have ev22 := eXX
              exact hret _ _ _ _ _ _ dX7_told_103 hP hS (⟨hlv, by unfold sTold; rw [if_pos (by assumption), if_neg (by omega), if_neg (by omega), if_pos (by omega), cu]; exact ev22⟩)
            · by_cases sw25 : (w : Int32).toInt = 3
              · refine sw_in C dX7_told_40 sw25 (by decide) (by decide) (off := 64) (by decide) (tgt := 104) (by decide) ?_
                refine lv_aload_n hx hb dX7_told_104 rfl (lv_at hl 0 rfl) ?_
                refine k_X7_136 C hP hS (by assumption) (c_X7_pack hM0 hw) ⟨Nat.le_of_ble_eq_true rfl, Nat.le_of_ble_eq_true rfl⟩ ⟨Nat.zero_le _, Nat.zero_le _⟩ hl.1 (Nat.le_of_ble_eq_true rfl) dX7_told_105 (fun v26 I27 H locs hv28 hP hS => ?_)
                rcases hv28 with ⟨hv1, pl, hpk⟩ | ⟨hv1, hsm, hno⟩
                · subst hv1
                  refine z_eq1 C dX7_told_108 (tgt := 120) (by decide) ?_
                  refine lv_aload_n hx hb dX7_told_111 rfl (lv_at hl 0 rfl) ?_
                  refine f_X7_40 (q := 21) C hP (by assumption) (by assumption) rfl dX7_told_112 ?_
                  refine lv_iload_n hx hb dX7_told_115 rfl (lv_at hl 1 rfl) ?_
                  refine r_iald (n := 8) C hP (by assumption) (by omega) (by decide) dX7_told_116 ?_
                  refine r_eqi (y := (nI (pl u))) ((hpk.2.2.1 u (by omega)).1) ?_
                  refine lv_goto (tgt := 122) hx hb dX7_told_117 (by decide) ?_
                  exact hret _ _ _ _ _ _ dX7_told_122 hP hS (⟨fun a ha => hpk.2.1 a (by omega), by unfold sTold; rw [if_pos (by assumption), if_neg (by omega), if_neg (by omega), if_neg (by omega), if_pos (by omega), hpk.1, cu]⟩)
                · subst hv1
                  refine z_eq0 C dX7_told_108 (tgt := 120) (by decide) ?_
                  refine lv_bipush (v := (-3)) hx hb dX7_told_120 (by decide) ?_
                  exact hret _ _ _ _ _ _ dX7_told_122 hP hS (⟨hsm, by unfold sTold; rw [if_pos (by assumption), if_neg (by omega), if_neg (by omega), if_neg (by omega), if_pos (by omega), hno]⟩)
              · by_cases sw29 : (w : Int32).toInt = 4
                · refine sw_in C dX7_told_40 sw29 (by decide) (by decide) (off := 83) (by decide) (tgt := 123) (by decide) ?_
                  refine lv_aload_n hx hb dX7_told_123 rfl (lv_at hl 0 rfl) ?_
                  refine lv_iload_n hx hb dX7_told_124 rfl (lv_at hl 1 rfl) ?_
                  refine k_X7_118 C hP hS (by assumption) (c_X7_writes u (en I u) hM0 (by omega) h12 hu4) ⟨Nat.le_of_ble_eq_true rfl, Nat.le_of_ble_eq_true rfl⟩ ⟨Nat.zero_le _, Nat.zero_le _⟩ hl.1 (Nat.le_of_ble_eq_true rfl) dX7_told_125 (fun v30 I31 H locs hv32 hP hS => ?_)
                  obtain ⟨eI31, ev30⟩ := hv32
                  rw [eI31] at hP
                  clear eI31
                  exact hret _ _ _ _ _ _ dX7_told_128 hP hS (⟨fun _ _ => rfl, by unfold sTold; rw [if_pos (by assumption), if_neg (by omega), if_neg (by omega), if_neg (by omega), if_neg (by omega), if_pos (by omega), cu]; exact ev30⟩)
                · by_cases sw33 : (w : Int32).toInt = 5
                  · refine sw_in C dX7_told_40 sw33 (by decide) (by decide) (off := 89) (by decide) (tgt := 129) (by decide) ?_
                    refine lv_aload_n hx hb dX7_told_129 rfl (lv_at hl 0 rfl) ?_
                    refine lv_iload_n hx hb dX7_told_130 rfl (lv_at hl 1 rfl) ?_
                    refine k_X7_121 C hP hS (by assumption) (c_X7_reads u (en I u) hM0 (by omega) h12 hu4) ⟨Nat.le_of_ble_eq_true rfl, Nat.le_of_ble_eq_true rfl⟩ ⟨Nat.zero_le _, Nat.zero_le _⟩ hl.1 (Nat.le_of_ble_eq_true rfl) dX7_told_131 (fun v34 I35 H locs hv36 hP hS => ?_)
                    obtain ⟨eI35, ev34⟩ := hv36
                    rw [eI35] at hP
                    clear eI35
                    exact hret _ _ _ _ _ _ dX7_told_134 hP hS (⟨fun _ _ => rfl, by unfold sTold; rw [if_pos (by assumption), if_neg (by omega), if_neg (by omega), if_neg (by omega), if_neg (by omega), if_neg (by omega), if_pos (by omega), cu]; exact ev34⟩)
                  · by_cases sw37 : (w : Int32).toInt = 6
                    · refine sw_in C dX7_told_40 sw37 (by decide) (by decide) (off := 95) (by decide) (tgt := 135) (by decide) ?_
                      refine lv_aload_n hx hb dX7_told_135 rfl (lv_at hl 0 rfl) ?_
                      refine lv_iload_n hx hb dX7_told_136 rfl (lv_at hl 1 rfl) ?_
                      refine k_X7_93 C hP hS (by assumption) (c_X7_registersOf u (en I u) hM0 (by omega) h12 hu4) ⟨Nat.le_of_ble_eq_true rfl, Nat.le_of_ble_eq_true rfl⟩ ⟨Nat.zero_le _, Nat.zero_le _⟩ hl.1 (Nat.le_of_ble_eq_true rfl) dX7_told_137 (fun v38 I39 H locs hv40 hP hS => ?_)
                      obtain ⟨eI39, ev38⟩ := hv40
                      rw [eI39] at hP
                      clear eI39
                      exact hret _ _ _ _ _ _ dX7_told_140 hP hS (⟨fun _ _ => rfl, by unfold sTold; rw [if_pos (by assumption), if_neg (by omega), if_neg (by omega), if_neg (by omega), if_neg (by omega), if_neg (by omega), if_neg (by omega), if_pos (by omega), cu]; exact ev38⟩)
                    · refine lv_tableOut hx hb dX7_told_40 (by omega) (tgt := 141) (by decide) ?_
                      refine lv_bipush (v := (-2)) hx hb dX7_told_141 (by decide) ?_
                      exact hret _ _ _ _ _ _ dX7_told_143 hP hS (⟨fun _ _ => rfl, by unfold sTold; rw [if_pos (by assumption), if_neg (by omega), if_neg (by omega), if_neg (by omega), if_neg (by omega), if_neg (by omega), if_neg (by omega), if_neg (by omega), cu, prt_C (by omega) (by omega)]⟩)
  · refine z_ne0 C dX7_told_5 (tgt := 10) (by decide) ?_
    refine lv_iconst (v := (-1)) hx hb dX7_told_8 (by decide) ?_
    exact hret _ _ _ _ _ _ dX7_told_9 hP hS (⟨fun _ _ => rfl, by unfold sTold; rw [if_neg (by assumption)]⟩)
set_option maxHeartbeats 4000000 in
set_option maxRecDepth 100000 in
theorem c_X7_stages {l : Launch} {E : En} {K : Nat → Nat} {L : Nat → Nat → Bool} {ad : Nat → Nat} {I : Nat → Nat → Int32}  (hM : IsM K L) (hw : WF I) : MI l E K L ad I yX7_stages cX7_stages 3 (some .int) 5 [.ref (ad 10)] (fun rv RJ => Sm I RJ ∧ rv = sStages I) := by
  have hM0 := hM
  obtain ⟨m0, ml1, ml2, ml3, ml4, ml5, ml6, ml7, ml8, ml9, ml10, ml11, ml12, ml13, ml14, ml15, ml16, ml17, ml21, ml25, ml26, mk1, mk2, mk3, mk4, mk5, mk6, mk7, mk8, mk9, mk10, mk11, mk12, mk13, mk14, mk15, mk16, mk17, mk21, mk25, mk26⟩ := hM
  have he := hw.1
  have hn8 := hw.2.1
  refine MI.of (by decide) (Nat.le_of_ble_eq_true rfl) ?_
  intro p ee s m args below meth c ls Qf C hret hP hl
  have C : Cx E p s m args c cX7_stages RX7 3 := C
  have hx := C.1
  have hb := C.2.1
  have hS : va_S (AG E) s.heap s.heap [] := va_S.rf
  have hl : lv_has ls 3 [(0, .ref (ad 10))] := hl
  refine lv_aload_n hx hb dX7_stages_0 rfl (lv_at hl 0 rfl) ?_
  refine k_X7_136 C hP hS (by assumption) (c_X7_pack hM0 hw) ⟨Nat.le_of_ble_eq_true rfl, Nat.le_of_ble_eq_true rfl⟩ ⟨Nat.zero_le _, Nat.zero_le _⟩ hl.1 (Nat.le_of_ble_eq_true rfl) dX7_stages_1 (fun v1 I2 H locs hv3 hP hS => ?_)
  rcases hv3 with ⟨hv1, pl, hpk⟩ | ⟨hv1, hsm, hno⟩
  · subst hv1
    refine z_ne1 C dX7_stages_4 (tgt := 10) (by decide) ?_
    refine lv_iconst (v := nI 0) hx hb dX7_stages_10 (by decide) ?_
    refine lv_istore_n (lv' := [(1, .int (nI 0)), (0, .ref (ad 10))]) hx hb dX7_stages_11 rfl hl (by decide) rfl (fun ls hl => ?_)
    refine lv_iconst (v := nI 0) hx hb dX7_stages_12 (by decide) ?_
    refine lv_istore_n (lv' := [(2, .int (nI 0)), (1, .int (nI 0)), (0, .ref (ad 10))]) hx hb dX7_stages_13 rfl hl (by decide) rfl (fun ls hl => ?_)
    have hL14_4 : ∀ (d : Nat) (j : Nat) (a : Nat) (H : Heap) (locs : List Loc) (ls : Array Slot), 8 < j + d → (j ≤ 8) → (a = cn (fun z => decide (0 < cn (atF pl z) (mn I))) j) → (a ≤ j) → Hp E K L ad I2 H → va_S (AG E) s.heap H locs → lv_has ls 3 [(0, .ref (ad 10)), (1, .int (nI a)), (2, .int (nI j))] → W p l ee (rmk 5) s m args below meth c H locs 0 0 Qf (F0 m 14 ls []) := by
      intro d14
      induction d14 with
      | zero => intro j a H locs ls hd14 hj ha ha8 _ _ _; exact absurd hd14 (by omega)
      | succ d14 ih14 =>
        intro j a H locs ls hd14 hj ha ha8 hP hS hl
        have hcz := fun (q : j < 8) => (hpk.2.2.2 j q).1
        have hcl := cn_le (atF pl j) (mn I)
        refine lv_iload_n hx hb dX7_stages_14 rfl (lv_at hl 2 rfl) ?_
        refine lv_bipush (v := nI 8) hx hb dX7_stages_15 (by decide) ?_
        refine b_geN C (by omega) (by omega) dX7_stages_17 (tgt := 43) (by decide) (fun h5 => ?_) (fun h5 => ?_)
        · refine lv_iload_n hx hb dX7_stages_43 rfl (lv_at hl 1 rfl) ?_
          exact hret _ _ _ _ _ _ dX7_stages_44 hP hS (⟨fun a ha => hpk.2.1 a (by omega), by unfold sStages; rw [hpk.1, ha, show j = 8 by omega]⟩)
        · have hcj := hcz (by omega)
          refine lv_iload_n hx hb dX7_stages_20 rfl (lv_at hl 1 rfl) ?_
          refine lv_aload_n hx hb dX7_stages_21 rfl (lv_at hl 0 rfl) ?_
          refine f_X7_43 (q := 22) C hP (by assumption) (by assumption) rfl dX7_stages_22 ?_
          refine lv_iload_n hx hb dX7_stages_25 rfl (lv_at hl 2 rfl) ?_
          refine r_iald (n := 8) C hP (by assumption) (by omega) (by decide) dX7_stages_26 ?_
          refine r_eqi (y := (nI (cn (atF pl j) (mn I)))) (hcj) ?_
          refine z_le C dX7_stages_27 (tgt := 34) (by decide) (fun h6 => ?_) (fun h6 => ?_)
          · rw [nI_toInt (by omega)] at h6
            refine lv_iconst (v := nI 0) hx hb dX7_stages_34 (by decide) ?_
            refine r_addN C dX7_stages_35 ?_
            refine lv_istore_n (lv' := [(1, .int (nI (a + 0))), (0, .ref (ad 10)), (2, .int (nI j))]) hx hb dX7_stages_36 rfl hl (by decide) rfl (fun ls hl => ?_)
            refine lv_iinc (v := nI (j + 1)) (lv' := [(2, .int (nI (j + 1))), (1, .int (nI (a + 0))), (0, .ref (ad 10))]) hx hb dX7_stages_37 hl (k := 2) rfl (nI_1 _) (by decide) rfl (fun ls hl => ?_)
            refine lv_goto (tgt := 14) hx hb dX7_stages_40 (by decide) ?_
            exact ih14 (j + 1) (a + 0) _ _ _ (by omega) (by omega) (by simp only [cn]; rw [ha]; congr 1; first | rw [if_pos (by simp; omega)] | rw [if_neg (by simp; omega)]) (by omega) hP hS (lv_sub hl [2, 1, 0] rfl)
          · rw [nI_toInt (by omega)] at h6
            refine lv_iconst (v := nI 1) hx hb dX7_stages_30 (by decide) ?_
            refine lv_goto (tgt := 35) hx hb dX7_stages_31 (by decide) ?_
            refine r_addN C dX7_stages_35 ?_
            refine lv_istore_n (lv' := [(1, .int (nI (a + 1))), (0, .ref (ad 10)), (2, .int (nI j))]) hx hb dX7_stages_36 rfl hl (by decide) rfl (fun ls hl => ?_)
            refine lv_iinc (v := nI (j + 1)) (lv' := [(2, .int (nI (j + 1))), (1, .int (nI (a + 1))), (0, .ref (ad 10))]) hx hb dX7_stages_37 hl (k := 2) rfl (nI_1 _) (by decide) rfl (fun ls hl => ?_)
            refine lv_goto (tgt := 14) hx hb dX7_stages_40 (by decide) ?_
            exact ih14 (j + 1) (a + 1) _ _ _ (by omega) (by omega) (by simp only [cn]; rw [ha]; congr 1; first | rw [if_pos (by simp; omega)] | rw [if_neg (by simp; omega)]) (by omega) hP hS (lv_sub hl [2, 1, 0] rfl)
    exact hL14_4 (8 + 1) 0 0 _ _ _ (by omega) (by omega) (rfl) (by omega) hP hS (lv_sub hl [2, 1, 0] rfl)
  · subst hv1
    refine z_ne0 C dX7_stages_4 (tgt := 10) (by decide) ?_
    refine lv_bipush (v := (-3)) hx hb dX7_stages_7 (by decide) ?_
    exact hret _ _ _ _ _ _ dX7_stages_9 hP hS (⟨hsm, by unfold sStages; rw [hno]⟩)
set_option maxHeartbeats 4000000 in
set_option maxRecDepth 100000 in
theorem c_X7_stage {l : Launch} {E : En} {K : Nat → Nat} {L : Nat → Nat → Bool} {ad : Nat → Nat} {I : Nat → Nat → Int32} (i w : Int32) (hM : IsM K L) (hw : WF I) : MI l E K L ad I yX7_stage cX7_stage 5 (some .int) 5 [.ref (ad 10), .int i, .int w] (fun rv RJ => Sm I RJ ∧ rv = sStage I i w) := by
  have hM0 := hM
  obtain ⟨m0, ml1, ml2, ml3, ml4, ml5, ml6, ml7, ml8, ml9, ml10, ml11, ml12, ml13, ml14, ml15, ml16, ml17, ml21, ml25, ml26, mk1, mk2, mk3, mk4, mk5, mk6, mk7, mk8, mk9, mk10, mk11, mk12, mk13, mk14, mk15, mk16, mk17, mk21, mk25, mk26⟩ := hM
  have he := hw.1
  have hn8 := hw.2.1
  refine MI.of (by decide) (Nat.le_of_ble_eq_true rfl) ?_
  intro p ee s m args below meth c ls Qf C hret hP hl
  have C : Cx E p s m args c cX7_stage RX7 5 := C
  have hx := C.1
  have hb := C.2.1
  have hS : va_S (AG E) s.heap s.heap [] := va_S.rf
  have hl : lv_has ls 5 [(0, .ref (ad 10)), (1, .int i), (2, .int w)] := hl
  refine lv_iload_n hx hb dX7_stage_0 rfl (lv_at hl 1 rfl) ?_
  refine lv_iconst (v := nI 0) hx hb dX7_stage_1 (by decide) ?_
  refine lv_bipush (v := nI 7) hx hb dX7_stage_2 (by decide) ?_
  refine k_X7_75 C hP hS (c_X7_inN i 0 7 (by first | decide | omega) (by first | decide | omega)) ⟨Nat.le_of_ble_eq_true rfl, Nat.le_of_ble_eq_true rfl⟩ ⟨Nat.zero_le _, Nat.zero_le _⟩ hl.1 (Nat.le_of_ble_eq_true rfl) dX7_stage_4 (fun v1 I2 H locs hv3 hP hS => ?_)
  obtain ⟨eI2, hv3⟩ := hv3
  rw [eI2] at hP
  clear eI2
  rcases hv3 with ⟨rfl, hc4⟩ | ⟨rfl, hc4⟩
  · refine z_eq1 C dX7_stage_7 (tgt := 19) (by decide) ?_
    refine lv_iload_n hx hb dX7_stage_10 rfl (lv_at hl 2 rfl) ?_
    refine lv_iconst (v := nI 0) hx hb dX7_stage_11 (by decide) ?_
    refine lv_iconst (v := nI 1) hx hb dX7_stage_12 (by decide) ?_
    refine k_X7_75 C hP hS (c_X7_inN w 0 1 (by first | decide | omega) (by first | decide | omega)) ⟨Nat.le_of_ble_eq_true rfl, Nat.le_of_ble_eq_true rfl⟩ ⟨Nat.zero_le _, Nat.zero_le _⟩ hl.1 (Nat.le_of_ble_eq_true rfl) dX7_stage_13 (fun v5 I6 H locs hv7 hP hS => ?_)
    obtain ⟨eI6, hv7⟩ := hv7
    rw [eI6] at hP
    clear eI6
    rcases hv7 with ⟨rfl, hc8⟩ | ⟨rfl, hc8⟩
    · refine z_ne1 C dX7_stage_16 (tgt := 22) (by decide) ?_
      obtain ⟨i0, hi0, ei0⟩ : ∃ j : Nat, j < 8 ∧ i = nI j := ⟨i.toInt.toNat, by omega, i32_eq (by omega) (by omega)⟩
      have ci0 : tn i = i0 := by rw [ei0]; exact nI_clamp (by omega)
      rw [ei0] at hl
      refine lv_aload_n hx hb dX7_stage_22 rfl (lv_at hl 0 rfl) ?_
      refine k_X7_136 C hP hS (by assumption) (c_X7_pack hM0 hw) ⟨Nat.le_of_ble_eq_true rfl, Nat.le_of_ble_eq_true rfl⟩ ⟨Nat.zero_le _, Nat.zero_le _⟩ hl.1 (Nat.le_of_ble_eq_true rfl) dX7_stage_23 (fun v9 I10 H locs hv11 hP hS => ?_)
      rcases hv11 with ⟨hv1, pl, hpk⟩ | ⟨hv1, hsm, hno⟩
      · subst hv1
        refine z_ne1 C dX7_stage_26 (tgt := 32) (by decide) ?_
        refine lv_iconst (v := nI 0) hx hb dX7_stage_32 (by decide) ?_
        refine lv_istore_n (lv' := [(3, .int (nI 0)), (0, .ref (ad 10)), (1, .int (nI i0)), (2, .int w)]) hx hb dX7_stage_33 rfl hl (by decide) rfl (fun ls hl => ?_)
        refine lv_iconst (v := nI 0) hx hb dX7_stage_34 (by decide) ?_
        refine lv_istore (lv' := [(4, .int (nI 0)), (3, .int (nI 0)), (0, .ref (ad 10)), (1, .int (nI i0)), (2, .int w)]) hx hb dX7_stage_35 hl (by decide) rfl (fun ls hl => ?_)
        have hL37_12 : ∀ (d : Nat) (j : Nat) (H : Heap) (locs : List Loc) (ls : Array Slot), mn I < j + d → (j ≤ mn I) → Hp E K L ad I10 H → va_S (AG E) s.heap H locs → lv_has ls 5 [(0, .ref (ad 10)), (1, .int (nI i0)), (2, .int w), (3, .int (nI (sN (atF pl i0) j))), (4, .int (nI j))] → W p l ee (rmk 5) s m args below meth c H locs 0 0 Qf (F0 m 37 ls []) := by
          intro d37
          induction d37 with
          | zero => intro j H locs ls hd37 hj _ _ _; exact absurd hd37 (by omega)
          | succ d37 ih37 =>
            intro j H locs ls hd37 hj hP hS hl
            have hJ0 : I10 10 0 = nI (mn I) := by rw [hpk.2.1 10 (by decide)]; exact he
            refine lv_iload hx hb dX7_stage_37 (lv_at hl 4 rfl) ?_
            refine lv_aload_n hx hb dX7_stage_39 rfl (lv_at hl 0 rfl) ?_
            refine f_X7_71 C hP (by first | assumption | exact hKa _ (by omega)) dX7_stage_40 ?_
            refine r_eqi (y := (nI (mn I))) (hJ0) ?_
            refine b_geN C (by omega) (by omega) dX7_stage_43 (tgt := 74) (by decide) (fun h13 => ?_) (fun h13 => ?_)
            · refine lv_iload_n hx hb dX7_stage_74 rfl (lv_at hl 2 rfl) ?_
              refine z_ne C dX7_stage_75 (tgt := 82) (by decide) (fun h14 => ?_) (fun h14 => ?_)
              · have h14t : (w : Int32).toInt ≠ 0 := fun q => h14 (i32_eq (k := 0) (by decide) q)
                have hgi := hpk.2.2.2 i0 (by omega)
                refine lv_aload_n hx hb dX7_stage_82 rfl (lv_at hl 0 rfl) ?_
                refine f_X7_46 (q := 23) C hP (by assumption) (by assumption) rfl dX7_stage_83 ?_
                refine lv_iload_n hx hb dX7_stage_86 rfl (lv_at hl 1 rfl) ?_
                refine r_iald (n := 8) C hP (by assumption) (by omega) (by decide) dX7_stage_87 ?_
                refine r_eqi (y := (nI (szP I pl i0 (mn I)))) (hgi.2.1) ?_
                exact hret _ _ _ _ _ _ dX7_stage_88 hP hS (⟨fun a ha => hpk.2.1 a (by omega), by unfold sStage; rw [if_pos ⟨⟨by omega, by omega⟩, by omega, by omega⟩, hpk.1]; dsimp only; rw [if_neg (by omega), ci0]⟩)
              · have h14t : (w : Int32).toInt = 0 := by rw [h14]; rfl
                refine lv_iload_n hx hb dX7_stage_78 rfl (lv_at hl 3 rfl) ?_
                refine lv_goto (tgt := 88) hx hb dX7_stage_79 (by decide) ?_
                exact hret _ _ _ _ _ _ dX7_stage_88 hP hS (⟨fun a ha => hpk.2.1 a (by omega), by unfold sStage; rw [if_pos ⟨⟨by omega, by omega⟩, by omega, by omega⟩, hpk.1]; dsimp only; rw [if_pos (by omega), ci0, show mn I = j by omega]⟩)
            · have hpj := hpk.2.2.1 j (by omega)
              refine lv_iload_n hx hb dX7_stage_46 rfl (lv_at hl 3 rfl) ?_
              refine lv_aload_n hx hb dX7_stage_47 rfl (lv_at hl 0 rfl) ?_
              refine f_X7_40 (q := 21) C hP (by assumption) (by assumption) rfl dX7_stage_48 ?_
              refine lv_iload hx hb dX7_stage_51 (lv_at hl 4 rfl) ?_
              refine r_iald (n := 8) C hP (by assumption) (by omega) (by decide) dX7_stage_53 ?_
              refine r_eqi (y := (nI (pl j))) (hpj.1) ?_
              refine lv_iload_n hx hb dX7_stage_54 rfl (lv_at hl 1 rfl) ?_
              refine b_neN C (by omega) (by omega) dX7_stage_55 (tgt := 65) (by decide) (fun h15 => ?_) (fun h15 => ?_)
              · refine lv_iconst (v := nI 0) hx hb dX7_stage_65 (by decide) ?_
                refine lv_ior hx hb dX7_stage_66 ?_
                refine lv_topi (fun x16 ex16 => ?_)
                refine r_eqi (y := nI (sN (atF pl i0) (j + 1))) (by rw [ex16]; simp only [sN]; first | (rw [or_nI0]; simp [atF, h15]; done) | (rw [or_sb (sN_lt _ _) (by omega)]; simp [atF, h15])) ?_
                refine lv_istore_n (lv' := [(3, .int (nI (sN (atF pl i0) (j + 1)))), (0, .ref (ad 10)), (1, .int (nI i0)), (2, .int w), (4, .int (nI j))]) hx hb dX7_stage_67 rfl hl (by decide) rfl (fun ls hl => ?_)
                refine lv_iinc (v := nI (j + 1)) (lv' := [(4, .int (nI (j + 1))), (3, .int (nI (sN (atF pl i0) (j + 1)))), (0, .ref (ad 10)), (1, .int (nI i0)), (2, .int w)]) hx hb dX7_stage_68 hl (k := 4) rfl (nI_1 _) (by decide) rfl (fun ls hl => ?_)
                refine lv_goto (tgt := 37) hx hb dX7_stage_71 (by decide) ?_
                exact ih37 (j + 1) _ _ _ (by omega) (by omega) hP hS (lv_sub hl [2, 3, 4, 1, 0] rfl)
              · refine lv_iconst (v := nI 1) hx hb dX7_stage_58 (by decide) ?_
                refine lv_iload hx hb dX7_stage_59 (lv_at hl 4 rfl) ?_
                refine lv_ishl hx hb dX7_stage_61 ?_
                refine lv_topi (fun x17 ex17 => ?_)
                refine lv_goto (tgt := 66) hx hb dX7_stage_62 (by decide) ?_
                refine lv_ior hx hb dX7_stage_66 ?_
                refine lv_topi (fun x18 ex18 => ?_)
                refine r_eqi (y := nI (sN (atF pl i0) (j + 1))) (by rw [ex18, ex17]; simp only [sN]; first | (rw [or_nI0]; simp [atF, h15]; done) | (rw [or_sb (sN_lt _ _) (by omega)]; simp [atF, h15])) ?_
                refine lv_istore_n (lv' := [(3, .int (nI (sN (atF pl i0) (j + 1)))), (0, .ref (ad 10)), (1, .int (nI i0)), (2, .int w), (4, .int (nI j))]) hx hb dX7_stage_67 rfl hl (by decide) rfl (fun ls hl => ?_)
                refine lv_iinc (v := nI (j + 1)) (lv' := [(4, .int (nI (j + 1))), (3, .int (nI (sN (atF pl i0) (j + 1)))), (0, .ref (ad 10)), (1, .int (nI i0)), (2, .int w)]) hx hb dX7_stage_68 hl (k := 4) rfl (nI_1 _) (by decide) rfl (fun ls hl => ?_)
                refine lv_goto (tgt := 37) hx hb dX7_stage_71 (by decide) ?_
                exact ih37 (j + 1) _ _ _ (by omega) (by omega) hP hS (lv_sub hl [2, 3, 4, 1, 0] rfl)
        exact hL37_12 (mn I + 1) 0 _ _ _ (by omega) (by omega) hP hS (lv_sub hl [2, 3, 4, 1, 0] rfl)
      · subst hv1
        refine z_ne0 C dX7_stage_26 (tgt := 32) (by decide) ?_
        refine lv_bipush (v := (-3)) hx hb dX7_stage_29 (by decide) ?_
        exact hret _ _ _ _ _ _ dX7_stage_31 hP hS (⟨hsm, by unfold sStage; rw [if_pos ⟨⟨by omega, by omega⟩, by omega, by omega⟩, hno]⟩)
    · refine z_ne0 C dX7_stage_16 (tgt := 22) (by decide) ?_
      refine lv_bipush (v := (-2)) hx hb dX7_stage_19 (by decide) ?_
      exact hret _ _ _ _ _ _ dX7_stage_21 hP hS (⟨fun _ _ => rfl, by unfold sStage; rw [if_neg (by omega)]⟩)
  · refine z_eq0 C dX7_stage_7 (tgt := 19) (by decide) ?_
    refine lv_bipush (v := (-2)) hx hb dX7_stage_19 (by decide) ?_
    exact hret _ _ _ _ _ _ dX7_stage_21 hP hS (⟨fun _ _ => rfl, by unfold sStage; rw [if_neg (by omega)]⟩)
set_option maxHeartbeats 4000000 in
set_option maxRecDepth 100000 in
theorem c_X7_tell {l : Launch} {E : En} {K : Nat → Nat} {L : Nat → Nat → Bool} {ad : Nat → Nat} {I : Nat → Nat → Int32} (f n : Int32) (hM : IsM K L) : MI l E K L ad I yX7_tell cX7_tell 4 (some .int) 2 [.ref (ad 10), .int f, .int n] (fun rv RJ => rv = (sTell I f n).1 ∧ RJ = (sTell I f n).2) := by
  have hM0 := hM
  obtain ⟨m0, ml1, ml2, ml3, ml4, ml5, ml6, ml7, ml8, ml9, ml10, ml11, ml12, ml13, ml14, ml15, ml16, ml17, ml21, ml25, ml26, mk1, mk2, mk3, mk4, mk5, mk6, mk7, mk8, mk9, mk10, mk11, mk12, mk13, mk14, mk15, mk16, mk17, mk21, mk25, mk26⟩ := hM
  have h00 : (nI 0).toInt = 0 := rfl
  have h65 : (65535 : Int32).toInt = 65535 := rfl
  refine MI.of (by decide) (Nat.le_of_ble_eq_true rfl) ?_
  intro p ee s m args below meth c ls Qf C hret hP hl
  have C : Cx E p s m args c cX7_tell RX7 4 := C
  have hx := C.1
  have hb := C.2.1
  have hS : va_S (AG E) s.heap s.heap [] := va_S.rf
  have hl : lv_has ls 4 [(0, .ref (ad 10)), (1, .int f), (2, .int n)] := hl
  refine lv_iload_n hx hb dX7_tell_0 rfl (lv_at hl 1 rfl) ?_
  refine k_X7_79 C hP hS (c_X7_isField f) ⟨Nat.le_of_ble_eq_true rfl, Nat.le_of_ble_eq_true rfl⟩ ⟨Nat.zero_le _, Nat.zero_le _⟩ hl.1 (Nat.le_of_ble_eq_true rfl) dX7_tell_1 (fun v1 I2 H locs hv3 hP hS => ?_)
  obtain ⟨eI2, hv3⟩ := hv3
  rw [eI2] at hP
  clear eI2
  rcases hv3 with ⟨rfl, hc4⟩ | ⟨rfl, hc4⟩
  · refine z_ne1 C dX7_tell_4 (tgt := 9) (by decide) ?_
    refine lv_iload_n hx hb dX7_tell_9 rfl (lv_at hl 2 rfl) ?_
    refine lv_iconst (v := nI 0) hx hb dX7_tell_10 (by decide) ?_
    refine lv_sipush (v := nI 255) hx hb dX7_tell_11 (by decide) ?_
    refine k_X7_75 C hP hS (c_X7_inN n 0 255 (by first | decide | omega) (by first | decide | omega)) ⟨Nat.le_of_ble_eq_true rfl, Nat.le_of_ble_eq_true rfl⟩ ⟨Nat.zero_le _, Nat.zero_le _⟩ hl.1 (Nat.le_of_ble_eq_true rfl) dX7_tell_14 (fun v5 I6 H locs hv7 hP hS => ?_)
    obtain ⟨eI6, hv7⟩ := hv7
    rw [eI6] at hP
    clear eI6
    rcases hv7 with ⟨rfl, hc8⟩ | ⟨rfl, hc8⟩
    · refine z_ne1 C dX7_tell_17 (tgt := 23) (by decide) ?_
      obtain ⟨j, hj, ej⟩ : ∃ j : Nat, j < 6 ∧ f = nI j := ⟨f.toInt.toNat, by omega, i32_eq (by omega) (by omega)⟩
      have cj : tn f = j := by rw [ej]; exact nI_clamp (by omega)
      rw [ej] at hl
      refine lv_aload_n hx hb dX7_tell_23 rfl (lv_at hl 0 rfl) ?_
      refine f_X7_31 (q := 18) C hP (by assumption) (by assumption) rfl dX7_tell_24 ?_
      refine lv_iload_n hx hb dX7_tell_27 rfl (lv_at hl 1 rfl) ?_
      refine r_iald (n := 6) C hP (by assumption) (by omega) (by decide) dX7_tell_28 ?_
      refine lv_istore_n (lv' := [(3, .int (I 18 j)), (0, .ref (ad 10)), (1, .int (nI j)), (2, .int n)]) hx hb dX7_tell_29 rfl hl (by decide) rfl (fun ls hl => ?_)
      refine lv_aload_n hx hb dX7_tell_30 rfl (lv_at hl 1 rfl) ?_
      refine f_X7_31 (q := 18) C hP (by assumption) (by assumption) rfl dX7_tell_31 ?_
      refine lv_iload_n hx hb dX7_tell_34 rfl (lv_at hl 2 rfl) ?_
      refine lv_iload_n hx hb dX7_tell_35 rfl (lv_at hl 3 rfl) ?_
      refine r_iast (n := 6) C hP hS (by assumption) (by omega) (by decide) dX7_tell_36 (fun H locs hP hS => ?_)
      obtain ⟨I9, eI9⟩ : ∃ Znew : Nat → Nat → Int32, Znew = up2 I 18 j n := ⟨_, rfl⟩
      rw [← eI9] at hP
      refine lv_iload_n hx hb dX7_tell_37 rfl (lv_at hl 0 rfl) ?_
      exact hret _ _ _ _ _ _ dX7_tell_38 hP hS (by unfold sTell; rw [if_pos (by assumption), if_pos (by omega), cj]; refine ⟨rfl, ?_⟩; subst_vars; rfl)
    · refine z_ne0 C dX7_tell_17 (tgt := 23) (by decide) ?_
      refine lv_bipush (v := (-2)) hx hb dX7_tell_20 (by decide) ?_
      exact hret _ _ _ _ _ _ dX7_tell_22 hP hS (by unfold sTell; rw [if_pos (by assumption), if_neg (by omega)]; exact ⟨rfl, rfl⟩)
  · refine z_ne0 C dX7_tell_4 (tgt := 9) (by decide) ?_
    refine lv_iconst (v := (-1)) hx hb dX7_tell_7 (by decide) ?_
    exact hret _ _ _ _ _ _ dX7_tell_8 hP hS (by unfold sTell; rw [if_neg (by assumption)]; exact ⟨rfl, rfl⟩)
set_option maxHeartbeats 4000000 in
set_option maxRecDepth 100000 in
theorem c_X7_put {l : Launch} {E : En} {K : Nat → Nat} {L : Nat → Nat → Bool} {ad : Nat → Nat} {I : Nat → Nat → Int32} (f n : Int32) (hM : IsM K L) : MI l E K L ad I yX7_put cX7_put 4 (some .int) 2 [.ref (ad 10), .int f, .int n] (fun rv RJ => rv = (sPut I f n).1 ∧ RJ = (sPut I f n).2) := by
  have hM0 := hM
  obtain ⟨m0, ml1, ml2, ml3, ml4, ml5, ml6, ml7, ml8, ml9, ml10, ml11, ml12, ml13, ml14, ml15, ml16, ml17, ml21, ml25, ml26, mk1, mk2, mk3, mk4, mk5, mk6, mk7, mk8, mk9, mk10, mk11, mk12, mk13, mk14, mk15, mk16, mk17, mk21, mk25, mk26⟩ := hM
  have h00 : (nI 0).toInt = 0 := rfl
  have h65 : (65535 : Int32).toInt = 65535 := rfl
  refine MI.of (by decide) (Nat.le_of_ble_eq_true rfl) ?_
  intro p ee s m args below meth c ls Qf C hret hP hl
  have C : Cx E p s m args c cX7_put RX7 4 := C
  have hx := C.1
  have hb := C.2.1
  have hS : va_S (AG E) s.heap s.heap [] := va_S.rf
  have hl : lv_has ls 4 [(0, .ref (ad 10)), (1, .int f), (2, .int n)] := hl
  refine lv_iload_n hx hb dX7_put_0 rfl (lv_at hl 1 rfl) ?_
  refine lv_iconst (v := nI 0) hx hb dX7_put_1 (by decide) ?_
  refine lv_iconst (v := nI 3) hx hb dX7_put_2 (by decide) ?_
  refine k_X7_75 C hP hS (c_X7_inN f 0 3 (by first | decide | omega) (by first | decide | omega)) ⟨Nat.le_of_ble_eq_true rfl, Nat.le_of_ble_eq_true rfl⟩ ⟨Nat.zero_le _, Nat.zero_le _⟩ hl.1 (Nat.le_of_ble_eq_true rfl) dX7_put_3 (fun v1 I2 H locs hv3 hP hS => ?_)
  obtain ⟨eI2, hv3⟩ := hv3
  rw [eI2] at hP
  clear eI2
  rcases hv3 with ⟨rfl, hc4⟩ | ⟨rfl, hc4⟩
  · refine z_ne1 C dX7_put_6 (tgt := 11) (by decide) ?_
    refine lv_iload_n hx hb dX7_put_11 rfl (lv_at hl 2 rfl) ?_
    refine lv_iconst (v := nI 0) hx hb dX7_put_12 (by decide) ?_
    refine lv_ldc hx hb C.2.2.2.1 (C.2.2.1 _ tk_X7_146) dX7_put_13 ?_
    refine k_X7_75 C hP hS (c_X7_in n ((nI 0)) 65535) ⟨Nat.le_of_ble_eq_true rfl, Nat.le_of_ble_eq_true rfl⟩ ⟨Nat.zero_le _, Nat.zero_le _⟩ hl.1 (Nat.le_of_ble_eq_true rfl) dX7_put_15 (fun v5 I6 H locs hv7 hP hS => ?_)
    obtain ⟨eI6, hv7⟩ := hv7
    rw [eI6] at hP
    clear eI6
    rcases hv7 with ⟨rfl, hc8⟩ | ⟨rfl, hc8⟩
    · refine z_ne1 C dX7_put_18 (tgt := 24) (by decide) ?_
      obtain ⟨j, hj, ej⟩ : ∃ j : Nat, j < 4 ∧ f = nI j := ⟨f.toInt.toNat, by omega, i32_eq (by omega) (by omega)⟩
      have cj : tn f = j := by rw [ej]; exact nI_clamp (by omega)
      rw [ej] at hl
      refine lv_aload_n hx hb dX7_put_24 rfl (lv_at hl 0 rfl) ?_
      refine f_X7_28 (q := 17) C hP (by assumption) (by assumption) rfl dX7_put_25 ?_
      refine lv_iload_n hx hb dX7_put_28 rfl (lv_at hl 1 rfl) ?_
      refine r_iald (n := 4) C hP (by assumption) (by omega) (by decide) dX7_put_29 ?_
      refine lv_istore_n (lv' := [(3, .int (I 17 j)), (0, .ref (ad 10)), (1, .int (nI j)), (2, .int n)]) hx hb dX7_put_30 rfl hl (by decide) rfl (fun ls hl => ?_)
      refine lv_aload_n hx hb dX7_put_31 rfl (lv_at hl 1 rfl) ?_
      refine f_X7_28 (q := 17) C hP (by assumption) (by assumption) rfl dX7_put_32 ?_
      refine lv_iload_n hx hb dX7_put_35 rfl (lv_at hl 2 rfl) ?_
      refine lv_iload_n hx hb dX7_put_36 rfl (lv_at hl 3 rfl) ?_
      refine r_iast (n := 4) C hP hS (by assumption) (by omega) (by decide) dX7_put_37 (fun H locs hP hS => ?_)
      obtain ⟨I9, eI9⟩ : ∃ Znew : Nat → Nat → Int32, Znew = up2 I 17 j n := ⟨_, rfl⟩
      rw [← eI9] at hP
      refine lv_iload_n hx hb dX7_put_38 rfl (lv_at hl 0 rfl) ?_
      exact hret _ _ _ _ _ _ dX7_put_39 hP hS (by unfold sPut; rw [if_pos (by omega), if_pos (by omega), cj]; refine ⟨rfl, ?_⟩; subst_vars; rfl)
    · refine z_ne0 C dX7_put_18 (tgt := 24) (by decide) ?_
      refine lv_bipush (v := (-2)) hx hb dX7_put_21 (by decide) ?_
      exact hret _ _ _ _ _ _ dX7_put_23 hP hS (by unfold sPut; rw [if_pos (by omega), if_neg (by omega)]; exact ⟨rfl, rfl⟩)
  · refine z_ne0 C dX7_put_6 (tgt := 11) (by decide) ?_
    refine lv_iconst (v := (-1)) hx hb dX7_put_9 (by decide) ?_
    exact hret _ _ _ _ _ _ dX7_put_10 hP hS (by unfold sPut; rw [if_neg (by omega)]; exact ⟨rfl, rfl⟩)
set_option maxHeartbeats 4000000 in
set_option maxRecDepth 100000 in
theorem c_X7_register {l : Launch} {E : En} {K : Nat → Nat} {L : Nat → Nat → Bool} {ad : Nat → Nat} {I : Nat → Nat → Int32} (f : Int32) (hM : IsM K L) : MI l E K L ad I yX7_register cX7_register 2 (some .int) 1 [.ref (ad 10), .int f] (fun rv RJ => RJ = I ∧ rv = sReg I f) := by
  have hM0 := hM
  obtain ⟨m0, ml1, ml2, ml3, ml4, ml5, ml6, ml7, ml8, ml9, ml10, ml11, ml12, ml13, ml14, ml15, ml16, ml17, ml21, ml25, ml26, mk1, mk2, mk3, mk4, mk5, mk6, mk7, mk8, mk9, mk10, mk11, mk12, mk13, mk14, mk15, mk16, mk17, mk21, mk25, mk26⟩ := hM
  have h00 : (nI 0).toInt = 0 := rfl
  have h65 : (65535 : Int32).toInt = 65535 := rfl
  refine MI.of (by decide) (Nat.le_of_ble_eq_true rfl) ?_
  intro p ee s m args below meth c ls Qf C hret hP hl
  have C : Cx E p s m args c cX7_register RX7 2 := C
  have hx := C.1
  have hb := C.2.1
  have hS : va_S (AG E) s.heap s.heap [] := va_S.rf
  have hl : lv_has ls 2 [(0, .ref (ad 10)), (1, .int f)] := hl
  refine lv_iload_n hx hb dX7_register_0 rfl (lv_at hl 1 rfl) ?_
  refine lv_iconst (v := nI 0) hx hb dX7_register_1 (by decide) ?_
  refine lv_iconst (v := nI 3) hx hb dX7_register_2 (by decide) ?_
  refine k_X7_75 C hP hS (c_X7_inN f 0 3 (by first | decide | omega) (by first | decide | omega)) ⟨Nat.le_of_ble_eq_true rfl, Nat.le_of_ble_eq_true rfl⟩ ⟨Nat.zero_le _, Nat.zero_le _⟩ hl.1 (Nat.le_of_ble_eq_true rfl) dX7_register_3 (fun v1 I2 H locs hv3 hP hS => ?_)
  obtain ⟨eI2, hv3⟩ := hv3
  rw [eI2] at hP
  clear eI2
  rcases hv3 with ⟨rfl, hc4⟩ | ⟨rfl, hc4⟩
  · refine z_eq1 C dX7_register_6 (tgt := 18) (by decide) ?_
    obtain ⟨j, hj, ej⟩ : ∃ j : Nat, j < 4 ∧ f = nI j := ⟨f.toInt.toNat, by omega, i32_eq (by omega) (by omega)⟩
    have cj : tn f = j := by rw [ej]; exact nI_clamp (by omega)
    rw [ej] at hl
    refine lv_aload_n hx hb dX7_register_9 rfl (lv_at hl 0 rfl) ?_
    refine f_X7_28 (q := 17) C hP (by assumption) (by assumption) rfl dX7_register_10 ?_
    refine lv_iload_n hx hb dX7_register_13 rfl (lv_at hl 1 rfl) ?_
    refine r_iald (n := 4) C hP (by assumption) (by omega) (by decide) dX7_register_14 ?_
    refine lv_goto (tgt := 19) hx hb dX7_register_15 (by decide) ?_
    exact hret _ _ _ _ _ _ dX7_register_19 hP hS (⟨rfl, by unfold sReg; rw [if_pos (by omega), cj]⟩)
  · refine z_eq0 C dX7_register_6 (tgt := 18) (by decide) ?_
    refine lv_iconst (v := (-1)) hx hb dX7_register_18 (by decide) ?_
    exact hret _ _ _ _ _ _ dX7_register_19 hP hS (⟨rfl, by unfold sReg; rw [if_neg (by omega)]⟩)
set_option maxHeartbeats 4000000 in
set_option maxRecDepth 100000 in
theorem c_X7_out {l : Launch} {E : En} {K : Nat → Nat} {L : Nat → Nat → Bool} {ad : Nat → Nat} {I : Nat → Nat → Int32} (w : Int32) (hM : IsM K L) : MI l E K L ad I yX7_out cX7_out 2 (some .int) 1 [.ref (ad 10), .int w] (fun rv RJ => RJ = I ∧ rv = sOut I w) := by
  have hM0 := hM
  obtain ⟨m0, ml1, ml2, ml3, ml4, ml5, ml6, ml7, ml8, ml9, ml10, ml11, ml12, ml13, ml14, ml15, ml16, ml17, ml21, ml25, ml26, mk1, mk2, mk3, mk4, mk5, mk6, mk7, mk8, mk9, mk10, mk11, mk12, mk13, mk14, mk15, mk16, mk17, mk21, mk25, mk26⟩ := hM
  have h00 : (nI 0).toInt = 0 := rfl
  have h65 : (65535 : Int32).toInt = 65535 := rfl
  refine MI.of (by decide) (Nat.le_of_ble_eq_true rfl) ?_
  intro p ee s m args below meth c ls Qf C hret hP hl
  have C : Cx E p s m args c cX7_out RX7 2 := C
  have hx := C.1
  have hb := C.2.1
  have hS : va_S (AG E) s.heap s.heap [] := va_S.rf
  have hl : lv_has ls 2 [(0, .ref (ad 10)), (1, .int w)] := hl
  refine lv_iload_n hx hb dX7_out_0 rfl (lv_at hl 1 rfl) ?_
  refine lv_iconst (v := nI 0) hx hb dX7_out_1 (by decide) ?_
  refine lv_bipush (v := nI 6) hx hb dX7_out_2 (by decide) ?_
  refine k_X7_75 C hP hS (c_X7_inN w 0 6 (by first | decide | omega) (by first | decide | omega)) ⟨Nat.le_of_ble_eq_true rfl, Nat.le_of_ble_eq_true rfl⟩ ⟨Nat.zero_le _, Nat.zero_le _⟩ hl.1 (Nat.le_of_ble_eq_true rfl) dX7_out_4 (fun v1 I2 H locs hv3 hP hS => ?_)
  obtain ⟨eI2, hv3⟩ := hv3
  rw [eI2] at hP
  clear eI2
  rcases hv3 with ⟨rfl, hc4⟩ | ⟨rfl, hc4⟩
  · refine z_ne1 C dX7_out_7 (tgt := 13) (by decide) ?_
    refine lv_aload_n hx hb dX7_out_13 rfl (lv_at hl 0 rfl) ?_
    refine f_X7_168 C hP (by first | assumption | exact hKa _ (by omega)) dX7_out_14 ?_
    refine z_ne C dX7_out_17 (tgt := 25) (by decide) (fun h5 => ?_) (fun h5 => ?_)
    · refine lv_iload_n hx hb dX7_out_25 rfl (lv_at hl 1 rfl) ?_
      refine lv_bipush (v := nI 6) hx hb dX7_out_26 (by decide) ?_
      refine b_ne C dX7_out_28 (tgt := 38) (by decide) (fun h6 => ?_) (fun h6 => ?_)
      · have h6t : (w : Int32).toInt ≠ 6 := fun q => h6 (i32_eq (by decide) q)
        obtain ⟨j, hj, ej⟩ : ∃ j : Nat, j < 6 ∧ w = nI j := ⟨w.toInt.toNat, by omega, i32_eq (by omega) (by omega)⟩
        have cj : tn w = j := by rw [ej]; exact nI_clamp (by omega)
        rw [ej] at hl
        refine lv_aload_n hx hb dX7_out_38 rfl (lv_at hl 0 rfl) ?_
        refine f_X7_58 (q := 27) C hP (by assumption) (by assumption) rfl dX7_out_39 ?_
        refine lv_iload_n hx hb dX7_out_42 rfl (lv_at hl 1 rfl) ?_
        refine r_iald (n := 6) C hP (by assumption) (by omega) (by decide) dX7_out_43 ?_
        exact hret _ _ _ _ _ _ dX7_out_44 hP hS (⟨rfl, by unfold sOut; rw [if_pos (by omega), if_neg (by assumption), if_neg (by omega), cj]⟩)
      · have h6t : (w : Int32).toInt = 6 := by rw [h6]; rfl
        refine lv_aload_n hx hb dX7_out_31 rfl (lv_at hl 0 rfl) ?_
        refine f_X7_155 C hP (by first | assumption | exact hKa _ (by omega)) dX7_out_32 ?_
        refine lv_goto (tgt := 44) hx hb dX7_out_35 (by decide) ?_
        exact hret _ _ _ _ _ _ dX7_out_44 hP hS (⟨rfl, by unfold sOut; rw [if_pos (by omega), if_neg (by assumption), if_pos (by omega)]⟩)
    · refine lv_bipush (v := (-6)) hx hb dX7_out_20 (by decide) ?_
      refine lv_goto (tgt := 44) hx hb dX7_out_22 (by decide) ?_
      exact hret _ _ _ _ _ _ dX7_out_44 hP hS (⟨rfl, by unfold sOut; rw [if_pos (by omega), if_pos (by assumption)]⟩)
  · refine z_ne0 C dX7_out_7 (tgt := 13) (by decide) ?_
    refine lv_bipush (v := (-2)) hx hb dX7_out_10 (by decide) ?_
    exact hret _ _ _ _ _ _ dX7_out_12 hP hS (⟨rfl, by unfold sOut; rw [if_neg (by omega)]⟩)
set_option maxHeartbeats 4000000 in
set_option maxRecDepth 100000 in
theorem c_X7_took {l : Launch} {E : En} {K : Nat → Nat} {L : Nat → Nat → Bool} {ad : Nat → Nat} {I : Nat → Nat → Int32} (t q : Int32) (hM : IsM K L) : MI l E K L ad I yX7_took cX7_took 3 (some .int) 1 [.ref (ad 10), .int t, .int q] (fun rv RJ => RJ = I ∧ rv = sTook I t q) := by
  have hM0 := hM
  obtain ⟨m0, ml1, ml2, ml3, ml4, ml5, ml6, ml7, ml8, ml9, ml10, ml11, ml12, ml13, ml14, ml15, ml16, ml17, ml21, ml25, ml26, mk1, mk2, mk3, mk4, mk5, mk6, mk7, mk8, mk9, mk10, mk11, mk12, mk13, mk14, mk15, mk16, mk17, mk21, mk25, mk26⟩ := hM
  have h00 : (nI 0).toInt = 0 := rfl
  have h65 : (65535 : Int32).toInt = 65535 := rfl
  refine MI.of (by decide) (Nat.le_of_ble_eq_true rfl) ?_
  intro p ee s m args below meth c ls Qf C hret hP hl
  have C : Cx E p s m args c cX7_took RX7 3 := C
  have hx := C.1
  have hb := C.2.1
  have hS : va_S (AG E) s.heap s.heap [] := va_S.rf
  have hl : lv_has ls 3 [(0, .ref (ad 10)), (1, .int t), (2, .int q)] := hl
  refine lv_iload_n hx hb dX7_took_0 rfl (lv_at hl 1 rfl) ?_
  refine lv_iconst (v := nI 0) hx hb dX7_took_1 (by decide) ?_
  refine lv_bipush (v := nI 7) hx hb dX7_took_2 (by decide) ?_
  refine k_X7_75 C hP hS (c_X7_inN t 0 7 (by first | decide | omega) (by first | decide | omega)) ⟨Nat.le_of_ble_eq_true rfl, Nat.le_of_ble_eq_true rfl⟩ ⟨Nat.zero_le _, Nat.zero_le _⟩ hl.1 (Nat.le_of_ble_eq_true rfl) dX7_took_4 (fun v1 I2 H locs hv3 hP hS => ?_)
  obtain ⟨eI2, hv3⟩ := hv3
  rw [eI2] at hP
  clear eI2
  rcases hv3 with ⟨rfl, hc4⟩ | ⟨rfl, hc4⟩
  · refine z_eq1 C dX7_took_7 (tgt := 19) (by decide) ?_
    refine lv_iload_n hx hb dX7_took_10 rfl (lv_at hl 2 rfl) ?_
    refine lv_iconst (v := nI 0) hx hb dX7_took_11 (by decide) ?_
    refine lv_iconst (v := nI 3) hx hb dX7_took_12 (by decide) ?_
    refine k_X7_75 C hP hS (c_X7_inN q 0 3 (by first | decide | omega) (by first | decide | omega)) ⟨Nat.le_of_ble_eq_true rfl, Nat.le_of_ble_eq_true rfl⟩ ⟨Nat.zero_le _, Nat.zero_le _⟩ hl.1 (Nat.le_of_ble_eq_true rfl) dX7_took_13 (fun v5 I6 H locs hv7 hP hS => ?_)
    obtain ⟨eI6, hv7⟩ := hv7
    rw [eI6] at hP
    clear eI6
    rcases hv7 with ⟨rfl, hc8⟩ | ⟨rfl, hc8⟩
    · refine z_ne1 C dX7_took_16 (tgt := 22) (by decide) ?_
      refine lv_iload_n hx hb dX7_took_22 rfl (lv_at hl 2 rfl) ?_
      refine lv_aload_n hx hb dX7_took_23 rfl (lv_at hl 0 rfl) ?_
      refine f_X7_155 C hP (by first | assumption | exact hKa _ (by omega)) dX7_took_24 ?_
      refine b_ge C dX7_took_27 (tgt := 44) (by decide) (fun h9 => ?_) (fun h9 => ?_)
      · refine lv_bipush (v := (-6)) hx hb dX7_took_44 (by decide) ?_
        exact hret _ _ _ _ _ _ dX7_took_46 hP hS (⟨rfl, by unfold sTook; rw [if_pos (by omega), if_neg (by omega)]⟩)
      · obtain ⟨j, hj, ej⟩ : ∃ j : Nat, j < 8 ∧ t = nI j := ⟨t.toInt.toNat, by omega, i32_eq (by omega) (by omega)⟩
        have cj : tn t = j := by rw [ej]; exact nI_clamp (by omega)
        rw [ej] at hl
        obtain ⟨j2, hj2, ej2⟩ : ∃ j : Nat, j < 4 ∧ q = nI j := ⟨q.toInt.toNat, by omega, i32_eq (by omega) (by omega)⟩
        have cj2 : tn q = j2 := by rw [ej2]; exact nI_clamp (by omega)
        rw [ej2] at hl
        refine lv_aload_n hx hb dX7_took_30 rfl (lv_at hl 0 rfl) ?_
        refine f_X7_61 (q := 31) C hP (by assumption) (by assumption) rfl dX7_took_31 ?_
        refine lv_bipush (v := nI 8) hx hb dX7_took_34 (by decide) ?_
        refine lv_iload_n hx hb dX7_took_36 rfl (lv_at hl 2 rfl) ?_
        refine r_mulN C dX7_took_37 ?_
        refine lv_iload_n hx hb dX7_took_38 rfl (lv_at hl 1 rfl) ?_
        refine r_addN C dX7_took_39 ?_
        refine r_iald (n := 32) C hP (by assumption) (by omega) (by decide) dX7_took_40 ?_
        refine lv_goto (tgt := 46) hx hb dX7_took_41 (by decide) ?_
        exact hret _ _ _ _ _ _ dX7_took_46 hP hS (⟨rfl, by unfold sTook; rw [if_pos (by omega), if_pos (by omega), cj, cj2]⟩)
    · refine z_ne0 C dX7_took_16 (tgt := 22) (by decide) ?_
      refine lv_bipush (v := (-2)) hx hb dX7_took_19 (by decide) ?_
      exact hret _ _ _ _ _ _ dX7_took_21 hP hS (⟨rfl, by unfold sTook; rw [if_neg (by omega)]⟩)
  · refine z_eq0 C dX7_took_7 (tgt := 19) (by decide) ?_
    refine lv_bipush (v := (-2)) hx hb dX7_took_19 (by decide) ?_
    exact hret _ _ _ _ _ _ dX7_took_21 hP hS (⟨rfl, by unfold sTook; rw [if_neg (by omega)]⟩)
set_option maxHeartbeats 4000000 in
set_option maxRecDepth 100000 in
theorem c_X7_count {l : Launch} {E : En} {K : Nat → Nat} {L : Nat → Nat → Bool} {ad : Nat → Nat} {I : Nat → Nat → Int32} (w : Int32) (hM : IsM K L) (hw : WF I) : MI l E K L ad I yX7_count cX7_count 2 (some .int) 5 [.ref (ad 10), .int w] (fun rv RJ => Sm I RJ ∧ rv = sCount I w) := by
  have hM0 := hM
  obtain ⟨m0, ml1, ml2, ml3, ml4, ml5, ml6, ml7, ml8, ml9, ml10, ml11, ml12, ml13, ml14, ml15, ml16, ml17, ml21, ml25, ml26, mk1, mk2, mk3, mk4, mk5, mk6, mk7, mk8, mk9, mk10, mk11, mk12, mk13, mk14, mk15, mk16, mk17, mk21, mk25, mk26⟩ := hM
  have he := hw.1
  have hn8 := hw.2.1
  refine MI.of (by decide) (Nat.le_of_ble_eq_true rfl) ?_
  intro p ee s m args below meth c ls Qf C hret hP hl
  have C : Cx E p s m args c cX7_count RX7 2 := C
  have hx := C.1
  have hb := C.2.1
  have hS : va_S (AG E) s.heap s.heap [] := va_S.rf
  have hl : lv_has ls 2 [(0, .ref (ad 10)), (1, .int w)] := hl
  refine lv_iload_n hx hb dX7_count_0 rfl (lv_at hl 1 rfl) ?_
  by_cases sw1 : (w : Int32).toInt = 0
  · refine sw_in C dX7_count_1 sw1 (by decide) (by decide) (off := 55) (by decide) (tgt := 56) (by decide) ?_
    refine lv_aload_n hx hb dX7_count_56 rfl (lv_at hl 0 rfl) ?_
    refine f_X7_71 C hP (by first | assumption | exact hKa _ (by omega)) dX7_count_57 ?_
    exact hret _ _ _ _ _ _ dX7_count_60 hP hS (⟨fun _ _ => rfl, by unfold sCount; rw [if_pos (by omega)]⟩)
  · by_cases sw2 : (w : Int32).toInt = 1
    · refine sw_in C dX7_count_1 sw2 (by decide) (by decide) (off := 60) (by decide) (tgt := 61) (by decide) ?_
      have ew : w = nI 1 := i32_eq (by decide) sw2
      rw [ew] at hl
      refine lv_aload_n hx hb dX7_count_61 rfl (lv_at hl 0 rfl) ?_
      refine f_X7_34 (q := 19) C hP (by assumption) (by assumption) rfl dX7_count_62 ?_
      refine lv_iload_n hx hb dX7_count_65 rfl (lv_at hl 1 rfl) ?_
      refine lv_iconst (v := nI 1) hx hb dX7_count_66 (by decide) ?_
      refine r_subN C (by omega) dX7_count_67 ?_
      refine r_iald (n := 4) C hP (by assumption) (by omega) (by decide) dX7_count_68 ?_
      exact hret _ _ _ _ _ _ dX7_count_69 hP hS (⟨fun _ _ => rfl, by unfold sCount; rw [if_neg (by omega), if_pos (by omega), show (w.toInt - 1).toNat = 1 - 1 by omega]⟩)
    · by_cases sw3 : (w : Int32).toInt = 2
      · refine sw_in C dX7_count_1 sw3 (by decide) (by decide) (off := 60) (by decide) (tgt := 61) (by decide) ?_
        have ew : w = nI 2 := i32_eq (by decide) sw3
        rw [ew] at hl
        refine lv_aload_n hx hb dX7_count_61 rfl (lv_at hl 0 rfl) ?_
        refine f_X7_34 (q := 19) C hP (by assumption) (by assumption) rfl dX7_count_62 ?_
        refine lv_iload_n hx hb dX7_count_65 rfl (lv_at hl 1 rfl) ?_
        refine lv_iconst (v := nI 1) hx hb dX7_count_66 (by decide) ?_
        refine r_subN C (by omega) dX7_count_67 ?_
        refine r_iald (n := 4) C hP (by assumption) (by omega) (by decide) dX7_count_68 ?_
        exact hret _ _ _ _ _ _ dX7_count_69 hP hS (⟨fun _ _ => rfl, by unfold sCount; rw [if_neg (by omega), if_pos (by omega), show (w.toInt - 1).toNat = 2 - 1 by omega]⟩)
      · by_cases sw4 : (w : Int32).toInt = 3
        · refine sw_in C dX7_count_1 sw4 (by decide) (by decide) (off := 60) (by decide) (tgt := 61) (by decide) ?_
          have ew : w = nI 3 := i32_eq (by decide) sw4
          rw [ew] at hl
          refine lv_aload_n hx hb dX7_count_61 rfl (lv_at hl 0 rfl) ?_
          refine f_X7_34 (q := 19) C hP (by assumption) (by assumption) rfl dX7_count_62 ?_
          refine lv_iload_n hx hb dX7_count_65 rfl (lv_at hl 1 rfl) ?_
          refine lv_iconst (v := nI 1) hx hb dX7_count_66 (by decide) ?_
          refine r_subN C (by omega) dX7_count_67 ?_
          refine r_iald (n := 4) C hP (by assumption) (by omega) (by decide) dX7_count_68 ?_
          exact hret _ _ _ _ _ _ dX7_count_69 hP hS (⟨fun _ _ => rfl, by unfold sCount; rw [if_neg (by omega), if_pos (by omega), show (w.toInt - 1).toNat = 3 - 1 by omega]⟩)
        · by_cases sw5 : (w : Int32).toInt = 4
          · refine sw_in C dX7_count_1 sw5 (by decide) (by decide) (off := 60) (by decide) (tgt := 61) (by decide) ?_
            have ew : w = nI 4 := i32_eq (by decide) sw5
            rw [ew] at hl
            refine lv_aload_n hx hb dX7_count_61 rfl (lv_at hl 0 rfl) ?_
            refine f_X7_34 (q := 19) C hP (by assumption) (by assumption) rfl dX7_count_62 ?_
            refine lv_iload_n hx hb dX7_count_65 rfl (lv_at hl 1 rfl) ?_
            refine lv_iconst (v := nI 1) hx hb dX7_count_66 (by decide) ?_
            refine r_subN C (by omega) dX7_count_67 ?_
            refine r_iald (n := 4) C hP (by assumption) (by omega) (by decide) dX7_count_68 ?_
            exact hret _ _ _ _ _ _ dX7_count_69 hP hS (⟨fun _ _ => rfl, by unfold sCount; rw [if_neg (by omega), if_pos (by omega), show (w.toInt - 1).toNat = 4 - 1 by omega]⟩)
          · by_cases sw6 : (w : Int32).toInt = 5
            · refine sw_in C dX7_count_1 sw6 (by decide) (by decide) (off := 69) (by decide) (tgt := 70) (by decide) ?_
              refine lv_aload_n hx hb dX7_count_70 rfl (lv_at hl 0 rfl) ?_
              refine f_X7_168 C hP (by first | assumption | exact hKa _ (by omega)) dX7_count_71 ?_
              exact hret _ _ _ _ _ _ dX7_count_74 hP hS (⟨fun _ _ => rfl, by unfold sCount; rw [if_neg (by omega), if_neg (by omega), if_pos (by omega)]⟩)
            · by_cases sw7 : (w : Int32).toInt = 6
              · refine sw_in C dX7_count_1 sw7 (by decide) (by decide) (off := 74) (by decide) (tgt := 75) (by decide) ?_
                refine lv_aload_n hx hb dX7_count_75 rfl (lv_at hl 0 rfl) ?_
                refine f_X7_171 C hP (by first | assumption | exact hKa _ (by omega)) dX7_count_76 ?_
                exact hret _ _ _ _ _ _ dX7_count_79 hP hS (⟨fun _ _ => rfl, by unfold sCount; rw [if_neg (by omega), if_neg (by omega), if_neg (by omega), if_pos (by omega)]⟩)
              · by_cases sw8 : (w : Int32).toInt = 7
                · refine sw_in C dX7_count_1 sw8 (by decide) (by decide) (off := 79) (by decide) (tgt := 80) (by decide) ?_
                  refine lv_aload_n hx hb dX7_count_80 rfl (lv_at hl 0 rfl) ?_
                  refine f_X7_162 C hP (by first | assumption | exact hKa _ (by omega)) dX7_count_81 ?_
                  exact hret _ _ _ _ _ _ dX7_count_84 hP hS (⟨fun _ _ => rfl, by unfold sCount; rw [if_neg (by omega), if_neg (by omega), if_neg (by omega), if_neg (by omega), if_pos (by omega)]⟩)
                · by_cases sw9 : (w : Int32).toInt = 8
                  · refine sw_in C dX7_count_1 sw9 (by decide) (by decide) (off := 84) (by decide) (tgt := 85) (by decide) ?_
                    refine lv_aload_n hx hb dX7_count_85 rfl (lv_at hl 0 rfl) ?_
                    refine k_X7_136 C hP hS (by assumption) (c_X7_pack hM0 hw) ⟨Nat.le_of_ble_eq_true rfl, Nat.le_of_ble_eq_true rfl⟩ ⟨Nat.zero_le _, Nat.zero_le _⟩ hl.1 (Nat.le_of_ble_eq_true rfl) dX7_count_86 (fun v10 I11 H locs hv12 hP hS => ?_)
                    rcases hv12 with ⟨hv1, pl, hpk⟩ | ⟨hv1, hsm, hno⟩
                    · subst hv1
                      refine z_eq1 C dX7_count_89 (tgt := 96) (by decide) ?_
                      refine lv_iconst (v := nI 1) hx hb dX7_count_92 (by decide) ?_
                      refine lv_goto (tgt := 97) hx hb dX7_count_93 (by decide) ?_
                      exact hret _ _ _ _ _ _ dX7_count_97 hP hS (⟨fun a ha => hpk.2.1 a (by omega), by unfold sCount; rw [if_neg (by omega), if_neg (by omega), if_neg (by omega), if_neg (by omega), if_neg (by omega), if_pos (by omega), hpk.1]⟩)
                    · subst hv1
                      refine z_eq0 C dX7_count_89 (tgt := 96) (by decide) ?_
                      refine lv_iconst (v := nI 0) hx hb dX7_count_96 (by decide) ?_
                      exact hret _ _ _ _ _ _ dX7_count_97 hP hS (⟨hsm, by unfold sCount; rw [if_neg (by omega), if_neg (by omega), if_neg (by omega), if_neg (by omega), if_neg (by omega), if_pos (by omega), hno]⟩)
                  · by_cases sw13 : (w : Int32).toInt = 9
                    · refine sw_in C dX7_count_1 sw13 (by decide) (by decide) (off := 97) (by decide) (tgt := 98) (by decide) ?_
                      refine lv_aload_n hx hb dX7_count_98 rfl (lv_at hl 0 rfl) ?_
                      refine f_X7_67 (q := 36) C hP (by assumption) (by assumption) rfl dX7_count_99 ?_
                      refine lv_iconst (v := nI 0) hx hb dX7_count_102 (by decide) ?_
                      refine r_zald C hP (by assumption) (by omega) dX7_count_103 ?_
                      refine z_eq C dX7_count_104 (tgt := 111) (by decide) (fun h14 => ?_) (fun h14 => ?_)
                      · refine lv_iconst (v := nI 0) hx hb dX7_count_111 (by decide) ?_
                        refine lv_aload_n hx hb dX7_count_112 rfl (lv_at hl 0 rfl) ?_
                        refine f_X7_67 (q := 36) C hP (by assumption) (by assumption) rfl dX7_count_113 ?_
                        refine lv_iconst (v := nI 1) hx hb dX7_count_116 (by decide) ?_
                        refine r_zald C hP (by assumption) (by omega) dX7_count_117 ?_
                        refine z_eq C dX7_count_118 (tgt := 125) (by decide) (fun h15 => ?_) (fun h15 => ?_)
                        · refine lv_iconst (v := nI 0) hx hb dX7_count_125 (by decide) ?_
                          refine r_addN C dX7_count_126 ?_
                          exact hret _ _ _ _ _ _ dX7_count_127 hP hS (⟨fun _ _ => rfl, by unfold sCount; rw [if_neg (by omega), if_neg (by omega), if_neg (by omega), if_neg (by omega), if_neg (by omega), if_neg (by omega), if_pos (by omega)]; simp [*]⟩)
                        · refine lv_iconst (v := nI 2) hx hb dX7_count_121 (by decide) ?_
                          refine lv_goto (tgt := 126) hx hb dX7_count_122 (by decide) ?_
                          refine r_addN C dX7_count_126 ?_
                          exact hret _ _ _ _ _ _ dX7_count_127 hP hS (⟨fun _ _ => rfl, by unfold sCount; rw [if_neg (by omega), if_neg (by omega), if_neg (by omega), if_neg (by omega), if_neg (by omega), if_neg (by omega), if_pos (by omega)]; simp [*]⟩)
                      · refine lv_iconst (v := nI 1) hx hb dX7_count_107 (by decide) ?_
                        refine lv_goto (tgt := 112) hx hb dX7_count_108 (by decide) ?_
                        refine lv_aload_n hx hb dX7_count_112 rfl (lv_at hl 0 rfl) ?_
                        refine f_X7_67 (q := 36) C hP (by assumption) (by assumption) rfl dX7_count_113 ?_
                        refine lv_iconst (v := nI 1) hx hb dX7_count_116 (by decide) ?_
                        refine r_zald C hP (by assumption) (by omega) dX7_count_117 ?_
                        refine z_eq C dX7_count_118 (tgt := 125) (by decide) (fun h16 => ?_) (fun h16 => ?_)
                        · refine lv_iconst (v := nI 0) hx hb dX7_count_125 (by decide) ?_
                          refine r_addN C dX7_count_126 ?_
                          exact hret _ _ _ _ _ _ dX7_count_127 hP hS (⟨fun _ _ => rfl, by unfold sCount; rw [if_neg (by omega), if_neg (by omega), if_neg (by omega), if_neg (by omega), if_neg (by omega), if_neg (by omega), if_pos (by omega)]; simp [*]⟩)
                        · refine lv_iconst (v := nI 2) hx hb dX7_count_121 (by decide) ?_
                          refine lv_goto (tgt := 126) hx hb dX7_count_122 (by decide) ?_
                          refine r_addN C dX7_count_126 ?_
                          exact hret _ _ _ _ _ _ dX7_count_127 hP hS (⟨fun _ _ => rfl, by unfold sCount; rw [if_neg (by omega), if_neg (by omega), if_neg (by omega), if_neg (by omega), if_neg (by omega), if_neg (by omega), if_pos (by omega)]; simp [*]⟩)
                    · refine lv_tableOut hx hb dX7_count_1 (by omega) (tgt := 128) (by decide) ?_
                      refine lv_iload_n hx hb dX7_count_128 rfl (lv_at hl 1 rfl) ?_
                      refine lv_bipush (v := nI 10) hx hb dX7_count_129 (by decide) ?_
                      refine lv_bipush (v := nI 15) hx hb dX7_count_131 (by decide) ?_
                      refine k_X7_75 C hP hS (c_X7_inN w 10 15 (by first | decide | omega) (by first | decide | omega)) ⟨Nat.le_of_ble_eq_true rfl, Nat.le_of_ble_eq_true rfl⟩ ⟨Nat.zero_le _, Nat.zero_le _⟩ hl.1 (Nat.le_of_ble_eq_true rfl) dX7_count_133 (fun v17 I18 H locs hv19 hP hS => ?_)
                      obtain ⟨eI18, hv19⟩ := hv19
                      rw [eI18] at hP
                      clear eI18
                      rcases hv19 with ⟨rfl, hc20⟩ | ⟨rfl, hc20⟩
                      · refine z_eq1 C dX7_count_136 (tgt := 151) (by decide) ?_
                        obtain ⟨i, hi, ew⟩ : ∃ i : Nat, i < 6 ∧ w = nI (i + 10) := ⟨(w.toInt - 10).toNat, by omega, i32_eq (by omega) (by omega)⟩
                        have hwi : w.toInt = (i : Int) + 10 := by rw [ew, nI_toInt (by omega)]; omega
                        rw [ew] at hl
                        refine lv_aload_n hx hb dX7_count_139 rfl (lv_at hl 0 rfl) ?_
                        refine f_X7_31 (q := 18) C hP (by assumption) (by assumption) rfl dX7_count_140 ?_
                        refine lv_iload_n hx hb dX7_count_143 rfl (lv_at hl 1 rfl) ?_
                        refine lv_bipush (v := nI 10) hx hb dX7_count_144 (by decide) ?_
                        refine r_subN C (by omega) dX7_count_146 ?_
                        refine r_iald (n := 6) C hP (by assumption) (by omega) (by decide) dX7_count_147 ?_
                        refine lv_goto (tgt := 153) hx hb dX7_count_148 (by decide) ?_
                        exact hret _ _ _ _ _ _ dX7_count_153 hP hS (⟨fun _ _ => rfl, by unfold sCount; rw [if_neg (by omega), if_neg (by omega), if_neg (by omega), if_neg (by omega), if_neg (by omega), if_neg (by omega), if_neg (by omega), if_pos (by omega), show (w.toInt - 10).toNat = i + 10 - 10 by omega]⟩)
                      · refine z_eq0 C dX7_count_136 (tgt := 151) (by decide) ?_
                        refine lv_bipush (v := (-2)) hx hb dX7_count_151 (by decide) ?_
                        exact hret _ _ _ _ _ _ dX7_count_153 hP hS (⟨fun _ _ => rfl, by unfold sCount; rw [if_neg (by omega), if_neg (by omega), if_neg (by omega), if_neg (by omega), if_neg (by omega), if_neg (by omega), if_neg (by omega), if_neg (by omega)]⟩)
