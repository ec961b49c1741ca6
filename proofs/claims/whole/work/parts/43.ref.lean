/-! the reference: changes of the program -/
set_option maxHeartbeats 4000000 in
set_option maxRecDepth 100000 in
theorem c_X7_table {l : Launch} {E : En} {K : Nat → Nat} {L : Nat → Nat → Bool} {ad : Nat → Nat} {I : Nat → Nat → Int32} (k : Int32) (hM : IsM K L) (hw : WF I) : MI l E K L ad I yX7_table cX7_table 2 (some .int) 3 [.ref (ad 10), .int k] (fun rv RJ => rv = (sTable I k).1 ∧ RJ = (sTable I k).2) := by
  have hM0 := hM
  obtain ⟨m0, ml1, ml2, ml3, ml4, ml5, ml6, ml7, ml8, ml9, ml10, ml11, ml12, ml13, ml14, ml15, ml16, ml17, ml21, ml25, ml26, mk1, mk2, mk3, mk4, mk5, mk6, mk7, mk8, mk9, mk10, mk11, mk12, mk13, mk14, mk15, mk16, mk17, mk21, mk25, mk26⟩ := hM
  have he := hw.1
  have hn8 := hw.2.1
  refine MI.of (by decide) (Nat.le_of_ble_eq_true rfl) ?_
  intro p ee s m args below meth c ls Qf C hret hP hl
  have C : Cx E p s m args c cX7_table RX7 2 := C
  have hx := C.1
  have hb := C.2.1
  have hS : va_S (AG E) s.heap s.heap [] := va_S.rf
  have hl : lv_has ls 2 [(0, .ref (ad 10)), (1, .int k)] := hl
  refine lv_iload_n hx hb dX7_table_0 rfl (lv_at hl 1 rfl) ?_
  refine k_X7_79 C hP hS (c_X7_isField k) ⟨Nat.le_of_ble_eq_true rfl, Nat.le_of_ble_eq_true rfl⟩ ⟨Nat.zero_le _, Nat.zero_le _⟩ hl.1 (Nat.le_of_ble_eq_true rfl) dX7_table_1 (fun v1 I2 H locs hv3 hP hS => ?_)
  obtain ⟨eI2, hv3⟩ := hv3
  rw [eI2] at hP
  clear eI2
  rcases hv3 with ⟨rfl, hc4⟩ | ⟨rfl, hc4⟩
  · refine z_ne1 C dX7_table_4 (tgt := 9) (by decide) ?_
    refine lv_aload_n hx hb dX7_table_9 rfl (lv_at hl 0 rfl) ?_
    refine f_X7_71 C hP (by first | assumption | exact hKa _ (by omega)) dX7_table_10 ?_
    refine r_eqi (y := (nI (mn I))) (he) ?_
    refine lv_bipush (v := nI 8) hx hb dX7_table_13 (by decide) ?_
    refine b_neN C (by omega) (by omega) dX7_table_15 (tgt := 21) (by decide) (fun h5 => ?_) (fun h5 => ?_)
    · refine lv_aload_n hx hb dX7_table_21 rfl (lv_at hl 0 rfl) ?_
      refine f_X7_7 (q := 11) C hP (by assumption) (by assumption) rfl dX7_table_22 ?_
      refine lv_aload_n hx hb dX7_table_25 rfl (lv_at hl 0 rfl) ?_
      refine f_X7_71 C hP (by first | assumption | exact hKa _ (by omega)) dX7_table_26 ?_
      refine r_eqi (y := (nI (mn I))) (he) ?_
      refine lv_iload_n hx hb dX7_table_29 rfl (lv_at hl 1 rfl) ?_
      refine r_iast (n := 8) C hP hS (by assumption) (by omega) (by decide) dX7_table_30 (fun H locs hP hS => ?_)
      obtain ⟨I6, eI6⟩ : ∃ Z : Nat → Nat → Int32, Z = up2 I 11 (mn I) k := ⟨_, rfl⟩
      rw [← eI6] at hP
      refine lv_aload_n hx hb dX7_table_31 rfl (lv_at hl 0 rfl) ?_
      refine f_X7_13 (q := 12) C hP (by assumption) (by assumption) rfl dX7_table_32 ?_
      refine lv_aload_n hx hb dX7_table_35 rfl (lv_at hl 0 rfl) ?_
      refine f_X7_71 C hP (by first | assumption | exact hKa _ (by omega)) dX7_table_36 ?_
      refine r_eqi (y := (nI (mn I))) (by rw [eI6, up2_r (by decide)]; exact he) ?_
      refine lv_iconst (v := nI 0) hx hb dX7_table_39 (by decide) ?_
      refine r_iast (n := 8) C hP hS (by assumption) (by omega) (by decide) dX7_table_40 (fun H locs hP hS => ?_)
      obtain ⟨I7, eI7⟩ : ∃ Z : Nat → Nat → Int32, Z = up2 I6 12 (mn I) (nI 0) := ⟨_, rfl⟩
      rw [← eI7] at hP
      refine lv_aload_n hx hb dX7_table_41 rfl (lv_at hl 0 rfl) ?_
      refine lv_iconst (v := nI 5) hx hb dX7_table_42 (by decide) ?_
      refine lv_aload_n hx hb dX7_table_43 rfl (lv_at hl 0 rfl) ?_
      refine f_X7_71 C hP (by first | assumption | exact hKa _ (by omega)) dX7_table_44 ?_
      refine r_eqi (y := (nI (mn I))) (by rw [eI7, up2_r (by decide)]; exact (by rw [eI6, up2_r (by decide)]; exact he)) ?_
      refine r_mulN C dX7_table_47 ?_
      refine lv_iconst (v := nI 4) hx hb dX7_table_48 (by decide) ?_
      refine r_addN C dX7_table_49 ?_
      refine lv_iconst (v := nI 0) hx hb dX7_table_50 (by decide) ?_
      refine lv_iconst (v := nI 0) hx hb dX7_table_51 (by decide) ?_
      refine lv_iconst (v := nI 0) hx hb dX7_table_52 (by decide) ?_
      refine k_X7_83 C hP hS (by assumption) (c_X7_lay ((5 * (mn I)) + 4) ((nI 0)) ((nI 0)) ((nI 0)) hM0 (by omega)) ⟨Nat.le_of_ble_eq_true rfl, Nat.le_of_ble_eq_true rfl⟩ ⟨Nat.zero_le _, Nat.zero_le _⟩ hl.1 (Nat.le_of_ble_eq_true rfl) dX7_table_53 (fun I9 H locs hv10 hP hS => ?_)
      have eI9 := hv10
      refine lv_aload_n hx hb dX7_table_56 rfl (lv_at hl 0 rfl) ?_
      refine lv_dup hx hb dX7_table_57 rfl ?_
      refine f_X7_71 C hP (by first | assumption | exact hKa _ (by omega)) dX7_table_58 ?_
      refine r_eqi (y := (nI (mn I))) (by rw [eI9]; unfold layS; rw [up2_r (by decide), up2_r (by decide), up2_r (by decide)]; exact (by rw [eI7, up2_r (by decide)]; exact (by rw [eI6, up2_r (by decide)]; exact he))) ?_
      refine lv_iconst (v := nI 1) hx hb dX7_table_61 (by decide) ?_
      refine r_addN C dX7_table_62 ?_
      refine p_X7_71 C hP hS (by assumption) dX7_table_63 (fun H locs hP hS => ?_)
      obtain ⟨I11, eI11⟩ : ∃ Z : Nat → Nat → Int32, Z = up2 I9 10 0 (nI ((mn I) + 1)) := ⟨_, rfl⟩
      rw [← eI11] at hP
      refine lv_aload_n hx hb dX7_table_66 rfl (lv_at hl 0 rfl) ?_
      refine f_X7_71 C hP (by first | assumption | exact hKa _ (by omega)) dX7_table_67 ?_
      refine r_eqi (y := (nI ((mn I) + 1))) (by rw [eI11, up2_s]) ?_
      refine lv_iconst (v := nI 1) hx hb dX7_table_70 (by decide) ?_
      refine r_subN C (by omega) dX7_table_71 ?_
      exact hret _ _ _ _ _ _ dX7_table_72 hP hS (by unfold sTable; rw [if_pos (by assumption), if_neg (by omega)]; refine ⟨congrArg nI (by omega), ?_⟩; subst_vars; rfl)
    · refine lv_bipush (v := (-4)) hx hb dX7_table_18 (by decide) ?_
      exact hret _ _ _ _ _ _ dX7_table_20 hP hS (by unfold sTable; rw [if_pos (by assumption), if_pos (by omega)]; exact ⟨rfl, rfl⟩)
  · refine z_ne0 C dX7_table_4 (tgt := 9) (by decide) ?_
    refine lv_iconst (v := (-1)) hx hb dX7_table_7 (by decide) ?_
    exact hret _ _ _ _ _ _ dX7_table_8 hP hS (by unfold sTable; rw [if_neg (by assumption)]; exact ⟨rfl, rfl⟩)
set_option maxHeartbeats 4000000 in
set_option maxRecDepth 100000 in
theorem c_X7_entry {l : Launch} {E : En} {K : Nat → Nat} {L : Nat → Nat → Bool} {ad : Nat → Nat} {I : Nat → Nat → Int32} (t v k g x : Int32) (hM : IsM K L) (hw : WF I) : MI l E K L ad I yX7_entry cX7_entry 6 (some .int) 4 [.ref (ad 10), .int t, .int v, .int k, .int g, .int x] (fun rv RJ => rv = (sEntry I t v k g x).1 ∧ RJ = (sEntry I t v k g x).2) := by
  have hM0 := hM
  obtain ⟨m0, ml1, ml2, ml3, ml4, ml5, ml6, ml7, ml8, ml9, ml10, ml11, ml12, ml13, ml14, ml15, ml16, ml17, ml21, ml25, ml26, mk1, mk2, mk3, mk4, mk5, mk6, mk7, mk8, mk9, mk10, mk11, mk12, mk13, mk14, mk15, mk16, mk17, mk21, mk25, mk26⟩ := hM
  have he := hw.1
  have hn8 := hw.2.1
  refine MI.of (by decide) (Nat.le_of_ble_eq_true rfl) ?_
  intro p ee s m args below meth c ls Qf C hret hP hl
  have C : Cx E p s m args c cX7_entry RX7 6 := C
  have hx := C.1
  have hb := C.2.1
  have hS : va_S (AG E) s.heap s.heap [] := va_S.rf
  have hl : lv_has ls 6 [(0, .ref (ad 10)), (1, .int t), (2, .int v), (3, .int k), (4, .int g), (5, .int x)] := hl
  refine lv_aload_n hx hb dX7_entry_0 rfl (lv_at hl 0 rfl) ?_
  refine lv_iload_n hx hb dX7_entry_1 rfl (lv_at hl 1 rfl) ?_
  refine k_X7_101 C hP hS (by assumption) (c_X7_isTable (mn I) t (by assumption) he hn8) ⟨Nat.le_of_ble_eq_true rfl, Nat.le_of_ble_eq_true rfl⟩ ⟨Nat.zero_le _, Nat.zero_le _⟩ hl.1 (Nat.le_of_ble_eq_true rfl) dX7_entry_2 (fun v1 I2 H locs hv3 hP hS => ?_)
  obtain ⟨eI2, hv3⟩ := hv3
  rw [eI2] at hP
  clear eI2
  rcases hv3 with ⟨rfl, hc4⟩ | ⟨rfl, hc4⟩
  · obtain ⟨u, hu, eu⟩ : ∃ j : Nat, j < mn I ∧ t = nI j := ⟨t.toInt.toNat, by omega, i32_eq (by omega) (by omega)⟩
    have cu : tn t = u := by rw [eu]; exact nI_clamp (by omega)
    rw [eu] at hl
    have hWu := hw.2.2.1 u hu
    have h12 := hWu.1
    have hu4 := hWu.2.1
    refine z_ne1 C dX7_entry_5 (tgt := 10) (by decide) ?_
    refine lv_iload_n hx hb dX7_entry_10 rfl (lv_at hl 2 rfl) ?_
    refine lv_iconst (v := nI 0) hx hb dX7_entry_11 (by decide) ?_
    refine lv_sipush (v := nI 255) hx hb dX7_entry_12 (by decide) ?_
    refine k_X7_75 C hP hS (c_X7_inN v 0 255 (by first | decide | omega) (by first | decide | omega)) ⟨Nat.le_of_ble_eq_true rfl, Nat.le_of_ble_eq_true rfl⟩ ⟨Nat.zero_le _, Nat.zero_le _⟩ hl.1 (Nat.le_of_ble_eq_true rfl) dX7_entry_15 (fun v5 I6 H locs hv7 hP hS => ?_)
    obtain ⟨eI6, hv7⟩ := hv7
    rw [eI6] at hP
    clear eI6
    rcases hv7 with ⟨rfl, hc8⟩ | ⟨rfl, hc8⟩
    · refine z_eq1 C dX7_entry_18 (tgt := 32) (by decide) ?_
      refine lv_iload_n hx hb dX7_entry_21 rfl (lv_at hl 3 rfl) ?_
      refine lv_iload hx hb dX7_entry_22 (lv_at hl 4 rfl) ?_
      refine lv_iload hx hb dX7_entry_24 (lv_at hl 5 rfl) ?_
      refine k_X7_104 C hP hS (c_X7_isAct k g x) ⟨Nat.le_of_ble_eq_true rfl, Nat.le_of_ble_eq_true rfl⟩ ⟨Nat.zero_le _, Nat.zero_le _⟩ hl.1 (Nat.le_of_ble_eq_true rfl) dX7_entry_26 (fun v9 I10 H locs hv11 hP hS => ?_)
      obtain ⟨eI10, hv11⟩ := hv11
      rw [eI10] at hP
      clear eI10
      rcases hv11 with ⟨rfl, hc12⟩ | ⟨rfl, hc12⟩
      · refine z_ne1 C dX7_entry_29 (tgt := 35) (by decide) ?_
        refine lv_aload_n hx hb dX7_entry_35 rfl (lv_at hl 0 rfl) ?_
        refine lv_iload_n hx hb dX7_entry_36 rfl (lv_at hl 1 rfl) ?_
        refine lv_iload_n hx hb dX7_entry_37 rfl (lv_at hl 2 rfl) ?_
        refine k_X7_107 C hP hS (by assumption) (c_X7_entryWith u (en I u) v hM0 (by omega) h12 hu4 hWu.2.2.2.2) ⟨Nat.le_of_ble_eq_true rfl, Nat.le_of_ble_eq_true rfl⟩ ⟨Nat.zero_le _, Nat.zero_le _⟩ hl.1 (Nat.le_of_ble_eq_true rfl) dX7_entry_38 (fun v13 I14 H locs hv15 hP hS => ?_)
        obtain ⟨eI14, ev13⟩ := hv15
        rw [eI14] at hP
        clear eI14
        refine z_ge C dX7_entry_41 (tgt := 55) (by decide) (fun h16 => ?_) (fun h16 => ?_)
        · have hz1 : fnd (fun e => I 13 (5 * u + e)) v (en I u) 0 ≠ 4 := fun q => by rw [ev13, if_pos q] at h16; exact absurd h16 (by decide)
          refine lv_bipush (v := (-5)) hx hb dX7_entry_55 (by decide) ?_
          exact hret _ _ _ _ _ _ dX7_entry_57 hP hS (by unfold sEntry; rw [if_pos (by assumption), if_pos ⟨by omega, by assumption⟩, cu, if_pos (by first | exact Or.inl hz1 | exact Or.inr ⟨hz2.1, (tkO_iff _).mpr hz2.2⟩)]; exact ⟨rfl, rfl⟩)
        · have hz1 : fnd (fun e => I 13 (5 * u + e)) v (en I u) 0 = 4 := Decidable.not_not.mp fun q => by rw [ev13, if_neg q, nI_toInt (by rcases fnd_le4 (f := fun e => I 13 (5 * u + e)) (v := v) (en I u) 0 (by omega) with z | z <;> omega)] at h16; omega
          refine lv_aload_n hx hb dX7_entry_44 rfl (lv_at hl 0 rfl) ?_
          refine lv_iload_n hx hb dX7_entry_45 rfl (lv_at hl 1 rfl) ?_
          refine lv_iload_n hx hb dX7_entry_46 rfl (lv_at hl 3 rfl) ?_
          refine lv_iload hx hb dX7_entry_47 (lv_at hl 5 rfl) ?_
          have hok : okA k g x := by assumption
          refine k_X7_111 C hP hS (by assumption) (c_X7_isTaken (mn I) u k x hM0 he hn8 (by omega) hw.2.2.1 (fun q => by have := (hok.2 (by omega)).2; have : most k ≤ 255 := (by unfold most; (repeat split) <;> omega); have hm3 : most k = 3 := (by unfold most; rw [if_neg (by omega), if_neg (by omega)]); omega)) ⟨Nat.le_of_ble_eq_true rfl, Nat.le_of_ble_eq_true rfl⟩ ⟨Nat.zero_le _, Nat.zero_le _⟩ hl.1 (Nat.le_of_ble_eq_true rfl) dX7_entry_49 (fun v17 I18 H locs hv19 hP hS => ?_)
          obtain ⟨eI18, hv19⟩ := hv19
          rw [eI18] at hP
          clear eI18
          rcases hv19 with ⟨rfl, hc20⟩ | ⟨rfl, hc20⟩
          · have hz2 := hc20
            refine z_eq1 C dX7_entry_52 (tgt := 58) (by decide) ?_
            refine lv_bipush (v := (-5)) hx hb dX7_entry_55 (by decide) ?_
            exact hret _ _ _ _ _ _ dX7_entry_57 hP hS (by unfold sEntry; rw [if_pos (by assumption), if_pos ⟨by omega, by assumption⟩, cu, if_pos (by first | exact Or.inl hz1 | exact Or.inr ⟨hz2.1, (tkO_iff _).mpr hz2.2⟩)]; exact ⟨rfl, rfl⟩)
          · have hz2 := hc20
            refine z_eq0 C dX7_entry_52 (tgt := 58) (by decide) ?_
            refine lv_aload_n hx hb dX7_entry_58 rfl (lv_at hl 0 rfl) ?_
            refine f_X7_13 (q := 12) C hP (by assumption) (by assumption) rfl dX7_entry_59 ?_
            refine lv_iload_n hx hb dX7_entry_62 rfl (lv_at hl 1 rfl) ?_
            refine r_iald (n := 8) C hP (by assumption) (by omega) (by decide) dX7_entry_63 ?_
            refine r_eqi (y := (nI (en I u))) (h12) ?_
            refine lv_iconst (v := nI 4) hx hb dX7_entry_64 (by decide) ?_
            refine b_neN C (by omega) (by omega) dX7_entry_65 (tgt := 71) (by decide) (fun h21 => ?_) (fun h21 => ?_)
            · refine lv_aload_n hx hb dX7_entry_71 rfl (lv_at hl 0 rfl) ?_
              refine f_X7_16 (q := 13) C hP (by assumption) (by assumption) rfl dX7_entry_72 ?_
              refine lv_iconst (v := nI 5) hx hb dX7_entry_75 (by decide) ?_
              refine lv_iload_n hx hb dX7_entry_76 rfl (lv_at hl 1 rfl) ?_
              refine r_mulN C dX7_entry_77 ?_
              refine lv_aload_n hx hb dX7_entry_78 rfl (lv_at hl 0 rfl) ?_
              refine f_X7_13 (q := 12) C hP (by assumption) (by assumption) rfl dX7_entry_79 ?_
              refine lv_iload_n hx hb dX7_entry_82 rfl (lv_at hl 1 rfl) ?_
              refine r_iald (n := 8) C hP (by assumption) (by omega) (by decide) dX7_entry_83 ?_
              refine r_eqi (y := (nI (en I u))) (h12) ?_
              refine r_addN C dX7_entry_84 ?_
              refine lv_iload_n hx hb dX7_entry_85 rfl (lv_at hl 2 rfl) ?_
              refine r_iast (n := 40) C hP hS (by assumption) (by omega) (by decide) dX7_entry_86 (fun H locs hP hS => ?_)
              obtain ⟨I22, eI22⟩ : ∃ Z : Nat → Nat → Int32, Z = up2 I 13 (5 * u + (en I u)) v := ⟨_, rfl⟩
              rw [← eI22] at hP
              refine lv_aload_n hx hb dX7_entry_87 rfl (lv_at hl 0 rfl) ?_
              refine lv_iconst (v := nI 5) hx hb dX7_entry_88 (by decide) ?_
              refine lv_iload_n hx hb dX7_entry_89 rfl (lv_at hl 1 rfl) ?_
              refine r_mulN C dX7_entry_90 ?_
              refine lv_aload_n hx hb dX7_entry_91 rfl (lv_at hl 0 rfl) ?_
              refine f_X7_13 (q := 12) C hP (by assumption) (by assumption) rfl dX7_entry_92 ?_
              refine lv_iload_n hx hb dX7_entry_95 rfl (lv_at hl 1 rfl) ?_
              refine r_iald (n := 8) C hP (by assumption) (by omega) (by decide) dX7_entry_96 ?_
              refine r_eqi (y := (nI (en I u))) (by rw [eI22, up2_r (by decide)]; exact h12) ?_
              refine r_addN C dX7_entry_97 ?_
              refine lv_iload_n hx hb dX7_entry_98 rfl (lv_at hl 3 rfl) ?_
              refine lv_iload hx hb dX7_entry_99 (lv_at hl 4 rfl) ?_
              refine lv_iload hx hb dX7_entry_101 (lv_at hl 5 rfl) ?_
              refine k_X7_83 C hP hS (by assumption) (c_X7_lay (5 * u + (en I u)) k g x hM0 (by omega)) ⟨Nat.le_of_ble_eq_true rfl, Nat.le_of_ble_eq_true rfl⟩ ⟨Nat.zero_le _, Nat.zero_le _⟩ hl.1 (Nat.le_of_ble_eq_true rfl) dX7_entry_103 (fun I24 H locs hv25 hP hS => ?_)
              have eI24 := hv25
              refine lv_aload_n hx hb dX7_entry_106 rfl (lv_at hl 0 rfl) ?_
              refine f_X7_13 (q := 12) C hP (by assumption) (by assumption) rfl dX7_entry_107 ?_
              refine lv_iload_n hx hb dX7_entry_110 rfl (lv_at hl 1 rfl) ?_
              refine lv_dup2_11 hx hb dX7_entry_111 rfl rfl ?_
              refine r_iald (n := 8) C hP (by assumption) (by omega) (by decide) dX7_entry_112 ?_
              refine r_eqi (y := (nI (en I u))) (by rw [eI24]; unfold layS; rw [up2_r (by decide), up2_r (by decide), up2_r (by decide)]; exact (by rw [eI22, up2_r (by decide)]; exact h12)) ?_
              refine lv_iconst (v := nI 1) hx hb dX7_entry_113 (by decide) ?_
              refine r_addN C dX7_entry_114 ?_
              refine r_iast (n := 8) C hP hS (by assumption) (by omega) (by decide) dX7_entry_115 (fun H locs hP hS => ?_)
              obtain ⟨I26, eI26⟩ : ∃ Z : Nat → Nat → Int32, Z = up2 I24 12 u (nI ((en I u) + 1)) := ⟨_, rfl⟩
              rw [← eI26] at hP
              refine lv_aload_n hx hb dX7_entry_116 rfl (lv_at hl 0 rfl) ?_
              refine f_X7_13 (q := 12) C hP (by assumption) (by assumption) rfl dX7_entry_117 ?_
              refine lv_iload_n hx hb dX7_entry_120 rfl (lv_at hl 1 rfl) ?_
              refine r_iald (n := 8) C hP (by assumption) (by omega) (by decide) dX7_entry_121 ?_
              refine r_eqi (y := (nI ((en I u) + 1))) (by rw [eI26, up2_s]) ?_
              exact hret _ _ _ _ _ _ dX7_entry_122 hP hS (by unfold sEntry; rw [if_pos (by assumption), if_pos ⟨by omega, by assumption⟩, cu, if_neg (fun q => by rcases q with q | q <;> first | exact q hz1 | exact hz2 ⟨q.1, (tkO_iff _).mp q.2⟩), if_neg (by omega)]; refine ⟨rfl, ?_⟩; subst_vars; rfl)
            · refine lv_bipush (v := (-4)) hx hb dX7_entry_68 (by decide) ?_
              exact hret _ _ _ _ _ _ dX7_entry_70 hP hS (by unfold sEntry; rw [if_pos (by assumption), if_pos ⟨by omega, by assumption⟩, cu, if_neg (fun q => by rcases q with q | q <;> first | exact q hz1 | exact hz2 ⟨q.1, (tkO_iff _).mp q.2⟩), if_pos (by omega)]; exact ⟨rfl, rfl⟩)
      · refine z_ne0 C dX7_entry_29 (tgt := 35) (by decide) ?_
        refine lv_bipush (v := (-2)) hx hb dX7_entry_32 (by decide) ?_
        exact hret _ _ _ _ _ _ dX7_entry_34 hP hS (by unfold sEntry; rw [if_pos (by assumption), if_neg (fun q => by first | (exact absurd q.2 (by assumption)) | (have := q.1; omega))]; exact ⟨rfl, rfl⟩)
    · refine z_eq0 C dX7_entry_18 (tgt := 32) (by decide) ?_
      refine lv_bipush (v := (-2)) hx hb dX7_entry_32 (by decide) ?_
      exact hret _ _ _ _ _ _ dX7_entry_34 hP hS (by unfold sEntry; rw [if_pos (by assumption), if_neg (fun q => by first | (exact absurd q.2 (by assumption)) | (have := q.1; omega))]; exact ⟨rfl, rfl⟩)
  · refine z_ne0 C dX7_entry_5 (tgt := 10) (by decide) ?_
    refine lv_iconst (v := (-1)) hx hb dX7_entry_8 (by decide) ?_
    exact hret _ _ _ _ _ _ dX7_entry_9 hP hS (by unfold sEntry; rw [if_neg (by assumption)]; exact ⟨rfl, rfl⟩)
set_option maxHeartbeats 4000000 in
set_option maxRecDepth 100000 in
theorem c_X7_otherwise {l : Launch} {E : En} {K : Nat → Nat} {L : Nat → Nat → Bool} {ad : Nat → Nat} {I : Nat → Nat → Int32} (t k g x : Int32) (hM : IsM K L) (hw : WF I) : MI l E K L ad I yX7_otherwise cX7_otherwise 6 (some .int) 4 [.ref (ad 10), .int t, .int k, .int g, .int x] (fun rv RJ => rv = (sOther I t k g x).1 ∧ RJ = (sOther I t k g x).2) := by
  have hM0 := hM
  obtain ⟨m0, ml1, ml2, ml3, ml4, ml5, ml6, ml7, ml8, ml9, ml10, ml11, ml12, ml13, ml14, ml15, ml16, ml17, ml21, ml25, ml26, mk1, mk2, mk3, mk4, mk5, mk6, mk7, mk8, mk9, mk10, mk11, mk12, mk13, mk14, mk15, mk16, mk17, mk21, mk25, mk26⟩ := hM
  have he := hw.1
  have hn8 := hw.2.1
  refine MI.of (by decide) (Nat.le_of_ble_eq_true rfl) ?_
  intro p ee s m args below meth c ls Qf C hret hP hl
  have C : Cx E p s m args c cX7_otherwise RX7 6 := C
  have hx := C.1
  have hb := C.2.1
  have hS : va_S (AG E) s.heap s.heap [] := va_S.rf
  have hl : lv_has ls 6 [(0, .ref (ad 10)), (1, .int t), (2, .int k), (3, .int g), (4, .int x)] := hl
  refine lv_aload_n hx hb dX7_otherwise_0 rfl (lv_at hl 0 rfl) ?_
  refine lv_iload_n hx hb dX7_otherwise_1 rfl (lv_at hl 1 rfl) ?_
  refine k_X7_101 C hP hS (by assumption) (c_X7_isTable (mn I) t (by assumption) he hn8) ⟨Nat.le_of_ble_eq_true rfl, Nat.le_of_ble_eq_true rfl⟩ ⟨Nat.zero_le _, Nat.zero_le _⟩ hl.1 (Nat.le_of_ble_eq_true rfl) dX7_otherwise_2 (fun v1 I2 H locs hv3 hP hS => ?_)
  obtain ⟨eI2, hv3⟩ := hv3
  rw [eI2] at hP
  clear eI2
  rcases hv3 with ⟨rfl, hc4⟩ | ⟨rfl, hc4⟩
  · obtain ⟨u, hu, eu⟩ : ∃ j : Nat, j < mn I ∧ t = nI j := ⟨t.toInt.toNat, by omega, i32_eq (by omega) (by omega)⟩
    have cu : tn t = u := by rw [eu]; exact nI_clamp (by omega)
    rw [eu] at hl
    have hWu := hw.2.2.1 u hu
    have h12 := hWu.1
    have hu4 := hWu.2.1
    refine z_ne1 C dX7_otherwise_5 (tgt := 10) (by decide) ?_
    refine lv_iload_n hx hb dX7_otherwise_10 rfl (lv_at hl 2 rfl) ?_
    refine lv_iload_n hx hb dX7_otherwise_11 rfl (lv_at hl 3 rfl) ?_
    refine lv_iload hx hb dX7_otherwise_12 (lv_at hl 4 rfl) ?_
    refine k_X7_104 C hP hS (c_X7_isAct k g x) ⟨Nat.le_of_ble_eq_true rfl, Nat.le_of_ble_eq_true rfl⟩ ⟨Nat.zero_le _, Nat.zero_le _⟩ hl.1 (Nat.le_of_ble_eq_true rfl) dX7_otherwise_14 (fun v5 I6 H locs hv7 hP hS => ?_)
    obtain ⟨eI6, hv7⟩ := hv7
    rw [eI6] at hP
    clear eI6
    rcases hv7 with ⟨rfl, hc8⟩ | ⟨rfl, hc8⟩
    · refine z_ne1 C dX7_otherwise_17 (tgt := 23) (by decide) ?_
      refine lv_aload_n hx hb dX7_otherwise_23 rfl (lv_at hl 0 rfl) ?_
      refine lv_iload_n hx hb dX7_otherwise_24 rfl (lv_at hl 1 rfl) ?_
      refine lv_iload_n hx hb dX7_otherwise_25 rfl (lv_at hl 2 rfl) ?_
      refine lv_iload hx hb dX7_otherwise_26 (lv_at hl 4 rfl) ?_
      have hok : okA k g x := by assumption
      refine k_X7_111 C hP hS (by assumption) (c_X7_isTaken (mn I) u k x hM0 he hn8 (by omega) hw.2.2.1 (fun q => by have := (hok.2 (by omega)).2; have hm3 : most k = 3 := (by unfold most; rw [if_neg (by omega), if_neg (by omega)]); omega)) ⟨Nat.le_of_ble_eq_true rfl, Nat.le_of_ble_eq_true rfl⟩ ⟨Nat.zero_le _, Nat.zero_le _⟩ hl.1 (Nat.le_of_ble_eq_true rfl) dX7_otherwise_28 (fun v9 I10 H locs hv11 hP hS => ?_)
      obtain ⟨eI10, hv11⟩ := hv11
      rw [eI10] at hP
      clear eI10
      rcases hv11 with ⟨rfl, hc12⟩ | ⟨rfl, hc12⟩
      · have hz2 := hc12
        refine z_eq1 C dX7_otherwise_31 (tgt := 37) (by decide) ?_
        refine lv_bipush (v := (-5)) hx hb dX7_otherwise_34 (by decide) ?_
        exact hret _ _ _ _ _ _ dX7_otherwise_36 hP hS (by unfold sOther; rw [if_pos (by assumption), if_pos (by assumption), cu, if_pos ⟨hz2.1, (tkO_iff _).mpr hz2.2⟩]; exact ⟨rfl, rfl⟩)
      · have hz2 := hc12
        refine z_eq0 C dX7_otherwise_31 (tgt := 37) (by decide) ?_
        refine lv_aload_n hx hb dX7_otherwise_37 rfl (lv_at hl 0 rfl) ?_
        refine f_X7_19 (q := 14) C hP (by assumption) (by assumption) rfl dX7_otherwise_38 ?_
        refine lv_iconst (v := nI 5) hx hb dX7_otherwise_41 (by decide) ?_
        refine lv_iload_n hx hb dX7_otherwise_42 rfl (lv_at hl 1 rfl) ?_
        refine r_mulN C dX7_otherwise_43 ?_
        refine lv_iconst (v := nI 4) hx hb dX7_otherwise_44 (by decide) ?_
        refine r_addN C dX7_otherwise_45 ?_
        refine r_iald (n := 40) C hP (by assumption) (by omega) (by decide) dX7_otherwise_46 ?_
        refine lv_istore (lv' := [(5, .int (I 14 (5 * u + 4))), (0, .ref (ad 10)), (1, .int (nI u)), (2, .int k), (3, .int g), (4, .int x)]) hx hb dX7_otherwise_47 hl (by decide) rfl (fun ls hl => ?_)
        refine lv_aload_n hx hb dX7_otherwise_49 rfl (lv_at hl 1 rfl) ?_
        refine lv_iconst (v := nI 5) hx hb dX7_otherwise_50 (by decide) ?_
        refine lv_iload_n hx hb dX7_otherwise_51 rfl (lv_at hl 2 rfl) ?_
        refine r_mulN C dX7_otherwise_52 ?_
        refine lv_iconst (v := nI 4) hx hb dX7_otherwise_53 (by decide) ?_
        refine r_addN C dX7_otherwise_54 ?_
        refine lv_iload_n hx hb dX7_otherwise_55 rfl (lv_at hl 3 rfl) ?_
        refine lv_iload_n hx hb dX7_otherwise_56 rfl (lv_at hl 4 rfl) ?_
        refine lv_iload hx hb dX7_otherwise_57 (lv_at hl 5 rfl) ?_
        refine k_X7_83 C hP hS (by assumption) (c_X7_lay (5 * u + 4) k g x hM0 (by omega)) ⟨Nat.le_of_ble_eq_true rfl, Nat.le_of_ble_eq_true rfl⟩ ⟨Nat.zero_le _, Nat.zero_le _⟩ hl.1 (Nat.le_of_ble_eq_true rfl) dX7_otherwise_59 (fun I14 H locs hv15 hP hS => ?_)
        have eI14 := hv15
        refine lv_iload hx hb dX7_otherwise_62 (lv_at hl 0 rfl) ?_
        exact hret _ _ _ _ _ _ dX7_otherwise_64 hP hS (by unfold sOther; rw [if_pos (by assumption), if_pos (by assumption), cu, if_neg (fun q => hz2 ⟨q.1, (tkO_iff _).mp q.2⟩)]; refine ⟨rfl, ?_⟩; subst_vars; rfl)
    · refine z_ne0 C dX7_otherwise_17 (tgt := 23) (by decide) ?_
      refine lv_bipush (v := (-2)) hx hb dX7_otherwise_20 (by decide) ?_
      exact hret _ _ _ _ _ _ dX7_otherwise_22 hP hS (by unfold sOther; rw [if_pos (by assumption), if_neg (by assumption)]; exact ⟨rfl, rfl⟩)
  · refine z_ne0 C dX7_otherwise_5 (tgt := 10) (by decide) ?_
    refine lv_iconst (v := (-1)) hx hb dX7_otherwise_8 (by decide) ?_
    exact hret _ _ _ _ _ _ dX7_otherwise_9 hP hS (by unfold sOther; rw [if_neg (by assumption)]; exact ⟨rfl, rfl⟩)
set_option maxHeartbeats 4000000 in
set_option maxRecDepth 100000 in
theorem c_X7_copy {l : Launch} {E : En} {K : Nat → Nat} {L : Nat → Nat → Bool} {ad : Nat → Nat} {I : Nat → Nat → Int32} (f t : Nat) (hM : IsM K L) (hf : f < 40) (ht : t < 40) : MV l E K L ad I yX7_copy cX7_copy 3 0 [.ref (ad 10), .int (nI f), .int (nI t)] (fun J => J = cp4 I f t) := by
  have hM0 := hM
  obtain ⟨m0, ml1, ml2, ml3, ml4, ml5, ml6, ml7, ml8, ml9, ml10, ml11, ml12, ml13, ml14, ml15, ml16, ml17, ml21, ml25, ml26, mk1, mk2, mk3, mk4, mk5, mk6, mk7, mk8, mk9, mk10, mk11, mk12, mk13, mk14, mk15, mk16, mk17, mk21, mk25, mk26⟩ := hM
  refine MV.of (by decide) (Nat.le_of_ble_eq_true rfl) ?_
  intro p ee s m args below meth c ls Qf C hret hP hl
  have C : Cx E p s m args c cX7_copy RX7 3 := C
  have hx := C.1
  have hb := C.2.1
  have hS : va_S (AG E) s.heap s.heap [] := va_S.rf
  have hl : lv_has ls 3 [(0, .ref (ad 10)), (1, .int (nI f)), (2, .int (nI t))] := hl
  refine lv_aload_n hx hb dX7_copy_0 rfl (lv_at hl 0 rfl) ?_
  refine f_X7_16 (q := 13) C hP (by assumption) (by assumption) rfl dX7_copy_1 ?_
  refine lv_iload_n hx hb dX7_copy_4 rfl (lv_at hl 2 rfl) ?_
  refine lv_aload_n hx hb dX7_copy_5 rfl (lv_at hl 0 rfl) ?_
  refine f_X7_16 (q := 13) C hP (by assumption) (by assumption) rfl dX7_copy_6 ?_
  refine lv_iload_n hx hb dX7_copy_9 rfl (lv_at hl 1 rfl) ?_
  refine r_iald (n := 40) C hP (by assumption) (by omega) (by decide) dX7_copy_10 ?_
  refine r_iast (n := 40) C hP hS (by assumption) (by omega) (by decide) dX7_copy_11 (fun H locs hP hS => ?_)
  obtain ⟨I1, eI1⟩ : ∃ Z : Nat → Nat → Int32, Z = up2 I 13 t (I 13 f) := ⟨_, rfl⟩
  rw [← eI1] at hP
  refine lv_aload_n hx hb dX7_copy_12 rfl (lv_at hl 0 rfl) ?_
  refine f_X7_19 (q := 14) C hP (by assumption) (by assumption) rfl dX7_copy_13 ?_
  refine lv_iload_n hx hb dX7_copy_16 rfl (lv_at hl 2 rfl) ?_
  refine lv_aload_n hx hb dX7_copy_17 rfl (lv_at hl 0 rfl) ?_
  refine f_X7_19 (q := 14) C hP (by assumption) (by assumption) rfl dX7_copy_18 ?_
  refine lv_iload_n hx hb dX7_copy_21 rfl (lv_at hl 1 rfl) ?_
  refine r_iald (n := 40) C hP (by assumption) (by omega) (by decide) dX7_copy_22 ?_
  refine r_iast (n := 40) C hP hS (by assumption) (by omega) (by decide) dX7_copy_23 (fun H locs hP hS => ?_)
  obtain ⟨I2, eI2⟩ : ∃ Z : Nat → Nat → Int32, Z = up2 I1 14 t (I1 14 f) := ⟨_, rfl⟩
  rw [← eI2] at hP
  refine lv_aload_n hx hb dX7_copy_24 rfl (lv_at hl 0 rfl) ?_
  refine f_X7_22 (q := 15) C hP (by assumption) (by assumption) rfl dX7_copy_25 ?_
  refine lv_iload_n hx hb dX7_copy_28 rfl (lv_at hl 2 rfl) ?_
  refine lv_aload_n hx hb dX7_copy_29 rfl (lv_at hl 0 rfl) ?_
  refine f_X7_22 (q := 15) C hP (by assumption) (by assumption) rfl dX7_copy_30 ?_
  refine lv_iload_n hx hb dX7_copy_33 rfl (lv_at hl 1 rfl) ?_
  refine r_iald (n := 40) C hP (by assumption) (by omega) (by decide) dX7_copy_34 ?_
  refine r_iast (n := 40) C hP hS (by assumption) (by omega) (by decide) dX7_copy_35 (fun H locs hP hS => ?_)
  obtain ⟨I3, eI3⟩ : ∃ Z : Nat → Nat → Int32, Z = up2 I2 15 t (I2 15 f) := ⟨_, rfl⟩
  rw [← eI3] at hP
  refine lv_aload_n hx hb dX7_copy_36 rfl (lv_at hl 0 rfl) ?_
  refine f_X7_25 (q := 16) C hP (by assumption) (by assumption) rfl dX7_copy_37 ?_
  refine lv_iload_n hx hb dX7_copy_40 rfl (lv_at hl 2 rfl) ?_
  refine lv_aload_n hx hb dX7_copy_41 rfl (lv_at hl 0 rfl) ?_
  refine f_X7_25 (q := 16) C hP (by assumption) (by assumption) rfl dX7_copy_42 ?_
  refine lv_iload_n hx hb dX7_copy_45 rfl (lv_at hl 1 rfl) ?_
  refine r_iald (n := 40) C hP (by assumption) (by omega) (by decide) dX7_copy_46 ?_
  refine r_iast (n := 40) C hP hS (by assumption) (by omega) (by decide) dX7_copy_47 (fun H locs hP hS => ?_)
  obtain ⟨I4, eI4⟩ : ∃ Z : Nat → Nat → Int32, Z = up2 I3 16 t (I3 16 f) := ⟨_, rfl⟩
  rw [← eI4] at hP
  exact hret _ _ _ _ _ dX7_copy_48 hP hS (by unfold cp4; subst_vars; simp only [up2_r (show (14 : Nat) ≠ 13 by decide), up2_r (show (15 : Nat) ≠ 14 by decide), up2_r (show (15 : Nat) ≠ 13 by decide), up2_r (show (16 : Nat) ≠ 15 by decide), up2_r (show (16 : Nat) ≠ 14 by decide), up2_r (show (16 : Nat) ≠ 13 by decide)])
set_option maxHeartbeats 4000000 in
set_option maxRecDepth 100000 in
theorem c_X7_forget {l : Launch} {E : En} {K : Nat → Nat} {L : Nat → Nat → Bool} {ad : Nat → Nat} {I : Nat → Nat → Int32} (t e : Int32) (hM : IsM K L) (hw : WF I) : MI l E K L ad I yX7_forget cX7_forget 4 (some .int) 2 [.ref (ad 10), .int t, .int e] (fun rv RJ => rv = (sForget I t e).1 ∧ RJ = (sForget I t e).2) := by
  have hM0 := hM
  obtain ⟨m0, ml1, ml2, ml3, ml4, ml5, ml6, ml7, ml8, ml9, ml10, ml11, ml12, ml13, ml14, ml15, ml16, ml17, ml21, ml25, ml26, mk1, mk2, mk3, mk4, mk5, mk6, mk7, mk8, mk9, mk10, mk11, mk12, mk13, mk14, mk15, mk16, mk17, mk21, mk25, mk26⟩ := hM
  have he := hw.1
  have hn8 := hw.2.1
  refine MI.of (by decide) (Nat.le_of_ble_eq_true rfl) ?_
  intro p ee s m args below meth c ls Qf C hret hP hl
  have C : Cx E p s m args c cX7_forget RX7 4 := C
  have hx := C.1
  have hb := C.2.1
  have hS : va_S (AG E) s.heap s.heap [] := va_S.rf
  have hl : lv_has ls 4 [(0, .ref (ad 10)), (1, .int t), (2, .int e)] := hl
  refine lv_aload_n hx hb dX7_forget_0 rfl (lv_at hl 0 rfl) ?_
  refine lv_iload_n hx hb dX7_forget_1 rfl (lv_at hl 1 rfl) ?_
  refine k_X7_101 C hP hS (by assumption) (c_X7_isTable (mn I) t (by assumption) he hn8) ⟨Nat.le_of_ble_eq_true rfl, Nat.le_of_ble_eq_true rfl⟩ ⟨Nat.zero_le _, Nat.zero_le _⟩ hl.1 (Nat.le_of_ble_eq_true rfl) dX7_forget_2 (fun v1 I2 H locs hv3 hP hS => ?_)
  obtain ⟨eI2, hv3⟩ := hv3
  rw [eI2] at hP
  clear eI2
  rcases hv3 with ⟨rfl, hc4⟩ | ⟨rfl, hc4⟩
  · obtain ⟨u, hu, eu⟩ : ∃ j : Nat, j < mn I ∧ t = nI j := ⟨t.toInt.toNat, by omega, i32_eq (by omega) (by omega)⟩
    have cu : tn t = u := by rw [eu]; exact nI_clamp (by omega)
    rw [eu] at hl
    have hWu := hw.2.2.1 u hu
    have h12 := hWu.1
    have hu4 := hWu.2.1
    refine z_ne1 C dX7_forget_5 (tgt := 10) (by decide) ?_
    refine lv_iload_n hx hb dX7_forget_10 rfl (lv_at hl 2 rfl) ?_
    refine lv_iconst (v := nI 0) hx hb dX7_forget_11 (by decide) ?_
    refine lv_aload_n hx hb dX7_forget_12 rfl (lv_at hl 0 rfl) ?_
    refine f_X7_13 (q := 12) C hP (by assumption) (by assumption) rfl dX7_forget_13 ?_
    refine lv_iload_n hx hb dX7_forget_16 rfl (lv_at hl 1 rfl) ?_
    refine r_iald (n := 8) C hP (by assumption) (by omega) (by decide) dX7_forget_17 ?_
    refine lv_iconst (v := nI 1) hx hb dX7_forget_18 (by decide) ?_
    refine lv_isub hx hb dX7_forget_19 ?_
    refine lv_topi (fun x5 ex5 => ?_)
    have hq : (x5).toInt = (en I u : Int) - 1 := by rw [ex5, h12, pk_sub_toInt (by omega) (by decide)]; rfl
    have h00 : (nI 0).toInt = 0 := rfl
    refine k_X7_75 C hP hS (c_X7_in e ((nI 0)) x5) ⟨Nat.le_of_ble_eq_true rfl, Nat.le_of_ble_eq_true rfl⟩ ⟨Nat.zero_le _, Nat.zero_le _⟩ hl.1 (Nat.le_of_ble_eq_true rfl) dX7_forget_20 (fun v6 I7 H locs hv8 hP hS => ?_)
    obtain ⟨eI7, hv8⟩ := hv8
    rw [eI7] at hP
    clear eI7
    rcases hv8 with ⟨rfl, hc9⟩ | ⟨rfl, hc9⟩
    · obtain ⟨e0, he0, ee0⟩ : ∃ j : Nat, j < en I u ∧ e = nI j := ⟨e.toInt.toNat, by omega, i32_eq (by omega) (by omega)⟩
      have ce0 : tn e = e0 := by rw [ee0]; exact nI_clamp (by omega)
      rw [ee0] at hl
      refine z_ne1 C dX7_forget_23 (tgt := 29) (by decide) ?_
      refine lv_aload_n hx hb dX7_forget_29 rfl (lv_at hl 0 rfl) ?_
      refine f_X7_13 (q := 12) C hP (by assumption) (by assumption) rfl dX7_forget_30 ?_
      refine lv_iload_n hx hb dX7_forget_33 rfl (lv_at hl 1 rfl) ?_
      refine lv_dup2_11 hx hb dX7_forget_34 rfl rfl ?_
      refine r_iald (n := 8) C hP (by assumption) (by omega) (by decide) dX7_forget_35 ?_
      refine r_eqi (y := (nI (en I u))) (h12) ?_
      refine lv_iconst (v := nI 1) hx hb dX7_forget_36 (by decide) ?_
      refine r_subN C (by omega) dX7_forget_37 ?_
      refine r_iast (n := 8) C hP hS (by assumption) (by omega) (by decide) dX7_forget_38 (fun H locs hP hS => ?_)
      obtain ⟨I10, eI10⟩ : ∃ Z : Nat → Nat → Int32, Z = up2 I 12 u (nI ((en I u) - 1)) := ⟨_, rfl⟩
      rw [← eI10] at hP
      refine lv_iload_n hx hb dX7_forget_39 rfl (lv_at hl 2 rfl) ?_
      refine lv_istore_n (lv' := [(3, .int (nI e0)), (0, .ref (ad 10)), (1, .int (nI u)), (2, .int (nI e0))]) hx hb dX7_forget_40 rfl hl (by decide) rfl (fun ls hl => ?_)
      have hL41_11 : ∀ (d : Nat) (j : Nat) (J : Mem) (H : Heap) (locs : List Loc) (ls : Array Slot), en I u < j + d → (e0 ≤ j) → (j ≤ en I u - 1) → (J = FG I u e0 (en I u) j) → Hp E K L ad J H → va_S (AG E) s.heap H locs → lv_has ls 4 [(0, .ref (ad 10)), (1, .int (nI u)), (3, .int (nI j))] → W p l ee (rmk 2) s m args below meth c H locs 0 0 Qf (F0 m 41 ls []) := by
        intro d41
        induction d41 with
        | zero => intro j J H locs ls hd41 h0 hj hc _ _ _; exact absurd hd41 (by omega)
        | succ d41 ih41 =>
          intro j J H locs ls hd41 h0 hj hc hP hS hl
          have hJu : J 12 u = nI (en I u - 1) := by rw [hc]; simp [FG]
          refine lv_iload_n hx hb dX7_forget_41 rfl (lv_at hl 2 rfl) ?_
          refine lv_aload_n hx hb dX7_forget_42 rfl (lv_at hl 0 rfl) ?_
          refine f_X7_13 (q := 12) C hP (by assumption) (by assumption) rfl dX7_forget_43 ?_
          refine lv_iload_n hx hb dX7_forget_46 rfl (lv_at hl 1 rfl) ?_
          refine r_iald (n := 8) C hP (by assumption) (by omega) (by decide) dX7_forget_47 ?_
          refine r_eqi (y := (nI (en I u - 1))) (hJu) ?_
          refine b_geN C (by omega) (by omega) dX7_forget_48 (tgt := 73) (by decide) (fun h12 => ?_) (fun h12 => ?_)
          · refine lv_aload_n hx hb dX7_forget_73 rfl (lv_at hl 0 rfl) ?_
            refine f_X7_13 (q := 12) C hP (by assumption) (by assumption) rfl dX7_forget_74 ?_
            refine lv_iload_n hx hb dX7_forget_77 rfl (lv_at hl 1 rfl) ?_
            refine r_iald (n := 8) C hP (by assumption) (by omega) (by decide) dX7_forget_78 ?_
            refine r_eqi (y := (nI (en I u - 1))) (hJu) ?_
            exact hret _ _ _ _ _ _ dX7_forget_79 hP hS (by unfold sForget; rw [if_pos (by assumption), cu, if_pos (by omega), ce0]; refine ⟨rfl, ?_⟩; rw [hc, show j = en I u - 1 by omega]; rfl)
          · refine lv_aload_n hx hb dX7_forget_51 rfl (lv_at hl 0 rfl) ?_
            refine lv_iconst (v := nI 5) hx hb dX7_forget_52 (by decide) ?_
            refine lv_iload_n hx hb dX7_forget_53 rfl (lv_at hl 1 rfl) ?_
            refine r_mulN C dX7_forget_54 ?_
            refine lv_iload_n hx hb dX7_forget_55 rfl (lv_at hl 2 rfl) ?_
            refine r_addN C dX7_forget_56 ?_
            refine lv_iconst (v := nI 1) hx hb dX7_forget_57 (by decide) ?_
            refine r_addN C dX7_forget_58 ?_
            refine lv_iconst (v := nI 5) hx hb dX7_forget_59 (by decide) ?_
            refine lv_iload_n hx hb dX7_forget_60 rfl (lv_at hl 1 rfl) ?_
            refine r_mulN C dX7_forget_61 ?_
            refine lv_iload_n hx hb dX7_forget_62 rfl (lv_at hl 2 rfl) ?_
            refine r_addN C dX7_forget_63 ?_
            refine k_X7_114 C hP hS (by assumption) (c_X7_copy ((5 * u + j) + 1) (5 * u + j) hM0 (by omega) (by omega)) ⟨Nat.le_of_ble_eq_true rfl, Nat.le_of_ble_eq_true rfl⟩ ⟨Nat.zero_le _, Nat.zero_le _⟩ hl.1 (Nat.le_of_ble_eq_true rfl) dX7_forget_64 (fun I14 H locs hv15 hP hS => ?_)
            have eI14 := hv15
            refine lv_iinc (v := nI (j + 1)) (lv' := [(3, .int (nI (j + 1))), (0, .ref (ad 10)), (1, .int (nI u))]) hx hb dX7_forget_67 hl (k := 2) rfl (nI_1 _) (by decide) rfl (fun ls hl => ?_)
            refine lv_goto (tgt := 41) hx hb dX7_forget_70 (by decide) ?_
            exact ih41 (j + 1) I14 _ _ _ (by omega) (by omega) (by omega) (by rw [eI14, hc]; exact FG_s h0) hP hS (lv_sub hl [1, 2, 0] rfl)
      exact hL41_11 (en I u + 1) e0 I10 _ _ _ (by omega) (Nat.le_refl _) (by omega) (by rw [eI10]; exact FG_0 _ _ _ _) hP hS (lv_sub hl [1, 2, 0] rfl)
    · refine z_ne0 C dX7_forget_23 (tgt := 29) (by decide) ?_
      refine lv_bipush (v := (-2)) hx hb dX7_forget_26 (by decide) ?_
      exact hret _ _ _ _ _ _ dX7_forget_28 hP hS (by unfold sForget; rw [if_pos (by assumption), cu, if_neg (by omega)]; exact ⟨rfl, rfl⟩)
  · refine z_ne0 C dX7_forget_5 (tgt := 10) (by decide) ?_
    refine lv_iconst (v := (-1)) hx hb dX7_forget_8 (by decide) ?_
    exact hret _ _ _ _ _ _ dX7_forget_9 hP hS (by unfold sForget; rw [if_neg (by assumption)]; exact ⟨rfl, rfl⟩)
set_option maxHeartbeats 4000000 in
set_option maxRecDepth 100000 in
theorem c_X7_drop {l : Launch} {E : En} {K : Nat → Nat} {L : Nat → Nat → Bool} {ad : Nat → Nat} {I : Nat → Nat → Int32} (t : Int32) (hM : IsM K L) (hw : WF I) : MI l E K L ad I yX7_drop cX7_drop 4 (some .int) 2 [.ref (ad 10), .int t] (fun rv RJ => rv = (sDrop I t).1 ∧ RJ = (sDrop I t).2) := by
  have hM0 := hM
  obtain ⟨m0, ml1, ml2, ml3, ml4, ml5, ml6, ml7, ml8, ml9, ml10, ml11, ml12, ml13, ml14, ml15, ml16, ml17, ml21, ml25, ml26, mk1, mk2, mk3, mk4, mk5, mk6, mk7, mk8, mk9, mk10, mk11, mk12, mk13, mk14, mk15, mk16, mk17, mk21, mk25, mk26⟩ := hM
  have he := hw.1
  have hn8 := hw.2.1
  refine MI.of (by decide) (Nat.le_of_ble_eq_true rfl) ?_
  intro p ee s m args below meth c ls Qf C hret hP hl
  have C : Cx E p s m args c cX7_drop RX7 4 := C
  have hx := C.1
  have hb := C.2.1
  have hS : va_S (AG E) s.heap s.heap [] := va_S.rf
  have hl : lv_has ls 4 [(0, .ref (ad 10)), (1, .int t)] := hl
  refine lv_aload_n hx hb dX7_drop_0 rfl (lv_at hl 0 rfl) ?_
  refine lv_iload_n hx hb dX7_drop_1 rfl (lv_at hl 1 rfl) ?_
  refine k_X7_101 C hP hS (by assumption) (c_X7_isTable (mn I) t (by assumption) he hn8) ⟨Nat.le_of_ble_eq_true rfl, Nat.le_of_ble_eq_true rfl⟩ ⟨Nat.zero_le _, Nat.zero_le _⟩ hl.1 (Nat.le_of_ble_eq_true rfl) dX7_drop_2 (fun v1 I2 H locs hv3 hP hS => ?_)
  obtain ⟨eI2, hv3⟩ := hv3
  rw [eI2] at hP
  clear eI2
  rcases hv3 with ⟨rfl, hc4⟩ | ⟨rfl, hc4⟩
  · obtain ⟨u, hu, eu⟩ : ∃ j : Nat, j < mn I ∧ t = nI j := ⟨t.toInt.toNat, by omega, i32_eq (by omega) (by omega)⟩
    have cu : tn t = u := by rw [eu]; exact nI_clamp (by omega)
    rw [eu] at hl
    refine z_ne1 C dX7_drop_5 (tgt := 10) (by decide) ?_
    refine lv_aload_n hx hb dX7_drop_10 rfl (lv_at hl 0 rfl) ?_
    refine lv_dup hx hb dX7_drop_11 rfl ?_
    refine f_X7_71 C hP (by first | assumption | exact hKa _ (by omega)) dX7_drop_12 ?_
    refine r_eqi (y := (nI (mn I))) (he) ?_
    refine lv_iconst (v := nI 1) hx hb dX7_drop_15 (by decide) ?_
    refine r_subN C (by omega) dX7_drop_16 ?_
    refine p_X7_71 C hP hS (by assumption) dX7_drop_17 (fun H locs hP hS => ?_)
    obtain ⟨I5, eI5⟩ : ∃ Z : Nat → Nat → Int32, Z = up2 I 10 0 (nI ((mn I) - 1)) := ⟨_, rfl⟩
    rw [← eI5] at hP
    refine lv_iload_n hx hb dX7_drop_20 rfl (lv_at hl 1 rfl) ?_
    refine lv_istore_n (lv' := [(2, .int (nI u)), (0, .ref (ad 10)), (1, .int (nI u))]) hx hb dX7_drop_21 rfl hl (by decide) rfl (fun ls hl => ?_)
    have hL22_6 : ∀ (d : Nat) (k0 : Nat) (J : Mem) (H : Heap) (locs : List Loc) (ls : Array Slot), mn I < k0 + d → (u ≤ k0) → (k0 ≤ mn I - 1) → (J = DR I u (mn I) k0 (5 * k0)) → Hp E K L ad J H → va_S (AG E) s.heap H locs → lv_has ls 4 [(0, .ref (ad 10)), (2, .int (nI k0))] → W p l ee (rmk 2) s m args below meth c H locs 0 0 Qf (F0 m 22 ls []) := by
      intro d22
      induction d22 with
      | zero => intro k0 J H locs ls hd22 h0 hk hc _ _ _; exact absurd hd22 (by omega)
      | succ d22 ih22 =>
        intro k0 J H locs ls hd22 h0 hk hc hP hS hl
        have hJu : J 10 0 = nI (mn I - 1) := by rw [hc]; simp [DR]
        refine lv_iload_n hx hb dX7_drop_22 rfl (lv_at hl 1 rfl) ?_
        refine lv_aload_n hx hb dX7_drop_23 rfl (lv_at hl 0 rfl) ?_
        refine f_X7_71 C hP (by first | assumption | exact hKa _ (by omega)) dX7_drop_24 ?_
        refine r_eqi (y := (nI (mn I - 1))) (hJu) ?_
        refine b_geN C (by omega) (by omega) dX7_drop_27 (tgt := 93) (by decide) (fun h7 => ?_) (fun h7 => ?_)
        · refine lv_aload_n hx hb dX7_drop_93 rfl (lv_at hl 0 rfl) ?_
          refine f_X7_71 C hP (by first | assumption | exact hKa _ (by omega)) dX7_drop_94 ?_
          refine r_eqi (y := (nI (mn I - 1))) (hJu) ?_
          exact hret _ _ _ _ _ _ dX7_drop_97 hP hS (by unfold sDrop; rw [if_pos (by assumption), cu]; refine ⟨rfl, ?_⟩; rw [hc, show k0 = mn I - 1 by omega]; rfl)
        · refine lv_aload_n hx hb dX7_drop_30 rfl (lv_at hl 0 rfl) ?_
          refine f_X7_7 (q := 11) C hP (by assumption) (by assumption) rfl dX7_drop_31 ?_
          refine lv_iload_n hx hb dX7_drop_34 rfl (lv_at hl 1 rfl) ?_
          refine lv_aload_n hx hb dX7_drop_35 rfl (lv_at hl 0 rfl) ?_
          refine f_X7_7 (q := 11) C hP (by assumption) (by assumption) rfl dX7_drop_36 ?_
          refine lv_iload_n hx hb dX7_drop_39 rfl (lv_at hl 1 rfl) ?_
          refine lv_iconst (v := nI 1) hx hb dX7_drop_40 (by decide) ?_
          refine r_addN C dX7_drop_41 ?_
          refine r_iald (n := 8) C hP (by assumption) (by omega) (by decide) dX7_drop_42 ?_
          refine r_iast (n := 8) C hP hS (by assumption) (by omega) (by decide) dX7_drop_43 (fun H locs hP hS => ?_)
          obtain ⟨I8, eI8⟩ : ∃ Z : Nat → Nat → Int32, Z = up2 J 11 k0 (J 11 (k0 + 1)) := ⟨_, rfl⟩
          rw [← eI8] at hP
          refine lv_aload_n hx hb dX7_drop_44 rfl (lv_at hl 0 rfl) ?_
          refine f_X7_13 (q := 12) C hP (by assumption) (by assumption) rfl dX7_drop_45 ?_
          refine lv_iload_n hx hb dX7_drop_48 rfl (lv_at hl 1 rfl) ?_
          refine lv_aload_n hx hb dX7_drop_49 rfl (lv_at hl 0 rfl) ?_
          refine f_X7_13 (q := 12) C hP (by assumption) (by assumption) rfl dX7_drop_50 ?_
          refine lv_iload_n hx hb dX7_drop_53 rfl (lv_at hl 1 rfl) ?_
          refine lv_iconst (v := nI 1) hx hb dX7_drop_54 (by decide) ?_
          refine r_addN C dX7_drop_55 ?_
          refine r_iald (n := 8) C hP (by assumption) (by omega) (by decide) dX7_drop_56 ?_
          refine r_iast (n := 8) C hP hS (by assumption) (by omega) (by decide) dX7_drop_57 (fun H locs hP hS => ?_)
          obtain ⟨I9, eI9⟩ : ∃ Z : Nat → Nat → Int32, Z = up2 I8 12 k0 (I8 12 (k0 + 1)) := ⟨_, rfl⟩
          rw [← eI9] at hP
          refine lv_iconst (v := nI 0) hx hb dX7_drop_58 (by decide) ?_
          refine lv_istore_n (lv' := [(3, .int (nI 0)), (0, .ref (ad 10)), (2, .int (nI k0))]) hx hb dX7_drop_59 rfl hl (by decide) rfl (fun ls hl => ?_)
          have hzz : I9 = DR I u (mn I) (k0 + 1) (5 * k0 + 0) := by
            subst_vars; exact DR_k h0
          have hL60_10 : ∀ (d : Nat) (j : Nat) (Z : Mem) (H : Heap) (locs : List Loc) (ls : Array Slot), 5 < j + d → (j ≤ 5) → (Z = DR I u (mn I) (k0 + 1) (5 * k0 + j)) → Hp E K L ad Z H → va_S (AG E) s.heap H locs → lv_has ls 4 [(0, .ref (ad 10)), (2, .int (nI k0)), (3, .int (nI j))] → W p l ee (rmk 2) s m args below meth c H locs 0 0 Qf (F0 m 60 ls []) := by
            intro d60
            induction d60 with
            | zero => intro j Z H locs ls hd60 hj hz _ _ _; exact absurd hd60 (by omega)
            | succ d60 ih60 =>
              intro j Z H locs ls hd60 hj hz hP hS hl
              refine lv_iload_n hx hb dX7_drop_60 rfl (lv_at hl 2 rfl) ?_
              refine lv_iconst (v := nI 5) hx hb dX7_drop_61 (by decide) ?_
              refine b_geN C (by omega) (by omega) dX7_drop_62 (tgt := 87) (by decide) (fun h11 => ?_) (fun h11 => ?_)
              · refine lv_iinc (v := nI (k0 + 1)) (lv' := [(2, .int (nI (k0 + 1))), (0, .ref (ad 10)), (3, .int (nI j))]) hx hb dX7_drop_87 hl (k := 1) rfl (nI_1 _) (by decide) rfl (fun ls hl => ?_)
                refine lv_goto (tgt := 22) hx hb dX7_drop_90 (by decide) ?_
                exact ih22 (k0 + 1) Z _ _ _ (by omega) (by omega) (by omega) (by rw [hz, show j = 5 by omega]; rfl) hP hS (lv_sub hl [1, 0] rfl)
              · refine lv_aload_n hx hb dX7_drop_65 rfl (lv_at hl 0 rfl) ?_
                refine lv_iconst (v := nI 5) hx hb dX7_drop_66 (by decide) ?_
                refine lv_iload_n hx hb dX7_drop_67 rfl (lv_at hl 1 rfl) ?_
                refine r_mulN C dX7_drop_68 ?_
                refine lv_iconst (v := nI 5) hx hb dX7_drop_69 (by decide) ?_
                refine r_addN C dX7_drop_70 ?_
                refine lv_iload_n hx hb dX7_drop_71 rfl (lv_at hl 2 rfl) ?_
                refine r_addN C dX7_drop_72 ?_
                refine lv_iconst (v := nI 5) hx hb dX7_drop_73 (by decide) ?_
                refine lv_iload_n hx hb dX7_drop_74 rfl (lv_at hl 1 rfl) ?_
                refine r_mulN C dX7_drop_75 ?_
                refine lv_iload_n hx hb dX7_drop_76 rfl (lv_at hl 2 rfl) ?_
                refine r_addN C dX7_drop_77 ?_
                refine k_X7_114 C hP hS (by assumption) (c_X7_copy ((5 * k0 + 5) + j) (5 * k0 + j) hM0 (by omega) (by omega)) ⟨Nat.le_of_ble_eq_true rfl, Nat.le_of_ble_eq_true rfl⟩ ⟨Nat.zero_le _, Nat.zero_le _⟩ hl.1 (Nat.le_of_ble_eq_true rfl) dX7_drop_78 (fun I13 H locs hv14 hP hS => ?_)
                have eI13 := hv14
                refine lv_iinc (v := nI (j + 1)) (lv' := [(3, .int (nI (j + 1))), (0, .ref (ad 10)), (2, .int (nI k0))]) hx hb dX7_drop_81 hl (k := 2) rfl (nI_1 _) (by decide) rfl (fun ls hl => ?_)
                refine lv_goto (tgt := 60) hx hb dX7_drop_84 (by decide) ?_
                exact ih60 (j + 1) I13 _ _ _ (by omega) (by omega) (by rw [eI13, hz]; exact DR_a h0) hP hS (lv_sub hl [1, 2, 0] rfl)
          exact hL60_10 (5 + 1) 0 I9 _ _ _ (by omega) (by omega) (hzz) hP hS (lv_sub hl [1, 2, 0] rfl)
    exact hL22_6 (mn I + 1) u I5 _ _ _ (by omega) (Nat.le_refl _) (by omega) (by rw [eI5]; exact DR_0 _ _ _) hP hS (lv_sub hl [1, 0] rfl)
  · refine z_ne0 C dX7_drop_5 (tgt := 10) (by decide) ?_
    refine lv_iconst (v := (-1)) hx hb dX7_drop_8 (by decide) ?_
    exact hret _ _ _ _ _ _ dX7_drop_9 hP hS (by unfold sDrop; rw [if_neg (by assumption)]; exact ⟨rfl, rfl⟩)
set_option maxHeartbeats 4000000 in
set_option maxRecDepth 100000 in
theorem c_X7_rule {l : Launch} {E : En} {K : Nat → Nat} {L : Nat → Nat → Bool} {ad : Nat → Nat} {I : Nat → Nat → Int32} (w n : Int32) (hM : IsM K L) : MI l E K L ad I yX7_rule cX7_rule 4 (some .int) 1 [.ref (ad 10), .int w, .int n] (fun rv RJ => rv = (sRule I w n).1 ∧ RJ = (sRule I w n).2) := by
  have hM0 := hM
  obtain ⟨m0, ml1, ml2, ml3, ml4, ml5, ml6, ml7, ml8, ml9, ml10, ml11, ml12, ml13, ml14, ml15, ml16, ml17, ml21, ml25, ml26, mk1, mk2, mk3, mk4, mk5, mk6, mk7, mk8, mk9, mk10, mk11, mk12, mk13, mk14, mk15, mk16, mk17, mk21, mk25, mk26⟩ := hM
  refine MI.of (by decide) (Nat.le_of_ble_eq_true rfl) ?_
  intro p ee s m args below meth c ls Qf C hret hP hl
  have C : Cx E p s m args c cX7_rule RX7 4 := C
  have hx := C.1
  have hb := C.2.1
  have hS : va_S (AG E) s.heap s.heap [] := va_S.rf
  have hl : lv_has ls 4 [(0, .ref (ad 10)), (1, .int w), (2, .int n)] := hl
  refine lv_iload_n hx hb dX7_rule_0 rfl (lv_at hl 1 rfl) ?_
  refine lv_iconst (v := nI 0) hx hb dX7_rule_1 (by decide) ?_
  refine lv_iconst (v := nI 3) hx hb dX7_rule_2 (by decide) ?_
  refine k_X7_75 C hP hS (c_X7_inN w 0 3 (by first | decide | omega) (by first | decide | omega)) ⟨Nat.le_of_ble_eq_true rfl, Nat.le_of_ble_eq_true rfl⟩ ⟨Nat.zero_le _, Nat.zero_le _⟩ hl.1 (Nat.le_of_ble_eq_true rfl) dX7_rule_3 (fun v1 I2 H locs hv3 hP hS => ?_)
  obtain ⟨eI2, hv3⟩ := hv3
  rw [eI2] at hP
  clear eI2
  rcases hv3 with ⟨rfl, hc4⟩ | ⟨rfl, hc4⟩
  · refine z_eq1 C dX7_rule_6 (tgt := 45) (by decide) ?_
    refine lv_iload_n hx hb dX7_rule_9 rfl (lv_at hl 2 rfl) ?_
    refine lv_iload_n hx hb dX7_rule_10 rfl (lv_at hl 1 rfl) ?_
    refine z_ne C dX7_rule_11 (tgt := 18) (by decide) (fun h5 => ?_) (fun h5 => ?_)
    · have h5t : (w : Int32).toInt ≠ 0 := fun q => h5 (i32_eq (k := 0) (by decide) q)
      refine lv_iconst (v := nI 1) hx hb dX7_rule_18 (by decide) ?_
      refine lv_iload_n hx hb dX7_rule_19 rfl (lv_at hl 1 rfl) ?_
      refine z_ne C dX7_rule_20 (tgt := 28) (by decide) (fun h6 => ?_) (fun h6 => ?_)
      · have h6t : (w : Int32).toInt ≠ 0 := fun q => h6 (i32_eq (k := 0) (by decide) q)
        refine lv_iload_n hx hb dX7_rule_28 rfl (lv_at hl 1 rfl) ?_
        refine lv_iconst (v := nI 2) hx hb dX7_rule_29 (by decide) ?_
        refine b_ne C dX7_rule_30 (tgt := 38) (by decide) (fun h7 => ?_) (fun h7 => ?_)
        · have h7t : (w : Int32).toInt ≠ 2 := fun q => h7 (i32_eq (by decide) q)
          refine lv_iconst (v := nI 4) hx hb dX7_rule_38 (by decide) ?_
          refine k_X7_75 C hP hS (c_X7_inN n 1 4 (by first | decide | omega) (by first | decide | omega)) ⟨Nat.le_of_ble_eq_true rfl, Nat.le_of_ble_eq_true rfl⟩ ⟨Nat.zero_le _, Nat.zero_le _⟩ hl.1 (Nat.le_of_ble_eq_true rfl) dX7_rule_39 (fun v8 I9 H locs hv10 hP hS => ?_)
          obtain ⟨eI9, hv10⟩ := hv10
          rw [eI9] at hP
          clear eI9
          rcases hv10 with ⟨rfl, hc11⟩ | ⟨rfl, hc11⟩
          · refine z_ne1 C dX7_rule_42 (tgt := 48) (by decide) ?_
            obtain ⟨j, hj, ej⟩ : ∃ j : Nat, j < 4 ∧ w = nI j := ⟨w.toInt.toNat, by omega, i32_eq (by omega) (by omega)⟩
            have cj : tn w = j := by rw [ej]; exact nI_clamp (by omega)
            rw [ej] at hl
            refine lv_aload_n hx hb dX7_rule_48 rfl (lv_at hl 0 rfl) ?_
            refine f_X7_34 (q := 19) C hP (by assumption) (by assumption) rfl dX7_rule_49 ?_
            refine lv_iload_n hx hb dX7_rule_52 rfl (lv_at hl 1 rfl) ?_
            refine r_iald (n := 4) C hP (by assumption) (by omega) (by decide) dX7_rule_53 ?_
            refine lv_istore_n (lv' := [(3, .int (I 19 j)), (0, .ref (ad 10)), (1, .int (nI j)), (2, .int n)]) hx hb dX7_rule_54 rfl hl (by decide) rfl (fun ls hl => ?_)
            refine lv_aload_n hx hb dX7_rule_55 rfl (lv_at hl 1 rfl) ?_
            refine f_X7_34 (q := 19) C hP (by assumption) (by assumption) rfl dX7_rule_56 ?_
            refine lv_iload_n hx hb dX7_rule_59 rfl (lv_at hl 2 rfl) ?_
            refine lv_iload_n hx hb dX7_rule_60 rfl (lv_at hl 3 rfl) ?_
            refine r_iast (n := 4) C hP hS (by assumption) (by omega) (by decide) dX7_rule_61 (fun H locs hP hS => ?_)
            obtain ⟨I12, eI12⟩ : ∃ Z : Nat → Nat → Int32, Z = up2 I 19 j n := ⟨_, rfl⟩
            rw [← eI12] at hP
            refine lv_iload_n hx hb dX7_rule_62 rfl (lv_at hl 0 rfl) ?_
            exact hret _ _ _ _ _ _ dX7_rule_63 hP hS (by unfold sRule; rw [if_pos ⟨by omega, by unfold ruL ruH; (repeat split) <;> omega⟩, cj]; refine ⟨rfl, ?_⟩; subst_vars; rfl)
          · refine z_ne0 C dX7_rule_42 (tgt := 48) (by decide) ?_
            refine lv_bipush (v := (-2)) hx hb dX7_rule_45 (by decide) ?_
            exact hret _ _ _ _ _ _ dX7_rule_47 hP hS (by unfold sRule; rw [if_neg (fun q => by have q2 := q.2; unfold ruL ruH at q2; (repeat split at q2) <;> omega)]; exact ⟨rfl, rfl⟩)
        · have h7t : (w : Int32).toInt = 2 := by rw [h7]; rfl
          refine lv_bipush (v := nI 8) hx hb dX7_rule_33 (by decide) ?_
          refine lv_goto (tgt := 39) hx hb dX7_rule_35 (by decide) ?_
          refine k_X7_75 C hP hS (c_X7_inN n 1 8 (by first | decide | omega) (by first | decide | omega)) ⟨Nat.le_of_ble_eq_true rfl, Nat.le_of_ble_eq_true rfl⟩ ⟨Nat.zero_le _, Nat.zero_le _⟩ hl.1 (Nat.le_of_ble_eq_true rfl) dX7_rule_39 (fun v13 I14 H locs hv15 hP hS => ?_)
          obtain ⟨eI14, hv15⟩ := hv15
          rw [eI14] at hP
          clear eI14
          rcases hv15 with ⟨rfl, hc16⟩ | ⟨rfl, hc16⟩
          · refine z_ne1 C dX7_rule_42 (tgt := 48) (by decide) ?_
            obtain ⟨j, hj, ej⟩ : ∃ j : Nat, j < 4 ∧ w = nI j := ⟨w.toInt.toNat, by omega, i32_eq (by omega) (by omega)⟩
            have cj : tn w = j := by rw [ej]; exact nI_clamp (by omega)
            rw [ej] at hl
            refine lv_aload_n hx hb dX7_rule_48 rfl (lv_at hl 0 rfl) ?_
            refine f_X7_34 (q := 19) C hP (by assumption) (by assumption) rfl dX7_rule_49 ?_
            refine lv_iload_n hx hb dX7_rule_52 rfl (lv_at hl 1 rfl) ?_
            refine r_iald (n := 4) C hP (by assumption) (by omega) (by decide) dX7_rule_53 ?_
            refine lv_istore_n (lv' := [(3, .int (I 19 j)), (0, .ref (ad 10)), (1, .int (nI j)), (2, .int n)]) hx hb dX7_rule_54 rfl hl (by decide) rfl (fun ls hl => ?_)
            refine lv_aload_n hx hb dX7_rule_55 rfl (lv_at hl 1 rfl) ?_
            refine f_X7_34 (q := 19) C hP (by assumption) (by assumption) rfl dX7_rule_56 ?_
            refine lv_iload_n hx hb dX7_rule_59 rfl (lv_at hl 2 rfl) ?_
            refine lv_iload_n hx hb dX7_rule_60 rfl (lv_at hl 3 rfl) ?_
            refine r_iast (n := 4) C hP hS (by assumption) (by omega) (by decide) dX7_rule_61 (fun H locs hP hS => ?_)
            obtain ⟨I17, eI17⟩ : ∃ Z : Nat → Nat → Int32, Z = up2 I 19 j n := ⟨_, rfl⟩
            rw [← eI17] at hP
            refine lv_iload_n hx hb dX7_rule_62 rfl (lv_at hl 0 rfl) ?_
            exact hret _ _ _ _ _ _ dX7_rule_63 hP hS (by unfold sRule; rw [if_pos ⟨by omega, by unfold ruL ruH; (repeat split) <;> omega⟩, cj]; refine ⟨rfl, ?_⟩; subst_vars; rfl)
          · refine z_ne0 C dX7_rule_42 (tgt := 48) (by decide) ?_
            refine lv_bipush (v := (-2)) hx hb dX7_rule_45 (by decide) ?_
            exact hret _ _ _ _ _ _ dX7_rule_47 hP hS (by unfold sRule; rw [if_neg (fun q => by have q2 := q.2; unfold ruL ruH at q2; (repeat split at q2) <;> omega)]; exact ⟨rfl, rfl⟩)
      · have h6t : (w : Int32).toInt = 0 := by rw [h6]; rfl
        refine lv_bipush (v := nI 20) hx hb dX7_rule_23 (by decide) ?_
        refine lv_goto (tgt := 39) hx hb dX7_rule_25 (by decide) ?_
        refine k_X7_75 C hP hS (c_X7_inN n 1 20 (by first | decide | omega) (by first | decide | omega)) ⟨Nat.le_of_ble_eq_true rfl, Nat.le_of_ble_eq_true rfl⟩ ⟨Nat.zero_le _, Nat.zero_le _⟩ hl.1 (Nat.le_of_ble_eq_true rfl) dX7_rule_39 (fun v18 I19 H locs hv20 hP hS => ?_)
        obtain ⟨eI19, hv20⟩ := hv20
        rw [eI19] at hP
        clear eI19
        rcases hv20 with ⟨rfl, hc21⟩ | ⟨rfl, hc21⟩
        · refine z_ne1 C dX7_rule_42 (tgt := 48) (by decide) ?_
          obtain ⟨j, hj, ej⟩ : ∃ j : Nat, j < 4 ∧ w = nI j := ⟨w.toInt.toNat, by omega, i32_eq (by omega) (by omega)⟩
          have cj : tn w = j := by rw [ej]; exact nI_clamp (by omega)
          rw [ej] at hl
          refine lv_aload_n hx hb dX7_rule_48 rfl (lv_at hl 0 rfl) ?_
          refine f_X7_34 (q := 19) C hP (by assumption) (by assumption) rfl dX7_rule_49 ?_
          refine lv_iload_n hx hb dX7_rule_52 rfl (lv_at hl 1 rfl) ?_
          refine r_iald (n := 4) C hP (by assumption) (by omega) (by decide) dX7_rule_53 ?_
          refine lv_istore_n (lv' := [(3, .int (I 19 j)), (0, .ref (ad 10)), (1, .int (nI j)), (2, .int n)]) hx hb dX7_rule_54 rfl hl (by decide) rfl (fun ls hl => ?_)
          refine lv_aload_n hx hb dX7_rule_55 rfl (lv_at hl 1 rfl) ?_
          refine f_X7_34 (q := 19) C hP (by assumption) (by assumption) rfl dX7_rule_56 ?_
          refine lv_iload_n hx hb dX7_rule_59 rfl (lv_at hl 2 rfl) ?_
          refine lv_iload_n hx hb dX7_rule_60 rfl (lv_at hl 3 rfl) ?_
          refine r_iast (n := 4) C hP hS (by assumption) (by omega) (by decide) dX7_rule_61 (fun H locs hP hS => ?_)
          obtain ⟨I22, eI22⟩ : ∃ Z : Nat → Nat → Int32, Z = up2 I 19 j n := ⟨_, rfl⟩
          rw [← eI22] at hP
          refine lv_iload_n hx hb dX7_rule_62 rfl (lv_at hl 0 rfl) ?_
          exact hret _ _ _ _ _ _ dX7_rule_63 hP hS (by unfold sRule; rw [if_pos ⟨by omega, by unfold ruL ruH; (repeat split) <;> omega⟩, cj]; refine ⟨rfl, ?_⟩; subst_vars; rfl)
        · refine z_ne0 C dX7_rule_42 (tgt := 48) (by decide) ?_
          refine lv_bipush (v := (-2)) hx hb dX7_rule_45 (by decide) ?_
          exact hret _ _ _ _ _ _ dX7_rule_47 hP hS (by unfold sRule; rw [if_neg (fun q => by have q2 := q.2; unfold ruL ruH at q2; (repeat split at q2) <;> omega)]; exact ⟨rfl, rfl⟩)
    · have h5t : (w : Int32).toInt = 0 := by rw [h5]; rfl
      refine lv_iconst (v := nI 5) hx hb dX7_rule_14 (by decide) ?_
      refine lv_goto (tgt := 19) hx hb dX7_rule_15 (by decide) ?_
      refine lv_iload_n hx hb dX7_rule_19 rfl (lv_at hl 1 rfl) ?_
      refine z_ne C dX7_rule_20 (tgt := 28) (by decide) (fun h23 => ?_) (fun h23 => ?_)
      · have h23t : (w : Int32).toInt ≠ 0 := fun q => h23 (i32_eq (k := 0) (by decide) q)
        refine lv_iload_n hx hb dX7_rule_28 rfl (lv_at hl 1 rfl) ?_
        refine lv_iconst (v := nI 2) hx hb dX7_rule_29 (by decide) ?_
        refine b_ne C dX7_rule_30 (tgt := 38) (by decide) (fun h24 => ?_) (fun h24 => ?_)
        · have h24t : (w : Int32).toInt ≠ 2 := fun q => h24 (i32_eq (by decide) q)
          refine lv_iconst (v := nI 4) hx hb dX7_rule_38 (by decide) ?_
          refine k_X7_75 C hP hS (c_X7_inN n 5 4 (by first | decide | omega) (by first | decide | omega)) ⟨Nat.le_of_ble_eq_true rfl, Nat.le_of_ble_eq_true rfl⟩ ⟨Nat.zero_le _, Nat.zero_le _⟩ hl.1 (Nat.le_of_ble_eq_true rfl) dX7_rule_39 (fun v25 I26 H locs hv27 hP hS => ?_)
          obtain ⟨eI26, hv27⟩ := hv27
          rw [eI26] at hP
          clear eI26
          rcases hv27 with ⟨rfl, hc28⟩ | ⟨rfl, hc28⟩
          · refine z_ne1 C dX7_rule_42 (tgt := 48) (by decide) ?_
            obtain ⟨j, hj, ej⟩ : ∃ j : Nat, j < 4 ∧ w = nI j := ⟨w.toInt.toNat, by omega, i32_eq (by omega) (by omega)⟩
            have cj : tn w = j := by rw [ej]; exact nI_clamp (by omega)
            rw [ej] at hl
            refine lv_aload_n hx hb dX7_rule_48 rfl (lv_at hl 0 rfl) ?_
            refine f_X7_34 (q := 19) C hP (by assumption) (by assumption) rfl dX7_rule_49 ?_
            refine lv_iload_n hx hb dX7_rule_52 rfl (lv_at hl 1 rfl) ?_
            refine r_iald (n := 4) C hP (by assumption) (by omega) (by decide) dX7_rule_53 ?_
            refine lv_istore_n (lv' := [(3, .int (I 19 j)), (0, .ref (ad 10)), (1, .int (nI j)), (2, .int n)]) hx hb dX7_rule_54 rfl hl (by decide) rfl (fun ls hl => ?_)
            refine lv_aload_n hx hb dX7_rule_55 rfl (lv_at hl 1 rfl) ?_
            refine f_X7_34 (q := 19) C hP (by assumption) (by assumption) rfl dX7_rule_56 ?_
            refine lv_iload_n hx hb dX7_rule_59 rfl (lv_at hl 2 rfl) ?_
            refine lv_iload_n hx hb dX7_rule_60 rfl (lv_at hl 3 rfl) ?_
            refine r_iast (n := 4) C hP hS (by assumption) (by omega) (by decide) dX7_rule_61 (fun H locs hP hS => ?_)
            obtain ⟨I29, eI29⟩ : ∃ Z : Nat → Nat → Int32, Z = up2 I 19 j n := ⟨_, rfl⟩
            rw [← eI29] at hP
            refine lv_iload_n hx hb dX7_rule_62 rfl (lv_at hl 0 rfl) ?_
            exact hret _ _ _ _ _ _ dX7_rule_63 hP hS (by unfold sRule; rw [if_pos ⟨by omega, by unfold ruL ruH; (repeat split) <;> omega⟩, cj]; refine ⟨rfl, ?_⟩; subst_vars; rfl)
          · refine z_ne0 C dX7_rule_42 (tgt := 48) (by decide) ?_
            refine lv_bipush (v := (-2)) hx hb dX7_rule_45 (by decide) ?_
            exact hret _ _ _ _ _ _ dX7_rule_47 hP hS (by unfold sRule; rw [if_neg (fun q => by have q2 := q.2; unfold ruL ruH at q2; (repeat split at q2) <;> omega)]; exact ⟨rfl, rfl⟩)
        · have h24t : (w : Int32).toInt = 2 := by rw [h24]; rfl
          refine lv_bipush (v := nI 8) hx hb dX7_rule_33 (by decide) ?_
          refine lv_goto (tgt := 39) hx hb dX7_rule_35 (by decide) ?_
          refine k_X7_75 C hP hS (c_X7_inN n 5 8 (by first | decide | omega) (by first | decide | omega)) ⟨Nat.le_of_ble_eq_true rfl, Nat.le_of_ble_eq_true rfl⟩ ⟨Nat.zero_le _, Nat.zero_le _⟩ hl.1 (Nat.le_of_ble_eq_true rfl) dX7_rule_39 (fun v30 I31 H locs hv32 hP hS => ?_)
          obtain ⟨eI31, hv32⟩ := hv32
          rw [eI31] at hP
          clear eI31
          rcases hv32 with ⟨rfl, hc33⟩ | ⟨rfl, hc33⟩
          · refine z_ne1 C dX7_rule_42 (tgt := 48) (by decide) ?_
            obtain ⟨j, hj, ej⟩ : ∃ j : Nat, j < 4 ∧ w = nI j := ⟨w.toInt.toNat, by omega, i32_eq (by omega) (by omega)⟩
            have cj : tn w = j := by rw [ej]; exact nI_clamp (by omega)
            rw [ej] at hl
            refine lv_aload_n hx hb dX7_rule_48 rfl (lv_at hl 0 rfl) ?_
            refine f_X7_34 (q := 19) C hP (by assumption) (by assumption) rfl dX7_rule_49 ?_
            refine lv_iload_n hx hb dX7_rule_52 rfl (lv_at hl 1 rfl) ?_
            refine r_iald (n := 4) C hP (by assumption) (by omega) (by decide) dX7_rule_53 ?_
            refine lv_istore_n (lv' := [(3, .int (I 19 j)), (0, .ref (ad 10)), (1, .int (nI j)), (2, .int n)]) hx hb dX7_rule_54 rfl hl (by decide) rfl (fun ls hl => ?_)
            refine lv_aload_n hx hb dX7_rule_55 rfl (lv_at hl 1 rfl) ?_
            refine f_X7_34 (q := 19) C hP (by assumption) (by assumption) rfl dX7_rule_56 ?_
            refine lv_iload_n hx hb dX7_rule_59 rfl (lv_at hl 2 rfl) ?_
            refine lv_iload_n hx hb dX7_rule_60 rfl (lv_at hl 3 rfl) ?_
            refine r_iast (n := 4) C hP hS (by assumption) (by omega) (by decide) dX7_rule_61 (fun H locs hP hS => ?_)
            obtain ⟨I34, eI34⟩ : ∃ Z : Nat → Nat → Int32, Z = up2 I 19 j n := ⟨_, rfl⟩
            rw [← eI34] at hP
            refine lv_iload_n hx hb dX7_rule_62 rfl (lv_at hl 0 rfl) ?_
            exact hret _ _ _ _ _ _ dX7_rule_63 hP hS (by unfold sRule; rw [if_pos ⟨by omega, by unfold ruL ruH; (repeat split) <;> omega⟩, cj]; refine ⟨rfl, ?_⟩; subst_vars; rfl)
          · refine z_ne0 C dX7_rule_42 (tgt := 48) (by decide) ?_
            refine lv_bipush (v := (-2)) hx hb dX7_rule_45 (by decide) ?_
            exact hret _ _ _ _ _ _ dX7_rule_47 hP hS (by unfold sRule; rw [if_neg (fun q => by have q2 := q.2; unfold ruL ruH at q2; (repeat split at q2) <;> omega)]; exact ⟨rfl, rfl⟩)
      · have h23t : (w : Int32).toInt = 0 := by rw [h23]; rfl
        refine lv_bipush (v := nI 20) hx hb dX7_rule_23 (by decide) ?_
        refine lv_goto (tgt := 39) hx hb dX7_rule_25 (by decide) ?_
        refine k_X7_75 C hP hS (c_X7_inN n 5 20 (by first | decide | omega) (by first | decide | omega)) ⟨Nat.le_of_ble_eq_true rfl, Nat.le_of_ble_eq_true rfl⟩ ⟨Nat.zero_le _, Nat.zero_le _⟩ hl.1 (Nat.le_of_ble_eq_true rfl) dX7_rule_39 (fun v35 I36 H locs hv37 hP hS => ?_)
        obtain ⟨eI36, hv37⟩ := hv37
        rw [eI36] at hP
        clear eI36
        rcases hv37 with ⟨rfl, hc38⟩ | ⟨rfl, hc38⟩
        · refine z_ne1 C dX7_rule_42 (tgt := 48) (by decide) ?_
          obtain ⟨j, hj, ej⟩ : ∃ j : Nat, j < 4 ∧ w = nI j := ⟨w.toInt.toNat, by omega, i32_eq (by omega) (by omega)⟩
          have cj : tn w = j := by rw [ej]; exact nI_clamp (by omega)
          rw [ej] at hl
          refine lv_aload_n hx hb dX7_rule_48 rfl (lv_at hl 0 rfl) ?_
          refine f_X7_34 (q := 19) C hP (by assumption) (by assumption) rfl dX7_rule_49 ?_
          refine lv_iload_n hx hb dX7_rule_52 rfl (lv_at hl 1 rfl) ?_
          refine r_iald (n := 4) C hP (by assumption) (by omega) (by decide) dX7_rule_53 ?_
          refine lv_istore_n (lv' := [(3, .int (I 19 j)), (0, .ref (ad 10)), (1, .int (nI j)), (2, .int n)]) hx hb dX7_rule_54 rfl hl (by decide) rfl (fun ls hl => ?_)
          refine lv_aload_n hx hb dX7_rule_55 rfl (lv_at hl 1 rfl) ?_
          refine f_X7_34 (q := 19) C hP (by assumption) (by assumption) rfl dX7_rule_56 ?_
          refine lv_iload_n hx hb dX7_rule_59 rfl (lv_at hl 2 rfl) ?_
          refine lv_iload_n hx hb dX7_rule_60 rfl (lv_at hl 3 rfl) ?_
          refine r_iast (n := 4) C hP hS (by assumption) (by omega) (by decide) dX7_rule_61 (fun H locs hP hS => ?_)
          obtain ⟨I39, eI39⟩ : ∃ Z : Nat → Nat → Int32, Z = up2 I 19 j n := ⟨_, rfl⟩
          rw [← eI39] at hP
          refine lv_iload_n hx hb dX7_rule_62 rfl (lv_at hl 0 rfl) ?_
          exact hret _ _ _ _ _ _ dX7_rule_63 hP hS (by unfold sRule; rw [if_pos ⟨by omega, by unfold ruL ruH; (repeat split) <;> omega⟩, cj]; refine ⟨rfl, ?_⟩; subst_vars; rfl)
        · refine z_ne0 C dX7_rule_42 (tgt := 48) (by decide) ?_
          refine lv_bipush (v := (-2)) hx hb dX7_rule_45 (by decide) ?_
          exact hret _ _ _ _ _ _ dX7_rule_47 hP hS (by unfold sRule; rw [if_neg (fun q => by have q2 := q.2; unfold ruL ruH at q2; (repeat split at q2) <;> omega)]; exact ⟨rfl, rfl⟩)
  · refine z_eq0 C dX7_rule_6 (tgt := 45) (by decide) ?_
    refine lv_bipush (v := (-2)) hx hb dX7_rule_45 (by decide) ?_
    exact hret _ _ _ _ _ _ dX7_rule_47 hP hS (by unfold sRule; rw [if_neg (fun q => by have q2 := q.2; unfold ruL ruH at q2; (repeat split at q2) <;> omega)]; exact ⟨rfl, rfl⟩)
