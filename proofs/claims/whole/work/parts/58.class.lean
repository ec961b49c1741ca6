/-! the class: what it tells -/
theorem prt_rep {h t : Nat} {J σ : Mem} {w : Int32} (hn : en σ t ≤ 4) (H : TRp h J σ t) : prt (en σ t) (J (h + 1)) (fun e => J (h + 3 + e)) w = prt (en σ t) (fun e => σ 13 (5 * t + e)) (fun e k => σ (14 + k) (5 * t + e)) w := by
  unfold prt pick
  by_cases h1 : 10 ≤ w.toInt ∧ w.toInt < 10 + 4 * (en σ t : Int)
  · rw [if_pos h1, if_pos h1]
    have he : (w.toInt - 10).toNat / 4 < en σ t := by omega
    dsimp only
    rw [H.2.2.1 _ he, H.2.2.2 _ (by omega) (Or.inl he) 0 (by decide), H.2.2.2 _ (by omega) (Or.inl he) 1 (by decide), H.2.2.2 _ (by omega) (Or.inl he) 2 (by decide)]
  · rw [if_neg h1, if_neg h1]
    by_cases h2 : 31 ≤ w.toInt ∧ w.toInt ≤ 33
    · rw [if_pos h2, if_pos h2]
      dsimp only
      have h3 : ¬ (w.toInt - 10).toNat % 4 = 0 := by omega
      rw [if_neg h3, if_neg h3, H.2.2.2 4 (by decide) (Or.inr rfl) 0 (by decide), H.2.2.2 4 (by decide) (Or.inr rfl) 1 (by decide), H.2.2.2 4 (by decide) (Or.inr rfl) 2 (by decide)]
    · rw [if_neg h2, if_neg h2]
theorem nd_PK {J σ : Mem} {n e t : Nat} (H : PKI J σ 110 n) (he : e < n) (ht : t < n) : ndR (J (110 + 2) e) (J (110 + 3) e) (J (110 + 1) t) (J (110 + 3) t) (J (110 + 2) t) = nd σ e t := by
  obtain ⟨a1, a2, a3, -⟩ := H e he
  obtain ⟨b1, b2, b3, -⟩ := H t ht
  unfold nd; rw [a2, a3, b1, b2, b3]
theorem sN_0 {f : Nat → Bool} : ∀ {n : Nat}, sN f n = 0 ↔ cn f n = 0
  | 0 => by simp [sN, cn]
  | n + 1 => by
    have ih := sN_0 (f := f) (n := n)
    simp only [sN, cn]
    have := Nat.two_pow_pos n
    cases f n <;> simp <;> omega
def RunC (I σ J : Mem) : Prop := (∀ a, a ≠ 100 → (a < 110 ∨ 120 < a) → (a < 140 ∨ 146 < a) → a ≠ 202 → J a = I a) ∧ (J 100 5 = I 100 5 + nI 1 ∧ J 100 6 = I 100 6 + (if (rS σ).2.2.1 ≠ 0 then nI 1 else nI 0) ∧ J 100 7 = I 100 7 + nI (rN σ)) ∧ (∀ j, j < 6 → J 141 j = (rS σ).1 j) ∧ (∀ j, j < 4 → J 202 j = (rS σ).2.1 j) ∧ J 140 3 = nI (rN σ) ∧ J 140 4 = nI (mn σ) ∧ ∀ i, i < rN σ → ∀ t, t < mn σ → J (143 + i) t = tk1 σ (sA (itR σ (pS0 σ) i)) t
set_option maxHeartbeats 4000000 in
set_option maxRecDepth 100000 in
theorem c_X6_told {l : Launch} {E : En} {K : Nat → Nat} {L : Nat → Nat → Bool} {ad : Nat → Nat} {I : Nat → Nat → Int32} {σ : Mem} (t w : Int32) (hO : IsO K L) (hC : CR K L I σ) (hw : WF σ) : MI l E K L ad I yX6_told cX6_told 4 (some .int) 5 [.ref (ad 100), .int t, .int w] (fun rv RJ => rv = sTold σ t w ∧ CR K L RJ σ ∧ ∀ a, a < 100 → RJ a = I a) := by
  have hO0 := hO
  obtain ⟨o0, o1, o2, o3, o4, o5, hp, hk, hQ, hX, o150⟩ := hO
  have hp0 := hp
  obtain ⟨pp0, ⟨pp1, pp2, pp3, pp4⟩, pp5, hLb, pp6, pp7, pp8, hTT⟩ := hp
  have kk0 := hk
  obtain ⟨kk, hA⟩ := hk
  have a0 := (hA 0 (by decide)).1
  have c0 : K 111 = 108 := (hA 0 (by decide)).2
  have a1 := (hA 1 (by decide)).1
  have c1 : K 112 = 108 := (hA 1 (by decide)).2
  have a2 := (hA 2 (by decide)).1
  have c2 : K 113 = 108 := (hA 2 (by decide)).2
  have a3 := (hA 3 (by decide)).1
  have c3 : K 114 = 108 := (hA 3 (by decide)).2
  have a4 := (hA 4 (by decide)).1
  have c4 : K 115 = 108 := (hA 4 (by decide)).2
  have a5 := (hA 5 (by decide)).1
  have c5 : K 116 = 108 := (hA 5 (by decide)).2
  have a6 := (hA 6 (by decide)).1
  have c6 : K 117 = 108 := (hA 6 (by decide)).2
  have a7 := (hA 7 (by decide)).1
  have c7 : K 118 = 108 := (hA 7 (by decide)).2
  have a8 := (hA 8 (by decide)).1
  have c8 : K 119 = 108 := (hA 8 (by decide)).2
  have a9 := (hA 9 (by decide)).1
  have c9 : K 120 = 108 := (hA 9 (by decide)).2
  have hQ0 := hQ
  obtain ⟨q0, q1, q2, q3, q4, q5, q6⟩ := hQ
  have hX0 := hX
  obtain ⟨x0, x1, x2, x3, x4, hXL, hXK⟩ := hX
  have hn8 := hw.2.1
  have hR := hC.1
  have h200 : I 200 0 = nI (mn σ) := hR.1.trans hw.1
  have t0 : (nI 0).toInt = 0 := rfl
  have t1 : (nI 1).toInt = 1 := rfl
  have t2 : (nI 2).toInt = 2 := rfl
  have t4 : (nI 4).toInt = 4 := rfl
  have t6 : (nI 6).toInt = 6 := rfl
  have t8 : (nI 8).toInt = 8 := rfl
  have t10 : (nI 10).toInt = 10 := rfl
  have t255 : (nI 255).toInt = 255 := rfl
  have t65535 : (nI 65535).toInt = 65535 := rfl
  refine MI.of (by decide) (Nat.le_of_ble_eq_true rfl) ?_
  intro p ee s m args below meth c ls Qf C hret hP hl
  have C : Cx E p s m args c cX6_told RX6 4 := C
  have hx := C.1
  have hb := C.2.1
  have hS : va_S (AG E) s.heap s.heap [] := va_S.rf
  have hl : lv_has ls 4 [(0, .ref (ad 100)), (1, .int t), (2, .int w)] := hl
  refine lv_aload_n hx hb dX6_told_0 rfl (lv_at hl 0 rfl) ?_
  refine f_X6_12 (q := 200) C hP (by assumption) (by assumption) rfl dX6_told_1 ?_
  refine lv_iload_n hx hb dX6_told_4 rfl (lv_at hl 1 rfl) ?_
  refine k_X6_53 C hP hS (by assumption) (c_X3_hasTable 200 t pp0) ⟨Nat.le_of_ble_eq_true rfl, Nat.le_of_ble_eq_true rfl⟩ ⟨Nat.zero_le _, Nat.zero_le _⟩ hl.1 (Nat.le_of_ble_eq_true rfl) dX6_told_5 (fun v1 I2 H locs hv3 hP hS => ?_)
  obtain ⟨eI2, hv3⟩ := hv3
  rw [eI2] at hP
  clear eI2
  rcases hv3 with ⟨rfl, hc4⟩ | ⟨rfl, hc4⟩
  · rw [h200, nI_toInt (by omega)] at hc4
    obtain ⟨u, hu, eu⟩ : ∃ j : Nat, j < mn σ ∧ t = nI j := ⟨t.toInt.toNat, by omega, i32_eq (by omega) (by omega)⟩
    have cu : tn t = u := by rw [eu]; exact nI_clamp (by omega)
    rw [eu] at hl
    have hWu := hw.2.2.1 u hu
    have hRu := hR.2.2.1 u hu
    have hTu := tr_T hp0 hR.2.1 (show u < 8 by omega)
    have hTu0 := hTu
    obtain ⟨ht1, ht2, ht3, ht4, ht5, ht6, ht7⟩ := hTu0
    have hlo := tr_lo I 200 u
    have hhi := tr_hi hR.2.1 (show u < 8 by omega)
    have hI1 : I (tr I 200 u) 1 = nI (en σ u) := hRu.2.1.trans hWu.1
    have hu4 := hWu.2.1
    refine z_ne1 C dX6_told_8 (tgt := 13) (by decide) ?_
    refine lv_aload_n hx hb dX6_told_13 rfl (lv_at hl 0 rfl) ?_
    refine f_X6_12 (q := 200) C hP (by assumption) (by assumption) rfl dX6_told_14 ?_
    refine f_X6_64 (q := 201) C hP (by assumption) (by assumption) rfl dX6_told_17 ?_
    refine lv_iload_n hx hb dX6_told_20 rfl (lv_at hl 1 rfl) ?_
    refine r_ald12 (q := tr I 200 u) C hP (by assumption) (hLb _ (by omega)) (by omega) rfl dX6_told_21 ?_
    refine lv_astore_n (lv' := [(3, .ref (ad (tr I 200 u))), (0, .ref (ad 100)), (1, .int (nI u)), (2, .int w)]) hx hb dX6_told_22 rfl hl (by decide) rfl (fun ls hl => ?_)
    refine lv_iload_n hx hb dX6_told_23 rfl (lv_at hl 3 rfl) ?_
    by_cases sw5 : (w : Int32).toInt = 0
    · refine sw_in C dX6_told_24 sw5 (by decide) (by decide) (off := 44) (by decide) (tgt := 68) (by decide) ?_
      refine lv_aload_n hx hb dX6_told_68 rfl (lv_at hl 0 rfl) ?_
      refine f_X6_115 C hP (by first | assumption | exact hKa _ (by omega)) dX6_told_69 ?_
      exact hret _ _ _ _ _ _ dX6_told_72 hP hS (⟨by unfold sTold; rw [if_pos (by assumption), if_pos (by omega), cu]; exact hRu.1, hC, fun _ _ => rfl⟩)
    · by_cases sw6 : (w : Int32).toInt = 1
      · refine sw_in C dX6_told_24 sw6 (by decide) (by decide) (off := 49) (by decide) (tgt := 73) (by decide) ?_
        refine lv_aload_n hx hb dX6_told_73 rfl (lv_at hl 0 rfl) ?_
        refine f_X6_76 C hP (by first | assumption | exact hKa _ (by omega)) dX6_told_74 ?_
        refine r_eqi (y := (nI (en σ u))) (hI1) ?_
        exact hret _ _ _ _ _ _ dX6_told_77 hP hS (⟨by unfold sTold; rw [if_pos (by assumption), if_neg (by omega), if_pos (by omega), cu]; exact hWu.1.symm, hC, fun _ _ => rfl⟩)
      · by_cases sw7 : (w : Int32).toInt = 2
        · refine sw_in C dX6_told_24 sw7 (by decide) (by decide) (off := 54) (by decide) (tgt := 78) (by decide) ?_
          refine lv_aload_n hx hb dX6_told_78 rfl (lv_at hl 1 rfl) ?_
          refine f_X6_19 (q := 110) C hP (by assumption) (by assumption) rfl dX6_told_79 ?_
          refine lv_aload_n hx hb dX6_told_82 rfl (lv_at hl 1 rfl) ?_
          refine f_X6_12 (q := 200) C hP (by assumption) (by assumption) rfl dX6_told_83 ?_
          refine k_X6_118 C hP hS (by assumption) (c_X2_arrange (σ := σ) 110 200 (mn σ) kk0 hp0 hR hw rfl (by omega)) ⟨Nat.le_of_ble_eq_true rfl, Nat.le_of_ble_eq_true rfl⟩ ⟨Nat.zero_le _, Nat.zero_le _⟩ hl.1 (Nat.le_of_ble_eq_true rfl) dX6_told_86 (fun I9 H locs hv10 hP hS => ?_)
          have eI9 := hv10
          have hCJ : CR K L I9 σ := CR_same hw hC ⟨by rw [eI9.1 132 (by omega)]; exact hC.2.1.1, by rw [eI9.1 133 (by omega)]; exact hC.2.1.2⟩ (fun a ha => eI9.1 a (by omega))
          have hlo100 : ∀ a, a < 100 → I9 a = I a := fun a ha => eI9.1 a (by omega)
          have hARR := eI9.2
          refine lv_aload_n hx hb dX6_told_89 rfl (lv_at hl 1 rfl) ?_
          refine f_X6_19 (q := 110) C hP (by assumption) (by assumption) rfl dX6_told_90 ?_
          refine f_X6_122 (q := 117) C hP (by assumption) (by assumption) rfl dX6_told_93 ?_
          refine lv_iload_n hx hb dX6_told_96 rfl (lv_at hl 2 rfl) ?_
          refine r_iald (n := 8) C hP (by assumption) (by omega) (by decide) dX6_told_97 ?_
          exact hret _ _ _ _ _ _ dX6_told_98 hP hS (⟨by unfold sTold; rw [if_pos (by assumption), if_neg (by omega), if_neg (by omega), if_pos (by omega), cu]; exact (hARR.1 u hu).2.2.2.2.2.2, hCJ, hlo100⟩)
        · by_cases sw11 : (w : Int32).toInt = 3
          · refine sw_in C dX6_told_24 sw11 (by decide) (by decide) (off := 75) (by decide) (tgt := 99) (by decide) ?_
            refine lv_aload_n hx hb dX6_told_99 rfl (lv_at hl 1 rfl) ?_
            refine f_X6_19 (q := 110) C hP (by assumption) (by assumption) rfl dX6_told_100 ?_
            refine lv_aload_n hx hb dX6_told_103 rfl (lv_at hl 1 rfl) ?_
            refine f_X6_12 (q := 200) C hP (by assumption) (by assumption) rfl dX6_told_104 ?_
            refine k_X6_118 C hP hS (by assumption) (c_X2_arrange (σ := σ) 110 200 (mn σ) kk0 hp0 hR hw rfl (by omega)) ⟨Nat.le_of_ble_eq_true rfl, Nat.le_of_ble_eq_true rfl⟩ ⟨Nat.zero_le _, Nat.zero_le _⟩ hl.1 (Nat.le_of_ble_eq_true rfl) dX6_told_107 (fun I13 H locs hv14 hP hS => ?_)
            have eI13 := hv14
            have hCJ : CR K L I13 σ := CR_same hw hC ⟨by rw [eI13.1 132 (by omega)]; exact hC.2.1.1, by rw [eI13.1 133 (by omega)]; exact hC.2.1.2⟩ (fun a ha => eI13.1 a (by omega))
            have hlo100 : ∀ a, a < 100 → I13 a = I a := fun a ha => eI13.1 a (by omega)
            have hARR := eI13.2
            refine lv_aload_n hx hb dX6_told_110 rfl (lv_at hl 1 rfl) ?_
            refine f_X6_19 (q := 110) C hP (by assumption) (by assumption) rfl dX6_told_111 ?_
            rcases hARR.2 with ⟨g1, pl, g2, g3⟩ | ⟨g1, g2⟩
            · refine f_X6_125 C hP (by first | assumption | exact hKa _ (by omega)) dX6_told_114 ?_
              refine r_eqi (y := 1) (g1) ?_
              refine z_eq1 C dX6_told_117 (tgt := 132) (by decide) ?_
              refine lv_aload_n hx hb dX6_told_120 rfl (lv_at hl 1 rfl) ?_
              refine f_X6_19 (q := 110) C hP (by assumption) (by assumption) rfl dX6_told_121 ?_
              refine f_X6_129 (q := 118) C hP (by assumption) (by assumption) rfl dX6_told_124 ?_
              refine lv_iload_n hx hb dX6_told_127 rfl (lv_at hl 2 rfl) ?_
              refine r_iald (n := 8) C hP (by assumption) (by omega) (by decide) dX6_told_128 ?_
              refine lv_goto (tgt := 134) hx hb dX6_told_129 (by decide) ?_
              exact hret _ _ _ _ _ _ dX6_told_134 hP hS (⟨by unfold sTold; rw [if_pos (by assumption), if_neg (by omega), if_neg (by omega), if_neg (by omega), if_pos (by omega), g2, cu]; exact (g3.1 u hu).1, hCJ, hlo100⟩)
            · refine f_X6_125 C hP (by first | assumption | exact hKa _ (by omega)) dX6_told_114 ?_
              refine r_eqi (y := 0) (g1) ?_
              refine z_eq0 C dX6_told_117 (tgt := 132) (by decide) ?_
              refine lv_bipush (v := (-3)) hx hb dX6_told_132 (by decide) ?_
              exact hret _ _ _ _ _ _ dX6_told_134 hP hS (⟨by unfold sTold; rw [if_pos (by assumption), if_neg (by omega), if_neg (by omega), if_neg (by omega), if_pos (by omega), g2], hCJ, hlo100⟩)
          · by_cases sw15 : (w : Int32).toInt = 4
            · refine sw_in C dX6_told_24 sw15 (by decide) (by decide) (off := 111) (by decide) (tgt := 135) (by decide) ?_
              refine lv_aload_n hx hb dX6_told_135 rfl (lv_at hl 0 rfl) ?_
              refine k_X6_132 C hP hS (by assumption) (c_X5_writtenFields (tr I 200 u) (en σ u) hTu hI1 hu4) ⟨Nat.le_of_ble_eq_true rfl, Nat.le_of_ble_eq_true rfl⟩ ⟨Nat.zero_le _, Nat.zero_le _⟩ hl.1 (Nat.le_of_ble_eq_true rfl) dX6_told_136 (fun v16 I17 H locs hv18 hP hS => ?_)
              obtain ⟨eI17, ev16⟩ := hv18
              rw [eI17] at hP
              clear eI17
              exact hret _ _ _ _ _ _ dX6_told_139 hP hS (⟨by unfold sTold; rw [if_pos (by assumption), if_neg (by omega), if_neg (by omega), if_neg (by omega), if_neg (by omega), if_pos (by omega), cu]; exact ev16.trans (wrS_rep hRu), hC, fun _ _ => rfl⟩)
            · by_cases sw19 : (w : Int32).toInt = 5
              · refine sw_in C dX6_told_24 sw19 (by decide) (by decide) (off := 116) (by decide) (tgt := 140) (by decide) ?_
                refine lv_aload_n hx hb dX6_told_140 rfl (lv_at hl 0 rfl) ?_
                refine k_X6_136 C hP hS (by assumption) (c_X5_readFields (tr I 200 u) (en σ u) hTu hI1 hu4) ⟨Nat.le_of_ble_eq_true rfl, Nat.le_of_ble_eq_true rfl⟩ ⟨Nat.zero_le _, Nat.zero_le _⟩ hl.1 (Nat.le_of_ble_eq_true rfl) dX6_told_141 (fun v20 I21 H locs hv22 hP hS => ?_)
                obtain ⟨eI21, ev20⟩ := hv22
                rw [eI21] at hP
                clear eI21
                exact hret _ _ _ _ _ _ dX6_told_144 hP hS (⟨by unfold sTold; rw [if_pos (by assumption), if_neg (by omega), if_neg (by omega), if_neg (by omega), if_neg (by omega), if_neg (by omega), if_pos (by omega), cu]; exact ev20.trans (rdS_rep hRu), hC, fun _ _ => rfl⟩)
              · by_cases sw23 : (w : Int32).toInt = 6
                · refine sw_in C dX6_told_24 sw23 (by decide) (by decide) (off := 121) (by decide) (tgt := 145) (by decide) ?_
                  refine lv_aload_n hx hb dX6_told_145 rfl (lv_at hl 0 rfl) ?_
                  refine k_X6_139 C hP hS (by assumption) (c_X5_ownRegisters (tr I 200 u) (en σ u) hTu hI1 hu4) ⟨Nat.le_of_ble_eq_true rfl, Nat.le_of_ble_eq_true rfl⟩ ⟨Nat.zero_le _, Nat.zero_le _⟩ hl.1 (Nat.le_of_ble_eq_true rfl) dX6_told_146 (fun v24 I25 H locs hv26 hP hS => ?_)
                  obtain ⟨eI25, ev24⟩ := hv26
                  rw [eI25] at hP
                  clear eI25
                  exact hret _ _ _ _ _ _ dX6_told_149 hP hS (⟨by unfold sTold; rw [if_pos (by assumption), if_neg (by omega), if_neg (by omega), if_neg (by omega), if_neg (by omega), if_neg (by omega), if_neg (by omega), if_pos (by omega), cu]; exact ev24.trans (rgS_rep hRu), hC, fun _ _ => rfl⟩)
                · refine lv_tableOut hx hb dX6_told_24 (by omega) (tgt := 150) (by decide) ?_
                  refine lv_aload_n hx hb dX6_told_150 rfl (lv_at hl 0 rfl) ?_
                  refine lv_iload_n hx hb dX6_told_151 rfl (lv_at hl 3 rfl) ?_
                  refine k_X6_142 C hP hS (by assumption) (c_X5_partOfAct (tr I 200 u) (en σ u) w hTu hI1 hu4) ⟨Nat.le_of_ble_eq_true rfl, Nat.le_of_ble_eq_true rfl⟩ ⟨Nat.zero_le _, Nat.zero_le _⟩ hl.1 (Nat.le_of_ble_eq_true rfl) dX6_told_152 (fun v27 I28 H locs hv29 hP hS => ?_)
                  obtain ⟨eI28, ev27⟩ := hv29
                  rw [eI28] at hP
                  clear eI28
                  exact hret _ _ _ _ _ _ dX6_told_155 hP hS (⟨by unfold sTold; rw [if_pos (by assumption), if_neg (by omega), if_neg (by omega), if_neg (by omega), if_neg (by omega), if_neg (by omega), if_neg (by omega), if_neg (by omega), cu]; exact ev27.trans (prt_rep hu4 hRu), hC, fun _ _ => rfl⟩)
  · rw [h200, nI_toInt (by omega)] at hc4
    refine z_ne0 C dX6_told_8 (tgt := 13) (by decide) ?_
    refine lv_iconst (v := (-1)) hx hb dX6_told_11 (by decide) ?_
    exact hret _ _ _ _ _ _ dX6_told_12 hP hS (⟨by unfold sTold; rw [if_neg (by assumption)], hC, fun _ _ => rfl⟩)
set_option maxHeartbeats 4000000 in
set_option maxRecDepth 100000 in
theorem c_X6_needs {l : Launch} {E : En} {K : Nat → Nat} {L : Nat → Nat → Bool} {ad : Nat → Nat} {I : Nat → Nat → Int32} {σ : Mem} (a b : Int32) (hO : IsO K L) (hC : CR K L I σ) (hw : WF σ) : MI l E K L ad I yX6_needs cX6_needs 3 (some .int) 5 [.ref (ad 100), .int a, .int b] (fun rv RJ => rv = sNeeds σ a b ∧ CR K L RJ σ ∧ ∀ a, a < 100 → RJ a = I a) := by
  have hO0 := hO
  obtain ⟨o0, o1, o2, o3, o4, o5, hp, hk, hQ, hX, o150⟩ := hO
  have hp0 := hp
  obtain ⟨pp0, ⟨pp1, pp2, pp3, pp4⟩, pp5, hLb, pp6, pp7, pp8, hTT⟩ := hp
  have kk0 := hk
  obtain ⟨kk, hA⟩ := hk
  have a0 := (hA 0 (by decide)).1
  have c0 : K 111 = 108 := (hA 0 (by decide)).2
  have a1 := (hA 1 (by decide)).1
  have c1 : K 112 = 108 := (hA 1 (by decide)).2
  have a2 := (hA 2 (by decide)).1
  have c2 : K 113 = 108 := (hA 2 (by decide)).2
  have a3 := (hA 3 (by decide)).1
  have c3 : K 114 = 108 := (hA 3 (by decide)).2
  have a4 := (hA 4 (by decide)).1
  have c4 : K 115 = 108 := (hA 4 (by decide)).2
  have a5 := (hA 5 (by decide)).1
  have c5 : K 116 = 108 := (hA 5 (by decide)).2
  have a6 := (hA 6 (by decide)).1
  have c6 : K 117 = 108 := (hA 6 (by decide)).2
  have a7 := (hA 7 (by decide)).1
  have c7 : K 118 = 108 := (hA 7 (by decide)).2
  have a8 := (hA 8 (by decide)).1
  have c8 : K 119 = 108 := (hA 8 (by decide)).2
  have a9 := (hA 9 (by decide)).1
  have c9 : K 120 = 108 := (hA 9 (by decide)).2
  have hQ0 := hQ
  obtain ⟨q0, q1, q2, q3, q4, q5, q6⟩ := hQ
  have hX0 := hX
  obtain ⟨x0, x1, x2, x3, x4, hXL, hXK⟩ := hX
  have hn8 := hw.2.1
  have hR := hC.1
  have h200 : I 200 0 = nI (mn σ) := hR.1.trans hw.1
  have t0 : (nI 0).toInt = 0 := rfl
  have t1 : (nI 1).toInt = 1 := rfl
  have t2 : (nI 2).toInt = 2 := rfl
  have t4 : (nI 4).toInt = 4 := rfl
  have t6 : (nI 6).toInt = 6 := rfl
  have t8 : (nI 8).toInt = 8 := rfl
  have t10 : (nI 10).toInt = 10 := rfl
  have t255 : (nI 255).toInt = 255 := rfl
  have t65535 : (nI 65535).toInt = 65535 := rfl
  refine MI.of (by decide) (Nat.le_of_ble_eq_true rfl) ?_
  intro p ee s m args below meth c ls Qf C hret hP hl
  have C : Cx E p s m args c cX6_needs RX6 3 := C
  have hx := C.1
  have hb := C.2.1
  have hS : va_S (AG E) s.heap s.heap [] := va_S.rf
  have hl : lv_has ls 3 [(0, .ref (ad 100)), (1, .int a), (2, .int b)] := hl
  refine lv_aload_n hx hb dX6_needs_0 rfl (lv_at hl 0 rfl) ?_
  refine f_X6_12 (q := 200) C hP (by assumption) (by assumption) rfl dX6_needs_1 ?_
  refine lv_iload_n hx hb dX6_needs_4 rfl (lv_at hl 1 rfl) ?_
  refine k_X6_53 C hP hS (by assumption) (c_X3_hasTable 200 a pp0) ⟨Nat.le_of_ble_eq_true rfl, Nat.le_of_ble_eq_true rfl⟩ ⟨Nat.zero_le _, Nat.zero_le _⟩ hl.1 (Nat.le_of_ble_eq_true rfl) dX6_needs_5 (fun v1 I2 H locs hv3 hP hS => ?_)
  obtain ⟨eI2, hv3⟩ := hv3
  rw [eI2] at hP
  clear eI2
  rcases hv3 with ⟨rfl, hc4⟩ | ⟨rfl, hc4⟩
  · rw [h200, nI_toInt (by omega)] at hc4
    refine z_eq1 C dX6_needs_8 (tgt := 22) (by decide) ?_
    refine lv_aload_n hx hb dX6_needs_11 rfl (lv_at hl 0 rfl) ?_
    refine f_X6_12 (q := 200) C hP (by assumption) (by assumption) rfl dX6_needs_12 ?_
    refine lv_iload_n hx hb dX6_needs_15 rfl (lv_at hl 2 rfl) ?_
    refine k_X6_53 C hP hS (by assumption) (c_X3_hasTable 200 b pp0) ⟨Nat.le_of_ble_eq_true rfl, Nat.le_of_ble_eq_true rfl⟩ ⟨Nat.zero_le _, Nat.zero_le _⟩ hl.1 (Nat.le_of_ble_eq_true rfl) dX6_needs_16 (fun v5 I6 H locs hv7 hP hS => ?_)
    obtain ⟨eI6, hv7⟩ := hv7
    rw [eI6] at hP
    clear eI6
    rcases hv7 with ⟨rfl, hc8⟩ | ⟨rfl, hc8⟩
    · rw [h200, nI_toInt (by omega)] at hc8
      refine z_ne1 C dX6_needs_19 (tgt := 24) (by decide) ?_
      refine lv_iload_n hx hb dX6_needs_24 rfl (lv_at hl 1 rfl) ?_
      refine lv_iload_n hx hb dX6_needs_25 rfl (lv_at hl 2 rfl) ?_
      refine b_ne C dX6_needs_26 (tgt := 32) (by decide) (fun h9 => ?_) (fun h9 => ?_)
      · obtain ⟨u, hu, eu⟩ : ∃ j : Nat, j < mn σ ∧ a = nI j := ⟨a.toInt.toNat, by omega, i32_eq (by omega) (by omega)⟩
        have cu : tn a = u := by rw [eu]; exact nI_clamp (by omega)
        rw [eu] at hl
        obtain ⟨u2, hu2, eu2⟩ : ∃ j : Nat, j < mn σ ∧ b = nI j := ⟨b.toInt.toNat, by omega, i32_eq (by omega) (by omega)⟩
        have cu2 : tn b = u2 := by rw [eu2]; exact nI_clamp (by omega)
        rw [eu2] at hl
        refine lv_aload_n hx hb dX6_needs_32 rfl (lv_at hl 0 rfl) ?_
        refine f_X6_19 (q := 110) C hP (by assumption) (by assumption) rfl dX6_needs_33 ?_
        refine lv_aload_n hx hb dX6_needs_36 rfl (lv_at hl 0 rfl) ?_
        refine f_X6_12 (q := 200) C hP (by assumption) (by assumption) rfl dX6_needs_37 ?_
        refine k_X6_118 C hP hS (by assumption) (c_X2_arrange (σ := σ) 110 200 (mn σ) kk0 hp0 hR hw rfl (by omega)) ⟨Nat.le_of_ble_eq_true rfl, Nat.le_of_ble_eq_true rfl⟩ ⟨Nat.zero_le _, Nat.zero_le _⟩ hl.1 (Nat.le_of_ble_eq_true rfl) dX6_needs_40 (fun I11 H locs hv12 hP hS => ?_)
        have eI11 := hv12
        have hCJ : CR K L I11 σ := CR_same hw hC ⟨by rw [eI11.1 132 (by omega)]; exact hC.2.1.1, by rw [eI11.1 133 (by omega)]; exact hC.2.1.2⟩ (fun a ha => eI11.1 a (by omega))
        have hlo100 : ∀ a, a < 100 → I11 a = I a := fun a ha => eI11.1 a (by omega)
        have hARR := eI11.2
        refine lv_aload_n hx hb dX6_needs_43 rfl (lv_at hl 0 rfl) ?_
        refine f_X6_19 (q := 110) C hP (by assumption) (by assumption) rfl dX6_needs_44 ?_
        refine lv_iload_n hx hb dX6_needs_47 rfl (lv_at hl 1 rfl) ?_
        refine lv_iload_n hx hb dX6_needs_48 rfl (lv_at hl 2 rfl) ?_
        refine r_mmax C tm_X6_145 (Nat.le_of_ble_eq_true rfl) (Nat.le_of_ble_eq_true rfl) ⟨Nat.zero_le _, Nat.zero_le _⟩ hl.1 dX6_needs_49 ?_
        refine r_eqi (y := nI (max u u2)) (mmaxN (by omega) (by omega)) ?_
        refine lv_iload_n hx hb dX6_needs_52 rfl (lv_at hl 1 rfl) ?_
        refine lv_iload_n hx hb dX6_needs_53 rfl (lv_at hl 2 rfl) ?_
        refine r_mmin C tm_X6_151 (Nat.le_of_ble_eq_true rfl) (Nat.le_of_ble_eq_true rfl) ⟨Nat.zero_le _, Nat.zero_le _⟩ hl.1 dX6_needs_54 ?_
        refine r_eqi (y := nI (min u u2)) (mminN (by omega) (by omega)) ?_
        refine k_X6_154 C hP hS (by assumption) (c_X2_needOf 110 (max u u2) (min u u2) kk0 (by omega) (by omega)) ⟨Nat.le_of_ble_eq_true rfl, Nat.le_of_ble_eq_true rfl⟩ ⟨Nat.zero_le _, Nat.zero_le _⟩ hl.1 (Nat.le_of_ble_eq_true rfl) dX6_needs_57 (fun v13 I14 H locs hv15 hP hS => ?_)
        obtain ⟨eI14, ev13⟩ := hv15
        rw [eI14] at hP
        clear eI14
        exact hret _ _ _ _ _ _ dX6_needs_60 hP hS (⟨by
                    unfold sNeeds
                    rw [if_pos ⟨by assumption, by assumption⟩, if_neg (by assumption), ev13, nd_PK hARR.1 (by omega) (by omega), cu, cu2]
                    congr 1
                    by_cases z : u < u2
                    · rw [if_pos (by rw [eu, eu2, nI_toInt (by omega), nI_toInt (by omega)]; omega), Nat.max_eq_right (by omega), Nat.min_eq_left (by omega)]
                    · rw [if_neg (by rw [eu, eu2, nI_toInt (by omega), nI_toInt (by omega)]; omega), Nat.max_eq_left (by omega), Nat.min_eq_right (by omega)], hCJ, hlo100⟩)
      · refine lv_bipush (v := (-2)) hx hb dX6_needs_29 (by decide) ?_
        exact hret _ _ _ _ _ _ dX6_needs_31 hP hS (⟨by unfold sNeeds; rw [if_pos ⟨by assumption, by assumption⟩, if_pos (by assumption)], hC, fun _ _ => rfl⟩)
    · rw [h200, nI_toInt (by omega)] at hc8
      refine z_ne0 C dX6_needs_19 (tgt := 24) (by decide) ?_
      refine lv_iconst (v := (-1)) hx hb dX6_needs_22 (by decide) ?_
      exact hret _ _ _ _ _ _ dX6_needs_23 hP hS (⟨by unfold sNeeds; rw [if_neg (fun q => by first | exact absurd q.1 (by assumption) | exact absurd q.2 (by assumption))], hC, fun _ _ => rfl⟩)
  · rw [h200, nI_toInt (by omega)] at hc4
    refine z_eq0 C dX6_needs_8 (tgt := 22) (by decide) ?_
    refine lv_iconst (v := (-1)) hx hb dX6_needs_22 (by decide) ?_
    exact hret _ _ _ _ _ _ dX6_needs_23 hP hS (⟨by unfold sNeeds; rw [if_neg (fun q => by first | exact absurd q.1 (by assumption) | exact absurd q.2 (by assumption))], hC, fun _ _ => rfl⟩)
set_option maxHeartbeats 4000000 in
set_option maxRecDepth 100000 in
theorem c_X6_stages {l : Launch} {E : En} {K : Nat → Nat} {L : Nat → Nat → Bool} {ad : Nat → Nat} {I : Nat → Nat → Int32} {σ : Mem}  (hO : IsO K L) (hC : CR K L I σ) (hw : WF σ) : MI l E K L ad I yX6_stages cX6_stages 1 (some .int) 5 [.ref (ad 100)] (fun rv RJ => rv = sStages σ ∧ CR K L RJ σ ∧ ∀ a, a < 100 → RJ a = I a) := by
  have hO0 := hO
  obtain ⟨o0, o1, o2, o3, o4, o5, hp, hk, hQ, hX, o150⟩ := hO
  have hp0 := hp
  obtain ⟨pp0, ⟨pp1, pp2, pp3, pp4⟩, pp5, hLb, pp6, pp7, pp8, hTT⟩ := hp
  have kk0 := hk
  obtain ⟨kk, hA⟩ := hk
  have a0 := (hA 0 (by decide)).1
  have c0 : K 111 = 108 := (hA 0 (by decide)).2
  have a1 := (hA 1 (by decide)).1
  have c1 : K 112 = 108 := (hA 1 (by decide)).2
  have a2 := (hA 2 (by decide)).1
  have c2 : K 113 = 108 := (hA 2 (by decide)).2
  have a3 := (hA 3 (by decide)).1
  have c3 : K 114 = 108 := (hA 3 (by decide)).2
  have a4 := (hA 4 (by decide)).1
  have c4 : K 115 = 108 := (hA 4 (by decide)).2
  have a5 := (hA 5 (by decide)).1
  have c5 : K 116 = 108 := (hA 5 (by decide)).2
  have a6 := (hA 6 (by decide)).1
  have c6 : K 117 = 108 := (hA 6 (by decide)).2
  have a7 := (hA 7 (by decide)).1
  have c7 : K 118 = 108 := (hA 7 (by decide)).2
  have a8 := (hA 8 (by decide)).1
  have c8 : K 119 = 108 := (hA 8 (by decide)).2
  have a9 := (hA 9 (by decide)).1
  have c9 : K 120 = 108 := (hA 9 (by decide)).2
  have hQ0 := hQ
  obtain ⟨q0, q1, q2, q3, q4, q5, q6⟩ := hQ
  have hX0 := hX
  obtain ⟨x0, x1, x2, x3, x4, hXL, hXK⟩ := hX
  have hn8 := hw.2.1
  have hR := hC.1
  have h200 : I 200 0 = nI (mn σ) := hR.1.trans hw.1
  have t0 : (nI 0).toInt = 0 := rfl
  have t1 : (nI 1).toInt = 1 := rfl
  have t2 : (nI 2).toInt = 2 := rfl
  have t4 : (nI 4).toInt = 4 := rfl
  have t6 : (nI 6).toInt = 6 := rfl
  have t8 : (nI 8).toInt = 8 := rfl
  have t10 : (nI 10).toInt = 10 := rfl
  have t255 : (nI 255).toInt = 255 := rfl
  have t65535 : (nI 65535).toInt = 65535 := rfl
  refine MI.of (by decide) (Nat.le_of_ble_eq_true rfl) ?_
  intro p ee s m args below meth c ls Qf C hret hP hl
  have C : Cx E p s m args c cX6_stages RX6 1 := C
  have hx := C.1
  have hb := C.2.1
  have hS : va_S (AG E) s.heap s.heap [] := va_S.rf
  have hl : lv_has ls 1 [(0, .ref (ad 100))] := hl
  refine lv_aload_n hx hb dX6_stages_0 rfl (lv_at hl 0 rfl) ?_
  refine f_X6_19 (q := 110) C hP (by assumption) (by assumption) rfl dX6_stages_1 ?_
  refine lv_aload_n hx hb dX6_stages_4 rfl (lv_at hl 0 rfl) ?_
  refine f_X6_12 (q := 200) C hP (by assumption) (by assumption) rfl dX6_stages_5 ?_
  refine k_X6_118 C hP hS (by assumption) (c_X2_arrange (σ := σ) 110 200 (mn σ) kk0 hp0 hR hw rfl (by omega)) ⟨Nat.le_of_ble_eq_true rfl, Nat.le_of_ble_eq_true rfl⟩ ⟨Nat.zero_le _, Nat.zero_le _⟩ hl.1 (Nat.le_of_ble_eq_true rfl) dX6_stages_8 (fun I2 H locs hv3 hP hS => ?_)
  have eI2 := hv3
  have hCJ : CR K L I2 σ := CR_same hw hC ⟨by rw [eI2.1 132 (by omega)]; exact hC.2.1.1, by rw [eI2.1 133 (by omega)]; exact hC.2.1.2⟩ (fun a ha => eI2.1 a (by omega))
  have hlo100 : ∀ a, a < 100 → I2 a = I a := fun a ha => eI2.1 a (by omega)
  have hARR := eI2.2
  refine lv_aload_n hx hb dX6_stages_11 rfl (lv_at hl 0 rfl) ?_
  refine f_X6_19 (q := 110) C hP (by assumption) (by assumption) rfl dX6_stages_12 ?_
  rcases hARR.2 with ⟨g1, pl, g2, g3⟩ | ⟨g1, g2⟩
  · refine f_X6_125 C hP (by first | assumption | exact hKa _ (by omega)) dX6_stages_15 ?_
    refine r_eqi (y := 1) (g1) ?_
    refine z_eq1 C dX6_stages_18 (tgt := 31) (by decide) ?_
    refine lv_aload_n hx hb dX6_stages_21 rfl (lv_at hl 0 rfl) ?_
    refine f_X6_19 (q := 110) C hP (by assumption) (by assumption) rfl dX6_stages_22 ?_
    refine k_X6_157 C hP hS (by assumption) (c_X2_stagesWithTables 110 kk0) ⟨Nat.le_of_ble_eq_true rfl, Nat.le_of_ble_eq_true rfl⟩ ⟨Nat.zero_le _, Nat.zero_le _⟩ hl.1 (Nat.le_of_ble_eq_true rfl) dX6_stages_25 (fun v4 I5 H locs hv6 hP hS => ?_)
    obtain ⟨eI5, ev4⟩ := hv6
    rw [eI5] at hP
    clear eI5
    refine lv_goto (tgt := 33) hx hb dX6_stages_28 (by decide) ?_
    exact hret _ _ _ _ _ _ dX6_stages_33 hP hS (⟨by
                unfold sStages; rw [g2]; dsimp only
                rw [ev4]; congr 1
                refine cn_congr fun z hz => decide_eq_decide.mpr ?_
                have hs := (g3.2 z hz).1
                have hl := Nat.lt_of_lt_of_le (sN_lt (atF pl z) (mn σ)) (Nat.pow_le_pow_right (by decide) hn8 : 2 ^ mn σ ≤ 2 ^ 8)
                rw [hs, Ne, show (0 : Int32) = nI 0 from rfl, nI_eq (by omega) (by decide), sN_0]
                omega, hCJ, hlo100⟩)
  · refine f_X6_125 C hP (by first | assumption | exact hKa _ (by omega)) dX6_stages_15 ?_
    refine r_eqi (y := 0) (g1) ?_
    refine z_eq0 C dX6_stages_18 (tgt := 31) (by decide) ?_
    refine lv_bipush (v := (-3)) hx hb dX6_stages_31 (by decide) ?_
    exact hret _ _ _ _ _ _ dX6_stages_33 hP hS (⟨by unfold sStages; rw [g2], hCJ, hlo100⟩)
set_option maxHeartbeats 4000000 in
set_option maxRecDepth 100000 in
theorem c_X6_stage {l : Launch} {E : En} {K : Nat → Nat} {L : Nat → Nat → Bool} {ad : Nat → Nat} {I : Nat → Nat → Int32} {σ : Mem} (i w : Int32) (hO : IsO K L) (hC : CR K L I σ) (hw : WF σ) : MI l E K L ad I yX6_stage cX6_stage 3 (some .int) 5 [.ref (ad 100), .int i, .int w] (fun rv RJ => rv = sStage σ i w ∧ CR K L RJ σ ∧ ∀ a, a < 100 → RJ a = I a) := by
  have hO0 := hO
  obtain ⟨o0, o1, o2, o3, o4, o5, hp, hk, hQ, hX, o150⟩ := hO
  have hp0 := hp
  obtain ⟨pp0, ⟨pp1, pp2, pp3, pp4⟩, pp5, hLb, pp6, pp7, pp8, hTT⟩ := hp
  have kk0 := hk
  obtain ⟨kk, hA⟩ := hk
  have a0 := (hA 0 (by decide)).1
  have c0 : K 111 = 108 := (hA 0 (by decide)).2
  have a1 := (hA 1 (by decide)).1
  have c1 : K 112 = 108 := (hA 1 (by decide)).2
  have a2 := (hA 2 (by decide)).1
  have c2 : K 113 = 108 := (hA 2 (by decide)).2
  have a3 := (hA 3 (by decide)).1
  have c3 : K 114 = 108 := (hA 3 (by decide)).2
  have a4 := (hA 4 (by decide)).1
  have c4 : K 115 = 108 := (hA 4 (by decide)).2
  have a5 := (hA 5 (by decide)).1
  have c5 : K 116 = 108 := (hA 5 (by decide)).2
  have a6 := (hA 6 (by decide)).1
  have c6 : K 117 = 108 := (hA 6 (by decide)).2
  have a7 := (hA 7 (by decide)).1
  have c7 : K 118 = 108 := (hA 7 (by decide)).2
  have a8 := (hA 8 (by decide)).1
  have c8 : K 119 = 108 := (hA 8 (by decide)).2
  have a9 := (hA 9 (by decide)).1
  have c9 : K 120 = 108 := (hA 9 (by decide)).2
  have hQ0 := hQ
  obtain ⟨q0, q1, q2, q3, q4, q5, q6⟩ := hQ
  have hX0 := hX
  obtain ⟨x0, x1, x2, x3, x4, hXL, hXK⟩ := hX
  have hn8 := hw.2.1
  have hR := hC.1
  have h200 : I 200 0 = nI (mn σ) := hR.1.trans hw.1
  have t0 : (nI 0).toInt = 0 := rfl
  have t1 : (nI 1).toInt = 1 := rfl
  have t2 : (nI 2).toInt = 2 := rfl
  have t4 : (nI 4).toInt = 4 := rfl
  have t6 : (nI 6).toInt = 6 := rfl
  have t8 : (nI 8).toInt = 8 := rfl
  have t10 : (nI 10).toInt = 10 := rfl
  have t255 : (nI 255).toInt = 255 := rfl
  have t65535 : (nI 65535).toInt = 65535 := rfl
  refine MI.of (by decide) (Nat.le_of_ble_eq_true rfl) ?_
  intro p ee s m args below meth c ls Qf C hret hP hl
  have C : Cx E p s m args c cX6_stage RX6 3 := C
  have hx := C.1
  have hb := C.2.1
  have hS : va_S (AG E) s.heap s.heap [] := va_S.rf
  have hl : lv_has ls 3 [(0, .ref (ad 100)), (1, .int i), (2, .int w)] := hl
  refine lv_iload_n hx hb dX6_stage_0 rfl (lv_at hl 1 rfl) ?_
  refine lv_bipush (v := nI 8) hx hb dX6_stage_1 (by decide) ?_
  refine k_X6_41 C hP hS (c_X6_isIn i ((nI 8))) ⟨Nat.le_of_ble_eq_true rfl, Nat.le_of_ble_eq_true rfl⟩ ⟨Nat.zero_le _, Nat.zero_le _⟩ hl.1 (Nat.le_of_ble_eq_true rfl) dX6_stage_3 (fun v1 I2 H locs hv3 hP hS => ?_)
  obtain ⟨eI2, hv3⟩ := hv3
  rw [eI2] at hP
  clear eI2
  rcases hv3 with ⟨rfl, hc4⟩ | ⟨rfl, hc4⟩
  · refine z_eq1 C dX6_stage_6 (tgt := 17) (by decide) ?_
    refine lv_iload_n hx hb dX6_stage_9 rfl (lv_at hl 2 rfl) ?_
    refine lv_iconst (v := nI 1) hx hb dX6_stage_10 (by decide) ?_
    refine k_X6_57 C hP hS (c_X6_isUpTo w ((nI 1))) ⟨Nat.le_of_ble_eq_true rfl, Nat.le_of_ble_eq_true rfl⟩ ⟨Nat.zero_le _, Nat.zero_le _⟩ hl.1 (Nat.le_of_ble_eq_true rfl) dX6_stage_11 (fun v5 I6 H locs hv7 hP hS => ?_)
    obtain ⟨eI6, hv7⟩ := hv7
    rw [eI6] at hP
    clear eI6
    rcases hv7 with ⟨rfl, hc8⟩ | ⟨rfl, hc8⟩
    · refine z_ne1 C dX6_stage_14 (tgt := 20) (by decide) ?_
      obtain ⟨i0, hi0, ei0⟩ : ∃ j : Nat, j < 8 ∧ i = nI j := ⟨i.toInt.toNat, by omega, i32_eq (by omega) (by omega)⟩
      have ci0 : tn i = i0 := by rw [ei0]; exact nI_clamp (by omega)
      rw [ei0] at hl
      refine lv_aload_n hx hb dX6_stage_20 rfl (lv_at hl 0 rfl) ?_
      refine f_X6_19 (q := 110) C hP (by assumption) (by assumption) rfl dX6_stage_21 ?_
      refine lv_aload_n hx hb dX6_stage_24 rfl (lv_at hl 0 rfl) ?_
      refine f_X6_12 (q := 200) C hP (by assumption) (by assumption) rfl dX6_stage_25 ?_
      refine k_X6_118 C hP hS (by assumption) (c_X2_arrange (σ := σ) 110 200 (mn σ) kk0 hp0 hR hw rfl (by omega)) ⟨Nat.le_of_ble_eq_true rfl, Nat.le_of_ble_eq_true rfl⟩ ⟨Nat.zero_le _, Nat.zero_le _⟩ hl.1 (Nat.le_of_ble_eq_true rfl) dX6_stage_28 (fun I10 H locs hv11 hP hS => ?_)
      have eI10 := hv11
      have hCJ : CR K L I10 σ := CR_same hw hC ⟨by rw [eI10.1 132 (by omega)]; exact hC.2.1.1, by rw [eI10.1 133 (by omega)]; exact hC.2.1.2⟩ (fun a ha => eI10.1 a (by omega))
      have hlo100 : ∀ a, a < 100 → I10 a = I a := fun a ha => eI10.1 a (by omega)
      have hARR := eI10.2
      refine lv_aload_n hx hb dX6_stage_31 rfl (lv_at hl 0 rfl) ?_
      refine f_X6_19 (q := 110) C hP (by assumption) (by assumption) rfl dX6_stage_32 ?_
      rcases hARR.2 with ⟨g1, pl, g2, g3⟩ | ⟨g1, g2⟩
      · refine f_X6_125 C hP (by first | assumption | exact hKa _ (by omega)) dX6_stage_35 ?_
        refine r_eqi (y := 1) (g1) ?_
        refine z_ne1 C dX6_stage_38 (tgt := 44) (by decide) ?_
        refine lv_iload_n hx hb dX6_stage_44 rfl (lv_at hl 2 rfl) ?_
        refine z_ne C dX6_stage_45 (tgt := 60) (by decide) (fun h12 => ?_) (fun h12 => ?_)
        · have h12t : (w : Int32).toInt ≠ 0 := fun q => h12 (i32_eq (k := 0) (by decide) q)
          refine lv_aload_n hx hb dX6_stage_60 rfl (lv_at hl 0 rfl) ?_
          refine f_X6_19 (q := 110) C hP (by assumption) (by assumption) rfl dX6_stage_61 ?_
          refine f_X6_163 (q := 120) C hP (by assumption) (by assumption) rfl dX6_stage_64 ?_
          refine lv_iload_n hx hb dX6_stage_67 rfl (lv_at hl 1 rfl) ?_
          refine r_iald (n := 8) C hP (by assumption) (by omega) (by decide) dX6_stage_68 ?_
          exact hret _ _ _ _ _ _ dX6_stage_69 hP hS (⟨by unfold sStage; rw [if_pos ⟨⟨by omega, by omega⟩, by omega, by omega⟩, g2]; dsimp only; rw [if_neg (by omega), ci0]; exact (g3.2 i0 hi0).2, hCJ, hlo100⟩)
        · have h12t : (w : Int32).toInt = 0 := by rw [h12]; rfl
          refine lv_aload_n hx hb dX6_stage_48 rfl (lv_at hl 0 rfl) ?_
          refine f_X6_19 (q := 110) C hP (by assumption) (by assumption) rfl dX6_stage_49 ?_
          refine f_X6_160 (q := 119) C hP (by assumption) (by assumption) rfl dX6_stage_52 ?_
          refine lv_iload_n hx hb dX6_stage_55 rfl (lv_at hl 1 rfl) ?_
          refine r_iald (n := 8) C hP (by assumption) (by omega) (by decide) dX6_stage_56 ?_
          refine lv_goto (tgt := 69) hx hb dX6_stage_57 (by decide) ?_
          exact hret _ _ _ _ _ _ dX6_stage_69 hP hS (⟨by unfold sStage; rw [if_pos ⟨⟨by omega, by omega⟩, by omega, by omega⟩, g2]; dsimp only; rw [if_pos (by omega), ci0]; exact (g3.2 i0 hi0).1, hCJ, hlo100⟩)
      · refine f_X6_125 C hP (by first | assumption | exact hKa _ (by omega)) dX6_stage_35 ?_
        refine r_eqi (y := 0) (g1) ?_
        refine z_ne0 C dX6_stage_38 (tgt := 44) (by decide) ?_
        refine lv_bipush (v := (-3)) hx hb dX6_stage_41 (by decide) ?_
        exact hret _ _ _ _ _ _ dX6_stage_43 hP hS (⟨by unfold sStage; rw [if_pos ⟨⟨by omega, by omega⟩, by omega, by omega⟩, g2], hCJ, hlo100⟩)
    · refine z_ne0 C dX6_stage_14 (tgt := 20) (by decide) ?_
      refine lv_bipush (v := (-2)) hx hb dX6_stage_17 (by decide) ?_
      exact hret _ _ _ _ _ _ dX6_stage_19 hP hS (⟨by unfold sStage; rw [if_neg (by omega)], hC, fun _ _ => rfl⟩)
  · refine z_eq0 C dX6_stage_6 (tgt := 17) (by decide) ?_
    refine lv_bipush (v := (-2)) hx hb dX6_stage_17 (by decide) ?_
    exact hret _ _ _ _ _ _ dX6_stage_19 hP hS (⟨by unfold sStage; rw [if_neg (by omega)], hC, fun _ _ => rfl⟩)
set_option maxHeartbeats 4000000 in
set_option maxRecDepth 100000 in
theorem c_X6_fewest {l : Launch} {E : En} {K : Nat → Nat} {L : Nat → Nat → Bool} {ad : Nat → Nat} {I : Nat → Nat → Int32} {σ : Mem}  (hO : IsO K L) (hC : CR K L I σ) (hw : WF σ) : MI l E K L ad I yX6_fewest cX6_fewest 1 (some .int) 5 [.ref (ad 100)] (fun rv RJ => sFew σ rv ∧ CR K L RJ σ ∧ ∀ a, a < 100 → RJ a = I a) := by
  have hO0 := hO
  obtain ⟨o0, o1, o2, o3, o4, o5, hp, hk, hQ, hX, o150⟩ := hO
  have hp0 := hp
  obtain ⟨pp0, ⟨pp1, pp2, pp3, pp4⟩, pp5, hLb, pp6, pp7, pp8, hTT⟩ := hp
  have kk0 := hk
  obtain ⟨kk, hA⟩ := hk
  have a0 := (hA 0 (by decide)).1
  have c0 : K 111 = 108 := (hA 0 (by decide)).2
  have a1 := (hA 1 (by decide)).1
  have c1 : K 112 = 108 := (hA 1 (by decide)).2
  have a2 := (hA 2 (by decide)).1
  have c2 : K 113 = 108 := (hA 2 (by decide)).2
  have a3 := (hA 3 (by decide)).1
  have c3 : K 114 = 108 := (hA 3 (by decide)).2
  have a4 := (hA 4 (by decide)).1
  have c4 : K 115 = 108 := (hA 4 (by decide)).2
  have a5 := (hA 5 (by decide)).1
  have c5 : K 116 = 108 := (hA 5 (by decide)).2
  have a6 := (hA 6 (by decide)).1
  have c6 : K 117 = 108 := (hA 6 (by decide)).2
  have a7 := (hA 7 (by decide)).1
  have c7 : K 118 = 108 := (hA 7 (by decide)).2
  have a8 := (hA 8 (by decide)).1
  have c8 : K 119 = 108 := (hA 8 (by decide)).2
  have a9 := (hA 9 (by decide)).1
  have c9 : K 120 = 108 := (hA 9 (by decide)).2
  have hQ0 := hQ
  obtain ⟨q0, q1, q2, q3, q4, q5, q6⟩ := hQ
  have hX0 := hX
  obtain ⟨x0, x1, x2, x3, x4, hXL, hXK⟩ := hX
  have hn8 := hw.2.1
  have hR := hC.1
  have h200 : I 200 0 = nI (mn σ) := hR.1.trans hw.1
  have t0 : (nI 0).toInt = 0 := rfl
  have t1 : (nI 1).toInt = 1 := rfl
  have t2 : (nI 2).toInt = 2 := rfl
  have t4 : (nI 4).toInt = 4 := rfl
  have t6 : (nI 6).toInt = 6 := rfl
  have t8 : (nI 8).toInt = 8 := rfl
  have t10 : (nI 10).toInt = 10 := rfl
  have t255 : (nI 255).toInt = 255 := rfl
  have t65535 : (nI 65535).toInt = 65535 := rfl
  refine MI.of (by decide) (Nat.le_of_ble_eq_true rfl) ?_
  intro p ee s m args below meth c ls Qf C hret hP hl
  have C : Cx E p s m args c cX6_fewest RX6 1 := C
  have hx := C.1
  have hb := C.2.1
  have hS : va_S (AG E) s.heap s.heap [] := va_S.rf
  have hl : lv_has ls 1 [(0, .ref (ad 100))] := hl
  refine lv_aload_n hx hb dX6_fewest_0 rfl (lv_at hl 0 rfl) ?_
  refine f_X6_19 (q := 110) C hP (by assumption) (by assumption) rfl dX6_fewest_1 ?_
  refine lv_aload_n hx hb dX6_fewest_4 rfl (lv_at hl 0 rfl) ?_
  refine f_X6_12 (q := 200) C hP (by assumption) (by assumption) rfl dX6_fewest_5 ?_
  refine k_X6_118 C hP hS (by assumption) (c_X2_arrange (σ := σ) 110 200 (mn σ) kk0 hp0 hR hw rfl (by omega)) ⟨Nat.le_of_ble_eq_true rfl, Nat.le_of_ble_eq_true rfl⟩ ⟨Nat.zero_le _, Nat.zero_le _⟩ hl.1 (Nat.le_of_ble_eq_true rfl) dX6_fewest_8 (fun I2 H locs hv3 hP hS => ?_)
  have eI2 := hv3
  have hCJ : CR K L I2 σ := CR_same hw hC ⟨by rw [eI2.1 132 (by omega)]; exact hC.2.1.1, by rw [eI2.1 133 (by omega)]; exact hC.2.1.2⟩ (fun a ha => eI2.1 a (by omega))
  have hlo100 : ∀ a, a < 100 → I2 a = I a := fun a ha => eI2.1 a (by omega)
  have hARR := eI2.2
  refine lv_aload_n hx hb dX6_fewest_11 rfl (lv_at hl 0 rfl) ?_
  refine f_X6_26 (q := 130) C hP (by assumption) (by assumption) rfl dX6_fewest_12 ?_
  refine lv_aload_n hx hb dX6_fewest_15 rfl (lv_at hl 0 rfl) ?_
  refine f_X6_19 (q := 110) C hP (by assumption) (by assumption) rfl dX6_fewest_16 ?_
  refine lv_aload_n hx hb dX6_fewest_19 rfl (lv_at hl 0 rfl) ?_
  refine f_X6_12 (q := 200) C hP (by assumption) (by assumption) rfl dX6_fewest_20 ?_
  refine k_X6_166 C hP hS (by assumption) (c_X4_fewestStages (σ := σ) hQ0 kk0 hp0 hCJ.1 hw hARR.1 hCJ.2.1.1 hCJ.2.1.2) ⟨Nat.le_of_ble_eq_true rfl, Nat.le_of_ble_eq_true rfl⟩ ⟨Nat.zero_le _, Nat.zero_le _⟩ hl.1 (Nat.le_of_ble_eq_true rfl) dX6_fewest_23 (fun v4 I5 H locs hv6 hP hS => ?_)
  obtain ⟨hF1, hF2, hF3⟩ := hv6
  have hC2 : CR K L I5 σ := CR_same hw hCJ hF3 (fun a ha => hF2 a (by omega) (by omega) (by omega))
  exact hret _ _ _ _ _ _ dX6_fewest_26 hP hS (⟨hF1, hC2, fun a ha => by rw [hF2 a (by omega) (by omega) (by omega)]; exact hlo100 a ha⟩)
set_option maxHeartbeats 4000000 in
set_option maxRecDepth 100000 in
theorem c_X6_run {l : Launch} {E : En} {K : Nat → Nat} {L : Nat → Nat → Bool} {ad : Nat → Nat} {I : Nat → Nat → Int32} {σ : Mem}  (hO : IsO K L) (hC : CR K L I σ) (hw : WF σ) : MI l E K L ad I yX6_run cX6_run 1 (some .int) 5 [.ref (ad 100)] (fun rv RJ => rv = sRun σ ∧ (∀ a, a < 100 → RJ a = I a) ∧ (pkS σ (mn σ) = none → CR K L RJ σ) ∧ (pkS σ (mn σ) ≠ none → RunC I σ RJ)) := by
  have hO0 := hO
  obtain ⟨o0, o1, o2, o3, o4, o5, hp, hk, hQ, hX, o150⟩ := hO
  have hp0 := hp
  obtain ⟨pp0, ⟨pp1, pp2, pp3, pp4⟩, pp5, hLb, pp6, pp7, pp8, hTT⟩ := hp
  have kk0 := hk
  obtain ⟨kk, hA⟩ := hk
  have a0 := (hA 0 (by decide)).1
  have c0 : K 111 = 108 := (hA 0 (by decide)).2
  have a1 := (hA 1 (by decide)).1
  have c1 : K 112 = 108 := (hA 1 (by decide)).2
  have a2 := (hA 2 (by decide)).1
  have c2 : K 113 = 108 := (hA 2 (by decide)).2
  have a3 := (hA 3 (by decide)).1
  have c3 : K 114 = 108 := (hA 3 (by decide)).2
  have a4 := (hA 4 (by decide)).1
  have c4 : K 115 = 108 := (hA 4 (by decide)).2
  have a5 := (hA 5 (by decide)).1
  have c5 : K 116 = 108 := (hA 5 (by decide)).2
  have a6 := (hA 6 (by decide)).1
  have c6 : K 117 = 108 := (hA 6 (by decide)).2
  have a7 := (hA 7 (by decide)).1
  have c7 : K 118 = 108 := (hA 7 (by decide)).2
  have a8 := (hA 8 (by decide)).1
  have c8 : K 119 = 108 := (hA 8 (by decide)).2
  have a9 := (hA 9 (by decide)).1
  have c9 : K 120 = 108 := (hA 9 (by decide)).2
  have hQ0 := hQ
  obtain ⟨q0, q1, q2, q3, q4, q5, q6⟩ := hQ
  have hX0 := hX
  obtain ⟨x0, x1, x2, x3, x4, hXL, hXK⟩ := hX
  have hn8 := hw.2.1
  have hR := hC.1
  have h200 : I 200 0 = nI (mn σ) := hR.1.trans hw.1
  have t0 : (nI 0).toInt = 0 := rfl
  have t1 : (nI 1).toInt = 1 := rfl
  have t2 : (nI 2).toInt = 2 := rfl
  have t4 : (nI 4).toInt = 4 := rfl
  have t6 : (nI 6).toInt = 6 := rfl
  have t8 : (nI 8).toInt = 8 := rfl
  have t10 : (nI 10).toInt = 10 := rfl
  have t255 : (nI 255).toInt = 255 := rfl
  have t65535 : (nI 65535).toInt = 65535 := rfl
  refine MI.of (by decide) (Nat.le_of_ble_eq_true rfl) ?_
  intro p ee s m args below meth c ls Qf C hret hP hl
  have C : Cx E p s m args c cX6_run RX6 1 := C
  have hx := C.1
  have hb := C.2.1
  have hS : va_S (AG E) s.heap s.heap [] := va_S.rf
  have hl : lv_has ls 1 [(0, .ref (ad 100))] := hl
  refine lv_aload_n hx hb dX6_run_0 rfl (lv_at hl 0 rfl) ?_
  refine f_X6_19 (q := 110) C hP (by assumption) (by assumption) rfl dX6_run_1 ?_
  refine lv_aload_n hx hb dX6_run_4 rfl (lv_at hl 0 rfl) ?_
  refine f_X6_12 (q := 200) C hP (by assumption) (by assumption) rfl dX6_run_5 ?_
  refine k_X6_118 C hP hS (by assumption) (c_X2_arrange (σ := σ) 110 200 (mn σ) kk0 hp0 hR hw rfl (by omega)) ⟨Nat.le_of_ble_eq_true rfl, Nat.le_of_ble_eq_true rfl⟩ ⟨Nat.zero_le _, Nat.zero_le _⟩ hl.1 (Nat.le_of_ble_eq_true rfl) dX6_run_8 (fun I2 H locs hv3 hP hS => ?_)
  have eI2 := hv3
  have hCJ : CR K L I2 σ := CR_same hw hC ⟨by rw [eI2.1 132 (by omega)]; exact hC.2.1.1, by rw [eI2.1 133 (by omega)]; exact hC.2.1.2⟩ (fun a ha => eI2.1 a (by omega))
  have hlo100 : ∀ a, a < 100 → I2 a = I a := fun a ha => eI2.1 a (by omega)
  have hARR := eI2.2
  refine lv_aload_n hx hb dX6_run_11 rfl (lv_at hl 0 rfl) ?_
  refine f_X6_19 (q := 110) C hP (by assumption) (by assumption) rfl dX6_run_12 ?_
  rcases hARR.2 with ⟨g1, pl, g2, g3⟩ | ⟨g1, g2⟩
  · refine f_X6_125 C hP (by first | assumption | exact hKa _ (by omega)) dX6_run_15 ?_
    refine r_eqi (y := 1) (g1) ?_
    refine z_ne1 C dX6_run_18 (tgt := 24) (by decide) ?_
    refine lv_aload_n hx hb dX6_run_24 rfl (lv_at hl 0 rfl) ?_
    refine f_X6_33 (q := 140) C hP (by assumption) (by assumption) rfl dX6_run_25 ?_
    refine lv_aload_n hx hb dX6_run_28 rfl (lv_at hl 0 rfl) ?_
    refine f_X6_12 (q := 200) C hP (by assumption) (by assumption) rfl dX6_run_29 ?_
    refine k_X6_177 C hP hS (by assumption) (c_X1_passThrough (σ := σ) hX0 hp0 hw hCJ.1) ⟨Nat.le_of_ble_eq_true rfl, Nat.le_of_ble_eq_true rfl⟩ ⟨Nat.zero_le _, Nat.zero_le _⟩ hl.1 (Nat.le_of_ble_eq_true rfl) dX6_run_32 (fun I5 H locs hv6 hP hS => ?_)
    have eI5 := hv6
    have hZ := eI5
    obtain ⟨z1, z2, z3, z4, z5, z6, z7, z8⟩ := eI5
    refine lv_aload_n hx hb dX6_run_35 rfl (lv_at hl 0 rfl) ?_
    refine lv_dup hx hb dX6_run_36 rfl ?_
    refine f_X6_180 C hP (by first | assumption | exact hKa _ (by omega)) dX6_run_37 ?_
    refine lv_iconst (v := nI 1) hx hb dX6_run_40 (by decide) ?_
    refine lv_iadd hx hb dX6_run_41 ?_
    refine lv_topi (fun x7 ex7 => ?_)
    refine p_X6_180 C hP hS (by assumption) dX6_run_42 (fun H locs hP hS => ?_)
    obtain ⟨I8, eI8⟩ : ∃ Znew : Nat → Nat → Int32, Znew = up2 I5 100 5 x7 := ⟨_, rfl⟩
    rw [← eI8] at hP
    refine lv_aload_n hx hb dX6_run_45 rfl (lv_at hl 0 rfl) ?_
    refine lv_dup hx hb dX6_run_46 rfl ?_
    refine f_X6_183 C hP (by first | assumption | exact hKa _ (by omega)) dX6_run_47 ?_
    refine lv_aload_n hx hb dX6_run_50 rfl (lv_at hl 0 rfl) ?_
    refine f_X6_33 (q := 140) C hP (by assumption) (by assumption) rfl dX6_run_51 ?_
    refine f_X6_186 C hP (by first | assumption | exact hKa _ (by omega)) dX6_run_54 ?_
    refine lv_iadd hx hb dX6_run_57 ?_
    refine lv_topi (fun x9 ex9 => ?_)
    refine p_X6_183 C hP hS (by assumption) dX6_run_58 (fun H locs hP hS => ?_)
    obtain ⟨I10, eI10⟩ : ∃ Znew : Nat → Nat → Int32, Znew = up2 I8 100 7 x9 := ⟨_, rfl⟩
    rw [← eI10] at hP
    refine lv_aload_n hx hb dX6_run_61 rfl (lv_at hl 0 rfl) ?_
    refine f_X6_33 (q := 140) C hP (by assumption) (by assumption) rfl dX6_run_62 ?_
    refine f_X6_189 C hP (by first | assumption | exact hKa _ (by omega)) dX6_run_65 ?_
    refine z_eq C dX6_run_68 (tgt := 83) (by decide) (fun h11 => ?_) (fun h11 => ?_)
    · refine lv_aload_n hx hb dX6_run_83 rfl (lv_at hl 0 rfl) ?_
      refine f_X6_33 (q := 140) C hP (by assumption) (by assumption) rfl dX6_run_84 ?_
      refine f_X6_195 C hP (by first | assumption | exact hKa _ (by omega)) dX6_run_87 ?_
      refine z_eq C dX6_run_90 (tgt := 97) (by decide) (fun h12 => ?_) (fun h12 => ?_)
      · refine lv_iconst (v := nI 0) hx hb dX6_run_97 (by decide) ?_
        exact hret _ _ _ _ _ _ dX6_run_98 hP hS (by
                  have hfB : I10 140 1 = (rS σ).2.2.1 := by rw [eI10, up2_r (by decide), eI8, up2_r (by decide)]; exact z4
                  have hf1 : (rS σ).2.2.1 = 0 := hfB.symm.trans h11
                  refine ⟨by unfold sRun; rw [g2]; dsimp only; rw [if_neg (fun z => z hf1)]; have hfa : I10 140 2 = (rS σ).2.2.2 := (by rw [eI10, up2_r (by decide), eI8, up2_r (by decide)]; exact z5); rw [if_neg (fun z => z (hfa.symm.trans h12))], fun a ha => by rw [eI10, up2_r (by omega), eI8, up2_r (by omega)]; rw [z1 a (by omega) (by omega)]; exact hlo100 a ha, fun z => absurd (g2.symm.trans z) (by simp), fun _ => ⟨fun a q1 q2 q3 q4 => by rw [eI10, up2_r (by omega), eI8, up2_r (by omega)]; rw [z1 a q3 q4]; exact eI2.1 a (by omega), ⟨by rw [eI10, up2_k (by decide), eI8, up2_s, ex7, z1 100 (by omega) (by omega), eI2.1 100 (by omega)], by rw [if_neg (fun z => z hf1), eI10, up2_k (by decide), eI8, up2_k (by decide), z1 100 (by omega) (by omega), eI2.1 100 (by omega)]; exact (Int32.add_zero _).symm, by rw [eI10, up2_s, ex9, eI8, up2_k (by decide), up2_r (by decide), z6, z1 100 (by omega) (by omega), eI2.1 100 (by omega)]⟩, fun j hj => by rw [eI10, up2_r (by omega), eI8, up2_r (by omega)]; exact z2 j hj, fun j hj => by rw [eI10, up2_r (by omega), eI8, up2_r (by omega)]; exact z3 j hj, by rw [eI10, up2_r (by omega), eI8, up2_r (by omega)]; exact z6, by rw [eI10, up2_r (by omega), eI8, up2_r (by omega)]; exact z7, fun i hi t ht => by rw [eI10, up2_r (by omega), eI8, up2_r (by omega)]; exact z8 i hi t ht⟩⟩)
      · refine lv_iconst (v := nI 2) hx hb dX6_run_93 (by decide) ?_
        refine lv_goto (tgt := 98) hx hb dX6_run_94 (by decide) ?_
        exact hret _ _ _ _ _ _ dX6_run_98 hP hS (by
                  have hfB : I10 140 1 = (rS σ).2.2.1 := by rw [eI10, up2_r (by decide), eI8, up2_r (by decide)]; exact z4
                  have hf1 : (rS σ).2.2.1 = 0 := hfB.symm.trans h11
                  refine ⟨by unfold sRun; rw [g2]; dsimp only; rw [if_neg (fun z => z hf1)]; have hfa : I10 140 2 = (rS σ).2.2.2 := (by rw [eI10, up2_r (by decide), eI8, up2_r (by decide)]; exact z5); rw [if_pos (fun z => h12 (hfa.trans z))], fun a ha => by rw [eI10, up2_r (by omega), eI8, up2_r (by omega)]; rw [z1 a (by omega) (by omega)]; exact hlo100 a ha, fun z => absurd (g2.symm.trans z) (by simp), fun _ => ⟨fun a q1 q2 q3 q4 => by rw [eI10, up2_r (by omega), eI8, up2_r (by omega)]; rw [z1 a q3 q4]; exact eI2.1 a (by omega), ⟨by rw [eI10, up2_k (by decide), eI8, up2_s, ex7, z1 100 (by omega) (by omega), eI2.1 100 (by omega)], by rw [if_neg (fun z => z hf1), eI10, up2_k (by decide), eI8, up2_k (by decide), z1 100 (by omega) (by omega), eI2.1 100 (by omega)]; exact (Int32.add_zero _).symm, by rw [eI10, up2_s, ex9, eI8, up2_k (by decide), up2_r (by decide), z6, z1 100 (by omega) (by omega), eI2.1 100 (by omega)]⟩, fun j hj => by rw [eI10, up2_r (by omega), eI8, up2_r (by omega)]; exact z2 j hj, fun j hj => by rw [eI10, up2_r (by omega), eI8, up2_r (by omega)]; exact z3 j hj, by rw [eI10, up2_r (by omega), eI8, up2_r (by omega)]; exact z6, by rw [eI10, up2_r (by omega), eI8, up2_r (by omega)]; exact z7, fun i hi t ht => by rw [eI10, up2_r (by omega), eI8, up2_r (by omega)]; exact z8 i hi t ht⟩⟩)
    · refine lv_aload_n hx hb dX6_run_71 rfl (lv_at hl 0 rfl) ?_
      refine lv_dup hx hb dX6_run_72 rfl ?_
      refine f_X6_192 C hP (by first | assumption | exact hKa _ (by omega)) dX6_run_73 ?_
      refine lv_iconst (v := nI 1) hx hb dX6_run_76 (by decide) ?_
      refine lv_iadd hx hb dX6_run_77 ?_
      refine lv_topi (fun x13 ex13 => ?_)
      refine p_X6_192 C hP hS (by assumption) dX6_run_78 (fun H locs hP hS => ?_)
      obtain ⟨I14, eI14⟩ : ∃ Znew : Nat → Nat → Int32, Znew = up2 I10 100 6 x13 := ⟨_, rfl⟩
      rw [← eI14] at hP
      refine lv_iconst (v := nI 1) hx hb dX6_run_81 (by decide) ?_
      exact hret _ _ _ _ _ _ dX6_run_82 hP hS (by
                have hfB : I10 140 1 = (rS σ).2.2.1 := by rw [eI10, up2_r (by decide), eI8, up2_r (by decide)]; exact z4
                have hf1 : (rS σ).2.2.1 ≠ 0 := fun z => h11 (hfB.trans z)
                refine ⟨by unfold sRun; rw [g2]; dsimp only; rw [if_pos hf1], fun a ha => by rw [eI14, up2_r (by omega), eI10, up2_r (by omega), eI8, up2_r (by omega)]; rw [z1 a (by omega) (by omega)]; exact hlo100 a ha, fun z => absurd (g2.symm.trans z) (by simp), fun _ => ⟨fun a q1 q2 q3 q4 => by rw [eI14, up2_r (by omega), eI10, up2_r (by omega), eI8, up2_r (by omega)]; rw [z1 a q3 q4]; exact eI2.1 a (by omega), ⟨by rw [eI14, up2_k (by decide), eI10, up2_k (by decide), eI8, up2_s, ex7, z1 100 (by omega) (by omega), eI2.1 100 (by omega)], by rw [if_pos hf1, eI14, up2_s, ex13, eI10, up2_k (by decide), eI8, up2_k (by decide), z1 100 (by omega) (by omega), eI2.1 100 (by omega)], by rw [eI14, up2_k (by decide), eI10, up2_s, ex9, eI8, up2_k (by decide), up2_r (by decide), z6, z1 100 (by omega) (by omega), eI2.1 100 (by omega)]⟩, fun j hj => by rw [eI14, up2_r (by omega), eI10, up2_r (by omega), eI8, up2_r (by omega)]; exact z2 j hj, fun j hj => by rw [eI14, up2_r (by omega), eI10, up2_r (by omega), eI8, up2_r (by omega)]; exact z3 j hj, by rw [eI14, up2_r (by omega), eI10, up2_r (by omega), eI8, up2_r (by omega)]; exact z6, by rw [eI14, up2_r (by omega), eI10, up2_r (by omega), eI8, up2_r (by omega)]; exact z7, fun i hi t ht => by rw [eI14, up2_r (by omega), eI10, up2_r (by omega), eI8, up2_r (by omega)]; exact z8 i hi t ht⟩⟩)
  · refine f_X6_125 C hP (by first | assumption | exact hKa _ (by omega)) dX6_run_15 ?_
    refine r_eqi (y := 0) (g1) ?_
    refine z_ne0 C dX6_run_18 (tgt := 24) (by decide) ?_
    refine lv_bipush (v := (-3)) hx hb dX6_run_21 (by decide) ?_
    exact hret _ _ _ _ _ _ dX6_run_23 hP hS (⟨by unfold sRun; rw [g2], hlo100, fun _ => hCJ, fun z => absurd g2 z⟩)
set_option maxHeartbeats 4000000 in
set_option maxRecDepth 100000 in
theorem c_X6_out {l : Launch} {E : En} {K : Nat → Nat} {L : Nat → Nat → Bool} {ad : Nat → Nat} {I : Nat → Nat → Int32} {σ : Mem} (w : Int32) (hO : IsO K L) (hC : CR K L I σ) (hw : WF σ) : MI l E K L ad I yX6_out cX6_out 2 (some .int) 1 [.ref (ad 100), .int w] (fun rv RJ => rv = sOut σ w ∧ CR K L RJ σ ∧ ∀ a, a < 100 → RJ a = I a) := by
  have hO0 := hO
  obtain ⟨o0, o1, o2, o3, o4, o5, hp, hk, hQ, hX, o150⟩ := hO
  have hp0 := hp
  obtain ⟨pp0, ⟨pp1, pp2, pp3, pp4⟩, pp5, hLb, pp6, pp7, pp8, hTT⟩ := hp
  have kk0 := hk
  obtain ⟨kk, hA⟩ := hk
  have a0 := (hA 0 (by decide)).1
  have c0 : K 111 = 108 := (hA 0 (by decide)).2
  have a1 := (hA 1 (by decide)).1
  have c1 : K 112 = 108 := (hA 1 (by decide)).2
  have a2 := (hA 2 (by decide)).1
  have c2 : K 113 = 108 := (hA 2 (by decide)).2
  have a3 := (hA 3 (by decide)).1
  have c3 : K 114 = 108 := (hA 3 (by decide)).2
  have a4 := (hA 4 (by decide)).1
  have c4 : K 115 = 108 := (hA 4 (by decide)).2
  have a5 := (hA 5 (by decide)).1
  have c5 : K 116 = 108 := (hA 5 (by decide)).2
  have a6 := (hA 6 (by decide)).1
  have c6 : K 117 = 108 := (hA 6 (by decide)).2
  have a7 := (hA 7 (by decide)).1
  have c7 : K 118 = 108 := (hA 7 (by decide)).2
  have a8 := (hA 8 (by decide)).1
  have c8 : K 119 = 108 := (hA 8 (by decide)).2
  have a9 := (hA 9 (by decide)).1
  have c9 : K 120 = 108 := (hA 9 (by decide)).2
  have hQ0 := hQ
  obtain ⟨q0, q1, q2, q3, q4, q5, q6⟩ := hQ
  have hX0 := hX
  obtain ⟨x0, x1, x2, x3, x4, hXL, hXK⟩ := hX
  have hn8 := hw.2.1
  have hR := hC.1
  have h200 : I 200 0 = nI (mn σ) := hR.1.trans hw.1
  have t0 : (nI 0).toInt = 0 := rfl
  have t1 : (nI 1).toInt = 1 := rfl
  have t2 : (nI 2).toInt = 2 := rfl
  have t4 : (nI 4).toInt = 4 := rfl
  have t6 : (nI 6).toInt = 6 := rfl
  have t8 : (nI 8).toInt = 8 := rfl
  have t10 : (nI 10).toInt = 10 := rfl
  have t255 : (nI 255).toInt = 255 := rfl
  have t65535 : (nI 65535).toInt = 65535 := rfl
  refine MI.of (by decide) (Nat.le_of_ble_eq_true rfl) ?_
  intro p ee s m args below meth c ls Qf C hret hP hl
  have C : Cx E p s m args c cX6_out RX6 2 := C
  have hx := C.1
  have hb := C.2.1
  have hS : va_S (AG E) s.heap s.heap [] := va_S.rf
  have hl : lv_has ls 2 [(0, .ref (ad 100)), (1, .int w)] := hl
  obtain ⟨hPK1, q, n, hq4, hn4, hPq, hPq2, hPn, hPs⟩ := hC.2.2.2.1
  refine lv_iload_n hx hb dX6_out_0 rfl (lv_at hl 1 rfl) ?_
  refine lv_bipush (v := nI 6) hx hb dX6_out_1 (by decide) ?_
  refine k_X6_57 C hP hS (c_X6_isUpTo w ((nI 6))) ⟨Nat.le_of_ble_eq_true rfl, Nat.le_of_ble_eq_true rfl⟩ ⟨Nat.zero_le _, Nat.zero_le _⟩ hl.1 (Nat.le_of_ble_eq_true rfl) dX6_out_3 (fun v1 I2 H locs hv3 hP hS => ?_)
  obtain ⟨eI2, hv3⟩ := hv3
  rw [eI2] at hP
  clear eI2
  rcases hv3 with ⟨rfl, hc4⟩ | ⟨rfl, hc4⟩
  · refine z_ne1 C dX6_out_6 (tgt := 12) (by decide) ?_
    refine lv_aload_n hx hb dX6_out_12 rfl (lv_at hl 0 rfl) ?_
    refine f_X6_180 C hP (by first | assumption | exact hKa _ (by omega)) dX6_out_13 ?_
    refine z_ne C dX6_out_16 (tgt := 22) (by decide) (fun h5 => ?_) (fun h5 => ?_)
    · refine lv_iload_n hx hb dX6_out_22 rfl (lv_at hl 1 rfl) ?_
      refine lv_bipush (v := nI 6) hx hb dX6_out_23 (by decide) ?_
      refine b_ne C dX6_out_25 (tgt := 38) (by decide) (fun h6 => ?_) (fun h6 => ?_)
      · have h6t : (w : Int32).toInt ≠ 6 := fun q => h6 (i32_eq (by decide) q)
        obtain ⟨j, hj, ej⟩ : ∃ j : Nat, j < 6 ∧ w = nI j := ⟨w.toInt.toNat, by omega, i32_eq (by omega) (by omega)⟩
        have cj : tn w = j := by rw [ej]; exact nI_clamp (by omega)
        rw [ej] at hl
        refine lv_aload_n hx hb dX6_out_38 rfl (lv_at hl 0 rfl) ?_
        refine f_X6_33 (q := 140) C hP (by assumption) (by assumption) rfl dX6_out_39 ?_
        refine f_X6_198 (q := 141) C hP (by assumption) (by assumption) rfl dX6_out_42 ?_
        refine lv_iload_n hx hb dX6_out_45 rfl (lv_at hl 1 rfl) ?_
        refine r_iald (n := 6) C hP (by assumption) (by omega) (by decide) dX6_out_46 ?_
        exact hret _ _ _ _ _ _ dX6_out_47 hP hS (⟨by unfold sOut; rw [if_pos (by omega), if_neg (fun z => h5 (hC.2.2.1.1.trans z)), if_neg (by omega), cj]; exact hPK1 j hj, hC, fun _ _ => rfl⟩)
      · have h6t : (w : Int32).toInt = 6 := by rw [h6]; rfl
        refine lv_aload_n hx hb dX6_out_28 rfl (lv_at hl 0 rfl) ?_
        refine f_X6_33 (q := 140) C hP (by assumption) (by assumption) rfl dX6_out_29 ?_
        refine f_X6_186 C hP (by first | assumption | exact hKa _ (by omega)) dX6_out_32 ?_
        refine lv_goto (tgt := 47) hx hb dX6_out_35 (by decide) ?_
        exact hret _ _ _ _ _ _ dX6_out_47 hP hS (⟨by unfold sOut; rw [if_pos (by omega), if_neg (fun z => h5 (hC.2.2.1.1.trans z)), if_pos (by omega)]; exact hPq2.trans hPq.symm, hC, fun _ _ => rfl⟩)
    · refine lv_bipush (v := (-6)) hx hb dX6_out_19 (by decide) ?_
      exact hret _ _ _ _ _ _ dX6_out_21 hP hS (⟨by unfold sOut; rw [if_pos (by omega), if_pos (hC.2.2.1.1.symm.trans h5)], hC, fun _ _ => rfl⟩)
  · refine z_ne0 C dX6_out_6 (tgt := 12) (by decide) ?_
    refine lv_bipush (v := (-2)) hx hb dX6_out_9 (by decide) ?_
    exact hret _ _ _ _ _ _ dX6_out_11 hP hS (⟨by unfold sOut; rw [if_neg (by omega)], hC, fun _ _ => rfl⟩)
set_option maxHeartbeats 4000000 in
set_option maxRecDepth 100000 in
theorem c_X6_took {l : Launch} {E : En} {K : Nat → Nat} {L : Nat → Nat → Bool} {ad : Nat → Nat} {I : Nat → Nat → Int32} {σ : Mem} (t r : Int32) (hO : IsO K L) (hC : CR K L I σ) (hw : WF σ) : MI l E K L ad I yX6_took cX6_took 3 (some .int) 1 [.ref (ad 100), .int t, .int r] (fun rv RJ => rv = sTook σ t r ∧ CR K L RJ σ ∧ ∀ a, a < 100 → RJ a = I a) := by
  have hO0 := hO
  obtain ⟨o0, o1, o2, o3, o4, o5, hp, hk, hQ, hX, o150⟩ := hO
  have hp0 := hp
  obtain ⟨pp0, ⟨pp1, pp2, pp3, pp4⟩, pp5, hLb, pp6, pp7, pp8, hTT⟩ := hp
  have kk0 := hk
  obtain ⟨kk, hA⟩ := hk
  have a0 := (hA 0 (by decide)).1
  have c0 : K 111 = 108 := (hA 0 (by decide)).2
  have a1 := (hA 1 (by decide)).1
  have c1 : K 112 = 108 := (hA 1 (by decide)).2
  have a2 := (hA 2 (by decide)).1
  have c2 : K 113 = 108 := (hA 2 (by decide)).2
  have a3 := (hA 3 (by decide)).1
  have c3 : K 114 = 108 := (hA 3 (by decide)).2
  have a4 := (hA 4 (by decide)).1
  have c4 : K 115 = 108 := (hA 4 (by decide)).2
  have a5 := (hA 5 (by decide)).1
  have c5 : K 116 = 108 := (hA 5 (by decide)).2
  have a6 := (hA 6 (by decide)).1
  have c6 : K 117 = 108 := (hA 6 (by decide)).2
  have a7 := (hA 7 (by decide)).1
  have c7 : K 118 = 108 := (hA 7 (by decide)).2
  have a8 := (hA 8 (by decide)).1
  have c8 : K 119 = 108 := (hA 8 (by decide)).2
  have a9 := (hA 9 (by decide)).1
  have c9 : K 120 = 108 := (hA 9 (by decide)).2
  have hQ0 := hQ
  obtain ⟨q0, q1, q2, q3, q4, q5, q6⟩ := hQ
  have hX0 := hX
  obtain ⟨x0, x1, x2, x3, x4, hXL, hXK⟩ := hX
  have hn8 := hw.2.1
  have hR := hC.1
  have h200 : I 200 0 = nI (mn σ) := hR.1.trans hw.1
  have t0 : (nI 0).toInt = 0 := rfl
  have t1 : (nI 1).toInt = 1 := rfl
  have t2 : (nI 2).toInt = 2 := rfl
  have t4 : (nI 4).toInt = 4 := rfl
  have t6 : (nI 6).toInt = 6 := rfl
  have t8 : (nI 8).toInt = 8 := rfl
  have t10 : (nI 10).toInt = 10 := rfl
  have t255 : (nI 255).toInt = 255 := rfl
  have t65535 : (nI 65535).toInt = 65535 := rfl
  refine MI.of (by decide) (Nat.le_of_ble_eq_true rfl) ?_
  intro p ee s m args below meth c ls Qf C hret hP hl
  have C : Cx E p s m args c cX6_took RX6 3 := C
  have hx := C.1
  have hb := C.2.1
  have hS : va_S (AG E) s.heap s.heap [] := va_S.rf
  have hl : lv_has ls 3 [(0, .ref (ad 100)), (1, .int t), (2, .int r)] := hl
  obtain ⟨hPK1, q, n, hq4, hn4, hPq, hPq2, hPn, hPs⟩ := hC.2.2.2.1
  refine lv_iload_n hx hb dX6_took_0 rfl (lv_at hl 1 rfl) ?_
  refine lv_bipush (v := nI 8) hx hb dX6_took_1 (by decide) ?_
  refine k_X6_41 C hP hS (c_X6_isIn t ((nI 8))) ⟨Nat.le_of_ble_eq_true rfl, Nat.le_of_ble_eq_true rfl⟩ ⟨Nat.zero_le _, Nat.zero_le _⟩ hl.1 (Nat.le_of_ble_eq_true rfl) dX6_took_3 (fun v1 I2 H locs hv3 hP hS => ?_)
  obtain ⟨eI2, hv3⟩ := hv3
  rw [eI2] at hP
  clear eI2
  rcases hv3 with ⟨rfl, hc4⟩ | ⟨rfl, hc4⟩
  · refine z_eq1 C dX6_took_6 (tgt := 17) (by decide) ?_
    refine lv_iload_n hx hb dX6_took_9 rfl (lv_at hl 2 rfl) ?_
    refine lv_iconst (v := nI 4) hx hb dX6_took_10 (by decide) ?_
    refine k_X6_41 C hP hS (c_X6_isIn r ((nI 4))) ⟨Nat.le_of_ble_eq_true rfl, Nat.le_of_ble_eq_true rfl⟩ ⟨Nat.zero_le _, Nat.zero_le _⟩ hl.1 (Nat.le_of_ble_eq_true rfl) dX6_took_11 (fun v5 I6 H locs hv7 hP hS => ?_)
    obtain ⟨eI6, hv7⟩ := hv7
    rw [eI6] at hP
    clear eI6
    rcases hv7 with ⟨rfl, hc8⟩ | ⟨rfl, hc8⟩
    · refine z_ne1 C dX6_took_14 (tgt := 20) (by decide) ?_
      obtain ⟨j, hj, ej⟩ : ∃ j : Nat, j < 8 ∧ t = nI j := ⟨t.toInt.toNat, by omega, i32_eq (by omega) (by omega)⟩
      have cj : tn t = j := by rw [ej]; exact nI_clamp (by omega)
      rw [ej] at hl
      have tj : t.toInt = (j : Int) := by rw [ej]; exact nI_toInt (by omega)
      obtain ⟨j2, hj2, ej2⟩ : ∃ j : Nat, j < 4 ∧ r = nI j := ⟨r.toInt.toNat, by omega, i32_eq (by omega) (by omega)⟩
      have cj2 : tn r = j2 := by rw [ej2]; exact nI_clamp (by omega)
      rw [ej2] at hl
      have tj2 : r.toInt = (j2 : Int) := by rw [ej2]; exact nI_toInt (by omega)
      have hkj : K (143 + j2) = 108 := hXK j2 hj2
      refine lv_iload_n hx hb dX6_took_20 rfl (lv_at hl 1 rfl) ?_
      refine lv_aload_n hx hb dX6_took_21 rfl (lv_at hl 0 rfl) ?_
      refine f_X6_33 (q := 140) C hP (by assumption) (by assumption) rfl dX6_took_22 ?_
      refine f_X6_201 C hP (by first | assumption | exact hKa _ (by omega)) dX6_took_25 ?_
      refine r_eqi (y := (nI n)) (hPn) ?_
      refine b_geN C (by omega) (by omega) dX6_took_28 (tgt := 42) (by decide) (fun h9 => ?_) (fun h9 => ?_)
      · refine lv_bipush (v := (-6)) hx hb dX6_took_42 (by decide) ?_
        exact hret _ _ _ _ _ _ dX6_took_44 hP hS (⟨by
                    unfold sTook; rw [if_pos (by omega)]
                    have tq : (σ 10 20).toInt = (q : Int) := by rw [hPq]; exact nI_toInt (by omega)
                    by_cases z : r.toInt < (σ 10 20).toInt
                    · rw [if_pos z, cj, cj2, hPs j2 (by omega) j hj, if_neg (by omega)]
                    · rw [if_neg z], hC, fun _ _ => rfl⟩)
      · refine lv_iload_n hx hb dX6_took_31 rfl (lv_at hl 2 rfl) ?_
        refine lv_aload_n hx hb dX6_took_32 rfl (lv_at hl 0 rfl) ?_
        refine f_X6_33 (q := 140) C hP (by assumption) (by assumption) rfl dX6_took_33 ?_
        refine f_X6_186 C hP (by first | assumption | exact hKa _ (by omega)) dX6_took_36 ?_
        refine r_eqi (y := (nI q)) (hPq2) ?_
        refine b_ltN C (by omega) (by omega) dX6_took_39 (tgt := 45) (by decide) (fun h10 => ?_) (fun h10 => ?_)
        · refine lv_aload_n hx hb dX6_took_45 rfl (lv_at hl 0 rfl) ?_
          refine f_X6_33 (q := 140) C hP (by assumption) (by assumption) rfl dX6_took_46 ?_
          refine f_X6_203 (q := 142) C hP (by assumption) (by assumption) rfl dX6_took_49 ?_
          refine lv_iload_n hx hb dX6_took_52 rfl (lv_at hl 2 rfl) ?_
          refine r_ald14 (q := 143 + j2) C hP (by assumption) (hXL _ (by omega)) (by omega) (by omega) dX6_took_53 ?_
          refine lv_iload_n hx hb dX6_took_54 rfl (lv_at hl 1 rfl) ?_
          refine r_iald (n := 8) C hP (by assumption) (by omega) (by decide) dX6_took_55 ?_
          exact hret _ _ _ _ _ _ dX6_took_56 hP hS (⟨by
                      unfold sTook; rw [if_pos (by omega)]
                      have tq : (σ 10 20).toInt = (q : Int) := by rw [hPq]; exact nI_toInt (by omega)
                      rw [if_pos (by omega), cj, cj2, hPs j2 (by omega) j hj, if_pos (by omega)], hC, fun _ _ => rfl⟩)
        · refine lv_bipush (v := (-6)) hx hb dX6_took_42 (by decide) ?_
          exact hret _ _ _ _ _ _ dX6_took_44 hP hS (⟨by
                      unfold sTook; rw [if_pos (by omega)]
                      have tq : (σ 10 20).toInt = (q : Int) := by rw [hPq]; exact nI_toInt (by omega)
                      by_cases z : r.toInt < (σ 10 20).toInt
                      · rw [if_pos z, cj, cj2, hPs j2 (by omega) j hj, if_neg (by omega)]
                      · rw [if_neg z], hC, fun _ _ => rfl⟩)
    · refine z_ne0 C dX6_took_14 (tgt := 20) (by decide) ?_
      refine lv_bipush (v := (-2)) hx hb dX6_took_17 (by decide) ?_
      exact hret _ _ _ _ _ _ dX6_took_19 hP hS (⟨by unfold sTook; rw [if_neg (by omega)], hC, fun _ _ => rfl⟩)
  · refine z_eq0 C dX6_took_6 (tgt := 17) (by decide) ?_
    refine lv_bipush (v := (-2)) hx hb dX6_took_17 (by decide) ?_
    exact hret _ _ _ _ _ _ dX6_took_19 hP hS (⟨by unfold sTook; rw [if_neg (by omega)], hC, fun _ _ => rfl⟩)
set_option maxHeartbeats 4000000 in
set_option maxRecDepth 100000 in
theorem c_X6_restore {l : Launch} {E : En} {K : Nat → Nat} {L : Nat → Nat → Bool} {ad : Nat → Nat} {I : Nat → Nat → Int32} {σ : Mem} (k : Int32) (hO : IsO K L) (hC : CR K L I σ) (hw : WF σ) : MI l E K L ad I yX6_restore cX6_restore 2 (some .int) 3 [.ref (ad 100), .int k] (fun rv RJ => rv = (sRest σ k).1 ∧ CR K L RJ (sRest σ k).2 ∧ ∀ a, a < 100 → RJ a = I a) := by
  have hO0 := hO
  obtain ⟨o0, o1, o2, o3, o4, o5, hp, hk, hQ, hX, o150⟩ := hO
  have hp0 := hp
  obtain ⟨pp0, ⟨pp1, pp2, pp3, pp4⟩, pp5, hLb, pp6, pp7, pp8, hTT⟩ := hp
  have kk0 := hk
  obtain ⟨kk, hA⟩ := hk
  have a0 := (hA 0 (by decide)).1
  have c0 : K 111 = 108 := (hA 0 (by decide)).2
  have a1 := (hA 1 (by decide)).1
  have c1 : K 112 = 108 := (hA 1 (by decide)).2
  have a2 := (hA 2 (by decide)).1
  have c2 : K 113 = 108 := (hA 2 (by decide)).2
  have a3 := (hA 3 (by decide)).1
  have c3 : K 114 = 108 := (hA 3 (by decide)).2
  have a4 := (hA 4 (by decide)).1
  have c4 : K 115 = 108 := (hA 4 (by decide)).2
  have a5 := (hA 5 (by decide)).1
  have c5 : K 116 = 108 := (hA 5 (by decide)).2
  have a6 := (hA 6 (by decide)).1
  have c6 : K 117 = 108 := (hA 6 (by decide)).2
  have a7 := (hA 7 (by decide)).1
  have c7 : K 118 = 108 := (hA 7 (by decide)).2
  have a8 := (hA 8 (by decide)).1
  have c8 : K 119 = 108 := (hA 8 (by decide)).2
  have a9 := (hA 9 (by decide)).1
  have c9 : K 120 = 108 := (hA 9 (by decide)).2
  have hQ0 := hQ
  obtain ⟨q0, q1, q2, q3, q4, q5, q6⟩ := hQ
  have hX0 := hX
  obtain ⟨x0, x1, x2, x3, x4, hXL, hXK⟩ := hX
  have hn8 := hw.2.1
  have hR := hC.1
  have h200 : I 200 0 = nI (mn σ) := hR.1.trans hw.1
  have t0 : (nI 0).toInt = 0 := rfl
  have t1 : (nI 1).toInt = 1 := rfl
  have t2 : (nI 2).toInt = 2 := rfl
  have t4 : (nI 4).toInt = 4 := rfl
  have t6 : (nI 6).toInt = 6 := rfl
  have t8 : (nI 8).toInt = 8 := rfl
  have t10 : (nI 10).toInt = 10 := rfl
  have t255 : (nI 255).toInt = 255 := rfl
  have t65535 : (nI 65535).toInt = 65535 := rfl
  refine MI.of (by decide) (Nat.le_of_ble_eq_true rfl) ?_
  intro p ee s m args below meth c ls Qf C hret hP hl
  have C : Cx E p s m args c cX6_restore RX6 2 := C
  have hx := C.1
  have hb := C.2.1
  have hS : va_S (AG E) s.heap s.heap [] := va_S.rf
  have hl : lv_has ls 2 [(0, .ref (ad 100)), (1, .int k)] := hl
  refine lv_iload_n hx hb dX6_restore_0 rfl (lv_at hl 1 rfl) ?_
  refine lv_iconst (v := nI 2) hx hb dX6_restore_1 (by decide) ?_
  refine k_X6_41 C hP hS (c_X6_isIn k ((nI 2))) ⟨Nat.le_of_ble_eq_true rfl, Nat.le_of_ble_eq_true rfl⟩ ⟨Nat.zero_le _, Nat.zero_le _⟩ hl.1 (Nat.le_of_ble_eq_true rfl) dX6_restore_2 (fun v1 I2 H locs hv3 hP hS => ?_)
  obtain ⟨eI2, hv3⟩ := hv3
  rw [eI2] at hP
  clear eI2
  rcases hv3 with ⟨rfl, hc4⟩ | ⟨rfl, hc4⟩
  · refine z_ne1 C dX6_restore_5 (tgt := 11) (by decide) ?_
    obtain ⟨j, hj, ej⟩ : ∃ j : Nat, j < 2 ∧ k = nI j := ⟨k.toInt.toNat, by omega, i32_eq (by omega) (by omega)⟩
    have cj : tn k = j := by rw [ej]; exact nI_clamp (by omega)
    rw [ej] at hl
    refine lv_aload_n hx hb dX6_restore_11 rfl (lv_at hl 0 rfl) ?_
    refine f_X6_37 (q := 150) C hP (by assumption) (by assumption) rfl dX6_restore_12 ?_
    refine lv_iload_n hx hb dX6_restore_15 rfl (lv_at hl 1 rfl) ?_
    rcases hC.2.2.2.2 j (by omega) with ⟨i1, i2, i3, i4, i5⟩ | ⟨i1, i2, i3⟩
    · have gk0 := i3.1
      refine r_ald13 (q := 300 + 100 * j) C hP (by assumption) (by assumption) (by omega) (by omega) dX6_restore_16 ?_
      refine lv_ifnonnull hx hb dX6_restore_17 (tgt := 23) (by decide) ?_
      refine lv_aload_n hx hb dX6_restore_23 rfl (lv_at hl 0 rfl) ?_
      refine f_X6_12 (q := 200) C hP (by assumption) (by assumption) rfl dX6_restore_24 ?_
      refine lv_aload_n hx hb dX6_restore_27 rfl (lv_at hl 0 rfl) ?_
      refine f_X6_37 (q := 150) C hP (by assumption) (by assumption) rfl dX6_restore_28 ?_
      refine lv_iload_n hx hb dX6_restore_31 rfl (lv_at hl 1 rfl) ?_
      refine r_ald13 (q := 300 + 100 * j) C hP (by assumption) (by assumption) (by omega) (by omega) dX6_restore_32 ?_
      refine k_X6_207 C hP hS (by assumption) (c_X3_copy (σ := imM σ j) 200 (300 + 100 * j) (mn (imM σ j)) hp0 i3 hR.2.1 i4 i5 rfl (by omega)) ⟨Nat.le_of_ble_eq_true rfl, Nat.le_of_ble_eq_true rfl⟩ ⟨Nat.zero_le _, Nat.zero_le _⟩ hl.1 (Nat.le_of_ble_eq_true rfl) dX6_restore_33 (fun I6 H locs hv7 hP hS => ?_)
      have eI6 := hv7
      refine lv_iconst (v := nI 1) hx hb dX6_restore_36 (by decide) ?_
      exact hret _ _ _ _ _ _ dX6_restore_37 hP hS (by unfold sRest; rw [if_pos (by omega), cj, if_neg (by rw [i1]; decide)]; exact ⟨rfl, (show CR K L _ (reU σ j) from CR_c hC (sig_PR i5 (fun a i h => re_im h) eI6.2) ⟨by rw [eI6.1 _ (by omega)]; exact hC.2.1.1, by rw [eI6.1 _ (by omega)]; exact hC.2.1.2⟩ (fun a ha => eI6.1 a (by omega)) (fun a g1 g2 => re_row (by omega)) (fun i hi => re_10 hi)), fun a ha => eI6.1 a (by omega)⟩)
    · refine r_ald13n C hP (by assumption) (by assumption) (by omega) dX6_restore_16 ?_
      refine lv_ifnonnullN hx hb dX6_restore_17 ?_
      refine lv_bipush (v := (-3)) hx hb dX6_restore_20 (by decide) ?_
      exact hret _ _ _ _ _ _ dX6_restore_22 hP hS (by unfold sRest; rw [if_pos (by omega), cj, if_pos (show σ 36 j = 0 from i1)]; exact ⟨rfl, hC, fun _ _ => rfl⟩)
  · refine z_ne0 C dX6_restore_5 (tgt := 11) (by decide) ?_
    refine lv_bipush (v := (-2)) hx hb dX6_restore_8 (by decide) ?_
    exact hret _ _ _ _ _ _ dX6_restore_10 hP hS (by unfold sRest; rw [if_neg (by omega)]; exact ⟨rfl, hC, fun _ _ => rfl⟩)
set_option maxHeartbeats 4000000 in
set_option maxRecDepth 100000 in
theorem c_X6_keptImages {l : Launch} {E : En} {K : Nat → Nat} {L : Nat → Nat → Bool} {ad : Nat → Nat} {I : Nat → Nat → Int32} {σ : Mem}  (hO : IsO K L) (hC : CR K L I σ) (hw : WF σ) : MI l E K L ad I yX6_keptImages cX6_keptImages 3 (some .int) 0 [.ref (ad 100)] (fun rv RJ => RJ = I ∧ rv = nI (kp σ 2)) := by
  have hO0 := hO
  obtain ⟨o0, o1, o2, o3, o4, o5, hp, hk, hQ, hX, o150⟩ := hO
  have hp0 := hp
  obtain ⟨pp0, ⟨pp1, pp2, pp3, pp4⟩, pp5, hLb, pp6, pp7, pp8, hTT⟩ := hp
  have kk0 := hk
  obtain ⟨kk, hA⟩ := hk
  have a0 := (hA 0 (by decide)).1
  have c0 : K 111 = 108 := (hA 0 (by decide)).2
  have a1 := (hA 1 (by decide)).1
  have c1 : K 112 = 108 := (hA 1 (by decide)).2
  have a2 := (hA 2 (by decide)).1
  have c2 : K 113 = 108 := (hA 2 (by decide)).2
  have a3 := (hA 3 (by decide)).1
  have c3 : K 114 = 108 := (hA 3 (by decide)).2
  have a4 := (hA 4 (by decide)).1
  have c4 : K 115 = 108 := (hA 4 (by decide)).2
  have a5 := (hA 5 (by decide)).1
  have c5 : K 116 = 108 := (hA 5 (by decide)).2
  have a6 := (hA 6 (by decide)).1
  have c6 : K 117 = 108 := (hA 6 (by decide)).2
  have a7 := (hA 7 (by decide)).1
  have c7 : K 118 = 108 := (hA 7 (by decide)).2
  have a8 := (hA 8 (by decide)).1
  have c8 : K 119 = 108 := (hA 8 (by decide)).2
  have a9 := (hA 9 (by decide)).1
  have c9 : K 120 = 108 := (hA 9 (by decide)).2
  have hQ0 := hQ
  obtain ⟨q0, q1, q2, q3, q4, q5, q6⟩ := hQ
  have hX0 := hX
  obtain ⟨x0, x1, x2, x3, x4, hXL, hXK⟩ := hX
  have hn8 := hw.2.1
  have hR := hC.1
  have h200 : I 200 0 = nI (mn σ) := hR.1.trans hw.1
  have t0 : (nI 0).toInt = 0 := rfl
  have t1 : (nI 1).toInt = 1 := rfl
  have t2 : (nI 2).toInt = 2 := rfl
  have t4 : (nI 4).toInt = 4 := rfl
  have t6 : (nI 6).toInt = 6 := rfl
  have t8 : (nI 8).toInt = 8 := rfl
  have t10 : (nI 10).toInt = 10 := rfl
  have t255 : (nI 255).toInt = 255 := rfl
  have t65535 : (nI 65535).toInt = 65535 := rfl
  refine MI.of (by decide) (Nat.le_of_ble_eq_true rfl) ?_
  intro p ee s m args below meth c ls Qf C hret hP hl
  have C : Cx E p s m args c cX6_keptImages RX6 3 := C
  have hx := C.1
  have hb := C.2.1
  have hS : va_S (AG E) s.heap s.heap [] := va_S.rf
  have hl : lv_has ls 3 [(0, .ref (ad 100))] := hl
  refine lv_iconst (v := nI 0) hx hb dX6_keptImages_0 (by decide) ?_
  refine lv_istore_n (lv' := [(1, .int (nI 0)), (0, .ref (ad 100))]) hx hb dX6_keptImages_1 rfl hl (by decide) rfl (fun ls hl => ?_)
  refine lv_iconst (v := nI 0) hx hb dX6_keptImages_2 (by decide) ?_
  refine lv_istore_n (lv' := [(2, .int (nI 0)), (1, .int (nI 0)), (0, .ref (ad 100))]) hx hb dX6_keptImages_3 rfl hl (by decide) rfl (fun ls hl => ?_)
  have hL4_1 : ∀ (d : Nat) (j : Nat) (a : Nat) (H : Heap) (locs : List Loc) (ls : Array Slot), 2 < j + d → (j ≤ 2) → (a = kp σ j) → Hp E K L ad I H → va_S (AG E) s.heap H locs → lv_has ls 3 [(0, .ref (ad 100)), (1, .int (nI a)), (2, .int (nI j))] → W p l ee (rmk 0) s m args below meth c H locs 0 0 Qf (F0 m 4 ls []) := by
    intro d4
    induction d4 with
    | zero => intro j a H locs ls hd4 hj ha _ _ _; exact absurd hd4 (by omega)
    | succ d4 ih4 =>
      intro j a H locs ls hd4 hj ha hP hS hl
      refine lv_iload_n hx hb dX6_keptImages_4 rfl (lv_at hl 2 rfl) ?_
      refine lv_iconst (v := nI 2) hx hb dX6_keptImages_5 (by decide) ?_
      refine b_geN C (by omega) (by omega) dX6_keptImages_6 (tgt := 30) (by decide) (fun h2 => ?_) (fun h2 => ?_)
      · refine lv_iload_n hx hb dX6_keptImages_30 rfl (lv_at hl 1 rfl) ?_
        exact hret _ _ _ _ _ _ dX6_keptImages_31 hP hS (⟨rfl, by rw [ha, show j = 2 by omega]⟩)
      · refine lv_aload_n hx hb dX6_keptImages_9 rfl (lv_at hl 0 rfl) ?_
        refine f_X6_37 (q := 150) C hP (by assumption) (by assumption) rfl dX6_keptImages_10 ?_
        refine lv_iload_n hx hb dX6_keptImages_13 rfl (lv_at hl 2 rfl) ?_
        rcases hC.2.2.2.2 j (by omega) with ⟨i1, i2, i3, i4, i5⟩ | ⟨i1, i2, i3⟩
        · have gk0 := i3.1
          refine r_ald13 (q := 300 + 100 * j) C hP (by assumption) (by assumption) (by omega) (by omega) dX6_keptImages_14 ?_
          refine lv_ifnull hx hb dX6_keptImages_15 ?_
          refine lv_iload_n hx hb dX6_keptImages_18 rfl (lv_at hl 1 rfl) ?_
          refine lv_iconst (v := nI 1) hx hb dX6_keptImages_19 (by decide) ?_
          refine lv_iload_n hx hb dX6_keptImages_20 rfl (lv_at hl 2 rfl) ?_
          refine lv_ishl hx hb dX6_keptImages_21 ?_
          refine lv_topi (fun x3 ex3 => ?_)
          refine lv_ior hx hb dX6_keptImages_22 ?_
          refine lv_topi (fun x4 ex4 => ?_)
          refine r_eqi (y := nI (a + 2 ^ j)) (by rw [ex4, ex3]; exact or_sb (by rw [ha]; exact kp_lt σ j) (by omega)) ?_
          refine lv_istore_n (lv' := [(1, .int (nI (a + 2 ^ j))), (0, .ref (ad 100)), (2, .int (nI j))]) hx hb dX6_keptImages_23 rfl hl (by decide) rfl (fun ls hl => ?_)
          refine lv_iinc (v := nI (j + 1)) (lv' := [(2, .int (nI (j + 1))), (1, .int (nI (a + 2 ^ j))), (0, .ref (ad 100))]) hx hb dX6_keptImages_24 hl (k := 2) rfl (nI_1 _) (by decide) rfl (fun ls hl => ?_)
          refine lv_goto (tgt := 4) hx hb dX6_keptImages_27 (by decide) ?_
          exact ih4  (j + 1) (a + 2 ^ j) _ _ _ (by omega) (by omega) (by simp only [kp]; rw [if_neg (by rw [i1]; decide), ha]) hP hS (lv_sub hl [2, 1, 0] rfl)
        · refine r_ald13n C hP (by assumption) (by assumption) (by omega) dX6_keptImages_14 ?_
          refine lv_ifnullN hx hb dX6_keptImages_15 (tgt := 24) (by decide) ?_
          refine lv_iinc (v := nI (j + 1)) (lv' := [(2, .int (nI (j + 1))), (0, .ref (ad 100)), (1, .int (nI a))]) hx hb dX6_keptImages_24 hl (k := 2) rfl (nI_1 _) (by decide) rfl (fun ls hl => ?_)
          refine lv_goto (tgt := 4) hx hb dX6_keptImages_27 (by decide) ?_
          exact ih4  (j + 1) a _ _ _ (by omega) (by omega) (by simp only [kp]; rw [if_pos (show σ 36 j = 0 from i1)]; exact ha) hP hS (lv_sub hl [1, 2, 0] rfl)
  exact hL4_1 (2 + 1) 0 0 _ _ _ (by omega) (by omega) (rfl) hP hS (lv_sub hl [2, 1, 0] rfl)
set_option maxHeartbeats 4000000 in
set_option maxRecDepth 100000 in
theorem c_X6_count {l : Launch} {E : En} {K : Nat → Nat} {L : Nat → Nat → Bool} {ad : Nat → Nat} {I : Nat → Nat → Int32} {σ : Mem} (w : Int32) (hO : IsO K L) (hC : CR K L I σ) (hw : WF σ) : MI l E K L ad I yX6_count cX6_count 2 (some .int) 5 [.ref (ad 100), .int w] (fun rv RJ => rv = sCount σ w ∧ CR K L RJ σ ∧ ∀ a, a < 100 → RJ a = I a) := by
  have hO0 := hO
  obtain ⟨o0, o1, o2, o3, o4, o5, hp, hk, hQ, hX, o150⟩ := hO
  have hp0 := hp
  obtain ⟨pp0, ⟨pp1, pp2, pp3, pp4⟩, pp5, hLb, pp6, pp7, pp8, hTT⟩ := hp
  have kk0 := hk
  obtain ⟨kk, hA⟩ := hk
  have a0 := (hA 0 (by decide)).1
  have c0 : K 111 = 108 := (hA 0 (by decide)).2
  have a1 := (hA 1 (by decide)).1
  have c1 : K 112 = 108 := (hA 1 (by decide)).2
  have a2 := (hA 2 (by decide)).1
  have c2 : K 113 = 108 := (hA 2 (by decide)).2
  have a3 := (hA 3 (by decide)).1
  have c3 : K 114 = 108 := (hA 3 (by decide)).2
  have a4 := (hA 4 (by decide)).1
  have c4 : K 115 = 108 := (hA 4 (by decide)).2
  have a5 := (hA 5 (by decide)).1
  have c5 : K 116 = 108 := (hA 5 (by decide)).2
  have a6 := (hA 6 (by decide)).1
  have c6 : K 117 = 108 := (hA 6 (by decide)).2
  have a7 := (hA 7 (by decide)).1
  have c7 : K 118 = 108 := (hA 7 (by decide)).2
  have a8 := (hA 8 (by decide)).1
  have c8 : K 119 = 108 := (hA 8 (by decide)).2
  have a9 := (hA 9 (by decide)).1
  have c9 : K 120 = 108 := (hA 9 (by decide)).2
  have hQ0 := hQ
  obtain ⟨q0, q1, q2, q3, q4, q5, q6⟩ := hQ
  have hX0 := hX
  obtain ⟨x0, x1, x2, x3, x4, hXL, hXK⟩ := hX
  have hn8 := hw.2.1
  have hR := hC.1
  have h200 : I 200 0 = nI (mn σ) := hR.1.trans hw.1
  have t0 : (nI 0).toInt = 0 := rfl
  have t1 : (nI 1).toInt = 1 := rfl
  have t2 : (nI 2).toInt = 2 := rfl
  have t4 : (nI 4).toInt = 4 := rfl
  have t6 : (nI 6).toInt = 6 := rfl
  have t8 : (nI 8).toInt = 8 := rfl
  have t10 : (nI 10).toInt = 10 := rfl
  have t255 : (nI 255).toInt = 255 := rfl
  have t65535 : (nI 65535).toInt = 65535 := rfl
  refine MI.of (by decide) (Nat.le_of_ble_eq_true rfl) ?_
  intro p ee s m args below meth c ls Qf C hret hP hl
  have C : Cx E p s m args c cX6_count RX6 2 := C
  have hx := C.1
  have hb := C.2.1
  have hS : va_S (AG E) s.heap s.heap [] := va_S.rf
  have hl : lv_has ls 2 [(0, .ref (ad 100)), (1, .int w)] := hl
  refine lv_iload_n hx hb dX6_count_0 rfl (lv_at hl 1 rfl) ?_
  by_cases sw1 : (w : Int32).toInt = 0
  · refine sw_in C dX6_count_1 sw1 (by decide) (by decide) (off := 55) (by decide) (tgt := 56) (by decide) ?_
    refine lv_aload_n hx hb dX6_count_56 rfl (lv_at hl 0 rfl) ?_
    refine f_X6_12 (q := 200) C hP (by assumption) (by assumption) rfl dX6_count_57 ?_
    refine f_X6_45 C hP (by first | assumption | exact hKa _ (by omega)) dX6_count_60 ?_
    refine r_eqi (y := (nI (mn σ))) (h200) ?_
    exact hret _ _ _ _ _ _ dX6_count_63 hP hS (⟨by unfold sCount; rw [if_pos (by omega)]; exact hw.1.symm, hC, fun _ _ => rfl⟩)
  · by_cases sw2 : (w : Int32).toInt = 1
    · refine sw_in C dX6_count_1 sw2 (by decide) (by decide) (off := 63) (by decide) (tgt := 64) (by decide) ?_
      refine lv_aload_n hx hb dX6_count_64 rfl (lv_at hl 0 rfl) ?_
      refine f_X6_12 (q := 200) C hP (by assumption) (by assumption) rfl dX6_count_65 ?_
      refine f_X6_112 (q := 203) C hP (by assumption) (by assumption) rfl dX6_count_68 ?_
      refine lv_iconst (v := nI 0) hx hb dX6_count_71 (by decide) ?_
      refine r_iald (n := 4) C hP (by assumption) (by omega) (by decide) dX6_count_72 ?_
      exact hret _ _ _ _ _ _ dX6_count_73 hP hS (⟨by unfold sCount; rw [if_neg (by omega), if_pos (by omega), show (w.toInt - 1).toNat = 0 by omega]; exact hR.2.2.2.2.1 0 (by decide), hC, fun _ _ => rfl⟩)
    · by_cases sw3 : (w : Int32).toInt = 2
      · refine sw_in C dX6_count_1 sw3 (by decide) (by decide) (off := 73) (by decide) (tgt := 74) (by decide) ?_
        refine lv_aload_n hx hb dX6_count_74 rfl (lv_at hl 0 rfl) ?_
        refine f_X6_12 (q := 200) C hP (by assumption) (by assumption) rfl dX6_count_75 ?_
        refine f_X6_112 (q := 203) C hP (by assumption) (by assumption) rfl dX6_count_78 ?_
        refine lv_iconst (v := nI 1) hx hb dX6_count_81 (by decide) ?_
        refine r_iald (n := 4) C hP (by assumption) (by omega) (by decide) dX6_count_82 ?_
        exact hret _ _ _ _ _ _ dX6_count_83 hP hS (⟨by unfold sCount; rw [if_neg (by omega), if_pos (by omega), show (w.toInt - 1).toNat = 1 by omega]; exact hR.2.2.2.2.1 1 (by decide), hC, fun _ _ => rfl⟩)
      · by_cases sw4 : (w : Int32).toInt = 3
        · refine sw_in C dX6_count_1 sw4 (by decide) (by decide) (off := 83) (by decide) (tgt := 84) (by decide) ?_
          refine lv_aload_n hx hb dX6_count_84 rfl (lv_at hl 0 rfl) ?_
          refine f_X6_12 (q := 200) C hP (by assumption) (by assumption) rfl dX6_count_85 ?_
          refine f_X6_112 (q := 203) C hP (by assumption) (by assumption) rfl dX6_count_88 ?_
          refine lv_iconst (v := nI 2) hx hb dX6_count_91 (by decide) ?_
          refine r_iald (n := 4) C hP (by assumption) (by omega) (by decide) dX6_count_92 ?_
          exact hret _ _ _ _ _ _ dX6_count_93 hP hS (⟨by unfold sCount; rw [if_neg (by omega), if_pos (by omega), show (w.toInt - 1).toNat = 2 by omega]; exact hR.2.2.2.2.1 2 (by decide), hC, fun _ _ => rfl⟩)
        · by_cases sw5 : (w : Int32).toInt = 4
          · refine sw_in C dX6_count_1 sw5 (by decide) (by decide) (off := 93) (by decide) (tgt := 94) (by decide) ?_
            refine lv_aload_n hx hb dX6_count_94 rfl (lv_at hl 0 rfl) ?_
            refine f_X6_12 (q := 200) C hP (by assumption) (by assumption) rfl dX6_count_95 ?_
            refine f_X6_112 (q := 203) C hP (by assumption) (by assumption) rfl dX6_count_98 ?_
            refine lv_iconst (v := nI 3) hx hb dX6_count_101 (by decide) ?_
            refine r_iald (n := 4) C hP (by assumption) (by omega) (by decide) dX6_count_102 ?_
            exact hret _ _ _ _ _ _ dX6_count_103 hP hS (⟨by unfold sCount; rw [if_neg (by omega), if_pos (by omega), show (w.toInt - 1).toNat = 3 by omega]; exact hR.2.2.2.2.1 3 (by decide), hC, fun _ _ => rfl⟩)
          · by_cases sw6 : (w : Int32).toInt = 5
            · refine sw_in C dX6_count_1 sw6 (by decide) (by decide) (off := 103) (by decide) (tgt := 104) (by decide) ?_
              refine lv_aload_n hx hb dX6_count_104 rfl (lv_at hl 0 rfl) ?_
              refine f_X6_180 C hP (by first | assumption | exact hKa _ (by omega)) dX6_count_105 ?_
              exact hret _ _ _ _ _ _ dX6_count_108 hP hS (⟨by unfold sCount; rw [if_neg (by omega), if_neg (by omega), if_pos (by omega)]; exact hC.2.2.1.1, hC, fun _ _ => rfl⟩)
            · by_cases sw7 : (w : Int32).toInt = 6
              · refine sw_in C dX6_count_1 sw7 (by decide) (by decide) (off := 108) (by decide) (tgt := 109) (by decide) ?_
                refine lv_aload_n hx hb dX6_count_109 rfl (lv_at hl 0 rfl) ?_
                refine f_X6_192 C hP (by first | assumption | exact hKa _ (by omega)) dX6_count_110 ?_
                exact hret _ _ _ _ _ _ dX6_count_113 hP hS (⟨by unfold sCount; rw [if_neg (by omega), if_neg (by omega), if_neg (by omega), if_pos (by omega)]; exact hC.2.2.1.2.1, hC, fun _ _ => rfl⟩)
              · by_cases sw8 : (w : Int32).toInt = 7
                · refine sw_in C dX6_count_1 sw8 (by decide) (by decide) (off := 113) (by decide) (tgt := 114) (by decide) ?_
                  refine lv_aload_n hx hb dX6_count_114 rfl (lv_at hl 0 rfl) ?_
                  refine f_X6_183 C hP (by first | assumption | exact hKa _ (by omega)) dX6_count_115 ?_
                  exact hret _ _ _ _ _ _ dX6_count_118 hP hS (⟨by unfold sCount; rw [if_neg (by omega), if_neg (by omega), if_neg (by omega), if_neg (by omega), if_pos (by omega)]; exact hC.2.2.1.2.2, hC, fun _ _ => rfl⟩)
                · by_cases sw9 : (w : Int32).toInt = 8
                  · refine sw_in C dX6_count_1 sw9 (by decide) (by decide) (off := 118) (by decide) (tgt := 119) (by decide) ?_
                    refine lv_aload_n hx hb dX6_count_119 rfl (lv_at hl 0 rfl) ?_
                    refine f_X6_19 (q := 110) C hP (by assumption) (by assumption) rfl dX6_count_120 ?_
                    refine lv_aload_n hx hb dX6_count_123 rfl (lv_at hl 0 rfl) ?_
                    refine f_X6_12 (q := 200) C hP (by assumption) (by assumption) rfl dX6_count_124 ?_
                    refine k_X6_118 C hP hS (by assumption) (c_X2_arrange (σ := σ) 110 200 (mn σ) kk0 hp0 hR hw rfl (by omega)) ⟨Nat.le_of_ble_eq_true rfl, Nat.le_of_ble_eq_true rfl⟩ ⟨Nat.zero_le _, Nat.zero_le _⟩ hl.1 (Nat.le_of_ble_eq_true rfl) dX6_count_127 (fun I11 H locs hv12 hP hS => ?_)
                    have eI11 := hv12
                    have hCJ : CR K L I11 σ := CR_same hw hC ⟨by rw [eI11.1 132 (by omega)]; exact hC.2.1.1, by rw [eI11.1 133 (by omega)]; exact hC.2.1.2⟩ (fun a ha => eI11.1 a (by omega))
                    have hlo100 : ∀ a, a < 100 → I11 a = I a := fun a ha => eI11.1 a (by omega)
                    have hARR := eI11.2
                    refine lv_aload_n hx hb dX6_count_130 rfl (lv_at hl 0 rfl) ?_
                    refine f_X6_19 (q := 110) C hP (by assumption) (by assumption) rfl dX6_count_131 ?_
                    rcases hARR.2 with ⟨g1, pl, g2, g3⟩ | ⟨g1, g2⟩
                    · refine f_X6_125 C hP (by first | assumption | exact hKa _ (by omega)) dX6_count_134 ?_
                      refine r_eqi (y := 1) (g1) ?_
                      refine z_eq1 C dX6_count_137 (tgt := 144) (by decide) ?_
                      refine lv_iconst (v := nI 1) hx hb dX6_count_140 (by decide) ?_
                      refine lv_goto (tgt := 145) hx hb dX6_count_141 (by decide) ?_
                      exact hret _ _ _ _ _ _ dX6_count_145 hP hS (⟨by unfold sCount; rw [if_neg (by omega), if_neg (by omega), if_neg (by omega), if_neg (by omega), if_neg (by omega), if_pos (by omega), g2], hCJ, hlo100⟩)
                    · refine f_X6_125 C hP (by first | assumption | exact hKa _ (by omega)) dX6_count_134 ?_
                      refine r_eqi (y := 0) (g1) ?_
                      refine z_eq0 C dX6_count_137 (tgt := 144) (by decide) ?_
                      refine lv_iconst (v := nI 0) hx hb dX6_count_144 (by decide) ?_
                      exact hret _ _ _ _ _ _ dX6_count_145 hP hS (⟨by unfold sCount; rw [if_neg (by omega), if_neg (by omega), if_neg (by omega), if_neg (by omega), if_neg (by omega), if_pos (by omega), g2], hCJ, hlo100⟩)
                  · by_cases sw13 : (w : Int32).toInt = 9
                    · refine sw_in C dX6_count_1 sw13 (by decide) (by decide) (off := 145) (by decide) (tgt := 146) (by decide) ?_
                      refine lv_aload_n hx hb dX6_count_146 rfl (lv_at hl 0 rfl) ?_
                      refine k_X6_210 C hP hS (by assumption) (c_X6_keptImages (σ := σ) hO0 hC hw) ⟨Nat.le_of_ble_eq_true rfl, Nat.le_of_ble_eq_true rfl⟩ ⟨Nat.zero_le _, Nat.zero_le _⟩ hl.1 (Nat.le_of_ble_eq_true rfl) dX6_count_147 (fun v14 I15 H locs hv16 hP hS => ?_)
                      obtain ⟨eI15, ev14⟩ := hv16
                      rw [eI15] at hP
                      clear eI15
                      exact hret _ _ _ _ _ _ dX6_count_150 hP hS (⟨by unfold sCount; rw [if_neg (by omega), if_neg (by omega), if_neg (by omega), if_neg (by omega), if_neg (by omega), if_neg (by omega), if_pos (by omega)]; exact ev14.trans (congrArg nI (by simp [kp])), hC, fun _ _ => rfl⟩)
                    · refine lv_tableOut hx hb dX6_count_1 (by omega) (tgt := 151) (by decide) ?_
                      refine lv_iload_n hx hb dX6_count_151 rfl (lv_at hl 1 rfl) ?_
                      refine lv_bipush (v := nI 10) hx hb dX6_count_152 (by decide) ?_
                      refine b_lt C dX6_count_154 (tgt := 178) (by decide) (fun h17 => ?_) (fun h17 => ?_)
                      · rw [nI_toInt (by omega)] at h17
                        refine lv_bipush (v := (-2)) hx hb dX6_count_178 (by decide) ?_
                        exact hret _ _ _ _ _ _ dX6_count_180 hP hS (⟨by unfold sCount; rw [if_neg (by omega), if_neg (by omega), if_neg (by omega), if_neg (by omega), if_neg (by omega), if_neg (by omega), if_neg (by omega), if_neg (by omega)], hC, fun _ _ => rfl⟩)
                      · rw [nI_toInt (by omega)] at h17
                        refine lv_iload_n hx hb dX6_count_157 rfl (lv_at hl 1 rfl) ?_
                        refine lv_bipush (v := nI 16) hx hb dX6_count_158 (by decide) ?_
                        refine b_ge C dX6_count_160 (tgt := 178) (by decide) (fun h18 => ?_) (fun h18 => ?_)
                        · rw [nI_toInt (by omega)] at h18
                          refine lv_bipush (v := (-2)) hx hb dX6_count_178 (by decide) ?_
                          exact hret _ _ _ _ _ _ dX6_count_180 hP hS (⟨by unfold sCount; rw [if_neg (by omega), if_neg (by omega), if_neg (by omega), if_neg (by omega), if_neg (by omega), if_neg (by omega), if_neg (by omega), if_neg (by omega)], hC, fun _ _ => rfl⟩)
                        · rw [nI_toInt (by omega)] at h18
                          obtain ⟨i, hi, ew⟩ : ∃ i : Nat, i < 6 ∧ w = nI (i + 10) := ⟨(w.toInt - 10).toNat, by omega, i32_eq (by omega) (by omega)⟩
                          have hwi : w.toInt = (i : Int) + 10 := by rw [ew, nI_toInt (by omega)]; omega
                          rw [ew] at hl
                          refine lv_aload_n hx hb dX6_count_163 rfl (lv_at hl 0 rfl) ?_
                          refine f_X6_12 (q := 200) C hP (by assumption) (by assumption) rfl dX6_count_164 ?_
                          refine f_X6_170 (q := 204) C hP (by assumption) (by assumption) rfl dX6_count_167 ?_
                          refine lv_iload_n hx hb dX6_count_170 rfl (lv_at hl 1 rfl) ?_
                          refine lv_bipush (v := nI 10) hx hb dX6_count_171 (by decide) ?_
                          refine r_subN C (by omega) dX6_count_173 ?_
                          refine r_eqi (y := nI i) (by rw [Nat.add_sub_cancel]) ?_
                          refine r_iald (n := 6) C hP (by assumption) (by omega) (by decide) dX6_count_174 ?_
                          refine lv_goto (tgt := 180) hx hb dX6_count_175 (by decide) ?_
                          exact hret _ _ _ _ _ _ dX6_count_180 hP hS (⟨by unfold sCount; rw [if_neg (by omega), if_neg (by omega), if_neg (by omega), if_neg (by omega), if_neg (by omega), if_neg (by omega), if_neg (by omega), if_pos (by omega), show (w.toInt - 10).toNat = i by omega]; exact hR.2.2.2.2.2 i hi, hC, fun _ _ => rfl⟩)
