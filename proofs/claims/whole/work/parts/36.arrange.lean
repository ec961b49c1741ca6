/-! the packing: arrange -/
set_option maxHeartbeats 4000000 in
set_option maxRecDepth 100000 in
theorem c_X2_arrange {l : Launch} {E : En} {K : Nat → Nat} {L : Nat → Nat → Bool} {ad : Nat → Nat} {I : Nat → Nat → Int32} {σ : Mem} (k b n : Nat) (hk : IsK K L k) (hp : IsP K L b) (hR : PR b I σ) (hw : WF σ) (hn : n = mn σ) (hkb : k + 11 ≤ b ∨ b + 72 ≤ k) : MV l E K L ad I yX2_arrange cX2_arrange 3 4 [.ref (ad k), .ref (ad b)] (fun J => (∀ a, a < k ∨ k + 10 < a → J a = I a) ∧ ARR J σ k) := by
  have kk0 := hk
  obtain ⟨kk, hA⟩ := hk
  have a0 := (hA 0 (by decide)).1
  have c0 : K (k + 1) = 108 := (hA 0 (by decide)).2
  have a1 := (hA 1 (by decide)).1
  have c1 : K (k + 2) = 108 := (hA 1 (by decide)).2
  have a2 := (hA 2 (by decide)).1
  have c2 : K (k + 3) = 108 := (hA 2 (by decide)).2
  have a3 := (hA 3 (by decide)).1
  have c3 : K (k + 4) = 108 := (hA 3 (by decide)).2
  have a4 := (hA 4 (by decide)).1
  have c4 : K (k + 5) = 108 := (hA 4 (by decide)).2
  have a5 := (hA 5 (by decide)).1
  have c5 : K (k + 6) = 108 := (hA 5 (by decide)).2
  have a6 := (hA 6 (by decide)).1
  have c6 : K (k + 7) = 108 := (hA 6 (by decide)).2
  have a7 := (hA 7 (by decide)).1
  have c7 : K (k + 8) = 108 := (hA 7 (by decide)).2
  have a8 := (hA 8 (by decide)).1
  have c8 : K (k + 9) = 108 := (hA 8 (by decide)).2
  have a9 := (hA 9 (by decide)).1
  have c9 : K (k + 10) = 108 := (hA 9 (by decide)).2
  have hp0 := hp
  obtain ⟨kb, ⟨lb1, lb2, lb3, lb4⟩, kb1, hLb, kb2, kb3, kb4, hTb⟩ := hp
  have hn8 := hw.2.1
  have hen : ∀ t, t < mn σ → en σ t ≤ 4 := fun t ht => (hw.2.2.1 t ht).2.1
  have he : I b 0 = nI n := by rw [hR.1, hn]; exact hw.1
  refine MV.of (by decide) (Nat.le_of_ble_eq_true rfl) ?_
  intro p ee s m args below meth c ls Qf C hret hP hl
  have C : Cx E p s m args c cX2_arrange RX2 3 := C
  have hx := C.1
  have hb := C.2.1
  have hS : va_S (AG E) s.heap s.heap [] := va_S.rf
  have hl : lv_has ls 3 [(0, .ref (ad k)), (1, .ref (ad b))] := hl
  refine lv_iconst (v := nI 0) hx hb dX2_arrange_0 (by decide) ?_
  refine lv_istore_n (lv' := [(2, .int (nI 0)), (0, .ref (ad k)), (1, .ref (ad b))]) hx hb dX2_arrange_1 rfl hl (by decide) rfl (fun ls hl => ?_)
  have hL2_1 : ∀ (d : Nat) (j : Nat) (J : Mem) (H : Heap) (locs : List Loc) (ls : Array Slot), n < j + d → (j ≤ n) → ((∀ a, a < k ∨ k + 10 < a → J a = I a) ∧ PKI J σ k j) → Hp E K L ad J H → va_S (AG E) s.heap H locs → lv_has ls 3 [(0, .ref (ad k)), (1, .ref (ad b)), (2, .int (nI j))] → W p l ee (rmk 4) s m args below meth c H locs 0 0 Qf (F0 m 2 ls []) := by
    intro d
    induction d with
    | zero => intro j J H locs ls hd hj hc _ _ _; exact absurd hd (by omega)
    | succ d ih =>
      intro j J H locs ls hd hj hc hP hS hl
      have hJ0 : J b 0 = nI n := by rw [hc.1 b (by omega)]; exact he
      have hRJ : PR b J σ := PR_cong hn8 hen (fun a h1 h2 => hc.1 a (by omega)) hR
      refine lv_iload_n hx hb dX2_arrange_2 rfl (lv_at hl 2 rfl) ?_
      refine lv_aload_n hx hb dX2_arrange_3 rfl (lv_at hl 1 rfl) ?_
      refine f_X2_42 C hP (by first | assumption | exact hKa _ (by omega)) dX2_arrange_4 ?_
      refine r_eqi (y := (nI n)) (hJ0) ?_
      refine b_geN C (by omega) (by omega) dX2_arrange_7 (tgt := 27) (by decide) (fun h2 => ?_) (fun h2 => ?_)
      · refine lv_aload_n hx hb dX2_arrange_27 rfl (lv_at hl 0 rfl) ?_
        refine f_X2_36 (q := k + 9) C hP (by assumption) (by assumption) rfl dX2_arrange_28 ?_
        refine lv_iconst (v := nI 0) hx hb dX2_arrange_31 (by decide) ?_
        refine k_X2_56 C hP hS (c_J7_fill_53178 (k + 9) 8 (nI 0) (by assumption) (by decide)) ⟨Nat.le_of_ble_eq_true rfl, Nat.le_of_ble_eq_true rfl⟩ ⟨Nat.zero_le _, Nat.zero_le _⟩ hl.1 (Nat.le_of_ble_eq_true rfl) dX2_arrange_32 (fun I4 H locs hv5 hP hS => ?_)
        have eI4 := hv5
        refine lv_aload_n hx hb dX2_arrange_35 rfl (lv_at hl 0 rfl) ?_
        refine f_X2_39 (q := k + 10) C hP (by assumption) (by assumption) rfl dX2_arrange_36 ?_
        refine lv_iconst (v := nI 0) hx hb dX2_arrange_39 (by decide) ?_
        refine k_X2_56 C hP hS (c_J7_fill_53178 (k + 10) 8 (nI 0) (by assumption) (by decide)) ⟨Nat.le_of_ble_eq_true rfl, Nat.le_of_ble_eq_true rfl⟩ ⟨Nat.zero_le _, Nat.zero_le _⟩ hl.1 (Nat.le_of_ble_eq_true rfl) dX2_arrange_40 (fun I7 H locs hv8 hP hS => ?_)
        have eI7 := hv8
        refine lv_aload_n hx hb dX2_arrange_43 rfl (lv_at hl 0 rfl) ?_
        refine lv_iconst (v := nI 1) hx hb dX2_arrange_44 (by decide) ?_
        refine p_X2_62 C hP hS (by assumption) (by first | assumption | decide) dX2_arrange_45 (fun H locs hP hS => ?_)
        obtain ⟨I9, eI9⟩ : ∃ Z : Nat → Nat → Int32, Z = up2 I7 k 10 (nI 1) := ⟨_, rfl⟩
        rw [← eI9] at hP
        refine lv_iconst (v := nI 0) hx hb dX2_arrange_48 (by decide) ?_
        refine lv_istore_n (lv' := [(2, .int (nI 0)), (0, .ref (ad k)), (1, .ref (ad b))]) hx hb dX2_arrange_49 rfl hl (by decide) rfl (fun ls hl => ?_)
        have hst : (∀ a, a < k ∨ k + 10 < a → I9 a = I a) ∧ PKI I9 σ k n ∧ ((I9 k 10 = 1 ∧ ∃ pl, pkS σ 0 = some pl ∧ PLI I9 σ k 0 pl) ∨ (I9 k 10 = 0 ∧ pkS σ (mn σ) = none)) := by
          have hj : j = n := by omega
          rw [hj] at hc
          rw [eI9]
          refine ⟨fun a ha => by rw [up2_r (by omega), eI7.1 a (by omega), eI4.1 a (by omega)]; exact hc.1 a ha, PKI_cong (fun a h1 h2 => by rw [up2_r (by omega), eI7.1 a (by omega), eI4.1 a (by omega)]) hc.2, Or.inl ⟨by rw [up2_s]; rfl, _, rfl, PLI_0 (fun z hz => ?_) (fun z hz => ?_)⟩⟩
          · rw [up2_r (by omega), eI7.1 _ (by omega)]; exact eI4.2 z hz
          · rw [up2_r (by omega)]; exact eI7.2 z hz
        have hL50_10 : ∀ (d : Nat) (j : Nat) (J : Mem) (H : Heap) (locs : List Loc) (ls : Array Slot), n < j + d → (j ≤ n) → ((∀ a, a < k ∨ k + 10 < a → J a = I a) ∧ PKI J σ k n ∧ ((J k 10 = 1 ∧ ∃ pl, pkS σ j = some pl ∧ PLI J σ k j pl) ∨ (J k 10 = 0 ∧ pkS σ (mn σ) = none))) → Hp E K L ad J H → va_S (AG E) s.heap H locs → lv_has ls 3 [(0, .ref (ad k)), (1, .ref (ad b)), (2, .int (nI j))] → W p l ee (rmk 4) s m args below meth c H locs 0 0 Qf (F0 m 50 ls []) := by
          intro d
          induction d with
          | zero => intro j J H locs ls hd hj hc _ _ _; exact absurd hd (by omega)
          | succ d ih =>
            intro j J H locs ls hd hj hc hP hS hl
            have hJ0 : J b 0 = nI n := by rw [hc.1 b (by omega)]; exact he
            obtain ⟨hc1, hc2, hc3⟩ := hc
            refine lv_iload_n hx hb dX2_arrange_50 rfl (lv_at hl 2 rfl) ?_
            refine lv_aload_n hx hb dX2_arrange_51 rfl (lv_at hl 1 rfl) ?_
            refine f_X2_42 C hP (by first | assumption | exact hKa _ (by omega)) dX2_arrange_52 ?_
            refine r_eqi (y := (nI n)) (hJ0) ?_
            refine b_geN C (by omega) (by omega) dX2_arrange_55 (tgt := 84) (by decide) (fun h11 => ?_) (fun h11 => ?_)
            · exact hret _ _ _ _ _ dX2_arrange_84 hP hS (by rw [show j = n by omega, hn] at hc3; rw [hn] at hc2; exact ⟨hc1, hc2, hc3⟩)
            · rcases hc3 with ⟨g1, pl, g2, g3⟩ | ⟨g1, g2⟩
              · refine lv_aload_n hx hb dX2_arrange_58 rfl (lv_at hl 0 rfl) ?_
                refine f_X2_62 C hP (by first | assumption | exact hKa _ (by omega)) dX2_arrange_59 ?_
                refine r_eqi (y := 1) (g1) ?_
                refine z_eq1 C dX2_arrange_62 (tgt := 84) (by decide) ?_
                refine lv_aload_n hx hb dX2_arrange_65 rfl (lv_at hl 0 rfl) ?_
                refine lv_aload_n hx hb dX2_arrange_66 rfl (lv_at hl 0 rfl) ?_
                refine lv_iload_n hx hb dX2_arrange_67 rfl (lv_at hl 2 rfl) ?_
                refine lv_aload_n hx hb dX2_arrange_68 rfl (lv_at hl 1 rfl) ?_
                refine f_X2_66 (q := b + 3) C hP (by assumption) (by assumption) rfl dX2_arrange_69 ?_
                refine k_X2_69 C hP hS (by assumption) (c_X2_place (pl := pl) k j (b + 3) kk0 kb3 (by omega) (hc2 j (by omega)) g3 hw (by omega) (fun i hi => by rw [hc1 _ (by omega)]; exact hR.2.2.2.2.1 i hi)) ⟨Nat.le_of_ble_eq_true rfl, Nat.le_of_ble_eq_true rfl⟩ ⟨Nat.zero_le _, Nat.zero_le _⟩ hl.1 (Nat.le_of_ble_eq_true rfl) dX2_arrange_72 (fun v12 I13 H locs hv14 hP hS => ?_)
                rcases hv14 with ⟨hv1, z, hz, hz8, eZ⟩ | ⟨hv1, eZ, hz⟩
                · subst hv1
                  refine p_X2_62 C hP hS (by assumption) (by first | assumption | decide) dX2_arrange_75 (fun H locs hP hS => ?_)
                  obtain ⟨I15, eI15⟩ : ∃ Z : Nat → Nat → Int32, Z = up2 I13 k 10 1 := ⟨_, rfl⟩
                  rw [← eI15] at hP
                  refine lv_iinc (v := nI (j + 1)) (lv' := [(2, .int (nI (j + 1))), (0, .ref (ad k)), (1, .ref (ad b))]) hx hb dX2_arrange_78 hl (k := 2) rfl (nI_1 _) (by decide) rfl (fun ls hl => ?_)
                  refine lv_goto (tgt := 50) hx hb dX2_arrange_81 (by decide) ?_
                  exact ih (j + 1) I15 _ _ _ (by omega) (by omega) (by rw [eI15, eZ]; refine ⟨fun a ha => by rw [up2_r (by omega), up2_r (by omega), up2_r (by omega), up2_r (by omega)]; exact hc1 a ha, PKI_cong (fun a h1 h2 => by rw [up2_r (by omega), up2_r (by omega), up2_r (by omega), up2_r (by omega)]) hc2, Or.inl ⟨up2_s _ _ _ _, _, pkS_so g2 hz, PLI_cong (fun a h1 h2 => by rw [up2_r (by omega)]) (PLI_s g3 (by omega) hz8)⟩⟩) hP hS (lv_sub hl [1, 2, 0] rfl)
                · subst hv1
                  refine p_X2_62 C hP hS (by assumption) (by first | assumption | decide) dX2_arrange_75 (fun H locs hP hS => ?_)
                  obtain ⟨I16, eI16⟩ : ∃ Z : Nat → Nat → Int32, Z = up2 I13 k 10 0 := ⟨_, rfl⟩
                  rw [← eI16] at hP
                  refine lv_iinc (v := nI (j + 1)) (lv' := [(2, .int (nI (j + 1))), (0, .ref (ad k)), (1, .ref (ad b))]) hx hb dX2_arrange_78 hl (k := 2) rfl (nI_1 _) (by decide) rfl (fun ls hl => ?_)
                  refine lv_goto (tgt := 50) hx hb dX2_arrange_81 (by decide) ?_
                  exact ih (j + 1) I16 _ _ _ (by omega) (by omega) (by rw [eI16, eZ]; refine ⟨fun a ha => by rw [up2_r (by omega)]; exact hc1 a ha, PKI_cong (fun a h1 h2 => by rw [up2_r (by omega)]) hc2, Or.inr ⟨up2_s _ _ _ _, pkS_none_le (pkS_no g2 hz) (by omega)⟩⟩) hP hS (lv_sub hl [1, 2, 0] rfl)
              · refine lv_aload_n hx hb dX2_arrange_58 rfl (lv_at hl 0 rfl) ?_
                refine f_X2_62 C hP (by first | assumption | exact hKa _ (by omega)) dX2_arrange_59 ?_
                refine r_eqi (y := 0) (g1) ?_
                refine z_eq0 C dX2_arrange_62 (tgt := 84) (by decide) ?_
                exact hret _ _ _ _ _ dX2_arrange_84 hP hS (⟨hc1, by rw [hn] at hc2; exact hc2, Or.inr ⟨g1, g2⟩⟩)
        exact hL50_10 (n + 1) 0 I9 _ _ _ (by omega) (by omega) (hst) hP hS (lv_sub hl [1, 2, 0] rfl)
      · refine lv_aload_n hx hb dX2_arrange_10 rfl (lv_at hl 0 rfl) ?_
        refine lv_iload_n hx hb dX2_arrange_11 rfl (lv_at hl 2 rfl) ?_
        refine lv_aload_n hx hb dX2_arrange_12 rfl (lv_at hl 1 rfl) ?_
        refine f_X2_48 (q := b + 1) C hP (by assumption) (by assumption) rfl dX2_arrange_13 ?_
        refine lv_iload_n hx hb dX2_arrange_16 rfl (lv_at hl 2 rfl) ?_
        refine r_ald12 (q := tr J b j) C hP (by assumption) (by first | assumption | exact hLb _ (by omega)) (by omega) rfl dX2_arrange_17 ?_
        have hTj := tr_T hp0 hRJ.2.1 (show j < 8 by omega)
        have hlo := tr_lo J b j
        have hhi := tr_hi hRJ.2.1 (show j < 8 by omega)
        refine k_X2_52 C hP hS (by assumption) (c_X2_look k j (tr J b j) kk0 hTj (by omega) hc.2 (hRJ.2.2.1 j (by omega)) (hw.2.2.1 j (by omega)) (by omega)) ⟨Nat.le_of_ble_eq_true rfl, Nat.le_of_ble_eq_true rfl⟩ ⟨Nat.zero_le _, Nat.zero_le _⟩ hl.1 (Nat.le_of_ble_eq_true rfl) dX2_arrange_18 (fun I18 H locs hv19 hP hS => ?_)
        have eI18 := hv19
        refine lv_iinc (v := nI (j + 1)) (lv' := [(2, .int (nI (j + 1))), (0, .ref (ad k)), (1, .ref (ad b))]) hx hb dX2_arrange_21 hl (k := 2) rfl (nI_1 _) (by decide) rfl (fun ls hl => ?_)
        refine lv_goto (tgt := 2) hx hb dX2_arrange_24 (by decide) ?_
        exact ih (j + 1) I18 _ _ _ (by omega) (by omega) (⟨fun a ha => by rw [eI18.1 a (by omega)]; exact hc.1 a ha, eI18.2⟩) hP hS (lv_sub hl [1, 2, 0] rfl)
  exact hL2_1 (n + 1) 0 I _ _ _ (by omega) (by omega) (⟨fun _ _ => rfl, fun e he => absurd he (Nat.not_lt_zero e)⟩) hP hS (lv_sub hl [1, 2, 0] rfl)
set_option maxHeartbeats 4000000 in
set_option maxRecDepth 100000 in
theorem c_X2_stagesWithTables {l : Launch} {E : En} {K : Nat → Nat} {L : Nat → Nat → Bool} {ad : Nat → Nat} {I : Nat → Nat → Int32} (k : Nat) (hk : IsK K L k) : MI l E K L ad I yX2_stagesWithTables cX2_stagesWithTables 3 (some .int) 0 [.ref (ad k)] (fun v J => J = I ∧ v = nI (cn (fun z => decide (I (k + 9) z ≠ 0)) 8)) := by
  have kk0 := hk
  obtain ⟨kk, hA⟩ := hk
  have a0 := (hA 0 (by decide)).1
  have c0 : K (k + 1) = 108 := (hA 0 (by decide)).2
  have a1 := (hA 1 (by decide)).1
  have c1 : K (k + 2) = 108 := (hA 1 (by decide)).2
  have a2 := (hA 2 (by decide)).1
  have c2 : K (k + 3) = 108 := (hA 2 (by decide)).2
  have a3 := (hA 3 (by decide)).1
  have c3 : K (k + 4) = 108 := (hA 3 (by decide)).2
  have a4 := (hA 4 (by decide)).1
  have c4 : K (k + 5) = 108 := (hA 4 (by decide)).2
  have a5 := (hA 5 (by decide)).1
  have c5 : K (k + 6) = 108 := (hA 5 (by decide)).2
  have a6 := (hA 6 (by decide)).1
  have c6 : K (k + 7) = 108 := (hA 6 (by decide)).2
  have a7 := (hA 7 (by decide)).1
  have c7 : K (k + 8) = 108 := (hA 7 (by decide)).2
  have a8 := (hA 8 (by decide)).1
  have c8 : K (k + 9) = 108 := (hA 8 (by decide)).2
  have a9 := (hA 9 (by decide)).1
  have c9 : K (k + 10) = 108 := (hA 9 (by decide)).2
  refine MI.of (by decide) (Nat.le_of_ble_eq_true rfl) ?_
  intro p ee s m args below meth c ls Qf C hret hP hl
  have C : Cx E p s m args c cX2_stagesWithTables RX2 3 := C
  have hx := C.1
  have hb := C.2.1
  have hS : va_S (AG E) s.heap s.heap [] := va_S.rf
  have hl : lv_has ls 3 [(0, .ref (ad k))] := hl
  refine lv_iconst (v := nI 0) hx hb dX2_stagesWithTables_0 (by decide) ?_
  refine lv_istore_n (lv' := [(1, .int (nI 0)), (0, .ref (ad k))]) hx hb dX2_stagesWithTables_1 rfl hl (by decide) rfl (fun ls hl => ?_)
  refine lv_iconst (v := nI 0) hx hb dX2_stagesWithTables_2 (by decide) ?_
  refine lv_istore_n (lv' := [(2, .int (nI 0)), (1, .int (nI 0)), (0, .ref (ad k))]) hx hb dX2_stagesWithTables_3 rfl hl (by decide) rfl (fun ls hl => ?_)
  have hL4_1 : ∀ (d : Nat) (j : Nat) (a : Nat) (H : Heap) (locs : List Loc) (ls : Array Slot), 8 < j + d → (j ≤ 8) → (a = cn (fun z => decide (I (k + 9) z ≠ 0)) j) → (a ≤ j) → Hp E K L ad I H → va_S (AG E) s.heap H locs → lv_has ls 3 [(0, .ref (ad k)), (1, .int (nI a)), (2, .int (nI j))] → W p l ee (rmk 0) s m args below meth c H locs 0 0 Qf (F0 m 4 ls []) := by
    intro d
    induction d with
    | zero => intro j a H locs ls hd hj ha ha8 _ _ _; exact absurd hd (by omega)
    | succ d ih =>
      intro j a H locs ls hd hj ha ha8 hP hS hl
      refine lv_iload_n hx hb dX2_stagesWithTables_4 rfl (lv_at hl 2 rfl) ?_
      refine lv_bipush (v := nI 8) hx hb dX2_stagesWithTables_5 (by decide) ?_
      refine b_geN C (by omega) (by omega) dX2_stagesWithTables_7 (tgt := 33) (by decide) (fun h2 => ?_) (fun h2 => ?_)
      · refine lv_iload_n hx hb dX2_stagesWithTables_33 rfl (lv_at hl 1 rfl) ?_
        exact hret _ _ _ _ _ _ dX2_stagesWithTables_34 hP hS (⟨rfl, by rw [ha, show j = 8 by omega]⟩)
      · refine lv_iload_n hx hb dX2_stagesWithTables_10 rfl (lv_at hl 1 rfl) ?_
        refine lv_aload_n hx hb dX2_stagesWithTables_11 rfl (lv_at hl 0 rfl) ?_
        refine f_X2_36 (q := k + 9) C hP (by assumption) (by assumption) rfl dX2_stagesWithTables_12 ?_
        refine lv_iload_n hx hb dX2_stagesWithTables_15 rfl (lv_at hl 2 rfl) ?_
        refine r_iald (n := 8) C hP (by assumption) (by omega) (by decide) dX2_stagesWithTables_16 ?_
        refine z_eq C dX2_stagesWithTables_17 (tgt := 24) (by decide) (fun h3 => ?_) (fun h3 => ?_)
        · refine lv_iconst (v := nI 0) hx hb dX2_stagesWithTables_24 (by decide) ?_
          refine r_addN C dX2_stagesWithTables_25 ?_
          refine lv_istore_n (lv' := [(1, .int (nI (a + 0))), (0, .ref (ad k)), (2, .int (nI j))]) hx hb dX2_stagesWithTables_26 rfl hl (by decide) rfl (fun ls hl => ?_)
          refine lv_iinc (v := nI (j + 1)) (lv' := [(2, .int (nI (j + 1))), (1, .int (nI (a + 0))), (0, .ref (ad k))]) hx hb dX2_stagesWithTables_27 hl (k := 2) rfl (nI_1 _) (by decide) rfl (fun ls hl => ?_)
          refine lv_goto (tgt := 4) hx hb dX2_stagesWithTables_30 (by decide) ?_
          exact ih (j + 1) (a + 0) _ _ _ (by omega) (by omega) (by simp only [cn]; rw [ha]; simp [h3]) (by omega) hP hS (lv_sub hl [2, 1, 0] rfl)
        · refine lv_iconst (v := nI 1) hx hb dX2_stagesWithTables_20 (by decide) ?_
          refine lv_goto (tgt := 25) hx hb dX2_stagesWithTables_21 (by decide) ?_
          refine r_addN C dX2_stagesWithTables_25 ?_
          refine lv_istore_n (lv' := [(1, .int (nI (a + 1))), (0, .ref (ad k)), (2, .int (nI j))]) hx hb dX2_stagesWithTables_26 rfl hl (by decide) rfl (fun ls hl => ?_)
          refine lv_iinc (v := nI (j + 1)) (lv' := [(2, .int (nI (j + 1))), (1, .int (nI (a + 1))), (0, .ref (ad k))]) hx hb dX2_stagesWithTables_27 hl (k := 2) rfl (nI_1 _) (by decide) rfl (fun ls hl => ?_)
          refine lv_goto (tgt := 4) hx hb dX2_stagesWithTables_30 (by decide) ?_
          exact ih (j + 1) (a + 1) _ _ _ (by omega) (by omega) (by simp only [cn]; rw [ha]; simp [h3]) (by omega) hP hS (lv_sub hl [2, 1, 0] rfl)
  exact hL4_1 (8 + 1) 0 0 _ _ _ (by omega) (by omega) (rfl) (by omega) hP hS (lv_sub hl [2, 1, 0] rfl)
