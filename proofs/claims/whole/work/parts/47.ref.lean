/-! the reference: a round -/
set_option maxHeartbeats 4000000 in
set_option maxRecDepth 100000 in
theorem c_X7_round {l : Launch} {E : En} {K : Nat → Nat} {L : Nat → Nat → Bool} {ad : Nat → Nat} {I : Nat → Nat → Int32} {σ : Mem} {S : PSt} (q : Nat) (hM : IsM K L) (hw : WF σ) (hrow : ∀ a, 11 ≤ a → a ≤ 16 → I a = σ a) (h0 : I 10 0 = σ 10 0) (hR : Rp 27 17 10 18 19 I S) (hS0 : okP S) (hq : I 10 20 = nI q) (hq4 : q < 4) : MV l E K L ad I yX7_round cX7_round 3 1 [.ref (ad 10)] (fun RJ => (∀ a, a ≠ 10 → a ≠ 17 → a ≠ 27 → a ≠ 31 → RJ a = I a) ∧ (∀ i, i ≠ 18 → i ≠ 19 → i ≠ 20 → i ≠ 24 → RJ 10 i = I 10 i) ∧ Rp 27 17 10 18 19 RJ (rnd σ (mn σ) S) ∧ RJ 10 20 = nI (q + 1) ∧ RJ 10 24 = I 10 24 + nI 1 ∧ (∀ i, i < 8 → RJ 31 (8 * q + i) = tk1 σ S i) ∧ ∀ i, i < 8 * q → RJ 31 i = I 31 i) := by
  have hM0 := hM
  obtain ⟨m0, ml1, ml2, ml3, ml4, ml5, ml6, ml7, ml8, ml9, ml10, ml11, ml12, ml13, ml14, ml15, ml16, ml17, ml21, ml25, ml26, mk1, mk2, mk3, mk4, mk5, mk6, mk7, mk8, mk9, mk10, mk11, mk12, mk13, mk14, mk15, mk16, mk17, mk21, mk25, mk26⟩ := hM
  have hn8 := hw.2.1
  refine MV.of (by decide) (Nat.le_of_ble_eq_true rfl) ?_
  intro p ee s m args below meth c ls Qf C hret hP hl
  have C : Cx E p s m args c cX7_round RX7 3 := C
  have hx := C.1
  have hb := C.2.1
  have hS : va_S (AG E) s.heap s.heap [] := va_S.rf
  have hl : lv_has ls 3 [(0, .ref (ad 10))] := hl
  refine lv_iconst (v := nI 0) hx hb dX7_round_0 (by decide) ?_
  refine lv_istore_n (lv' := [(1, .int (nI 0)), (0, .ref (ad 10))]) hx hb dX7_round_1 rfl hl (by decide) rfl (fun ls hl => ?_)
  have hL2_1 : ∀ (d : Nat) (j : Nat) (J : Mem) (H : Heap) (locs : List Loc) (ls : Array Slot), 8 < j + d → (j ≤ 8) → ((∀ a, a ≠ 31 → J a = I a) ∧ (∀ i, i < j → J 31 (8 * q + i) = -6) ∧ ∀ i, i < 8 * q → J 31 i = I 31 i) → Hp E K L ad J H → va_S (AG E) s.heap H locs → lv_has ls 3 [(0, .ref (ad 10)), (1, .int (nI j))] → W p l ee (rmk 1) s m args below meth c H locs 0 0 Qf (F0 m 2 ls []) := by
    intro d2
    induction d2 with
    | zero => intro j J H locs ls hd2 hj hc _ _ _; exact absurd hd2 (by omega)
    | succ d2 ih2 =>
      intro j J H locs ls hd2 hj hc hP hS hl
      have hJq : J 10 20 = nI q := by rw [hc.1 10 (by decide)]; exact hq
      refine lv_iload_n hx hb dX7_round_2 rfl (lv_at hl 1 rfl) ?_
      refine lv_bipush (v := nI 8) hx hb dX7_round_3 (by decide) ?_
      refine b_geN C (by omega) (by omega) dX7_round_5 (tgt := 30) (by decide) (fun h2 => ?_) (fun h2 => ?_)
      · refine lv_iconst (v := nI 0) hx hb dX7_round_30 (by decide) ?_
        refine lv_istore_n (lv' := [(1, .int (nI 0)), (0, .ref (ad 10))]) hx hb dX7_round_31 rfl hl (by decide) rfl (fun ls hl => ?_)
        have hL32_3 : ∀ (d : Nat) (t : Nat) (Z : Mem) (H : Heap) (locs : List Loc) (ls : Array Slot), mn σ < t + d → (t ≤ mn σ) → ((∀ a, a ≠ 10 → a ≠ 17 → a ≠ 27 → a ≠ 31 → Z a = I a) ∧ (∀ i, i ≠ 18 → i ≠ 19 → Z 10 i = I 10 i) ∧ Rp 27 17 10 18 19 Z (rnd σ t S) ∧ (∀ i, i < 8 → Z 31 (8 * q + i) = if i < t then nI (stT σ i (rnd σ i S)) else -6) ∧ ∀ i, i < 8 * q → Z 31 i = I 31 i) → Hp E K L ad Z H → va_S (AG E) s.heap H locs → lv_has ls 3 [(0, .ref (ad 10)), (1, .int (nI t))] → W p l ee (rmk 1) s m args below meth c H locs 0 0 Qf (F0 m 32 ls []) := by
          intro d32
          induction d32 with
          | zero => intro t Z H locs ls hd32 ht hz _ _ _; exact absurd hd32 (by omega)
          | succ d32 ih32 =>
            intro t Z H locs ls hd32 ht hz hP hS hl
            have hZ0 : Z 10 0 = nI (mn σ) := by rw [hz.2.1 0 (by decide) (by decide), h0]; exact hw.1
            have hZq : Z 10 20 = nI q := by rw [hz.2.1 20 (by decide) (by decide)]; exact hq
            refine lv_iload_n hx hb dX7_round_32 rfl (lv_at hl 1 rfl) ?_
            refine lv_aload_n hx hb dX7_round_33 rfl (lv_at hl 0 rfl) ?_
            refine f_X7_71 C hP (by first | assumption | exact hKa _ (by omega)) dX7_round_34 ?_
            refine r_eqi (y := (nI (mn σ))) (hZ0) ?_
            refine b_geN C (by omega) (by omega) dX7_round_37 (tgt := 103) (by decide) (fun h4 => ?_) (fun h4 => ?_)
            · refine lv_aload_n hx hb dX7_round_103 rfl (lv_at hl 0 rfl) ?_
              refine lv_dup hx hb dX7_round_104 rfl ?_
              refine f_X7_155 C hP (by first | assumption | exact hKa _ (by omega)) dX7_round_105 ?_
              refine r_eqi (y := (nI q)) (hZq) ?_
              refine lv_iconst (v := nI 1) hx hb dX7_round_108 (by decide) ?_
              refine r_addN C dX7_round_109 ?_
              refine p_X7_155 C hP hS (by assumption) dX7_round_110 (fun H locs hP hS => ?_)
              obtain ⟨I5, eI5⟩ : ∃ Znew : Nat → Nat → Int32, Znew = up2 Z 10 20 (nI (q + 1)) := ⟨_, rfl⟩
              rw [← eI5] at hP
              refine lv_aload_n hx hb dX7_round_113 rfl (lv_at hl 0 rfl) ?_
              refine lv_dup hx hb dX7_round_114 rfl ?_
              refine f_X7_162 C hP (by first | assumption | exact hKa _ (by omega)) dX7_round_115 ?_
              refine lv_iconst (v := nI 1) hx hb dX7_round_118 (by decide) ?_
              refine lv_iadd hx hb dX7_round_119 ?_
              refine lv_topi (fun x6 ex6 => ?_)
              refine p_X7_162 C hP hS (by assumption) dX7_round_120 (fun H locs hP hS => ?_)
              obtain ⟨I7, eI7⟩ : ∃ Znew : Nat → Nat → Int32, Znew = up2 I5 10 24 x6 := ⟨_, rfl⟩
              rw [← eI7] at hP
              exact hret _ _ _ _ _ dX7_round_123 hP hS (by
                        rw [show t = mn σ by omega] at hz
                        rw [eI7, eI5]
                        refine ⟨fun a g1 g2 g3 g4 => by rw [up2_r g1, up2_r g1]; exact hz.1 a g1 g2 g3 g4, fun i g1 g2 g3 g4 => by rw [up2_k g4, up2_k g3]; exact hz.2.1 i g1 g2, ⟨fun j hj => by rw [up2_r (by decide), up2_r (by decide)]; exact hz.2.2.1.1 j hj, fun j hj => by rw [up2_r (by decide), up2_r (by decide)]; exact hz.2.2.1.2.1 j hj, by rw [up2_k (by decide), up2_k (by decide)]; exact hz.2.2.1.2.2.1, by rw [up2_k (by decide), up2_k (by decide)]; exact hz.2.2.1.2.2.2⟩, by rw [up2_k (by decide), up2_s], by rw [up2_s]; subst_vars; rw [up2_k (by decide), hz.2.1 24 (by decide) (by decide)], fun i hi => ?_, fun i hi => by rw [up2_r (by decide), up2_r (by decide)]; exact hz.2.2.2.2 i hi⟩
                        unfold tk1
                        rw [up2_r (by decide), up2_r (by decide)]; exact hz.2.2.2.1 i hi)
            · have hWt := hw.2.2.1 t (by omega)
              have hrw : ∀ a, 11 ≤ a → a ≤ 16 → Z a = σ a := fun a g1 g2 => by rw [hz.1 a (by omega) (by omega) (by omega) (by omega)]; exact hrow a g1 g2
              have hZ12 : Z 12 t = nI (en σ t) := by rw [hrw 12 (by decide) (by decide)]; exact hWt.1
              have hoP := rnd_ok hS0 t (fun i hi => hw.2.2.1 i (by omega))
              obtain ⟨kq, hkq, ekq⟩ : ∃ j : Nat, j < 6 ∧ σ 11 t = nI j := ⟨(σ 11 t).toInt.toNat, by have := hWt.2.2.1; omega, i32_eq (by have := hWt.2.2.1; omega) (by have := hWt.2.2.1; omega)⟩
              have ckq : tn (σ 11 t) = kq := by rw [ekq]; exact nI_clamp (by omega)
              have hZk : Z 11 t = nI kq := by rw [hrw 11 (by decide) (by decide)]; exact ekq
              have hfnd : fnd (fun e => Z 13 (5 * t + e)) (Z 27 kq) (en σ t) 0 = stT σ t (rnd σ t S) := by unfold stT; rw [ckq, ← hz.2.2.1.1 kq hkq, hrw 13 (by decide) (by decide)]
              have hst := stT_le (σ := σ) (t := t) (S := rnd σ t S) hWt.2.1
              refine lv_aload_n hx hb dX7_round_40 rfl (lv_at hl 0 rfl) ?_
              refine lv_iload_n hx hb dX7_round_41 rfl (lv_at hl 1 rfl) ?_
              refine lv_aload_n hx hb dX7_round_42 rfl (lv_at hl 0 rfl) ?_
              refine f_X7_58 (q := 27) C hP (by assumption) (by assumption) rfl dX7_round_43 ?_
              refine lv_aload_n hx hb dX7_round_46 rfl (lv_at hl 0 rfl) ?_
              refine f_X7_7 (q := 11) C hP (by assumption) (by assumption) rfl dX7_round_47 ?_
              refine lv_iload_n hx hb dX7_round_50 rfl (lv_at hl 1 rfl) ?_
              refine r_iald (n := 8) C hP (by assumption) (by omega) (by decide) dX7_round_51 ?_
              refine r_eqi (y := (nI kq)) (hZk) ?_
              refine r_iald (n := 6) C hP (by assumption) (by omega) (by decide) dX7_round_52 ?_
              refine k_X7_107 C hP hS (by assumption) (c_X7_entryWith t (en σ t) (Z 27 kq) hM0 (by omega) hZ12 hWt.2.1 (by rw [hrw 13 (by decide) (by decide)]; exact hWt.2.2.2.2)) ⟨Nat.le_of_ble_eq_true rfl, Nat.le_of_ble_eq_true rfl⟩ ⟨Nat.zero_le _, Nat.zero_le _⟩ hl.1 (Nat.le_of_ble_eq_true rfl) dX7_round_53 (fun v8 I9 H locs hv10 hP hS => ?_)
              obtain ⟨eI9, ev8⟩ := hv10
              rw [eI9] at hP
              clear eI9
              rw [hfnd] at ev8
              by_cases hf : stT σ t (rnd σ t S) = 4
              · rw [if_pos hf] at ev8
                refine r_eqi ev8 ?_
                refine lv_istore_n (lv' := [(2, .int ((-6))), (0, .ref (ad 10)), (1, .int (nI t))]) hx hb dX7_round_56 rfl hl (by decide) rfl (fun ls hl => ?_)
                refine lv_aload_n hx hb dX7_round_57 rfl (lv_at hl 1 rfl) ?_
                refine f_X7_61 (q := 31) C hP (by assumption) (by assumption) rfl dX7_round_58 ?_
                refine lv_bipush (v := nI 8) hx hb dX7_round_61 (by decide) ?_
                refine lv_aload_n hx hb dX7_round_63 rfl (lv_at hl 1 rfl) ?_
                refine f_X7_155 C hP (by first | assumption | exact hKa _ (by omega)) dX7_round_64 ?_
                refine r_eqi (y := (nI q)) (hZq) ?_
                refine r_mulN C dX7_round_67 ?_
                refine lv_iload_n hx hb dX7_round_68 rfl (lv_at hl 2 rfl) ?_
                refine r_addN C dX7_round_69 ?_
                refine lv_iload_n hx hb dX7_round_70 rfl (lv_at hl 0 rfl) ?_
                refine z_ge C dX7_round_71 (tgt := 78) (by decide) (fun h11 => absurd h11 (by decide)) (fun _ => ?_)
                refine lv_iconst (v := nI 4) hx hb dX7_round_74 (by decide) ?_
                refine lv_goto (tgt := 79) hx hb dX7_round_75 (by decide) ?_
                refine r_iast (n := 32) C hP hS (by assumption) (by omega) (by decide) dX7_round_79 (fun H locs hP hS => ?_)
                obtain ⟨I12, eI12⟩ : ∃ Znew : Nat → Nat → Int32, Znew = up2 Z 31 (8 * q + t) (nI 4) := ⟨_, rfl⟩
                rw [← eI12] at hP
                refine lv_aload_n hx hb dX7_round_80 rfl (lv_at hl 1 rfl) ?_
                refine lv_iconst (v := nI 5) hx hb dX7_round_81 (by decide) ?_
                refine lv_iload_n hx hb dX7_round_82 rfl (lv_at hl 2 rfl) ?_
                refine r_mulN C dX7_round_83 ?_
                refine lv_iload_n hx hb dX7_round_84 rfl (lv_at hl 0 rfl) ?_
                refine z_ge C dX7_round_85 (tgt := 92) (by decide) (fun h13 => absurd h13 (by decide)) (fun _ => ?_)
                refine lv_iconst (v := nI 4) hx hb dX7_round_88 (by decide) ?_
                refine lv_goto (tgt := 93) hx hb dX7_round_89 (by decide) ?_
                refine r_addN C dX7_round_93 ?_
                refine r_eqi (y := nI (5 * t + stT σ t (rnd σ t S))) (by rw [hf]) ?_
                have hJ1 : ∀ a, a ≠ 31 → I12 a = Z a := fun a ha => by rw [eI12, up2_r ha]
                have hJw : ∀ a, 11 ≤ a → a ≤ 16 → I12 a = σ a := fun a g1 g2 => by rw [hJ1 a (by omega)]; exact hrw a g1 g2
                have hok : okA (I12 14 (5 * t + stT σ t (rnd σ t S))) (I12 15 (5 * t + stT σ t (rnd σ t S))) (I12 16 (5 * t + stT σ t (rnd σ t S))) := by rw [hJw 14 (by decide) (by decide), hJw 15 (by decide) (by decide), hJw 16 (by decide) (by decide)]; exact hWt.2.2.2.1 _ hst.1 hst.2
                have hJR : Rp 27 17 10 18 19 I12 (rnd σ t S) := ⟨fun j hj => by rw [hJ1 27 (by decide)]; exact hz.2.2.1.1 j hj, fun j hj => by rw [hJ1 17 (by decide)]; exact hz.2.2.1.2.1 j hj, by rw [hJ1 10 (by decide)]; exact hz.2.2.1.2.2.1, by rw [hJ1 10 (by decide)]; exact hz.2.2.1.2.2.2⟩
                refine k_X7_158 C hP hS (by assumption) (c_X7_act (5 * t + stT σ t (rnd σ t S)) hM0 (by omega) hok (fun j hj => by rw [hJR.1 j hj]; exact hoP.1 j hj) (fun j hj => by rw [hJR.2.1 j hj]; exact hoP.2.1 j hj)) ⟨Nat.le_of_ble_eq_true rfl, Nat.le_of_ble_eq_true rfl⟩ ⟨Nat.zero_le _, Nat.zero_le _⟩ hl.1 (Nat.le_of_ble_eq_true rfl) dX7_round_94 (fun I15 H locs hv16 hP hS => ?_)
                have eI15 := hv16
                have hstep : (∀ a, a ≠ 10 → a ≠ 17 → a ≠ 27 → a ≠ 31 → I15 a = I a) ∧ (∀ i, i ≠ 18 → i ≠ 19 → I15 10 i = I 10 i) ∧ Rp 27 17 10 18 19 I15 (rnd σ (t + 1) S) ∧ (∀ i, i < 8 → I15 31 (8 * q + i) = if i < (t + 1) then nI (stT σ i (rnd σ i S)) else -6) ∧ ∀ i, i < 8 * q → I15 31 i = I 31 i := by
                  rw [eI15]
                  refine ⟨fun a g1 g2 g3 g4 => by rw [actM_r g3 g2 g1, hJ1 a g4]; exact hz.1 a g1 g2 g3 g4, fun i g1 g2 => by rw [actM_o (by decide) (by decide) g1 g2, hJ1 10 (by decide)]; exact hz.2.1 i g1 g2, ?_, fun i hi => ?_, fun i hi => ?_⟩
                  · have := act_rep (F := 27) (G := 17) (o := 10) (sd := 18) (sa := 19) (by decide) hJR hok
                    rw [hJw 14 (by decide) (by decide), hJw 15 (by decide) (by decide), hJw 16 (by decide) (by decide)] at this
                    rw [hJw 14 (by decide) (by decide), hJw 15 (by decide) (by decide), hJw 16 (by decide) (by decide)]
                    exact this
                  · rw [actM_r (by decide) (by decide) (by decide), eI12]
                    by_cases z : i = t
                    · subst z; rw [up2_s, if_pos (by omega)]; rw [hf]
                    · rw [up2_k (by omega), hz.2.2.2.1 i hi]
                      by_cases y : i < t
                      · rw [if_pos y, if_pos (by omega)]
                      · rw [if_neg y, if_neg (by omega)]
                  · rw [actM_r (by decide) (by decide) (by decide), eI12, up2_k (by omega)]; exact hz.2.2.2.2 i hi
                refine lv_iinc (v := nI (t + 1)) (lv' := [(1, .int (nI (t + 1))), (2, .int ((-6))), (0, .ref (ad 10))]) hx hb dX7_round_97 hl (k := 2) rfl (nI_1 _) (by decide) rfl (fun ls hl => ?_)
                refine lv_goto (tgt := 32) hx hb dX7_round_100 (by decide) ?_
                exact ih32 (t + 1) I15 _ _ _ (by omega) (by omega) (hstep) hP hS (lv_sub hl [2, 0] rfl)
              · rw [if_neg hf] at ev8
                refine r_eqi ev8 ?_
                refine lv_istore_n (lv' := [(2, .int (nI (stT σ t (rnd σ t S)))), (0, .ref (ad 10)), (1, .int (nI t))]) hx hb dX7_round_56 rfl hl (by decide) rfl (fun ls hl => ?_)
                refine lv_aload_n hx hb dX7_round_57 rfl (lv_at hl 1 rfl) ?_
                refine f_X7_61 (q := 31) C hP (by assumption) (by assumption) rfl dX7_round_58 ?_
                refine lv_bipush (v := nI 8) hx hb dX7_round_61 (by decide) ?_
                refine lv_aload_n hx hb dX7_round_63 rfl (lv_at hl 1 rfl) ?_
                refine f_X7_155 C hP (by first | assumption | exact hKa _ (by omega)) dX7_round_64 ?_
                refine r_eqi (y := (nI q)) (hZq) ?_
                refine r_mulN C dX7_round_67 ?_
                refine lv_iload_n hx hb dX7_round_68 rfl (lv_at hl 2 rfl) ?_
                refine r_addN C dX7_round_69 ?_
                refine lv_iload_n hx hb dX7_round_70 rfl (lv_at hl 0 rfl) ?_
                refine z_ge C dX7_round_71 (tgt := 78) (by decide) (fun _ => ?_) (fun h17 => absurd h17 (by rw [nI_toInt (by omega)]; omega))
                refine lv_iload_n hx hb dX7_round_78 rfl (lv_at hl 0 rfl) ?_
                refine r_iast (n := 32) C hP hS (by assumption) (by omega) (by decide) dX7_round_79 (fun H locs hP hS => ?_)
                obtain ⟨I18, eI18⟩ : ∃ Znew : Nat → Nat → Int32, Znew = up2 Z 31 (8 * q + t) (nI (stT σ t (rnd σ t S))) := ⟨_, rfl⟩
                rw [← eI18] at hP
                refine lv_aload_n hx hb dX7_round_80 rfl (lv_at hl 1 rfl) ?_
                refine lv_iconst (v := nI 5) hx hb dX7_round_81 (by decide) ?_
                refine lv_iload_n hx hb dX7_round_82 rfl (lv_at hl 2 rfl) ?_
                refine r_mulN C dX7_round_83 ?_
                refine lv_iload_n hx hb dX7_round_84 rfl (lv_at hl 0 rfl) ?_
                refine z_ge C dX7_round_85 (tgt := 92) (by decide) (fun _ => ?_) (fun h19 => absurd h19 (by rw [nI_toInt (by omega)]; omega))
                refine lv_iload_n hx hb dX7_round_92 rfl (lv_at hl 0 rfl) ?_
                refine r_addN C dX7_round_93 ?_
                have hJ1 : ∀ a, a ≠ 31 → I18 a = Z a := fun a ha => by rw [eI18, up2_r ha]
                have hJw : ∀ a, 11 ≤ a → a ≤ 16 → I18 a = σ a := fun a g1 g2 => by rw [hJ1 a (by omega)]; exact hrw a g1 g2
                have hok : okA (I18 14 (5 * t + stT σ t (rnd σ t S))) (I18 15 (5 * t + stT σ t (rnd σ t S))) (I18 16 (5 * t + stT σ t (rnd σ t S))) := by rw [hJw 14 (by decide) (by decide), hJw 15 (by decide) (by decide), hJw 16 (by decide) (by decide)]; exact hWt.2.2.2.1 _ hst.1 hst.2
                have hJR : Rp 27 17 10 18 19 I18 (rnd σ t S) := ⟨fun j hj => by rw [hJ1 27 (by decide)]; exact hz.2.2.1.1 j hj, fun j hj => by rw [hJ1 17 (by decide)]; exact hz.2.2.1.2.1 j hj, by rw [hJ1 10 (by decide)]; exact hz.2.2.1.2.2.1, by rw [hJ1 10 (by decide)]; exact hz.2.2.1.2.2.2⟩
                refine k_X7_158 C hP hS (by assumption) (c_X7_act (5 * t + stT σ t (rnd σ t S)) hM0 (by omega) hok (fun j hj => by rw [hJR.1 j hj]; exact hoP.1 j hj) (fun j hj => by rw [hJR.2.1 j hj]; exact hoP.2.1 j hj)) ⟨Nat.le_of_ble_eq_true rfl, Nat.le_of_ble_eq_true rfl⟩ ⟨Nat.zero_le _, Nat.zero_le _⟩ hl.1 (Nat.le_of_ble_eq_true rfl) dX7_round_94 (fun I21 H locs hv22 hP hS => ?_)
                have eI21 := hv22
                have hstep : (∀ a, a ≠ 10 → a ≠ 17 → a ≠ 27 → a ≠ 31 → I21 a = I a) ∧ (∀ i, i ≠ 18 → i ≠ 19 → I21 10 i = I 10 i) ∧ Rp 27 17 10 18 19 I21 (rnd σ (t + 1) S) ∧ (∀ i, i < 8 → I21 31 (8 * q + i) = if i < (t + 1) then nI (stT σ i (rnd σ i S)) else -6) ∧ ∀ i, i < 8 * q → I21 31 i = I 31 i := by
                  rw [eI21]
                  refine ⟨fun a g1 g2 g3 g4 => by rw [actM_r g3 g2 g1, hJ1 a g4]; exact hz.1 a g1 g2 g3 g4, fun i g1 g2 => by rw [actM_o (by decide) (by decide) g1 g2, hJ1 10 (by decide)]; exact hz.2.1 i g1 g2, ?_, fun i hi => ?_, fun i hi => ?_⟩
                  · have := act_rep (F := 27) (G := 17) (o := 10) (sd := 18) (sa := 19) (by decide) hJR hok
                    rw [hJw 14 (by decide) (by decide), hJw 15 (by decide) (by decide), hJw 16 (by decide) (by decide)] at this
                    rw [hJw 14 (by decide) (by decide), hJw 15 (by decide) (by decide), hJw 16 (by decide) (by decide)]
                    exact this
                  · rw [actM_r (by decide) (by decide) (by decide), eI18]
                    by_cases z : i = t
                    · subst z; rw [up2_s, if_pos (by omega)]
                    · rw [up2_k (by omega), hz.2.2.2.1 i hi]
                      by_cases y : i < t
                      · rw [if_pos y, if_pos (by omega)]
                      · rw [if_neg y, if_neg (by omega)]
                  · rw [actM_r (by decide) (by decide) (by decide), eI18, up2_k (by omega)]; exact hz.2.2.2.2 i hi
                refine lv_iinc (v := nI (t + 1)) (lv' := [(1, .int (nI (t + 1))), (2, .int (nI (stT σ t (rnd σ t S)))), (0, .ref (ad 10))]) hx hb dX7_round_97 hl (k := 2) rfl (nI_1 _) (by decide) rfl (fun ls hl => ?_)
                refine lv_goto (tgt := 32) hx hb dX7_round_100 (by decide) ?_
                exact ih32 (t + 1) I21 _ _ _ (by omega) (by omega) (hstep) hP hS (lv_sub hl [2, 0] rfl)
        exact hL32_3 (mn σ + 1) 0 J _ _ _ (by omega) (by omega) (⟨fun a _ _ _ h => hc.1 a h, fun i _ _ => by rw [hc.1 10 (by decide)], ⟨fun j hj => by rw [hc.1 27 (by decide)]; exact hR.1 j hj, fun j hj => by rw [hc.1 17 (by decide)]; exact hR.2.1 j hj, by rw [hc.1 10 (by decide)]; exact hR.2.2.1, by rw [hc.1 10 (by decide)]; exact hR.2.2.2⟩, fun i hi => by rw [if_neg (Nat.not_lt_zero i)]; exact hc.2.1 i (by omega), hc.2.2⟩) hP hS (lv_sub hl [1, 0] rfl)
      · refine lv_aload_n hx hb dX7_round_8 rfl (lv_at hl 0 rfl) ?_
        refine f_X7_61 (q := 31) C hP (by assumption) (by assumption) rfl dX7_round_9 ?_
        refine lv_bipush (v := nI 8) hx hb dX7_round_12 (by decide) ?_
        refine lv_aload_n hx hb dX7_round_14 rfl (lv_at hl 0 rfl) ?_
        refine f_X7_155 C hP (by first | assumption | exact hKa _ (by omega)) dX7_round_15 ?_
        refine r_eqi (y := (nI q)) (hJq) ?_
        refine r_mulN C dX7_round_18 ?_
        refine lv_iload_n hx hb dX7_round_19 rfl (lv_at hl 1 rfl) ?_
        refine r_addN C dX7_round_20 ?_
        refine lv_bipush (v := (-6)) hx hb dX7_round_21 (by decide) ?_
        refine r_iast (n := 32) C hP hS (by assumption) (by omega) (by decide) dX7_round_23 (fun H locs hP hS => ?_)
        obtain ⟨I23, eI23⟩ : ∃ Znew : Nat → Nat → Int32, Znew = up2 J 31 (8 * q + j) ((-6)) := ⟨_, rfl⟩
        rw [← eI23] at hP
        refine lv_iinc (v := nI (j + 1)) (lv' := [(1, .int (nI (j + 1))), (0, .ref (ad 10))]) hx hb dX7_round_24 hl (k := 1) rfl (nI_1 _) (by decide) rfl (fun ls hl => ?_)
        refine lv_goto (tgt := 2) hx hb dX7_round_27 (by decide) ?_
        exact ih2 (j + 1) I23 _ _ _ (by omega) (by omega) (by rw [eI23]; exact ⟨fun a ha => by rw [up2_r ha]; exact hc.1 a ha, fun i hi => if z : i = j then by subst z; rw [up2_s] else by rw [up2_k (by omega)]; exact hc.2.1 i (by omega), fun i hi => by rw [up2_k (by omega)]; exact hc.2.2 i hi⟩) hP hS (lv_sub hl [1, 0] rfl)
  exact hL2_1 (8 + 1) 0 I _ _ _ (by omega) (by omega) (⟨fun _ _ => rfl, lt_0, fun _ _ => rfl⟩) hP hS (lv_sub hl [1, 0] rfl)
