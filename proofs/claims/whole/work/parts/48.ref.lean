/-! the reference: a run -/
def RunP (I J : Mem) : Prop := (∀ a, a ≠ 10 → a ≠ 17 → a ≠ 27 → a ≠ 31 → a < 20 ∨ 26 < a → J a = I a) ∧ (∀ i, i ≠ 18 → i ≠ 19 → i ≠ 20 → i ≠ 22 → i ≠ 23 → i ≠ 24 → J 10 i = I 10 i) ∧ (∀ j, j < 6 → J 27 j = (rS I).1 j) ∧ (∀ j, j < 4 → J 17 j = (rS I).2.1 j) ∧ J 10 20 = nI (rN I) ∧ J 10 22 = I 10 22 + nI 1 ∧ J 10 23 = I 10 23 + (if (rS I).2.2.1 ≠ 0 then nI 1 else nI 0) ∧ J 10 24 = I 10 24 + nI (rN I) ∧ ∀ i, i < rN I → ∀ t, t < 8 → J 31 (8 * i + t) = tk1 I (sA (itR I (pS0 I) i)) t
def RunI (I Z : Mem) (q : Nat) : Prop := (∀ a, a ≠ 10 → a ≠ 17 → a ≠ 27 → a ≠ 31 → a < 21 ∨ 23 < a → Z a = I a) ∧ (∀ i, i ≠ 18 → i ≠ 19 → i ≠ 20 → i ≠ 24 → Z 10 i = I 10 i) ∧ Rp 27 17 10 18 19 Z (itR I (pS0 I) q) ∧ Z 10 20 = nI q ∧ Z 10 24 = I 10 24 + nI q ∧ (∀ i, i < q → ∀ t, t < 8 → Z 31 (8 * i + t) = tk1 I (sA (itR I (pS0 I) i)) t) ∧ rN I = rnN I (pS0 I) (ru I 3 - q) q
theorem run_no {I Z : Mem} {q : Nat} (H : RunI I Z q) (h : ¬ goes (itR I (pS0 I) q)) : rN I = q := by
  rw [H.2.2.2.2.2.2]
  cases ru I 3 - q with
  | zero => rfl
  | succ d => simp only [rnN]; rw [if_neg h]
theorem run_ov {I Z : Mem} {q : Nat} (H : RunI I Z q) (h : ru I 3 ≤ q) : rN I = q := by
  rw [H.2.2.2.2.2.2, show ru I 3 - q = 0 by omega]; rfl
theorem run_st {I Z J J2 : Mem} {q : Nat} (H : RunI I Z q) (eJ : J = up2 Z 10 19 (nI 0)) (hq : q < ru I 3) (hg : goes (itR I (pS0 I) q))
    (E : (∀ a, a ≠ 10 → a ≠ 17 → a ≠ 27 → a ≠ 31 → J2 a = J a) ∧ (∀ i, i ≠ 18 → i ≠ 19 → i ≠ 20 → i ≠ 24 → J2 10 i = J 10 i) ∧ Rp 27 17 10 18 19 J2 (rnd I (mn I) (sA (itR I (pS0 I) q))) ∧ J2 10 20 = nI (q + 1) ∧ J2 10 24 = J 10 24 + nI 1 ∧ (∀ i, i < 8 → J2 31 (8 * q + i) = tk1 I (sA (itR I (pS0 I) q)) i) ∧ ∀ i, i < 8 * q → J2 31 i = J 31 i) : RunI I J2 (q + 1) := by
  obtain ⟨e1, e2, e3, e4, e5, e6, e7⟩ := E
  obtain ⟨h1, h2, h3, h4, h5, h6, h7⟩ := H
  refine ⟨fun a g1 g2 g3 g4 g5 => by rw [e1 a g1 g2 g3 g4, eJ, up2_r g1]; exact h1 a g1 g2 g3 g4 g5, fun i g1 g2 g3 g4 => by rw [e2 i g1 g2 g3 g4, eJ, up2_k g2]; exact h2 i g1 g2 g3 g4, e3, e4, ?_, fun i hi t ht => ?_, ?_⟩
  · rw [e5, eJ, up2_k (by decide), h5, ← nI_add q 1]
    exact Int32.add_assoc _ _ _
  · by_cases z : i = q
    · subst z; exact e6 t ht
    · rw [e7 _ (by omega), eJ, up2_r (by decide)]; exact h6 i (by omega) t ht
  · rw [h7, show ru I 3 - q = (ru I 3 - (q + 1)) + 1 by omega]; simp only [rnN]; rw [if_pos hg]
set_option maxHeartbeats 4000000 in
set_option maxRecDepth 100000 in
theorem c_X7_run {l : Launch} {E : En} {K : Nat → Nat} {L : Nat → Nat → Bool} {ad : Nat → Nat} {I : Nat → Nat → Int32}  (hM : IsM K L) (hw : WF I) : MI l E K L ad I yX7_run cX7_run 2 (some .int) 5 [.ref (ad 10)] (fun rv RJ => rv = sRun I ∧ (pkS I (mn I) = none → Sm I RJ) ∧ (pkS I (mn I) ≠ none → RunP I RJ)) := by
  have hM0 := hM
  obtain ⟨m0, ml1, ml2, ml3, ml4, ml5, ml6, ml7, ml8, ml9, ml10, ml11, ml12, ml13, ml14, ml15, ml16, ml17, ml21, ml25, ml26, mk1, mk2, mk3, mk4, mk5, mk6, mk7, mk8, mk9, mk10, mk11, mk12, mk13, mk14, mk15, mk16, mk17, mk21, mk25, mk26⟩ := hM
  have he := hw.1
  have hn8 := hw.2.1
  obtain ⟨hu, hu0, hu1, hu2, hu3⟩ := wf_ru hw
  refine MI.of (by decide) (Nat.le_of_ble_eq_true rfl) ?_
  intro p ee s m args below meth c ls Qf C hret hP hl
  have C : Cx E p s m args c cX7_run RX7 2 := C
  have hx := C.1
  have hb := C.2.1
  have hS : va_S (AG E) s.heap s.heap [] := va_S.rf
  have hl : lv_has ls 2 [(0, .ref (ad 10))] := hl
  refine lv_aload_n hx hb dX7_run_0 rfl (lv_at hl 0 rfl) ?_
  refine k_X7_136 C hP hS (by assumption) (c_X7_pack hM0 hw) ⟨Nat.le_of_ble_eq_true rfl, Nat.le_of_ble_eq_true rfl⟩ ⟨Nat.zero_le _, Nat.zero_le _⟩ hl.1 (Nat.le_of_ble_eq_true rfl) dX7_run_1 (fun v1 I2 H locs hv3 hP hS => ?_)
  rcases hv3 with ⟨hv1, pl, hpk⟩ | ⟨hv1, hsm, hno⟩
  · subst hv1
    refine z_ne1 C dX7_run_4 (tgt := 10) (by decide) ?_
    refine lv_iconst (v := nI 0) hx hb dX7_run_10 (by decide) ?_
    refine lv_istore_n (lv' := [(1, .int (nI 0)), (0, .ref (ad 10))]) hx hb dX7_run_11 rfl hl (by decide) rfl (fun ls hl => ?_)
    have hL12_4 : ∀ (d : Nat) (j : Nat) (Y : Mem) (H : Heap) (locs : List Loc) (ls : Array Slot), 6 < j + d → (j ≤ 6) → ((∀ a, a ≠ 27 → Y a = I2 a) ∧ ∀ i, i < j → Y 27 i = I 18 i) → Hp E K L ad Y H → va_S (AG E) s.heap H locs → lv_has ls 2 [(0, .ref (ad 10)), (1, .int (nI j))] → W p l ee (rmk 5) s m args below meth c H locs 0 0 Qf (F0 m 12 ls []) := by
      intro d12
      induction d12 with
      | zero => intro j Y H locs ls hd12 hj hc _ _ _; exact absurd hd12 (by omega)
      | succ d12 ih12 =>
        intro j Y H locs ls hd12 hj hc hP hS hl
        refine lv_iload_n hx hb dX7_run_12 rfl (lv_at hl 1 rfl) ?_
        refine lv_bipush (v := nI 6) hx hb dX7_run_13 (by decide) ?_
        refine b_geN C (by omega) (by omega) dX7_run_15 (tgt := 36) (by decide) (fun h5 => ?_) (fun h5 => ?_)
        · refine lv_aload_n hx hb dX7_run_36 rfl (lv_at hl 0 rfl) ?_
          refine lv_iconst (v := nI 0) hx hb dX7_run_37 (by decide) ?_
          refine p_X7_148 C hP hS (by assumption) (by first | assumption | decide) dX7_run_38 (fun H locs hP hS => ?_)
          obtain ⟨I6, eI6⟩ : ∃ Znew : Nat → Nat → Int32, Znew = up2 Y 10 18 (nI 0) := ⟨_, rfl⟩
          rw [← eI6] at hP
          refine lv_aload_n hx hb dX7_run_41 rfl (lv_at hl 0 rfl) ?_
          refine lv_iconst (v := nI 1) hx hb dX7_run_42 (by decide) ?_
          refine p_X7_152 C hP hS (by assumption) (by first | assumption | decide) dX7_run_43 (fun H locs hP hS => ?_)
          obtain ⟨I7, eI7⟩ : ∃ Znew : Nat → Nat → Int32, Znew = up2 I6 10 19 (nI 1) := ⟨_, rfl⟩
          rw [← eI7] at hP
          refine lv_aload_n hx hb dX7_run_46 rfl (lv_at hl 0 rfl) ?_
          refine lv_iconst (v := nI 0) hx hb dX7_run_47 (by decide) ?_
          refine p_X7_155 C hP hS (by assumption) dX7_run_48 (fun H locs hP hS => ?_)
          obtain ⟨I8, eI8⟩ : ∃ Znew : Nat → Nat → Int32, Znew = up2 I7 10 20 (nI 0) := ⟨_, rfl⟩
          rw [← eI8] at hP
          have hrun : RunI I I8 0 := by
            have hY : ∀ a, a ≠ 27 → a < 21 ∨ 23 < a → Y a = I a := fun a g1 g2 => by rw [hc.1 a g1]; exact hpk.2.1 a g2
            rw [eI8, eI7, eI6]
            refine ⟨fun a g1 g2 g3 g4 g5 => by rw [up2_r g1, up2_r g1, up2_r g1]; exact hY a g3 g5, fun i g1 g2 g3 g4 => by rw [up2_k g3, up2_k g2, up2_k g1, hY 10 (by decide) (by decide)], ⟨fun i hi => by rw [up2_r (by decide), up2_r (by decide), up2_r (by decide)]; exact hc.2 i (by omega), fun i hi => by rw [up2_r (by decide), up2_r (by decide), up2_r (by decide), hY 17 (by decide) (by decide)]; rfl, by rw [up2_k (by decide), up2_k (by decide), up2_s]; rfl, by rw [up2_k (by decide), up2_s]; rfl⟩, up2_s _ _ _ _, by rw [up2_k (by decide), up2_k (by decide), up2_k (by decide), hY 10 (by decide) (by decide)]; exact (Int32.add_zero _).symm, fun i hi => absurd hi (Nat.not_lt_zero i), rfl⟩
          have hL51_9 : ∀ (d : Nat) (q : Nat) (Z : Mem) (H : Heap) (locs : List Loc) (ls : Array Slot), ru I 3 < q + d → (q ≤ ru I 3) → (RunI I Z q) → Hp E K L ad Z H → va_S (AG E) s.heap H locs → lv_has ls 2 [(0, .ref (ad 10))] → W p l ee (rmk 5) s m args below meth c H locs 0 0 Qf (F0 m 51 ls []) := by
            intro d51
            induction d51 with
            | zero => intro q Z H locs ls hd51 hq3 hz _ _ _; exact absurd hd51 (by omega)
            | succ d51 ih51 =>
              intro q Z H locs ls hd51 hq3 hz hP hS hl
              have hZ19 : Z 19 3 = nI (ru I 3) := by rw [hz.1 19 (by decide) (by decide) (by decide) (by decide) (by decide)]; exact hu 3 (by decide)
              have hzA := hz.2.2.1.2.2.2
              have hzD := hz.2.2.1.2.2.1
              refine lv_aload_n hx hb dX7_run_51 rfl (lv_at hl 0 rfl) ?_
              refine f_X7_152 C hP (by first | assumption | exact hKa _ (by omega)) dX7_run_52 ?_
              refine z_eq C dX7_run_55 (tgt := 90) (by decide) (fun h10 => ?_) (fun h10 => ?_)
              · have hN : rN I = q := run_no hz (fun g => g.1 (hzA.symm.trans h10))
                have hSS : rS I = itR I (pS0 I) q := by unfold rS; rw [hN]
                refine lv_aload_n hx hb dX7_run_90 rfl (lv_at hl 0 rfl) ?_
                refine lv_dup hx hb dX7_run_91 rfl ?_
                refine f_X7_168 C hP (by first | assumption | exact hKa _ (by omega)) dX7_run_92 ?_
                refine lv_iconst (v := nI 1) hx hb dX7_run_95 (by decide) ?_
                refine lv_iadd hx hb dX7_run_96 ?_
                refine lv_topi (fun x11 ex11 => ?_)
                refine p_X7_168 C hP hS (by assumption) dX7_run_97 (fun H locs hP hS => ?_)
                obtain ⟨I12, eI12⟩ : ∃ Znew : Nat → Nat → Int32, Znew = up2 Z 10 22 x11 := ⟨_, rfl⟩
                rw [← eI12] at hP
                refine lv_aload_n hx hb dX7_run_100 rfl (lv_at hl 0 rfl) ?_
                refine lv_dup hx hb dX7_run_101 rfl ?_
                refine f_X7_171 C hP (by first | assumption | exact hKa _ (by omega)) dX7_run_102 ?_
                refine lv_aload_n hx hb dX7_run_105 rfl (lv_at hl 0 rfl) ?_
                refine f_X7_148 C hP (by first | assumption | exact hKa _ (by omega)) dX7_run_106 ?_
                refine z_eq C dX7_run_109 (tgt := 116) (by decide) (fun h13 => ?_) (fun h13 => ?_)
                · refine lv_iconst (v := nI 0) hx hb dX7_run_116 (by decide) ?_
                  refine lv_iadd hx hb dX7_run_117 ?_
                  refine lv_topi (fun x14 ex14 => ?_)
                  refine p_X7_171 C hP hS (by assumption) dX7_run_118 (fun H locs hP hS => ?_)
                  obtain ⟨I15, eI15⟩ : ∃ Znew : Nat → Nat → Int32, Znew = up2 I12 10 23 x14 := ⟨_, rfl⟩
                  rw [← eI15] at hP
                  refine lv_aload_n hx hb dX7_run_121 rfl (lv_at hl 0 rfl) ?_
                  refine f_X7_148 C hP (by first | assumption | exact hKa _ (by omega)) dX7_run_122 ?_
                  refine z_eq C dX7_run_125 (tgt := 132) (by decide) (fun h16 => ?_) (fun h16 => ?_)
                  · refine lv_aload_n hx hb dX7_run_132 rfl (lv_at hl 0 rfl) ?_
                    refine f_X7_152 C hP (by first | assumption | exact hKa _ (by omega)) dX7_run_133 ?_
                    refine z_eq C dX7_run_136 (tgt := 143) (by decide) (fun h17 => ?_) (fun h17 => ?_)
                    · refine lv_iconst (v := nI 0) hx hb dX7_run_143 (by decide) ?_
                      exact hret _ _ _ _ _ _ dX7_run_144 hP hS (by
                                    have hfl : I15 10 18 = (rS I).2.2.1 := by rw [eI15, up2_k (by decide), eI12, up2_k (by decide), hSS]; exact hzD
                                    have hfa : I15 10 19 = (rS I).2.2.2 := by rw [eI15, up2_k (by decide), eI12, up2_k (by decide), hSS]; exact hzA
                                    have hfl1 : I12 10 18 = (rS I).2.2.1 := by rw [eI12, up2_k (by decide), hSS]; exact hzD
                                    refine ⟨by unfold sRun; rw [hpk.1]; dsimp only; rw [if_neg (fun z => z (hfl.symm.trans h16)), if_neg (fun z => z (hfa.symm.trans h17))], fun z => absurd (hpk.1.symm.trans z) (by simp), fun _ => ?_⟩
                                    obtain ⟨g1, g2, g3, g4, g5, g6, g7⟩ := hz
                                    refine ⟨fun a f1 f2 f3 f4 f5 => by rw [eI15, up2_r f1, eI12, up2_r f1]; exact g1 a f1 f2 f3 f4 (by omega), fun i f1 f2 f3 f4 f5 f6 => by rw [eI15, up2_k f5, eI12, up2_k f4]; exact g2 i f1 f2 f3 f6, fun i hi => by rw [eI15, up2_r (by decide), eI12, up2_r (by decide), hSS]; exact g3.1 i hi, fun i hi => by rw [eI15, up2_r (by decide), eI12, up2_r (by decide), hSS]; exact g3.2.1 i hi, by rw [eI15, up2_k (by decide), eI12, up2_k (by decide), hN]; exact g4, ?_, ?_, by rw [eI15, up2_k (by decide), eI12, up2_k (by decide), hN]; exact g5, fun i hi t ht => by rw [eI15, up2_r (by decide), eI12, up2_r (by decide)]; exact g6 i (by omega) t ht⟩
                                    · rw [eI15, up2_k (by decide), eI12, up2_s, ex11, g2 22 (by decide) (by decide) (by decide) (by decide)]
                                    · rw [if_neg (fun z => z (hfl1.symm.trans h13)), eI15, up2_s, ex14, eI12, up2_k (by decide), g2 23 (by decide) (by decide) (by decide) (by decide)])
                    · refine lv_iconst (v := nI 2) hx hb dX7_run_139 (by decide) ?_
                      refine lv_goto (tgt := 144) hx hb dX7_run_140 (by decide) ?_
                      exact hret _ _ _ _ _ _ dX7_run_144 hP hS (by
                                    have hfl : I15 10 18 = (rS I).2.2.1 := by rw [eI15, up2_k (by decide), eI12, up2_k (by decide), hSS]; exact hzD
                                    have hfa : I15 10 19 = (rS I).2.2.2 := by rw [eI15, up2_k (by decide), eI12, up2_k (by decide), hSS]; exact hzA
                                    have hfl1 : I12 10 18 = (rS I).2.2.1 := by rw [eI12, up2_k (by decide), hSS]; exact hzD
                                    refine ⟨by unfold sRun; rw [hpk.1]; dsimp only; rw [if_neg (fun z => z (hfl.symm.trans h16)), if_pos (fun z => h17 (hfa.trans z))], fun z => absurd (hpk.1.symm.trans z) (by simp), fun _ => ?_⟩
                                    obtain ⟨g1, g2, g3, g4, g5, g6, g7⟩ := hz
                                    refine ⟨fun a f1 f2 f3 f4 f5 => by rw [eI15, up2_r f1, eI12, up2_r f1]; exact g1 a f1 f2 f3 f4 (by omega), fun i f1 f2 f3 f4 f5 f6 => by rw [eI15, up2_k f5, eI12, up2_k f4]; exact g2 i f1 f2 f3 f6, fun i hi => by rw [eI15, up2_r (by decide), eI12, up2_r (by decide), hSS]; exact g3.1 i hi, fun i hi => by rw [eI15, up2_r (by decide), eI12, up2_r (by decide), hSS]; exact g3.2.1 i hi, by rw [eI15, up2_k (by decide), eI12, up2_k (by decide), hN]; exact g4, ?_, ?_, by rw [eI15, up2_k (by decide), eI12, up2_k (by decide), hN]; exact g5, fun i hi t ht => by rw [eI15, up2_r (by decide), eI12, up2_r (by decide)]; exact g6 i (by omega) t ht⟩
                                    · rw [eI15, up2_k (by decide), eI12, up2_s, ex11, g2 22 (by decide) (by decide) (by decide) (by decide)]
                                    · rw [if_neg (fun z => z (hfl1.symm.trans h13)), eI15, up2_s, ex14, eI12, up2_k (by decide), g2 23 (by decide) (by decide) (by decide) (by decide)])
                  · refine lv_iconst (v := nI 1) hx hb dX7_run_128 (by decide) ?_
                    refine lv_goto (tgt := 144) hx hb dX7_run_129 (by decide) ?_
                    exact hret _ _ _ _ _ _ dX7_run_144 hP hS (by
                                  have hfl : I15 10 18 = (rS I).2.2.1 := by rw [eI15, up2_k (by decide), eI12, up2_k (by decide), hSS]; exact hzD
                                  have hfa : I15 10 19 = (rS I).2.2.2 := by rw [eI15, up2_k (by decide), eI12, up2_k (by decide), hSS]; exact hzA
                                  have hfl1 : I12 10 18 = (rS I).2.2.1 := by rw [eI12, up2_k (by decide), hSS]; exact hzD
                                  refine ⟨by unfold sRun; rw [hpk.1]; dsimp only; rw [if_pos (fun z => h16 (hfl.trans z))], fun z => absurd (hpk.1.symm.trans z) (by simp), fun _ => ?_⟩
                                  obtain ⟨g1, g2, g3, g4, g5, g6, g7⟩ := hz
                                  refine ⟨fun a f1 f2 f3 f4 f5 => by rw [eI15, up2_r f1, eI12, up2_r f1]; exact g1 a f1 f2 f3 f4 (by omega), fun i f1 f2 f3 f4 f5 f6 => by rw [eI15, up2_k f5, eI12, up2_k f4]; exact g2 i f1 f2 f3 f6, fun i hi => by rw [eI15, up2_r (by decide), eI12, up2_r (by decide), hSS]; exact g3.1 i hi, fun i hi => by rw [eI15, up2_r (by decide), eI12, up2_r (by decide), hSS]; exact g3.2.1 i hi, by rw [eI15, up2_k (by decide), eI12, up2_k (by decide), hN]; exact g4, ?_, ?_, by rw [eI15, up2_k (by decide), eI12, up2_k (by decide), hN]; exact g5, fun i hi t ht => by rw [eI15, up2_r (by decide), eI12, up2_r (by decide)]; exact g6 i (by omega) t ht⟩
                                  · rw [eI15, up2_k (by decide), eI12, up2_s, ex11, g2 22 (by decide) (by decide) (by decide) (by decide)]
                                  · rw [if_neg (fun z => z (hfl1.symm.trans h13)), eI15, up2_s, ex14, eI12, up2_k (by decide), g2 23 (by decide) (by decide) (by decide) (by decide)])
                · refine lv_iconst (v := nI 1) hx hb dX7_run_112 (by decide) ?_
                  refine lv_goto (tgt := 117) hx hb dX7_run_113 (by decide) ?_
                  refine lv_iadd hx hb dX7_run_117 ?_
                  refine lv_topi (fun x18 ex18 => ?_)
                  refine p_X7_171 C hP hS (by assumption) dX7_run_118 (fun H locs hP hS => ?_)
                  obtain ⟨I19, eI19⟩ : ∃ Znew : Nat → Nat → Int32, Znew = up2 I12 10 23 x18 := ⟨_, rfl⟩
                  rw [← eI19] at hP
                  refine lv_aload_n hx hb dX7_run_121 rfl (lv_at hl 0 rfl) ?_
                  refine f_X7_148 C hP (by first | assumption | exact hKa _ (by omega)) dX7_run_122 ?_
                  refine z_eq C dX7_run_125 (tgt := 132) (by decide) (fun h20 => ?_) (fun h20 => ?_)
                  · refine lv_aload_n hx hb dX7_run_132 rfl (lv_at hl 0 rfl) ?_
                    refine f_X7_152 C hP (by first | assumption | exact hKa _ (by omega)) dX7_run_133 ?_
                    refine z_eq C dX7_run_136 (tgt := 143) (by decide) (fun h21 => ?_) (fun h21 => ?_)
                    · refine lv_iconst (v := nI 0) hx hb dX7_run_143 (by decide) ?_
                      exact hret _ _ _ _ _ _ dX7_run_144 hP hS (by
                                    have hfl : I19 10 18 = (rS I).2.2.1 := by rw [eI19, up2_k (by decide), eI12, up2_k (by decide), hSS]; exact hzD
                                    have hfa : I19 10 19 = (rS I).2.2.2 := by rw [eI19, up2_k (by decide), eI12, up2_k (by decide), hSS]; exact hzA
                                    have hfl1 : I12 10 18 = (rS I).2.2.1 := by rw [eI12, up2_k (by decide), hSS]; exact hzD
                                    refine ⟨by unfold sRun; rw [hpk.1]; dsimp only; rw [if_neg (fun z => z (hfl.symm.trans h20)), if_neg (fun z => z (hfa.symm.trans h21))], fun z => absurd (hpk.1.symm.trans z) (by simp), fun _ => ?_⟩
                                    obtain ⟨g1, g2, g3, g4, g5, g6, g7⟩ := hz
                                    refine ⟨fun a f1 f2 f3 f4 f5 => by rw [eI19, up2_r f1, eI12, up2_r f1]; exact g1 a f1 f2 f3 f4 (by omega), fun i f1 f2 f3 f4 f5 f6 => by rw [eI19, up2_k f5, eI12, up2_k f4]; exact g2 i f1 f2 f3 f6, fun i hi => by rw [eI19, up2_r (by decide), eI12, up2_r (by decide), hSS]; exact g3.1 i hi, fun i hi => by rw [eI19, up2_r (by decide), eI12, up2_r (by decide), hSS]; exact g3.2.1 i hi, by rw [eI19, up2_k (by decide), eI12, up2_k (by decide), hN]; exact g4, ?_, ?_, by rw [eI19, up2_k (by decide), eI12, up2_k (by decide), hN]; exact g5, fun i hi t ht => by rw [eI19, up2_r (by decide), eI12, up2_r (by decide)]; exact g6 i (by omega) t ht⟩
                                    · rw [eI19, up2_k (by decide), eI12, up2_s, ex11, g2 22 (by decide) (by decide) (by decide) (by decide)]
                                    · rw [if_pos (fun z => h13 (hfl1.trans z)), eI19, up2_s, ex18, eI12, up2_k (by decide), g2 23 (by decide) (by decide) (by decide) (by decide)])
                    · refine lv_iconst (v := nI 2) hx hb dX7_run_139 (by decide) ?_
                      refine lv_goto (tgt := 144) hx hb dX7_run_140 (by decide) ?_
                      exact hret _ _ _ _ _ _ dX7_run_144 hP hS (by
                                    have hfl : I19 10 18 = (rS I).2.2.1 := by rw [eI19, up2_k (by decide), eI12, up2_k (by decide), hSS]; exact hzD
                                    have hfa : I19 10 19 = (rS I).2.2.2 := by rw [eI19, up2_k (by decide), eI12, up2_k (by decide), hSS]; exact hzA
                                    have hfl1 : I12 10 18 = (rS I).2.2.1 := by rw [eI12, up2_k (by decide), hSS]; exact hzD
                                    refine ⟨by unfold sRun; rw [hpk.1]; dsimp only; rw [if_neg (fun z => z (hfl.symm.trans h20)), if_pos (fun z => h21 (hfa.trans z))], fun z => absurd (hpk.1.symm.trans z) (by simp), fun _ => ?_⟩
                                    obtain ⟨g1, g2, g3, g4, g5, g6, g7⟩ := hz
                                    refine ⟨fun a f1 f2 f3 f4 f5 => by rw [eI19, up2_r f1, eI12, up2_r f1]; exact g1 a f1 f2 f3 f4 (by omega), fun i f1 f2 f3 f4 f5 f6 => by rw [eI19, up2_k f5, eI12, up2_k f4]; exact g2 i f1 f2 f3 f6, fun i hi => by rw [eI19, up2_r (by decide), eI12, up2_r (by decide), hSS]; exact g3.1 i hi, fun i hi => by rw [eI19, up2_r (by decide), eI12, up2_r (by decide), hSS]; exact g3.2.1 i hi, by rw [eI19, up2_k (by decide), eI12, up2_k (by decide), hN]; exact g4, ?_, ?_, by rw [eI19, up2_k (by decide), eI12, up2_k (by decide), hN]; exact g5, fun i hi t ht => by rw [eI19, up2_r (by decide), eI12, up2_r (by decide)]; exact g6 i (by omega) t ht⟩
                                    · rw [eI19, up2_k (by decide), eI12, up2_s, ex11, g2 22 (by decide) (by decide) (by decide) (by decide)]
                                    · rw [if_pos (fun z => h13 (hfl1.trans z)), eI19, up2_s, ex18, eI12, up2_k (by decide), g2 23 (by decide) (by decide) (by decide) (by decide)])
                  · refine lv_iconst (v := nI 1) hx hb dX7_run_128 (by decide) ?_
                    refine lv_goto (tgt := 144) hx hb dX7_run_129 (by decide) ?_
                    exact hret _ _ _ _ _ _ dX7_run_144 hP hS (by
                                  have hfl : I19 10 18 = (rS I).2.2.1 := by rw [eI19, up2_k (by decide), eI12, up2_k (by decide), hSS]; exact hzD
                                  have hfa : I19 10 19 = (rS I).2.2.2 := by rw [eI19, up2_k (by decide), eI12, up2_k (by decide), hSS]; exact hzA
                                  have hfl1 : I12 10 18 = (rS I).2.2.1 := by rw [eI12, up2_k (by decide), hSS]; exact hzD
                                  refine ⟨by unfold sRun; rw [hpk.1]; dsimp only; rw [if_pos (fun z => h20 (hfl.trans z))], fun z => absurd (hpk.1.symm.trans z) (by simp), fun _ => ?_⟩
                                  obtain ⟨g1, g2, g3, g4, g5, g6, g7⟩ := hz
                                  refine ⟨fun a f1 f2 f3 f4 f5 => by rw [eI19, up2_r f1, eI12, up2_r f1]; exact g1 a f1 f2 f3 f4 (by omega), fun i f1 f2 f3 f4 f5 f6 => by rw [eI19, up2_k f5, eI12, up2_k f4]; exact g2 i f1 f2 f3 f6, fun i hi => by rw [eI19, up2_r (by decide), eI12, up2_r (by decide), hSS]; exact g3.1 i hi, fun i hi => by rw [eI19, up2_r (by decide), eI12, up2_r (by decide), hSS]; exact g3.2.1 i hi, by rw [eI19, up2_k (by decide), eI12, up2_k (by decide), hN]; exact g4, ?_, ?_, by rw [eI19, up2_k (by decide), eI12, up2_k (by decide), hN]; exact g5, fun i hi t ht => by rw [eI19, up2_r (by decide), eI12, up2_r (by decide)]; exact g6 i (by omega) t ht⟩
                                  · rw [eI19, up2_k (by decide), eI12, up2_s, ex11, g2 22 (by decide) (by decide) (by decide) (by decide)]
                                  · rw [if_pos (fun z => h13 (hfl1.trans z)), eI19, up2_s, ex18, eI12, up2_k (by decide), g2 23 (by decide) (by decide) (by decide) (by decide)])
              · refine lv_aload_n hx hb dX7_run_58 rfl (lv_at hl 0 rfl) ?_
                refine f_X7_148 C hP (by first | assumption | exact hKa _ (by omega)) dX7_run_59 ?_
                refine z_ne C dX7_run_62 (tgt := 90) (by decide) (fun h22 => ?_) (fun h22 => ?_)
                · have hN : rN I = q := run_no hz (fun g => h22 (hzD.trans g.2))
                  have hSS : rS I = itR I (pS0 I) q := by unfold rS; rw [hN]
                  refine lv_aload_n hx hb dX7_run_90 rfl (lv_at hl 0 rfl) ?_
                  refine lv_dup hx hb dX7_run_91 rfl ?_
                  refine f_X7_168 C hP (by first | assumption | exact hKa _ (by omega)) dX7_run_92 ?_
                  refine lv_iconst (v := nI 1) hx hb dX7_run_95 (by decide) ?_
                  refine lv_iadd hx hb dX7_run_96 ?_
                  refine lv_topi (fun x23 ex23 => ?_)
                  refine p_X7_168 C hP hS (by assumption) dX7_run_97 (fun H locs hP hS => ?_)
                  obtain ⟨I24, eI24⟩ : ∃ Znew : Nat → Nat → Int32, Znew = up2 Z 10 22 x23 := ⟨_, rfl⟩
                  rw [← eI24] at hP
                  refine lv_aload_n hx hb dX7_run_100 rfl (lv_at hl 0 rfl) ?_
                  refine lv_dup hx hb dX7_run_101 rfl ?_
                  refine f_X7_171 C hP (by first | assumption | exact hKa _ (by omega)) dX7_run_102 ?_
                  refine lv_aload_n hx hb dX7_run_105 rfl (lv_at hl 0 rfl) ?_
                  refine f_X7_148 C hP (by first | assumption | exact hKa _ (by omega)) dX7_run_106 ?_
                  refine z_eq C dX7_run_109 (tgt := 116) (by decide) (fun h25 => ?_) (fun h25 => ?_)
                  · refine lv_iconst (v := nI 0) hx hb dX7_run_116 (by decide) ?_
                    refine lv_iadd hx hb dX7_run_117 ?_
                    refine lv_topi (fun x26 ex26 => ?_)
                    refine p_X7_171 C hP hS (by assumption) dX7_run_118 (fun H locs hP hS => ?_)
                    obtain ⟨I27, eI27⟩ : ∃ Znew : Nat → Nat → Int32, Znew = up2 I24 10 23 x26 := ⟨_, rfl⟩
                    rw [← eI27] at hP
                    refine lv_aload_n hx hb dX7_run_121 rfl (lv_at hl 0 rfl) ?_
                    refine f_X7_148 C hP (by first | assumption | exact hKa _ (by omega)) dX7_run_122 ?_
                    refine z_eq C dX7_run_125 (tgt := 132) (by decide) (fun h28 => ?_) (fun h28 => ?_)
                    · refine lv_aload_n hx hb dX7_run_132 rfl (lv_at hl 0 rfl) ?_
                      refine f_X7_152 C hP (by first | assumption | exact hKa _ (by omega)) dX7_run_133 ?_
                      refine z_eq C dX7_run_136 (tgt := 143) (by decide) (fun h29 => ?_) (fun h29 => ?_)
                      · refine lv_iconst (v := nI 0) hx hb dX7_run_143 (by decide) ?_
                        exact hret _ _ _ _ _ _ dX7_run_144 hP hS (by
                                      have hfl : I27 10 18 = (rS I).2.2.1 := by rw [eI27, up2_k (by decide), eI24, up2_k (by decide), hSS]; exact hzD
                                      have hfa : I27 10 19 = (rS I).2.2.2 := by rw [eI27, up2_k (by decide), eI24, up2_k (by decide), hSS]; exact hzA
                                      have hfl1 : I24 10 18 = (rS I).2.2.1 := by rw [eI24, up2_k (by decide), hSS]; exact hzD
                                      refine ⟨by unfold sRun; rw [hpk.1]; dsimp only; rw [if_neg (fun z => z (hfl.symm.trans h28)), if_neg (fun z => z (hfa.symm.trans h29))], fun z => absurd (hpk.1.symm.trans z) (by simp), fun _ => ?_⟩
                                      obtain ⟨g1, g2, g3, g4, g5, g6, g7⟩ := hz
                                      refine ⟨fun a f1 f2 f3 f4 f5 => by rw [eI27, up2_r f1, eI24, up2_r f1]; exact g1 a f1 f2 f3 f4 (by omega), fun i f1 f2 f3 f4 f5 f6 => by rw [eI27, up2_k f5, eI24, up2_k f4]; exact g2 i f1 f2 f3 f6, fun i hi => by rw [eI27, up2_r (by decide), eI24, up2_r (by decide), hSS]; exact g3.1 i hi, fun i hi => by rw [eI27, up2_r (by decide), eI24, up2_r (by decide), hSS]; exact g3.2.1 i hi, by rw [eI27, up2_k (by decide), eI24, up2_k (by decide), hN]; exact g4, ?_, ?_, by rw [eI27, up2_k (by decide), eI24, up2_k (by decide), hN]; exact g5, fun i hi t ht => by rw [eI27, up2_r (by decide), eI24, up2_r (by decide)]; exact g6 i (by omega) t ht⟩
                                      · rw [eI27, up2_k (by decide), eI24, up2_s, ex23, g2 22 (by decide) (by decide) (by decide) (by decide)]
                                      · rw [if_neg (fun z => z (hfl1.symm.trans h25)), eI27, up2_s, ex26, eI24, up2_k (by decide), g2 23 (by decide) (by decide) (by decide) (by decide)])
                      · refine lv_iconst (v := nI 2) hx hb dX7_run_139 (by decide) ?_
                        refine lv_goto (tgt := 144) hx hb dX7_run_140 (by decide) ?_
                        exact hret _ _ _ _ _ _ dX7_run_144 hP hS (by
                                      have hfl : I27 10 18 = (rS I).2.2.1 := by rw [eI27, up2_k (by decide), eI24, up2_k (by decide), hSS]; exact hzD
                                      have hfa : I27 10 19 = (rS I).2.2.2 := by rw [eI27, up2_k (by decide), eI24, up2_k (by decide), hSS]; exact hzA
                                      have hfl1 : I24 10 18 = (rS I).2.2.1 := by rw [eI24, up2_k (by decide), hSS]; exact hzD
                                      refine ⟨by unfold sRun; rw [hpk.1]; dsimp only; rw [if_neg (fun z => z (hfl.symm.trans h28)), if_pos (fun z => h29 (hfa.trans z))], fun z => absurd (hpk.1.symm.trans z) (by simp), fun _ => ?_⟩
                                      obtain ⟨g1, g2, g3, g4, g5, g6, g7⟩ := hz
                                      refine ⟨fun a f1 f2 f3 f4 f5 => by rw [eI27, up2_r f1, eI24, up2_r f1]; exact g1 a f1 f2 f3 f4 (by omega), fun i f1 f2 f3 f4 f5 f6 => by rw [eI27, up2_k f5, eI24, up2_k f4]; exact g2 i f1 f2 f3 f6, fun i hi => by rw [eI27, up2_r (by decide), eI24, up2_r (by decide), hSS]; exact g3.1 i hi, fun i hi => by rw [eI27, up2_r (by decide), eI24, up2_r (by decide), hSS]; exact g3.2.1 i hi, by rw [eI27, up2_k (by decide), eI24, up2_k (by decide), hN]; exact g4, ?_, ?_, by rw [eI27, up2_k (by decide), eI24, up2_k (by decide), hN]; exact g5, fun i hi t ht => by rw [eI27, up2_r (by decide), eI24, up2_r (by decide)]; exact g6 i (by omega) t ht⟩
                                      · rw [eI27, up2_k (by decide), eI24, up2_s, ex23, g2 22 (by decide) (by decide) (by decide) (by decide)]
                                      · rw [if_neg (fun z => z (hfl1.symm.trans h25)), eI27, up2_s, ex26, eI24, up2_k (by decide), g2 23 (by decide) (by decide) (by decide) (by decide)])
                    · refine lv_iconst (v := nI 1) hx hb dX7_run_128 (by decide) ?_
                      refine lv_goto (tgt := 144) hx hb dX7_run_129 (by decide) ?_
                      exact hret _ _ _ _ _ _ dX7_run_144 hP hS (by
                                    have hfl : I27 10 18 = (rS I).2.2.1 := by rw [eI27, up2_k (by decide), eI24, up2_k (by decide), hSS]; exact hzD
                                    have hfa : I27 10 19 = (rS I).2.2.2 := by rw [eI27, up2_k (by decide), eI24, up2_k (by decide), hSS]; exact hzA
                                    have hfl1 : I24 10 18 = (rS I).2.2.1 := by rw [eI24, up2_k (by decide), hSS]; exact hzD
                                    refine ⟨by unfold sRun; rw [hpk.1]; dsimp only; rw [if_pos (fun z => h28 (hfl.trans z))], fun z => absurd (hpk.1.symm.trans z) (by simp), fun _ => ?_⟩
                                    obtain ⟨g1, g2, g3, g4, g5, g6, g7⟩ := hz
                                    refine ⟨fun a f1 f2 f3 f4 f5 => by rw [eI27, up2_r f1, eI24, up2_r f1]; exact g1 a f1 f2 f3 f4 (by omega), fun i f1 f2 f3 f4 f5 f6 => by rw [eI27, up2_k f5, eI24, up2_k f4]; exact g2 i f1 f2 f3 f6, fun i hi => by rw [eI27, up2_r (by decide), eI24, up2_r (by decide), hSS]; exact g3.1 i hi, fun i hi => by rw [eI27, up2_r (by decide), eI24, up2_r (by decide), hSS]; exact g3.2.1 i hi, by rw [eI27, up2_k (by decide), eI24, up2_k (by decide), hN]; exact g4, ?_, ?_, by rw [eI27, up2_k (by decide), eI24, up2_k (by decide), hN]; exact g5, fun i hi t ht => by rw [eI27, up2_r (by decide), eI24, up2_r (by decide)]; exact g6 i (by omega) t ht⟩
                                    · rw [eI27, up2_k (by decide), eI24, up2_s, ex23, g2 22 (by decide) (by decide) (by decide) (by decide)]
                                    · rw [if_neg (fun z => z (hfl1.symm.trans h25)), eI27, up2_s, ex26, eI24, up2_k (by decide), g2 23 (by decide) (by decide) (by decide) (by decide)])
                  · refine lv_iconst (v := nI 1) hx hb dX7_run_112 (by decide) ?_
                    refine lv_goto (tgt := 117) hx hb dX7_run_113 (by decide) ?_
                    refine lv_iadd hx hb dX7_run_117 ?_
                    refine lv_topi (fun x30 ex30 => ?_)
                    refine p_X7_171 C hP hS (by assumption) dX7_run_118 (fun H locs hP hS => ?_)
                    obtain ⟨I31, eI31⟩ : ∃ Znew : Nat → Nat → Int32, Znew = up2 I24 10 23 x30 := ⟨_, rfl⟩
                    rw [← eI31] at hP
                    refine lv_aload_n hx hb dX7_run_121 rfl (lv_at hl 0 rfl) ?_
                    refine f_X7_148 C hP (by first | assumption | exact hKa _ (by omega)) dX7_run_122 ?_
                    refine z_eq C dX7_run_125 (tgt := 132) (by decide) (fun h32 => ?_) (fun h32 => ?_)
                    · refine lv_aload_n hx hb dX7_run_132 rfl (lv_at hl 0 rfl) ?_
                      refine f_X7_152 C hP (by first | assumption | exact hKa _ (by omega)) dX7_run_133 ?_
                      refine z_eq C dX7_run_136 (tgt := 143) (by decide) (fun h33 => ?_) (fun h33 => ?_)
                      · refine lv_iconst (v := nI 0) hx hb dX7_run_143 (by decide) ?_
                        exact hret _ _ _ _ _ _ dX7_run_144 hP hS (by
                                      have hfl : I31 10 18 = (rS I).2.2.1 := by rw [eI31, up2_k (by decide), eI24, up2_k (by decide), hSS]; exact hzD
                                      have hfa : I31 10 19 = (rS I).2.2.2 := by rw [eI31, up2_k (by decide), eI24, up2_k (by decide), hSS]; exact hzA
                                      have hfl1 : I24 10 18 = (rS I).2.2.1 := by rw [eI24, up2_k (by decide), hSS]; exact hzD
                                      refine ⟨by unfold sRun; rw [hpk.1]; dsimp only; rw [if_neg (fun z => z (hfl.symm.trans h32)), if_neg (fun z => z (hfa.symm.trans h33))], fun z => absurd (hpk.1.symm.trans z) (by simp), fun _ => ?_⟩
                                      obtain ⟨g1, g2, g3, g4, g5, g6, g7⟩ := hz
                                      refine ⟨fun a f1 f2 f3 f4 f5 => by rw [eI31, up2_r f1, eI24, up2_r f1]; exact g1 a f1 f2 f3 f4 (by omega), fun i f1 f2 f3 f4 f5 f6 => by rw [eI31, up2_k f5, eI24, up2_k f4]; exact g2 i f1 f2 f3 f6, fun i hi => by rw [eI31, up2_r (by decide), eI24, up2_r (by decide), hSS]; exact g3.1 i hi, fun i hi => by rw [eI31, up2_r (by decide), eI24, up2_r (by decide), hSS]; exact g3.2.1 i hi, by rw [eI31, up2_k (by decide), eI24, up2_k (by decide), hN]; exact g4, ?_, ?_, by rw [eI31, up2_k (by decide), eI24, up2_k (by decide), hN]; exact g5, fun i hi t ht => by rw [eI31, up2_r (by decide), eI24, up2_r (by decide)]; exact g6 i (by omega) t ht⟩
                                      · rw [eI31, up2_k (by decide), eI24, up2_s, ex23, g2 22 (by decide) (by decide) (by decide) (by decide)]
                                      · rw [if_pos (fun z => h25 (hfl1.trans z)), eI31, up2_s, ex30, eI24, up2_k (by decide), g2 23 (by decide) (by decide) (by decide) (by decide)])
                      · refine lv_iconst (v := nI 2) hx hb dX7_run_139 (by decide) ?_
                        refine lv_goto (tgt := 144) hx hb dX7_run_140 (by decide) ?_
                        exact hret _ _ _ _ _ _ dX7_run_144 hP hS (by
                                      have hfl : I31 10 18 = (rS I).2.2.1 := by rw [eI31, up2_k (by decide), eI24, up2_k (by decide), hSS]; exact hzD
                                      have hfa : I31 10 19 = (rS I).2.2.2 := by rw [eI31, up2_k (by decide), eI24, up2_k (by decide), hSS]; exact hzA
                                      have hfl1 : I24 10 18 = (rS I).2.2.1 := by rw [eI24, up2_k (by decide), hSS]; exact hzD
                                      refine ⟨by unfold sRun; rw [hpk.1]; dsimp only; rw [if_neg (fun z => z (hfl.symm.trans h32)), if_pos (fun z => h33 (hfa.trans z))], fun z => absurd (hpk.1.symm.trans z) (by simp), fun _ => ?_⟩
                                      obtain ⟨g1, g2, g3, g4, g5, g6, g7⟩ := hz
                                      refine ⟨fun a f1 f2 f3 f4 f5 => by rw [eI31, up2_r f1, eI24, up2_r f1]; exact g1 a f1 f2 f3 f4 (by omega), fun i f1 f2 f3 f4 f5 f6 => by rw [eI31, up2_k f5, eI24, up2_k f4]; exact g2 i f1 f2 f3 f6, fun i hi => by rw [eI31, up2_r (by decide), eI24, up2_r (by decide), hSS]; exact g3.1 i hi, fun i hi => by rw [eI31, up2_r (by decide), eI24, up2_r (by decide), hSS]; exact g3.2.1 i hi, by rw [eI31, up2_k (by decide), eI24, up2_k (by decide), hN]; exact g4, ?_, ?_, by rw [eI31, up2_k (by decide), eI24, up2_k (by decide), hN]; exact g5, fun i hi t ht => by rw [eI31, up2_r (by decide), eI24, up2_r (by decide)]; exact g6 i (by omega) t ht⟩
                                      · rw [eI31, up2_k (by decide), eI24, up2_s, ex23, g2 22 (by decide) (by decide) (by decide) (by decide)]
                                      · rw [if_pos (fun z => h25 (hfl1.trans z)), eI31, up2_s, ex30, eI24, up2_k (by decide), g2 23 (by decide) (by decide) (by decide) (by decide)])
                    · refine lv_iconst (v := nI 1) hx hb dX7_run_128 (by decide) ?_
                      refine lv_goto (tgt := 144) hx hb dX7_run_129 (by decide) ?_
                      exact hret _ _ _ _ _ _ dX7_run_144 hP hS (by
                                    have hfl : I31 10 18 = (rS I).2.2.1 := by rw [eI31, up2_k (by decide), eI24, up2_k (by decide), hSS]; exact hzD
                                    have hfa : I31 10 19 = (rS I).2.2.2 := by rw [eI31, up2_k (by decide), eI24, up2_k (by decide), hSS]; exact hzA
                                    have hfl1 : I24 10 18 = (rS I).2.2.1 := by rw [eI24, up2_k (by decide), hSS]; exact hzD
                                    refine ⟨by unfold sRun; rw [hpk.1]; dsimp only; rw [if_pos (fun z => h32 (hfl.trans z))], fun z => absurd (hpk.1.symm.trans z) (by simp), fun _ => ?_⟩
                                    obtain ⟨g1, g2, g3, g4, g5, g6, g7⟩ := hz
                                    refine ⟨fun a f1 f2 f3 f4 f5 => by rw [eI31, up2_r f1, eI24, up2_r f1]; exact g1 a f1 f2 f3 f4 (by omega), fun i f1 f2 f3 f4 f5 f6 => by rw [eI31, up2_k f5, eI24, up2_k f4]; exact g2 i f1 f2 f3 f6, fun i hi => by rw [eI31, up2_r (by decide), eI24, up2_r (by decide), hSS]; exact g3.1 i hi, fun i hi => by rw [eI31, up2_r (by decide), eI24, up2_r (by decide), hSS]; exact g3.2.1 i hi, by rw [eI31, up2_k (by decide), eI24, up2_k (by decide), hN]; exact g4, ?_, ?_, by rw [eI31, up2_k (by decide), eI24, up2_k (by decide), hN]; exact g5, fun i hi t ht => by rw [eI31, up2_r (by decide), eI24, up2_r (by decide)]; exact g6 i (by omega) t ht⟩
                                    · rw [eI31, up2_k (by decide), eI24, up2_s, ex23, g2 22 (by decide) (by decide) (by decide) (by decide)]
                                    · rw [if_pos (fun z => h25 (hfl1.trans z)), eI31, up2_s, ex30, eI24, up2_k (by decide), g2 23 (by decide) (by decide) (by decide) (by decide)])
                · refine lv_aload_n hx hb dX7_run_65 rfl (lv_at hl 0 rfl) ?_
                  refine f_X7_155 C hP (by first | assumption | exact hKa _ (by omega)) dX7_run_66 ?_
                  refine r_eqi (y := (nI q)) (hz.2.2.2.1) ?_
                  refine lv_aload_n hx hb dX7_run_69 rfl (lv_at hl 0 rfl) ?_
                  refine f_X7_34 (q := 19) C hP (by assumption) (by assumption) rfl dX7_run_70 ?_
                  refine lv_iconst (v := nI 3) hx hb dX7_run_73 (by decide) ?_
                  refine r_iald (n := 4) C hP (by assumption) (by omega) (by decide) dX7_run_74 ?_
                  refine r_eqi (y := (nI (ru I 3))) (hZ19) ?_
                  refine b_geN C (by omega) (by omega) dX7_run_75 (tgt := 90) (by decide) (fun h34 => ?_) (fun h34 => ?_)
                  · have hN : rN I = q := run_ov hz (by omega)
                    have hSS : rS I = itR I (pS0 I) q := by unfold rS; rw [hN]
                    refine lv_aload_n hx hb dX7_run_90 rfl (lv_at hl 0 rfl) ?_
                    refine lv_dup hx hb dX7_run_91 rfl ?_
                    refine f_X7_168 C hP (by first | assumption | exact hKa _ (by omega)) dX7_run_92 ?_
                    refine lv_iconst (v := nI 1) hx hb dX7_run_95 (by decide) ?_
                    refine lv_iadd hx hb dX7_run_96 ?_
                    refine lv_topi (fun x35 ex35 => ?_)
                    refine p_X7_168 C hP hS (by assumption) dX7_run_97 (fun H locs hP hS => ?_)
                    obtain ⟨I36, eI36⟩ : ∃ Znew : Nat → Nat → Int32, Znew = up2 Z 10 22 x35 := ⟨_, rfl⟩
                    rw [← eI36] at hP
                    refine lv_aload_n hx hb dX7_run_100 rfl (lv_at hl 0 rfl) ?_
                    refine lv_dup hx hb dX7_run_101 rfl ?_
                    refine f_X7_171 C hP (by first | assumption | exact hKa _ (by omega)) dX7_run_102 ?_
                    refine lv_aload_n hx hb dX7_run_105 rfl (lv_at hl 0 rfl) ?_
                    refine f_X7_148 C hP (by first | assumption | exact hKa _ (by omega)) dX7_run_106 ?_
                    refine z_eq C dX7_run_109 (tgt := 116) (by decide) (fun h37 => ?_) (fun h37 => ?_)
                    · refine lv_iconst (v := nI 0) hx hb dX7_run_116 (by decide) ?_
                      refine lv_iadd hx hb dX7_run_117 ?_
                      refine lv_topi (fun x38 ex38 => ?_)
                      refine p_X7_171 C hP hS (by assumption) dX7_run_118 (fun H locs hP hS => ?_)
                      obtain ⟨I39, eI39⟩ : ∃ Znew : Nat → Nat → Int32, Znew = up2 I36 10 23 x38 := ⟨_, rfl⟩
                      rw [← eI39] at hP
                      refine lv_aload_n hx hb dX7_run_121 rfl (lv_at hl 0 rfl) ?_
                      refine f_X7_148 C hP (by first | assumption | exact hKa _ (by omega)) dX7_run_122 ?_
                      refine z_eq C dX7_run_125 (tgt := 132) (by decide) (fun h40 => ?_) (fun h40 => ?_)
                      · refine lv_aload_n hx hb dX7_run_132 rfl (lv_at hl 0 rfl) ?_
                        refine f_X7_152 C hP (by first | assumption | exact hKa _ (by omega)) dX7_run_133 ?_
                        refine z_eq C dX7_run_136 (tgt := 143) (by decide) (fun h41 => ?_) (fun h41 => ?_)
                        · refine lv_iconst (v := nI 0) hx hb dX7_run_143 (by decide) ?_
                          exact hret _ _ _ _ _ _ dX7_run_144 hP hS (by
                                        have hfl : I39 10 18 = (rS I).2.2.1 := by rw [eI39, up2_k (by decide), eI36, up2_k (by decide), hSS]; exact hzD
                                        have hfa : I39 10 19 = (rS I).2.2.2 := by rw [eI39, up2_k (by decide), eI36, up2_k (by decide), hSS]; exact hzA
                                        have hfl1 : I36 10 18 = (rS I).2.2.1 := by rw [eI36, up2_k (by decide), hSS]; exact hzD
                                        refine ⟨by unfold sRun; rw [hpk.1]; dsimp only; rw [if_neg (fun z => z (hfl.symm.trans h40)), if_neg (fun z => z (hfa.symm.trans h41))], fun z => absurd (hpk.1.symm.trans z) (by simp), fun _ => ?_⟩
                                        obtain ⟨g1, g2, g3, g4, g5, g6, g7⟩ := hz
                                        refine ⟨fun a f1 f2 f3 f4 f5 => by rw [eI39, up2_r f1, eI36, up2_r f1]; exact g1 a f1 f2 f3 f4 (by omega), fun i f1 f2 f3 f4 f5 f6 => by rw [eI39, up2_k f5, eI36, up2_k f4]; exact g2 i f1 f2 f3 f6, fun i hi => by rw [eI39, up2_r (by decide), eI36, up2_r (by decide), hSS]; exact g3.1 i hi, fun i hi => by rw [eI39, up2_r (by decide), eI36, up2_r (by decide), hSS]; exact g3.2.1 i hi, by rw [eI39, up2_k (by decide), eI36, up2_k (by decide), hN]; exact g4, ?_, ?_, by rw [eI39, up2_k (by decide), eI36, up2_k (by decide), hN]; exact g5, fun i hi t ht => by rw [eI39, up2_r (by decide), eI36, up2_r (by decide)]; exact g6 i (by omega) t ht⟩
                                        · rw [eI39, up2_k (by decide), eI36, up2_s, ex35, g2 22 (by decide) (by decide) (by decide) (by decide)]
                                        · rw [if_neg (fun z => z (hfl1.symm.trans h37)), eI39, up2_s, ex38, eI36, up2_k (by decide), g2 23 (by decide) (by decide) (by decide) (by decide)])
                        · refine lv_iconst (v := nI 2) hx hb dX7_run_139 (by decide) ?_
                          refine lv_goto (tgt := 144) hx hb dX7_run_140 (by decide) ?_
                          exact hret _ _ _ _ _ _ dX7_run_144 hP hS (by
                                        have hfl : I39 10 18 = (rS I).2.2.1 := by rw [eI39, up2_k (by decide), eI36, up2_k (by decide), hSS]; exact hzD
                                        have hfa : I39 10 19 = (rS I).2.2.2 := by rw [eI39, up2_k (by decide), eI36, up2_k (by decide), hSS]; exact hzA
                                        have hfl1 : I36 10 18 = (rS I).2.2.1 := by rw [eI36, up2_k (by decide), hSS]; exact hzD
                                        refine ⟨by unfold sRun; rw [hpk.1]; dsimp only; rw [if_neg (fun z => z (hfl.symm.trans h40)), if_pos (fun z => h41 (hfa.trans z))], fun z => absurd (hpk.1.symm.trans z) (by simp), fun _ => ?_⟩
                                        obtain ⟨g1, g2, g3, g4, g5, g6, g7⟩ := hz
                                        refine ⟨fun a f1 f2 f3 f4 f5 => by rw [eI39, up2_r f1, eI36, up2_r f1]; exact g1 a f1 f2 f3 f4 (by omega), fun i f1 f2 f3 f4 f5 f6 => by rw [eI39, up2_k f5, eI36, up2_k f4]; exact g2 i f1 f2 f3 f6, fun i hi => by rw [eI39, up2_r (by decide), eI36, up2_r (by decide), hSS]; exact g3.1 i hi, fun i hi => by rw [eI39, up2_r (by decide), eI36, up2_r (by decide), hSS]; exact g3.2.1 i hi, by rw [eI39, up2_k (by decide), eI36, up2_k (by decide), hN]; exact g4, ?_, ?_, by rw [eI39, up2_k (by decide), eI36, up2_k (by decide), hN]; exact g5, fun i hi t ht => by rw [eI39, up2_r (by decide), eI36, up2_r (by decide)]; exact g6 i (by omega) t ht⟩
                                        · rw [eI39, up2_k (by decide), eI36, up2_s, ex35, g2 22 (by decide) (by decide) (by decide) (by decide)]
                                        · rw [if_neg (fun z => z (hfl1.symm.trans h37)), eI39, up2_s, ex38, eI36, up2_k (by decide), g2 23 (by decide) (by decide) (by decide) (by decide)])
                      · refine lv_iconst (v := nI 1) hx hb dX7_run_128 (by decide) ?_
                        refine lv_goto (tgt := 144) hx hb dX7_run_129 (by decide) ?_
                        exact hret _ _ _ _ _ _ dX7_run_144 hP hS (by
                                      have hfl : I39 10 18 = (rS I).2.2.1 := by rw [eI39, up2_k (by decide), eI36, up2_k (by decide), hSS]; exact hzD
                                      have hfa : I39 10 19 = (rS I).2.2.2 := by rw [eI39, up2_k (by decide), eI36, up2_k (by decide), hSS]; exact hzA
                                      have hfl1 : I36 10 18 = (rS I).2.2.1 := by rw [eI36, up2_k (by decide), hSS]; exact hzD
                                      refine ⟨by unfold sRun; rw [hpk.1]; dsimp only; rw [if_pos (fun z => h40 (hfl.trans z))], fun z => absurd (hpk.1.symm.trans z) (by simp), fun _ => ?_⟩
                                      obtain ⟨g1, g2, g3, g4, g5, g6, g7⟩ := hz
                                      refine ⟨fun a f1 f2 f3 f4 f5 => by rw [eI39, up2_r f1, eI36, up2_r f1]; exact g1 a f1 f2 f3 f4 (by omega), fun i f1 f2 f3 f4 f5 f6 => by rw [eI39, up2_k f5, eI36, up2_k f4]; exact g2 i f1 f2 f3 f6, fun i hi => by rw [eI39, up2_r (by decide), eI36, up2_r (by decide), hSS]; exact g3.1 i hi, fun i hi => by rw [eI39, up2_r (by decide), eI36, up2_r (by decide), hSS]; exact g3.2.1 i hi, by rw [eI39, up2_k (by decide), eI36, up2_k (by decide), hN]; exact g4, ?_, ?_, by rw [eI39, up2_k (by decide), eI36, up2_k (by decide), hN]; exact g5, fun i hi t ht => by rw [eI39, up2_r (by decide), eI36, up2_r (by decide)]; exact g6 i (by omega) t ht⟩
                                      · rw [eI39, up2_k (by decide), eI36, up2_s, ex35, g2 22 (by decide) (by decide) (by decide) (by decide)]
                                      · rw [if_neg (fun z => z (hfl1.symm.trans h37)), eI39, up2_s, ex38, eI36, up2_k (by decide), g2 23 (by decide) (by decide) (by decide) (by decide)])
                    · refine lv_iconst (v := nI 1) hx hb dX7_run_112 (by decide) ?_
                      refine lv_goto (tgt := 117) hx hb dX7_run_113 (by decide) ?_
                      refine lv_iadd hx hb dX7_run_117 ?_
                      refine lv_topi (fun x42 ex42 => ?_)
                      refine p_X7_171 C hP hS (by assumption) dX7_run_118 (fun H locs hP hS => ?_)
                      obtain ⟨I43, eI43⟩ : ∃ Znew : Nat → Nat → Int32, Znew = up2 I36 10 23 x42 := ⟨_, rfl⟩
                      rw [← eI43] at hP
                      refine lv_aload_n hx hb dX7_run_121 rfl (lv_at hl 0 rfl) ?_
                      refine f_X7_148 C hP (by first | assumption | exact hKa _ (by omega)) dX7_run_122 ?_
                      refine z_eq C dX7_run_125 (tgt := 132) (by decide) (fun h44 => ?_) (fun h44 => ?_)
                      · refine lv_aload_n hx hb dX7_run_132 rfl (lv_at hl 0 rfl) ?_
                        refine f_X7_152 C hP (by first | assumption | exact hKa _ (by omega)) dX7_run_133 ?_
                        refine z_eq C dX7_run_136 (tgt := 143) (by decide) (fun h45 => ?_) (fun h45 => ?_)
                        · refine lv_iconst (v := nI 0) hx hb dX7_run_143 (by decide) ?_
                          exact hret _ _ _ _ _ _ dX7_run_144 hP hS (by
                                        have hfl : I43 10 18 = (rS I).2.2.1 := by rw [eI43, up2_k (by decide), eI36, up2_k (by decide), hSS]; exact hzD
                                        have hfa : I43 10 19 = (rS I).2.2.2 := by rw [eI43, up2_k (by decide), eI36, up2_k (by decide), hSS]; exact hzA
                                        have hfl1 : I36 10 18 = (rS I).2.2.1 := by rw [eI36, up2_k (by decide), hSS]; exact hzD
                                        refine ⟨by unfold sRun; rw [hpk.1]; dsimp only; rw [if_neg (fun z => z (hfl.symm.trans h44)), if_neg (fun z => z (hfa.symm.trans h45))], fun z => absurd (hpk.1.symm.trans z) (by simp), fun _ => ?_⟩
                                        obtain ⟨g1, g2, g3, g4, g5, g6, g7⟩ := hz
                                        refine ⟨fun a f1 f2 f3 f4 f5 => by rw [eI43, up2_r f1, eI36, up2_r f1]; exact g1 a f1 f2 f3 f4 (by omega), fun i f1 f2 f3 f4 f5 f6 => by rw [eI43, up2_k f5, eI36, up2_k f4]; exact g2 i f1 f2 f3 f6, fun i hi => by rw [eI43, up2_r (by decide), eI36, up2_r (by decide), hSS]; exact g3.1 i hi, fun i hi => by rw [eI43, up2_r (by decide), eI36, up2_r (by decide), hSS]; exact g3.2.1 i hi, by rw [eI43, up2_k (by decide), eI36, up2_k (by decide), hN]; exact g4, ?_, ?_, by rw [eI43, up2_k (by decide), eI36, up2_k (by decide), hN]; exact g5, fun i hi t ht => by rw [eI43, up2_r (by decide), eI36, up2_r (by decide)]; exact g6 i (by omega) t ht⟩
                                        · rw [eI43, up2_k (by decide), eI36, up2_s, ex35, g2 22 (by decide) (by decide) (by decide) (by decide)]
                                        · rw [if_pos (fun z => h37 (hfl1.trans z)), eI43, up2_s, ex42, eI36, up2_k (by decide), g2 23 (by decide) (by decide) (by decide) (by decide)])
                        · refine lv_iconst (v := nI 2) hx hb dX7_run_139 (by decide) ?_
                          refine lv_goto (tgt := 144) hx hb dX7_run_140 (by decide) ?_
                          exact hret _ _ _ _ _ _ dX7_run_144 hP hS (by
                                        have hfl : I43 10 18 = (rS I).2.2.1 := by rw [eI43, up2_k (by decide), eI36, up2_k (by decide), hSS]; exact hzD
                                        have hfa : I43 10 19 = (rS I).2.2.2 := by rw [eI43, up2_k (by decide), eI36, up2_k (by decide), hSS]; exact hzA
                                        have hfl1 : I36 10 18 = (rS I).2.2.1 := by rw [eI36, up2_k (by decide), hSS]; exact hzD
                                        refine ⟨by unfold sRun; rw [hpk.1]; dsimp only; rw [if_neg (fun z => z (hfl.symm.trans h44)), if_pos (fun z => h45 (hfa.trans z))], fun z => absurd (hpk.1.symm.trans z) (by simp), fun _ => ?_⟩
                                        obtain ⟨g1, g2, g3, g4, g5, g6, g7⟩ := hz
                                        refine ⟨fun a f1 f2 f3 f4 f5 => by rw [eI43, up2_r f1, eI36, up2_r f1]; exact g1 a f1 f2 f3 f4 (by omega), fun i f1 f2 f3 f4 f5 f6 => by rw [eI43, up2_k f5, eI36, up2_k f4]; exact g2 i f1 f2 f3 f6, fun i hi => by rw [eI43, up2_r (by decide), eI36, up2_r (by decide), hSS]; exact g3.1 i hi, fun i hi => by rw [eI43, up2_r (by decide), eI36, up2_r (by decide), hSS]; exact g3.2.1 i hi, by rw [eI43, up2_k (by decide), eI36, up2_k (by decide), hN]; exact g4, ?_, ?_, by rw [eI43, up2_k (by decide), eI36, up2_k (by decide), hN]; exact g5, fun i hi t ht => by rw [eI43, up2_r (by decide), eI36, up2_r (by decide)]; exact g6 i (by omega) t ht⟩
                                        · rw [eI43, up2_k (by decide), eI36, up2_s, ex35, g2 22 (by decide) (by decide) (by decide) (by decide)]
                                        · rw [if_pos (fun z => h37 (hfl1.trans z)), eI43, up2_s, ex42, eI36, up2_k (by decide), g2 23 (by decide) (by decide) (by decide) (by decide)])
                      · refine lv_iconst (v := nI 1) hx hb dX7_run_128 (by decide) ?_
                        refine lv_goto (tgt := 144) hx hb dX7_run_129 (by decide) ?_
                        exact hret _ _ _ _ _ _ dX7_run_144 hP hS (by
                                      have hfl : I43 10 18 = (rS I).2.2.1 := by rw [eI43, up2_k (by decide), eI36, up2_k (by decide), hSS]; exact hzD
                                      have hfa : I43 10 19 = (rS I).2.2.2 := by rw [eI43, up2_k (by decide), eI36, up2_k (by decide), hSS]; exact hzA
                                      have hfl1 : I36 10 18 = (rS I).2.2.1 := by rw [eI36, up2_k (by decide), hSS]; exact hzD
                                      refine ⟨by unfold sRun; rw [hpk.1]; dsimp only; rw [if_pos (fun z => h44 (hfl.trans z))], fun z => absurd (hpk.1.symm.trans z) (by simp), fun _ => ?_⟩
                                      obtain ⟨g1, g2, g3, g4, g5, g6, g7⟩ := hz
                                      refine ⟨fun a f1 f2 f3 f4 f5 => by rw [eI43, up2_r f1, eI36, up2_r f1]; exact g1 a f1 f2 f3 f4 (by omega), fun i f1 f2 f3 f4 f5 f6 => by rw [eI43, up2_k f5, eI36, up2_k f4]; exact g2 i f1 f2 f3 f6, fun i hi => by rw [eI43, up2_r (by decide), eI36, up2_r (by decide), hSS]; exact g3.1 i hi, fun i hi => by rw [eI43, up2_r (by decide), eI36, up2_r (by decide), hSS]; exact g3.2.1 i hi, by rw [eI43, up2_k (by decide), eI36, up2_k (by decide), hN]; exact g4, ?_, ?_, by rw [eI43, up2_k (by decide), eI36, up2_k (by decide), hN]; exact g5, fun i hi t ht => by rw [eI43, up2_r (by decide), eI36, up2_r (by decide)]; exact g6 i (by omega) t ht⟩
                                      · rw [eI43, up2_k (by decide), eI36, up2_s, ex35, g2 22 (by decide) (by decide) (by decide) (by decide)]
                                      · rw [if_pos (fun z => h37 (hfl1.trans z)), eI43, up2_s, ex42, eI36, up2_k (by decide), g2 23 (by decide) (by decide) (by decide) (by decide)])
                  · refine lv_aload_n hx hb dX7_run_78 rfl (lv_at hl 0 rfl) ?_
                    refine lv_iconst (v := nI 0) hx hb dX7_run_79 (by decide) ?_
                    refine p_X7_152 C hP hS (by assumption) (by first | assumption | decide) dX7_run_80 (fun H locs hP hS => ?_)
                    obtain ⟨I46, eI46⟩ : ∃ Znew : Nat → Nat → Int32, Znew = up2 Z 10 19 (nI 0) := ⟨_, rfl⟩
                    rw [← eI46] at hP
                    refine lv_aload_n hx hb dX7_run_83 rfl (lv_at hl 0 rfl) ?_
                    refine k_X7_165 C hP hS (by assumption) (c_X7_round (σ := I) (S := sA (itR I (pS0 I) q)) q hM0 hw (fun a g1 g2 => by rw [eI46, up2_r (by omega)]; exact hz.1 a (by omega) (by omega) (by omega) (by omega) (by omega)) (by rw [eI46, up2_k (by decide)]; exact hz.2.1 0 (by decide) (by decide) (by decide) (by decide)) (by rw [eI46]; exact ⟨fun j hj => by rw [up2_r (by decide)]; exact hz.2.2.1.1 j hj, fun j hj => by rw [up2_r (by decide)]; exact hz.2.2.1.2.1 j hj, by rw [up2_k (by decide)]; exact hzD, up2_s _ _ _ _⟩) (sA_ok (itR_ok hw (pS0_ok hw) q)) (by rw [eI46, up2_k (by decide)]; exact hz.2.2.2.1) (by omega)) ⟨Nat.le_of_ble_eq_true rfl, Nat.le_of_ble_eq_true rfl⟩ ⟨Nat.zero_le _, Nat.zero_le _⟩ hl.1 (Nat.le_of_ble_eq_true rfl) dX7_run_84 (fun I48 H locs hv49 hP hS => ?_)
                    have eI48 := hv49
                    have hstep := run_st hz eI46 (by omega) ⟨fun z => h10 (hzA.trans z), hzD.symm.trans h22⟩ eI48
                    refine lv_goto (tgt := 51) hx hb dX7_run_87 (by decide) ?_
                    exact ih51 (q + 1) I48 _ _ _ (by omega) (by omega) (hstep) hP hS (lv_sub hl [0] rfl)
          exact hL51_9 (ru I 3 + 1) 0 I8 _ _ _ (by omega) (by omega) (hrun) hP hS (lv_sub hl [0] rfl)
        · refine lv_aload_n hx hb dX7_run_18 rfl (lv_at hl 0 rfl) ?_
          refine f_X7_58 (q := 27) C hP (by assumption) (by assumption) rfl dX7_run_19 ?_
          refine lv_iload_n hx hb dX7_run_22 rfl (lv_at hl 1 rfl) ?_
          refine lv_aload_n hx hb dX7_run_23 rfl (lv_at hl 0 rfl) ?_
          refine f_X7_31 (q := 18) C hP (by assumption) (by assumption) rfl dX7_run_24 ?_
          refine lv_iload_n hx hb dX7_run_27 rfl (lv_at hl 1 rfl) ?_
          refine r_iald (n := 6) C hP (by assumption) (by omega) (by decide) dX7_run_28 ?_
          refine r_iast (n := 6) C hP hS (by assumption) (by omega) (by decide) dX7_run_29 (fun H locs hP hS => ?_)
          obtain ⟨I50, eI50⟩ : ∃ Znew : Nat → Nat → Int32, Znew = up2 Y 27 j (Y 18 j) := ⟨_, rfl⟩
          rw [← eI50] at hP
          refine lv_iinc (v := nI (j + 1)) (lv' := [(1, .int (nI (j + 1))), (0, .ref (ad 10))]) hx hb dX7_run_30 hl (k := 1) rfl (nI_1 _) (by decide) rfl (fun ls hl => ?_)
          refine lv_goto (tgt := 12) hx hb dX7_run_33 (by decide) ?_
          exact ih12 (j + 1) I50 _ _ _ (by omega) (by omega) (by rw [eI50]; exact ⟨fun a ha => by rw [up2_r ha]; exact hc.1 a ha, fun i hi => if z : i = j then by subst z; rw [up2_s, hc.1 18 (by decide), hpk.2.1 18 (by decide)] else by rw [up2_k z]; exact hc.2 i (by omega)⟩) hP hS (lv_sub hl [1, 0] rfl)
    exact hL12_4 (6 + 1) 0 I2 _ _ _ (by omega) (by omega) (⟨fun _ _ => rfl, lt_0⟩) hP hS (lv_sub hl [1, 0] rfl)
  · subst hv1
    refine z_ne0 C dX7_run_4 (tgt := 10) (by decide) ?_
    refine lv_bipush (v := (-3)) hx hb dX7_run_7 (by decide) ?_
    exact hret _ _ _ _ _ _ dX7_run_9 hP hS (⟨by unfold sRun; rw [hno], fun _ => hsm, fun z => absurd hno z⟩)
