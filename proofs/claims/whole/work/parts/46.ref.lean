/-! the reference: an act -/
theorem up2_id (I : Mem) (r k : Nat) : up2 I r k (I r k) = I := by
  funext a j; rw [up2_eq]; by_cases q : a = r ∧ j = k
  · rw [if_pos q, q.1, q.2]
  · rw [if_neg q]
set_option maxHeartbeats 4000000 in
set_option maxRecDepth 100000 in
theorem c_X7_act {l : Launch} {E : En} {K : Nat → Nat} {L : Nat → Nat → Bool} {ad : Nat → Nat} {I : Nat → Nat → Int32} (w : Nat) (hM : IsM K L) (hw : w < 40) (ok : okA (I 14 w) (I 15 w) (I 16 w)) (hF : ∀ j, j < 6 → 0 ≤ (I 27 j).toInt ∧ (I 27 j).toInt ≤ 255) (hG : ∀ j, j < 4 → 0 ≤ (I 17 j).toInt ∧ (I 17 j).toInt ≤ 65535) : MV l E K L ad I yX7_act cX7_act 6 0 [.ref (ad 10), .int (nI w)] (fun RJ => RJ = actM 27 17 10 18 19 (I 14 w) (I 15 w) (I 16 w) I) := by
  have hM0 := hM
  obtain ⟨m0, ml1, ml2, ml3, ml4, ml5, ml6, ml7, ml8, ml9, ml10, ml11, ml12, ml13, ml14, ml15, ml16, ml17, ml21, ml25, ml26, mk1, mk2, mk3, mk4, mk5, mk6, mk7, mk8, mk9, mk10, mk11, mk12, mk13, mk14, mk15, mk16, mk17, mk21, mk25, mk26⟩ := hM
  refine MV.of (by decide) (Nat.le_of_ble_eq_true rfl) ?_
  intro p ee s m args below meth c ls Qf C hret hP hl
  have C : Cx E p s m args c cX7_act RX7 6 := C
  have hx := C.1
  have hb := C.2.1
  have hS : va_S (AG E) s.heap s.heap [] := va_S.rf
  have hl : lv_has ls 6 [(0, .ref (ad 10)), (1, .int (nI w))] := hl
  refine lv_aload_n hx hb dX7_act_0 rfl (lv_at hl 0 rfl) ?_
  refine f_X7_22 (q := 15) C hP (by assumption) (by assumption) rfl dX7_act_1 ?_
  refine lv_iload_n hx hb dX7_act_4 rfl (lv_at hl 1 rfl) ?_
  refine r_iald (n := 40) C hP (by assumption) (by omega) (by decide) dX7_act_5 ?_
  refine lv_istore_n (lv' := [(2, .int (I 15 w)), (0, .ref (ad 10)), (1, .int (nI w))]) hx hb dX7_act_6 rfl hl (by decide) rfl (fun ls hl => ?_)
  refine lv_aload_n hx hb dX7_act_7 rfl (lv_at hl 1 rfl) ?_
  refine f_X7_25 (q := 16) C hP (by assumption) (by assumption) rfl dX7_act_8 ?_
  refine lv_iload_n hx hb dX7_act_11 rfl (lv_at hl 2 rfl) ?_
  refine r_iald (n := 40) C hP (by assumption) (by omega) (by decide) dX7_act_12 ?_
  refine lv_istore_n (lv' := [(3, .int (I 16 w)), (2, .int (I 15 w)), (0, .ref (ad 10)), (1, .int (nI w))]) hx hb dX7_act_13 rfl hl (by decide) rfl (fun ls hl => ?_)
  refine lv_aload_n hx hb dX7_act_14 rfl (lv_at hl 2 rfl) ?_
  refine f_X7_19 (q := 14) C hP (by assumption) (by assumption) rfl dX7_act_15 ?_
  refine lv_iload_n hx hb dX7_act_18 rfl (lv_at hl 3 rfl) ?_
  refine r_iald (n := 40) C hP (by assumption) (by omega) (by decide) dX7_act_19 ?_
  by_cases sw1 : ((I 14 w) : Int32).toInt = 1
  · refine sw_in C dX7_act_20 sw1 (by decide) (by decide) (off := 52) (by decide) (tgt := 72) (by decide) ?_
    have hmm := ok.2 (by omega)
    obtain ⟨tq, htq, etq⟩ : ∃ j : Nat, j < 6 ∧ I 15 w = nI j := ⟨(I 15 w).toInt.toNat, by omega, i32_eq (by omega) (by omega)⟩
    have ctq : tn (I 15 w) = tq := by rw [etq]; exact nI_clamp (by omega)
    have hft := hF tq htq
    rw [etq] at hl
    refine lv_aload_n hx hb dX7_act_72 rfl (lv_at hl 2 rfl) ?_
    refine f_X7_58 (q := 27) C hP (by assumption) (by assumption) rfl dX7_act_73 ?_
    refine lv_iload_n hx hb dX7_act_76 rfl (lv_at hl 1 rfl) ?_
    refine lv_iload_n hx hb dX7_act_77 rfl (lv_at hl 0 rfl) ?_
    refine r_iast (n := 6) C hP hS (by assumption) (by omega) (by decide) dX7_act_78 (fun H locs hP hS => ?_)
    obtain ⟨I2, eI2⟩ : ∃ Znew : Nat → Nat → Int32, Znew = up2 I 27 tq (I 16 w) := ⟨_, rfl⟩
    rw [← eI2] at hP
    refine lv_goto (tgt := 294) hx hb dX7_act_79 (by decide) ?_
    exact hret _ _ _ _ _ dX7_act_294 hP hS (by unfold actM; rw [if_pos (by omega), ctq, eI2] <;> (subst_vars; rfl))
  · by_cases sw3 : ((I 14 w) : Int32).toInt = 2
    · refine sw_in C dX7_act_20 sw3 (by decide) (by decide) (off := 62) (by decide) (tgt := 82) (by decide) ?_
      have hmm := ok.2 (by omega)
      obtain ⟨tq, htq, etq⟩ : ∃ j : Nat, j < 6 ∧ I 15 w = nI j := ⟨(I 15 w).toInt.toNat, by omega, i32_eq (by omega) (by omega)⟩
      have ctq : tn (I 15 w) = tq := by rw [etq]; exact nI_clamp (by omega)
      have hft := hF tq htq
      have hmo : most (I 14 w) = 5 := by unfold most; rw [if_neg (by omega), if_pos (by omega)]
      obtain ⟨xq, hxq, exq⟩ : ∃ j : Nat, j < 6 ∧ I 16 w = nI j := ⟨(I 16 w).toInt.toNat, by omega, i32_eq (by omega) (by omega)⟩
      have cxq : tn (I 16 w) = xq := by rw [exq]; exact nI_clamp (by omega)
      rw [etq, exq] at hl
      refine lv_aload_n hx hb dX7_act_82 rfl (lv_at hl 2 rfl) ?_
      refine f_X7_58 (q := 27) C hP (by assumption) (by assumption) rfl dX7_act_83 ?_
      refine lv_iload_n hx hb dX7_act_86 rfl (lv_at hl 1 rfl) ?_
      refine lv_aload_n hx hb dX7_act_87 rfl (lv_at hl 2 rfl) ?_
      refine f_X7_58 (q := 27) C hP (by assumption) (by assumption) rfl dX7_act_88 ?_
      refine lv_iload_n hx hb dX7_act_91 rfl (lv_at hl 0 rfl) ?_
      refine r_iald (n := 6) C hP (by assumption) (by omega) (by decide) dX7_act_92 ?_
      refine r_iast (n := 6) C hP hS (by assumption) (by omega) (by decide) dX7_act_93 (fun H locs hP hS => ?_)
      obtain ⟨I4, eI4⟩ : ∃ Znew : Nat → Nat → Int32, Znew = up2 I 27 tq (I 27 xq) := ⟨_, rfl⟩
      rw [← eI4] at hP
      refine lv_goto (tgt := 294) hx hb dX7_act_94 (by decide) ?_
      exact hret _ _ _ _ _ dX7_act_294 hP hS (by unfold actM; rw [if_neg (by omega), if_pos (by omega), ctq, cxq, eI4] <;> (subst_vars; rfl))
    · by_cases sw5 : ((I 14 w) : Int32).toInt = 3
      · refine sw_in C dX7_act_20 sw5 (by decide) (by decide) (off := 77) (by decide) (tgt := 97) (by decide) ?_
        have hmm := ok.2 (by omega)
        obtain ⟨tq, htq, etq⟩ : ∃ j : Nat, j < 6 ∧ I 15 w = nI j := ⟨(I 15 w).toInt.toNat, by omega, i32_eq (by omega) (by omega)⟩
        have ctq : tn (I 15 w) = tq := by rw [etq]; exact nI_clamp (by omega)
        have hft := hF tq htq
        have hmo : most (I 14 w) = 255 := by unfold most; rw [if_pos (by omega)]
        obtain ⟨xq, hxq, exq⟩ : ∃ j : Nat, j < 256 ∧ I 16 w = nI j := ⟨(I 16 w).toInt.toNat, by omega, i32_eq (by omega) (by omega)⟩
        have cxq : tn (I 16 w) = xq := by rw [exq]; exact nI_clamp (by omega)
        rw [etq, exq] at hl
        have hbt : nv (I 27 tq) < 256 := nv_lt hft.1 (by omega)
        refine lv_aload_n hx hb dX7_act_97 rfl (lv_at hl 2 rfl) ?_
        refine f_X7_58 (q := 27) C hP (by assumption) (by assumption) rfl dX7_act_98 ?_
        refine lv_iload_n hx hb dX7_act_101 rfl (lv_at hl 1 rfl) ?_
        refine lv_aload_n hx hb dX7_act_102 rfl (lv_at hl 2 rfl) ?_
        refine f_X7_58 (q := 27) C hP (by assumption) (by assumption) rfl dX7_act_103 ?_
        refine lv_iload_n hx hb dX7_act_106 rfl (lv_at hl 1 rfl) ?_
        refine r_iald (n := 6) C hP (by assumption) (by omega) (by decide) dX7_act_107 ?_
        refine r_eqi (y := (nI (nv (I 27 tq)))) (nv_eq hft.1) ?_
        refine lv_iload_n hx hb dX7_act_108 rfl (lv_at hl 0 rfl) ?_
        refine r_addN C dX7_act_109 ?_
        refine lv_sipush (v := nI 256) hx hb dX7_act_110 (by decide) ?_
        refine r_remN C (by omega) (by decide) (by decide) dX7_act_113 ?_
        refine r_iast (n := 6) C hP hS (by assumption) (by omega) (by decide) dX7_act_114 (fun H locs hP hS => ?_)
        obtain ⟨I6, eI6⟩ : ∃ Znew : Nat → Nat → Int32, Znew = up2 I 27 tq (nI (((nv (I 27 tq)) + xq) % 256)) := ⟨_, rfl⟩
        rw [← eI6] at hP
        refine lv_goto (tgt := 294) hx hb dX7_act_115 (by decide) ?_
        exact hret _ _ _ _ _ dX7_act_294 hP hS (by unfold actM; rw [if_neg (by omega), if_neg (by omega), if_pos (by omega), ctq, show nv _ = xq from cxq, eI6] <;> (subst_vars; rfl))
      · by_cases sw7 : ((I 14 w) : Int32).toInt = 4
        · refine sw_in C dX7_act_20 sw7 (by decide) (by decide) (off := 98) (by decide) (tgt := 118) (by decide) ?_
          have hmm := ok.2 (by omega)
          obtain ⟨tq, htq, etq⟩ : ∃ j : Nat, j < 6 ∧ I 15 w = nI j := ⟨(I 15 w).toInt.toNat, by omega, i32_eq (by omega) (by omega)⟩
          have ctq : tn (I 15 w) = tq := by rw [etq]; exact nI_clamp (by omega)
          have hft := hF tq htq
          have hmo : most (I 14 w) = 5 := by unfold most; rw [if_neg (by omega), if_pos (by omega)]
          obtain ⟨xq, hxq, exq⟩ : ∃ j : Nat, j < 6 ∧ I 16 w = nI j := ⟨(I 16 w).toInt.toNat, by omega, i32_eq (by omega) (by omega)⟩
          have cxq : tn (I 16 w) = xq := by rw [exq]; exact nI_clamp (by omega)
          rw [etq, exq] at hl
          refine lv_aload_n hx hb dX7_act_118 rfl (lv_at hl 2 rfl) ?_
          refine f_X7_58 (q := 27) C hP (by assumption) (by assumption) rfl dX7_act_119 ?_
          refine lv_iload_n hx hb dX7_act_122 rfl (lv_at hl 1 rfl) ?_
          refine lv_aload_n hx hb dX7_act_123 rfl (lv_at hl 2 rfl) ?_
          refine f_X7_58 (q := 27) C hP (by assumption) (by assumption) rfl dX7_act_124 ?_
          refine lv_iload_n hx hb dX7_act_127 rfl (lv_at hl 1 rfl) ?_
          refine r_iald (n := 6) C hP (by assumption) (by omega) (by decide) dX7_act_128 ?_
          refine lv_aload_n hx hb dX7_act_129 rfl (lv_at hl 2 rfl) ?_
          refine f_X7_58 (q := 27) C hP (by assumption) (by assumption) rfl dX7_act_130 ?_
          refine lv_iload_n hx hb dX7_act_133 rfl (lv_at hl 0 rfl) ?_
          refine r_iald (n := 6) C hP (by assumption) (by omega) (by decide) dX7_act_134 ?_
          refine lv_ixor hx hb dX7_act_135 ?_
          refine lv_topi (fun x8 ex8 => ?_)
          refine r_iast (n := 6) C hP hS (by assumption) (by omega) (by decide) dX7_act_136 (fun H locs hP hS => ?_)
          obtain ⟨I9, eI9⟩ : ∃ Znew : Nat → Nat → Int32, Znew = up2 I 27 tq x8 := ⟨_, rfl⟩
          rw [← eI9] at hP
          refine lv_goto (tgt := 294) hx hb dX7_act_137 (by decide) ?_
          exact hret _ _ _ _ _ dX7_act_294 hP hS (by unfold actM; rw [if_neg (by omega), if_neg (by omega), if_neg (by omega), if_pos (by omega), ctq, cxq, eI9] <;> (subst_vars; rfl))
        · by_cases sw10 : ((I 14 w) : Int32).toInt = 5
          · refine sw_in C dX7_act_20 sw10 (by decide) (by decide) (off := 120) (by decide) (tgt := 140) (by decide) ?_
            have hmm := ok.2 (by omega)
            obtain ⟨tq, htq, etq⟩ : ∃ j : Nat, j < 6 ∧ I 15 w = nI j := ⟨(I 15 w).toInt.toNat, by omega, i32_eq (by omega) (by omega)⟩
            have ctq : tn (I 15 w) = tq := by rw [etq]; exact nI_clamp (by omega)
            have hft := hF tq htq
            have hmo : most (I 14 w) = 3 := by unfold most; rw [if_neg (by omega), if_neg (by omega)]
            obtain ⟨xq, hxq, exq⟩ : ∃ j : Nat, j < 4 ∧ I 16 w = nI j := ⟨(I 16 w).toInt.toNat, by omega, i32_eq (by omega) (by omega)⟩
            have cxq : tn (I 16 w) = xq := by rw [exq]; exact nI_clamp (by omega)
            rw [etq, exq] at hl
            have hgx := hG xq hxq
            have hbx : nv (I 17 xq) < 65536 := nv_lt hgx.1 (by omega)
            refine lv_aload_n hx hb dX7_act_140 rfl (lv_at hl 2 rfl) ?_
            refine f_X7_28 (q := 17) C hP (by assumption) (by assumption) rfl dX7_act_141 ?_
            refine lv_iload_n hx hb dX7_act_144 rfl (lv_at hl 0 rfl) ?_
            refine lv_aload_n hx hb dX7_act_145 rfl (lv_at hl 2 rfl) ?_
            refine f_X7_28 (q := 17) C hP (by assumption) (by assumption) rfl dX7_act_146 ?_
            refine lv_iload_n hx hb dX7_act_149 rfl (lv_at hl 0 rfl) ?_
            refine r_iald (n := 4) C hP (by assumption) (by omega) (by decide) dX7_act_150 ?_
            refine r_eqi (y := (nI (nv (I 17 xq)))) (nv_eq hgx.1) ?_
            refine lv_iconst (v := nI 1) hx hb dX7_act_151 (by decide) ?_
            refine r_addN C dX7_act_152 ?_
            refine lv_ldc hx hb C.2.2.2.1 (C.2.2.1 _ tk_X7_147) dX7_act_153 ?_
            refine r_eqi (y := nI 65536) rfl ?_
            refine r_remN C (by omega) (by decide) (by decide) dX7_act_155 ?_
            refine r_iast (n := 4) C hP hS (by assumption) (by omega) (by decide) dX7_act_156 (fun H locs hP hS => ?_)
            obtain ⟨I11, eI11⟩ : ∃ Znew : Nat → Nat → Int32, Znew = up2 I 17 xq (nI (((nv (I 17 xq)) + 1) % 65536)) := ⟨_, rfl⟩
            rw [← eI11] at hP
            refine lv_aload_n hx hb dX7_act_157 rfl (lv_at hl 2 rfl) ?_
            refine f_X7_58 (q := 27) C hP (by assumption) (by assumption) rfl dX7_act_158 ?_
            refine lv_iload_n hx hb dX7_act_161 rfl (lv_at hl 1 rfl) ?_
            refine lv_aload_n hx hb dX7_act_162 rfl (lv_at hl 2 rfl) ?_
            refine f_X7_28 (q := 17) C hP (by assumption) (by assumption) rfl dX7_act_163 ?_
            refine lv_iload_n hx hb dX7_act_166 rfl (lv_at hl 0 rfl) ?_
            refine r_iald (n := 4) C hP (by assumption) (by omega) (by decide) dX7_act_167 ?_
            refine r_eqi (y := (nI (((nv (I 17 xq)) + 1) % 65536))) (by rw [eI11, up2_s]) ?_
            refine lv_sipush (v := nI 256) hx hb dX7_act_168 (by decide) ?_
            refine r_remN C (by omega) (by decide) (by decide) dX7_act_171 ?_
            refine r_iast (n := 6) C hP hS (by assumption) (by omega) (by decide) dX7_act_172 (fun H locs hP hS => ?_)
            obtain ⟨I12, eI12⟩ : ∃ Znew : Nat → Nat → Int32, Znew = up2 I11 27 tq (nI ((((nv (I 17 xq)) + 1) % 65536) % 256)) := ⟨_, rfl⟩
            rw [← eI12] at hP
            refine lv_goto (tgt := 294) hx hb dX7_act_173 (by decide) ?_
            exact hret _ _ _ _ _ dX7_act_294 hP hS (by unfold actM; rw [if_neg (by omega), if_neg (by omega), if_neg (by omega), if_neg (by omega), if_pos (by omega), ctq, cxq, eI12, eI11] <;> (subst_vars; rfl))
          · by_cases sw13 : ((I 14 w) : Int32).toInt = 6
            · refine sw_in C dX7_act_20 sw13 (by decide) (by decide) (off := 156) (by decide) (tgt := 176) (by decide) ?_
              have hmm := ok.2 (by omega)
              obtain ⟨tq, htq, etq⟩ : ∃ j : Nat, j < 6 ∧ I 15 w = nI j := ⟨(I 15 w).toInt.toNat, by omega, i32_eq (by omega) (by omega)⟩
              have ctq : tn (I 15 w) = tq := by rw [etq]; exact nI_clamp (by omega)
              have hft := hF tq htq
              have hmo : most (I 14 w) = 3 := by unfold most; rw [if_neg (by omega), if_neg (by omega)]
              obtain ⟨xq, hxq, exq⟩ : ∃ j : Nat, j < 4 ∧ I 16 w = nI j := ⟨(I 16 w).toInt.toNat, by omega, i32_eq (by omega) (by omega)⟩
              have cxq : tn (I 16 w) = xq := by rw [exq]; exact nI_clamp (by omega)
              rw [etq, exq] at hl
              refine lv_aload_n hx hb dX7_act_176 rfl (lv_at hl 2 rfl) ?_
              refine f_X7_58 (q := 27) C hP (by assumption) (by assumption) rfl dX7_act_177 ?_
              refine lv_iload_n hx hb dX7_act_180 rfl (lv_at hl 1 rfl) ?_
              refine r_iald (n := 6) C hP (by assumption) (by omega) (by decide) dX7_act_181 ?_
              refine lv_aload_n hx hb dX7_act_182 rfl (lv_at hl 2 rfl) ?_
              refine f_X7_28 (q := 17) C hP (by assumption) (by assumption) rfl dX7_act_183 ?_
              refine lv_iload_n hx hb dX7_act_186 rfl (lv_at hl 0 rfl) ?_
              refine r_iald (n := 4) C hP (by assumption) (by omega) (by decide) dX7_act_187 ?_
              refine b_le C dX7_act_188 (tgt := 195) (by decide) (fun h14 => ?_) (fun h14 => ?_)
              · refine lv_iconst (v := nI 0) hx hb dX7_act_195 (by decide) ?_
                refine lv_istore (lv' := [(4, .int (nI 0)), (3, .int (nI xq)), (2, .int (nI tq)), (0, .ref (ad 10)), (1, .int (nI w))]) hx hb dX7_act_196 hl (by decide) rfl (fun ls hl => ?_)
                refine lv_aload_n hx hb dX7_act_198 rfl (lv_at hl 3 rfl) ?_
                refine f_X7_28 (q := 17) C hP (by assumption) (by assumption) rfl dX7_act_199 ?_
                refine lv_iload_n hx hb dX7_act_202 rfl (lv_at hl 1 rfl) ?_
                refine lv_iload hx hb dX7_act_203 (lv_at hl 0 rfl) ?_
                refine r_eqi (y := 0) rfl ?_
                refine z_eq0 C dX7_act_205 (tgt := 217) (by decide) ?_
                refine lv_aload_n hx hb dX7_act_217 rfl (lv_at hl 3 rfl) ?_
                refine f_X7_28 (q := 17) C hP (by assumption) (by assumption) rfl dX7_act_218 ?_
                refine lv_iload_n hx hb dX7_act_221 rfl (lv_at hl 1 rfl) ?_
                refine r_iald (n := 4) C hP (by assumption) (by omega) (by decide) dX7_act_222 ?_
                refine r_iast (n := 4) C hP hS (by assumption) (by omega) (by decide) dX7_act_223 (fun H locs hP hS => ?_)
                obtain ⟨I15, eI15⟩ : ∃ Znew : Nat → Nat → Int32, Znew = up2 I 17 xq (I 17 xq) := ⟨_, rfl⟩
                rw [← eI15] at hP
                refine lv_aload_n hx hb dX7_act_224 rfl (lv_at hl 3 rfl) ?_
                refine f_X7_58 (q := 27) C hP (by assumption) (by assumption) rfl dX7_act_225 ?_
                refine lv_iload_n hx hb dX7_act_228 rfl (lv_at hl 2 rfl) ?_
                refine lv_iload hx hb dX7_act_229 (lv_at hl 0 rfl) ?_
                refine r_eqi (y := 0) rfl ?_
                refine z_eq0 C dX7_act_231 (tgt := 238) (by decide) ?_
                refine lv_iconst (v := nI 0) hx hb dX7_act_238 (by decide) ?_
                refine r_iast (n := 6) C hP hS (by assumption) (by omega) (by decide) dX7_act_239 (fun H locs hP hS => ?_)
                obtain ⟨I16, eI16⟩ : ∃ Znew : Nat → Nat → Int32, Znew = up2 I15 27 tq (nI 0) := ⟨_, rfl⟩
                rw [← eI16] at hP
                refine lv_goto (tgt := 294) hx hb dX7_act_240 (by decide) ?_
                exact hret _ _ _ _ _ dX7_act_294 hP hS (by unfold actM; rw [if_neg (by omega), if_neg (by omega), if_neg (by omega), if_neg (by omega), if_neg (by omega), if_pos (by omega), ctq, cxq, if_neg (by omega)]; rw [eI16, eI15, up2_id])
              · refine lv_iconst (v := nI 1) hx hb dX7_act_191 (by decide) ?_
                refine lv_goto (tgt := 196) hx hb dX7_act_192 (by decide) ?_
                refine lv_istore (lv' := [(4, .int (nI 1)), (3, .int (nI xq)), (2, .int (nI tq)), (0, .ref (ad 10)), (1, .int (nI w))]) hx hb dX7_act_196 hl (by decide) rfl (fun ls hl => ?_)
                refine lv_aload_n hx hb dX7_act_198 rfl (lv_at hl 3 rfl) ?_
                refine f_X7_28 (q := 17) C hP (by assumption) (by assumption) rfl dX7_act_199 ?_
                refine lv_iload_n hx hb dX7_act_202 rfl (lv_at hl 1 rfl) ?_
                refine lv_iload hx hb dX7_act_203 (lv_at hl 0 rfl) ?_
                refine r_eqi (y := 1) rfl ?_
                refine z_eq1 C dX7_act_205 (tgt := 217) (by decide) ?_
                refine lv_aload_n hx hb dX7_act_208 rfl (lv_at hl 3 rfl) ?_
                refine f_X7_58 (q := 27) C hP (by assumption) (by assumption) rfl dX7_act_209 ?_
                refine lv_iload_n hx hb dX7_act_212 rfl (lv_at hl 2 rfl) ?_
                refine r_iald (n := 6) C hP (by assumption) (by omega) (by decide) dX7_act_213 ?_
                refine lv_goto (tgt := 223) hx hb dX7_act_214 (by decide) ?_
                refine r_iast (n := 4) C hP hS (by assumption) (by omega) (by decide) dX7_act_223 (fun H locs hP hS => ?_)
                obtain ⟨I17, eI17⟩ : ∃ Znew : Nat → Nat → Int32, Znew = up2 I 17 xq (I 27 tq) := ⟨_, rfl⟩
                rw [← eI17] at hP
                refine lv_aload_n hx hb dX7_act_224 rfl (lv_at hl 3 rfl) ?_
                refine f_X7_58 (q := 27) C hP (by assumption) (by assumption) rfl dX7_act_225 ?_
                refine lv_iload_n hx hb dX7_act_228 rfl (lv_at hl 2 rfl) ?_
                refine lv_iload hx hb dX7_act_229 (lv_at hl 0 rfl) ?_
                refine r_eqi (y := 1) rfl ?_
                refine z_eq1 C dX7_act_231 (tgt := 238) (by decide) ?_
                refine lv_iconst (v := nI 1) hx hb dX7_act_234 (by decide) ?_
                refine lv_goto (tgt := 239) hx hb dX7_act_235 (by decide) ?_
                refine r_iast (n := 6) C hP hS (by assumption) (by omega) (by decide) dX7_act_239 (fun H locs hP hS => ?_)
                obtain ⟨I18, eI18⟩ : ∃ Znew : Nat → Nat → Int32, Znew = up2 I17 27 tq (nI 1) := ⟨_, rfl⟩
                rw [← eI18] at hP
                refine lv_goto (tgt := 294) hx hb dX7_act_240 (by decide) ?_
                exact hret _ _ _ _ _ dX7_act_294 hP hS (by unfold actM; rw [if_neg (by omega), if_neg (by omega), if_neg (by omega), if_neg (by omega), if_neg (by omega), if_pos (by omega), ctq, cxq, if_pos (by omega)]; rw [eI18, eI17])
            · by_cases sw19 : ((I 14 w) : Int32).toInt = 7
              · refine sw_in C dX7_act_20 sw19 (by decide) (by decide) (off := 223) (by decide) (tgt := 243) (by decide) ?_
                have hmm := ok.2 (by omega)
                obtain ⟨tq, htq, etq⟩ : ∃ j : Nat, j < 6 ∧ I 15 w = nI j := ⟨(I 15 w).toInt.toNat, by omega, i32_eq (by omega) (by omega)⟩
                have ctq : tn (I 15 w) = tq := by rw [etq]; exact nI_clamp (by omega)
                have hft := hF tq htq
                have hmo : most (I 14 w) = 3 := by unfold most; rw [if_neg (by omega), if_neg (by omega)]
                obtain ⟨xq, hxq, exq⟩ : ∃ j : Nat, j < 4 ∧ I 16 w = nI j := ⟨(I 16 w).toInt.toNat, by omega, i32_eq (by omega) (by omega)⟩
                have cxq : tn (I 16 w) = xq := by rw [exq]; exact nI_clamp (by omega)
                rw [etq, exq] at hl
                have hgx := hG xq hxq
                have hbx : nv (I 17 xq) < 65536 := nv_lt hgx.1 (by omega)
                refine lv_aload_n hx hb dX7_act_243 rfl (lv_at hl 2 rfl) ?_
                refine f_X7_28 (q := 17) C hP (by assumption) (by assumption) rfl dX7_act_244 ?_
                refine lv_iload_n hx hb dX7_act_247 rfl (lv_at hl 0 rfl) ?_
                refine r_iald (n := 4) C hP (by assumption) (by omega) (by decide) dX7_act_248 ?_
                refine r_eqi (y := (nI (nv (I 17 xq)))) (nv_eq hgx.1) ?_
                refine lv_istore (lv' := [(5, .int (nI (nv (I 17 xq)))), (3, .int (nI xq)), (2, .int (nI tq)), (0, .ref (ad 10)), (1, .int (nI w))]) hx hb dX7_act_249 hl (by decide) rfl (fun ls hl => ?_)
                refine lv_aload_n hx hb dX7_act_251 rfl (lv_at hl 3 rfl) ?_
                refine f_X7_28 (q := 17) C hP (by assumption) (by assumption) rfl dX7_act_252 ?_
                refine lv_iload_n hx hb dX7_act_255 rfl (lv_at hl 1 rfl) ?_
                refine lv_aload_n hx hb dX7_act_256 rfl (lv_at hl 3 rfl) ?_
                refine f_X7_58 (q := 27) C hP (by assumption) (by assumption) rfl dX7_act_257 ?_
                refine lv_iload_n hx hb dX7_act_260 rfl (lv_at hl 2 rfl) ?_
                refine r_iald (n := 6) C hP (by assumption) (by omega) (by decide) dX7_act_261 ?_
                refine r_iast (n := 4) C hP hS (by assumption) (by omega) (by decide) dX7_act_262 (fun H locs hP hS => ?_)
                obtain ⟨I20, eI20⟩ : ∃ Znew : Nat → Nat → Int32, Znew = up2 I 17 xq (I 27 tq) := ⟨_, rfl⟩
                rw [← eI20] at hP
                refine lv_aload_n hx hb dX7_act_263 rfl (lv_at hl 3 rfl) ?_
                refine f_X7_58 (q := 27) C hP (by assumption) (by assumption) rfl dX7_act_264 ?_
                refine lv_iload_n hx hb dX7_act_267 rfl (lv_at hl 2 rfl) ?_
                refine lv_iload hx hb dX7_act_268 (lv_at hl 0 rfl) ?_
                refine lv_sipush (v := nI 256) hx hb dX7_act_270 (by decide) ?_
                refine r_remN C (by omega) (by decide) (by decide) dX7_act_273 ?_
                refine r_iast (n := 6) C hP hS (by assumption) (by omega) (by decide) dX7_act_274 (fun H locs hP hS => ?_)
                obtain ⟨I21, eI21⟩ : ∃ Znew : Nat → Nat → Int32, Znew = up2 I20 27 tq (nI ((nv (I 17 xq)) % 256)) := ⟨_, rfl⟩
                rw [← eI21] at hP
                refine lv_goto (tgt := 294) hx hb dX7_act_275 (by decide) ?_
                exact hret _ _ _ _ _ dX7_act_294 hP hS (by unfold actM; rw [if_neg (by omega), if_neg (by omega), if_neg (by omega), if_neg (by omega), if_neg (by omega), if_neg (by omega), if_pos (by omega), ctq, cxq, eI21, eI20] <;> (subst_vars; rfl))
              · by_cases sw22 : ((I 14 w) : Int32).toInt = 8
                · refine sw_in C dX7_act_20 sw22 (by decide) (by decide) (off := 258) (by decide) (tgt := 278) (by decide) ?_
                  refine lv_aload_n hx hb dX7_act_278 rfl (lv_at hl 2 rfl) ?_
                  refine lv_iconst (v := nI 1) hx hb dX7_act_279 (by decide) ?_
                  refine p_X7_148 C hP hS (by assumption) (by first | assumption | decide) dX7_act_280 (fun H locs hP hS => ?_)
                  obtain ⟨I23, eI23⟩ : ∃ Znew : Nat → Nat → Int32, Znew = up2 I 10 18 (nI 1) := ⟨_, rfl⟩
                  rw [← eI23] at hP
                  refine lv_goto (tgt := 294) hx hb dX7_act_283 (by decide) ?_
                  exact hret _ _ _ _ _ dX7_act_294 hP hS (by unfold actM; rw [if_neg (by omega), if_neg (by omega), if_neg (by omega), if_neg (by omega), if_neg (by omega), if_neg (by omega), if_neg (by omega), if_pos (by omega), eI23] <;> (subst_vars; rfl))
                · by_cases sw24 : ((I 14 w) : Int32).toInt = 9
                  · refine sw_in C dX7_act_20 sw24 (by decide) (by decide) (off := 266) (by decide) (tgt := 286) (by decide) ?_
                    refine lv_aload_n hx hb dX7_act_286 rfl (lv_at hl 2 rfl) ?_
                    refine lv_iconst (v := nI 1) hx hb dX7_act_287 (by decide) ?_
                    refine p_X7_152 C hP hS (by assumption) (by first | assumption | decide) dX7_act_288 (fun H locs hP hS => ?_)
                    obtain ⟨I25, eI25⟩ : ∃ Znew : Nat → Nat → Int32, Znew = up2 I 10 19 (nI 1) := ⟨_, rfl⟩
                    rw [← eI25] at hP
                    refine lv_goto (tgt := 294) hx hb dX7_act_291 (by decide) ?_
                    exact hret _ _ _ _ _ dX7_act_294 hP hS (by unfold actM; rw [if_neg (by omega), if_neg (by omega), if_neg (by omega), if_neg (by omega), if_neg (by omega), if_neg (by omega), if_neg (by omega), if_neg (by omega), if_pos (by omega), eI25] <;> (subst_vars; rfl))
                  · refine lv_tableOut hx hb dX7_act_20 (by omega) (tgt := 294) (by decide) ?_
                    exact hret _ _ _ _ _ dX7_act_294 hP hS (by unfold actM; rw [if_neg (by omega), if_neg (by omega), if_neg (by omega), if_neg (by omega), if_neg (by omega), if_neg (by omega), if_neg (by omega), if_neg (by omega), if_neg (by omega)])
