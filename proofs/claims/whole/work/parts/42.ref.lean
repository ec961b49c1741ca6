/-! the reference: needs, entries, registers -/
theorem ew_end {f : Nat → Int32} {v a : Int32} {n j : Nat} (e : j = n) (hn : n ≤ 4) (hd : ∀ x y, x < n → y < n → f x = f y → x = y) (ha : ((∀ i, i < j → f i ≠ v) ∧ a = -6) ∨ ∃ i, i < j ∧ f i = v ∧ a = nI i) : a = (if fnd f v n 0 = 4 then -6 else nI (fnd f v n 0)) := by
  subst e
  rcases ha with ⟨h1, h2⟩ | ⟨i, h1, h2, h3⟩
  · rw [if_pos (fnd_miss j 0 (fun a _ q => h1 a (by omega))), h2]
  · rw [fnd_one hd h1 h2, if_neg (by omega), h3]
set_option maxHeartbeats 4000000 in
set_option maxRecDepth 100000 in
theorem c_X7_reads {l : Launch} {E : En} {K : Nat → Nat} {L : Nat → Nat → Bool} {ad : Nat → Nat} {I : Nat → Nat → Int32} (t n : Nat) (hM : IsM K L) (ht : t < 8) (hn : I 12 t = nI n) (hn4 : n ≤ 4) : MI l E K L ad I yX7_reads cX7_reads 5 (some .int) 2 [.ref (ad 10), .int (nI t)] (fun v J => J = I ∧ v = rdT (I 11 t) n (fun e => I 14 (5 * t + e)) (fun e => I 15 (5 * t + e)) (fun e => I 16 (5 * t + e))) := by
  have hM0 := hM
  obtain ⟨m0, ml1, ml2, ml3, ml4, ml5, ml6, ml7, ml8, ml9, ml10, ml11, ml12, ml13, ml14, ml15, ml16, ml17, ml21, ml25, ml26, mk1, mk2, mk3, mk4, mk5, mk6, mk7, mk8, mk9, mk10, mk11, mk12, mk13, mk14, mk15, mk16, mk17, mk21, mk25, mk26⟩ := hM
  refine MI.of (by decide) (Nat.le_of_ble_eq_true rfl) ?_
  intro p ee s m args below meth c ls Qf C hret hP hl
  have C : Cx E p s m args c cX7_reads RX7 5 := C
  have hx := C.1
  have hb := C.2.1
  have hS : va_S (AG E) s.heap s.heap [] := va_S.rf
  have hl : lv_has ls 5 [(0, .ref (ad 10)), (1, .int (nI t))] := hl
  refine lv_iconst (v := nI 1) hx hb dX7_reads_0 (by decide) ?_
  refine lv_aload_n hx hb dX7_reads_1 rfl (lv_at hl 0 rfl) ?_
  refine f_X7_7 (q := 11) C hP (by assumption) (by assumption) rfl dX7_reads_2 ?_
  refine lv_iload_n hx hb dX7_reads_5 rfl (lv_at hl 1 rfl) ?_
  refine r_iald (n := 8) C hP (by assumption) (by omega) (by decide) dX7_reads_6 ?_
  refine lv_ishl hx hb dX7_reads_7 ?_
  refine lv_topi (fun x1 ex1 => ?_)
  refine lv_istore_n (lv' := [(2, .int x1), (0, .ref (ad 10)), (1, .int (nI t))]) hx hb dX7_reads_8 rfl hl (by decide) rfl (fun ls hl => ?_)
  refine lv_iconst (v := nI 5) hx hb dX7_reads_9 (by decide) ?_
  refine lv_iload_n hx hb dX7_reads_10 rfl (lv_at hl 2 rfl) ?_
  refine r_mulN C dX7_reads_11 ?_
  refine lv_istore_n (lv' := [(3, .int (nI (5 * t))), (2, .int x1), (0, .ref (ad 10)), (1, .int (nI t))]) hx hb dX7_reads_12 rfl hl (by decide) rfl (fun ls hl => ?_)
  have hL13_2 : ∀ (d : Nat) (e : Nat) (a : Int32) (H : Heap) (locs : List Loc) (ls : Array Slot), 5 < e + d → (e ≤ 5) → (a = orF (sB (I 11 t)) (fun e => if thr n e then rdA (I 14 (5 * t + e)) (I 15 (5 * t + e)) (I 16 (5 * t + e)) else nI 0) e) → Hp E K L ad I H → va_S (AG E) s.heap H locs → lv_has ls 5 [(0, .ref (ad 10)), (1, .int (nI t)), (2, .int a), (3, .int (nI (5 * t + e)))] → W p l ee (rmk 2) s m args below meth c H locs 0 0 Qf (F0 m 13 ls []) := by
    intro d
    induction d with
    | zero => intro e a H locs ls hd he ha _ _ _; exact absurd hd (by omega)
    | succ d ih =>
      intro e a H locs ls hd he ha hP hS hl
      refine lv_iload_n hx hb dX7_reads_13 rfl (lv_at hl 3 rfl) ?_
      refine lv_iconst (v := nI 5) hx hb dX7_reads_14 (by decide) ?_
      refine lv_iload_n hx hb dX7_reads_15 rfl (lv_at hl 1 rfl) ?_
      refine r_mulN C dX7_reads_16 ?_
      refine lv_iconst (v := nI 5) hx hb dX7_reads_17 (by decide) ?_
      refine r_addN C dX7_reads_18 ?_
      refine b_geN C (by omega) (by omega) dX7_reads_19 (tgt := 112) (by decide) (fun h3 => ?_) (fun h3 => ?_)
      · refine lv_iload_n hx hb dX7_reads_112 rfl (lv_at hl 2 rfl) ?_
        exact hret _ _ _ _ _ _ dX7_reads_113 hP hS (⟨rfl, by rw [rdT]; rw [ha, show e = 5 by omega]⟩)
      · refine lv_aload_n hx hb dX7_reads_22 rfl (lv_at hl 0 rfl) ?_
        refine f_X7_19 (q := 14) C hP (by assumption) (by assumption) rfl dX7_reads_23 ?_
        refine lv_iload_n hx hb dX7_reads_26 rfl (lv_at hl 3 rfl) ?_
        refine r_iald (n := 40) C hP (by assumption) (by omega) (by decide) dX7_reads_27 ?_
        refine lv_istore (lv' := [(4, .int (I 14 (5 * t + e))), (0, .ref (ad 10)), (1, .int (nI t)), (2, .int a), (3, .int (nI (5 * t + e)))]) hx hb dX7_reads_28 hl (by decide) rfl (fun ls hl => ?_)
        refine lv_aload_n hx hb dX7_reads_30 rfl (lv_at hl 1 rfl) ?_
        refine lv_iload_n hx hb dX7_reads_31 rfl (lv_at hl 4 rfl) ?_
        refine k_X7_90 C hP hS (by assumption) (c_X7_isThere t e n hM0 ht (by omega) hn hn4) ⟨Nat.le_of_ble_eq_true rfl, Nat.le_of_ble_eq_true rfl⟩ ⟨Nat.zero_le _, Nat.zero_le _⟩ hl.1 (Nat.le_of_ble_eq_true rfl) dX7_reads_32 (fun v4 I5 H locs hv6 hP hS => ?_)
        obtain ⟨eI5, hv6⟩ := hv6
        rw [eI5] at hP
        clear eI5
        rcases hv6 with ⟨rfl, hc7⟩ | ⟨rfl, hc7⟩
        · refine z_eq1 C dX7_reads_35 (tgt := 106) (by decide) ?_
          refine lv_iload_n hx hb dX7_reads_38 rfl (lv_at hl 3 rfl) ?_
          refine lv_iload hx hb dX7_reads_39 (lv_at hl 0 rfl) ?_
          refine lv_iconst (v := nI 2) hx hb dX7_reads_41 (by decide) ?_
          refine b_eq C dX7_reads_42 (tgt := 51) (by decide) (fun h8 => ?_) (fun h8 => ?_)
          · have h8t : ((I 14 (5 * t + e)) : Int32).toInt = 2 := by rw [h8]; rfl
            refine lv_iconst (v := nI 1) hx hb dX7_reads_51 (by decide) ?_
            refine lv_aload_n hx hb dX7_reads_52 rfl (lv_at hl 1 rfl) ?_
            refine f_X7_25 (q := 16) C hP (by assumption) (by assumption) rfl dX7_reads_53 ?_
            refine lv_iload_n hx hb dX7_reads_56 rfl (lv_at hl 4 rfl) ?_
            refine r_iald (n := 40) C hP (by assumption) (by omega) (by decide) dX7_reads_57 ?_
            refine lv_ishl hx hb dX7_reads_58 ?_
            refine lv_topi (fun x9 ex9 => ?_)
            refine lv_goto (tgt := 63) hx hb dX7_reads_59 (by decide) ?_
            refine lv_ior hx hb dX7_reads_63 ?_
            refine lv_topi (fun x10 ex10 => ?_)
            refine lv_istore_n (lv' := [(2, .int x10), (4, .int (I 14 (5 * t + e))), (0, .ref (ad 10)), (1, .int (nI t)), (3, .int (nI (5 * t + e)))]) hx hb dX7_reads_64 rfl hl (by decide) rfl (fun ls hl => ?_)
            refine lv_iload_n hx hb dX7_reads_65 rfl (lv_at hl 0 rfl) ?_
            refine lv_iload hx hb dX7_reads_66 (lv_at hl 1 rfl) ?_
            refine lv_iconst (v := nI 3) hx hb dX7_reads_68 (by decide) ?_
            refine b_eq C dX7_reads_69 (tgt := 92) (by decide) (fun h11 => ?_) (fun h11 => ?_)
            · have h11t : ((I 14 (5 * t + e)) : Int32).toInt = 3 := by rw [h11]; rfl
              refine lv_iconst (v := nI 1) hx hb dX7_reads_92 (by decide) ?_
              refine lv_aload_n hx hb dX7_reads_93 rfl (lv_at hl 2 rfl) ?_
              refine f_X7_22 (q := 15) C hP (by assumption) (by assumption) rfl dX7_reads_94 ?_
              refine lv_iload_n hx hb dX7_reads_97 rfl (lv_at hl 4 rfl) ?_
              refine r_iald (n := 40) C hP (by assumption) (by omega) (by decide) dX7_reads_98 ?_
              refine lv_ishl hx hb dX7_reads_99 ?_
              refine lv_topi (fun x12 ex12 => ?_)
              refine lv_goto (tgt := 104) hx hb dX7_reads_100 (by decide) ?_
              refine lv_ior hx hb dX7_reads_104 ?_
              refine lv_topi (fun x13 ex13 => ?_)
              refine lv_istore_n (lv' := [(2, .int x13), (4, .int (I 14 (5 * t + e))), (0, .ref (ad 10)), (1, .int (nI t)), (3, .int (nI (5 * t + e)))]) hx hb dX7_reads_105 rfl hl (by decide) rfl (fun ls hl => ?_)
              refine lv_iinc (v := nI (5 * t + e + 1)) (lv' := [(3, .int (nI (5 * t + e + 1))), (2, .int x13), (4, .int (I 14 (5 * t + e))), (0, .ref (ad 10)), (1, .int (nI t))]) hx hb dX7_reads_106 hl (k := 4) rfl (nI_1 _) (by decide) rfl (fun ls hl => ?_)
              refine lv_goto (tgt := 13) hx hb dX7_reads_109 (by decide) ?_
              exact ih (e + 1) x13 _ _ _ (by omega) (by omega) (by rw [ex13, ex10, ex9, ex12, ha]; simp only [orF]; rw [if_pos (by assumption)]; refine rd_or ?_ ?_ <;> first | (rw [if_pos (by omega)]; done) | (rw [if_neg (by omega)]; done)) hP hS (lv_sub hl [3, 4, 1, 0] rfl)
            · have h11t : ((I 14 (5 * t + e)) : Int32).toInt ≠ 3 := fun q => h11 (i32_eq (by decide) q)
              refine lv_iload hx hb dX7_reads_72 (lv_at hl 1 rfl) ?_
              refine lv_iconst (v := nI 4) hx hb dX7_reads_74 (by decide) ?_
              refine b_eq C dX7_reads_75 (tgt := 92) (by decide) (fun h14 => ?_) (fun h14 => ?_)
              · have h14t : ((I 14 (5 * t + e)) : Int32).toInt = 4 := by rw [h14]; rfl
                refine lv_iconst (v := nI 1) hx hb dX7_reads_92 (by decide) ?_
                refine lv_aload_n hx hb dX7_reads_93 rfl (lv_at hl 2 rfl) ?_
                refine f_X7_22 (q := 15) C hP (by assumption) (by assumption) rfl dX7_reads_94 ?_
                refine lv_iload_n hx hb dX7_reads_97 rfl (lv_at hl 4 rfl) ?_
                refine r_iald (n := 40) C hP (by assumption) (by omega) (by decide) dX7_reads_98 ?_
                refine lv_ishl hx hb dX7_reads_99 ?_
                refine lv_topi (fun x15 ex15 => ?_)
                refine lv_goto (tgt := 104) hx hb dX7_reads_100 (by decide) ?_
                refine lv_ior hx hb dX7_reads_104 ?_
                refine lv_topi (fun x16 ex16 => ?_)
                refine lv_istore_n (lv' := [(2, .int x16), (4, .int (I 14 (5 * t + e))), (0, .ref (ad 10)), (1, .int (nI t)), (3, .int (nI (5 * t + e)))]) hx hb dX7_reads_105 rfl hl (by decide) rfl (fun ls hl => ?_)
                refine lv_iinc (v := nI (5 * t + e + 1)) (lv' := [(3, .int (nI (5 * t + e + 1))), (2, .int x16), (4, .int (I 14 (5 * t + e))), (0, .ref (ad 10)), (1, .int (nI t))]) hx hb dX7_reads_106 hl (k := 4) rfl (nI_1 _) (by decide) rfl (fun ls hl => ?_)
                refine lv_goto (tgt := 13) hx hb dX7_reads_109 (by decide) ?_
                exact ih (e + 1) x16 _ _ _ (by omega) (by omega) (by rw [ex16, ex10, ex9, ex15, ha]; simp only [orF]; rw [if_pos (by assumption)]; refine rd_or ?_ ?_ <;> first | (rw [if_pos (by omega)]; done) | (rw [if_neg (by omega)]; done)) hP hS (lv_sub hl [3, 4, 1, 0] rfl)
              · have h14t : ((I 14 (5 * t + e)) : Int32).toInt ≠ 4 := fun q => h14 (i32_eq (by decide) q)
                refine lv_iload hx hb dX7_reads_78 (lv_at hl 1 rfl) ?_
                refine lv_bipush (v := nI 6) hx hb dX7_reads_80 (by decide) ?_
                refine b_eq C dX7_reads_82 (tgt := 92) (by decide) (fun h17 => ?_) (fun h17 => ?_)
                · have h17t : ((I 14 (5 * t + e)) : Int32).toInt = 6 := by rw [h17]; rfl
                  refine lv_iconst (v := nI 1) hx hb dX7_reads_92 (by decide) ?_
                  refine lv_aload_n hx hb dX7_reads_93 rfl (lv_at hl 2 rfl) ?_
                  refine f_X7_22 (q := 15) C hP (by assumption) (by assumption) rfl dX7_reads_94 ?_
                  refine lv_iload_n hx hb dX7_reads_97 rfl (lv_at hl 4 rfl) ?_
                  refine r_iald (n := 40) C hP (by assumption) (by omega) (by decide) dX7_reads_98 ?_
                  refine lv_ishl hx hb dX7_reads_99 ?_
                  refine lv_topi (fun x18 ex18 => ?_)
                  refine lv_goto (tgt := 104) hx hb dX7_reads_100 (by decide) ?_
                  refine lv_ior hx hb dX7_reads_104 ?_
                  refine lv_topi (fun x19 ex19 => ?_)
                  refine lv_istore_n (lv' := [(2, .int x19), (4, .int (I 14 (5 * t + e))), (0, .ref (ad 10)), (1, .int (nI t)), (3, .int (nI (5 * t + e)))]) hx hb dX7_reads_105 rfl hl (by decide) rfl (fun ls hl => ?_)
                  refine lv_iinc (v := nI (5 * t + e + 1)) (lv' := [(3, .int (nI (5 * t + e + 1))), (2, .int x19), (4, .int (I 14 (5 * t + e))), (0, .ref (ad 10)), (1, .int (nI t))]) hx hb dX7_reads_106 hl (k := 4) rfl (nI_1 _) (by decide) rfl (fun ls hl => ?_)
                  refine lv_goto (tgt := 13) hx hb dX7_reads_109 (by decide) ?_
                  exact ih (e + 1) x19 _ _ _ (by omega) (by omega) (by rw [ex19, ex10, ex9, ex18, ha]; simp only [orF]; rw [if_pos (by assumption)]; refine rd_or ?_ ?_ <;> first | (rw [if_pos (by omega)]; done) | (rw [if_neg (by omega)]; done)) hP hS (lv_sub hl [3, 4, 1, 0] rfl)
                · have h17t : ((I 14 (5 * t + e)) : Int32).toInt ≠ 6 := fun q => h17 (i32_eq (by decide) q)
                  refine lv_iload hx hb dX7_reads_85 (lv_at hl 1 rfl) ?_
                  refine lv_bipush (v := nI 7) hx hb dX7_reads_87 (by decide) ?_
                  refine b_ne C dX7_reads_89 (tgt := 103) (by decide) (fun h20 => ?_) (fun h20 => ?_)
                  · have h20t : ((I 14 (5 * t + e)) : Int32).toInt ≠ 7 := fun q => h20 (i32_eq (by decide) q)
                    refine lv_iconst (v := nI 0) hx hb dX7_reads_103 (by decide) ?_
                    refine lv_ior hx hb dX7_reads_104 ?_
                    refine lv_topi (fun x21 ex21 => ?_)
                    refine lv_istore_n (lv' := [(2, .int x21), (4, .int (I 14 (5 * t + e))), (0, .ref (ad 10)), (1, .int (nI t)), (3, .int (nI (5 * t + e)))]) hx hb dX7_reads_105 rfl hl (by decide) rfl (fun ls hl => ?_)
                    refine lv_iinc (v := nI (5 * t + e + 1)) (lv' := [(3, .int (nI (5 * t + e + 1))), (2, .int x21), (4, .int (I 14 (5 * t + e))), (0, .ref (ad 10)), (1, .int (nI t))]) hx hb dX7_reads_106 hl (k := 4) rfl (nI_1 _) (by decide) rfl (fun ls hl => ?_)
                    refine lv_goto (tgt := 13) hx hb dX7_reads_109 (by decide) ?_
                    exact ih (e + 1) x21 _ _ _ (by omega) (by omega) (by rw [ex21, ex10, ex9, ha]; simp only [orF]; rw [if_pos (by assumption)]; refine rd_or ?_ ?_ <;> first | (rw [if_pos (by omega)]; done) | (rw [if_neg (by omega)]; done)) hP hS (lv_sub hl [3, 4, 1, 0] rfl)
                  · have h20t : ((I 14 (5 * t + e)) : Int32).toInt = 7 := by rw [h20]; rfl
                    refine lv_iconst (v := nI 1) hx hb dX7_reads_92 (by decide) ?_
                    refine lv_aload_n hx hb dX7_reads_93 rfl (lv_at hl 2 rfl) ?_
                    refine f_X7_22 (q := 15) C hP (by assumption) (by assumption) rfl dX7_reads_94 ?_
                    refine lv_iload_n hx hb dX7_reads_97 rfl (lv_at hl 4 rfl) ?_
                    refine r_iald (n := 40) C hP (by assumption) (by omega) (by decide) dX7_reads_98 ?_
                    refine lv_ishl hx hb dX7_reads_99 ?_
                    refine lv_topi (fun x22 ex22 => ?_)
                    refine lv_goto (tgt := 104) hx hb dX7_reads_100 (by decide) ?_
                    refine lv_ior hx hb dX7_reads_104 ?_
                    refine lv_topi (fun x23 ex23 => ?_)
                    refine lv_istore_n (lv' := [(2, .int x23), (4, .int (I 14 (5 * t + e))), (0, .ref (ad 10)), (1, .int (nI t)), (3, .int (nI (5 * t + e)))]) hx hb dX7_reads_105 rfl hl (by decide) rfl (fun ls hl => ?_)
                    refine lv_iinc (v := nI (5 * t + e + 1)) (lv' := [(3, .int (nI (5 * t + e + 1))), (2, .int x23), (4, .int (I 14 (5 * t + e))), (0, .ref (ad 10)), (1, .int (nI t))]) hx hb dX7_reads_106 hl (k := 4) rfl (nI_1 _) (by decide) rfl (fun ls hl => ?_)
                    refine lv_goto (tgt := 13) hx hb dX7_reads_109 (by decide) ?_
                    exact ih (e + 1) x23 _ _ _ (by omega) (by omega) (by rw [ex23, ex10, ex9, ex22, ha]; simp only [orF]; rw [if_pos (by assumption)]; refine rd_or ?_ ?_ <;> first | (rw [if_pos (by omega)]; done) | (rw [if_neg (by omega)]; done)) hP hS (lv_sub hl [3, 4, 1, 0] rfl)
          · have h8t : ((I 14 (5 * t + e)) : Int32).toInt ≠ 2 := fun q => h8 (i32_eq (by decide) q)
            refine lv_iload hx hb dX7_reads_45 (lv_at hl 0 rfl) ?_
            refine lv_iconst (v := nI 4) hx hb dX7_reads_47 (by decide) ?_
            refine b_ne C dX7_reads_48 (tgt := 62) (by decide) (fun h24 => ?_) (fun h24 => ?_)
            · have h24t : ((I 14 (5 * t + e)) : Int32).toInt ≠ 4 := fun q => h24 (i32_eq (by decide) q)
              refine lv_iconst (v := nI 0) hx hb dX7_reads_62 (by decide) ?_
              refine lv_ior hx hb dX7_reads_63 ?_
              refine lv_topi (fun x25 ex25 => ?_)
              refine lv_istore_n (lv' := [(2, .int x25), (4, .int (I 14 (5 * t + e))), (0, .ref (ad 10)), (1, .int (nI t)), (3, .int (nI (5 * t + e)))]) hx hb dX7_reads_64 rfl hl (by decide) rfl (fun ls hl => ?_)
              refine lv_iload_n hx hb dX7_reads_65 rfl (lv_at hl 0 rfl) ?_
              refine lv_iload hx hb dX7_reads_66 (lv_at hl 1 rfl) ?_
              refine lv_iconst (v := nI 3) hx hb dX7_reads_68 (by decide) ?_
              refine b_eq C dX7_reads_69 (tgt := 92) (by decide) (fun h26 => ?_) (fun h26 => ?_)
              · have h26t : ((I 14 (5 * t + e)) : Int32).toInt = 3 := by rw [h26]; rfl
                refine lv_iconst (v := nI 1) hx hb dX7_reads_92 (by decide) ?_
                refine lv_aload_n hx hb dX7_reads_93 rfl (lv_at hl 2 rfl) ?_
                refine f_X7_22 (q := 15) C hP (by assumption) (by assumption) rfl dX7_reads_94 ?_
                refine lv_iload_n hx hb dX7_reads_97 rfl (lv_at hl 4 rfl) ?_
                refine r_iald (n := 40) C hP (by assumption) (by omega) (by decide) dX7_reads_98 ?_
                refine lv_ishl hx hb dX7_reads_99 ?_
                refine lv_topi (fun x27 ex27 => ?_)
                refine lv_goto (tgt := 104) hx hb dX7_reads_100 (by decide) ?_
                refine lv_ior hx hb dX7_reads_104 ?_
                refine lv_topi (fun x28 ex28 => ?_)
                refine lv_istore_n (lv' := [(2, .int x28), (4, .int (I 14 (5 * t + e))), (0, .ref (ad 10)), (1, .int (nI t)), (3, .int (nI (5 * t + e)))]) hx hb dX7_reads_105 rfl hl (by decide) rfl (fun ls hl => ?_)
                refine lv_iinc (v := nI (5 * t + e + 1)) (lv' := [(3, .int (nI (5 * t + e + 1))), (2, .int x28), (4, .int (I 14 (5 * t + e))), (0, .ref (ad 10)), (1, .int (nI t))]) hx hb dX7_reads_106 hl (k := 4) rfl (nI_1 _) (by decide) rfl (fun ls hl => ?_)
                refine lv_goto (tgt := 13) hx hb dX7_reads_109 (by decide) ?_
                exact ih (e + 1) x28 _ _ _ (by omega) (by omega) (by rw [ex28, ex25, ex27, ha]; simp only [orF]; rw [if_pos (by assumption)]; refine rd_or ?_ ?_ <;> first | (rw [if_pos (by omega)]; done) | (rw [if_neg (by omega)]; done)) hP hS (lv_sub hl [3, 4, 1, 0] rfl)
              · have h26t : ((I 14 (5 * t + e)) : Int32).toInt ≠ 3 := fun q => h26 (i32_eq (by decide) q)
                refine lv_iload hx hb dX7_reads_72 (lv_at hl 1 rfl) ?_
                refine lv_iconst (v := nI 4) hx hb dX7_reads_74 (by decide) ?_
                refine b_eq C dX7_reads_75 (tgt := 92) (by decide) (fun h29 => ?_) (fun h29 => ?_)
                · have h29t : ((I 14 (5 * t + e)) : Int32).toInt = 4 := by rw [h29]; rfl
                  refine lv_iconst (v := nI 1) hx hb dX7_reads_92 (by decide) ?_
                  refine lv_aload_n hx hb dX7_reads_93 rfl (lv_at hl 2 rfl) ?_
                  refine f_X7_22 (q := 15) C hP (by assumption) (by assumption) rfl dX7_reads_94 ?_
                  refine lv_iload_n hx hb dX7_reads_97 rfl (lv_at hl 4 rfl) ?_
                  refine r_iald (n := 40) C hP (by assumption) (by omega) (by decide) dX7_reads_98 ?_
                  refine lv_ishl hx hb dX7_reads_99 ?_
                  refine lv_topi (fun x30 ex30 => ?_)
                  refine lv_goto (tgt := 104) hx hb dX7_reads_100 (by decide) ?_
                  refine lv_ior hx hb dX7_reads_104 ?_
                  refine lv_topi (fun x31 ex31 => ?_)
                  refine lv_istore_n (lv' := [(2, .int x31), (4, .int (I 14 (5 * t + e))), (0, .ref (ad 10)), (1, .int (nI t)), (3, .int (nI (5 * t + e)))]) hx hb dX7_reads_105 rfl hl (by decide) rfl (fun ls hl => ?_)
                  refine lv_iinc (v := nI (5 * t + e + 1)) (lv' := [(3, .int (nI (5 * t + e + 1))), (2, .int x31), (4, .int (I 14 (5 * t + e))), (0, .ref (ad 10)), (1, .int (nI t))]) hx hb dX7_reads_106 hl (k := 4) rfl (nI_1 _) (by decide) rfl (fun ls hl => ?_)
                  refine lv_goto (tgt := 13) hx hb dX7_reads_109 (by decide) ?_
                  exact ih (e + 1) x31 _ _ _ (by omega) (by omega) (by rw [ex31, ex25, ex30, ha]; simp only [orF]; rw [if_pos (by assumption)]; refine rd_or ?_ ?_ <;> first | (rw [if_pos (by omega)]; done) | (rw [if_neg (by omega)]; done)) hP hS (lv_sub hl [3, 4, 1, 0] rfl)
                · have h29t : ((I 14 (5 * t + e)) : Int32).toInt ≠ 4 := fun q => h29 (i32_eq (by decide) q)
                  refine lv_iload hx hb dX7_reads_78 (lv_at hl 1 rfl) ?_
                  refine lv_bipush (v := nI 6) hx hb dX7_reads_80 (by decide) ?_
                  refine b_eq C dX7_reads_82 (tgt := 92) (by decide) (fun h32 => ?_) (fun h32 => ?_)
                  · have h32t : ((I 14 (5 * t + e)) : Int32).toInt = 6 := by rw [h32]; rfl
                    refine lv_iconst (v := nI 1) hx hb dX7_reads_92 (by decide) ?_
                    refine lv_aload_n hx hb dX7_reads_93 rfl (lv_at hl 2 rfl) ?_
                    refine f_X7_22 (q := 15) C hP (by assumption) (by assumption) rfl dX7_reads_94 ?_
                    refine lv_iload_n hx hb dX7_reads_97 rfl (lv_at hl 4 rfl) ?_
                    refine r_iald (n := 40) C hP (by assumption) (by omega) (by decide) dX7_reads_98 ?_
                    refine lv_ishl hx hb dX7_reads_99 ?_
                    refine lv_topi (fun x33 ex33 => ?_)
                    refine lv_goto (tgt := 104) hx hb dX7_reads_100 (by decide) ?_
                    refine lv_ior hx hb dX7_reads_104 ?_
                    refine lv_topi (fun x34 ex34 => ?_)
                    refine lv_istore_n (lv' := [(2, .int x34), (4, .int (I 14 (5 * t + e))), (0, .ref (ad 10)), (1, .int (nI t)), (3, .int (nI (5 * t + e)))]) hx hb dX7_reads_105 rfl hl (by decide) rfl (fun ls hl => ?_)
                    refine lv_iinc (v := nI (5 * t + e + 1)) (lv' := [(3, .int (nI (5 * t + e + 1))), (2, .int x34), (4, .int (I 14 (5 * t + e))), (0, .ref (ad 10)), (1, .int (nI t))]) hx hb dX7_reads_106 hl (k := 4) rfl (nI_1 _) (by decide) rfl (fun ls hl => ?_)
                    refine lv_goto (tgt := 13) hx hb dX7_reads_109 (by decide) ?_
                    exact ih (e + 1) x34 _ _ _ (by omega) (by omega) (by rw [ex34, ex25, ex33, ha]; simp only [orF]; rw [if_pos (by assumption)]; refine rd_or ?_ ?_ <;> first | (rw [if_pos (by omega)]; done) | (rw [if_neg (by omega)]; done)) hP hS (lv_sub hl [3, 4, 1, 0] rfl)
                  · have h32t : ((I 14 (5 * t + e)) : Int32).toInt ≠ 6 := fun q => h32 (i32_eq (by decide) q)
                    refine lv_iload hx hb dX7_reads_85 (lv_at hl 1 rfl) ?_
                    refine lv_bipush (v := nI 7) hx hb dX7_reads_87 (by decide) ?_
                    refine b_ne C dX7_reads_89 (tgt := 103) (by decide) (fun h35 => ?_) (fun h35 => ?_)
                    · have h35t : ((I 14 (5 * t + e)) : Int32).toInt ≠ 7 := fun q => h35 (i32_eq (by decide) q)
                      refine lv_iconst (v := nI 0) hx hb dX7_reads_103 (by decide) ?_
                      refine lv_ior hx hb dX7_reads_104 ?_
                      refine lv_topi (fun x36 ex36 => ?_)
                      refine lv_istore_n (lv' := [(2, .int x36), (4, .int (I 14 (5 * t + e))), (0, .ref (ad 10)), (1, .int (nI t)), (3, .int (nI (5 * t + e)))]) hx hb dX7_reads_105 rfl hl (by decide) rfl (fun ls hl => ?_)
                      refine lv_iinc (v := nI (5 * t + e + 1)) (lv' := [(3, .int (nI (5 * t + e + 1))), (2, .int x36), (4, .int (I 14 (5 * t + e))), (0, .ref (ad 10)), (1, .int (nI t))]) hx hb dX7_reads_106 hl (k := 4) rfl (nI_1 _) (by decide) rfl (fun ls hl => ?_)
                      refine lv_goto (tgt := 13) hx hb dX7_reads_109 (by decide) ?_
                      exact ih (e + 1) x36 _ _ _ (by omega) (by omega) (by rw [ex36, ex25, ha]; simp only [orF]; rw [if_pos (by assumption)]; refine rd_or ?_ ?_ <;> first | (rw [if_pos (by omega)]; done) | (rw [if_neg (by omega)]; done)) hP hS (lv_sub hl [3, 4, 1, 0] rfl)
                    · have h35t : ((I 14 (5 * t + e)) : Int32).toInt = 7 := by rw [h35]; rfl
                      refine lv_iconst (v := nI 1) hx hb dX7_reads_92 (by decide) ?_
                      refine lv_aload_n hx hb dX7_reads_93 rfl (lv_at hl 2 rfl) ?_
                      refine f_X7_22 (q := 15) C hP (by assumption) (by assumption) rfl dX7_reads_94 ?_
                      refine lv_iload_n hx hb dX7_reads_97 rfl (lv_at hl 4 rfl) ?_
                      refine r_iald (n := 40) C hP (by assumption) (by omega) (by decide) dX7_reads_98 ?_
                      refine lv_ishl hx hb dX7_reads_99 ?_
                      refine lv_topi (fun x37 ex37 => ?_)
                      refine lv_goto (tgt := 104) hx hb dX7_reads_100 (by decide) ?_
                      refine lv_ior hx hb dX7_reads_104 ?_
                      refine lv_topi (fun x38 ex38 => ?_)
                      refine lv_istore_n (lv' := [(2, .int x38), (4, .int (I 14 (5 * t + e))), (0, .ref (ad 10)), (1, .int (nI t)), (3, .int (nI (5 * t + e)))]) hx hb dX7_reads_105 rfl hl (by decide) rfl (fun ls hl => ?_)
                      refine lv_iinc (v := nI (5 * t + e + 1)) (lv' := [(3, .int (nI (5 * t + e + 1))), (2, .int x38), (4, .int (I 14 (5 * t + e))), (0, .ref (ad 10)), (1, .int (nI t))]) hx hb dX7_reads_106 hl (k := 4) rfl (nI_1 _) (by decide) rfl (fun ls hl => ?_)
                      refine lv_goto (tgt := 13) hx hb dX7_reads_109 (by decide) ?_
                      exact ih (e + 1) x38 _ _ _ (by omega) (by omega) (by rw [ex38, ex25, ex37, ha]; simp only [orF]; rw [if_pos (by assumption)]; refine rd_or ?_ ?_ <;> first | (rw [if_pos (by omega)]; done) | (rw [if_neg (by omega)]; done)) hP hS (lv_sub hl [3, 4, 1, 0] rfl)
            · have h24t : ((I 14 (5 * t + e)) : Int32).toInt = 4 := by rw [h24]; rfl
              refine lv_iconst (v := nI 1) hx hb dX7_reads_51 (by decide) ?_
              refine lv_aload_n hx hb dX7_reads_52 rfl (lv_at hl 1 rfl) ?_
              refine f_X7_25 (q := 16) C hP (by assumption) (by assumption) rfl dX7_reads_53 ?_
              refine lv_iload_n hx hb dX7_reads_56 rfl (lv_at hl 4 rfl) ?_
              refine r_iald (n := 40) C hP (by assumption) (by omega) (by decide) dX7_reads_57 ?_
              refine lv_ishl hx hb dX7_reads_58 ?_
              refine lv_topi (fun x39 ex39 => ?_)
              refine lv_goto (tgt := 63) hx hb dX7_reads_59 (by decide) ?_
              refine lv_ior hx hb dX7_reads_63 ?_
              refine lv_topi (fun x40 ex40 => ?_)
              refine lv_istore_n (lv' := [(2, .int x40), (4, .int (I 14 (5 * t + e))), (0, .ref (ad 10)), (1, .int (nI t)), (3, .int (nI (5 * t + e)))]) hx hb dX7_reads_64 rfl hl (by decide) rfl (fun ls hl => ?_)
              refine lv_iload_n hx hb dX7_reads_65 rfl (lv_at hl 0 rfl) ?_
              refine lv_iload hx hb dX7_reads_66 (lv_at hl 1 rfl) ?_
              refine lv_iconst (v := nI 3) hx hb dX7_reads_68 (by decide) ?_
              refine b_eq C dX7_reads_69 (tgt := 92) (by decide) (fun h41 => ?_) (fun h41 => ?_)
              · have h41t : ((I 14 (5 * t + e)) : Int32).toInt = 3 := by rw [h41]; rfl
                refine lv_iconst (v := nI 1) hx hb dX7_reads_92 (by decide) ?_
                refine lv_aload_n hx hb dX7_reads_93 rfl (lv_at hl 2 rfl) ?_
                refine f_X7_22 (q := 15) C hP (by assumption) (by assumption) rfl dX7_reads_94 ?_
                refine lv_iload_n hx hb dX7_reads_97 rfl (lv_at hl 4 rfl) ?_
                refine r_iald (n := 40) C hP (by assumption) (by omega) (by decide) dX7_reads_98 ?_
                refine lv_ishl hx hb dX7_reads_99 ?_
                refine lv_topi (fun x42 ex42 => ?_)
                refine lv_goto (tgt := 104) hx hb dX7_reads_100 (by decide) ?_
                refine lv_ior hx hb dX7_reads_104 ?_
                refine lv_topi (fun x43 ex43 => ?_)
                refine lv_istore_n (lv' := [(2, .int x43), (4, .int (I 14 (5 * t + e))), (0, .ref (ad 10)), (1, .int (nI t)), (3, .int (nI (5 * t + e)))]) hx hb dX7_reads_105 rfl hl (by decide) rfl (fun ls hl => ?_)
                refine lv_iinc (v := nI (5 * t + e + 1)) (lv' := [(3, .int (nI (5 * t + e + 1))), (2, .int x43), (4, .int (I 14 (5 * t + e))), (0, .ref (ad 10)), (1, .int (nI t))]) hx hb dX7_reads_106 hl (k := 4) rfl (nI_1 _) (by decide) rfl (fun ls hl => ?_)
                refine lv_goto (tgt := 13) hx hb dX7_reads_109 (by decide) ?_
                exact ih (e + 1) x43 _ _ _ (by omega) (by omega) (by rw [ex43, ex40, ex39, ex42, ha]; simp only [orF]; rw [if_pos (by assumption)]; refine rd_or ?_ ?_ <;> first | (rw [if_pos (by omega)]; done) | (rw [if_neg (by omega)]; done)) hP hS (lv_sub hl [3, 4, 1, 0] rfl)
              · have h41t : ((I 14 (5 * t + e)) : Int32).toInt ≠ 3 := fun q => h41 (i32_eq (by decide) q)
                refine lv_iload hx hb dX7_reads_72 (lv_at hl 1 rfl) ?_
                refine lv_iconst (v := nI 4) hx hb dX7_reads_74 (by decide) ?_
                refine b_eq C dX7_reads_75 (tgt := 92) (by decide) (fun h44 => ?_) (fun h44 => ?_)
                · have h44t : ((I 14 (5 * t + e)) : Int32).toInt = 4 := by rw [h44]; rfl
                  refine lv_iconst (v := nI 1) hx hb dX7_reads_92 (by decide) ?_
                  refine lv_aload_n hx hb dX7_reads_93 rfl (lv_at hl 2 rfl) ?_
                  refine f_X7_22 (q := 15) C hP (by assumption) (by assumption) rfl dX7_reads_94 ?_
                  refine lv_iload_n hx hb dX7_reads_97 rfl (lv_at hl 4 rfl) ?_
                  refine r_iald (n := 40) C hP (by assumption) (by omega) (by decide) dX7_reads_98 ?_
                  refine lv_ishl hx hb dX7_reads_99 ?_
                  refine lv_topi (fun x45 ex45 => ?_)
                  refine lv_goto (tgt := 104) hx hb dX7_reads_100 (by decide) ?_
                  refine lv_ior hx hb dX7_reads_104 ?_
                  refine lv_topi (fun x46 ex46 => ?_)
                  refine lv_istore_n (lv' := [(2, .int x46), (4, .int (I 14 (5 * t + e))), (0, .ref (ad 10)), (1, .int (nI t)), (3, .int (nI (5 * t + e)))]) hx hb dX7_reads_105 rfl hl (by decide) rfl (fun ls hl => ?_)
                  refine lv_iinc (v := nI (5 * t + e + 1)) (lv' := [(3, .int (nI (5 * t + e + 1))), (2, .int x46), (4, .int (I 14 (5 * t + e))), (0, .ref (ad 10)), (1, .int (nI t))]) hx hb dX7_reads_106 hl (k := 4) rfl (nI_1 _) (by decide) rfl (fun ls hl => ?_)
                  refine lv_goto (tgt := 13) hx hb dX7_reads_109 (by decide) ?_
                  exact ih (e + 1) x46 _ _ _ (by omega) (by omega) (by rw [ex46, ex40, ex39, ex45, ha]; simp only [orF]; rw [if_pos (by assumption)]; refine rd_or ?_ ?_ <;> first | (rw [if_pos (by omega)]; done) | (rw [if_neg (by omega)]; done)) hP hS (lv_sub hl [3, 4, 1, 0] rfl)
                · have h44t : ((I 14 (5 * t + e)) : Int32).toInt ≠ 4 := fun q => h44 (i32_eq (by decide) q)
                  refine lv_iload hx hb dX7_reads_78 (lv_at hl 1 rfl) ?_
                  refine lv_bipush (v := nI 6) hx hb dX7_reads_80 (by decide) ?_
                  refine b_eq C dX7_reads_82 (tgt := 92) (by decide) (fun h47 => ?_) (fun h47 => ?_)
                  · have h47t : ((I 14 (5 * t + e)) : Int32).toInt = 6 := by rw [h47]; rfl
                    refine lv_iconst (v := nI 1) hx hb dX7_reads_92 (by decide) ?_
                    refine lv_aload_n hx hb dX7_reads_93 rfl (lv_at hl 2 rfl) ?_
                    refine f_X7_22 (q := 15) C hP (by assumption) (by assumption) rfl dX7_reads_94 ?_
                    refine lv_iload_n hx hb dX7_reads_97 rfl (lv_at hl 4 rfl) ?_
                    refine r_iald (n := 40) C hP (by assumption) (by omega) (by decide) dX7_reads_98 ?_
                    refine lv_ishl hx hb dX7_reads_99 ?_
                    refine lv_topi (fun x48 ex48 => ?_)
                    refine lv_goto (tgt := 104) hx hb dX7_reads_100 (by decide) ?_
                    refine lv_ior hx hb dX7_reads_104 ?_
                    refine lv_topi (fun x49 ex49 => ?_)
                    refine lv_istore_n (lv' := [(2, .int x49), (4, .int (I 14 (5 * t + e))), (0, .ref (ad 10)), (1, .int (nI t)), (3, .int (nI (5 * t + e)))]) hx hb dX7_reads_105 rfl hl (by decide) rfl (fun ls hl => ?_)
                    refine lv_iinc (v := nI (5 * t + e + 1)) (lv' := [(3, .int (nI (5 * t + e + 1))), (2, .int x49), (4, .int (I 14 (5 * t + e))), (0, .ref (ad 10)), (1, .int (nI t))]) hx hb dX7_reads_106 hl (k := 4) rfl (nI_1 _) (by decide) rfl (fun ls hl => ?_)
                    refine lv_goto (tgt := 13) hx hb dX7_reads_109 (by decide) ?_
                    exact ih (e + 1) x49 _ _ _ (by omega) (by omega) (by rw [ex49, ex40, ex39, ex48, ha]; simp only [orF]; rw [if_pos (by assumption)]; refine rd_or ?_ ?_ <;> first | (rw [if_pos (by omega)]; done) | (rw [if_neg (by omega)]; done)) hP hS (lv_sub hl [3, 4, 1, 0] rfl)
                  · have h47t : ((I 14 (5 * t + e)) : Int32).toInt ≠ 6 := fun q => h47 (i32_eq (by decide) q)
                    refine lv_iload hx hb dX7_reads_85 (lv_at hl 1 rfl) ?_
                    refine lv_bipush (v := nI 7) hx hb dX7_reads_87 (by decide) ?_
                    refine b_ne C dX7_reads_89 (tgt := 103) (by decide) (fun h50 => ?_) (fun h50 => ?_)
                    · have h50t : ((I 14 (5 * t + e)) : Int32).toInt ≠ 7 := fun q => h50 (i32_eq (by decide) q)
                      refine lv_iconst (v := nI 0) hx hb dX7_reads_103 (by decide) ?_
                      refine lv_ior hx hb dX7_reads_104 ?_
                      refine lv_topi (fun x51 ex51 => ?_)
                      refine lv_istore_n (lv' := [(2, .int x51), (4, .int (I 14 (5 * t + e))), (0, .ref (ad 10)), (1, .int (nI t)), (3, .int (nI (5 * t + e)))]) hx hb dX7_reads_105 rfl hl (by decide) rfl (fun ls hl => ?_)
                      refine lv_iinc (v := nI (5 * t + e + 1)) (lv' := [(3, .int (nI (5 * t + e + 1))), (2, .int x51), (4, .int (I 14 (5 * t + e))), (0, .ref (ad 10)), (1, .int (nI t))]) hx hb dX7_reads_106 hl (k := 4) rfl (nI_1 _) (by decide) rfl (fun ls hl => ?_)
                      refine lv_goto (tgt := 13) hx hb dX7_reads_109 (by decide) ?_
                      exact ih (e + 1) x51 _ _ _ (by omega) (by omega) (by rw [ex51, ex40, ex39, ha]; simp only [orF]; rw [if_pos (by assumption)]; refine rd_or ?_ ?_ <;> first | (rw [if_pos (by omega)]; done) | (rw [if_neg (by omega)]; done)) hP hS (lv_sub hl [3, 4, 1, 0] rfl)
                    · have h50t : ((I 14 (5 * t + e)) : Int32).toInt = 7 := by rw [h50]; rfl
                      refine lv_iconst (v := nI 1) hx hb dX7_reads_92 (by decide) ?_
                      refine lv_aload_n hx hb dX7_reads_93 rfl (lv_at hl 2 rfl) ?_
                      refine f_X7_22 (q := 15) C hP (by assumption) (by assumption) rfl dX7_reads_94 ?_
                      refine lv_iload_n hx hb dX7_reads_97 rfl (lv_at hl 4 rfl) ?_
                      refine r_iald (n := 40) C hP (by assumption) (by omega) (by decide) dX7_reads_98 ?_
                      refine lv_ishl hx hb dX7_reads_99 ?_
                      refine lv_topi (fun x52 ex52 => ?_)
                      refine lv_goto (tgt := 104) hx hb dX7_reads_100 (by decide) ?_
                      refine lv_ior hx hb dX7_reads_104 ?_
                      refine lv_topi (fun x53 ex53 => ?_)
                      refine lv_istore_n (lv' := [(2, .int x53), (4, .int (I 14 (5 * t + e))), (0, .ref (ad 10)), (1, .int (nI t)), (3, .int (nI (5 * t + e)))]) hx hb dX7_reads_105 rfl hl (by decide) rfl (fun ls hl => ?_)
                      refine lv_iinc (v := nI (5 * t + e + 1)) (lv' := [(3, .int (nI (5 * t + e + 1))), (2, .int x53), (4, .int (I 14 (5 * t + e))), (0, .ref (ad 10)), (1, .int (nI t))]) hx hb dX7_reads_106 hl (k := 4) rfl (nI_1 _) (by decide) rfl (fun ls hl => ?_)
                      refine lv_goto (tgt := 13) hx hb dX7_reads_109 (by decide) ?_
                      exact ih (e + 1) x53 _ _ _ (by omega) (by omega) (by rw [ex53, ex40, ex39, ex52, ha]; simp only [orF]; rw [if_pos (by assumption)]; refine rd_or ?_ ?_ <;> first | (rw [if_pos (by omega)]; done) | (rw [if_neg (by omega)]; done)) hP hS (lv_sub hl [3, 4, 1, 0] rfl)
        · refine z_eq0 C dX7_reads_35 (tgt := 106) (by decide) ?_
          refine lv_iinc (v := nI (5 * t + e + 1)) (lv' := [(3, .int (nI (5 * t + e + 1))), (4, .int (I 14 (5 * t + e))), (0, .ref (ad 10)), (1, .int (nI t)), (2, .int a)]) hx hb dX7_reads_106 hl (k := 4) rfl (nI_1 _) (by decide) rfl (fun ls hl => ?_)
          refine lv_goto (tgt := 13) hx hb dX7_reads_109 (by decide) ?_
          exact ih (e + 1) a _ _ _ (by omega) (by omega) (by rw [ha]; simp only [orF]; rw [if_neg (by assumption), or_nI0]) hP hS (lv_sub hl [2, 3, 4, 0] rfl)
  exact hL13_2 (5 + 1) 0 x1 _ _ _ (by omega) (by omega) (ex1) hP hS (lv_sub hl [2, 3, 1, 0] rfl)
set_option maxHeartbeats 4000000 in
set_option maxRecDepth 100000 in
theorem c_X7_needOf {l : Launch} {E : En} {K : Nat → Nat} {L : Nat → Nat → Bool} {ad : Nat → Nat} {I : Nat → Nat → Int32} (e l0 : Nat) (hM : IsM K L) (he8 : e < 8) (hl8 : l0 < 8) (hWe : WFt I e) (hWl : WFt I l0) : MI l E K L ad I yX7_needOf cX7_needOf 3 (some .int) 3 [.ref (ad 10), .int (nI e), .int (nI l0)] (fun v J => J = I ∧ v = nI (nd I e l0)) := by
  have hM0 := hM
  obtain ⟨m0, ml1, ml2, ml3, ml4, ml5, ml6, ml7, ml8, ml9, ml10, ml11, ml12, ml13, ml14, ml15, ml16, ml17, ml21, ml25, ml26, mk1, mk2, mk3, mk4, mk5, mk6, mk7, mk8, mk9, mk10, mk11, mk12, mk13, mk14, mk15, mk16, mk17, mk21, mk25, mk26⟩ := hM
  refine MI.of (by decide) (Nat.le_of_ble_eq_true rfl) ?_
  intro p ee s m args below meth c ls Qf C hret hP hl
  have C : Cx E p s m args c cX7_needOf RX7 3 := C
  have hx := C.1
  have hb := C.2.1
  have hS : va_S (AG E) s.heap s.heap [] := va_S.rf
  have hl : lv_has ls 3 [(0, .ref (ad 10)), (1, .int (nI e)), (2, .int (nI l0))] := hl
  refine lv_aload_n hx hb dX7_needOf_0 rfl (lv_at hl 0 rfl) ?_
  refine lv_iload_n hx hb dX7_needOf_1 rfl (lv_at hl 1 rfl) ?_
  refine k_X7_118 C hP hS (by assumption) (c_X7_writes e (en I e) hM0 (by assumption) hWe.1 hWe.2.1) ⟨Nat.le_of_ble_eq_true rfl, Nat.le_of_ble_eq_true rfl⟩ ⟨Nat.zero_le _, Nat.zero_le _⟩ hl.1 (Nat.le_of_ble_eq_true rfl) dX7_needOf_2 (fun v1 I2 H locs hv3 hP hS => ?_)
  obtain ⟨eI2, ev1⟩ := hv3
  rw [eI2] at hP
  clear eI2
  refine lv_aload_n hx hb dX7_needOf_5 rfl (lv_at hl 0 rfl) ?_
  refine f_X7_7 (q := 11) C hP (by assumption) (by assumption) rfl dX7_needOf_6 ?_
  refine lv_iload_n hx hb dX7_needOf_9 rfl (lv_at hl 2 rfl) ?_
  refine r_iald (n := 8) C hP (by assumption) (by omega) (by decide) dX7_needOf_10 ?_
  have hzz : v1 = wrS I e := ev1
  refine k_X7_97 C hP hS (c_X7_has v1 (I 11 l0) (by have := hWl.2.2.1; omega) (by have := hWl.2.2.1; omega)) ⟨Nat.le_of_ble_eq_true rfl, Nat.le_of_ble_eq_true rfl⟩ ⟨Nat.zero_le _, Nat.zero_le _⟩ hl.1 (Nat.le_of_ble_eq_true rfl) dX7_needOf_11 (fun v4 I5 H locs hv6 hP hS => ?_)
  obtain ⟨eI5, hv6⟩ := hv6
  rw [eI5] at hP
  clear eI5
  rcases hv6 with ⟨rfl, hc7⟩ | ⟨rfl, hc7⟩
  · refine z_eq1 C dX7_needOf_14 (tgt := 19) (by decide) ?_
    refine lv_iconst (v := nI 3) hx hb dX7_needOf_17 (by decide) ?_
    exact hret _ _ _ _ _ _ dX7_needOf_18 hP hS (⟨rfl, by unfold nd ndR; rw [if_pos (by rw [← hzz]; assumption)]⟩)
  · refine z_eq0 C dX7_needOf_14 (tgt := 19) (by decide) ?_
    refine lv_aload_n hx hb dX7_needOf_19 rfl (lv_at hl 0 rfl) ?_
    refine lv_iload_n hx hb dX7_needOf_20 rfl (lv_at hl 1 rfl) ?_
    refine k_X7_118 C hP hS (by assumption) (c_X7_writes e (en I e) hM0 (by assumption) hWe.1 hWe.2.1) ⟨Nat.le_of_ble_eq_true rfl, Nat.le_of_ble_eq_true rfl⟩ ⟨Nat.zero_le _, Nat.zero_le _⟩ hl.1 (Nat.le_of_ble_eq_true rfl) dX7_needOf_21 (fun v8 I9 H locs hv10 hP hS => ?_)
    obtain ⟨eI9, ev8⟩ := hv10
    rw [eI9] at hP
    clear eI9
    refine lv_aload_n hx hb dX7_needOf_24 rfl (lv_at hl 0 rfl) ?_
    refine lv_iload_n hx hb dX7_needOf_25 rfl (lv_at hl 2 rfl) ?_
    refine k_X7_121 C hP hS (by assumption) (c_X7_reads l0 (en I l0) hM0 (by assumption) hWl.1 hWl.2.1) ⟨Nat.le_of_ble_eq_true rfl, Nat.le_of_ble_eq_true rfl⟩ ⟨Nat.zero_le _, Nat.zero_le _⟩ hl.1 (Nat.le_of_ble_eq_true rfl) dX7_needOf_26 (fun v11 I12 H locs hv13 hP hS => ?_)
    obtain ⟨eI12, ev11⟩ := hv13
    rw [eI12] at hP
    clear eI12
    refine lv_aload_n hx hb dX7_needOf_29 rfl (lv_at hl 0 rfl) ?_
    refine lv_iload_n hx hb dX7_needOf_30 rfl (lv_at hl 2 rfl) ?_
    refine k_X7_118 C hP hS (by assumption) (c_X7_writes l0 (en I l0) hM0 (by assumption) hWl.1 hWl.2.1) ⟨Nat.le_of_ble_eq_true rfl, Nat.le_of_ble_eq_true rfl⟩ ⟨Nat.zero_le _, Nat.zero_le _⟩ hl.1 (Nat.le_of_ble_eq_true rfl) dX7_needOf_31 (fun v14 I15 H locs hv16 hP hS => ?_)
    obtain ⟨eI15, ev14⟩ := hv16
    rw [eI15] at hP
    clear eI15
    refine lv_ior hx hb dX7_needOf_34 ?_
    refine lv_topi (fun x17 ex17 => ?_)
    refine lv_iand hx hb dX7_needOf_35 ?_
    refine lv_topi (fun x18 ex18 => ?_)
    refine z_eq C dX7_needOf_36 (tgt := 41) (by decide) (fun h19 => ?_) (fun h19 => ?_)
    · have hz36 : wrS I e &&& (rdS I l0 ||| wrS I l0) = 0 := by
        rw [ex18, ex17, ev8, ev11, ev14] at h19
        exact h19
      refine lv_aload_n hx hb dX7_needOf_41 rfl (lv_at hl 0 rfl) ?_
      refine lv_iload_n hx hb dX7_needOf_42 rfl (lv_at hl 2 rfl) ?_
      refine k_X7_118 C hP hS (by assumption) (c_X7_writes l0 (en I l0) hM0 (by assumption) hWl.1 hWl.2.1) ⟨Nat.le_of_ble_eq_true rfl, Nat.le_of_ble_eq_true rfl⟩ ⟨Nat.zero_le _, Nat.zero_le _⟩ hl.1 (Nat.le_of_ble_eq_true rfl) dX7_needOf_43 (fun v20 I21 H locs hv22 hP hS => ?_)
      obtain ⟨eI21, ev20⟩ := hv22
      rw [eI21] at hP
      clear eI21
      refine lv_aload_n hx hb dX7_needOf_46 rfl (lv_at hl 0 rfl) ?_
      refine lv_iload_n hx hb dX7_needOf_47 rfl (lv_at hl 1 rfl) ?_
      refine k_X7_121 C hP hS (by assumption) (c_X7_reads e (en I e) hM0 (by assumption) hWe.1 hWe.2.1) ⟨Nat.le_of_ble_eq_true rfl, Nat.le_of_ble_eq_true rfl⟩ ⟨Nat.zero_le _, Nat.zero_le _⟩ hl.1 (Nat.le_of_ble_eq_true rfl) dX7_needOf_48 (fun v23 I24 H locs hv25 hP hS => ?_)
      obtain ⟨eI24, ev23⟩ := hv25
      rw [eI24] at hP
      clear eI24
      refine lv_iand hx hb dX7_needOf_51 ?_
      refine lv_topi (fun x26 ex26 => ?_)
      refine z_eq C dX7_needOf_52 (tgt := 59) (by decide) (fun h27 => ?_) (fun h27 => ?_)
      · have hz52 : wrS I l0 &&& rdS I e = 0 := by
          rw [ex26, ev20, ev23] at h27
          exact h27
        refine lv_iconst (v := nI 0) hx hb dX7_needOf_59 (by decide) ?_
        exact hret _ _ _ _ _ _ dX7_needOf_60 hP hS (⟨rfl, by unfold nd ndR; rw [if_neg (by rw [← hzz]; assumption), if_neg (fun q => q hz36), if_neg (fun q => q hz52)]⟩)
      · have hz52 : wrS I l0 &&& rdS I e ≠ 0 := by
          rw [ex26, ev20, ev23] at h27
          exact h27
        refine lv_iconst (v := nI 1) hx hb dX7_needOf_55 (by decide) ?_
        refine lv_goto (tgt := 60) hx hb dX7_needOf_56 (by decide) ?_
        exact hret _ _ _ _ _ _ dX7_needOf_60 hP hS (⟨rfl, by unfold nd ndR; rw [if_neg (by rw [← hzz]; assumption), if_neg (fun q => q hz36), if_pos hz52]⟩)
    · have hz36 : wrS I e &&& (rdS I l0 ||| wrS I l0) ≠ 0 := by
        rw [ex18, ex17, ev8, ev11, ev14] at h19
        exact h19
      refine lv_iconst (v := nI 2) hx hb dX7_needOf_39 (by decide) ?_
      exact hret _ _ _ _ _ _ dX7_needOf_40 hP hS (⟨rfl, by unfold nd ndR; rw [if_neg (by rw [← hzz]; assumption), if_pos (hz36)]⟩)
set_option maxHeartbeats 4000000 in
set_option maxRecDepth 100000 in
theorem c_X7_sizeOf {l : Launch} {E : En} {K : Nat → Nat} {L : Nat → Nat → Bool} {ad : Nat → Nat} {I : Nat → Nat → Int32} (t n : Nat) (hM : IsM K L) (ht : t < 8) (hn : I 12 t = nI n) : MI l E K L ad I yX7_sizeOf cX7_sizeOf 2 (some .int) 0 [.ref (ad 10), .int (nI t)] (fun v J => J = I ∧ v = nI (n + 1)) := by
  have hM0 := hM
  obtain ⟨m0, ml1, ml2, ml3, ml4, ml5, ml6, ml7, ml8, ml9, ml10, ml11, ml12, ml13, ml14, ml15, ml16, ml17, ml21, ml25, ml26, mk1, mk2, mk3, mk4, mk5, mk6, mk7, mk8, mk9, mk10, mk11, mk12, mk13, mk14, mk15, mk16, mk17, mk21, mk25, mk26⟩ := hM
  refine MI.of (by decide) (Nat.le_of_ble_eq_true rfl) ?_
  intro p ee s m args below meth c ls Qf C hret hP hl
  have C : Cx E p s m args c cX7_sizeOf RX7 2 := C
  have hx := C.1
  have hb := C.2.1
  have hS : va_S (AG E) s.heap s.heap [] := va_S.rf
  have hl : lv_has ls 2 [(0, .ref (ad 10)), (1, .int (nI t))] := hl
  refine lv_aload_n hx hb dX7_sizeOf_0 rfl (lv_at hl 0 rfl) ?_
  refine f_X7_13 (q := 12) C hP (by assumption) (by assumption) rfl dX7_sizeOf_1 ?_
  refine lv_iload_n hx hb dX7_sizeOf_4 rfl (lv_at hl 1 rfl) ?_
  refine r_iald (n := 8) C hP (by assumption) (by omega) (by decide) dX7_sizeOf_5 ?_
  refine r_eqi (y := (nI n)) (hn) ?_
  refine lv_iconst (v := nI 1) hx hb dX7_sizeOf_6 (by decide) ?_
  refine r_addN C dX7_sizeOf_7 ?_
  exact hret _ _ _ _ _ _ dX7_sizeOf_8 hP hS (⟨rfl, rfl⟩)
set_option maxHeartbeats 4000000 in
set_option maxRecDepth 100000 in
theorem c_X7_entryWith {l : Launch} {E : En} {K : Nat → Nat} {L : Nat → Nat → Bool} {ad : Nat → Nat} {I : Nat → Nat → Int32} (t n : Nat) (v : Int32) (hM : IsM K L) (ht : t < 8) (hn : I 12 t = nI n) (hn4 : n ≤ 4) (hd1 : ∀ a b, a < n → b < n → I 13 (5 * t + a) = I 13 (5 * t + b) → a = b) : MI l E K L ad I yX7_entryWith cX7_entryWith 5 (some .int) 0 [.ref (ad 10), .int (nI t), .int v] (fun r J => J = I ∧ r = (if fnd (fun e => I 13 (5 * t + e)) v n 0 = 4 then -6 else nI (fnd (fun e => I 13 (5 * t + e)) v n 0))) := by
  have hM0 := hM
  obtain ⟨m0, ml1, ml2, ml3, ml4, ml5, ml6, ml7, ml8, ml9, ml10, ml11, ml12, ml13, ml14, ml15, ml16, ml17, ml21, ml25, ml26, mk1, mk2, mk3, mk4, mk5, mk6, mk7, mk8, mk9, mk10, mk11, mk12, mk13, mk14, mk15, mk16, mk17, mk21, mk25, mk26⟩ := hM
  refine MI.of (by decide) (Nat.le_of_ble_eq_true rfl) ?_
  intro p ee s m args below meth c ls Qf C hret hP hl
  have C : Cx E p s m args c cX7_entryWith RX7 5 := C
  have hx := C.1
  have hb := C.2.1
  have hS : va_S (AG E) s.heap s.heap [] := va_S.rf
  have hl : lv_has ls 5 [(0, .ref (ad 10)), (1, .int (nI t)), (2, .int v)] := hl
  refine lv_bipush (v := (-6)) hx hb dX7_entryWith_0 (by decide) ?_
  refine lv_istore_n (lv' := [(3, .int ((-6))), (0, .ref (ad 10)), (1, .int (nI t)), (2, .int v)]) hx hb dX7_entryWith_2 rfl hl (by decide) rfl (fun ls hl => ?_)
  refine lv_iconst (v := nI 0) hx hb dX7_entryWith_3 (by decide) ?_
  refine lv_istore (lv' := [(4, .int (nI 0)), (3, .int ((-6))), (0, .ref (ad 10)), (1, .int (nI t)), (2, .int v)]) hx hb dX7_entryWith_4 hl (by decide) rfl (fun ls hl => ?_)
  have hL6_1 : ∀ (d : Nat) (j : Nat) (a : Int32) (H : Heap) (locs : List Loc) (ls : Array Slot), n < j + d → (j ≤ n) → (((∀ i, i < j → I 13 (5 * t + i) ≠ v) ∧ a = -6) ∨ ∃ i, i < j ∧ I 13 (5 * t + i) = v ∧ a = nI i) → Hp E K L ad I H → va_S (AG E) s.heap H locs → lv_has ls 5 [(0, .ref (ad 10)), (1, .int (nI t)), (2, .int v), (3, .int a), (4, .int (nI j))] → W p l ee (rmk 0) s m args below meth c H locs 0 0 Qf (F0 m 6 ls []) := by
    intro d
    induction d with
    | zero => intro j a H locs ls hd hj ha _ _ _; exact absurd hd (by omega)
    | succ d ih =>
      intro j a H locs ls hd hj ha hP hS hl
      refine lv_iload hx hb dX7_entryWith_6 (lv_at hl 4 rfl) ?_
      refine lv_aload_n hx hb dX7_entryWith_8 rfl (lv_at hl 0 rfl) ?_
      refine f_X7_13 (q := 12) C hP (by assumption) (by assumption) rfl dX7_entryWith_9 ?_
      refine lv_iload_n hx hb dX7_entryWith_12 rfl (lv_at hl 1 rfl) ?_
      refine r_iald (n := 8) C hP (by assumption) (by omega) (by decide) dX7_entryWith_13 ?_
      refine r_eqi (y := (nI n)) (hn) ?_
      refine b_geN C (by omega) (by omega) dX7_entryWith_14 (tgt := 45) (by decide) (fun h2 => ?_) (fun h2 => ?_)
      · refine lv_iload_n hx hb dX7_entryWith_45 rfl (lv_at hl 3 rfl) ?_
        exact hret _ _ _ _ _ _ dX7_entryWith_46 hP hS (⟨rfl, ew_end (by omega) hn4 hd1 ha⟩)
      · refine lv_aload_n hx hb dX7_entryWith_17 rfl (lv_at hl 0 rfl) ?_
        refine f_X7_16 (q := 13) C hP (by assumption) (by assumption) rfl dX7_entryWith_18 ?_
        refine lv_iconst (v := nI 5) hx hb dX7_entryWith_21 (by decide) ?_
        refine lv_iload_n hx hb dX7_entryWith_22 rfl (lv_at hl 1 rfl) ?_
        refine r_mulN C dX7_entryWith_23 ?_
        refine lv_iload hx hb dX7_entryWith_24 (lv_at hl 4 rfl) ?_
        refine r_addN C dX7_entryWith_26 ?_
        refine r_iald (n := 40) C hP (by assumption) (by omega) (by decide) dX7_entryWith_27 ?_
        refine lv_iload_n hx hb dX7_entryWith_28 rfl (lv_at hl 2 rfl) ?_
        refine b_ne C dX7_entryWith_29 (tgt := 37) (by decide) (fun h3 => ?_) (fun h3 => ?_)
        · refine lv_iload_n hx hb dX7_entryWith_37 rfl (lv_at hl 3 rfl) ?_
          refine lv_istore_n (lv' := [(3, .int a), (0, .ref (ad 10)), (1, .int (nI t)), (2, .int v), (4, .int (nI j))]) hx hb dX7_entryWith_38 rfl hl (by decide) rfl (fun ls hl => ?_)
          refine lv_iinc (v := nI (j + 1)) (lv' := [(4, .int (nI (j + 1))), (3, .int a), (0, .ref (ad 10)), (1, .int (nI t)), (2, .int v)]) hx hb dX7_entryWith_39 hl (k := 4) rfl (nI_1 _) (by decide) rfl (fun ls hl => ?_)
          refine lv_goto (tgt := 6) hx hb dX7_entryWith_42 (by decide) ?_
          exact ih (j + 1) a _ _ _ (by omega) (by omega) (ha.elim (fun q => Or.inl ⟨lt_s q.1 (by assumption), q.2⟩) (fun ⟨i, h1, h2⟩ => Or.inr ⟨i, by omega, h2⟩)) hP hS (lv_sub hl [2, 3, 4, 1, 0] rfl)
        · refine lv_iload hx hb dX7_entryWith_32 (lv_at hl 4 rfl) ?_
          refine lv_goto (tgt := 38) hx hb dX7_entryWith_34 (by decide) ?_
          refine lv_istore_n (lv' := [(3, .int (nI j)), (0, .ref (ad 10)), (1, .int (nI t)), (2, .int v), (4, .int (nI j))]) hx hb dX7_entryWith_38 rfl hl (by decide) rfl (fun ls hl => ?_)
          refine lv_iinc (v := nI (j + 1)) (lv' := [(4, .int (nI (j + 1))), (3, .int (nI j)), (0, .ref (ad 10)), (1, .int (nI t)), (2, .int v)]) hx hb dX7_entryWith_39 hl (k := 4) rfl (nI_1 _) (by decide) rfl (fun ls hl => ?_)
          refine lv_goto (tgt := 6) hx hb dX7_entryWith_42 (by decide) ?_
          exact ih (j + 1) ((nI j)) _ _ _ (by omega) (by omega) (Or.inr ⟨j, by omega, by assumption, rfl⟩) hP hS (lv_sub hl [2, 3, 4, 1, 0] rfl)
  exact hL6_1 (n + 1) 0 ((-6)) _ _ _ (by omega) (by omega) (Or.inl ⟨lt_0, rfl⟩) hP hS (lv_sub hl [2, 3, 4, 1, 0] rfl)
set_option maxHeartbeats 4000000 in
set_option maxRecDepth 100000 in
theorem c_X7_isTaken {l : Launch} {E : En} {K : Nat → Nat} {L : Nat → Nat → Bool} {ad : Nat → Nat} {I : Nat → Nat → Int32} (n t0 : Nat) (k x : Int32) (hM : IsM K L) (he : I 10 0 = nI n) (hn : n ≤ 8) (ht0 : t0 < 8) (hW : ∀ t, t < n → WFt I t) (hx0 : hrg k → 0 ≤ x.toInt ∧ x.toInt < 31) : MI l E K L ad I yX7_isTaken cX7_isTaken 6 (some .boolean) 3 [.ref (ad 10), .int (nI t0), .int k, .int x] (fun v J => J = I ∧ (v = 1 ∧ (hrg k ∧ ∃ i, i < n ∧ i ≠ t0 ∧ rgS I i &&& sB x ≠ 0) ∨ v = 0 ∧ ¬ (hrg k ∧ ∃ i, i < n ∧ i ≠ t0 ∧ rgS I i &&& sB x ≠ 0))) := by
  have hM0 := hM
  obtain ⟨m0, ml1, ml2, ml3, ml4, ml5, ml6, ml7, ml8, ml9, ml10, ml11, ml12, ml13, ml14, ml15, ml16, ml17, ml21, ml25, ml26, mk1, mk2, mk3, mk4, mk5, mk6, mk7, mk8, mk9, mk10, mk11, mk12, mk13, mk14, mk15, mk16, mk17, mk21, mk25, mk26⟩ := hM
  refine MZ.of (by decide) (Nat.le_of_ble_eq_true rfl) ?_
  intro p ee s m args below meth c ls Qf C hret hP hl
  have C : Cx E p s m args c cX7_isTaken RX7 6 := C
  have hx := C.1
  have hb := C.2.1
  have hS : va_S (AG E) s.heap s.heap [] := va_S.rf
  have hl : lv_has ls 6 [(0, .ref (ad 10)), (1, .int (nI t0)), (2, .int k), (3, .int x)] := hl
  refine lv_iconst (v := nI 0) hx hb dX7_isTaken_0 (by decide) ?_
  refine lv_istore (lv' := [(4, .int (nI 0)), (0, .ref (ad 10)), (1, .int (nI t0)), (2, .int k), (3, .int x)]) hx hb dX7_isTaken_1 hl (by decide) rfl (fun ls hl => ?_)
  refine lv_iconst (v := nI 0) hx hb dX7_isTaken_3 (by decide) ?_
  refine lv_istore (lv' := [(5, .int (nI 0)), (4, .int (nI 0)), (0, .ref (ad 10)), (1, .int (nI t0)), (2, .int k), (3, .int x)]) hx hb dX7_isTaken_4 hl (by decide) rfl (fun ls hl => ?_)
  have hL6_1 : ∀ (d : Nat) (j : Nat) (a : Nat) (H : Heap) (locs : List Loc) (ls : Array Slot), n < j + d → (j ≤ n) → ((a = 1 ∧ hrg k ∧ ∃ i, i < j ∧ i ≠ t0 ∧ rgS I i &&& sB x ≠ 0) ∨ (a = 0 ∧ ∀ i, i < j → i ≠ t0 → ¬ (rgS I i &&& sB x ≠ 0))) → Hp E K L ad I H → va_S (AG E) s.heap H locs → lv_has ls 6 [(0, .ref (ad 10)), (1, .int (nI t0)), (2, .int k), (3, .int x), (4, .int (nI a)), (5, .int (nI j))] → W p l ee (rmk 3) s m args below meth c H locs 0 0 Qf (F0 m 6 ls []) := by
    intro d
    induction d with
    | zero => intro j a H locs ls hd hj ha _ _ _; exact absurd hd (by omega)
    | succ d ih =>
      intro j a H locs ls hd hj ha hP hS hl
      refine lv_iload hx hb dX7_isTaken_6 (lv_at hl 5 rfl) ?_
      refine lv_aload_n hx hb dX7_isTaken_8 rfl (lv_at hl 0 rfl) ?_
      refine f_X7_71 C hP (by first | assumption | exact hKa _ (by omega)) dX7_isTaken_9 ?_
      refine r_eqi (y := (nI n)) (he) ?_
      refine b_geN C (by omega) (by omega) dX7_isTaken_12 (tgt := 62) (by decide) (fun h2 => ?_) (fun h2 => ?_)
      · rcases ha with ⟨rfl, ha0, ha1⟩ | ⟨rfl, ha1⟩
        · refine lv_iload hx hb dX7_isTaken_62 (lv_at hl 4 rfl) ?_
          exact hret _ _ _ _ _ _ dX7_isTaken_64 hP hS (by first | rfl | (rcases hbv with rfl | rfl <;> rfl)) (⟨rfl, Or.inl ⟨rfl, ha0, ha1.elim fun i q => ⟨i, by omega, q.2⟩⟩⟩)
        · refine lv_iload hx hb dX7_isTaken_62 (lv_at hl 4 rfl) ?_
          exact hret _ _ _ _ _ _ dX7_isTaken_64 hP hS (by first | rfl | (rcases hbv with rfl | rfl <;> rfl)) (⟨rfl, Or.inr ⟨rfl, fun q => by first | (exfalso; omega) | exact q.2.elim (fun i z => ha1 i (by omega) z.2.1 z.2.2)⟩⟩)
      · refine lv_iload_n hx hb dX7_isTaken_15 rfl (lv_at hl 2 rfl) ?_
        refine lv_iconst (v := nI 5) hx hb dX7_isTaken_16 (by decide) ?_
        refine lv_bipush (v := nI 7) hx hb dX7_isTaken_17 (by decide) ?_
        refine k_X7_75 C hP hS (c_X7_inN k 5 7 (by first | decide | omega) (by first | decide | omega)) ⟨Nat.le_of_ble_eq_true rfl, Nat.le_of_ble_eq_true rfl⟩ ⟨Nat.zero_le _, Nat.zero_le _⟩ hl.1 (Nat.le_of_ble_eq_true rfl) dX7_isTaken_19 (fun v3 I4 H locs hv5 hP hS => ?_)
        obtain ⟨eI4, hv5⟩ := hv5
        rw [eI4] at hP
        clear eI4
        rcases hv5 with ⟨rfl, hc6⟩ | ⟨rfl, hc6⟩
        · refine z_eq1 C dX7_isTaken_22 (tgt := 62) (by decide) ?_
          rcases ha with ⟨rfl, ha0, ha1⟩ | ⟨rfl, ha1⟩
          · refine lv_iload hx hb dX7_isTaken_25 (lv_at hl 4 rfl) ?_
            refine r_eqi (y := 1) rfl ?_
            refine z_ne1 C dX7_isTaken_27 (tgt := 49) (by decide) ?_
            refine lv_iconst (v := nI 1) hx hb dX7_isTaken_49 (by decide) ?_
            refine lv_goto (tgt := 54) hx hb dX7_isTaken_50 (by decide) ?_
            refine lv_istore (lv' := [(4, .int (nI 1)), (0, .ref (ad 10)), (1, .int (nI t0)), (2, .int k), (3, .int x), (5, .int (nI j))]) hx hb dX7_isTaken_54 hl (by decide) rfl (fun ls hl => ?_)
            refine lv_iinc (v := nI (j + 1)) (lv' := [(5, .int (nI (j + 1))), (4, .int (nI 1)), (0, .ref (ad 10)), (1, .int (nI t0)), (2, .int k), (3, .int x)]) hx hb dX7_isTaken_56 hl (k := 5) rfl (nI_1 _) (by decide) rfl (fun ls hl => ?_)
            refine lv_goto (tgt := 6) hx hb dX7_isTaken_59 (by decide) ?_
            exact ih (j + 1) 1 _ _ _ (by omega) (by omega) (Or.inl ⟨rfl, ha0, ha1.elim fun i q => ⟨i, by omega, q.2⟩⟩) hP hS (lv_sub hl [2, 3, 4, 5, 1, 0] rfl)
          · refine lv_iload hx hb dX7_isTaken_25 (lv_at hl 4 rfl) ?_
            refine r_eqi (y := 0) rfl ?_
            refine z_ne0 C dX7_isTaken_27 (tgt := 49) (by decide) ?_
            refine lv_iload hx hb dX7_isTaken_30 (lv_at hl 5 rfl) ?_
            refine lv_iload_n hx hb dX7_isTaken_32 rfl (lv_at hl 1 rfl) ?_
            refine b_eqN C (by omega) (by omega) dX7_isTaken_33 (tgt := 53) (by decide) (fun h7 => ?_) (fun h7 => ?_)
            · refine lv_iconst (v := nI 0) hx hb dX7_isTaken_53 (by decide) ?_
              refine lv_istore (lv' := [(4, .int (nI 0)), (0, .ref (ad 10)), (1, .int (nI t0)), (2, .int k), (3, .int x), (5, .int (nI j))]) hx hb dX7_isTaken_54 hl (by decide) rfl (fun ls hl => ?_)
              refine lv_iinc (v := nI (j + 1)) (lv' := [(5, .int (nI (j + 1))), (4, .int (nI 0)), (0, .ref (ad 10)), (1, .int (nI t0)), (2, .int k), (3, .int x)]) hx hb dX7_isTaken_56 hl (k := 5) rfl (nI_1 _) (by decide) rfl (fun ls hl => ?_)
              refine lv_goto (tgt := 6) hx hb dX7_isTaken_59 (by decide) ?_
              exact ih (j + 1) 0 _ _ _ (by omega) (by omega) (Or.inr ⟨rfl, lt_s ha1 (fun q => absurd (by assumption) q)⟩) hP hS (lv_sub hl [2, 3, 4, 5, 1, 0] rfl)
            · refine lv_aload_n hx hb dX7_isTaken_36 rfl (lv_at hl 0 rfl) ?_
              refine lv_iload hx hb dX7_isTaken_37 (lv_at hl 5 rfl) ?_
              have hWj := hW j (by omega)
              refine k_X7_93 C hP hS (by assumption) (c_X7_registersOf j (en I j) hM0 (by omega) hWj.1 hWj.2.1) ⟨Nat.le_of_ble_eq_true rfl, Nat.le_of_ble_eq_true rfl⟩ ⟨Nat.zero_le _, Nat.zero_le _⟩ hl.1 (Nat.le_of_ble_eq_true rfl) dX7_isTaken_39 (fun v8 I9 H locs hv10 hP hS => ?_)
              obtain ⟨eI9, ev8⟩ := hv10
              rw [eI9] at hP
              clear eI9
              refine lv_iload_n hx hb dX7_isTaken_42 rfl (lv_at hl 3 rfl) ?_
              have hzz : v8 = rgS I j := ev8
              refine k_X7_97 C hP hS (c_X7_has v8 x (hx0 (by omega)).1 (hx0 (by omega)).2) ⟨Nat.le_of_ble_eq_true rfl, Nat.le_of_ble_eq_true rfl⟩ ⟨Nat.zero_le _, Nat.zero_le _⟩ hl.1 (Nat.le_of_ble_eq_true rfl) dX7_isTaken_43 (fun v11 I12 H locs hv13 hP hS => ?_)
              obtain ⟨eI12, hv13⟩ := hv13
              rw [eI12] at hP
              clear eI12
              rcases hv13 with ⟨rfl, hc14⟩ | ⟨rfl, hc14⟩
              · refine z_eq1 C dX7_isTaken_46 (tgt := 53) (by decide) ?_
                refine lv_iconst (v := nI 1) hx hb dX7_isTaken_49 (by decide) ?_
                refine lv_goto (tgt := 54) hx hb dX7_isTaken_50 (by decide) ?_
                refine lv_istore (lv' := [(4, .int (nI 1)), (0, .ref (ad 10)), (1, .int (nI t0)), (2, .int k), (3, .int x), (5, .int (nI j))]) hx hb dX7_isTaken_54 hl (by decide) rfl (fun ls hl => ?_)
                refine lv_iinc (v := nI (j + 1)) (lv' := [(5, .int (nI (j + 1))), (4, .int (nI 1)), (0, .ref (ad 10)), (1, .int (nI t0)), (2, .int k), (3, .int x)]) hx hb dX7_isTaken_56 hl (k := 5) rfl (nI_1 _) (by decide) rfl (fun ls hl => ?_)
                refine lv_goto (tgt := 6) hx hb dX7_isTaken_59 (by decide) ?_
                exact ih (j + 1) 1 _ _ _ (by omega) (by omega) (Or.inl ⟨rfl, by assumption, j, by omega, by assumption, by rw [← hzz]; assumption⟩) hP hS (lv_sub hl [2, 3, 4, 5, 1, 0] rfl)
              · refine z_eq0 C dX7_isTaken_46 (tgt := 53) (by decide) ?_
                refine lv_iconst (v := nI 0) hx hb dX7_isTaken_53 (by decide) ?_
                refine lv_istore (lv' := [(4, .int (nI 0)), (0, .ref (ad 10)), (1, .int (nI t0)), (2, .int k), (3, .int x), (5, .int (nI j))]) hx hb dX7_isTaken_54 hl (by decide) rfl (fun ls hl => ?_)
                refine lv_iinc (v := nI (j + 1)) (lv' := [(5, .int (nI (j + 1))), (4, .int (nI 0)), (0, .ref (ad 10)), (1, .int (nI t0)), (2, .int k), (3, .int x)]) hx hb dX7_isTaken_56 hl (k := 5) rfl (nI_1 _) (by decide) rfl (fun ls hl => ?_)
                refine lv_goto (tgt := 6) hx hb dX7_isTaken_59 (by decide) ?_
                exact ih (j + 1) 0 _ _ _ (by omega) (by omega) (Or.inr ⟨rfl, lt_s ha1 (fun _ => by rw [← hzz]; assumption)⟩) hP hS (lv_sub hl [2, 3, 4, 5, 1, 0] rfl)
        · refine z_eq0 C dX7_isTaken_22 (tgt := 62) (by decide) ?_
          rcases ha with ⟨rfl, ha0, ha1⟩ | ⟨rfl, ha1⟩
          · refine lv_iload hx hb dX7_isTaken_62 (lv_at hl 4 rfl) ?_
            exact hret _ _ _ _ _ _ dX7_isTaken_64 hP hS (by first | rfl | (rcases hbv with rfl | rfl <;> rfl)) (⟨rfl, Or.inl ⟨rfl, ha0, ha1.elim fun i q => ⟨i, by omega, q.2⟩⟩⟩)
          · refine lv_iload hx hb dX7_isTaken_62 (lv_at hl 4 rfl) ?_
            exact hret _ _ _ _ _ _ dX7_isTaken_64 hP hS (by first | rfl | (rcases hbv with rfl | rfl <;> rfl)) (⟨rfl, Or.inr ⟨rfl, fun q => by first | (exfalso; omega) | exact q.2.elim (fun i z => ha1 i (by omega) z.2.1 z.2.2)⟩⟩)
  exact hL6_1 (n + 1) 0 0 _ _ _ (by omega) (by omega) (Or.inr ⟨rfl, fun i hi => absurd hi (Nat.not_lt_zero i)⟩) hP hS (lv_sub hl [2, 3, 4, 5, 1, 0] rfl)
