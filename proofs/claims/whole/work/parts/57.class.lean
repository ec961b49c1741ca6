/-! the class: its public methods -/
section RN
variable {p : Program} {l : Launch} {e : Env} {R : Room} {s : State} {m : MethodId} {args : Array Value} {below : List Frame} {meth : Method} {c : Code} {H : Heap} {locs : List Loc} {cells slots : Nat} {Q : State → Prop}
variable {cc : ByteArray} {pc : Nat} {ls : Array Slot} {rest : List Value} {E : En} {K : Nat → Nat} {L : Nat → Nat → Bool} {ad : Nat → Nat} {I : Nat → Nat → Int32} {r : Nat} {own : String} {nL : Nat}
theorem r_ald13n (C : Cx E p s m args c cc own nL) (hP : Hp E K L ad I H) {j : Nat} (hr : K r = 13) (hL : L r j = false) (hj : j < 2) (hdg : decode cc pc = .ok (.aaload, 1))
    (kk : W p l e R s m args below meth c H locs cells slots Q (F0 m (pc + 1) ls (.null :: rest))) : W p l e R s m args below meth c H locs cells slots Q (F0 m pc ls (.int (nI j) :: .ref (ad r) :: rest)) := by
  have hcl : (nI j).toNatClampNeg = j := nI_clamp (by omega)
  exact W.aald (v := .null) (ty := .object RX3) C.1 C.2.1 ((hP.one (by omega) (wE_13 _ _ _ _ hr)) 0 _ rfl) ((C.2.2.2.2.1.1.2 4 _ rfl).1 2 (fun j => va_rf (qo (L r j) (ad (r + 150 + 100 * j))))) rfl (fun q => by cases q) (by show ¬ (nI j < 0 ∨ (arrV _ _ _).slots.size ≤ _); rw [arrV_size]; exact vp_in_nI (N := 2) hj (by decide)) (by show (arrV _ _ _).slots[_]? = _; rw [hcl, arrV_read _ _ hj]; show some (va_rf (qo (L r j) _)) = _; rw [hL]; rfl) rfl rfl hdg kk
end RN
theorem gx_most : ∀ j, j < 10 → mat (nI j) → (stV 3 j).toInt = most (nI j) := by decide
theorem ru_L : ∀ j, j < 4 → (stV 1 j).toInt = ruL (nI j) := by decide
theorem ru_H : ∀ j, j < 4 → (stV 2 j).toInt = ruH (nI j) := by decide
def kp (σ : Mem) : Nat → Nat
  | 0 => 0
  | k + 1 => kp σ k + (if σ 36 k = 0 then 0 else 2 ^ k)
theorem kp_lt (σ : Mem) : ∀ k, kp σ k < 2 ^ k
  | 0 => (by decide : (0 : Nat) < 2 ^ 0)
  | k + 1 => by
    have := kp_lt σ k
    simp only [kp]; rw [Nat.pow_succ]; split <;> omega
set_option maxHeartbeats 4000000 in
set_option maxRecDepth 100000 in
theorem c_X6_isAct {l : Launch} {E : En} {K : Nat → Nat} {L : Nat → Nat → Bool} {ad : Nat → Nat} {I : Nat → Nat → Int32} (k t x : Int32)  : MI l E K L ad I yX6_isAct cX6_isAct 3 (some .boolean) 1 [.int k, .int t, .int x] (fun v J => J = I ∧ (v = 1 ∧ (okA k t x) ∨ v = 0 ∧ ¬ (okA k t x))) := by
  have t6 : (nI 6).toInt = 6 := rfl
  have t10 : (nI 10).toInt = 10 := rfl
  refine MZ.of (by decide) (Nat.le_of_ble_eq_true rfl) ?_
  intro p ee s m args below meth c ls Qf C hret hP hl
  have C : Cx E p s m args c cX6_isAct RX6 3 := C
  have hx := C.1
  have hb := C.2.1
  have hS : va_S (AG E) s.heap s.heap [] := va_S.rf
  have hl : lv_has ls 3 [(0, .int k), (1, .int t), (2, .int x)] := hl
  refine lv_iload_n hx hb dX6_isAct_0 rfl (lv_at hl 0 rfl) ?_
  refine r_gst (j := 3) C hS (by decide) tf_X6_213 dX6_isAct_1 ?_
  refine r_slen (j := 3) C hS (by decide) dX6_isAct_4 ?_
  refine r_eqi (y := nI 10) rfl ?_
  refine k_X6_41 C hP hS (c_X6_isIn k ((nI 10))) ⟨Nat.le_of_ble_eq_true rfl, Nat.le_of_ble_eq_true rfl⟩ ⟨Nat.zero_le _, Nat.zero_le _⟩ hl.1 (Nat.le_of_ble_eq_true rfl) dX6_isAct_5 (fun v1 I2 H locs hv3 hP hS => ?_)
  obtain ⟨eI2, hv3⟩ := hv3
  rw [eI2] at hP
  clear eI2
  rcases hv3 with ⟨rfl, hc4⟩ | ⟨rfl, hc4⟩
  · refine z_ne1 C dX6_isAct_8 (tgt := 13) (by decide) ?_
    refine lv_iload_n hx hb dX6_isAct_13 rfl (lv_at hl 0 rfl) ?_
    refine k_X6_216 C hP hS (c_X6_hasTarget k) ⟨Nat.le_of_ble_eq_true rfl, Nat.le_of_ble_eq_true rfl⟩ ⟨Nat.zero_le _, Nat.zero_le _⟩ hl.1 (Nat.le_of_ble_eq_true rfl) dX6_isAct_14 (fun v5 I6 H locs hv7 hP hS => ?_)
    obtain ⟨eI6, hv7⟩ := hv7
    rw [eI6] at hP
    clear eI6
    rcases hv7 with ⟨rfl, hc8⟩ | ⟨rfl, hc8⟩
    · have hm := hc8
      refine z_eq1 C dX6_isAct_17 (tgt := 41) (by decide) ?_
      refine lv_iload_n hx hb dX6_isAct_20 rfl (lv_at hl 1 rfl) ?_
      refine lv_bipush (v := nI 6) hx hb dX6_isAct_21 (by decide) ?_
      refine k_X6_41 C hP hS (c_X6_isIn t ((nI 6))) ⟨Nat.le_of_ble_eq_true rfl, Nat.le_of_ble_eq_true rfl⟩ ⟨Nat.zero_le _, Nat.zero_le _⟩ hl.1 (Nat.le_of_ble_eq_true rfl) dX6_isAct_23 (fun v9 I10 H locs hv11 hP hS => ?_)
      obtain ⟨eI10, hv11⟩ := hv11
      rw [eI10] at hP
      clear eI10
      rcases hv11 with ⟨rfl, hc12⟩ | ⟨rfl, hc12⟩
      · refine z_eq1 C dX6_isAct_26 (tgt := 45) (by decide) ?_
        refine lv_iload_n hx hb dX6_isAct_29 rfl (lv_at hl 2 rfl) ?_
        refine r_gst (j := 3) C hS (by decide) tf_X6_213 dX6_isAct_30 ?_
        obtain ⟨kq, hkq, ekq⟩ : ∃ j : Nat, j < 10 ∧ k = nI j := ⟨k.toInt.toNat, by omega, i32_eq (by omega) (by omega)⟩
        have ckq : tn k = kq := by rw [ekq]; exact nI_clamp (by omega)
        rw [ekq] at hl
        have hmo : (stV 3 kq).toInt = most k := by rw [ekq]; exact gx_most kq hkq (by rw [← ekq]; exact hm)
        refine lv_iload_n hx hb dX6_isAct_33 rfl (lv_at hl 0 rfl) ?_
        refine r_sld (j := 3) C hS (by decide) (by show _ < 10; omega) (by decide) dX6_isAct_34 ?_
        refine k_X6_57 C hP hS (c_X6_isUpTo x ((stV 3 kq))) ⟨Nat.le_of_ble_eq_true rfl, Nat.le_of_ble_eq_true rfl⟩ ⟨Nat.zero_le _, Nat.zero_le _⟩ hl.1 (Nat.le_of_ble_eq_true rfl) dX6_isAct_35 (fun v13 I14 H locs hv15 hP hS => ?_)
        obtain ⟨eI14, hv15⟩ := hv15
        rw [eI14] at hP
        clear eI14
        rcases hv15 with ⟨rfl, hc16⟩ | ⟨rfl, hc16⟩
        · refine z_eq1 C dX6_isAct_38 (tgt := 45) (by decide) ?_
          refine lv_iconst (v := nI 1) hx hb dX6_isAct_41 (by decide) ?_
          refine lv_goto (tgt := 46) hx hb dX6_isAct_42 (by decide) ?_
          exact hret _ _ _ _ _ _ dX6_isAct_46 hP hS (by first | rfl | (rcases hbv with rfl | rfl <;> rfl)) (⟨rfl, Or.inl ⟨rfl, ⟨by omega, by omega⟩, fun _ => ⟨by omega, by omega⟩⟩⟩)
        · refine z_eq0 C dX6_isAct_38 (tgt := 45) (by decide) ?_
          refine lv_iconst (v := nI 0) hx hb dX6_isAct_45 (by decide) ?_
          exact hret _ _ _ _ _ _ dX6_isAct_46 hP hS (by first | rfl | (rcases hbv with rfl | rfl <;> rfl)) (⟨rfl, Or.inr ⟨rfl, fun q => by have := (q.2 hm).2; omega⟩⟩)
      · refine z_eq0 C dX6_isAct_26 (tgt := 45) (by decide) ?_
        refine lv_iconst (v := nI 0) hx hb dX6_isAct_45 (by decide) ?_
        exact hret _ _ _ _ _ _ dX6_isAct_46 hP hS (by first | rfl | (rcases hbv with rfl | rfl <;> rfl)) (⟨rfl, Or.inr ⟨rfl, fun q => by have := (q.2 hm).1; omega⟩⟩)
    · have hm := hc8
      refine z_eq0 C dX6_isAct_17 (tgt := 41) (by decide) ?_
      refine lv_iconst (v := nI 1) hx hb dX6_isAct_41 (by decide) ?_
      refine lv_goto (tgt := 46) hx hb dX6_isAct_42 (by decide) ?_
      exact hret _ _ _ _ _ _ dX6_isAct_46 hP hS (by first | rfl | (rcases hbv with rfl | rfl <;> rfl)) (⟨rfl, Or.inl ⟨rfl, ⟨by omega, by omega⟩, fun q => absurd q hm⟩⟩)
  · refine z_ne0 C dX6_isAct_8 (tgt := 13) (by decide) ?_
    refine lv_iconst (v := nI 0) hx hb dX6_isAct_11 (by decide) ?_
    exact hret _ _ _ _ _ _ dX6_isAct_12 hP hS (by first | rfl | (rcases hbv with rfl | rfl <;> rfl)) (⟨rfl, Or.inr ⟨rfl, fun q => by have := q.1; omega⟩⟩)
set_option maxHeartbeats 4000000 in
set_option maxRecDepth 100000 in
theorem c_X6_table {l : Launch} {E : En} {K : Nat → Nat} {L : Nat → Nat → Bool} {ad : Nat → Nat} {I : Nat → Nat → Int32} {σ : Mem} (k : Int32) (hO : IsO K L) (hC : CR K L I σ) (hw : WF σ) : MI l E K L ad I yX6_table cX6_table 2 (some .int) 4 [.ref (ad 100), .int k] (fun rv RJ => rv = (sTable σ k).1 ∧ CR K L RJ (sTable σ k).2 ∧ ∀ a, a < 100 → RJ a = I a) := by
  have hO0 := hO
  obtain ⟨o0, o1, o2, o3, o4, o5, hp, hk, hQ, hX, o150⟩ := hO
  have hp0 := hp
  obtain ⟨pp0, ⟨pp1, pp2, pp3, pp4⟩, pp5, hLb, pp6, pp7, pp8, hTT⟩ := hp
  have kk0 := hk
  obtain ⟨kk, hA⟩ := hk
  have a0 := (hA 0 (by decide)).1
  have c0 : K 111 = 108 := (hA 0 (by decide)).2
  have a1 := (hA 1 (by decide)).1
  have c1 : K 112 = 108 := (hA 1 (by decide)).2
  have a2 := (hA 2 (by decide)).1
  have c2 : K 113 = 108 := (hA 2 (by decide)).2
  have a3 := (hA 3 (by decide)).1
  have c3 : K 114 = 108 := (hA 3 (by decide)).2
  have a4 := (hA 4 (by decide)).1
  have c4 : K 115 = 108 := (hA 4 (by decide)).2
  have a5 := (hA 5 (by decide)).1
  have c5 : K 116 = 108 := (hA 5 (by decide)).2
  have a6 := (hA 6 (by decide)).1
  have c6 : K 117 = 108 := (hA 6 (by decide)).2
  have a7 := (hA 7 (by decide)).1
  have c7 : K 118 = 108 := (hA 7 (by decide)).2
  have a8 := (hA 8 (by decide)).1
  have c8 : K 119 = 108 := (hA 8 (by decide)).2
  have a9 := (hA 9 (by decide)).1
  have c9 : K 120 = 108 := (hA 9 (by decide)).2
  have hQ0 := hQ
  obtain ⟨q0, q1, q2, q3, q4, q5, q6⟩ := hQ
  have hX0 := hX
  obtain ⟨x0, x1, x2, x3, x4, hXL, hXK⟩ := hX
  have hn8 := hw.2.1
  have hR := hC.1
  have h200 : I 200 0 = nI (mn σ) := hR.1.trans hw.1
  have t0 : (nI 0).toInt = 0 := rfl
  have t1 : (nI 1).toInt = 1 := rfl
  have t2 : (nI 2).toInt = 2 := rfl
  have t4 : (nI 4).toInt = 4 := rfl
  have t6 : (nI 6).toInt = 6 := rfl
  have t8 : (nI 8).toInt = 8 := rfl
  have t10 : (nI 10).toInt = 10 := rfl
  have t255 : (nI 255).toInt = 255 := rfl
  have t65535 : (nI 65535).toInt = 65535 := rfl
  refine MI.of (by decide) (Nat.le_of_ble_eq_true rfl) ?_
  intro p ee s m args below meth c ls Qf C hret hP hl
  have C : Cx E p s m args c cX6_table RX6 2 := C
  have hx := C.1
  have hb := C.2.1
  have hS : va_S (AG E) s.heap s.heap [] := va_S.rf
  have hl : lv_has ls 2 [(0, .ref (ad 100)), (1, .int k)] := hl
  refine lv_iload_n hx hb dX6_table_0 rfl (lv_at hl 1 rfl) ?_
  refine lv_bipush (v := nI 6) hx hb dX6_table_1 (by decide) ?_
  refine k_X6_41 C hP hS (c_X6_isIn k ((nI 6))) ⟨Nat.le_of_ble_eq_true rfl, Nat.le_of_ble_eq_true rfl⟩ ⟨Nat.zero_le _, Nat.zero_le _⟩ hl.1 (Nat.le_of_ble_eq_true rfl) dX6_table_3 (fun v1 I2 H locs hv3 hP hS => ?_)
  obtain ⟨eI2, hv3⟩ := hv3
  rw [eI2] at hP
  clear eI2
  rcases hv3 with ⟨rfl, hc4⟩ | ⟨rfl, hc4⟩
  · refine z_ne1 C dX6_table_6 (tgt := 11) (by decide) ?_
    refine lv_aload_n hx hb dX6_table_11 rfl (lv_at hl 0 rfl) ?_
    refine f_X6_12 (q := 200) C hP (by assumption) (by assumption) rfl dX6_table_12 ?_
    refine f_X6_45 C hP (by first | assumption | exact hKa _ (by omega)) dX6_table_15 ?_
    refine r_eqi (y := (nI (mn σ))) (h200) ?_
    refine lv_bipush (v := nI 8) hx hb dX6_table_18 (by decide) ?_
    refine b_ltN C (by omega) (by omega) dX6_table_20 (tgt := 26) (by decide) (fun h5 => ?_) (fun h5 => ?_)
    · have hlo := tr_lo I 200 (mn σ)
      have hhi := tr_hi hR.2.1 (show mn σ < 8 by omega)
      refine lv_aload_n hx hb dX6_table_26 rfl (lv_at hl 0 rfl) ?_
      refine f_X6_12 (q := 200) C hP (by assumption) (by assumption) rfl dX6_table_27 ?_
      refine lv_iload_n hx hb dX6_table_30 rfl (lv_at hl 1 rfl) ?_
      refine k_X6_49 C hP hS (by assumption) (c_X3_addTable 200 (mn σ) k hp0 hR.2.1 h200 (by omega)) ⟨Nat.le_of_ble_eq_true rfl, Nat.le_of_ble_eq_true rfl⟩ ⟨Nat.zero_le _, Nat.zero_le _⟩ hl.1 (Nat.le_of_ble_eq_true rfl) dX6_table_31 (fun v6 I7 H locs hv8 hP hS => ?_)
      obtain ⟨eI7, ev6⟩ := hv8
      exact hret _ _ _ _ _ _ dX6_table_34 hP hS (by unfold sTable; rw [if_pos (by omega), if_neg (by omega), eI7]; exact ⟨ev6, show CR K L _ (tabU σ k) from CR_c hC (tab_PR hw hR (by omega)) ⟨by rw [up2_r (by omega), set3_r (by omega), up2_r (by omega), up2_r (by omega)]; exact hC.2.1.1, by rw [up2_r (by omega), set3_r (by omega), up2_r (by omega), up2_r (by omega)]; exact hC.2.1.2⟩ (fun a ha => by rw [up2_r (by omega), set3_r (by omega), up2_r (by omega), up2_r (by omega)]) (fun a g1 g2 => tab_row (by omega)) (fun i hi => by unfold tabU; rw [up2_k hi, lay_r (by decide), up2_r (by decide), up2_r (by decide)]), fun a ha => by rw [up2_r (by omega), set3_r (by omega), up2_r (by omega), up2_r (by omega)]⟩)
    · refine lv_bipush (v := (-4)) hx hb dX6_table_23 (by decide) ?_
      exact hret _ _ _ _ _ _ dX6_table_25 hP hS (by unfold sTable; rw [if_pos (by omega), if_pos (by omega)]; exact ⟨rfl, hC, fun _ _ => rfl⟩)
  · refine z_ne0 C dX6_table_6 (tgt := 11) (by decide) ?_
    refine lv_iconst (v := (-1)) hx hb dX6_table_9 (by decide) ?_
    exact hret _ _ _ _ _ _ dX6_table_10 hP hS (by unfold sTable; rw [if_neg (by omega)]; exact ⟨rfl, hC, fun _ _ => rfl⟩)
set_option maxHeartbeats 4000000 in
set_option maxRecDepth 100000 in
theorem c_X6_entry {l : Launch} {E : En} {K : Nat → Nat} {L : Nat → Nat → Bool} {ad : Nat → Nat} {I : Nat → Nat → Int32} {σ : Mem} (t v k g x : Int32) (hO : IsO K L) (hC : CR K L I σ) (hw : WF σ) : MI l E K L ad I yX6_entry cX6_entry 7 (some .int) 4 [.ref (ad 100), .int t, .int v, .int k, .int g, .int x] (fun rv RJ => rv = (sEntry σ t v k g x).1 ∧ CR K L RJ (sEntry σ t v k g x).2 ∧ ∀ a, a < 100 → RJ a = I a) := by
  have hO0 := hO
  obtain ⟨o0, o1, o2, o3, o4, o5, hp, hk, hQ, hX, o150⟩ := hO
  have hp0 := hp
  obtain ⟨pp0, ⟨pp1, pp2, pp3, pp4⟩, pp5, hLb, pp6, pp7, pp8, hTT⟩ := hp
  have kk0 := hk
  obtain ⟨kk, hA⟩ := hk
  have a0 := (hA 0 (by decide)).1
  have c0 : K 111 = 108 := (hA 0 (by decide)).2
  have a1 := (hA 1 (by decide)).1
  have c1 : K 112 = 108 := (hA 1 (by decide)).2
  have a2 := (hA 2 (by decide)).1
  have c2 : K 113 = 108 := (hA 2 (by decide)).2
  have a3 := (hA 3 (by decide)).1
  have c3 : K 114 = 108 := (hA 3 (by decide)).2
  have a4 := (hA 4 (by decide)).1
  have c4 : K 115 = 108 := (hA 4 (by decide)).2
  have a5 := (hA 5 (by decide)).1
  have c5 : K 116 = 108 := (hA 5 (by decide)).2
  have a6 := (hA 6 (by decide)).1
  have c6 : K 117 = 108 := (hA 6 (by decide)).2
  have a7 := (hA 7 (by decide)).1
  have c7 : K 118 = 108 := (hA 7 (by decide)).2
  have a8 := (hA 8 (by decide)).1
  have c8 : K 119 = 108 := (hA 8 (by decide)).2
  have a9 := (hA 9 (by decide)).1
  have c9 : K 120 = 108 := (hA 9 (by decide)).2
  have hQ0 := hQ
  obtain ⟨q0, q1, q2, q3, q4, q5, q6⟩ := hQ
  have hX0 := hX
  obtain ⟨x0, x1, x2, x3, x4, hXL, hXK⟩ := hX
  have hn8 := hw.2.1
  have hR := hC.1
  have h200 : I 200 0 = nI (mn σ) := hR.1.trans hw.1
  have t0 : (nI 0).toInt = 0 := rfl
  have t1 : (nI 1).toInt = 1 := rfl
  have t2 : (nI 2).toInt = 2 := rfl
  have t4 : (nI 4).toInt = 4 := rfl
  have t6 : (nI 6).toInt = 6 := rfl
  have t8 : (nI 8).toInt = 8 := rfl
  have t10 : (nI 10).toInt = 10 := rfl
  have t255 : (nI 255).toInt = 255 := rfl
  have t65535 : (nI 65535).toInt = 65535 := rfl
  refine MI.of (by decide) (Nat.le_of_ble_eq_true rfl) ?_
  intro p ee s m args below meth c ls Qf C hret hP hl
  have C : Cx E p s m args c cX6_entry RX6 7 := C
  have hx := C.1
  have hb := C.2.1
  have hS : va_S (AG E) s.heap s.heap [] := va_S.rf
  have hl : lv_has ls 7 [(0, .ref (ad 100)), (1, .int t), (2, .int v), (3, .int k), (4, .int g), (5, .int x)] := hl
  refine lv_aload_n hx hb dX6_entry_0 rfl (lv_at hl 0 rfl) ?_
  refine f_X6_12 (q := 200) C hP (by assumption) (by assumption) rfl dX6_entry_1 ?_
  refine lv_iload_n hx hb dX6_entry_4 rfl (lv_at hl 1 rfl) ?_
  refine k_X6_53 C hP hS (by assumption) (c_X3_hasTable 200 t pp0) ⟨Nat.le_of_ble_eq_true rfl, Nat.le_of_ble_eq_true rfl⟩ ⟨Nat.zero_le _, Nat.zero_le _⟩ hl.1 (Nat.le_of_ble_eq_true rfl) dX6_entry_5 (fun v1 I2 H locs hv3 hP hS => ?_)
  obtain ⟨eI2, hv3⟩ := hv3
  rw [eI2] at hP
  clear eI2
  rcases hv3 with ⟨rfl, hc4⟩ | ⟨rfl, hc4⟩
  · rw [h200, nI_toInt (by omega)] at hc4
    obtain ⟨u, hu, eu⟩ : ∃ j : Nat, j < mn σ ∧ t = nI j := ⟨t.toInt.toNat, by omega, i32_eq (by omega) (by omega)⟩
    have cu : tn t = u := by rw [eu]; exact nI_clamp (by omega)
    rw [eu] at hl
    have hWu := hw.2.2.1 u hu
    have hRu := hR.2.2.1 u hu
    have hTu := tr_T hp0 hR.2.1 (show u < 8 by omega)
    have hTu0 := hTu
    obtain ⟨ht1, ht2, ht3, ht4, ht5, ht6, ht7⟩ := hTu0
    have hlo := tr_lo I 200 u
    have hhi := tr_hi hR.2.1 (show u < 8 by omega)
    have hI1 : I (tr I 200 u) 1 = nI (en σ u) := hRu.2.1.trans hWu.1
    have hu4 := hWu.2.1
    refine z_ne1 C dX6_entry_8 (tgt := 13) (by decide) ?_
    refine lv_iload_n hx hb dX6_entry_13 rfl (lv_at hl 2 rfl) ?_
    refine lv_sipush (v := nI 255) hx hb dX6_entry_14 (by decide) ?_
    refine k_X6_57 C hP hS (c_X6_isUpTo v ((nI 255))) ⟨Nat.le_of_ble_eq_true rfl, Nat.le_of_ble_eq_true rfl⟩ ⟨Nat.zero_le _, Nat.zero_le _⟩ hl.1 (Nat.le_of_ble_eq_true rfl) dX6_entry_17 (fun v5 I6 H locs hv7 hP hS => ?_)
    obtain ⟨eI6, hv7⟩ := hv7
    rw [eI6] at hP
    clear eI6
    rcases hv7 with ⟨rfl, hc8⟩ | ⟨rfl, hc8⟩
    · refine z_eq1 C dX6_entry_20 (tgt := 34) (by decide) ?_
      refine lv_iload_n hx hb dX6_entry_23 rfl (lv_at hl 3 rfl) ?_
      refine lv_iload hx hb dX6_entry_24 (lv_at hl 4 rfl) ?_
      refine lv_iload hx hb dX6_entry_26 (lv_at hl 5 rfl) ?_
      refine k_X6_60 C hP hS (c_X6_isAct k g x) ⟨Nat.le_of_ble_eq_true rfl, Nat.le_of_ble_eq_true rfl⟩ ⟨Nat.zero_le _, Nat.zero_le _⟩ hl.1 (Nat.le_of_ble_eq_true rfl) dX6_entry_28 (fun v9 I10 H locs hv11 hP hS => ?_)
      obtain ⟨eI10, hv11⟩ := hv11
      rw [eI10] at hP
      clear eI10
      rcases hv11 with ⟨rfl, hc12⟩ | ⟨rfl, hc12⟩
      · refine z_ne1 C dX6_entry_31 (tgt := 37) (by decide) ?_
        refine lv_aload_n hx hb dX6_entry_37 rfl (lv_at hl 0 rfl) ?_
        refine f_X6_12 (q := 200) C hP (by assumption) (by assumption) rfl dX6_entry_38 ?_
        refine f_X6_64 (q := 201) C hP (by assumption) (by assumption) rfl dX6_entry_41 ?_
        refine lv_iload_n hx hb dX6_entry_44 rfl (lv_at hl 1 rfl) ?_
        refine r_ald12 (q := tr I 200 u) C hP (by assumption) (hLb _ (by omega)) (by omega) rfl dX6_entry_45 ?_
        refine lv_astore (lv' := [(6, .ref (ad (tr I 200 u))), (0, .ref (ad 100)), (1, .int (nI u)), (2, .int v), (3, .int k), (4, .int g), (5, .int x)]) hx hb dX6_entry_46 hl (by decide) rfl (fun ls hl => ?_)
        refine lv_aload hx hb dX6_entry_48 (lv_at hl 0 rfl) ?_
        refine lv_iload_n hx hb dX6_entry_50 rfl (lv_at hl 3 rfl) ?_
        have hfn : fnd (I (tr I 200 u + 1)) v (en σ u) 0 = fnd (fun e => σ 13 (5 * u + e)) v (en σ u) 0 := fnd_cong _ _ (fun e _ h2 => hRu.2.2.1 e (by omega))
        have hf4 : fnd (fun e => σ 13 (5 * u + e)) v (en σ u) 0 ≤ 4 := by rcases fnd_le4 (f := fun e => σ 13 (5 * u + e)) (v := v) (en σ u) 0 (by omega) with z | z <;> omega
        refine k_X6_68 C hP hS (by assumption) (c_X5_slotOf (tr I 200 u) (en σ u) v ht1 ht2 ht4 hI1 hu4) ⟨Nat.le_of_ble_eq_true rfl, Nat.le_of_ble_eq_true rfl⟩ ⟨Nat.zero_le _, Nat.zero_le _⟩ hl.1 (Nat.le_of_ble_eq_true rfl) dX6_entry_51 (fun v13 I14 H locs hv15 hP hS => ?_)
        obtain ⟨eI14, ev13⟩ := hv15
        rw [eI14] at hP
        clear eI14
        refine r_eqi (y := nI (fnd (fun e => σ 13 (5 * u + e)) v (en σ u) 0)) (ev13.trans (congrArg nI hfn)) ?_
        refine lv_iconst (v := nI 4) hx hb dX6_entry_54 (by decide) ?_
        refine b_neN C (by omega) (by omega) dX6_entry_55 (tgt := 72) (by decide) (fun h16 => ?_) (fun h16 => ?_)
        · refine lv_bipush (v := (-5)) hx hb dX6_entry_72 (by decide) ?_
          exact hret _ _ _ _ _ _ dX6_entry_74 hP hS (by unfold sEntry; rw [if_pos (by assumption), if_pos ⟨by omega, by assumption⟩, cu, if_pos (by first | exact Or.inl h16 | exact Or.inr hz2)]; exact ⟨rfl, hC, fun _ _ => rfl⟩)
        · refine lv_aload_n hx hb dX6_entry_58 rfl (lv_at hl 1 rfl) ?_
          refine f_X6_12 (q := 200) C hP (by assumption) (by assumption) rfl dX6_entry_59 ?_
          refine lv_iload_n hx hb dX6_entry_62 rfl (lv_at hl 2 rfl) ?_
          refine lv_iload_n hx hb dX6_entry_63 rfl (lv_at hl 4 rfl) ?_
          refine lv_iload hx hb dX6_entry_64 (lv_at hl 6 rfl) ?_
          refine k_X6_73 C hP hS (by assumption) (c_X3_isTakenElsewhere (σ := σ) 200 (mn σ) u k x hp0 hR hw rfl (by omega)) ⟨Nat.le_of_ble_eq_true rfl, Nat.le_of_ble_eq_true rfl⟩ ⟨Nat.zero_le _, Nat.zero_le _⟩ hl.1 (Nat.le_of_ble_eq_true rfl) dX6_entry_66 (fun v17 I18 H locs hv19 hP hS => ?_)
          obtain ⟨eI18, hv19⟩ := hv19
          rw [eI18] at hP
          clear eI18
          rcases hv19 with ⟨rfl, hc20⟩ | ⟨rfl, hc20⟩
          · have hz2 := hc20
            refine z_eq1 C dX6_entry_69 (tgt := 75) (by decide) ?_
            refine lv_bipush (v := (-5)) hx hb dX6_entry_72 (by decide) ?_
            exact hret _ _ _ _ _ _ dX6_entry_74 hP hS (by unfold sEntry; rw [if_pos (by assumption), if_pos ⟨by omega, by assumption⟩, cu, if_pos (by first | exact Or.inl h16 | exact Or.inr hz2)]; exact ⟨rfl, hC, fun _ _ => rfl⟩)
          · have hz2 := hc20
            refine z_eq0 C dX6_entry_69 (tgt := 75) (by decide) ?_
            refine lv_aload hx hb dX6_entry_75 (lv_at hl 0 rfl) ?_
            refine f_X6_76 C hP (by first | assumption | exact hKa _ (by omega)) dX6_entry_77 ?_
            refine r_eqi (y := (nI (en σ u))) (hI1) ?_
            refine lv_iconst (v := nI 4) hx hb dX6_entry_80 (by decide) ?_
            refine b_ltN C (by omega) (by omega) dX6_entry_81 (tgt := 87) (by decide) (fun h21 => ?_) (fun h21 => ?_)
            · refine lv_aload hx hb dX6_entry_87 (lv_at hl 0 rfl) ?_
              refine lv_iload_n hx hb dX6_entry_89 rfl (lv_at hl 3 rfl) ?_
              refine lv_iload_n hx hb dX6_entry_90 rfl (lv_at hl 4 rfl) ?_
              refine lv_iload hx hb dX6_entry_91 (lv_at hl 5 rfl) ?_
              refine lv_iload hx hb dX6_entry_93 (lv_at hl 6 rfl) ?_
              refine k_X6_79 C hP hS (by assumption) (c_X5_addEntry (tr I 200 u) (en σ u) v k g x hTu hI1 (by omega)) ⟨Nat.le_of_ble_eq_true rfl, Nat.le_of_ble_eq_true rfl⟩ ⟨Nat.zero_le _, Nat.zero_le _⟩ hl.1 (Nat.le_of_ble_eq_true rfl) dX6_entry_95 (fun v22 I23 H locs hv24 hP hS => ?_)
              obtain ⟨eI23, ev22⟩ := hv24
              exact hret _ _ _ _ _ _ dX6_entry_98 hP hS (by unfold sEntry; rw [if_pos (by assumption), if_pos ⟨by omega, by assumption⟩, cu, if_neg (fun q => by rcases q with q | q; exact q h16; exact hz2 q), if_neg (by omega), eI23]; exact ⟨ev22, show CR K L _ (entU σ u v k g x) from CR_c hC (ent_PR hw hR hu (by omega)) ⟨by rw [up2_r (by omega), set3_r (by omega), up2_r (by omega)]; exact hC.2.1.1, by rw [up2_r (by omega), set3_r (by omega), up2_r (by omega)]; exact hC.2.1.2⟩ (fun a ha => by rw [up2_r (by omega), set3_r (by omega), up2_r (by omega)]) (fun a g1 g2 => ent_row (by omega)) (fun i hi => by rw [ent_row (by decide)]), fun a ha => by rw [up2_r (by omega), set3_r (by omega), up2_r (by omega)]⟩)
            · refine lv_bipush (v := (-4)) hx hb dX6_entry_84 (by decide) ?_
              exact hret _ _ _ _ _ _ dX6_entry_86 hP hS (by unfold sEntry; rw [if_pos (by assumption), if_pos ⟨by omega, by assumption⟩, cu, if_neg (fun q => by rcases q with q | q; exact q h16; exact hz2 q), if_pos (by omega)]; exact ⟨rfl, hC, fun _ _ => rfl⟩)
      · refine z_ne0 C dX6_entry_31 (tgt := 37) (by decide) ?_
        refine lv_bipush (v := (-2)) hx hb dX6_entry_34 (by decide) ?_
        exact hret _ _ _ _ _ _ dX6_entry_36 hP hS (by unfold sEntry; rw [if_pos (by assumption), if_neg (fun q => by first | (exact absurd q.2 (by assumption)) | (have := q.1; omega))]; exact ⟨rfl, hC, fun _ _ => rfl⟩)
    · refine z_eq0 C dX6_entry_20 (tgt := 34) (by decide) ?_
      refine lv_bipush (v := (-2)) hx hb dX6_entry_34 (by decide) ?_
      exact hret _ _ _ _ _ _ dX6_entry_36 hP hS (by unfold sEntry; rw [if_pos (by assumption), if_neg (fun q => by first | (exact absurd q.2 (by assumption)) | (have := q.1; omega))]; exact ⟨rfl, hC, fun _ _ => rfl⟩)
  · rw [h200, nI_toInt (by omega)] at hc4
    refine z_ne0 C dX6_entry_8 (tgt := 13) (by decide) ?_
    refine lv_iconst (v := (-1)) hx hb dX6_entry_11 (by decide) ?_
    exact hret _ _ _ _ _ _ dX6_entry_12 hP hS (by unfold sEntry; rw [if_neg (by assumption)]; exact ⟨rfl, hC, fun _ _ => rfl⟩)
set_option maxHeartbeats 4000000 in
set_option maxRecDepth 100000 in
theorem c_X6_otherwise {l : Launch} {E : En} {K : Nat → Nat} {L : Nat → Nat → Bool} {ad : Nat → Nat} {I : Nat → Nat → Int32} {σ : Mem} (t k g x : Int32) (hO : IsO K L) (hC : CR K L I σ) (hw : WF σ) : MI l E K L ad I yX6_otherwise cX6_otherwise 7 (some .int) 4 [.ref (ad 100), .int t, .int k, .int g, .int x] (fun rv RJ => rv = (sOther σ t k g x).1 ∧ CR K L RJ (sOther σ t k g x).2 ∧ ∀ a, a < 100 → RJ a = I a) := by
  have hO0 := hO
  obtain ⟨o0, o1, o2, o3, o4, o5, hp, hk, hQ, hX, o150⟩ := hO
  have hp0 := hp
  obtain ⟨pp0, ⟨pp1, pp2, pp3, pp4⟩, pp5, hLb, pp6, pp7, pp8, hTT⟩ := hp
  have kk0 := hk
  obtain ⟨kk, hA⟩ := hk
  have a0 := (hA 0 (by decide)).1
  have c0 : K 111 = 108 := (hA 0 (by decide)).2
  have a1 := (hA 1 (by decide)).1
  have c1 : K 112 = 108 := (hA 1 (by decide)).2
  have a2 := (hA 2 (by decide)).1
  have c2 : K 113 = 108 := (hA 2 (by decide)).2
  have a3 := (hA 3 (by decide)).1
  have c3 : K 114 = 108 := (hA 3 (by decide)).2
  have a4 := (hA 4 (by decide)).1
  have c4 : K 115 = 108 := (hA 4 (by decide)).2
  have a5 := (hA 5 (by decide)).1
  have c5 : K 116 = 108 := (hA 5 (by decide)).2
  have a6 := (hA 6 (by decide)).1
  have c6 : K 117 = 108 := (hA 6 (by decide)).2
  have a7 := (hA 7 (by decide)).1
  have c7 : K 118 = 108 := (hA 7 (by decide)).2
  have a8 := (hA 8 (by decide)).1
  have c8 : K 119 = 108 := (hA 8 (by decide)).2
  have a9 := (hA 9 (by decide)).1
  have c9 : K 120 = 108 := (hA 9 (by decide)).2
  have hQ0 := hQ
  obtain ⟨q0, q1, q2, q3, q4, q5, q6⟩ := hQ
  have hX0 := hX
  obtain ⟨x0, x1, x2, x3, x4, hXL, hXK⟩ := hX
  have hn8 := hw.2.1
  have hR := hC.1
  have h200 : I 200 0 = nI (mn σ) := hR.1.trans hw.1
  have t0 : (nI 0).toInt = 0 := rfl
  have t1 : (nI 1).toInt = 1 := rfl
  have t2 : (nI 2).toInt = 2 := rfl
  have t4 : (nI 4).toInt = 4 := rfl
  have t6 : (nI 6).toInt = 6 := rfl
  have t8 : (nI 8).toInt = 8 := rfl
  have t10 : (nI 10).toInt = 10 := rfl
  have t255 : (nI 255).toInt = 255 := rfl
  have t65535 : (nI 65535).toInt = 65535 := rfl
  refine MI.of (by decide) (Nat.le_of_ble_eq_true rfl) ?_
  intro p ee s m args below meth c ls Qf C hret hP hl
  have C : Cx E p s m args c cX6_otherwise RX6 7 := C
  have hx := C.1
  have hb := C.2.1
  have hS : va_S (AG E) s.heap s.heap [] := va_S.rf
  have hl : lv_has ls 7 [(0, .ref (ad 100)), (1, .int t), (2, .int k), (3, .int g), (4, .int x)] := hl
  refine lv_aload_n hx hb dX6_otherwise_0 rfl (lv_at hl 0 rfl) ?_
  refine f_X6_12 (q := 200) C hP (by assumption) (by assumption) rfl dX6_otherwise_1 ?_
  refine lv_iload_n hx hb dX6_otherwise_4 rfl (lv_at hl 1 rfl) ?_
  refine k_X6_53 C hP hS (by assumption) (c_X3_hasTable 200 t pp0) ⟨Nat.le_of_ble_eq_true rfl, Nat.le_of_ble_eq_true rfl⟩ ⟨Nat.zero_le _, Nat.zero_le _⟩ hl.1 (Nat.le_of_ble_eq_true rfl) dX6_otherwise_5 (fun v1 I2 H locs hv3 hP hS => ?_)
  obtain ⟨eI2, hv3⟩ := hv3
  rw [eI2] at hP
  clear eI2
  rcases hv3 with ⟨rfl, hc4⟩ | ⟨rfl, hc4⟩
  · rw [h200, nI_toInt (by omega)] at hc4
    obtain ⟨u, hu, eu⟩ : ∃ j : Nat, j < mn σ ∧ t = nI j := ⟨t.toInt.toNat, by omega, i32_eq (by omega) (by omega)⟩
    have cu : tn t = u := by rw [eu]; exact nI_clamp (by omega)
    rw [eu] at hl
    have hWu := hw.2.2.1 u hu
    have hRu := hR.2.2.1 u hu
    have hTu := tr_T hp0 hR.2.1 (show u < 8 by omega)
    have hTu0 := hTu
    obtain ⟨ht1, ht2, ht3, ht4, ht5, ht6, ht7⟩ := hTu0
    have hlo := tr_lo I 200 u
    have hhi := tr_hi hR.2.1 (show u < 8 by omega)
    have hI1 : I (tr I 200 u) 1 = nI (en σ u) := hRu.2.1.trans hWu.1
    have hu4 := hWu.2.1
    refine z_ne1 C dX6_otherwise_8 (tgt := 13) (by decide) ?_
    refine lv_iload_n hx hb dX6_otherwise_13 rfl (lv_at hl 2 rfl) ?_
    refine lv_iload_n hx hb dX6_otherwise_14 rfl (lv_at hl 3 rfl) ?_
    refine lv_iload hx hb dX6_otherwise_15 (lv_at hl 4 rfl) ?_
    refine k_X6_60 C hP hS (c_X6_isAct k g x) ⟨Nat.le_of_ble_eq_true rfl, Nat.le_of_ble_eq_true rfl⟩ ⟨Nat.zero_le _, Nat.zero_le _⟩ hl.1 (Nat.le_of_ble_eq_true rfl) dX6_otherwise_17 (fun v5 I6 H locs hv7 hP hS => ?_)
    obtain ⟨eI6, hv7⟩ := hv7
    rw [eI6] at hP
    clear eI6
    rcases hv7 with ⟨rfl, hc8⟩ | ⟨rfl, hc8⟩
    · refine z_ne1 C dX6_otherwise_20 (tgt := 26) (by decide) ?_
      refine lv_aload_n hx hb dX6_otherwise_26 rfl (lv_at hl 0 rfl) ?_
      refine f_X6_12 (q := 200) C hP (by assumption) (by assumption) rfl dX6_otherwise_27 ?_
      refine lv_iload_n hx hb dX6_otherwise_30 rfl (lv_at hl 1 rfl) ?_
      refine lv_iload_n hx hb dX6_otherwise_31 rfl (lv_at hl 2 rfl) ?_
      refine lv_iload hx hb dX6_otherwise_32 (lv_at hl 4 rfl) ?_
      refine k_X6_73 C hP hS (by assumption) (c_X3_isTakenElsewhere (σ := σ) 200 (mn σ) u k x hp0 hR hw rfl (by omega)) ⟨Nat.le_of_ble_eq_true rfl, Nat.le_of_ble_eq_true rfl⟩ ⟨Nat.zero_le _, Nat.zero_le _⟩ hl.1 (Nat.le_of_ble_eq_true rfl) dX6_otherwise_34 (fun v9 I10 H locs hv11 hP hS => ?_)
      obtain ⟨eI10, hv11⟩ := hv11
      rw [eI10] at hP
      clear eI10
      rcases hv11 with ⟨rfl, hc12⟩ | ⟨rfl, hc12⟩
      · have hz2 := hc12
        refine z_eq1 C dX6_otherwise_37 (tgt := 43) (by decide) ?_
        refine lv_bipush (v := (-5)) hx hb dX6_otherwise_40 (by decide) ?_
        exact hret _ _ _ _ _ _ dX6_otherwise_42 hP hS (by unfold sOther; rw [if_pos (by assumption), if_pos (by assumption), cu, if_pos hz2]; exact ⟨rfl, hC, fun _ _ => rfl⟩)
      · have hz2 := hc12
        refine z_eq0 C dX6_otherwise_37 (tgt := 43) (by decide) ?_
        refine lv_aload_n hx hb dX6_otherwise_43 rfl (lv_at hl 0 rfl) ?_
        refine f_X6_12 (q := 200) C hP (by assumption) (by assumption) rfl dX6_otherwise_44 ?_
        refine f_X6_64 (q := 201) C hP (by assumption) (by assumption) rfl dX6_otherwise_47 ?_
        refine lv_iload_n hx hb dX6_otherwise_50 rfl (lv_at hl 1 rfl) ?_
        refine r_ald12 (q := tr I 200 u) C hP (by assumption) (hLb _ (by omega)) (by omega) rfl dX6_otherwise_51 ?_
        refine f_X6_83 (q := tr I 200 u + 2) C hP (by assumption) (by assumption) rfl dX6_otherwise_52 ?_
        refine lv_iconst (v := nI 4) hx hb dX6_otherwise_55 (by decide) ?_
        refine r_ald11 (q := tr I 200 u + 3 + 4) C hP (by assumption) (ht6 _ (by omega)) (by omega) (by omega) dX6_otherwise_56 ?_
        have hk7 : K (tr I 200 u + 3 + 4) = 1 := ht7 4 (by decide)
        refine lv_astore (lv' := [(5, .ref (ad (tr I 200 u + 3 + 4))), (0, .ref (ad 100)), (1, .int (nI u)), (2, .int k), (3, .int g), (4, .int x)]) hx hb dX6_otherwise_57 hl (by decide) rfl (fun ls hl => ?_)
        refine lv_aload hx hb dX6_otherwise_59 (lv_at hl 0 rfl) ?_
        refine f_X6_87 C hP (by first | assumption | exact hKa _ (by omega)) dX6_otherwise_61 ?_
        refine lv_istore (lv' := [(6, .int (I (tr I 200 u + 3 + 4) 0)), (5, .ref (ad (tr I 200 u + 3 + 4))), (0, .ref (ad 100)), (1, .int (nI u)), (2, .int k), (3, .int g), (4, .int x)]) hx hb dX6_otherwise_64 hl (by decide) rfl (fun ls hl => ?_)
        refine lv_aload hx hb dX6_otherwise_66 (lv_at hl 1 rfl) ?_
        refine lv_iload_n hx hb dX6_otherwise_68 rfl (lv_at hl 4 rfl) ?_
        refine lv_iload_n hx hb dX6_otherwise_69 rfl (lv_at hl 5 rfl) ?_
        refine lv_iload hx hb dX6_otherwise_70 (lv_at hl 6 rfl) ?_
        refine k_X6_92 C hP hS (by assumption) (c_X0_become (tr I 200 u + 3 + 4) k g x hk7) ⟨Nat.le_of_ble_eq_true rfl, Nat.le_of_ble_eq_true rfl⟩ ⟨Nat.zero_le _, Nat.zero_le _⟩ hl.1 (Nat.le_of_ble_eq_true rfl) dX6_otherwise_72 (fun I14 H locs hv15 hP hS => ?_)
        have eI14 := hv15
        refine lv_iload hx hb dX6_otherwise_75 (lv_at hl 0 rfl) ?_
        exact hret _ _ _ _ _ _ dX6_otherwise_77 hP hS (by unfold sOther; rw [if_pos (by assumption), if_pos (by assumption), cu, if_neg hz2, eI14]; exact ⟨hRu.2.2.2 4 (by decide) (Or.inr rfl) 0 (by decide), show CR K L _ (othU σ u k g x) from CR_c hC (oth_PR hw hR hu) ⟨by rw [set3_r (by omega)]; exact hC.2.1.1, by rw [set3_r (by omega)]; exact hC.2.1.2⟩ (fun a ha => by rw [set3_r (by omega)]) (fun a g1 g2 => by unfold othU; exact lay_r (by omega)) (fun i hi => by unfold othU; rw [lay_r (by decide)]), fun a ha => by rw [set3_r (by omega)]⟩)
    · refine z_ne0 C dX6_otherwise_20 (tgt := 26) (by decide) ?_
      refine lv_bipush (v := (-2)) hx hb dX6_otherwise_23 (by decide) ?_
      exact hret _ _ _ _ _ _ dX6_otherwise_25 hP hS (by unfold sOther; rw [if_pos (by assumption), if_neg (by assumption)]; exact ⟨rfl, hC, fun _ _ => rfl⟩)
  · rw [h200, nI_toInt (by omega)] at hc4
    refine z_ne0 C dX6_otherwise_8 (tgt := 13) (by decide) ?_
    refine lv_iconst (v := (-1)) hx hb dX6_otherwise_11 (by decide) ?_
    exact hret _ _ _ _ _ _ dX6_otherwise_12 hP hS (by unfold sOther; rw [if_neg (by assumption)]; exact ⟨rfl, hC, fun _ _ => rfl⟩)
set_option maxHeartbeats 4000000 in
set_option maxRecDepth 100000 in
theorem c_X6_forget {l : Launch} {E : En} {K : Nat → Nat} {L : Nat → Nat → Bool} {ad : Nat → Nat} {I : Nat → Nat → Int32} {σ : Mem} (t e : Int32) (hO : IsO K L) (hC : CR K L I σ) (hw : WF σ) : MI l E K L ad I yX6_forget cX6_forget 4 (some .int) 2 [.ref (ad 100), .int t, .int e] (fun rv RJ => rv = (sForget σ t e).1 ∧ CR K L RJ (sForget σ t e).2 ∧ ∀ a, a < 100 → RJ a = I a) := by
  have hO0 := hO
  obtain ⟨o0, o1, o2, o3, o4, o5, hp, hk, hQ, hX, o150⟩ := hO
  have hp0 := hp
  obtain ⟨pp0, ⟨pp1, pp2, pp3, pp4⟩, pp5, hLb, pp6, pp7, pp8, hTT⟩ := hp
  have kk0 := hk
  obtain ⟨kk, hA⟩ := hk
  have a0 := (hA 0 (by decide)).1
  have c0 : K 111 = 108 := (hA 0 (by decide)).2
  have a1 := (hA 1 (by decide)).1
  have c1 : K 112 = 108 := (hA 1 (by decide)).2
  have a2 := (hA 2 (by decide)).1
  have c2 : K 113 = 108 := (hA 2 (by decide)).2
  have a3 := (hA 3 (by decide)).1
  have c3 : K 114 = 108 := (hA 3 (by decide)).2
  have a4 := (hA 4 (by decide)).1
  have c4 : K 115 = 108 := (hA 4 (by decide)).2
  have a5 := (hA 5 (by decide)).1
  have c5 : K 116 = 108 := (hA 5 (by decide)).2
  have a6 := (hA 6 (by decide)).1
  have c6 : K 117 = 108 := (hA 6 (by decide)).2
  have a7 := (hA 7 (by decide)).1
  have c7 : K 118 = 108 := (hA 7 (by decide)).2
  have a8 := (hA 8 (by decide)).1
  have c8 : K 119 = 108 := (hA 8 (by decide)).2
  have a9 := (hA 9 (by decide)).1
  have c9 : K 120 = 108 := (hA 9 (by decide)).2
  have hQ0 := hQ
  obtain ⟨q0, q1, q2, q3, q4, q5, q6⟩ := hQ
  have hX0 := hX
  obtain ⟨x0, x1, x2, x3, x4, hXL, hXK⟩ := hX
  have hn8 := hw.2.1
  have hR := hC.1
  have h200 : I 200 0 = nI (mn σ) := hR.1.trans hw.1
  have t0 : (nI 0).toInt = 0 := rfl
  have t1 : (nI 1).toInt = 1 := rfl
  have t2 : (nI 2).toInt = 2 := rfl
  have t4 : (nI 4).toInt = 4 := rfl
  have t6 : (nI 6).toInt = 6 := rfl
  have t8 : (nI 8).toInt = 8 := rfl
  have t10 : (nI 10).toInt = 10 := rfl
  have t255 : (nI 255).toInt = 255 := rfl
  have t65535 : (nI 65535).toInt = 65535 := rfl
  refine MI.of (by decide) (Nat.le_of_ble_eq_true rfl) ?_
  intro p ee s m args below meth c ls Qf C hret hP hl
  have C : Cx E p s m args c cX6_forget RX6 4 := C
  have hx := C.1
  have hb := C.2.1
  have hS : va_S (AG E) s.heap s.heap [] := va_S.rf
  have hl : lv_has ls 4 [(0, .ref (ad 100)), (1, .int t), (2, .int e)] := hl
  refine lv_aload_n hx hb dX6_forget_0 rfl (lv_at hl 0 rfl) ?_
  refine f_X6_12 (q := 200) C hP (by assumption) (by assumption) rfl dX6_forget_1 ?_
  refine lv_iload_n hx hb dX6_forget_4 rfl (lv_at hl 1 rfl) ?_
  refine k_X6_53 C hP hS (by assumption) (c_X3_hasTable 200 t pp0) ⟨Nat.le_of_ble_eq_true rfl, Nat.le_of_ble_eq_true rfl⟩ ⟨Nat.zero_le _, Nat.zero_le _⟩ hl.1 (Nat.le_of_ble_eq_true rfl) dX6_forget_5 (fun v1 I2 H locs hv3 hP hS => ?_)
  obtain ⟨eI2, hv3⟩ := hv3
  rw [eI2] at hP
  clear eI2
  rcases hv3 with ⟨rfl, hc4⟩ | ⟨rfl, hc4⟩
  · rw [h200, nI_toInt (by omega)] at hc4
    obtain ⟨u, hu, eu⟩ : ∃ j : Nat, j < mn σ ∧ t = nI j := ⟨t.toInt.toNat, by omega, i32_eq (by omega) (by omega)⟩
    have cu : tn t = u := by rw [eu]; exact nI_clamp (by omega)
    rw [eu] at hl
    have hWu := hw.2.2.1 u hu
    have hRu := hR.2.2.1 u hu
    have hTu := tr_T hp0 hR.2.1 (show u < 8 by omega)
    have hTu0 := hTu
    obtain ⟨ht1, ht2, ht3, ht4, ht5, ht6, ht7⟩ := hTu0
    have hlo := tr_lo I 200 u
    have hhi := tr_hi hR.2.1 (show u < 8 by omega)
    have hI1 : I (tr I 200 u) 1 = nI (en σ u) := hRu.2.1.trans hWu.1
    have hu4 := hWu.2.1
    refine z_ne1 C dX6_forget_8 (tgt := 13) (by decide) ?_
    refine lv_aload_n hx hb dX6_forget_13 rfl (lv_at hl 0 rfl) ?_
    refine f_X6_12 (q := 200) C hP (by assumption) (by assumption) rfl dX6_forget_14 ?_
    refine f_X6_64 (q := 201) C hP (by assumption) (by assumption) rfl dX6_forget_17 ?_
    refine lv_iload_n hx hb dX6_forget_20 rfl (lv_at hl 1 rfl) ?_
    refine r_ald12 (q := tr I 200 u) C hP (by assumption) (hLb _ (by omega)) (by omega) rfl dX6_forget_21 ?_
    refine lv_astore_n (lv' := [(3, .ref (ad (tr I 200 u))), (0, .ref (ad 100)), (1, .int (nI u)), (2, .int e)]) hx hb dX6_forget_22 rfl hl (by decide) rfl (fun ls hl => ?_)
    refine lv_iload_n hx hb dX6_forget_23 rfl (lv_at hl 3 rfl) ?_
    refine lv_aload_n hx hb dX6_forget_24 rfl (lv_at hl 0 rfl) ?_
    refine f_X6_76 C hP (by first | assumption | exact hKa _ (by omega)) dX6_forget_25 ?_
    refine r_eqi (y := (nI (en σ u))) (hI1) ?_
    have tu : (nI (en σ u)).toInt = (en σ u : Int) := nI_toInt (by omega)
    refine k_X6_41 C hP hS (c_X6_isIn e ((nI (en σ u)))) ⟨Nat.le_of_ble_eq_true rfl, Nat.le_of_ble_eq_true rfl⟩ ⟨Nat.zero_le _, Nat.zero_le _⟩ hl.1 (Nat.le_of_ble_eq_true rfl) dX6_forget_28 (fun v5 I6 H locs hv7 hP hS => ?_)
    obtain ⟨eI6, hv7⟩ := hv7
    rw [eI6] at hP
    clear eI6
    rcases hv7 with ⟨rfl, hc8⟩ | ⟨rfl, hc8⟩
    · obtain ⟨e0, he0, ee0⟩ : ∃ j : Nat, j < en σ u ∧ e = nI j := ⟨e.toInt.toNat, by omega, i32_eq (by omega) (by omega)⟩
      have ce0 : tn e = e0 := by rw [ee0]; exact nI_clamp (by omega)
      rw [ee0] at hl
      refine z_ne1 C dX6_forget_31 (tgt := 37) (by decide) ?_
      refine lv_aload_n hx hb dX6_forget_37 rfl (lv_at hl 0 rfl) ?_
      refine lv_iload_n hx hb dX6_forget_38 rfl (lv_at hl 3 rfl) ?_
      refine k_X6_96 C hP hS (by assumption) (c_X5_removeEntry (tr I 200 u) (en σ u) e0 hTu hI1 hu4 he0) ⟨Nat.le_of_ble_eq_true rfl, Nat.le_of_ble_eq_true rfl⟩ ⟨Nat.zero_le _, Nat.zero_le _⟩ hl.1 (Nat.le_of_ble_eq_true rfl) dX6_forget_39 (fun v9 I10 H locs hv11 hP hS => ?_)
      obtain ⟨⟨J0, eX, hRE⟩, eV⟩ := hv11
      exact hret _ _ _ _ _ _ dX6_forget_42 hP hS (by unfold sForget; rw [if_pos (by assumption), cu, if_pos (by omega), ce0]; exact ⟨eV, show CR K L _ (fgU σ u e0 (en σ u)) from CR_c hC (by rw [eX]; exact fg_PR hw hR hu he0 hRE) ⟨by rw [eX, up2_r (by omega), hRE.1 _ (by omega) (fun e _ => by omega)]; exact hC.2.1.1, by rw [eX, up2_r (by omega), hRE.1 _ (by omega) (fun e _ => by omega)]; exact hC.2.1.2⟩ (fun a ha => by rw [eX, up2_r (by omega), hRE.1 _ (by omega) (fun e _ => by omega)]) (fun a g1 g2 => fg_row (by omega)) (fun i hi => by rw [fg_row (by decide)]), fun a ha => by rw [eX, up2_r (by omega), hRE.1 _ (by omega) (fun e _ => by omega)]⟩)
    · refine z_ne0 C dX6_forget_31 (tgt := 37) (by decide) ?_
      refine lv_bipush (v := (-2)) hx hb dX6_forget_34 (by decide) ?_
      exact hret _ _ _ _ _ _ dX6_forget_36 hP hS (by unfold sForget; rw [if_pos (by assumption), cu, if_neg (by omega)]; exact ⟨rfl, hC, fun _ _ => rfl⟩)
  · rw [h200, nI_toInt (by omega)] at hc4
    refine z_ne0 C dX6_forget_8 (tgt := 13) (by decide) ?_
    refine lv_iconst (v := (-1)) hx hb dX6_forget_11 (by decide) ?_
    exact hret _ _ _ _ _ _ dX6_forget_12 hP hS (by unfold sForget; rw [if_neg (by assumption)]; exact ⟨rfl, hC, fun _ _ => rfl⟩)
set_option maxHeartbeats 4000000 in
set_option maxRecDepth 100000 in
theorem c_X6_drop {l : Launch} {E : En} {K : Nat → Nat} {L : Nat → Nat → Bool} {ad : Nat → Nat} {I : Nat → Nat → Int32} {σ : Mem} (t : Int32) (hO : IsO K L) (hC : CR K L I σ) (hw : WF σ) : MI l E K L ad I yX6_drop cX6_drop 2 (some .int) 2 [.ref (ad 100), .int t] (fun rv RJ => rv = (sDrop σ t).1 ∧ CR K L RJ (sDrop σ t).2 ∧ ∀ a, a < 100 → RJ a = I a) := by
  have hO0 := hO
  obtain ⟨o0, o1, o2, o3, o4, o5, hp, hk, hQ, hX, o150⟩ := hO
  have hp0 := hp
  obtain ⟨pp0, ⟨pp1, pp2, pp3, pp4⟩, pp5, hLb, pp6, pp7, pp8, hTT⟩ := hp
  have kk0 := hk
  obtain ⟨kk, hA⟩ := hk
  have a0 := (hA 0 (by decide)).1
  have c0 : K 111 = 108 := (hA 0 (by decide)).2
  have a1 := (hA 1 (by decide)).1
  have c1 : K 112 = 108 := (hA 1 (by decide)).2
  have a2 := (hA 2 (by decide)).1
  have c2 : K 113 = 108 := (hA 2 (by decide)).2
  have a3 := (hA 3 (by decide)).1
  have c3 : K 114 = 108 := (hA 3 (by decide)).2
  have a4 := (hA 4 (by decide)).1
  have c4 : K 115 = 108 := (hA 4 (by decide)).2
  have a5 := (hA 5 (by decide)).1
  have c5 : K 116 = 108 := (hA 5 (by decide)).2
  have a6 := (hA 6 (by decide)).1
  have c6 : K 117 = 108 := (hA 6 (by decide)).2
  have a7 := (hA 7 (by decide)).1
  have c7 : K 118 = 108 := (hA 7 (by decide)).2
  have a8 := (hA 8 (by decide)).1
  have c8 : K 119 = 108 := (hA 8 (by decide)).2
  have a9 := (hA 9 (by decide)).1
  have c9 : K 120 = 108 := (hA 9 (by decide)).2
  have hQ0 := hQ
  obtain ⟨q0, q1, q2, q3, q4, q5, q6⟩ := hQ
  have hX0 := hX
  obtain ⟨x0, x1, x2, x3, x4, hXL, hXK⟩ := hX
  have hn8 := hw.2.1
  have hR := hC.1
  have h200 : I 200 0 = nI (mn σ) := hR.1.trans hw.1
  have t0 : (nI 0).toInt = 0 := rfl
  have t1 : (nI 1).toInt = 1 := rfl
  have t2 : (nI 2).toInt = 2 := rfl
  have t4 : (nI 4).toInt = 4 := rfl
  have t6 : (nI 6).toInt = 6 := rfl
  have t8 : (nI 8).toInt = 8 := rfl
  have t10 : (nI 10).toInt = 10 := rfl
  have t255 : (nI 255).toInt = 255 := rfl
  have t65535 : (nI 65535).toInt = 65535 := rfl
  refine MI.of (by decide) (Nat.le_of_ble_eq_true rfl) ?_
  intro p ee s m args below meth c ls Qf C hret hP hl
  have C : Cx E p s m args c cX6_drop RX6 2 := C
  have hx := C.1
  have hb := C.2.1
  have hS : va_S (AG E) s.heap s.heap [] := va_S.rf
  have hl : lv_has ls 2 [(0, .ref (ad 100)), (1, .int t)] := hl
  refine lv_aload_n hx hb dX6_drop_0 rfl (lv_at hl 0 rfl) ?_
  refine f_X6_12 (q := 200) C hP (by assumption) (by assumption) rfl dX6_drop_1 ?_
  refine lv_iload_n hx hb dX6_drop_4 rfl (lv_at hl 1 rfl) ?_
  refine k_X6_53 C hP hS (by assumption) (c_X3_hasTable 200 t pp0) ⟨Nat.le_of_ble_eq_true rfl, Nat.le_of_ble_eq_true rfl⟩ ⟨Nat.zero_le _, Nat.zero_le _⟩ hl.1 (Nat.le_of_ble_eq_true rfl) dX6_drop_5 (fun v1 I2 H locs hv3 hP hS => ?_)
  obtain ⟨eI2, hv3⟩ := hv3
  rw [eI2] at hP
  clear eI2
  rcases hv3 with ⟨rfl, hc4⟩ | ⟨rfl, hc4⟩
  · rw [h200, nI_toInt (by omega)] at hc4
    obtain ⟨u, hu, eu⟩ : ∃ j : Nat, j < mn σ ∧ t = nI j := ⟨t.toInt.toNat, by omega, i32_eq (by omega) (by omega)⟩
    have cu : tn t = u := by rw [eu]; exact nI_clamp (by omega)
    rw [eu] at hl
    have hWu := hw.2.2.1 u hu
    have hRu := hR.2.2.1 u hu
    have hTu := tr_T hp0 hR.2.1 (show u < 8 by omega)
    have hTu0 := hTu
    obtain ⟨ht1, ht2, ht3, ht4, ht5, ht6, ht7⟩ := hTu0
    have hlo := tr_lo I 200 u
    have hhi := tr_hi hR.2.1 (show u < 8 by omega)
    have hI1 : I (tr I 200 u) 1 = nI (en σ u) := hRu.2.1.trans hWu.1
    have hu4 := hWu.2.1
    refine z_ne1 C dX6_drop_8 (tgt := 13) (by decide) ?_
    refine lv_aload_n hx hb dX6_drop_13 rfl (lv_at hl 0 rfl) ?_
    refine f_X6_12 (q := 200) C hP (by assumption) (by assumption) rfl dX6_drop_14 ?_
    refine lv_iload_n hx hb dX6_drop_17 rfl (lv_at hl 1 rfl) ?_
    refine k_X6_99 C hP hS (by assumption) (c_X3_removeTable 200 (mn σ) u hp0 hR.2.1 h200 hn8 hu) ⟨Nat.le_of_ble_eq_true rfl, Nat.le_of_ble_eq_true rfl⟩ ⟨Nat.zero_le _, Nat.zero_le _⟩ hl.1 (Nat.le_of_ble_eq_true rfl) dX6_drop_18 (fun v5 I6 H locs hv7 hP hS => ?_)
    obtain ⟨eX, eV⟩ := hv7
    exact hret _ _ _ _ _ _ dX6_drop_21 hP hS (by unfold sDrop; rw [if_pos (by assumption), cu]; exact ⟨eV, show CR K L _ (drU σ u (mn σ)) from CR_c hC (dr_PR hw hR hu eX) ⟨by rw [eX.1 _ (by omega) (by omega)]; exact hC.2.1.1, by rw [eX.1 _ (by omega) (by omega)]; exact hC.2.1.2⟩ (fun a ha => by rw [eX.1 _ (by omega) (by omega)]) (fun a g1 g2 => dr_row (by omega)) (fun i hi => dr_10 hi), fun a ha => by rw [eX.1 _ (by omega) (by omega)]⟩)
  · rw [h200, nI_toInt (by omega)] at hc4
    refine z_ne0 C dX6_drop_8 (tgt := 13) (by decide) ?_
    refine lv_iconst (v := (-1)) hx hb dX6_drop_11 (by decide) ?_
    exact hret _ _ _ _ _ _ dX6_drop_12 hP hS (by unfold sDrop; rw [if_neg (by assumption)]; exact ⟨rfl, hC, fun _ _ => rfl⟩)
set_option maxHeartbeats 4000000 in
set_option maxRecDepth 100000 in
theorem c_X6_rule {l : Launch} {E : En} {K : Nat → Nat} {L : Nat → Nat → Bool} {ad : Nat → Nat} {I : Nat → Nat → Int32} {σ : Mem} (w n : Int32) (hO : IsO K L) (hC : CR K L I σ) (hw : WF σ) : MI l E K L ad I yX6_rule cX6_rule 4 (some .int) 1 [.ref (ad 100), .int w, .int n] (fun rv RJ => rv = (sRule σ w n).1 ∧ CR K L RJ (sRule σ w n).2 ∧ ∀ a, a < 100 → RJ a = I a) := by
  have hO0 := hO
  obtain ⟨o0, o1, o2, o3, o4, o5, hp, hk, hQ, hX, o150⟩ := hO
  have hp0 := hp
  obtain ⟨pp0, ⟨pp1, pp2, pp3, pp4⟩, pp5, hLb, pp6, pp7, pp8, hTT⟩ := hp
  have kk0 := hk
  obtain ⟨kk, hA⟩ := hk
  have a0 := (hA 0 (by decide)).1
  have c0 : K 111 = 108 := (hA 0 (by decide)).2
  have a1 := (hA 1 (by decide)).1
  have c1 : K 112 = 108 := (hA 1 (by decide)).2
  have a2 := (hA 2 (by decide)).1
  have c2 : K 113 = 108 := (hA 2 (by decide)).2
  have a3 := (hA 3 (by decide)).1
  have c3 : K 114 = 108 := (hA 3 (by decide)).2
  have a4 := (hA 4 (by decide)).1
  have c4 : K 115 = 108 := (hA 4 (by decide)).2
  have a5 := (hA 5 (by decide)).1
  have c5 : K 116 = 108 := (hA 5 (by decide)).2
  have a6 := (hA 6 (by decide)).1
  have c6 : K 117 = 108 := (hA 6 (by decide)).2
  have a7 := (hA 7 (by decide)).1
  have c7 : K 118 = 108 := (hA 7 (by decide)).2
  have a8 := (hA 8 (by decide)).1
  have c8 : K 119 = 108 := (hA 8 (by decide)).2
  have a9 := (hA 9 (by decide)).1
  have c9 : K 120 = 108 := (hA 9 (by decide)).2
  have hQ0 := hQ
  obtain ⟨q0, q1, q2, q3, q4, q5, q6⟩ := hQ
  have hX0 := hX
  obtain ⟨x0, x1, x2, x3, x4, hXL, hXK⟩ := hX
  have hn8 := hw.2.1
  have hR := hC.1
  have h200 : I 200 0 = nI (mn σ) := hR.1.trans hw.1
  have t0 : (nI 0).toInt = 0 := rfl
  have t1 : (nI 1).toInt = 1 := rfl
  have t2 : (nI 2).toInt = 2 := rfl
  have t4 : (nI 4).toInt = 4 := rfl
  have t6 : (nI 6).toInt = 6 := rfl
  have t8 : (nI 8).toInt = 8 := rfl
  have t10 : (nI 10).toInt = 10 := rfl
  have t255 : (nI 255).toInt = 255 := rfl
  have t65535 : (nI 65535).toInt = 65535 := rfl
  refine MI.of (by decide) (Nat.le_of_ble_eq_true rfl) ?_
  intro p ee s m args below meth c ls Qf C hret hP hl
  have C : Cx E p s m args c cX6_rule RX6 4 := C
  have hx := C.1
  have hb := C.2.1
  have hS : va_S (AG E) s.heap s.heap [] := va_S.rf
  have hl : lv_has ls 4 [(0, .ref (ad 100)), (1, .int w), (2, .int n)] := hl
  refine lv_iload_n hx hb dX6_rule_0 rfl (lv_at hl 1 rfl) ?_
  refine r_gst (j := 0) C hS (by decide) tf_X6_102 dX6_rule_1 ?_
  refine r_slen (j := 0) C hS (by decide) dX6_rule_4 ?_
  refine r_eqi (y := nI 4) rfl ?_
  refine k_X6_41 C hP hS (c_X6_isIn w ((nI 4))) ⟨Nat.le_of_ble_eq_true rfl, Nat.le_of_ble_eq_true rfl⟩ ⟨Nat.zero_le _, Nat.zero_le _⟩ hl.1 (Nat.le_of_ble_eq_true rfl) dX6_rule_5 (fun v1 I2 H locs hv3 hP hS => ?_)
  obtain ⟨eI2, hv3⟩ := hv3
  rw [eI2] at hP
  clear eI2
  rcases hv3 with ⟨rfl, hc4⟩ | ⟨rfl, hc4⟩
  · obtain ⟨j, hj, ej⟩ : ∃ j : Nat, j < 4 ∧ w = nI j := ⟨w.toInt.toNat, by omega, i32_eq (by omega) (by omega)⟩
    have cj : tn w = j := by rw [ej]; exact nI_clamp (by omega)
    rw [ej] at hl
    have hl1 : (stV 1 j).toInt = ruL w := by rw [ej]; exact ru_L j hj
    have hh1 : (stV 2 j).toInt = ruH w := by rw [ej]; exact ru_H j hj
    refine z_eq1 C dX6_rule_8 (tgt := 29) (by decide) ?_
    refine lv_iload_n hx hb dX6_rule_11 rfl (lv_at hl 2 rfl) ?_
    refine r_gst (j := 1) C hS (by decide) tf_X6_106 dX6_rule_12 ?_
    refine lv_iload_n hx hb dX6_rule_15 rfl (lv_at hl 1 rfl) ?_
    refine r_sld (j := 1) C hS (by decide) (by show _ < 4; omega) (by decide) dX6_rule_16 ?_
    refine b_lt C dX6_rule_17 (tgt := 29) (by decide) (fun h5 => ?_) (fun h5 => ?_)
    · refine lv_bipush (v := (-2)) hx hb dX6_rule_29 (by decide) ?_
      exact hret _ _ _ _ _ _ dX6_rule_31 hP hS (by unfold sRule; rw [if_neg (fun q => by have := q.2; omega)]; exact ⟨rfl, hC, fun _ _ => rfl⟩)
    · refine lv_iload_n hx hb dX6_rule_20 rfl (lv_at hl 2 rfl) ?_
      refine r_gst (j := 2) C hS (by decide) tf_X6_109 dX6_rule_21 ?_
      refine lv_iload_n hx hb dX6_rule_24 rfl (lv_at hl 1 rfl) ?_
      refine r_sld (j := 2) C hS (by decide) (by show _ < 4; omega) (by decide) dX6_rule_25 ?_
      refine b_le C dX6_rule_26 (tgt := 32) (by decide) (fun h6 => ?_) (fun h6 => ?_)
      · refine lv_aload_n hx hb dX6_rule_32 rfl (lv_at hl 0 rfl) ?_
        refine f_X6_12 (q := 200) C hP (by assumption) (by assumption) rfl dX6_rule_33 ?_
        refine f_X6_112 (q := 203) C hP (by assumption) (by assumption) rfl dX6_rule_36 ?_
        refine lv_iload_n hx hb dX6_rule_39 rfl (lv_at hl 1 rfl) ?_
        refine r_iald (n := 4) C hP (by assumption) (by omega) (by decide) dX6_rule_40 ?_
        refine lv_istore_n (lv' := [(3, .int (I 203 j)), (0, .ref (ad 100)), (1, .int (nI j)), (2, .int n)]) hx hb dX6_rule_41 rfl hl (by decide) rfl (fun ls hl => ?_)
        refine lv_aload_n hx hb dX6_rule_42 rfl (lv_at hl 1 rfl) ?_
        refine f_X6_12 (q := 200) C hP (by assumption) (by assumption) rfl dX6_rule_43 ?_
        refine f_X6_112 (q := 203) C hP (by assumption) (by assumption) rfl dX6_rule_46 ?_
        refine lv_iload_n hx hb dX6_rule_49 rfl (lv_at hl 2 rfl) ?_
        refine lv_iload_n hx hb dX6_rule_50 rfl (lv_at hl 3 rfl) ?_
        refine r_iast (n := 4) C hP hS (by assumption) (by omega) (by decide) dX6_rule_51 (fun H locs hP hS => ?_)
        obtain ⟨I7, eI7⟩ : ∃ Znew : Nat → Nat → Int32, Znew = up2 I 203 j n := ⟨_, rfl⟩
        rw [← eI7] at hP
        refine lv_iload_n hx hb dX6_rule_52 rfl (lv_at hl 0 rfl) ?_
        exact hret _ _ _ _ _ _ dX6_rule_53 hP hS (by unfold sRule; rw [if_pos ⟨by omega, by omega⟩, cj, eI7]; exact ⟨hR.2.2.2.2.1 j hj, show CR K L _ (up2 σ 19 j n) from CR_c hC (up_PR (r := 19) hw hR (by decide)) ⟨by rw [up2_r (by decide)]; exact hC.2.1.1, by rw [up2_r (by decide)]; exact hC.2.1.2⟩ (fun a ha => by rw [up2_r (by omega)]) (fun a g1 g2 => by rw [up2_r (by omega)]) (fun i hi => by rw [up2_r (by decide)]), fun a ha => by rw [up2_r (by omega)]⟩)
      · refine lv_bipush (v := (-2)) hx hb dX6_rule_29 (by decide) ?_
        exact hret _ _ _ _ _ _ dX6_rule_31 hP hS (by unfold sRule; rw [if_neg (fun q => by have := q.2; omega)]; exact ⟨rfl, hC, fun _ _ => rfl⟩)
  · refine z_eq0 C dX6_rule_8 (tgt := 29) (by decide) ?_
    refine lv_bipush (v := (-2)) hx hb dX6_rule_29 (by decide) ?_
    exact hret _ _ _ _ _ _ dX6_rule_31 hP hS (by unfold sRule; rw [if_neg (fun q => by have := q.1; omega)]; exact ⟨rfl, hC, fun _ _ => rfl⟩)
set_option maxHeartbeats 4000000 in
set_option maxRecDepth 100000 in
theorem c_X6_tell {l : Launch} {E : En} {K : Nat → Nat} {L : Nat → Nat → Bool} {ad : Nat → Nat} {I : Nat → Nat → Int32} {σ : Mem} (f n : Int32) (hO : IsO K L) (hC : CR K L I σ) (hw : WF σ) : MI l E K L ad I yX6_tell cX6_tell 4 (some .int) 1 [.ref (ad 100), .int f, .int n] (fun rv RJ => rv = (sTell σ f n).1 ∧ CR K L RJ (sTell σ f n).2 ∧ ∀ a, a < 100 → RJ a = I a) := by
  have hO0 := hO
  obtain ⟨o0, o1, o2, o3, o4, o5, hp, hk, hQ, hX, o150⟩ := hO
  have hp0 := hp
  obtain ⟨pp0, ⟨pp1, pp2, pp3, pp4⟩, pp5, hLb, pp6, pp7, pp8, hTT⟩ := hp
  have kk0 := hk
  obtain ⟨kk, hA⟩ := hk
  have a0 := (hA 0 (by decide)).1
  have c0 : K 111 = 108 := (hA 0 (by decide)).2
  have a1 := (hA 1 (by decide)).1
  have c1 : K 112 = 108 := (hA 1 (by decide)).2
  have a2 := (hA 2 (by decide)).1
  have c2 : K 113 = 108 := (hA 2 (by decide)).2
  have a3 := (hA 3 (by decide)).1
  have c3 : K 114 = 108 := (hA 3 (by decide)).2
  have a4 := (hA 4 (by decide)).1
  have c4 : K 115 = 108 := (hA 4 (by decide)).2
  have a5 := (hA 5 (by decide)).1
  have c5 : K 116 = 108 := (hA 5 (by decide)).2
  have a6 := (hA 6 (by decide)).1
  have c6 : K 117 = 108 := (hA 6 (by decide)).2
  have a7 := (hA 7 (by decide)).1
  have c7 : K 118 = 108 := (hA 7 (by decide)).2
  have a8 := (hA 8 (by decide)).1
  have c8 : K 119 = 108 := (hA 8 (by decide)).2
  have a9 := (hA 9 (by decide)).1
  have c9 : K 120 = 108 := (hA 9 (by decide)).2
  have hQ0 := hQ
  obtain ⟨q0, q1, q2, q3, q4, q5, q6⟩ := hQ
  have hX0 := hX
  obtain ⟨x0, x1, x2, x3, x4, hXL, hXK⟩ := hX
  have hn8 := hw.2.1
  have hR := hC.1
  have h200 : I 200 0 = nI (mn σ) := hR.1.trans hw.1
  have t0 : (nI 0).toInt = 0 := rfl
  have t1 : (nI 1).toInt = 1 := rfl
  have t2 : (nI 2).toInt = 2 := rfl
  have t4 : (nI 4).toInt = 4 := rfl
  have t6 : (nI 6).toInt = 6 := rfl
  have t8 : (nI 8).toInt = 8 := rfl
  have t10 : (nI 10).toInt = 10 := rfl
  have t255 : (nI 255).toInt = 255 := rfl
  have t65535 : (nI 65535).toInt = 65535 := rfl
  refine MI.of (by decide) (Nat.le_of_ble_eq_true rfl) ?_
  intro p ee s m args below meth c ls Qf C hret hP hl
  have C : Cx E p s m args c cX6_tell RX6 4 := C
  have hx := C.1
  have hb := C.2.1
  have hS : va_S (AG E) s.heap s.heap [] := va_S.rf
  have hl : lv_has ls 4 [(0, .ref (ad 100)), (1, .int f), (2, .int n)] := hl
  refine lv_iload_n hx hb dX6_tell_0 rfl (lv_at hl 1 rfl) ?_
  refine lv_bipush (v := nI 6) hx hb dX6_tell_1 (by decide) ?_
  refine k_X6_41 C hP hS (c_X6_isIn f ((nI 6))) ⟨Nat.le_of_ble_eq_true rfl, Nat.le_of_ble_eq_true rfl⟩ ⟨Nat.zero_le _, Nat.zero_le _⟩ hl.1 (Nat.le_of_ble_eq_true rfl) dX6_tell_3 (fun v1 I2 H locs hv3 hP hS => ?_)
  obtain ⟨eI2, hv3⟩ := hv3
  rw [eI2] at hP
  clear eI2
  rcases hv3 with ⟨rfl, hc4⟩ | ⟨rfl, hc4⟩
  · refine z_ne1 C dX6_tell_6 (tgt := 11) (by decide) ?_
    refine lv_iload_n hx hb dX6_tell_11 rfl (lv_at hl 2 rfl) ?_
    refine lv_sipush (v := nI 255) hx hb dX6_tell_12 (by decide) ?_
    refine k_X6_57 C hP hS (c_X6_isUpTo n ((nI 255))) ⟨Nat.le_of_ble_eq_true rfl, Nat.le_of_ble_eq_true rfl⟩ ⟨Nat.zero_le _, Nat.zero_le _⟩ hl.1 (Nat.le_of_ble_eq_true rfl) dX6_tell_15 (fun v5 I6 H locs hv7 hP hS => ?_)
    obtain ⟨eI6, hv7⟩ := hv7
    rw [eI6] at hP
    clear eI6
    rcases hv7 with ⟨rfl, hc8⟩ | ⟨rfl, hc8⟩
    · refine z_ne1 C dX6_tell_18 (tgt := 24) (by decide) ?_
      obtain ⟨j, hj, ej⟩ : ∃ j : Nat, j < 6 ∧ f = nI j := ⟨f.toInt.toNat, by omega, i32_eq (by omega) (by omega)⟩
      have cj : tn f = j := by rw [ej]; exact nI_clamp (by omega)
      rw [ej] at hl
      refine lv_aload_n hx hb dX6_tell_24 rfl (lv_at hl 0 rfl) ?_
      refine f_X6_12 (q := 200) C hP (by assumption) (by assumption) rfl dX6_tell_25 ?_
      refine f_X6_170 (q := 204) C hP (by assumption) (by assumption) rfl dX6_tell_28 ?_
      refine lv_iload_n hx hb dX6_tell_31 rfl (lv_at hl 1 rfl) ?_
      refine r_iald (n := 6) C hP (by assumption) (by omega) (by decide) dX6_tell_32 ?_
      refine lv_istore_n (lv' := [(3, .int (I 204 j)), (0, .ref (ad 100)), (1, .int (nI j)), (2, .int n)]) hx hb dX6_tell_33 rfl hl (by decide) rfl (fun ls hl => ?_)
      refine lv_aload_n hx hb dX6_tell_34 rfl (lv_at hl 1 rfl) ?_
      refine f_X6_12 (q := 200) C hP (by assumption) (by assumption) rfl dX6_tell_35 ?_
      refine f_X6_170 (q := 204) C hP (by assumption) (by assumption) rfl dX6_tell_38 ?_
      refine lv_iload_n hx hb dX6_tell_41 rfl (lv_at hl 2 rfl) ?_
      refine lv_iload_n hx hb dX6_tell_42 rfl (lv_at hl 3 rfl) ?_
      refine r_iast (n := 6) C hP hS (by assumption) (by omega) (by decide) dX6_tell_43 (fun H locs hP hS => ?_)
      obtain ⟨I9, eI9⟩ : ∃ Znew : Nat → Nat → Int32, Znew = up2 I 204 j n := ⟨_, rfl⟩
      rw [← eI9] at hP
      refine lv_iload_n hx hb dX6_tell_44 rfl (lv_at hl 0 rfl) ?_
      exact hret _ _ _ _ _ _ dX6_tell_45 hP hS (by unfold sTell; rw [if_pos (by omega), if_pos (by omega), cj, eI9]; exact ⟨hR.2.2.2.2.2 j hj, show CR K L _ (up2 σ 18 j n) from CR_c hC (up_PR (r := 18) hw hR (by decide)) ⟨by rw [up2_r (by decide)]; exact hC.2.1.1, by rw [up2_r (by decide)]; exact hC.2.1.2⟩ (fun a ha => by rw [up2_r (by omega)]) (fun a g1 g2 => by rw [up2_r (by omega)]) (fun i hi => by rw [up2_r (by decide)]), fun a ha => by rw [up2_r (by omega)]⟩)
    · refine z_ne0 C dX6_tell_18 (tgt := 24) (by decide) ?_
      refine lv_bipush (v := (-2)) hx hb dX6_tell_21 (by decide) ?_
      exact hret _ _ _ _ _ _ dX6_tell_23 hP hS (by unfold sTell; rw [if_pos (by omega), if_neg (by omega)]; exact ⟨rfl, hC, fun _ _ => rfl⟩)
  · refine z_ne0 C dX6_tell_6 (tgt := 11) (by decide) ?_
    refine lv_iconst (v := (-1)) hx hb dX6_tell_9 (by decide) ?_
    exact hret _ _ _ _ _ _ dX6_tell_10 hP hS (by unfold sTell; rw [if_neg (by omega)]; exact ⟨rfl, hC, fun _ _ => rfl⟩)
set_option maxHeartbeats 4000000 in
set_option maxRecDepth 100000 in
theorem c_X6_put {l : Launch} {E : En} {K : Nat → Nat} {L : Nat → Nat → Bool} {ad : Nat → Nat} {I : Nat → Nat → Int32} {σ : Mem} (f n : Int32) (hO : IsO K L) (hC : CR K L I σ) (hw : WF σ) : MI l E K L ad I yX6_put cX6_put 4 (some .int) 1 [.ref (ad 100), .int f, .int n] (fun rv RJ => rv = (sPut σ f n).1 ∧ CR K L RJ (sPut σ f n).2 ∧ ∀ a, a < 100 → RJ a = I a) := by
  have hO0 := hO
  obtain ⟨o0, o1, o2, o3, o4, o5, hp, hk, hQ, hX, o150⟩ := hO
  have hp0 := hp
  obtain ⟨pp0, ⟨pp1, pp2, pp3, pp4⟩, pp5, hLb, pp6, pp7, pp8, hTT⟩ := hp
  have kk0 := hk
  obtain ⟨kk, hA⟩ := hk
  have a0 := (hA 0 (by decide)).1
  have c0 : K 111 = 108 := (hA 0 (by decide)).2
  have a1 := (hA 1 (by decide)).1
  have c1 : K 112 = 108 := (hA 1 (by decide)).2
  have a2 := (hA 2 (by decide)).1
  have c2 : K 113 = 108 := (hA 2 (by decide)).2
  have a3 := (hA 3 (by decide)).1
  have c3 : K 114 = 108 := (hA 3 (by decide)).2
  have a4 := (hA 4 (by decide)).1
  have c4 : K 115 = 108 := (hA 4 (by decide)).2
  have a5 := (hA 5 (by decide)).1
  have c5 : K 116 = 108 := (hA 5 (by decide)).2
  have a6 := (hA 6 (by decide)).1
  have c6 : K 117 = 108 := (hA 6 (by decide)).2
  have a7 := (hA 7 (by decide)).1
  have c7 : K 118 = 108 := (hA 7 (by decide)).2
  have a8 := (hA 8 (by decide)).1
  have c8 : K 119 = 108 := (hA 8 (by decide)).2
  have a9 := (hA 9 (by decide)).1
  have c9 : K 120 = 108 := (hA 9 (by decide)).2
  have hQ0 := hQ
  obtain ⟨q0, q1, q2, q3, q4, q5, q6⟩ := hQ
  have hX0 := hX
  obtain ⟨x0, x1, x2, x3, x4, hXL, hXK⟩ := hX
  have hn8 := hw.2.1
  have hR := hC.1
  have h200 : I 200 0 = nI (mn σ) := hR.1.trans hw.1
  have t0 : (nI 0).toInt = 0 := rfl
  have t1 : (nI 1).toInt = 1 := rfl
  have t2 : (nI 2).toInt = 2 := rfl
  have t4 : (nI 4).toInt = 4 := rfl
  have t6 : (nI 6).toInt = 6 := rfl
  have t8 : (nI 8).toInt = 8 := rfl
  have t10 : (nI 10).toInt = 10 := rfl
  have t255 : (nI 255).toInt = 255 := rfl
  have t65535 : (nI 65535).toInt = 65535 := rfl
  refine MI.of (by decide) (Nat.le_of_ble_eq_true rfl) ?_
  intro p ee s m args below meth c ls Qf C hret hP hl
  have C : Cx E p s m args c cX6_put RX6 4 := C
  have hx := C.1
  have hb := C.2.1
  have hS : va_S (AG E) s.heap s.heap [] := va_S.rf
  have hl : lv_has ls 4 [(0, .ref (ad 100)), (1, .int f), (2, .int n)] := hl
  refine lv_iload_n hx hb dX6_put_0 rfl (lv_at hl 1 rfl) ?_
  refine lv_iconst (v := nI 4) hx hb dX6_put_1 (by decide) ?_
  refine k_X6_41 C hP hS (c_X6_isIn f ((nI 4))) ⟨Nat.le_of_ble_eq_true rfl, Nat.le_of_ble_eq_true rfl⟩ ⟨Nat.zero_le _, Nat.zero_le _⟩ hl.1 (Nat.le_of_ble_eq_true rfl) dX6_put_2 (fun v1 I2 H locs hv3 hP hS => ?_)
  obtain ⟨eI2, hv3⟩ := hv3
  rw [eI2] at hP
  clear eI2
  rcases hv3 with ⟨rfl, hc4⟩ | ⟨rfl, hc4⟩
  · refine z_ne1 C dX6_put_5 (tgt := 10) (by decide) ?_
    refine lv_iload_n hx hb dX6_put_10 rfl (lv_at hl 2 rfl) ?_
    refine lv_ldc hx hb C.2.2.2.1 (C.2.2.1 _ tk_X6_173) dX6_put_11 ?_
    refine r_eqi (y := nI 65535) rfl ?_
    refine k_X6_57 C hP hS (c_X6_isUpTo n ((nI 65535))) ⟨Nat.le_of_ble_eq_true rfl, Nat.le_of_ble_eq_true rfl⟩ ⟨Nat.zero_le _, Nat.zero_le _⟩ hl.1 (Nat.le_of_ble_eq_true rfl) dX6_put_13 (fun v5 I6 H locs hv7 hP hS => ?_)
    obtain ⟨eI6, hv7⟩ := hv7
    rw [eI6] at hP
    clear eI6
    rcases hv7 with ⟨rfl, hc8⟩ | ⟨rfl, hc8⟩
    · refine z_ne1 C dX6_put_16 (tgt := 22) (by decide) ?_
      obtain ⟨j, hj, ej⟩ : ∃ j : Nat, j < 4 ∧ f = nI j := ⟨f.toInt.toNat, by omega, i32_eq (by omega) (by omega)⟩
      have cj : tn f = j := by rw [ej]; exact nI_clamp (by omega)
      rw [ej] at hl
      refine lv_aload_n hx hb dX6_put_22 rfl (lv_at hl 0 rfl) ?_
      refine f_X6_12 (q := 200) C hP (by assumption) (by assumption) rfl dX6_put_23 ?_
      refine f_X6_174 (q := 202) C hP (by assumption) (by assumption) rfl dX6_put_26 ?_
      refine lv_iload_n hx hb dX6_put_29 rfl (lv_at hl 1 rfl) ?_
      refine r_iald (n := 4) C hP (by assumption) (by omega) (by decide) dX6_put_30 ?_
      refine lv_istore_n (lv' := [(3, .int (I 202 j)), (0, .ref (ad 100)), (1, .int (nI j)), (2, .int n)]) hx hb dX6_put_31 rfl hl (by decide) rfl (fun ls hl => ?_)
      refine lv_aload_n hx hb dX6_put_32 rfl (lv_at hl 1 rfl) ?_
      refine f_X6_12 (q := 200) C hP (by assumption) (by assumption) rfl dX6_put_33 ?_
      refine f_X6_174 (q := 202) C hP (by assumption) (by assumption) rfl dX6_put_36 ?_
      refine lv_iload_n hx hb dX6_put_39 rfl (lv_at hl 2 rfl) ?_
      refine lv_iload_n hx hb dX6_put_40 rfl (lv_at hl 3 rfl) ?_
      refine r_iast (n := 4) C hP hS (by assumption) (by omega) (by decide) dX6_put_41 (fun H locs hP hS => ?_)
      obtain ⟨I9, eI9⟩ : ∃ Znew : Nat → Nat → Int32, Znew = up2 I 202 j n := ⟨_, rfl⟩
      rw [← eI9] at hP
      refine lv_iload_n hx hb dX6_put_42 rfl (lv_at hl 0 rfl) ?_
      exact hret _ _ _ _ _ _ dX6_put_43 hP hS (by unfold sPut; rw [if_pos (by omega), if_pos (by omega), cj, eI9]; exact ⟨hR.2.2.2.1 j hj, show CR K L _ (up2 σ 17 j n) from CR_c hC (up_PR (r := 17) hw hR (by decide)) ⟨by rw [up2_r (by decide)]; exact hC.2.1.1, by rw [up2_r (by decide)]; exact hC.2.1.2⟩ (fun a ha => by rw [up2_r (by omega)]) (fun a g1 g2 => by rw [up2_r (by omega)]) (fun i hi => by rw [up2_r (by decide)]), fun a ha => by rw [up2_r (by omega)]⟩)
    · refine z_ne0 C dX6_put_16 (tgt := 22) (by decide) ?_
      refine lv_bipush (v := (-2)) hx hb dX6_put_19 (by decide) ?_
      exact hret _ _ _ _ _ _ dX6_put_21 hP hS (by unfold sPut; rw [if_pos (by omega), if_neg (by omega)]; exact ⟨rfl, hC, fun _ _ => rfl⟩)
  · refine z_ne0 C dX6_put_5 (tgt := 10) (by decide) ?_
    refine lv_iconst (v := (-1)) hx hb dX6_put_8 (by decide) ?_
    exact hret _ _ _ _ _ _ dX6_put_9 hP hS (by unfold sPut; rw [if_neg (by omega)]; exact ⟨rfl, hC, fun _ _ => rfl⟩)
set_option maxHeartbeats 4000000 in
set_option maxRecDepth 100000 in
theorem c_X6_register {l : Launch} {E : En} {K : Nat → Nat} {L : Nat → Nat → Bool} {ad : Nat → Nat} {I : Nat → Nat → Int32} {σ : Mem} (f : Int32) (hO : IsO K L) (hC : CR K L I σ) (hw : WF σ) : MI l E K L ad I yX6_register cX6_register 2 (some .int) 1 [.ref (ad 100), .int f] (fun rv RJ => rv = sReg σ f ∧ CR K L RJ σ ∧ ∀ a, a < 100 → RJ a = I a) := by
  have hO0 := hO
  obtain ⟨o0, o1, o2, o3, o4, o5, hp, hk, hQ, hX, o150⟩ := hO
  have hp0 := hp
  obtain ⟨pp0, ⟨pp1, pp2, pp3, pp4⟩, pp5, hLb, pp6, pp7, pp8, hTT⟩ := hp
  have kk0 := hk
  obtain ⟨kk, hA⟩ := hk
  have a0 := (hA 0 (by decide)).1
  have c0 : K 111 = 108 := (hA 0 (by decide)).2
  have a1 := (hA 1 (by decide)).1
  have c1 : K 112 = 108 := (hA 1 (by decide)).2
  have a2 := (hA 2 (by decide)).1
  have c2 : K 113 = 108 := (hA 2 (by decide)).2
  have a3 := (hA 3 (by decide)).1
  have c3 : K 114 = 108 := (hA 3 (by decide)).2
  have a4 := (hA 4 (by decide)).1
  have c4 : K 115 = 108 := (hA 4 (by decide)).2
  have a5 := (hA 5 (by decide)).1
  have c5 : K 116 = 108 := (hA 5 (by decide)).2
  have a6 := (hA 6 (by decide)).1
  have c6 : K 117 = 108 := (hA 6 (by decide)).2
  have a7 := (hA 7 (by decide)).1
  have c7 : K 118 = 108 := (hA 7 (by decide)).2
  have a8 := (hA 8 (by decide)).1
  have c8 : K 119 = 108 := (hA 8 (by decide)).2
  have a9 := (hA 9 (by decide)).1
  have c9 : K 120 = 108 := (hA 9 (by decide)).2
  have hQ0 := hQ
  obtain ⟨q0, q1, q2, q3, q4, q5, q6⟩ := hQ
  have hX0 := hX
  obtain ⟨x0, x1, x2, x3, x4, hXL, hXK⟩ := hX
  have hn8 := hw.2.1
  have hR := hC.1
  have h200 : I 200 0 = nI (mn σ) := hR.1.trans hw.1
  have t0 : (nI 0).toInt = 0 := rfl
  have t1 : (nI 1).toInt = 1 := rfl
  have t2 : (nI 2).toInt = 2 := rfl
  have t4 : (nI 4).toInt = 4 := rfl
  have t6 : (nI 6).toInt = 6 := rfl
  have t8 : (nI 8).toInt = 8 := rfl
  have t10 : (nI 10).toInt = 10 := rfl
  have t255 : (nI 255).toInt = 255 := rfl
  have t65535 : (nI 65535).toInt = 65535 := rfl
  refine MI.of (by decide) (Nat.le_of_ble_eq_true rfl) ?_
  intro p ee s m args below meth c ls Qf C hret hP hl
  have C : Cx E p s m args c cX6_register RX6 2 := C
  have hx := C.1
  have hb := C.2.1
  have hS : va_S (AG E) s.heap s.heap [] := va_S.rf
  have hl : lv_has ls 2 [(0, .ref (ad 100)), (1, .int f)] := hl
  refine lv_iload_n hx hb dX6_register_0 rfl (lv_at hl 1 rfl) ?_
  refine lv_iconst (v := nI 4) hx hb dX6_register_1 (by decide) ?_
  refine k_X6_41 C hP hS (c_X6_isIn f ((nI 4))) ⟨Nat.le_of_ble_eq_true rfl, Nat.le_of_ble_eq_true rfl⟩ ⟨Nat.zero_le _, Nat.zero_le _⟩ hl.1 (Nat.le_of_ble_eq_true rfl) dX6_register_2 (fun v1 I2 H locs hv3 hP hS => ?_)
  obtain ⟨eI2, hv3⟩ := hv3
  rw [eI2] at hP
  clear eI2
  rcases hv3 with ⟨rfl, hc4⟩ | ⟨rfl, hc4⟩
  · refine z_eq1 C dX6_register_5 (tgt := 20) (by decide) ?_
    obtain ⟨j, hj, ej⟩ : ∃ j : Nat, j < 4 ∧ f = nI j := ⟨f.toInt.toNat, by omega, i32_eq (by omega) (by omega)⟩
    have cj : tn f = j := by rw [ej]; exact nI_clamp (by omega)
    rw [ej] at hl
    refine lv_aload_n hx hb dX6_register_8 rfl (lv_at hl 0 rfl) ?_
    refine f_X6_12 (q := 200) C hP (by assumption) (by assumption) rfl dX6_register_9 ?_
    refine f_X6_174 (q := 202) C hP (by assumption) (by assumption) rfl dX6_register_12 ?_
    refine lv_iload_n hx hb dX6_register_15 rfl (lv_at hl 1 rfl) ?_
    refine r_iald (n := 4) C hP (by assumption) (by omega) (by decide) dX6_register_16 ?_
    refine lv_goto (tgt := 21) hx hb dX6_register_17 (by decide) ?_
    exact hret _ _ _ _ _ _ dX6_register_21 hP hS (⟨by unfold sReg; rw [if_pos (by omega), cj]; exact hR.2.2.2.1 j hj, hC, fun _ _ => rfl⟩)
  · refine z_eq0 C dX6_register_5 (tgt := 20) (by decide) ?_
    refine lv_iconst (v := (-1)) hx hb dX6_register_20 (by decide) ?_
    exact hret _ _ _ _ _ _ dX6_register_21 hP hS (⟨by unfold sReg; rw [if_neg (by omega)], hC, fun _ _ => rfl⟩)
