/-! the squeeze -/
def IsQ (K : Nat → Nat) (L : Nat → Nat → Bool) : Prop := K 130 = 5 ∧ L 130 0 = true ∧ L 130 1 = true ∧ L 130 2 = true ∧ K 131 = 356 ∧ K 132 = 356 ∧ K 133 = 356
theorem sh2 : ∀ t, t < 8 → nI 2 <<< (nI t &&& 31) = nI (2 * 2 ^ t) := by decide +kernel
theorem szS_z (σ : Mem) : ∀ t, szS σ 0 t = 0
  | 0 => rfl
  | t + 1 => by simp only [szS]; rw [szS_z σ t]; simp
theorem mjO_z (σ : Mem) : ∀ t, mjO σ 0 t = 0
  | 0 => rfl
  | t + 1 => by simp only [mjO]; rw [mjO_z σ t]; simp
set_option maxHeartbeats 4000000 in
set_option maxRecDepth 100000 in
theorem c_X4_measure {l : Launch} {E : En} {K : Nat → Nat} {L : Nat → Nat → Bool} {ad : Nat → Nat} {I : Nat → Nat → Int32} {σ : Mem} (n : Nat) (hQ : IsQ K L) (hk : IsK K L 110) (hn : n ≤ 8) (hPK : PKI I σ 110 n) (hen : ∀ e, e < n → en σ e ≤ 4) (h0 : I 132 0 = nI 0) (h1 : I 133 0 = nI 0) : MV l E K L ad I yX4_measure cX4_measure 6 0 [.ref (ad 130), .ref (ad 110), .int (nI n)] (fun RJ => (∀ a, a ≠ 132 → a ≠ 133 → RJ a = I a) ∧ ∀ s, s < 2 ^ n → RJ 132 s = nI (szS σ s n) ∧ RJ 133 s = nI (mjO σ s n)) := by
  have hQ0 := hQ
  obtain ⟨q0, q1, q2, q3, q4, q5, q6⟩ := hQ
  have kk0 := hk
  obtain ⟨kk, hA⟩ := hk
  have a0 := (hA 0 (by decide)).1
  have c0 : K 111 = 108 := (hA 0 (by decide)).2
  have a1 := (hA 1 (by decide)).1
  have c1 : K 112 = 108 := (hA 1 (by decide)).2
  have a2 := (hA 2 (by decide)).1
  have c2 : K 113 = 108 := (hA 2 (by decide)).2
  have a3 := (hA 3 (by decide)).1
  have c3 : K 114 = 108 := (hA 3 (by decide)).2
  have a4 := (hA 4 (by decide)).1
  have c4 : K 115 = 108 := (hA 4 (by decide)).2
  have a5 := (hA 5 (by decide)).1
  have c5 : K 116 = 108 := (hA 5 (by decide)).2
  have a6 := (hA 6 (by decide)).1
  have c6 : K 117 = 108 := (hA 6 (by decide)).2
  have a7 := (hA 7 (by decide)).1
  have c7 : K 118 = 108 := (hA 7 (by decide)).2
  have a8 := (hA 8 (by decide)).1
  have c8 : K 119 = 108 := (hA 8 (by decide)).2
  have a9 := (hA 9 (by decide)).1
  have c9 : K 120 = 108 := (hA 9 (by decide)).2
  refine MV.of (by decide) (Nat.le_of_ble_eq_true rfl) ?_
  intro p ee s m args below meth c ls Qf C hret hP hl
  have C : Cx E p s m args c cX4_measure RX4 6 := C
  have hx := C.1
  have hb := C.2.1
  have hS : va_S (AG E) s.heap s.heap [] := va_S.rf
  have hl : lv_has ls 6 [(0, .ref (ad 130)), (1, .ref (ad 110)), (2, .int (nI n))] := hl
  refine lv_iconst (v := nI 0) hx hb dX4_measure_0 (by decide) ?_
  refine lv_istore_n (lv' := [(3, .int (nI 0)), (0, .ref (ad 130)), (1, .ref (ad 110)), (2, .int (nI n))]) hx hb dX4_measure_1 rfl hl (by decide) rfl (fun ls hl => ?_)
  have hL2_1 : ∀ (d : Nat) (t : Nat) (J : Mem) (H : Heap) (locs : List Loc) (ls : Array Slot), n < t + d → (t ≤ n) → ((∀ a, a ≠ 132 → a ≠ 133 → J a = I a) ∧ ∀ s, s < 2 ^ t → J 132 s = nI (szS σ s t) ∧ J 133 s = nI (mjO σ s t)) → Hp E K L ad J H → va_S (AG E) s.heap H locs → lv_has ls 6 [(0, .ref (ad 130)), (1, .ref (ad 110)), (2, .int (nI n)), (3, .int (nI t))] → W p l ee (rmk 0) s m args below meth c H locs 0 0 Qf (F0 m 2 ls []) := by
    intro d2
    induction d2 with
    | zero => intro t J H locs ls hd2 ht hc _ _ _; exact absurd hd2 (by omega)
    | succ d2 ih2 =>
      intro t J H locs ls hd2 ht hc hP hS hl
      refine lv_iload_n hx hb dX4_measure_2 rfl (lv_at hl 3 rfl) ?_
      refine lv_iload_n hx hb dX4_measure_3 rfl (lv_at hl 2 rfl) ?_
      refine b_geN C (by omega) (by omega) dX4_measure_4 (tgt := 82) (by decide) (fun h2 => ?_) (fun h2 => ?_)
      · exact hret _ _ _ _ _ dX4_measure_82 hP hS (by rw [show t = n by omega] at hc; exact hc)
      · obtain ⟨tp, htp, htp1, htp2⟩ : ∃ tp : Nat, tp = 2 ^ t ∧ 1 ≤ tp ∧ tp ≤ 128 := ⟨_, rfl, Nat.one_le_two_pow, (Nat.pow_le_pow_right (by decide) (by omega) : 2 ^ t ≤ 2 ^ 7)⟩
        rw [← htp] at hc
        refine lv_iconst (v := nI 1) hx hb dX4_measure_7 (by decide) ?_
        refine lv_iload_n hx hb dX4_measure_8 rfl (lv_at hl 3 rfl) ?_
        refine lv_ishl hx hb dX4_measure_9 ?_
        refine lv_topi (fun x3 ex3 => ?_)
        refine r_eqi (y := nI (tp + 0)) (by rw [ex3, htp]; exact sb_nat t (by omega)) ?_
        refine lv_istore (lv' := [(4, .int (nI (tp + 0))), (0, .ref (ad 130)), (1, .ref (ad 110)), (2, .int (nI n)), (3, .int (nI t))]) hx hb dX4_measure_10 hl (by decide) rfl (fun ls hl => ?_)
        have hL12_4 : ∀ (d : Nat) (r : Nat) (Z : Mem) (H : Heap) (locs : List Loc) (ls : Array Slot), tp < r + d → (r ≤ tp) → ((∀ a, a ≠ 132 → a ≠ 133 → Z a = I a) ∧ (∀ s, s < tp → Z 132 s = nI (szS σ s t) ∧ Z 133 s = nI (mjO σ s t)) ∧ ∀ s, s < r → Z 132 (tp + s) = nI (szS σ (tp + s) (t + 1)) ∧ Z 133 (tp + s) = nI (mjO σ (tp + s) (t + 1))) → Hp E K L ad Z H → va_S (AG E) s.heap H locs → lv_has ls 6 [(0, .ref (ad 130)), (1, .ref (ad 110)), (2, .int (nI n)), (3, .int (nI t)), (4, .int (nI (tp + r)))] → W p l ee (rmk 0) s m args below meth c H locs 0 0 Qf (F0 m 12 ls []) := by
          intro d12
          induction d12 with
          | zero => intro r Z H locs ls hd12 hr hz _ _ _; exact absurd hd12 (by omega)
          | succ d12 ih12 =>
            intro r Z H locs ls hd12 hr hz hP hS hl
            refine lv_iload hx hb dX4_measure_12 (lv_at hl 4 rfl) ?_
            refine lv_iconst (v := nI 2) hx hb dX4_measure_14 (by decide) ?_
            refine lv_iload_n hx hb dX4_measure_15 rfl (lv_at hl 3 rfl) ?_
            refine lv_ishl hx hb dX4_measure_16 ?_
            refine lv_topi (fun x5 ex5 => ?_)
            refine r_eqi (y := nI (2 * tp)) (by rw [ex5, htp]; exact sh2 t (by omega)) ?_
            refine b_geN C (by omega) (by omega) dX4_measure_17 (tgt := 76) (by decide) (fun h6 => ?_) (fun h6 => ?_)
            · refine lv_iinc (v := nI (t + 1)) (lv' := [(3, .int (nI (t + 1))), (0, .ref (ad 130)), (1, .ref (ad 110)), (2, .int (nI n)), (4, .int (nI (tp + r)))]) hx hb dX4_measure_76 hl (k := 3) rfl (nI_1 _) (by decide) rfl (fun ls hl => ?_)
              refine lv_goto (tgt := 2) hx hb dX4_measure_79 (by decide) ?_
              exact ih2  (t + 1) Z _ _ _ (by omega) (by omega) (⟨hz.1, fun s hs => by
                          rw [Nat.pow_succ, ← htp] at hs
                          by_cases g : s < tp
                          · rw [szS_lo (by omega), mjO_lo (by omega)]; exact hz.2.1 s g
                          · have := hz.2.2 (s - tp) (by omega)
                            rw [show tp + (s - tp) = s by omega] at this; exact this⟩) hP hS (lv_sub hl [1, 2, 3, 0] rfl)
            · refine lv_iload hx hb dX4_measure_20 (lv_at hl 4 rfl) ?_
              refine lv_iconst (v := nI 1) hx hb dX4_measure_22 (by decide) ?_
              refine lv_iload_n hx hb dX4_measure_23 rfl (lv_at hl 3 rfl) ?_
              refine lv_ishl hx hb dX4_measure_24 ?_
              refine lv_topi (fun x7 ex7 => ?_)
              refine lv_ixor hx hb dX4_measure_25 ?_
              refine lv_topi (fun x8 ex8 => ?_)
              refine r_eqi (y := nI r) (by rw [ex8, ex7, show nI 1 <<< (nI t &&& 31) = nI (2 ^ t) from sb_nat t (by omega), nI_xor, htp, xor_top (by omega)]) ?_
              have hsz := szS_le (σ := σ) (S := r) (t := t) (fun e h => hen e (by omega))
              refine lv_istore (lv' := [(5, .int (nI r)), (0, .ref (ad 130)), (1, .ref (ad 110)), (2, .int (nI n)), (3, .int (nI t)), (4, .int (nI (tp + r)))]) hx hb dX4_measure_26 hl (by decide) rfl (fun ls hl => ?_)
              refine lv_aload_n hx hb dX4_measure_28 rfl (lv_at hl 1 rfl) ?_
              refine f_X4_15 (q := 132) C hP (by assumption) (by assumption) rfl dX4_measure_29 ?_
              refine lv_iload hx hb dX4_measure_32 (lv_at hl 5 rfl) ?_
              refine lv_aload_n hx hb dX4_measure_34 rfl (lv_at hl 1 rfl) ?_
              refine f_X4_15 (q := 132) C hP (by assumption) (by assumption) rfl dX4_measure_35 ?_
              refine lv_iload hx hb dX4_measure_38 (lv_at hl 0 rfl) ?_
              refine r_iald (n := 256) C hP (by assumption) (by omega) (by decide) dX4_measure_40 ?_
              refine r_eqi (y := (nI (szS σ r t))) ((hz.2.1 r (by omega)).1) ?_
              refine lv_aload_n hx hb dX4_measure_41 rfl (lv_at hl 2 rfl) ?_
              refine f_X4_48 (q := 114) C hP (by assumption) (by assumption) rfl dX4_measure_42 ?_
              refine lv_iload_n hx hb dX4_measure_45 rfl (lv_at hl 4 rfl) ?_
              refine r_iald (n := 8) C hP (by assumption) (by omega) (by decide) dX4_measure_46 ?_
              refine r_eqi (y := (nI (en σ t + 1))) (by rw [hz.1 114 (by decide) (by decide)]; exact (hPK t (by omega)).2.2.2.1) ?_
              refine r_addN C dX4_measure_47 ?_
              refine r_iast (n := 256) C hP hS (by assumption) (by omega) (by decide) dX4_measure_48 (fun H locs hP hS => ?_)
              obtain ⟨I9, eI9⟩ : ∃ Znew : Nat → Nat → Int32, Znew = up2 Z 132 (tp + r) (nI ((szS σ r t) + (en σ t + 1))) := ⟨_, rfl⟩
              rw [← eI9] at hP
              refine lv_aload_n hx hb dX4_measure_49 rfl (lv_at hl 1 rfl) ?_
              refine f_X4_18 (q := 133) C hP (by assumption) (by assumption) rfl dX4_measure_50 ?_
              refine lv_iload hx hb dX4_measure_53 (lv_at hl 5 rfl) ?_
              refine lv_aload_n hx hb dX4_measure_55 rfl (lv_at hl 1 rfl) ?_
              refine f_X4_18 (q := 133) C hP (by assumption) (by assumption) rfl dX4_measure_56 ?_
              refine lv_iload hx hb dX4_measure_59 (lv_at hl 0 rfl) ?_
              refine r_iald (n := 256) C hP (by assumption) (by omega) (by decide) dX4_measure_61 ?_
              refine r_eqi (y := (nI (mjO σ r t))) (by rw [eI9, up2_r (by decide)]; exact ((hz.2.1 r (by omega)).2)) ?_
              refine lv_aload_n hx hb dX4_measure_62 rfl (lv_at hl 2 rfl) ?_
              refine f_X4_51 (q := 116) C hP (by assumption) (by assumption) rfl dX4_measure_63 ?_
              refine lv_iload_n hx hb dX4_measure_66 rfl (lv_at hl 4 rfl) ?_
              refine r_iald (n := 8) C hP (by assumption) (by omega) (by decide) dX4_measure_67 ?_
              refine r_eqi (y := (nI (mjS σ t))) (by rw [eI9, up2_r (by decide)]; exact (by rw [hz.1 116 (by decide) (by decide)]; exact (hPK t (by omega)).2.2.2.2.2.1)) ?_
              refine lv_ior hx hb dX4_measure_68 ?_
              refine lv_topi (fun x10 ex10 => ?_)
              refine r_eqi (y := nI (mjO σ r t ||| mjS σ t)) (by rw [ex10]; exact nI_or _ _) ?_
              refine r_iast (n := 256) C hP hS (by assumption) (by omega) (by decide) dX4_measure_69 (fun H locs hP hS => ?_)
              obtain ⟨I11, eI11⟩ : ∃ Znew : Nat → Nat → Int32, Znew = up2 I9 133 (tp + r) (nI (mjO σ r t ||| mjS σ t)) := ⟨_, rfl⟩
              rw [← eI11] at hP
              refine lv_iinc (v := nI (tp + r + 1)) (lv' := [(4, .int (nI (tp + r + 1))), (5, .int (nI r)), (0, .ref (ad 130)), (1, .ref (ad 110)), (2, .int (nI n)), (3, .int (nI t))]) hx hb dX4_measure_70 hl (k := 5) rfl (nI_1 _) (by decide) rfl (fun ls hl => ?_)
              refine lv_goto (tgt := 12) hx hb dX4_measure_73 (by decide) ?_
              exact ih12  (r + 1) I11 _ _ _ (by omega) (by omega) (by
                          rw [eI11, eI9]
                          exact ⟨fun a g1 g2 => by rw [up2_r g2, up2_r g1]; exact hz.1 a g1 g2, fun s hs => by rw [up2_r (by decide), up2_k (by omega), up2_k (by omega), up2_r (by decide)]; exact hz.2.1 s hs, fun s hs => if g : s = r then by subst g; rw [up2_r (by decide), up2_s, up2_s, htp, szS_hi (by omega), mjO_hi (by omega)]; exact ⟨rfl, rfl⟩ else by rw [up2_r (by decide), up2_k (by omega), up2_k (by omega), up2_r (by decide)]; exact hz.2.2 s (by omega)⟩) hP hS (lv_sub hl [2, 3, 4, 5, 0] rfl)
        exact hL12_4 (tp + 1) 0 J _ _ _ (by omega) (by omega) (⟨hc.1, hc.2, lt_0⟩) hP hS (lv_sub hl [1, 2, 3, 4, 0] rfl)
  exact hL2_1 (n + 1) 0 I _ _ _ (by omega) (by omega) (⟨fun _ _ _ => rfl, fun s hs => by rw [show s = 0 by omega]; exact ⟨h0, h1⟩⟩) hP hS (lv_sub hl [1, 2, 3, 0] rfl)
set_option maxHeartbeats 4000000 in
set_option maxRecDepth 100000 in
theorem c_X4_ready {l : Launch} {E : En} {K : Nat → Nat} {L : Nat → Nat → Bool} {ad : Nat → Nat} {I : Nat → Nat → Int32} {σ : Mem} (B n : Nat) (hQ : IsQ K L) (hk : IsK K L 110) (hn : n ≤ 8) (hB : B < 256) (hPK : PKI I σ 110 n) : MI l E K L ad I yX4_ready cX4_ready 6 (some .int) 0 [.ref (ad 130), .int (nI B), .ref (ad 110), .int (nI n)] (fun rv RJ => RJ = I ∧ rv = nI (sN (rdF σ B) n)) := by
  have hQ0 := hQ
  obtain ⟨q0, q1, q2, q3, q4, q5, q6⟩ := hQ
  have kk0 := hk
  obtain ⟨kk, hA⟩ := hk
  have a0 := (hA 0 (by decide)).1
  have c0 : K 111 = 108 := (hA 0 (by decide)).2
  have a1 := (hA 1 (by decide)).1
  have c1 : K 112 = 108 := (hA 1 (by decide)).2
  have a2 := (hA 2 (by decide)).1
  have c2 : K 113 = 108 := (hA 2 (by decide)).2
  have a3 := (hA 3 (by decide)).1
  have c3 : K 114 = 108 := (hA 3 (by decide)).2
  have a4 := (hA 4 (by decide)).1
  have c4 : K 115 = 108 := (hA 4 (by decide)).2
  have a5 := (hA 5 (by decide)).1
  have c5 : K 116 = 108 := (hA 5 (by decide)).2
  have a6 := (hA 6 (by decide)).1
  have c6 : K 117 = 108 := (hA 6 (by decide)).2
  have a7 := (hA 7 (by decide)).1
  have c7 : K 118 = 108 := (hA 7 (by decide)).2
  have a8 := (hA 8 (by decide)).1
  have c8 : K 119 = 108 := (hA 8 (by decide)).2
  have a9 := (hA 9 (by decide)).1
  have c9 : K 120 = 108 := (hA 9 (by decide)).2
  refine MI.of (by decide) (Nat.le_of_ble_eq_true rfl) ?_
  intro p ee s m args below meth c ls Qf C hret hP hl
  have C : Cx E p s m args c cX4_ready RX4 6 := C
  have hx := C.1
  have hb := C.2.1
  have hS : va_S (AG E) s.heap s.heap [] := va_S.rf
  have hl : lv_has ls 6 [(0, .ref (ad 130)), (1, .int (nI B)), (2, .ref (ad 110)), (3, .int (nI n))] := hl
  refine lv_iconst (v := nI 0) hx hb dX4_ready_0 (by decide) ?_
  refine lv_istore (lv' := [(4, .int (nI 0)), (0, .ref (ad 130)), (1, .int (nI B)), (2, .ref (ad 110)), (3, .int (nI n))]) hx hb dX4_ready_1 hl (by decide) rfl (fun ls hl => ?_)
  refine lv_iconst (v := nI 0) hx hb dX4_ready_3 (by decide) ?_
  refine lv_istore (lv' := [(5, .int (nI 0)), (4, .int (nI 0)), (0, .ref (ad 130)), (1, .int (nI B)), (2, .ref (ad 110)), (3, .int (nI n))]) hx hb dX4_ready_4 hl (by decide) rfl (fun ls hl => ?_)
  have hL6_1 : ∀ (d : Nat) (t : Nat) (a : Nat) (H : Heap) (locs : List Loc) (ls : Array Slot), n < t + d → (t ≤ n) → (a = sN (rdF σ B) t) → Hp E K L ad I H → va_S (AG E) s.heap H locs → lv_has ls 6 [(0, .ref (ad 130)), (1, .int (nI B)), (2, .ref (ad 110)), (3, .int (nI n)), (4, .int (nI a)), (5, .int (nI t))] → W p l ee (rmk 0) s m args below meth c H locs 0 0 Qf (F0 m 6 ls []) := by
    intro d6
    induction d6 with
    | zero => intro t a H locs ls hd6 ht ha _ _ _; exact absurd hd6 (by omega)
    | succ d6 ih6 =>
      intro t a H locs ls hd6 ht ha hP hS hl
      refine lv_iload hx hb dX4_ready_6 (lv_at hl 5 rfl) ?_
      refine lv_iload_n hx hb dX4_ready_8 rfl (lv_at hl 3 rfl) ?_
      refine b_geN C (by omega) (by omega) dX4_ready_9 (tgt := 50) (by decide) (fun h2 => ?_) (fun h2 => ?_)
      · refine lv_iload hx hb dX4_ready_50 (lv_at hl 4 rfl) ?_
        exact hret _ _ _ _ _ _ dX4_ready_52 hP hS (⟨rfl, by rw [ha, show t = n by omega]⟩)
      · refine lv_iload_n hx hb dX4_ready_12 rfl (lv_at hl 1 rfl) ?_
        refine lv_iconst (v := nI 1) hx hb dX4_ready_13 (by decide) ?_
        refine lv_iload hx hb dX4_ready_14 (lv_at hl 5 rfl) ?_
        refine lv_ishl hx hb dX4_ready_16 ?_
        refine lv_topi (fun x3 ex3 => ?_)
        refine lv_iand hx hb dX4_ready_17 ?_
        refine lv_topi (fun x4 ex4 => ?_)
        refine z_ne C dX4_ready_18 (tgt := 44) (by decide) (fun h5 => ?_) (fun h5 => ?_)
        · have hb1 : B.testBit t = true := by cases g : B.testBit t; exact absurd (by rw [ex4, ex3]; exact (and_sb (by omega)).mpr g) h5; rfl
          refine lv_iinc (v := nI (t + 1)) (lv' := [(5, .int (nI (t + 1))), (0, .ref (ad 130)), (1, .int (nI B)), (2, .ref (ad 110)), (3, .int (nI n)), (4, .int (nI a))]) hx hb dX4_ready_44 hl (k := 5) rfl (nI_1 _) (by decide) rfl (fun ls hl => ?_)
          refine lv_goto (tgt := 6) hx hb dX4_ready_47 (by decide) ?_
          exact ih6  (t + 1) a _ _ _ (by omega) (by omega) (by simp only [sN]; rw [if_neg (by simp [rdF, hb1])]; exact ha) hP hS (lv_sub hl [1, 2, 3, 4, 5, 0] rfl)
        · rw [ex4, ex3] at h5
          have hb1 : B.testBit t = false := (and_sb (by omega)).mp h5
          refine lv_aload_n hx hb dX4_ready_21 rfl (lv_at hl 2 rfl) ?_
          refine f_X4_52 (q := 115) C hP (by assumption) (by assumption) rfl dX4_ready_22 ?_
          refine lv_iload hx hb dX4_ready_25 (lv_at hl 5 rfl) ?_
          refine r_iald (n := 8) C hP (by assumption) (by omega) (by decide) dX4_ready_27 ?_
          refine r_eqi (y := (nI (mfS σ t))) ((hPK t (by omega)).2.2.2.2.1) ?_
          refine lv_iload_n hx hb dX4_ready_28 rfl (lv_at hl 1 rfl) ?_
          refine lv_iconst (v := (-1)) hx hb dX4_ready_29 (by decide) ?_
          refine lv_ixor hx hb dX4_ready_30 ?_
          refine lv_topi (fun x6 ex6 => ?_)
          refine lv_iand hx hb dX4_ready_31 ?_
          refine lv_topi (fun x7 ex7 => ?_)
          refine z_ne C dX4_ready_32 (tgt := 44) (by decide) (fun h8 => ?_) (fun h8 => ?_)
          · rw [ex7, ex6] at h8
            have hb2 : ¬ mfS σ t &&& B = mfS σ t := fun g => h8 ((and_m1 (mfS_lt (by omega)) hB).mpr g)
            refine lv_iinc (v := nI (t + 1)) (lv' := [(5, .int (nI (t + 1))), (0, .ref (ad 130)), (1, .int (nI B)), (2, .ref (ad 110)), (3, .int (nI n)), (4, .int (nI a))]) hx hb dX4_ready_44 hl (k := 5) rfl (nI_1 _) (by decide) rfl (fun ls hl => ?_)
            refine lv_goto (tgt := 6) hx hb dX4_ready_47 (by decide) ?_
            exact ih6  (t + 1) a _ _ _ (by omega) (by omega) (by simp only [sN]; rw [if_neg (by simp [rdF, hb2])]; exact ha) hP hS (lv_sub hl [1, 2, 3, 4, 5, 0] rfl)
          · rw [ex7, ex6] at h8
            have hb2 : mfS σ t &&& B = mfS σ t := (and_m1 (mfS_lt (by omega)) hB).mp h8
            refine lv_iload hx hb dX4_ready_35 (lv_at hl 4 rfl) ?_
            refine lv_iconst (v := nI 1) hx hb dX4_ready_37 (by decide) ?_
            refine lv_iload hx hb dX4_ready_38 (lv_at hl 5 rfl) ?_
            refine lv_ishl hx hb dX4_ready_40 ?_
            refine lv_topi (fun x9 ex9 => ?_)
            refine lv_ior hx hb dX4_ready_41 ?_
            refine lv_topi (fun x10 ex10 => ?_)
            refine r_eqi (y := nI (a + 2 ^ t)) (by rw [ex10, ex9]; exact or_sb (by rw [ha]; exact sN_lt _ _) (by omega)) ?_
            refine lv_istore (lv' := [(4, .int (nI (a + 2 ^ t))), (0, .ref (ad 130)), (1, .int (nI B)), (2, .ref (ad 110)), (3, .int (nI n)), (5, .int (nI t))]) hx hb dX4_ready_42 hl (by decide) rfl (fun ls hl => ?_)
            refine lv_iinc (v := nI (t + 1)) (lv' := [(5, .int (nI (t + 1))), (4, .int (nI (a + 2 ^ t))), (0, .ref (ad 130)), (1, .int (nI B)), (2, .ref (ad 110)), (3, .int (nI n))]) hx hb dX4_ready_44 hl (k := 5) rfl (nI_1 _) (by decide) rfl (fun ls hl => ?_)
            refine lv_goto (tgt := 6) hx hb dX4_ready_47 (by decide) ?_
            exact ih6  (t + 1) (a + 2 ^ t) _ _ _ (by omega) (by omega) (by simp only [sN]; rw [if_pos (by simp [rdF, hb1, hb2]), ha]) hP hS (lv_sub hl [2, 3, 4, 5, 1, 0] rfl)
  exact hL6_1 (n + 1) 0 0 _ _ _ (by omega) (by omega) (rfl) hP hS (lv_sub hl [2, 3, 4, 5, 1, 0] rfl)
set_option maxHeartbeats 4000000 in
set_option maxRecDepth 100000 in
theorem c_X4_addStage {l : Launch} {E : En} {K : Nat → Nat} {L : Nat → Nat → Bool} {ad : Nat → Nat} {I : Nat → Nat → Int32} {σ : Mem} {v0 : Nat → Option Nat} (B R m0 : Nat) (hQ : IsQ K L) (h203 : K 203 = 104) (hw : WF σ) (hR : R = sN (rdF σ B) (mn σ)) (hB : B < 2 ^ mn σ) (hv0 : v0 B = some m0) (hF : FWI σ v0 B) (h131 : ∀ i, i < 256 → I 131 i = nI (e9 (v0 i))) (h13 : ∀ s, s < 2 ^ mn σ → I 132 s = nI (szS σ s (mn σ)) ∧ I 133 s = nI (mjO σ s (mn σ))) (hru : ∀ i, i < 4 → I 203 i = σ 19 i) : MV l E K L ad I yX4_addStage cX4_addStage 6 1 [.ref (ad 130), .int (nI B), .int (nI R), .ref (ad 203)] (fun RJ => ∃ v1, FWI σ v1 (B + 1) ∧ (∀ a, a ≠ 131 → RJ a = I a) ∧ ∀ i, i < 256 → RJ 131 i = nI (e9 (v1 i))) := by
  have hQ0 := hQ
  obtain ⟨q0, q1, q2, q3, q4, q5, q6⟩ := hQ
  have hn8 := hw.2.1
  obtain ⟨hu, hu0, hu1, hu2, hu3⟩ := wf_ru hw
  have hp8 : (2 : Nat) ^ mn σ ≤ 256 := Nat.pow_le_pow_right (by decide) hn8
  have hRl : R < 2 ^ mn σ := by rw [hR]; exact sN_lt _ _
  refine MV.of (by decide) (Nat.le_of_ble_eq_true rfl) ?_
  intro p ee s m args below meth c ls Qf C hret hP hl
  have C : Cx E p s m args c cX4_addStage RX4 6 := C
  have hx := C.1
  have hb := C.2.1
  have hS : va_S (AG E) s.heap s.heap [] := va_S.rf
  have hl : lv_has ls 6 [(0, .ref (ad 130)), (1, .int (nI B)), (2, .int (nI R)), (3, .ref (ad 203))] := hl
  refine lv_iload_n hx hb dX4_addStage_0 rfl (lv_at hl 2 rfl) ?_
  refine lv_istore (lv' := [(4, .int (nI R)), (0, .ref (ad 130)), (1, .int (nI B)), (2, .int (nI R)), (3, .ref (ad 203))]) hx hb dX4_addStage_1 hl (by decide) rfl (fun ls hl => ?_)
  have hL3_1 : ∀ (d : Nat) (S : Nat) (vv : Nat → Option Nat) (J : Mem) (H : Heap) (locs : List Loc) (ls : Array Slot), R < (R - S) + d → (S &&& R = S) → ((∀ a, a ≠ 131 → J a = I a) ∧ (∀ i, i < 256 → J 131 i = nI (e9 (vv i))) ∧ FWJ σ vv B R S ∧ vv B = some m0) → Hp E K L ad J H → va_S (AG E) s.heap H locs → lv_has ls 6 [(0, .ref (ad 130)), (1, .int (nI B)), (2, .int (nI R)), (3, .ref (ad 203)), (4, .int (nI S))] → W p l ee (rmk 1) s m args below meth c H locs 0 0 Qf (F0 m 3 ls []) := by
    intro d3
    induction d3 with
    | zero => intro S vv J H locs ls hd3 hS1 hX _ _ _; exact absurd hd3 (by omega)
    | succ d3 ih3 =>
      intro S vv J H locs ls hd3 hS1 hX hP hS hl
      have hS2 : S ≤ R := by rw [← hS1]; exact Nat.and_le_right
      refine lv_iload hx hb dX4_addStage_3 (lv_at hl 4 rfl) ?_
      refine z_le C dX4_addStage_5 (tgt := 101) (by decide) (fun h2 => ?_) (fun h2 => ?_)
      · rw [nI_toInt (by omega)] at h2
        exact hret _ _ _ _ _ dX4_addStage_101 hP hS (⟨vv, FWJ_e hn8 (by rw [← hR]; have h00 : S = 0 := (by omega); rw [h00] at hX; exact hX.2.2.1), hX.1, hX.2.1⟩)
      · rw [nI_toInt (by omega)] at h2
        have hrd := hS1
        rw [hR] at hrd
        have hpop : popN S ≤ 8 := cn_le _ 8
        have hsz := szS_le (σ := σ) (S := S) (t := mn σ) (fun e h => (hw.2.2.1 e h).2.1)
        have hdis := (d_dis B (by omega) S (by omega)).2 (rd_dis hrd)
        have hBS : B + S < 2 ^ mn σ := by rw [← hdis]; exact Nat.or_lt_two_pow (by omega) (by omega)
        have hbm := hX.2.2.1.2.1 B m0 (by omega) hX.2.2.2
        have hbp : popN B ≤ 8 := cn_le _ 8
        have he9 : e9 (vv (B + S)) ≤ 99 := by
          cases g : vv (B + S) with
          | none => exact Nat.le_refl _
          | some k9 =>
            have g1 := hX.2.2.1.2.1 (B + S) k9 (by omega) g
            have g2 : popN (B + S) ≤ 8 := cn_le _ 8
            show k9 ≤ 99
            omega
        refine lv_iload hx hb dX4_addStage_8 (lv_at hl 4 rfl) ?_
        refine k_X4_55 C hP hS (c_J6_bitCount_0f7a4 (nI S)) ⟨Nat.le_of_ble_eq_true rfl, Nat.le_of_ble_eq_true rfl⟩ ⟨Nat.zero_le _, Nat.zero_le _⟩ hl.1 (Nat.le_of_ble_eq_true rfl) dX4_addStage_10 (fun v3 I4 H locs hv5 hP hS => ?_)
        obtain ⟨eI4, ev3⟩ := hv5
        rw [eI4] at hP
        clear eI4
        refine r_eqi (y := nI (popN S)) (ev3.trans (bcF_ok S (by omega))) ?_
        refine lv_aload_n hx hb dX4_addStage_13 rfl (lv_at hl 3 rfl) ?_
        refine lv_iconst (v := nI 1) hx hb dX4_addStage_14 (by decide) ?_
        refine r_iald (n := 4) C hP (by assumption) (by omega) (by decide) dX4_addStage_15 ?_
        refine r_eqi (y := (nI (ru σ 1))) (by rw [hX.1 203 (by decide), hru 1 (by decide)]; exact hu 1 (by decide)) ?_
        refine b_gtN C (by omega) (by omega) dX4_addStage_16 (tgt := 36) (by decide) (fun h6 => ?_) (fun h6 => ?_)
        · refine lv_iconst (v := nI 0) hx hb dX4_addStage_36 (by decide) ?_
          refine lv_istore (lv' := [(5, .int (nI 0)), (0, .ref (ad 130)), (1, .int (nI B)), (2, .int (nI R)), (3, .ref (ad 203)), (4, .int (nI S))]) hx hb dX4_addStage_37 hl (by decide) rfl (fun ls hl => ?_)
          refine lv_iload hx hb dX4_addStage_39 (lv_at hl 0 rfl) ?_
          refine r_eqi (y := 0) rfl ?_
          refine z_eq0 C dX4_addStage_41 (tgt := 90) (by decide) ?_
          refine lv_iload hx hb dX4_addStage_90 (lv_at hl 5 rfl) ?_
          refine lv_iconst (v := nI 1) hx hb dX4_addStage_92 (by decide) ?_
          refine r_subN C (by omega) dX4_addStage_93 ?_
          refine lv_iload_n hx hb dX4_addStage_94 rfl (lv_at hl 3 rfl) ?_
          refine lv_iand hx hb dX4_addStage_95 ?_
          refine lv_topi (fun x7 ex7 => ?_)
          refine r_eqi (y := nI ((S - 1) &&& R)) (by rw [ex7]; exact nI_and _ _) ?_
          have hnx : (S - 1) &&& R ≤ S - 1 := Nat.and_le_left
          refine lv_istore (lv' := [(4, .int (nI ((S - 1) &&& R))), (5, .int (nI 0)), (0, .ref (ad 130)), (1, .int (nI B)), (2, .int (nI R)), (3, .ref (ad 203))]) hx hb dX4_addStage_96 hl (by decide) rfl (fun ls hl => ?_)
          refine lv_goto (tgt := 3) hx hb dX4_addStage_98 (by decide) ?_
          exact ih3  ((S - 1) &&& R) vv J _ _ _ (by omega) (by rw [Nat.and_assoc, Nat.and_self]) (⟨hX.1, hX.2.1, FWJ_no hX.2.2.1 ⟨by omega, hS1⟩ (fun g => by have g2 := (okS_iff (by rw [hR] at hS1; exact hS1)).mp g; have := g2.1; omega), hX.2.2.2⟩) hP hS (lv_sub hl [2, 3, 4, 5, 0] rfl)
        · refine lv_aload_n hx hb dX4_addStage_19 rfl (lv_at hl 0 rfl) ?_
          refine f_X4_15 (q := 132) C hP (by assumption) (by assumption) rfl dX4_addStage_20 ?_
          refine lv_iload hx hb dX4_addStage_23 (lv_at hl 4 rfl) ?_
          refine r_iald (n := 256) C hP (by assumption) (by omega) (by decide) dX4_addStage_25 ?_
          refine r_eqi (y := (nI (szS σ S (mn σ)))) (by rw [hX.1 132 (by decide)]; exact (h13 S (by omega)).1) ?_
          refine lv_aload_n hx hb dX4_addStage_26 rfl (lv_at hl 3 rfl) ?_
          refine lv_iconst (v := nI 0) hx hb dX4_addStage_27 (by decide) ?_
          refine r_iald (n := 4) C hP (by assumption) (by omega) (by decide) dX4_addStage_28 ?_
          refine r_eqi (y := (nI (ru σ 0))) (by rw [hX.1 203 (by decide), hru 0 (by decide)]; exact hu 0 (by decide)) ?_
          refine b_gtN C (by omega) (by omega) dX4_addStage_29 (tgt := 36) (by decide) (fun h8 => ?_) (fun h8 => ?_)
          · refine lv_iconst (v := nI 0) hx hb dX4_addStage_36 (by decide) ?_
            refine lv_istore (lv' := [(5, .int (nI 0)), (0, .ref (ad 130)), (1, .int (nI B)), (2, .int (nI R)), (3, .ref (ad 203)), (4, .int (nI S))]) hx hb dX4_addStage_37 hl (by decide) rfl (fun ls hl => ?_)
            refine lv_iload hx hb dX4_addStage_39 (lv_at hl 0 rfl) ?_
            refine r_eqi (y := 0) rfl ?_
            refine z_eq0 C dX4_addStage_41 (tgt := 90) (by decide) ?_
            refine lv_iload hx hb dX4_addStage_90 (lv_at hl 5 rfl) ?_
            refine lv_iconst (v := nI 1) hx hb dX4_addStage_92 (by decide) ?_
            refine r_subN C (by omega) dX4_addStage_93 ?_
            refine lv_iload_n hx hb dX4_addStage_94 rfl (lv_at hl 3 rfl) ?_
            refine lv_iand hx hb dX4_addStage_95 ?_
            refine lv_topi (fun x9 ex9 => ?_)
            refine r_eqi (y := nI ((S - 1) &&& R)) (by rw [ex9]; exact nI_and _ _) ?_
            have hnx : (S - 1) &&& R ≤ S - 1 := Nat.and_le_left
            refine lv_istore (lv' := [(4, .int (nI ((S - 1) &&& R))), (5, .int (nI 0)), (0, .ref (ad 130)), (1, .int (nI B)), (2, .int (nI R)), (3, .ref (ad 203))]) hx hb dX4_addStage_96 hl (by decide) rfl (fun ls hl => ?_)
            refine lv_goto (tgt := 3) hx hb dX4_addStage_98 (by decide) ?_
            exact ih3  ((S - 1) &&& R) vv J _ _ _ (by omega) (by rw [Nat.and_assoc, Nat.and_self]) (⟨hX.1, hX.2.1, FWJ_no hX.2.2.1 ⟨by omega, hS1⟩ (fun g => by have g2 := (okS_iff (by rw [hR] at hS1; exact hS1)).mp g; have := g2.1; omega), hX.2.2.2⟩) hP hS (lv_sub hl [2, 3, 4, 5, 0] rfl)
          · refine lv_iconst (v := nI 1) hx hb dX4_addStage_32 (by decide) ?_
            refine lv_goto (tgt := 37) hx hb dX4_addStage_33 (by decide) ?_
            refine lv_istore (lv' := [(5, .int (nI 1)), (0, .ref (ad 130)), (1, .int (nI B)), (2, .int (nI R)), (3, .ref (ad 203)), (4, .int (nI S))]) hx hb dX4_addStage_37 hl (by decide) rfl (fun ls hl => ?_)
            refine lv_iload hx hb dX4_addStage_39 (lv_at hl 0 rfl) ?_
            refine r_eqi (y := 1) rfl ?_
            refine z_eq1 C dX4_addStage_41 (tgt := 90) (by decide) ?_
            refine lv_aload_n hx hb dX4_addStage_44 rfl (lv_at hl 1 rfl) ?_
            refine f_X4_18 (q := 133) C hP (by assumption) (by assumption) rfl dX4_addStage_45 ?_
            refine lv_iload hx hb dX4_addStage_48 (lv_at hl 5 rfl) ?_
            refine r_iald (n := 256) C hP (by assumption) (by omega) (by decide) dX4_addStage_50 ?_
            refine r_eqi (y := (nI (mjO σ S (mn σ)))) (by rw [hX.1 133 (by decide)]; exact (h13 S (by omega)).2) ?_
            refine lv_iload_n hx hb dX4_addStage_51 rfl (lv_at hl 2 rfl) ?_
            refine lv_iload hx hb dX4_addStage_52 (lv_at hl 5 rfl) ?_
            refine lv_ior hx hb dX4_addStage_54 ?_
            refine lv_topi (fun x10 ex10 => ?_)
            refine lv_iconst (v := (-1)) hx hb dX4_addStage_55 (by decide) ?_
            refine lv_ixor hx hb dX4_addStage_56 ?_
            refine lv_topi (fun x11 ex11 => ?_)
            refine lv_iand hx hb dX4_addStage_57 ?_
            refine lv_topi (fun x12 ex12 => ?_)
            refine z_ne C dX4_addStage_58 (tgt := 90) (by decide) (fun h13 => ?_) (fun h13 => ?_)
            · rw [ex12, ex11, ex10, nI_or] at h13
              have hmj : ¬ mjO σ S (mn σ) &&& (B ||| S) = mjO σ S (mn σ) := fun g => h13 ((and_m1 (mjO_lt hn8) (or_lt (by omega) (by omega))).mpr g)
              refine lv_iload hx hb dX4_addStage_90 (lv_at hl 5 rfl) ?_
              refine lv_iconst (v := nI 1) hx hb dX4_addStage_92 (by decide) ?_
              refine r_subN C (by omega) dX4_addStage_93 ?_
              refine lv_iload_n hx hb dX4_addStage_94 rfl (lv_at hl 3 rfl) ?_
              refine lv_iand hx hb dX4_addStage_95 ?_
              refine lv_topi (fun x14 ex14 => ?_)
              refine r_eqi (y := nI ((S - 1) &&& R)) (by rw [ex14]; exact nI_and _ _) ?_
              have hnx : (S - 1) &&& R ≤ S - 1 := Nat.and_le_left
              refine lv_istore (lv' := [(4, .int (nI ((S - 1) &&& R))), (5, .int (nI 1)), (0, .ref (ad 130)), (1, .int (nI B)), (2, .int (nI R)), (3, .ref (ad 203))]) hx hb dX4_addStage_96 hl (by decide) rfl (fun ls hl => ?_)
              refine lv_goto (tgt := 3) hx hb dX4_addStage_98 (by decide) ?_
              exact ih3  ((S - 1) &&& R) vv J _ _ _ (by omega) (by rw [Nat.and_assoc, Nat.and_self]) (⟨hX.1, hX.2.1, FWJ_no hX.2.2.1 ⟨by omega, hS1⟩ (fun g => by have g2 := (okS_iff (by rw [hR] at hS1; exact hS1)).mp g; exact hmj g2.2), hX.2.2.2⟩) hP hS (lv_sub hl [2, 3, 4, 5, 0] rfl)
            · rw [ex12, ex11, ex10, nI_or] at h13
              have hmj : mjO σ S (mn σ) &&& (B ||| S) = mjO σ S (mn σ) := (and_m1 (mjO_lt hn8) (or_lt (by omega) (by omega))).mp h13
              refine lv_aload_n hx hb dX4_addStage_61 rfl (lv_at hl 1 rfl) ?_
              refine f_X4_9 (q := 131) C hP (by assumption) (by assumption) rfl dX4_addStage_62 ?_
              refine lv_iload_n hx hb dX4_addStage_65 rfl (lv_at hl 2 rfl) ?_
              refine lv_iload hx hb dX4_addStage_66 (lv_at hl 5 rfl) ?_
              refine lv_ior hx hb dX4_addStage_68 ?_
              refine lv_topi (fun x15 ex15 => ?_)
              refine r_eqi (y := nI (B + S)) (by rw [ex15, nI_or, hdis]) ?_
              refine lv_aload_n hx hb dX4_addStage_69 rfl (lv_at hl 1 rfl) ?_
              refine f_X4_9 (q := 131) C hP (by assumption) (by assumption) rfl dX4_addStage_70 ?_
              refine lv_iload_n hx hb dX4_addStage_73 rfl (lv_at hl 2 rfl) ?_
              refine lv_iload hx hb dX4_addStage_74 (lv_at hl 5 rfl) ?_
              refine lv_ior hx hb dX4_addStage_76 ?_
              refine lv_topi (fun x16 ex16 => ?_)
              refine r_eqi (y := nI (B + S)) (by rw [ex16, nI_or, hdis]) ?_
              refine r_iald (n := 256) C hP (by assumption) (by omega) (by decide) dX4_addStage_77 ?_
              refine r_eqi (y := (nI (e9 (vv (B + S))))) (hX.2.1 _ (by omega)) ?_
              refine lv_aload_n hx hb dX4_addStage_78 rfl (lv_at hl 1 rfl) ?_
              refine f_X4_9 (q := 131) C hP (by assumption) (by assumption) rfl dX4_addStage_79 ?_
              refine lv_iload_n hx hb dX4_addStage_82 rfl (lv_at hl 2 rfl) ?_
              refine r_iald (n := 256) C hP (by assumption) (by omega) (by decide) dX4_addStage_83 ?_
              refine r_eqi (y := (nI m0)) (by rw [hX.2.1 B (by omega), hX.2.2.2]; rfl) ?_
              refine lv_iconst (v := nI 1) hx hb dX4_addStage_84 (by decide) ?_
              refine r_addN C dX4_addStage_85 ?_
              refine r_mmin C tm_X4_61 (Nat.le_of_ble_eq_true rfl) (Nat.le_of_ble_eq_true rfl) ⟨Nat.zero_le _, Nat.zero_le _⟩ hl.1 dX4_addStage_86 ?_
              refine r_eqi (y := nI (min (e9 (vv (B + S))) (m0 + 1))) (mminN (by omega) (by omega)) ?_
              refine r_iast (n := 256) C hP hS (by assumption) (by omega) (by decide) dX4_addStage_89 (fun H locs hP hS => ?_)
              obtain ⟨I17, eI17⟩ : ∃ Znew : Nat → Nat → Int32, Znew = up2 J 131 (B + S) (nI (min (e9 (vv (B + S))) (m0 + 1))) := ⟨_, rfl⟩
              rw [← eI17] at hP
              refine lv_iload hx hb dX4_addStage_90 (lv_at hl 5 rfl) ?_
              refine lv_iconst (v := nI 1) hx hb dX4_addStage_92 (by decide) ?_
              refine r_subN C (by omega) dX4_addStage_93 ?_
              refine lv_iload_n hx hb dX4_addStage_94 rfl (lv_at hl 3 rfl) ?_
              refine lv_iand hx hb dX4_addStage_95 ?_
              refine lv_topi (fun x18 ex18 => ?_)
              refine r_eqi (y := nI ((S - 1) &&& R)) (by rw [ex18]; exact nI_and _ _) ?_
              have hnx : (S - 1) &&& R ≤ S - 1 := Nat.and_le_left
              refine lv_istore (lv' := [(4, .int (nI ((S - 1) &&& R))), (5, .int (nI 1)), (0, .ref (ad 130)), (1, .int (nI B)), (2, .int (nI R)), (3, .ref (ad 203))]) hx hb dX4_addStage_96 hl (by decide) rfl (fun ls hl => ?_)
              refine lv_goto (tgt := 3) hx hb dX4_addStage_98 (by decide) ?_
              exact ih3  ((S - 1) &&& R) ((fun i => if i = B + S then some (min (e9 (vv (B + S))) (m0 + 1)) else vv i)) I17 _ _ _ (by omega) (by rw [Nat.and_assoc, Nat.and_self]) (by
                          have hyes := FWJ_yes (m := m0) hn8 (by omega) (by rw [← hR]; exact hX.2.2.1) (by rw [← hR]; exact ⟨by omega, hS1⟩) (by rw [hR] at hS1; exact (okS_iff hS1).mpr ⟨⟨by omega, by omega⟩, hmj⟩) hX.2.2.2
                          rw [← hR] at hyes
                          rw [eI17]
                          exact ⟨fun a g => by rw [up2_r g]; exact hX.1 a g, fun i hi => by by_cases g : i = B + S; (rw [g, up2_s, if_pos rfl]; rfl); (rw [up2_k g, if_neg g]; exact hX.2.1 i hi), hyes, by rw [if_neg (by omega)]; exact hX.2.2.2⟩) hP hS (lv_sub hl [2, 3, 4, 5, 0] rfl)
  exact hL3_1 (R + 1) R v0 I _ _ _ (by omega) (Nat.and_self _) (⟨fun _ _ => rfl, h131, FWJ_0 hF, hv0⟩) hP hS (lv_sub hl [1, 2, 3, 4, 0] rfl)
set_option maxHeartbeats 4000000 in
set_option maxRecDepth 100000 in
theorem c_X4_fewestStages {l : Launch} {E : En} {K : Nat → Nat} {L : Nat → Nat → Bool} {ad : Nat → Nat} {I : Nat → Nat → Int32} {σ : Mem} (hQ : IsQ K L) (hk : IsK K L 110) (hp : IsP K L 200) (hR : PR 200 I σ) (hw : WF σ) (hPK : PKI I σ 110 (mn σ)) (h0 : I 132 0 = nI 0) (h1 : I 133 0 = nI 0) : MI l E K L ad I yX4_fewestStages cX4_fewestStages 5 (some .int) 2 [.ref (ad 130), .ref (ad 110), .ref (ad 200)] (fun rv RJ => sFew σ rv ∧ (∀ a, a ≠ 131 → a ≠ 132 → a ≠ 133 → RJ a = I a) ∧ RJ 132 0 = nI 0 ∧ RJ 133 0 = nI 0) := by
  have hQ0 := hQ
  obtain ⟨q0, q1, q2, q3, q4, q5, q6⟩ := hQ
  have kk0 := hk
  obtain ⟨kk, hA⟩ := hk
  have a0 := (hA 0 (by decide)).1
  have c0 : K 111 = 108 := (hA 0 (by decide)).2
  have a1 := (hA 1 (by decide)).1
  have c1 : K 112 = 108 := (hA 1 (by decide)).2
  have a2 := (hA 2 (by decide)).1
  have c2 : K 113 = 108 := (hA 2 (by decide)).2
  have a3 := (hA 3 (by decide)).1
  have c3 : K 114 = 108 := (hA 3 (by decide)).2
  have a4 := (hA 4 (by decide)).1
  have c4 : K 115 = 108 := (hA 4 (by decide)).2
  have a5 := (hA 5 (by decide)).1
  have c5 : K 116 = 108 := (hA 5 (by decide)).2
  have a6 := (hA 6 (by decide)).1
  have c6 : K 117 = 108 := (hA 6 (by decide)).2
  have a7 := (hA 7 (by decide)).1
  have c7 : K 118 = 108 := (hA 7 (by decide)).2
  have a8 := (hA 8 (by decide)).1
  have c8 : K 119 = 108 := (hA 8 (by decide)).2
  have a9 := (hA 9 (by decide)).1
  have c9 : K 120 = 108 := (hA 9 (by decide)).2
  have hp0 := hp
  obtain ⟨pp0, ⟨pp1, pp2, pp3, pp4⟩, pp5, hLb, pp6, pp7, pp8, hTT⟩ := hp
  have hn8 := hw.2.1
  obtain ⟨al, hal, hal1, hal2⟩ : ∃ al : Nat, al = 2 ^ mn σ ∧ 1 ≤ al ∧ al ≤ 256 := ⟨_, rfl, Nat.one_le_two_pow, Nat.pow_le_pow_right (by decide) hn8⟩
  have h200 : I 200 0 = nI (mn σ) := hR.1.trans hw.1
  refine MI.of (by decide) (Nat.le_of_ble_eq_true rfl) ?_
  intro p ee s m args below meth c ls Qf C hret hP hl
  have C : Cx E p s m args c cX4_fewestStages RX4 5 := C
  have hx := C.1
  have hb := C.2.1
  have hS : va_S (AG E) s.heap s.heap [] := va_S.rf
  have hl : lv_has ls 5 [(0, .ref (ad 130)), (1, .ref (ad 110)), (2, .ref (ad 200))] := hl
  refine lv_iconst (v := nI 1) hx hb dX4_fewestStages_0 (by decide) ?_
  refine lv_aload_n hx hb dX4_fewestStages_1 rfl (lv_at hl 2 rfl) ?_
  refine f_X4_21 C hP (by first | assumption | exact hKa _ (by omega)) dX4_fewestStages_2 ?_
  refine r_eqi (y := (nI (mn σ))) (h200) ?_
  refine lv_ishl hx hb dX4_fewestStages_5 ?_
  refine lv_topi (fun x1 ex1 => ?_)
  refine lv_iconst (v := nI 1) hx hb dX4_fewestStages_6 (by decide) ?_
  refine lv_isub hx hb dX4_fewestStages_7 ?_
  refine lv_topi (fun x2 ex2 => ?_)
  refine r_eqi (y := nI (al - 1)) (by rw [ex2, ex1, show nI 1 <<< (nI (mn σ) &&& 31) = nI (2 ^ mn σ) from sb_nat (mn σ) (by omega), ← hal]; exact pk_sub (by omega)) ?_
  refine lv_istore_n (lv' := [(3, .int (nI (al - 1))), (0, .ref (ad 130)), (1, .ref (ad 110)), (2, .ref (ad 200))]) hx hb dX4_fewestStages_8 rfl hl (by decide) rfl (fun ls hl => ?_)
  refine lv_aload_n hx hb dX4_fewestStages_9 rfl (lv_at hl 1 rfl) ?_
  refine lv_aload_n hx hb dX4_fewestStages_10 rfl (lv_at hl 2 rfl) ?_
  refine lv_aload_n hx hb dX4_fewestStages_11 rfl (lv_at hl 3 rfl) ?_
  refine f_X4_21 C hP (by first | assumption | exact hKa _ (by omega)) dX4_fewestStages_12 ?_
  refine r_eqi (y := (nI (mn σ))) (h200) ?_
  refine k_X4_27 C hP hS (by assumption) (c_X4_measure (σ := σ) (mn σ) hQ0 kk0 hn8 hPK (fun e h => (hw.2.2.1 e h).2.1) h0 h1) ⟨Nat.le_of_ble_eq_true rfl, Nat.le_of_ble_eq_true rfl⟩ ⟨Nat.zero_le _, Nat.zero_le _⟩ hl.1 (Nat.le_of_ble_eq_true rfl) dX4_fewestStages_15 (fun I4 H locs hv5 hP hS => ?_)
  have eI4 := hv5
  have hm1 := eI4
  refine lv_aload_n hx hb dX4_fewestStages_18 rfl (lv_at hl 1 rfl) ?_
  refine f_X4_9 (q := 131) C hP (by assumption) (by assumption) rfl dX4_fewestStages_19 ?_
  refine lv_bipush (v := nI 99) hx hb dX4_fewestStages_22 (by decide) ?_
  refine k_X4_31 C hP hS (c_J7_fill_53178 131 256 (nI 99) (by assumption) (by decide)) ⟨Nat.le_of_ble_eq_true rfl, Nat.le_of_ble_eq_true rfl⟩ ⟨Nat.zero_le _, Nat.zero_le _⟩ hl.1 (Nat.le_of_ble_eq_true rfl) dX4_fewestStages_24 (fun I7 H locs hv8 hP hS => ?_)
  have eI7 := hv8
  have hf1 := eI7
  refine lv_aload_n hx hb dX4_fewestStages_27 rfl (lv_at hl 1 rfl) ?_
  refine f_X4_9 (q := 131) C hP (by assumption) (by assumption) rfl dX4_fewestStages_28 ?_
  refine lv_iconst (v := nI 0) hx hb dX4_fewestStages_31 (by decide) ?_
  refine lv_iconst (v := nI 0) hx hb dX4_fewestStages_32 (by decide) ?_
  refine r_iast (n := 256) C hP hS (by assumption) (by omega) (by decide) dX4_fewestStages_33 (fun H locs hP hS => ?_)
  obtain ⟨I9, eI9⟩ : ∃ Znew : Nat → Nat → Int32, Znew = up2 I7 131 0 (nI 0) := ⟨_, rfl⟩
  rw [← eI9] at hP
  refine lv_iconst (v := nI 0) hx hb dX4_fewestStages_34 (by decide) ?_
  refine lv_istore (lv' := [(4, .int (nI 0)), (3, .int (nI (al - 1))), (0, .ref (ad 130)), (1, .ref (ad 110)), (2, .ref (ad 200))]) hx hb dX4_fewestStages_35 hl (by decide) rfl (fun ls hl => ?_)
  have hst : ((∀ a, a ≠ 131 → a ≠ 132 → a ≠ 133 → I9 a = I a) ∧ (∀ s, s < al → I9 132 s = nI (szS σ s (mn σ)) ∧ I9 133 s = nI (mjO σ s (mn σ))) ∧ (∀ i, i < 256 → I9 131 i = nI (e9 (((fun i => if i = 0 then some 0 else none : Nat → Option Nat)) i)))) ∧ FWI σ (fun i => if i = 0 then some 0 else none) 0 := by
    rw [eI9]
    refine ⟨⟨fun a g1 g2 g3 => by rw [up2_r g1, hf1.1 a g1]; exact hm1.1 a g2 g3, fun s hs => by rw [up2_r (by decide), up2_r (by decide), hf1.1 132 (by decide), hf1.1 133 (by decide)]; exact hm1.2 s (by rw [← hal]; exact hs), fun i hi => ?_⟩, FWI_start⟩
    by_cases g : i = 0
    · rw [g, up2_s]; rfl
    · rw [up2_k g]; dsimp only; rw [if_neg g]; exact hf1.2 i hi
  have hL37_10 : ∀ (d : Nat) (B : Nat) (vv : Nat → Option Nat) (Y : Mem) (H : Heap) (locs : List Loc) (ls : Array Slot), al < B + d → (B ≤ al - 1) → (((∀ a, a ≠ 131 → a ≠ 132 → a ≠ 133 → Y a = I a) ∧ (∀ s, s < al → Y 132 s = nI (szS σ s (mn σ)) ∧ Y 133 s = nI (mjO σ s (mn σ))) ∧ (∀ i, i < 256 → Y 131 i = nI (e9 (vv i)))) ∧ FWI σ vv B) → Hp E K L ad Y H → va_S (AG E) s.heap H locs → lv_has ls 5 [(0, .ref (ad 130)), (1, .ref (ad 110)), (2, .ref (ad 200)), (3, .int (nI (al - 1))), (4, .int (nI B))] → W p l ee (rmk 2) s m args below meth c H locs 0 0 Qf (F0 m 37 ls []) := by
    intro d37
    induction d37 with
    | zero => intro B vv Y H locs ls hd37 hB hy _ _ _; exact absurd hd37 (by omega)
    | succ d37 ih37 =>
      intro B vv Y H locs ls hd37 hB hy hP hS hl
      have hb9 : ∀ D, D < al → e9 (vv D) ≤ 99 := fun D hD => by
        cases g : vv D with
        | none => exact Nat.le_refl _
        | some k9 =>
          have g1 := hy.2.2.1 D k9 (by rw [← hal]; exact hD) g
          have g2 : popN D ≤ 8 := cn_le _ 8
          show k9 ≤ 99
          omega
      refine lv_iload hx hb dX4_fewestStages_37 (lv_at hl 4 rfl) ?_
      refine lv_iload_n hx hb dX4_fewestStages_39 rfl (lv_at hl 3 rfl) ?_
      refine b_geN C (by omega) (by omega) dX4_fewestStages_40 (tgt := 82) (by decide) (fun h11 => ?_) (fun h11 => ?_)
      · refine lv_aload_n hx hb dX4_fewestStages_82 rfl (lv_at hl 0 rfl) ?_
        refine f_X4_9 (q := 131) C hP (by assumption) (by assumption) rfl dX4_fewestStages_83 ?_
        refine lv_iload_n hx hb dX4_fewestStages_86 rfl (lv_at hl 3 rfl) ?_
        have hb9B := hb9 (al - 1) (by omega)
        refine r_iald (n := 256) C hP (by assumption) (by omega) (by decide) dX4_fewestStages_87 ?_
        refine r_eqi (y := (nI (e9 (vv (al - 1))))) (hy.1.2.2 (al - 1) (by omega)) ?_
        exact hret _ _ _ _ _ _ dX4_fewestStages_88 hP hS (by
                    rw [show B = 2 ^ mn σ - 1 by omega] at hy
                    have hFw := FWI_Fw hy.2
                    obtain ⟨kf, hkf⟩ := Fw_all hw hFw (mn σ) (Nat.le_refl _)
                    refine ⟨⟨vv, hFw, ?_⟩, hy.1.1, ?_, ?_⟩
                    · rw [← hal] at hkf ⊢; rw [hkf]; rfl
                    · rw [(hy.1.2.1 0 (by omega)).1]; congr 1; exact szS_z _ _
                    · rw [(hy.1.2.1 0 (by omega)).2]; congr 1; exact mjO_z _ _)
      · refine lv_aload_n hx hb dX4_fewestStages_43 rfl (lv_at hl 0 rfl) ?_
        refine f_X4_9 (q := 131) C hP (by assumption) (by assumption) rfl dX4_fewestStages_44 ?_
        refine lv_iload hx hb dX4_fewestStages_47 (lv_at hl 4 rfl) ?_
        have hb9B := hb9 B (by omega)
        refine r_iald (n := 256) C hP (by assumption) (by omega) (by decide) dX4_fewestStages_49 ?_
        refine r_eqi (y := (nI (e9 (vv B)))) (hy.1.2.2 B (by omega)) ?_
        refine lv_bipush (v := nI 99) hx hb dX4_fewestStages_50 (by decide) ?_
        refine b_eqN C (by omega) (by omega) dX4_fewestStages_52 (tgt := 76) (by decide) (fun h12 => ?_) (fun h12 => ?_)
        · have hnone : vv B = none := by
            cases g : vv B with
            | none => rfl
            | some k9 =>
              have g1 := hy.2.2.1 B k9 (by rw [← hal]; omega) g
              have g2 : popN B ≤ 8 := cn_le _ 8
              rw [g] at h12
              replace h12 : k9 = 99 := h12
              omega
          refine lv_iinc (v := nI (B + 1)) (lv' := [(4, .int (nI (B + 1))), (0, .ref (ad 130)), (1, .ref (ad 110)), (2, .ref (ad 200)), (3, .int (nI (al - 1)))]) hx hb dX4_fewestStages_76 hl (k := 4) rfl (nI_1 _) (by decide) rfl (fun ls hl => ?_)
          refine lv_goto (tgt := 37) hx hb dX4_fewestStages_79 (by decide) ?_
          exact ih37  (B + 1) vv Y _ _ _ (by omega) (by omega) (⟨hy.1, FWI_no hy.2 hnone⟩) hP hS (lv_sub hl [1, 2, 3, 4, 0] rfl)
        · obtain ⟨m0, hm0⟩ : ∃ m, vv B = some m := by
            cases g : vv B with
            | none => rw [g] at h12; exact absurd rfl h12
            | some k9 => exact ⟨k9, rfl⟩
          refine lv_aload_n hx hb dX4_fewestStages_55 rfl (lv_at hl 0 rfl) ?_
          refine lv_iload hx hb dX4_fewestStages_56 (lv_at hl 4 rfl) ?_
          refine lv_aload_n hx hb dX4_fewestStages_58 rfl (lv_at hl 0 rfl) ?_
          refine lv_iload hx hb dX4_fewestStages_59 (lv_at hl 4 rfl) ?_
          refine lv_aload_n hx hb dX4_fewestStages_61 rfl (lv_at hl 1 rfl) ?_
          refine lv_aload_n hx hb dX4_fewestStages_62 rfl (lv_at hl 2 rfl) ?_
          refine f_X4_21 C hP (by first | assumption | exact hKa _ (by omega)) dX4_fewestStages_63 ?_
          refine r_eqi (y := (nI (mn σ))) (by rw [hy.1.1 200 (by decide) (by decide) (by decide)]; exact h200) ?_
          refine k_X4_37 C hP hS (by assumption) (c_X4_ready (σ := σ) B (mn σ) hQ0 kk0 hn8 (by omega) (PKI_cong (fun a g1 g2 => hy.1.1 a (by omega) (by omega) (by omega)) hPK)) ⟨Nat.le_of_ble_eq_true rfl, Nat.le_of_ble_eq_true rfl⟩ ⟨Nat.zero_le _, Nat.zero_le _⟩ hl.1 (Nat.le_of_ble_eq_true rfl) dX4_fewestStages_66 (fun v13 I14 H locs hv15 hP hS => ?_)
          obtain ⟨eI14, ev13⟩ := hv15
          rw [eI14] at hP
          clear eI14
          refine r_eqi ev13 ?_
          refine lv_aload_n hx hb dX4_fewestStages_69 rfl (lv_at hl 2 rfl) ?_
          refine f_X4_41 (q := 203) C hP (by assumption) (by assumption) rfl dX4_fewestStages_70 ?_
          refine k_X4_44 C hP hS (by assumption) (c_X4_addStage (σ := σ) (v0 := vv) B (sN (rdF σ B) (mn σ)) m0 hQ0 pp7 hw rfl (by rw [← hal]; omega) hm0 hy.2 hy.1.2.2 (fun s hs => hy.1.2.1 s (by rw [hal]; exact hs)) (fun i hi => by rw [hy.1.1 203 (by decide) (by decide) (by decide)]; exact hR.2.2.2.2.1 i hi)) ⟨Nat.le_of_ble_eq_true rfl, Nat.le_of_ble_eq_true rfl⟩ ⟨Nat.zero_le _, Nat.zero_le _⟩ hl.1 (Nat.le_of_ble_eq_true rfl) dX4_fewestStages_73 (fun I17 H locs hv18 hP hS => ?_)
          have eI17 := hv18
          obtain ⟨v1, hs1⟩ := eI17
          refine lv_iinc (v := nI (B + 1)) (lv' := [(4, .int (nI (B + 1))), (0, .ref (ad 130)), (1, .ref (ad 110)), (2, .ref (ad 200)), (3, .int (nI (al - 1)))]) hx hb dX4_fewestStages_76 hl (k := 4) rfl (nI_1 _) (by decide) rfl (fun ls hl => ?_)
          refine lv_goto (tgt := 37) hx hb dX4_fewestStages_79 (by decide) ?_
          exact ih37  (B + 1) v1 I17 _ _ _ (by omega) (by omega) (⟨⟨fun a g1 g2 g3 => by rw [hs1.2.1 a g1]; exact hy.1.1 a g1 g2 g3, fun s hs => by rw [hs1.2.1 132 (by decide), hs1.2.1 133 (by decide)]; exact hy.1.2.1 s hs, hs1.2.2⟩, hs1.1⟩) hP hS (lv_sub hl [1, 2, 3, 4, 0] rfl)
  exact hL37_10 (al + 1) 0 ((fun i => if i = 0 then some 0 else none)) I9 _ _ _ (by omega) (by omega) (hst) hP hS (lv_sub hl [2, 3, 4, 1, 0] rfl)
