/-! the packet -/
def IsX (K : Nat → Nat) (L : Nat → Nat → Bool) : Prop := K 140 = 2 ∧ L 140 0 = true ∧ L 140 5 = true ∧ K 141 = 106 ∧ K 142 = 14 ∧ (∀ j, j < 4 → L 142 j = true) ∧ ∀ j, j < 4 → K (143 + j) = 108
theorem and255 (a : Nat) : nI a &&& nI 255 = nI (a % 256) := by
  rw [nI_and]; congr 1; exact Nat.and_two_pow_sub_one_eq_mod a 8
theorem and65535 (a : Nat) : nI a &&& nI 65535 = nI (a % 65536) := by
  rw [nI_and]; congr 1; exact Nat.and_two_pow_sub_one_eq_mod a 16
theorem fnd_cong {f g : Nat → Int32} {v : Int32} : ∀ (k i : Nat), (∀ e, i ≤ e → e < i + k → f e = g e) → fnd f v k i = fnd g v k i
  | 0, _, _ => rfl
  | k + 1, i, h => by simp only [fnd]; rw [h i (by omega) (by omega), fnd_cong k (i + 1) (fun e h1 h2 => h e (by omega) (by omega))]
def PT (b : Nat) (J σ : Mem) : Prop := J b 0 = σ 10 0 ∧ PM J b ∧ ∀ t, t < mn σ → TRp (tr J b t) J σ t
theorem PT_cong {b : Nat} {J J' σ : Mem} (hn : mn σ ≤ 8) (he : ∀ t, t < mn σ → en σ t ≤ 4) (hc : ∀ a, b ≤ a → a < b + 72 → a ≠ b + 2 → J' a = J a) (H : PT b J σ) : PT b J' σ := by
  obtain ⟨h0, h1, h2⟩ := H
  have h7 : ∀ t, t < 8 → J' (b + 1) t = J (b + 1) t := fun t _ => by rw [hc (b + 1) (by omega) (by omega) (by omega)]
  refine ⟨by rw [hc b (by omega) (by omega) (by omega)]; exact h0, PM_cong h7 h1, fun t ht => ?_⟩
  have hlo := tr_lo J b t
  have hhi := tr_hi h1 (show t < 8 by omega)
  rw [tr_cong (h7 t (by omega))]
  exact TRp_cong (he t ht) (fun a g1 g2 => hc a (by omega) (by omega) (by omega)) (h2 t ht)

def RunX (I σ Z : Mem) (q g : Nat) : Prop := (∀ a, a < 140 ∨ 146 < a → a ≠ 202 → Z a = I a) ∧ ((∀ j, j < 6 → Z 141 j = (itR σ (pS0 σ) q).1 j) ∧ (∀ j, j < 4 → Z 202 j = (itR σ (pS0 σ) q).2.1 j) ∧ Z 140 1 = (itR σ (pS0 σ) q).2.2.1 ∧ (0 < q → Z 140 2 = (itR σ (pS0 σ) q).2.2.2 ∧ Z 140 3 = nI q)) ∧ Z 140 4 = nI (mn σ) ∧ (∀ i, i < q → ∀ t, t < mn σ → Z (143 + i) t = tk1 σ (sA (itR σ (pS0 σ) i)) t) ∧ rN σ = rnN σ (pS0 σ) (ru σ 3 - q) q ∧ g = (if goes (itR σ (pS0 σ) q) then 1 else 0)
def RunZ (I σ J : Mem) : Prop := (∀ a, a < 140 ∨ 146 < a → a ≠ 202 → J a = I a) ∧ (∀ j, j < 6 → J 141 j = (rS σ).1 j) ∧ (∀ j, j < 4 → J 202 j = (rS σ).2.1 j) ∧ J 140 1 = (rS σ).2.2.1 ∧ J 140 2 = (rS σ).2.2.2 ∧ J 140 3 = nI (rN σ) ∧ J 140 4 = nI (mn σ) ∧ ∀ i, i < rN σ → ∀ t, t < mn σ → J (143 + i) t = tk1 σ (sA (itR σ (pS0 σ) i)) t
theorem goes_0 (σ : Mem) : goes (itR σ (pS0 σ) 0) := ⟨by show nI 1 ≠ 0; decide, rfl⟩
theorem rN_pos {σ : Mem} (h : 1 ≤ ru σ 3) : 1 ≤ rN σ := by
  unfold rN
  obtain ⟨d, hd⟩ : ∃ d, ru σ 3 = d + 1 := ⟨ru σ 3 - 1, by omega⟩
  rw [hd]; simp only [rnN]; rw [if_pos (goes_0 σ)]
  exact (rnN_le σ (pS0 σ) d 1).1
theorem RunX_e {I σ Z : Mem} {q g : Nat} (H : RunX I σ Z q g) (h1 : 1 ≤ ru σ 3) (hq : q ≤ ru σ 3) (he : ru σ 3 ≤ q ∨ g = 0) : RunZ I σ Z := by
  obtain ⟨a1, ⟨b1, b2, b3, b4⟩, a2, a3, a4, a5⟩ := H
  have hN : rN σ = q := by
    rw [a4]
    rcases he with e | e
    · rw [show ru σ 3 - q = 0 by omega]; rfl
    · have hng : ¬ goes (itR σ (pS0 σ) q) := fun z => by rw [if_pos z] at a5; omega
      cases ru σ 3 - q with
      | zero => rfl
      | succ d => simp only [rnN]; rw [if_neg hng]
  have hp := rN_pos h1
  have hS : rS σ = itR σ (pS0 σ) q := by unfold rS; rw [hN]
  obtain ⟨c1, c2⟩ := b4 (by omega)
  unfold RunZ
  rw [hS, hN]
  exact ⟨a1, b1, b2, b3, c1, c2, a2, a3⟩
theorem RunX_s {I σ Z A B D : Mem} {q g : Nat} (hn : mn σ ≤ 8) (hq : q < 4) (hq3 : q < ru σ 3) (H : RunX I σ Z q g) (hg : g ≠ 0) (eA : A = up2 Z 140 2 (nI 0)) (eB : (∀ a, a ≠ 140 → a ≠ 141 → a ≠ 202 → a ≠ 143 + q → B a = A a) ∧ (∀ i, i ≠ 1 → i ≠ 2 → B 140 i = A 140 i) ∧ Rp 141 202 140 1 2 B (rnd σ (mn σ) (sA (itR σ (pS0 σ) q))) ∧ ∀ i, i < mn σ → B (143 + q) i = nI (stT σ i (rnd σ i (sA (itR σ (pS0 σ) q))))) (eD : D = up2 B 140 3 (nI (q + 1))) :
    RunX I σ D (q + 1) (if goes (itR σ (pS0 σ) (q + 1)) then 1 else 0) := by
  obtain ⟨a1, ⟨b1, b2, b3, b4⟩, a2, a3, a4, a5⟩ := H
  obtain ⟨e1, e2, ⟨e3, e4, e5, e6⟩, e7⟩ := eB
  have hgo : goes (itR σ (pS0 σ) q) := Decidable.not_not.mp fun z => by rw [if_neg z] at a5; omega
  refine ⟨fun a h1 h2 => ?_, ⟨fun j hj => ?_, fun j hj => ?_, ?_, fun _ => ⟨?_, ?_⟩⟩, ?_, fun i hi t ht => ?_, ?_, rfl⟩
  · rw [eD, up2_r (by omega), e1 a (by omega) (by omega) h2 (by omega), eA, up2_r (by omega)]; exact a1 a h1 h2
  · rw [eD, up2_r (by omega)]; exact e3 j hj
  · rw [eD, up2_r (by omega)]; exact e4 j hj
  · rw [eD, up2_k (by decide)]; exact e5
  · rw [eD, up2_k (by decide)]; exact e6
  · rw [eD, up2_s]
  · rw [eD, up2_k (by decide), e2 4 (by decide) (by decide), eA, up2_k (by decide)]; exact a2
  · rw [eD, up2_r (by omega)]
    by_cases z : i = q
    · subst z; rw [e7 t ht]; unfold tk1; rw [if_pos ht]
    · rw [e1 _ (by omega) (by omega) (by omega) (by omega), eA, up2_r (by omega)]; exact a3 i (by omega) t ht
  · rw [a4, show ru σ 3 - q = (ru σ 3 - (q + 1)) + 1 by omega]; simp only [rnN]; rw [if_pos hgo]
set_option maxHeartbeats 4000000 in
set_option maxRecDepth 100000 in
theorem c_X1_keepTop {l : Launch} {E : En} {K : Nat → Nat} {L : Nat → Nat → Bool} {ad : Nat → Nat} {I : Nat → Nat → Int32} (tq xq : Nat) (hX : IsX K L) (h202 : K 202 = 104) (htq : tq < 6) (hxq : xq < 4) : MV l E K L ad I yX1_keepTop cX1_keepTop 5 0 [.ref (ad 140), .int (nI tq), .ref (ad 202), .int (nI xq)] (fun RJ => RJ = if (I 202 xq).toInt < (I 141 tq).toInt then up2 (up2 I 202 xq (I 141 tq)) 141 tq (nI 1) else up2 I 141 tq (nI 0)) := by
  have hX0 := hX
  obtain ⟨x0, x1, x2, x3, x4, hXL, hXK⟩ := hX
  refine MV.of (by decide) (Nat.le_of_ble_eq_true rfl) ?_
  intro p ee s m args below meth c ls Qf C hret hP hl
  have C : Cx E p s m args c cX1_keepTop RX1 5 := C
  have hx := C.1
  have hb := C.2.1
  have hS : va_S (AG E) s.heap s.heap [] := va_S.rf
  have hl : lv_has ls 5 [(0, .ref (ad 140)), (1, .int (nI tq)), (2, .ref (ad 202)), (3, .int (nI xq))] := hl
  refine lv_aload_n hx hb dX1_keepTop_0 rfl (lv_at hl 0 rfl) ?_
  refine f_X1_9 (q := 141) C hP (by assumption) (by assumption) rfl dX1_keepTop_1 ?_
  refine lv_iload_n hx hb dX1_keepTop_4 rfl (lv_at hl 1 rfl) ?_
  refine r_iald (n := 6) C hP (by assumption) (by omega) (by decide) dX1_keepTop_5 ?_
  refine lv_aload_n hx hb dX1_keepTop_6 rfl (lv_at hl 2 rfl) ?_
  refine lv_iload_n hx hb dX1_keepTop_7 rfl (lv_at hl 3 rfl) ?_
  refine r_iald (n := 4) C hP (by assumption) (by omega) (by decide) dX1_keepTop_8 ?_
  refine b_le C dX1_keepTop_9 (tgt := 16) (by decide) (fun h1 => ?_) (fun h1 => ?_)
  · refine lv_iconst (v := nI 0) hx hb dX1_keepTop_16 (by decide) ?_
    refine lv_istore (lv' := [(4, .int (nI 0)), (0, .ref (ad 140)), (1, .int (nI tq)), (2, .ref (ad 202)), (3, .int (nI xq))]) hx hb dX1_keepTop_17 hl (by decide) rfl (fun ls hl => ?_)
    refine lv_iload hx hb dX1_keepTop_19 (lv_at hl 0 rfl) ?_
    refine r_eqi (y := 0) rfl ?_
    refine z_eq0 C dX1_keepTop_21 (tgt := 33) (by decide) ?_
    refine lv_aload_n hx hb dX1_keepTop_33 rfl (lv_at hl 1 rfl) ?_
    refine f_X1_9 (q := 141) C hP (by assumption) (by assumption) rfl dX1_keepTop_34 ?_
    refine lv_iload_n hx hb dX1_keepTop_37 rfl (lv_at hl 2 rfl) ?_
    refine lv_iload hx hb dX1_keepTop_38 (lv_at hl 0 rfl) ?_
    refine r_eqi (y := 0) rfl ?_
    refine z_eq0 C dX1_keepTop_40 (tgt := 47) (by decide) ?_
    refine lv_iconst (v := nI 0) hx hb dX1_keepTop_47 (by decide) ?_
    refine r_iast (n := 6) C hP hS (by assumption) (by omega) (by decide) dX1_keepTop_48 (fun H locs hP hS => ?_)
    obtain ⟨I2, eI2⟩ : ∃ Znew : Nat → Nat → Int32, Znew = up2 I 141 tq (nI 0) := ⟨_, rfl⟩
    rw [← eI2] at hP
    exact hret _ _ _ _ _ dX1_keepTop_49 hP hS (by rw [if_neg (by omega), eI2])
  · refine lv_iconst (v := nI 1) hx hb dX1_keepTop_12 (by decide) ?_
    refine lv_goto (tgt := 17) hx hb dX1_keepTop_13 (by decide) ?_
    refine lv_istore (lv' := [(4, .int (nI 1)), (0, .ref (ad 140)), (1, .int (nI tq)), (2, .ref (ad 202)), (3, .int (nI xq))]) hx hb dX1_keepTop_17 hl (by decide) rfl (fun ls hl => ?_)
    refine lv_iload hx hb dX1_keepTop_19 (lv_at hl 0 rfl) ?_
    refine r_eqi (y := 1) rfl ?_
    refine z_eq1 C dX1_keepTop_21 (tgt := 33) (by decide) ?_
    refine lv_aload_n hx hb dX1_keepTop_24 rfl (lv_at hl 3 rfl) ?_
    refine lv_iload_n hx hb dX1_keepTop_25 rfl (lv_at hl 4 rfl) ?_
    refine lv_aload_n hx hb dX1_keepTop_26 rfl (lv_at hl 1 rfl) ?_
    refine f_X1_9 (q := 141) C hP (by assumption) (by assumption) rfl dX1_keepTop_27 ?_
    refine lv_iload_n hx hb dX1_keepTop_30 rfl (lv_at hl 2 rfl) ?_
    refine r_iald (n := 6) C hP (by assumption) (by omega) (by decide) dX1_keepTop_31 ?_
    refine r_iast (n := 4) C hP hS (by assumption) (by omega) (by decide) dX1_keepTop_32 (fun H locs hP hS => ?_)
    obtain ⟨I3, eI3⟩ : ∃ Znew : Nat → Nat → Int32, Znew = up2 I 202 xq (I 141 tq) := ⟨_, rfl⟩
    rw [← eI3] at hP
    refine lv_aload_n hx hb dX1_keepTop_33 rfl (lv_at hl 1 rfl) ?_
    refine f_X1_9 (q := 141) C hP (by assumption) (by assumption) rfl dX1_keepTop_34 ?_
    refine lv_iload_n hx hb dX1_keepTop_37 rfl (lv_at hl 2 rfl) ?_
    refine lv_iload hx hb dX1_keepTop_38 (lv_at hl 0 rfl) ?_
    refine r_eqi (y := 1) rfl ?_
    refine z_eq1 C dX1_keepTop_40 (tgt := 47) (by decide) ?_
    refine lv_iconst (v := nI 1) hx hb dX1_keepTop_43 (by decide) ?_
    refine lv_goto (tgt := 48) hx hb dX1_keepTop_44 (by decide) ?_
    refine r_iast (n := 6) C hP hS (by assumption) (by omega) (by decide) dX1_keepTop_48 (fun H locs hP hS => ?_)
    obtain ⟨I4, eI4⟩ : ∃ Znew : Nat → Nat → Int32, Znew = up2 I3 141 tq (nI 1) := ⟨_, rfl⟩
    rw [← eI4] at hP
    exact hret _ _ _ _ _ dX1_keepTop_49 hP hS (by rw [if_pos (by omega), eI4, eI3])
set_option maxHeartbeats 4000000 in
set_option maxRecDepth 100000 in
theorem c_X1_swap {l : Launch} {E : En} {K : Nat → Nat} {L : Nat → Nat → Bool} {ad : Nat → Nat} {I : Nat → Nat → Int32} (tq xq : Nat) (hX : IsX K L) (h202 : K 202 = 104) (htq : tq < 6) (hxq : xq < 4) (hg : 0 ≤ (I 202 xq).toInt) : MV l E K L ad I yX1_swap cX1_swap 5 0 [.ref (ad 140), .int (nI tq), .ref (ad 202), .int (nI xq)] (fun RJ => RJ = up2 (up2 I 202 xq (I 141 tq)) 141 tq (nI (nv (I 202 xq) % 256))) := by
  have hX0 := hX
  obtain ⟨x0, x1, x2, x3, x4, hXL, hXK⟩ := hX
  refine MV.of (by decide) (Nat.le_of_ble_eq_true rfl) ?_
  intro p ee s m args below meth c ls Qf C hret hP hl
  have C : Cx E p s m args c cX1_swap RX1 5 := C
  have hx := C.1
  have hb := C.2.1
  have hS : va_S (AG E) s.heap s.heap [] := va_S.rf
  have hl : lv_has ls 5 [(0, .ref (ad 140)), (1, .int (nI tq)), (2, .ref (ad 202)), (3, .int (nI xq))] := hl
  refine lv_aload_n hx hb dX1_swap_0 rfl (lv_at hl 2 rfl) ?_
  refine lv_iload_n hx hb dX1_swap_1 rfl (lv_at hl 3 rfl) ?_
  refine r_iald (n := 4) C hP (by assumption) (by omega) (by decide) dX1_swap_2 ?_
  refine r_eqi (y := (nI (nv (I 202 xq)))) (nv_eq hg) ?_
  refine lv_istore (lv' := [(4, .int (nI (nv (I 202 xq)))), (0, .ref (ad 140)), (1, .int (nI tq)), (2, .ref (ad 202)), (3, .int (nI xq))]) hx hb dX1_swap_3 hl (by decide) rfl (fun ls hl => ?_)
  refine lv_aload_n hx hb dX1_swap_5 rfl (lv_at hl 3 rfl) ?_
  refine lv_iload_n hx hb dX1_swap_6 rfl (lv_at hl 4 rfl) ?_
  refine lv_aload_n hx hb dX1_swap_7 rfl (lv_at hl 1 rfl) ?_
  refine f_X1_9 (q := 141) C hP (by assumption) (by assumption) rfl dX1_swap_8 ?_
  refine lv_iload_n hx hb dX1_swap_11 rfl (lv_at hl 2 rfl) ?_
  refine r_iald (n := 6) C hP (by assumption) (by omega) (by decide) dX1_swap_12 ?_
  refine r_iast (n := 4) C hP hS (by assumption) (by omega) (by decide) dX1_swap_13 (fun H locs hP hS => ?_)
  obtain ⟨I1, eI1⟩ : ∃ Znew : Nat → Nat → Int32, Znew = up2 I 202 xq (I 141 tq) := ⟨_, rfl⟩
  rw [← eI1] at hP
  refine lv_aload_n hx hb dX1_swap_14 rfl (lv_at hl 1 rfl) ?_
  refine f_X1_9 (q := 141) C hP (by assumption) (by assumption) rfl dX1_swap_15 ?_
  refine lv_iload_n hx hb dX1_swap_18 rfl (lv_at hl 2 rfl) ?_
  refine lv_iload hx hb dX1_swap_19 (lv_at hl 0 rfl) ?_
  refine lv_sipush (v := nI 255) hx hb dX1_swap_21 (by decide) ?_
  refine lv_iand hx hb dX1_swap_24 ?_
  refine lv_topi (fun x2 ex2 => ?_)
  refine r_eqi (y := nI (nv (I 202 xq) % 256)) (by rw [ex2]; exact and255 _) ?_
  refine r_iast (n := 6) C hP hS (by assumption) (by omega) (by decide) dX1_swap_25 (fun H locs hP hS => ?_)
  obtain ⟨I3, eI3⟩ : ∃ Znew : Nat → Nat → Int32, Znew = up2 I1 141 tq (nI (nv (I 202 xq) % 256)) := ⟨_, rfl⟩
  rw [← eI3] at hP
  exact hret _ _ _ _ _ dX1_swap_26 hP hS (by rw [eI3, eI1])
set_option maxHeartbeats 4000000 in
set_option maxRecDepth 100000 in
theorem c_X1_apply {l : Launch} {E : En} {K : Nat → Nat} {L : Nat → Nat → Bool} {ad : Nat → Nat} {I : Nat → Nat → Int32} (h : Nat) (hX : IsX K L) (h202 : K 202 = 104) (hkh : K h = 1) (hne3 : h ≠ 202) (ok : okA (I h 0) (I h 1) (I h 2)) (hF : ∀ j, j < 6 → 0 ≤ (I 141 j).toInt ∧ (I 141 j).toInt ≤ 255) (hG : ∀ j, j < 4 → 0 ≤ (I 202 j).toInt ∧ (I 202 j).toInt ≤ 65535) : MV l E K L ad I yX1_apply cX1_apply 3 1 [.ref (ad 140), .ref (ad h), .ref (ad 202)] (fun RJ => RJ = actM 141 202 140 1 2 (I h 0) (I h 1) (I h 2) I) := by
  have hX0 := hX
  obtain ⟨x0, x1, x2, x3, x4, hXL, hXK⟩ := hX
  refine MV.of (by decide) (Nat.le_of_ble_eq_true rfl) ?_
  intro p ee s m args below meth c ls Qf C hret hP hl
  have C : Cx E p s m args c cX1_apply RX1 3 := C
  have hx := C.1
  have hb := C.2.1
  have hS : va_S (AG E) s.heap s.heap [] := va_S.rf
  have hl : lv_has ls 3 [(0, .ref (ad 140)), (1, .ref (ad h)), (2, .ref (ad 202))] := hl
  refine lv_aload_n hx hb dX1_apply_0 rfl (lv_at hl 1 rfl) ?_
  refine f_X1_78 C hP (by first | assumption | exact hKa _ (by omega)) dX1_apply_1 ?_
  by_cases sw1 : ((I h 0) : Int32).toInt = 1
  · refine sw_in C dX1_apply_4 sw1 (by decide) (by decide) (off := 52) (by decide) (tgt := 56) (by decide) ?_
    have hmm := ok.2 (by omega)
    obtain ⟨tq, htq, etq⟩ : ∃ j : Nat, j < 6 ∧ I h 1 = nI j := ⟨(I h 1).toInt.toNat, by omega, i32_eq (by omega) (by omega)⟩
    have ctq : tn (I h 1) = tq := by rw [etq]; exact nI_clamp (by omega)
    have hft := hF tq htq
    refine lv_aload_n hx hb dX1_apply_56 rfl (lv_at hl 0 rfl) ?_
    refine f_X1_9 (q := 141) C hP (by assumption) (by assumption) rfl dX1_apply_57 ?_
    refine lv_aload_n hx hb dX1_apply_60 rfl (lv_at hl 1 rfl) ?_
    refine f_X1_83 C hP (by first | assumption | exact hKa _ (by omega)) dX1_apply_61 ?_
    refine r_eqi (y := (nI tq)) (etq) ?_
    refine lv_aload_n hx hb dX1_apply_64 rfl (lv_at hl 1 rfl) ?_
    refine f_X1_86 C hP (by first | assumption | exact hKa _ (by omega)) dX1_apply_65 ?_
    refine r_iast (n := 6) C hP hS (by assumption) (by omega) (by decide) dX1_apply_68 (fun H locs hP hS => ?_)
    obtain ⟨I2, eI2⟩ : ∃ Znew : Nat → Nat → Int32, Znew = up2 I 141 tq (I h 2) := ⟨_, rfl⟩
    rw [← eI2] at hP
    refine lv_goto (tgt := 234) hx hb dX1_apply_69 (by decide) ?_
    exact hret _ _ _ _ _ dX1_apply_234 hP hS (by unfold actM; rw [if_pos (by omega), ctq, eI2] <;> (subst_vars; rfl))
  · by_cases sw3 : ((I h 0) : Int32).toInt = 2
    · refine sw_in C dX1_apply_4 sw3 (by decide) (by decide) (off := 68) (by decide) (tgt := 72) (by decide) ?_
      have hmm := ok.2 (by omega)
      obtain ⟨tq, htq, etq⟩ : ∃ j : Nat, j < 6 ∧ I h 1 = nI j := ⟨(I h 1).toInt.toNat, by omega, i32_eq (by omega) (by omega)⟩
      have ctq : tn (I h 1) = tq := by rw [etq]; exact nI_clamp (by omega)
      have hft := hF tq htq
      have hmo : most (I h 0) = 5 := by unfold most; rw [if_neg (by omega), if_pos (by omega)]
      obtain ⟨xq, hxq, exq⟩ : ∃ j : Nat, j < 6 ∧ I h 2 = nI j := ⟨(I h 2).toInt.toNat, by omega, i32_eq (by omega) (by omega)⟩
      have cxq : tn (I h 2) = xq := by rw [exq]; exact nI_clamp (by omega)
      refine lv_aload_n hx hb dX1_apply_72 rfl (lv_at hl 0 rfl) ?_
      refine f_X1_9 (q := 141) C hP (by assumption) (by assumption) rfl dX1_apply_73 ?_
      refine lv_aload_n hx hb dX1_apply_76 rfl (lv_at hl 1 rfl) ?_
      refine f_X1_83 C hP (by first | assumption | exact hKa _ (by omega)) dX1_apply_77 ?_
      refine r_eqi (y := (nI tq)) (etq) ?_
      refine lv_aload_n hx hb dX1_apply_80 rfl (lv_at hl 0 rfl) ?_
      refine f_X1_9 (q := 141) C hP (by assumption) (by assumption) rfl dX1_apply_81 ?_
      refine lv_aload_n hx hb dX1_apply_84 rfl (lv_at hl 1 rfl) ?_
      refine f_X1_86 C hP (by first | assumption | exact hKa _ (by omega)) dX1_apply_85 ?_
      refine r_eqi (y := (nI xq)) (exq) ?_
      refine r_iald (n := 6) C hP (by assumption) (by omega) (by decide) dX1_apply_88 ?_
      refine r_iast (n := 6) C hP hS (by assumption) (by omega) (by decide) dX1_apply_89 (fun H locs hP hS => ?_)
      obtain ⟨I4, eI4⟩ : ∃ Znew : Nat → Nat → Int32, Znew = up2 I 141 tq (I 141 xq) := ⟨_, rfl⟩
      rw [← eI4] at hP
      refine lv_goto (tgt := 234) hx hb dX1_apply_90 (by decide) ?_
      exact hret _ _ _ _ _ dX1_apply_234 hP hS (by unfold actM; rw [if_neg (by omega), if_pos (by omega), ctq, cxq, eI4] <;> (subst_vars; rfl))
    · by_cases sw5 : ((I h 0) : Int32).toInt = 3
      · refine sw_in C dX1_apply_4 sw5 (by decide) (by decide) (off := 89) (by decide) (tgt := 93) (by decide) ?_
        have hmm := ok.2 (by omega)
        obtain ⟨tq, htq, etq⟩ : ∃ j : Nat, j < 6 ∧ I h 1 = nI j := ⟨(I h 1).toInt.toNat, by omega, i32_eq (by omega) (by omega)⟩
        have ctq : tn (I h 1) = tq := by rw [etq]; exact nI_clamp (by omega)
        have hft := hF tq htq
        have hmo : most (I h 0) = 255 := by unfold most; rw [if_pos (by omega)]
        obtain ⟨xq, hxq, exq⟩ : ∃ j : Nat, j < 256 ∧ I h 2 = nI j := ⟨(I h 2).toInt.toNat, by omega, i32_eq (by omega) (by omega)⟩
        have cxq : tn (I h 2) = xq := by rw [exq]; exact nI_clamp (by omega)
        have hbt : nv (I 141 tq) < 256 := nv_lt hft.1 (by omega)
        refine lv_aload_n hx hb dX1_apply_93 rfl (lv_at hl 0 rfl) ?_
        refine f_X1_9 (q := 141) C hP (by assumption) (by assumption) rfl dX1_apply_94 ?_
        refine lv_aload_n hx hb dX1_apply_97 rfl (lv_at hl 1 rfl) ?_
        refine f_X1_83 C hP (by first | assumption | exact hKa _ (by omega)) dX1_apply_98 ?_
        refine r_eqi (y := (nI tq)) (etq) ?_
        refine lv_aload_n hx hb dX1_apply_101 rfl (lv_at hl 0 rfl) ?_
        refine f_X1_9 (q := 141) C hP (by assumption) (by assumption) rfl dX1_apply_102 ?_
        refine lv_aload_n hx hb dX1_apply_105 rfl (lv_at hl 1 rfl) ?_
        refine f_X1_83 C hP (by first | assumption | exact hKa _ (by omega)) dX1_apply_106 ?_
        refine r_eqi (y := (nI tq)) (etq) ?_
        refine r_iald (n := 6) C hP (by assumption) (by omega) (by decide) dX1_apply_109 ?_
        refine r_eqi (y := (nI (nv (I 141 tq)))) (nv_eq hft.1) ?_
        refine lv_aload_n hx hb dX1_apply_110 rfl (lv_at hl 1 rfl) ?_
        refine f_X1_86 C hP (by first | assumption | exact hKa _ (by omega)) dX1_apply_111 ?_
        refine r_eqi (y := (nI xq)) (exq) ?_
        refine r_addN C dX1_apply_114 ?_
        refine lv_sipush (v := nI 255) hx hb dX1_apply_115 (by decide) ?_
        refine lv_iand hx hb dX1_apply_118 ?_
        refine lv_topi (fun x6 ex6 => ?_)
        refine r_eqi (y := nI ((nv (I 141 tq) + xq) % 256)) (by rw [ex6]; exact and255 _) ?_
        refine r_iast (n := 6) C hP hS (by assumption) (by omega) (by decide) dX1_apply_119 (fun H locs hP hS => ?_)
        obtain ⟨I7, eI7⟩ : ∃ Znew : Nat → Nat → Int32, Znew = up2 I 141 tq (nI ((nv (I 141 tq) + xq) % 256)) := ⟨_, rfl⟩
        rw [← eI7] at hP
        refine lv_goto (tgt := 234) hx hb dX1_apply_120 (by decide) ?_
        exact hret _ _ _ _ _ dX1_apply_234 hP hS (by unfold actM; rw [if_neg (by omega), if_neg (by omega), if_pos (by omega), ctq, show nv _ = xq from cxq, eI7] <;> (subst_vars; rfl))
      · by_cases sw8 : ((I h 0) : Int32).toInt = 4
        · refine sw_in C dX1_apply_4 sw8 (by decide) (by decide) (off := 119) (by decide) (tgt := 123) (by decide) ?_
          have hmm := ok.2 (by omega)
          obtain ⟨tq, htq, etq⟩ : ∃ j : Nat, j < 6 ∧ I h 1 = nI j := ⟨(I h 1).toInt.toNat, by omega, i32_eq (by omega) (by omega)⟩
          have ctq : tn (I h 1) = tq := by rw [etq]; exact nI_clamp (by omega)
          have hft := hF tq htq
          have hmo : most (I h 0) = 5 := by unfold most; rw [if_neg (by omega), if_pos (by omega)]
          obtain ⟨xq, hxq, exq⟩ : ∃ j : Nat, j < 6 ∧ I h 2 = nI j := ⟨(I h 2).toInt.toNat, by omega, i32_eq (by omega) (by omega)⟩
          have cxq : tn (I h 2) = xq := by rw [exq]; exact nI_clamp (by omega)
          refine lv_aload_n hx hb dX1_apply_123 rfl (lv_at hl 0 rfl) ?_
          refine f_X1_9 (q := 141) C hP (by assumption) (by assumption) rfl dX1_apply_124 ?_
          refine lv_aload_n hx hb dX1_apply_127 rfl (lv_at hl 1 rfl) ?_
          refine f_X1_83 C hP (by first | assumption | exact hKa _ (by omega)) dX1_apply_128 ?_
          refine r_eqi (y := (nI tq)) (etq) ?_
          refine lv_dup2_11 hx hb dX1_apply_131 rfl rfl ?_
          refine r_iald (n := 6) C hP (by assumption) (by omega) (by decide) dX1_apply_132 ?_
          refine lv_aload_n hx hb dX1_apply_133 rfl (lv_at hl 0 rfl) ?_
          refine f_X1_9 (q := 141) C hP (by assumption) (by assumption) rfl dX1_apply_134 ?_
          refine lv_aload_n hx hb dX1_apply_137 rfl (lv_at hl 1 rfl) ?_
          refine f_X1_86 C hP (by first | assumption | exact hKa _ (by omega)) dX1_apply_138 ?_
          refine r_eqi (y := (nI xq)) (exq) ?_
          refine r_iald (n := 6) C hP (by assumption) (by omega) (by decide) dX1_apply_141 ?_
          refine lv_ixor hx hb dX1_apply_142 ?_
          refine lv_topi (fun x9 ex9 => ?_)
          refine r_iast (n := 6) C hP hS (by assumption) (by omega) (by decide) dX1_apply_143 (fun H locs hP hS => ?_)
          obtain ⟨I10, eI10⟩ : ∃ Znew : Nat → Nat → Int32, Znew = up2 I 141 tq x9 := ⟨_, rfl⟩
          rw [← eI10] at hP
          refine lv_goto (tgt := 234) hx hb dX1_apply_144 (by decide) ?_
          exact hret _ _ _ _ _ dX1_apply_234 hP hS (by unfold actM; rw [if_neg (by omega), if_neg (by omega), if_neg (by omega), if_pos (by omega), ctq, cxq, eI10] <;> (subst_vars; rfl))
        · by_cases sw11 : ((I h 0) : Int32).toInt = 5
          · refine sw_in C dX1_apply_4 sw11 (by decide) (by decide) (off := 143) (by decide) (tgt := 147) (by decide) ?_
            have hmm := ok.2 (by omega)
            obtain ⟨tq, htq, etq⟩ : ∃ j : Nat, j < 6 ∧ I h 1 = nI j := ⟨(I h 1).toInt.toNat, by omega, i32_eq (by omega) (by omega)⟩
            have ctq : tn (I h 1) = tq := by rw [etq]; exact nI_clamp (by omega)
            have hft := hF tq htq
            have hmo : most (I h 0) = 3 := by unfold most; rw [if_neg (by omega), if_neg (by omega)]
            obtain ⟨xq, hxq, exq⟩ : ∃ j : Nat, j < 4 ∧ I h 2 = nI j := ⟨(I h 2).toInt.toNat, by omega, i32_eq (by omega) (by omega)⟩
            have cxq : tn (I h 2) = xq := by rw [exq]; exact nI_clamp (by omega)
            have hgx := hG xq hxq
            have hbx : nv (I 202 xq) < 65536 := nv_lt hgx.1 (by omega)
            refine lv_aload_n hx hb dX1_apply_147 rfl (lv_at hl 2 rfl) ?_
            refine lv_aload_n hx hb dX1_apply_148 rfl (lv_at hl 1 rfl) ?_
            refine f_X1_86 C hP (by first | assumption | exact hKa _ (by omega)) dX1_apply_149 ?_
            refine r_eqi (y := (nI xq)) (exq) ?_
            refine lv_aload_n hx hb dX1_apply_152 rfl (lv_at hl 2 rfl) ?_
            refine lv_aload_n hx hb dX1_apply_153 rfl (lv_at hl 1 rfl) ?_
            refine f_X1_86 C hP (by first | assumption | exact hKa _ (by omega)) dX1_apply_154 ?_
            refine r_eqi (y := (nI xq)) (exq) ?_
            refine r_iald (n := 4) C hP (by assumption) (by omega) (by decide) dX1_apply_157 ?_
            refine r_eqi (y := (nI (nv (I 202 xq)))) (nv_eq hgx.1) ?_
            refine lv_iconst (v := nI 1) hx hb dX1_apply_158 (by decide) ?_
            refine r_addN C dX1_apply_159 ?_
            refine lv_ldc hx hb C.2.2.2.1 (C.2.2.1 _ tk_X1_89) dX1_apply_160 ?_
            refine r_eqi (y := nI 65535) rfl ?_
            refine lv_iand hx hb dX1_apply_162 ?_
            refine lv_topi (fun x12 ex12 => ?_)
            refine r_eqi (y := nI ((nv (I 202 xq) + 1) % 65536)) (by rw [ex12]; exact and65535 _) ?_
            refine r_iast (n := 4) C hP hS (by assumption) (by omega) (by decide) dX1_apply_163 (fun H locs hP hS => ?_)
            obtain ⟨I13, eI13⟩ : ∃ Znew : Nat → Nat → Int32, Znew = up2 I 202 xq (nI ((nv (I 202 xq) + 1) % 65536)) := ⟨_, rfl⟩
            rw [← eI13] at hP
            refine lv_aload_n hx hb dX1_apply_164 rfl (lv_at hl 0 rfl) ?_
            refine f_X1_9 (q := 141) C hP (by assumption) (by assumption) rfl dX1_apply_165 ?_
            refine lv_aload_n hx hb dX1_apply_168 rfl (lv_at hl 1 rfl) ?_
            refine f_X1_83 C hP (by first | assumption | exact hKa _ (by omega)) dX1_apply_169 ?_
            refine r_eqi (y := (nI tq)) (by rw [eI13, up2_r hne3]; exact etq) ?_
            refine lv_aload_n hx hb dX1_apply_172 rfl (lv_at hl 2 rfl) ?_
            refine lv_aload_n hx hb dX1_apply_173 rfl (lv_at hl 1 rfl) ?_
            refine f_X1_86 C hP (by first | assumption | exact hKa _ (by omega)) dX1_apply_174 ?_
            refine r_eqi (y := (nI xq)) (by rw [eI13, up2_r hne3]; exact exq) ?_
            refine r_iald (n := 4) C hP (by assumption) (by omega) (by decide) dX1_apply_177 ?_
            refine r_eqi (y := (nI ((nv (I 202 xq) + 1) % 65536))) (by rw [eI13, up2_s]) ?_
            refine lv_sipush (v := nI 255) hx hb dX1_apply_178 (by decide) ?_
            refine lv_iand hx hb dX1_apply_181 ?_
            refine lv_topi (fun x14 ex14 => ?_)
            refine r_eqi (y := nI (((nv (I 202 xq) + 1) % 65536) % 256)) (by rw [ex14]; exact and255 _) ?_
            refine r_iast (n := 6) C hP hS (by assumption) (by omega) (by decide) dX1_apply_182 (fun H locs hP hS => ?_)
            obtain ⟨I15, eI15⟩ : ∃ Znew : Nat → Nat → Int32, Znew = up2 I13 141 tq (nI (((nv (I 202 xq) + 1) % 65536) % 256)) := ⟨_, rfl⟩
            rw [← eI15] at hP
            refine lv_goto (tgt := 234) hx hb dX1_apply_183 (by decide) ?_
            exact hret _ _ _ _ _ dX1_apply_234 hP hS (by unfold actM; rw [if_neg (by omega), if_neg (by omega), if_neg (by omega), if_neg (by omega), if_pos (by omega), ctq, cxq, eI15, eI13] <;> (subst_vars; rfl))
          · by_cases sw16 : ((I h 0) : Int32).toInt = 6
            · refine sw_in C dX1_apply_4 sw16 (by decide) (by decide) (off := 182) (by decide) (tgt := 186) (by decide) ?_
              have hmm := ok.2 (by omega)
              obtain ⟨tq, htq, etq⟩ : ∃ j : Nat, j < 6 ∧ I h 1 = nI j := ⟨(I h 1).toInt.toNat, by omega, i32_eq (by omega) (by omega)⟩
              have ctq : tn (I h 1) = tq := by rw [etq]; exact nI_clamp (by omega)
              have hft := hF tq htq
              have hmo : most (I h 0) = 3 := by unfold most; rw [if_neg (by omega), if_neg (by omega)]
              obtain ⟨xq, hxq, exq⟩ : ∃ j : Nat, j < 4 ∧ I h 2 = nI j := ⟨(I h 2).toInt.toNat, by omega, i32_eq (by omega) (by omega)⟩
              have cxq : tn (I h 2) = xq := by rw [exq]; exact nI_clamp (by omega)
              refine lv_aload_n hx hb dX1_apply_186 rfl (lv_at hl 0 rfl) ?_
              refine lv_aload_n hx hb dX1_apply_187 rfl (lv_at hl 1 rfl) ?_
              refine f_X1_83 C hP (by first | assumption | exact hKa _ (by omega)) dX1_apply_188 ?_
              refine r_eqi (y := (nI tq)) (etq) ?_
              refine lv_aload_n hx hb dX1_apply_191 rfl (lv_at hl 2 rfl) ?_
              refine lv_aload_n hx hb dX1_apply_192 rfl (lv_at hl 1 rfl) ?_
              refine f_X1_86 C hP (by first | assumption | exact hKa _ (by omega)) dX1_apply_193 ?_
              refine r_eqi (y := (nI xq)) (exq) ?_
              refine k_X1_90 C hP hS (by assumption) (c_X1_keepTop tq xq hX0 h202 (by omega) (by omega)) ⟨Nat.le_of_ble_eq_true rfl, Nat.le_of_ble_eq_true rfl⟩ ⟨Nat.zero_le _, Nat.zero_le _⟩ hl.1 (Nat.le_of_ble_eq_true rfl) dX1_apply_196 (fun I18 H locs hv19 hP hS => ?_)
              have eI18 := hv19
              refine lv_goto (tgt := 234) hx hb dX1_apply_199 (by decide) ?_
              exact hret _ _ _ _ _ dX1_apply_234 hP hS (by unfold actM; rw [if_neg (by omega), if_neg (by omega), if_neg (by omega), if_neg (by omega), if_neg (by omega), if_pos (by omega), ctq, cxq]; exact eI18)
            · by_cases sw20 : ((I h 0) : Int32).toInt = 7
              · refine sw_in C dX1_apply_4 sw20 (by decide) (by decide) (off := 198) (by decide) (tgt := 202) (by decide) ?_
                have hmm := ok.2 (by omega)
                obtain ⟨tq, htq, etq⟩ : ∃ j : Nat, j < 6 ∧ I h 1 = nI j := ⟨(I h 1).toInt.toNat, by omega, i32_eq (by omega) (by omega)⟩
                have ctq : tn (I h 1) = tq := by rw [etq]; exact nI_clamp (by omega)
                have hft := hF tq htq
                have hmo : most (I h 0) = 3 := by unfold most; rw [if_neg (by omega), if_neg (by omega)]
                obtain ⟨xq, hxq, exq⟩ : ∃ j : Nat, j < 4 ∧ I h 2 = nI j := ⟨(I h 2).toInt.toNat, by omega, i32_eq (by omega) (by omega)⟩
                have cxq : tn (I h 2) = xq := by rw [exq]; exact nI_clamp (by omega)
                have hgx := hG xq hxq
                have hbx : nv (I 202 xq) < 65536 := nv_lt hgx.1 (by omega)
                refine lv_aload_n hx hb dX1_apply_202 rfl (lv_at hl 0 rfl) ?_
                refine lv_aload_n hx hb dX1_apply_203 rfl (lv_at hl 1 rfl) ?_
                refine f_X1_83 C hP (by first | assumption | exact hKa _ (by omega)) dX1_apply_204 ?_
                refine r_eqi (y := (nI tq)) (etq) ?_
                refine lv_aload_n hx hb dX1_apply_207 rfl (lv_at hl 2 rfl) ?_
                refine lv_aload_n hx hb dX1_apply_208 rfl (lv_at hl 1 rfl) ?_
                refine f_X1_86 C hP (by first | assumption | exact hKa _ (by omega)) dX1_apply_209 ?_
                refine r_eqi (y := (nI xq)) (exq) ?_
                refine k_X1_94 C hP hS (by assumption) (c_X1_swap tq xq hX0 h202 (by omega) (by omega) hgx.1) ⟨Nat.le_of_ble_eq_true rfl, Nat.le_of_ble_eq_true rfl⟩ ⟨Nat.zero_le _, Nat.zero_le _⟩ hl.1 (Nat.le_of_ble_eq_true rfl) dX1_apply_212 (fun I22 H locs hv23 hP hS => ?_)
                have eI22 := hv23
                refine lv_goto (tgt := 234) hx hb dX1_apply_215 (by decide) ?_
                exact hret _ _ _ _ _ dX1_apply_234 hP hS (by unfold actM; rw [if_neg (by omega), if_neg (by omega), if_neg (by omega), if_neg (by omega), if_neg (by omega), if_neg (by omega), if_pos (by omega), ctq, cxq]; exact eI22)
              · by_cases sw24 : ((I h 0) : Int32).toInt = 8
                · refine sw_in C dX1_apply_4 sw24 (by decide) (by decide) (off := 214) (by decide) (tgt := 218) (by decide) ?_
                  refine lv_aload_n hx hb dX1_apply_218 rfl (lv_at hl 0 rfl) ?_
                  refine lv_iconst (v := nI 1) hx hb dX1_apply_219 (by decide) ?_
                  refine p_X1_38 C hP hS (by assumption) (by first | assumption | decide) dX1_apply_220 (fun H locs hP hS => ?_)
                  obtain ⟨I25, eI25⟩ : ∃ Znew : Nat → Nat → Int32, Znew = up2 I 140 1 (nI 1) := ⟨_, rfl⟩
                  rw [← eI25] at hP
                  refine lv_goto (tgt := 234) hx hb dX1_apply_223 (by decide) ?_
                  exact hret _ _ _ _ _ dX1_apply_234 hP hS (by unfold actM; rw [if_neg (by omega), if_neg (by omega), if_neg (by omega), if_neg (by omega), if_neg (by omega), if_neg (by omega), if_neg (by omega), if_pos (by omega), eI25] <;> (subst_vars; rfl))
                · by_cases sw26 : ((I h 0) : Int32).toInt = 9
                  · refine sw_in C dX1_apply_4 sw26 (by decide) (by decide) (off := 222) (by decide) (tgt := 226) (by decide) ?_
                    refine lv_aload_n hx hb dX1_apply_226 rfl (lv_at hl 0 rfl) ?_
                    refine lv_iconst (v := nI 1) hx hb dX1_apply_227 (by decide) ?_
                    refine p_X1_45 C hP hS (by assumption) (by first | assumption | decide) dX1_apply_228 (fun H locs hP hS => ?_)
                    obtain ⟨I27, eI27⟩ : ∃ Znew : Nat → Nat → Int32, Znew = up2 I 140 2 (nI 1) := ⟨_, rfl⟩
                    rw [← eI27] at hP
                    refine lv_goto (tgt := 234) hx hb dX1_apply_231 (by decide) ?_
                    exact hret _ _ _ _ _ dX1_apply_234 hP hS (by unfold actM; rw [if_neg (by omega), if_neg (by omega), if_neg (by omega), if_neg (by omega), if_neg (by omega), if_neg (by omega), if_neg (by omega), if_neg (by omega), if_pos (by omega), eI27] <;> (subst_vars; rfl))
                  · refine lv_tableOut hx hb dX1_apply_4 (by omega) (tgt := 234) (by decide) ?_
                    exact hret _ _ _ _ _ dX1_apply_234 hP hS (by unfold actM; rw [if_neg (by omega), if_neg (by omega), if_neg (by omega), if_neg (by omega), if_neg (by omega), if_neg (by omega), if_neg (by omega), if_neg (by omega), if_neg (by omega)])
set_option maxHeartbeats 4000000 in
set_option maxRecDepth 100000 in
theorem c_X1_doRound {l : Launch} {E : En} {K : Nat → Nat} {L : Nat → Nat → Bool} {ad : Nat → Nat} {I : Nat → Nat → Int32} {σ : Mem} {S : PSt} (q : Nat) (hX : IsX K L) (hp : IsP K L 200) (hw : WF σ) (hT : PT 200 I σ) (hR : Rp 141 202 140 1 2 I S) (hS0 : okP S) (hq4 : q < 4) : MV l E K L ad I yX1_doRound cX1_doRound 5 2 [.ref (ad 140), .ref (ad 200), .ref (ad (143 + q))] (fun RJ => (∀ a, a ≠ 140 → a ≠ 141 → a ≠ 202 → a ≠ 143 + q → RJ a = I a) ∧ (∀ i, i ≠ 1 → i ≠ 2 → RJ 140 i = I 140 i) ∧ Rp 141 202 140 1 2 RJ (rnd σ (mn σ) S) ∧ ∀ i, i < mn σ → RJ (143 + q) i = nI (stT σ i (rnd σ i S))) := by
  have hX0 := hX
  obtain ⟨x0, x1, x2, x3, x4, hXL, hXK⟩ := hX
  have hp0 := hp
  obtain ⟨pp0, ⟨pp1, pp2, pp3, pp4⟩, pp5, hLb, pp6, pp7, pp8, hTT⟩ := hp
  have hn8 := hw.2.1
  refine MV.of (by decide) (Nat.le_of_ble_eq_true rfl) ?_
  intro p ee s m args below meth c ls Qf C hret hP hl
  have C : Cx E p s m args c cX1_doRound RX1 5 := C
  have hx := C.1
  have hb := C.2.1
  have hS : va_S (AG E) s.heap s.heap [] := va_S.rf
  have hl : lv_has ls 5 [(0, .ref (ad 140)), (1, .ref (ad 200)), (2, .ref (ad (143 + q)))] := hl
  refine lv_iconst (v := nI 0) hx hb dX1_doRound_0 (by decide) ?_
  refine lv_istore_n (lv' := [(3, .int (nI 0)), (0, .ref (ad 140)), (1, .ref (ad 200)), (2, .ref (ad (143 + q)))]) hx hb dX1_doRound_1 rfl hl (by decide) rfl (fun ls hl => ?_)
  have hL2_1 : ∀ (d : Nat) (t : Nat) (Z : Mem) (H : Heap) (locs : List Loc) (ls : Array Slot), mn σ < t + d → (t ≤ mn σ) → ((∀ a, a ≠ 140 → a ≠ 141 → a ≠ 202 → a ≠ 143 + q → Z a = I a) ∧ (∀ i, i ≠ 1 → i ≠ 2 → Z 140 i = I 140 i) ∧ Rp 141 202 140 1 2 Z (rnd σ t S) ∧ ∀ i, i < t → Z (143 + q) i = nI (stT σ i (rnd σ i S))) → Hp E K L ad Z H → va_S (AG E) s.heap H locs → lv_has ls 5 [(0, .ref (ad 140)), (1, .ref (ad 200)), (2, .ref (ad (143 + q))), (3, .int (nI t))] → W p l ee (rmk 2) s m args below meth c H locs 0 0 Qf (F0 m 2 ls []) := by
    intro d2
    induction d2 with
    | zero => intro t Z H locs ls hd2 ht hz _ _ _; exact absurd hd2 (by omega)
    | succ d2 ih2 =>
      intro t Z H locs ls hd2 ht hz hP hS hl
      have hPZ : PT 200 Z σ := PT_cong hn8 (fun t ht => (hw.2.2.1 t ht).2.1) (fun a g1 g2 g3 => hz.1 a (by omega) (by omega) (by omega) (by omega)) hT
      have hZ0 : Z 200 0 = nI (mn σ) := by rw [hPZ.1]; exact hw.1
      refine lv_iload_n hx hb dX1_doRound_2 rfl (lv_at hl 3 rfl) ?_
      refine lv_aload_n hx hb dX1_doRound_3 rfl (lv_at hl 1 rfl) ?_
      refine f_X1_31 C hP (by first | assumption | exact hKa _ (by omega)) dX1_doRound_4 ?_
      refine r_eqi (y := (nI (mn σ))) (hZ0) ?_
      refine b_geN C (by omega) (by omega) dX1_doRound_7 (tgt := 59) (by decide) (fun h2 => ?_) (fun h2 => ?_)
      · exact hret _ _ _ _ _ dX1_doRound_59 hP hS (by rw [show t = mn σ by omega] at hz; exact hz)
      · have hWt := hw.2.2.1 t (by omega)
        have hTt := tr_T hp0 hPZ.2.1 (show t < 8 by omega)
        have hTt0 := hTt
        obtain ⟨ht1, ht2, ht3, ht4, ht5, ht6, ht7⟩ := hTt0
        have hlo := tr_lo Z 200 t
        have hhi := tr_hi hPZ.2.1 (show t < 8 by omega)
        have hRt := hPZ.2.2 t (by omega)
        have hoP := rnd_ok hS0 t (fun i hi => hw.2.2.1 i (by omega))
        obtain ⟨kq, hkq, ekq⟩ : ∃ j : Nat, j < 6 ∧ σ 11 t = nI j := ⟨(σ 11 t).toInt.toNat, by have := hWt.2.2.1; omega, i32_eq (by have := hWt.2.2.1; omega) (by have := hWt.2.2.1; omega)⟩
        have ckq : tn (σ 11 t) = kq := by rw [ekq]; exact nI_clamp (by omega)
        have hZk : Z (tr Z 200 t) 0 = nI kq := hRt.1.trans ekq
        have hfnd : fnd (Z (tr Z 200 t + 1)) (Z 141 kq) (en σ t) 0 = stT σ t (rnd σ t S) := by
          unfold stT; rw [ckq, ← hz.2.2.1.1 kq hkq]; exact fnd_cong _ _ (fun e _ h2 => hRt.2.2.1 e (by omega))
        have hst := stT_le (σ := σ) (t := t) (S := rnd σ t S) hWt.2.1
        have hkq8 : K (143 + q) = 108 := hXK q hq4
        refine lv_aload_n hx hb dX1_doRound_10 rfl (lv_at hl 1 rfl) ?_
        refine f_X1_55 (q := 201) C hP (by assumption) (by assumption) rfl dX1_doRound_11 ?_
        refine lv_iload_n hx hb dX1_doRound_14 rfl (lv_at hl 3 rfl) ?_
        refine r_ald12 (q := tr Z 200 t) C hP (by assumption) (hLb _ (by omega)) (by omega) rfl dX1_doRound_15 ?_
        refine lv_astore (lv' := [(4, .ref (ad (tr Z 200 t))), (0, .ref (ad 140)), (1, .ref (ad 200)), (2, .ref (ad (143 + q))), (3, .int (nI t))]) hx hb dX1_doRound_16 hl (by decide) rfl (fun ls hl => ?_)
        refine lv_aload_n hx hb dX1_doRound_18 rfl (lv_at hl 3 rfl) ?_
        refine lv_iload_n hx hb dX1_doRound_19 rfl (lv_at hl 4 rfl) ?_
        refine lv_aload hx hb dX1_doRound_20 (lv_at hl 0 rfl) ?_
        refine lv_aload_n hx hb dX1_doRound_22 rfl (lv_at hl 1 rfl) ?_
        refine f_X1_9 (q := 141) C hP (by assumption) (by assumption) rfl dX1_doRound_23 ?_
        refine lv_aload hx hb dX1_doRound_26 (lv_at hl 0 rfl) ?_
        refine f_X1_58 C hP (by first | assumption | exact hKa _ (by omega)) dX1_doRound_28 ?_
        refine r_eqi (y := (nI kq)) (hZk) ?_
        refine r_iald (n := 6) C hP (by assumption) (by omega) (by decide) dX1_doRound_31 ?_
        refine k_X1_63 C hP hS (by assumption) (c_X5_slotOf (tr Z 200 t) (en σ t) (Z 141 kq) ht1 ht2 ht4 (hRt.2.1.trans hWt.1) hWt.2.1) ⟨Nat.le_of_ble_eq_true rfl, Nat.le_of_ble_eq_true rfl⟩ ⟨Nat.zero_le _, Nat.zero_le _⟩ hl.1 (Nat.le_of_ble_eq_true rfl) dX1_doRound_32 (fun v3 I4 H locs hv5 hP hS => ?_)
        obtain ⟨eI4, ev3⟩ := hv5
        rw [eI4] at hP
        clear eI4
        refine r_eqi (y := nI (stT σ t (rnd σ t S))) (ev3.trans (congrArg nI hfnd)) ?_
        refine r_iast (n := 8) C hP hS (by assumption) (by omega) (by decide) dX1_doRound_35 (fun H locs hP hS => ?_)
        obtain ⟨I6, eI6⟩ : ∃ Znew : Nat → Nat → Int32, Znew = up2 Z (143 + q) t (nI (stT σ t (rnd σ t S))) := ⟨_, rfl⟩
        rw [← eI6] at hP
        refine lv_aload_n hx hb dX1_doRound_36 rfl (lv_at hl 1 rfl) ?_
        refine lv_aload hx hb dX1_doRound_37 (lv_at hl 0 rfl) ?_
        refine f_X1_67 (q := tr Z 200 t + 2) C hP (by assumption) (by assumption) rfl dX1_doRound_39 ?_
        refine lv_aload_n hx hb dX1_doRound_42 rfl (lv_at hl 3 rfl) ?_
        refine lv_iload_n hx hb dX1_doRound_43 rfl (lv_at hl 4 rfl) ?_
        refine r_iald (n := 8) C hP (by assumption) (by omega) (by decide) dX1_doRound_44 ?_
        refine r_eqi (y := (nI (stT σ t (rnd σ t S)))) (by rw [eI6, up2_s]) ?_
        refine r_ald11 (q := tr Z 200 t + 3 + (stT σ t (rnd σ t S))) C hP (by assumption) (ht6 _ (by omega)) (by omega) (by omega) dX1_doRound_45 ?_
        refine lv_aload_n hx hb dX1_doRound_46 rfl (lv_at hl 2 rfl) ?_
        refine f_X1_71 (q := 202) C hP (by assumption) (by assumption) rfl dX1_doRound_47 ?_
        have hJ1 : ∀ a, a ≠ 143 + q → I6 a = Z a := fun a ha => by rw [eI6, up2_r ha]
        have hJT : TRp (tr Z 200 t) I6 σ t := TRp_cong hWt.2.1 (fun a g1 g2 => hJ1 a (by omega)) hRt
        have hJa : ∀ k, k < 3 → I6 (tr Z 200 t + 3 + stT σ t (rnd σ t S)) k = σ (14 + k) (5 * t + stT σ t (rnd σ t S)) := fun k hk => hJT.2.2.2 _ hst.1 hst.2 k hk
        have hok : okA (I6 (tr Z 200 t + 3 + stT σ t (rnd σ t S)) 0) (I6 (tr Z 200 t + 3 + stT σ t (rnd σ t S)) 1) (I6 (tr Z 200 t + 3 + stT σ t (rnd σ t S)) 2) := by rw [hJa 0 (by decide), hJa 1 (by decide), hJa 2 (by decide)]; exact hWt.2.2.2.1 _ hst.1 hst.2
        have hJR : Rp 141 202 140 1 2 I6 (rnd σ t S) := ⟨fun j hj => by rw [hJ1 141 (by omega)]; exact hz.2.2.1.1 j hj, fun j hj => by rw [hJ1 202 (by omega)]; exact hz.2.2.1.2.1 j hj, by rw [hJ1 140 (by omega)]; exact hz.2.2.1.2.2.1, by rw [hJ1 140 (by omega)]; exact hz.2.2.1.2.2.2⟩
        refine k_X1_74 C hP hS (by assumption) (c_X1_apply (tr Z 200 t + 3 + stT σ t (rnd σ t S)) hX0 pp6 (ht7 _ hst.1) (by omega) hok (fun j hj => by rw [hJR.1 j hj]; exact hoP.1 j hj) (fun j hj => by rw [hJR.2.1 j hj]; exact hoP.2.1 j hj)) ⟨Nat.le_of_ble_eq_true rfl, Nat.le_of_ble_eq_true rfl⟩ ⟨Nat.zero_le _, Nat.zero_le _⟩ hl.1 (Nat.le_of_ble_eq_true rfl) dX1_doRound_50 (fun I8 H locs hv9 hP hS => ?_)
        have eI8 := hv9
        have hstep : (∀ a, a ≠ 140 → a ≠ 141 → a ≠ 202 → a ≠ 143 + q → I8 a = I a) ∧ (∀ i, i ≠ 1 → i ≠ 2 → I8 140 i = I 140 i) ∧ Rp 141 202 140 1 2 I8 (rnd σ (t + 1) S) ∧ ∀ i, i < t + 1 → I8 (143 + q) i = nI (stT σ i (rnd σ i S)) := by
          rw [eI8]
          refine ⟨fun a g1 g2 g3 g4 => by rw [actM_r g2 g3 g1, hJ1 a g4]; exact hz.1 a g1 g2 g3 g4, fun i g1 g2 => by rw [actM_o (by decide) (by decide) g1 g2, hJ1 140 (by omega)]; exact hz.2.1 i g1 g2, ?_, fun i hi => ?_⟩
          · have := act_rep (F := 141) (G := 202) (o := 140) (sd := 1) (sa := 2) (by decide) hJR hok
            rw [hJa 0 (by decide), hJa 1 (by decide), hJa 2 (by decide)] at this
            rw [hJa 0 (by decide), hJa 1 (by decide), hJa 2 (by decide)]
            exact this
          · rw [actM_r (by omega) (by omega) (by omega), eI6]
            by_cases z : i = t
            · subst z; rw [up2_s]
            · rw [up2_k z]; exact hz.2.2.2 i (by omega)
        refine lv_iinc (v := nI (t + 1)) (lv' := [(3, .int (nI (t + 1))), (4, .ref (ad (tr Z 200 t))), (0, .ref (ad 140)), (1, .ref (ad 200)), (2, .ref (ad (143 + q)))]) hx hb dX1_doRound_53 hl (k := 4) rfl (nI_1 _) (by decide) rfl (fun ls hl => ?_)
        refine lv_goto (tgt := 2) hx hb dX1_doRound_56 (by decide) ?_
        exact ih2  (t + 1) I8 _ _ _ (by omega) (by omega) (hstep) hP hS (lv_sub hl [2, 3, 4, 0] rfl)
  exact hL2_1 (mn σ + 1) 0 I _ _ _ (by omega) (by omega) (⟨fun _ _ _ _ _ => rfl, fun _ _ _ => rfl, hR, lt_0⟩) hP hS (lv_sub hl [1, 2, 3, 0] rfl)
set_option maxHeartbeats 4000000 in
set_option maxRecDepth 100000 in
theorem c_X1_passThrough {l : Launch} {E : En} {K : Nat → Nat} {L : Nat → Nat → Bool} {ad : Nat → Nat} {I : Nat → Nat → Int32} {σ : Mem} (hX : IsX K L) (hp : IsP K L 200) (hw : WF σ) (hR : PR 200 I σ) : MV l E K L ad I yX1_passThrough cX1_passThrough 4 3 [.ref (ad 140), .ref (ad 200)] (fun RJ => RunZ I σ RJ) := by
  have hX0 := hX
  obtain ⟨x0, x1, x2, x3, x4, hXL, hXK⟩ := hX
  have hp0 := hp
  obtain ⟨pp0, ⟨pp1, pp2, pp3, pp4⟩, pp5, hLb, pp6, pp7, pp8, hTT⟩ := hp
  have hn8 := hw.2.1
  obtain ⟨hu, hu0, hu1, hu2, hu3⟩ := wf_ru hw
  have h200 : I 200 0 = nI (mn σ) := hR.1.trans hw.1
  refine MV.of (by decide) (Nat.le_of_ble_eq_true rfl) ?_
  intro p ee s m args below meth c ls Qf C hret hP hl
  have C : Cx E p s m args c cX1_passThrough RX1 4 := C
  have hx := C.1
  have hb := C.2.1
  have hS : va_S (AG E) s.heap s.heap [] := va_S.rf
  have hl : lv_has ls 4 [(0, .ref (ad 140)), (1, .ref (ad 200))] := hl
  refine lv_aload_n hx hb dX1_passThrough_0 rfl (lv_at hl 1 rfl) ?_
  refine f_X1_20 (q := 204) C hP (by assumption) (by assumption) rfl dX1_passThrough_1 ?_
  refine lv_iconst (v := nI 0) hx hb dX1_passThrough_4 (by decide) ?_
  refine lv_aload_n hx hb dX1_passThrough_5 rfl (lv_at hl 0 rfl) ?_
  refine f_X1_9 (q := 141) C hP (by assumption) (by assumption) rfl dX1_passThrough_6 ?_
  refine lv_iconst (v := nI 0) hx hb dX1_passThrough_9 (by decide) ?_
  refine lv_bipush (v := nI 6) hx hb dX1_passThrough_10 (by decide) ?_
  refine r_acp (n0 := 6) (n1 := 6) C hP hS (by assumption) (by assumption) (by decide) (by decide) (by decide) tm_X1_25 (Nat.le_of_ble_eq_true rfl) (Nat.le_of_ble_eq_true rfl) hl.1 dX1_passThrough_12 (fun H locs hP hS => ?_)
  obtain ⟨I1, eI1⟩ : ∃ Znew : Nat → Nat → Int32, Znew = cpy2 I 141 204 6 := ⟨_, rfl⟩
  rw [← eI1] at hP
  refine lv_aload_n hx hb dX1_passThrough_15 rfl (lv_at hl 0 rfl) ?_
  refine lv_aload_n hx hb dX1_passThrough_16 rfl (lv_at hl 1 rfl) ?_
  refine f_X1_31 C hP (by first | assumption | exact hKa _ (by omega)) dX1_passThrough_17 ?_
  refine r_eqi (y := (nI (mn σ))) (by rw [eI1, cpy2_r (by decide)]; exact h200) ?_
  refine p_X1_35 C hP hS (by assumption) dX1_passThrough_20 (fun H locs hP hS => ?_)
  obtain ⟨I2, eI2⟩ : ∃ Znew : Nat → Nat → Int32, Znew = up2 I1 140 4 (nI (mn σ)) := ⟨_, rfl⟩
  rw [← eI2] at hP
  refine lv_aload_n hx hb dX1_passThrough_23 rfl (lv_at hl 0 rfl) ?_
  refine lv_iconst (v := nI 0) hx hb dX1_passThrough_24 (by decide) ?_
  refine p_X1_38 C hP hS (by assumption) (by first | assumption | decide) dX1_passThrough_25 (fun H locs hP hS => ?_)
  obtain ⟨I3, eI3⟩ : ∃ Znew : Nat → Nat → Int32, Znew = up2 I2 140 1 (nI 0) := ⟨_, rfl⟩
  rw [← eI3] at hP
  refine lv_iconst (v := nI 1) hx hb dX1_passThrough_28 (by decide) ?_
  refine lv_istore_n (lv' := [(2, .int (nI 1)), (0, .ref (ad 140)), (1, .ref (ad 200))]) hx hb dX1_passThrough_29 rfl hl (by decide) rfl (fun ls hl => ?_)
  refine lv_iconst (v := nI 0) hx hb dX1_passThrough_30 (by decide) ?_
  refine lv_istore_n (lv' := [(3, .int (nI 0)), (2, .int (nI 1)), (0, .ref (ad 140)), (1, .ref (ad 200))]) hx hb dX1_passThrough_31 rfl hl (by decide) rfl (fun ls hl => ?_)
  have hst : RunX I σ I3 0 1 := by
    rw [eI3, eI2, eI1]
    refine ⟨fun a g1 g2 => by rw [up2_r (by omega), up2_r (by omega), cpy2_r (by omega)], ⟨fun j hj => by rw [up2_r (by omega), up2_r (by omega), cpy2_s hj]; exact hR.2.2.2.2.2 j hj, fun j hj => by rw [up2_r (by omega), up2_r (by omega), cpy2_r (by omega)]; exact hR.2.2.2.1 j hj, by rw [up2_s]; rfl, fun g => absurd g (by decide)⟩, by rw [up2_k (by decide), up2_s], fun i hi => absurd hi (Nat.not_lt_zero i), rfl, by rw [if_pos (goes_0 σ)]⟩
  have hL32_4 : ∀ (d : Nat) (q : Nat) (g : Nat) (Z : Mem) (H : Heap) (locs : List Loc) (ls : Array Slot), ru σ 3 < q + d → (q ≤ ru σ 3) → (RunX I σ Z q g) → (g ≤ 1) → Hp E K L ad Z H → va_S (AG E) s.heap H locs → lv_has ls 4 [(0, .ref (ad 140)), (1, .ref (ad 200)), (2, .int (nI g)), (3, .int (nI q))] → W p l ee (rmk 3) s m args below meth c H locs 0 0 Qf (F0 m 32 ls []) := by
    intro d32
    induction d32 with
    | zero => intro q g Z H locs ls hd32 hq3 hz hg1 _ _ _; exact absurd hd32 (by omega)
    | succ d32 ih32 =>
      intro q g Z H locs ls hd32 hq3 hz hg1 hP hS hl
      have hZ3 : Z 203 3 = nI (ru σ 3) := by rw [hz.1 203 (by omega) (by omega), hR.2.2.2.2.1 3 (by decide)]; exact hu 3 (by decide)
      refine lv_iload_n hx hb dX1_passThrough_32 rfl (lv_at hl 3 rfl) ?_
      refine lv_aload_n hx hb dX1_passThrough_33 rfl (lv_at hl 1 rfl) ?_
      refine f_X1_42 (q := 203) C hP (by assumption) (by assumption) rfl dX1_passThrough_34 ?_
      refine lv_iconst (v := nI 3) hx hb dX1_passThrough_37 (by decide) ?_
      refine r_iald (n := 4) C hP (by assumption) (by omega) (by decide) dX1_passThrough_38 ?_
      refine r_eqi (y := (nI (ru σ 3))) (hZ3) ?_
      refine b_geN C (by omega) (by omega) dX1_passThrough_39 (tgt := 95) (by decide) (fun h5 => ?_) (fun h5 => ?_)
      · exact hret _ _ _ _ _ dX1_passThrough_95 hP hS (RunX_e hz (by omega) (by omega) (by omega))
      · refine lv_iload_n hx hb dX1_passThrough_42 rfl (lv_at hl 2 rfl) ?_
        refine z_eq C dX1_passThrough_43 (tgt := 95) (by decide) (fun h6 => ?_) (fun h6 => ?_)
        · replace h6 : g = 0 := (nI_eq (by omega) (by decide)).mp h6
          exact hret _ _ _ _ _ dX1_passThrough_95 hP hS (RunX_e hz (by omega) (by omega) (by omega))
        · replace h6 : g ≠ 0 := fun q => h6 (by rw [q]; rfl)
          refine lv_aload_n hx hb dX1_passThrough_46 rfl (lv_at hl 0 rfl) ?_
          refine lv_iconst (v := nI 0) hx hb dX1_passThrough_47 (by decide) ?_
          refine p_X1_45 C hP hS (by assumption) (by first | assumption | decide) dX1_passThrough_48 (fun H locs hP hS => ?_)
          obtain ⟨I7, eI7⟩ : ∃ Znew : Nat → Nat → Int32, Znew = up2 Z 140 2 (nI 0) := ⟨_, rfl⟩
          rw [← eI7] at hP
          refine lv_aload_n hx hb dX1_passThrough_51 rfl (lv_at hl 0 rfl) ?_
          refine lv_aload_n hx hb dX1_passThrough_52 rfl (lv_at hl 1 rfl) ?_
          refine lv_aload_n hx hb dX1_passThrough_53 rfl (lv_at hl 0 rfl) ?_
          refine f_X1_17 (q := 142) C hP (by assumption) (by assumption) rfl dX1_passThrough_54 ?_
          refine lv_iload_n hx hb dX1_passThrough_57 rfl (lv_at hl 3 rfl) ?_
          refine r_ald14 (q := 143 + q) C hP (by assumption) (hXL _ (by omega)) (by omega) (by omega) dX1_passThrough_58 ?_
          have hoP := itR_ok hw (pS0_ok hw) q
          have hPT : PT 200 I σ := ⟨hR.1, hR.2.1, hR.2.2.1⟩
          refine k_X1_48 C hP hS (by assumption) (c_X1_doRound (σ := σ) (S := sA (itR σ (pS0 σ) q)) q hX0 hp0 hw (PT_cong hn8 (fun t ht => (hw.2.2.1 t ht).2.1) (fun a g1 g2 g3 => by rw [eI7, up2_r (by omega)]; exact hz.1 a (by omega) (by omega)) hPT) (by rw [eI7]; exact ⟨fun j hj => by rw [up2_r (by decide)]; exact hz.2.1.1 j hj, fun j hj => by rw [up2_r (by decide)]; exact hz.2.1.2.1 j hj, by rw [up2_k (by decide)]; exact hz.2.1.2.2.1, up2_s _ _ _ _⟩) (sA_ok hoP) (by omega)) ⟨Nat.le_of_ble_eq_true rfl, Nat.le_of_ble_eq_true rfl⟩ ⟨Nat.zero_le _, Nat.zero_le _⟩ hl.1 (Nat.le_of_ble_eq_true rfl) dX1_passThrough_59 (fun I9 H locs hv10 hP hS => ?_)
          have eI9 := hv10
          refine lv_aload_n hx hb dX1_passThrough_62 rfl (lv_at hl 0 rfl) ?_
          refine lv_iload_n hx hb dX1_passThrough_63 rfl (lv_at hl 3 rfl) ?_
          refine lv_iconst (v := nI 1) hx hb dX1_passThrough_64 (by decide) ?_
          refine r_addN C dX1_passThrough_65 ?_
          refine p_X1_52 C hP hS (by assumption) dX1_passThrough_66 (fun H locs hP hS => ?_)
          obtain ⟨I11, eI11⟩ : ∃ Znew : Nat → Nat → Int32, Znew = up2 I9 140 3 (nI (q + 1)) := ⟨_, rfl⟩
          rw [← eI11] at hP
          have hns := RunX_s hn8 (by omega) (by omega) hz (by omega) eI7 eI9 eI11
          refine lv_aload_n hx hb dX1_passThrough_69 rfl (lv_at hl 0 rfl) ?_
          refine f_X1_45 C hP (by first | assumption | exact hKa _ (by omega)) dX1_passThrough_70 ?_
          refine z_eq C dX1_passThrough_73 (tgt := 87) (by decide) (fun h12 => ?_) (fun h12 => ?_)
          · refine lv_iconst (v := nI 0) hx hb dX1_passThrough_87 (by decide) ?_
            refine lv_istore_n (lv' := [(2, .int (nI 0)), (0, .ref (ad 140)), (1, .ref (ad 200)), (3, .int (nI q))]) hx hb dX1_passThrough_88 rfl hl (by decide) rfl (fun ls hl => ?_)
            refine lv_iinc (v := nI (q + 1)) (lv' := [(3, .int (nI (q + 1))), (2, .int (nI 0)), (0, .ref (ad 140)), (1, .ref (ad 200))]) hx hb dX1_passThrough_89 hl (k := 3) rfl (nI_1 _) (by decide) rfl (fun ls hl => ?_)
            refine lv_goto (tgt := 32) hx hb dX1_passThrough_92 (by decide) ?_
            exact ih32  (q + 1) 0 I11 _ _ _ (by omega) (by omega) (by have h9 : ¬ goes (itR σ (pS0 σ) (q + 1)) := (fun z => z.1 ((hns.2.1.2.2.2 (by omega)).1.symm.trans h12)); rw [if_neg h9] at hns; exact hns) (by decide) hP hS (lv_sub hl [2, 3, 1, 0] rfl)
          · refine lv_aload_n hx hb dX1_passThrough_76 rfl (lv_at hl 0 rfl) ?_
            refine f_X1_38 C hP (by first | assumption | exact hKa _ (by omega)) dX1_passThrough_77 ?_
            refine z_ne C dX1_passThrough_80 (tgt := 87) (by decide) (fun h13 => ?_) (fun h13 => ?_)
            · refine lv_iconst (v := nI 0) hx hb dX1_passThrough_87 (by decide) ?_
              refine lv_istore_n (lv' := [(2, .int (nI 0)), (0, .ref (ad 140)), (1, .ref (ad 200)), (3, .int (nI q))]) hx hb dX1_passThrough_88 rfl hl (by decide) rfl (fun ls hl => ?_)
              refine lv_iinc (v := nI (q + 1)) (lv' := [(3, .int (nI (q + 1))), (2, .int (nI 0)), (0, .ref (ad 140)), (1, .ref (ad 200))]) hx hb dX1_passThrough_89 hl (k := 3) rfl (nI_1 _) (by decide) rfl (fun ls hl => ?_)
              refine lv_goto (tgt := 32) hx hb dX1_passThrough_92 (by decide) ?_
              exact ih32  (q + 1) 0 I11 _ _ _ (by omega) (by omega) (by have h9 : ¬ goes (itR σ (pS0 σ) (q + 1)) := (fun z => h13 (hns.2.1.2.2.1.trans z.2)); rw [if_neg h9] at hns; exact hns) (by decide) hP hS (lv_sub hl [2, 3, 1, 0] rfl)
            · refine lv_iconst (v := nI 1) hx hb dX1_passThrough_83 (by decide) ?_
              refine lv_goto (tgt := 88) hx hb dX1_passThrough_84 (by decide) ?_
              refine lv_istore_n (lv' := [(2, .int (nI 1)), (0, .ref (ad 140)), (1, .ref (ad 200)), (3, .int (nI q))]) hx hb dX1_passThrough_88 rfl hl (by decide) rfl (fun ls hl => ?_)
              refine lv_iinc (v := nI (q + 1)) (lv' := [(3, .int (nI (q + 1))), (2, .int (nI 1)), (0, .ref (ad 140)), (1, .ref (ad 200))]) hx hb dX1_passThrough_89 hl (k := 3) rfl (nI_1 _) (by decide) rfl (fun ls hl => ?_)
              refine lv_goto (tgt := 32) hx hb dX1_passThrough_92 (by decide) ?_
              exact ih32  (q + 1) 1 I11 _ _ _ (by omega) (by omega) (by have h9 : goes (itR σ (pS0 σ) (q + 1)) := ⟨fun z => h12 (hns.2.1.2.2.2 (by omega) |>.1.trans z), hns.2.1.2.2.1.symm.trans h13⟩; rw [if_pos h9] at hns; exact hns) (by decide) hP hS (lv_sub hl [2, 3, 1, 0] rfl)
  exact hL32_4 (ru σ 3 + 1) 0 1 I3 _ _ _ (by omega) (by omega) (hst) (by decide) hP hS (lv_sub hl [2, 3, 1, 0] rfl)
