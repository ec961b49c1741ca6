/-! images of the class -/
theorem img_CR {K : Nat → Nat} {L : Nat → Nat → Bool} {J J' σ : Mem} {j : Nat} (H : CR K L J σ) (hw : WF σ) (hj : j < 2) (hL : L 150 j = true) (hIP : IsP K L (300 + 100 * j)) (hP : PR (300 + 100 * j) J' σ) (hJ : ∀ a, ¬ (300 + 100 * j ≤ a ∧ a < 300 + 100 * j + 72) → J' a = J a) : CR K L J' (imU σ j) := by
  have hs : ∀ a i, ofs a i < 191 → imU σ j a i = σ a i := fun a i h => by rw [imU_lo a (by have := ofs_hi h; omega)]
  obtain ⟨p0, ⟨q1, q2⟩, ⟨c1, c2, c3⟩, ⟨p1, q, n, p2, p3, p4, p5, p6, p7⟩, im⟩ := H
  refine ⟨sig_PR hw hs (PR_hi hw (fun a g1 g2 => hJ a (by omega)) p0), ⟨by rw [hJ 132 (by omega)]; exact q1, by rw [hJ 133 (by omega)]; exact q2⟩, ⟨by rw [hJ 100 (by omega), imU_lo 10 (by decide)]; exact c1, by rw [hJ 100 (by omega), imU_lo 10 (by decide)]; exact c2, by rw [hJ 100 (by omega), imU_lo 10 (by decide)]; exact c3⟩, ⟨fun i hi => by rw [hJ 141 (by omega), imU_lo 27 (by decide)]; exact p1 i hi, q, n, p2, p3, by rw [imU_lo 10 (by decide)]; exact p4, by rw [hJ 140 (by omega)]; exact p5, by rw [hJ 140 (by omega)]; exact p6, fun r hr t ht => by rw [imU_lo 31 (by decide), hJ (143 + r) (by omega)]; exact p7 r hr t ht⟩, fun k hk => ?_⟩
  rw [imU_36]
  by_cases e : k = j
  · subst e
    rw [if_pos rfl]
    exact Or.inl ⟨rfl, hL, hIP, sig_PR hw (fun a i h => im_new h) hP, sig_WF hw (fun a i h => im_new h)⟩
  · rw [if_neg e]
    rcases im k hk with ⟨a1, a2, a3, a4, a5⟩ | ⟨b1, b2, b3⟩
    · exact Or.inl ⟨a1, a2, a3, sig_PR a5 (fun a i h => im_old (Ne.symm e) h) (PR_hi a5 (fun a g1 g2 => hJ a (by omega)) a4), sig_WF a5 (fun a i h => im_old (Ne.symm e) h)⟩
    · exact Or.inr ⟨b1, b2, fun o ho => ⟨(b3 o ho).1, fun i => by rw [hJ _ (by omega)]; exact (b3 o ho).2 i⟩⟩
set_option maxHeartbeats 4000000 in
set_option maxRecDepth 100000 in
theorem c_X6_image {l : Launch} {E : En} {K : Nat → Nat} {L : Nat → Nat → Bool} {ad : Nat → Nat} {I : Nat → Nat → Int32} {σ : Mem} (k : Int32) (hO : IsO K L) (hC : CR K L I σ) (hw : WF σ) (hNA : ∀ j, k = nI j → j < 2 → L 150 j = true) : MI l E K L ad I yX6_image cX6_image 2 (some .int) 3 [.ref (ad 100), .int k] (fun rv RJ => rv = (sImage σ k).1 ∧ CR K L RJ (sImage σ k).2 ∧ ∀ a, a < 100 → RJ a = I a) := by
  have hO0 := hO
  obtain ⟨o0, o1, o2, o3, o4, o5, hp, hk, hQ, hX, o150⟩ := hO
  have hp0 := hp
  obtain ⟨pp0, ⟨pp1, pp2, pp3, pp4⟩, pp5, hLb, pp6, pp7, pp8, hTT⟩ := hp
  have kk0 := hk
  obtain ⟨kk, hA⟩ := hk
  have a0 := (hA 0 (by decide)).1
  have c0 : K 111 = 108 := (hA 0 (by decide)).2
  have a1 := (hA 1 (by decide)).1
  have c1 : K 112 = 108 := (hA 1 (by decide)).2
  have a2 := (hA 2 (by decide)).1
  have c2 : K 113 = 108 := (hA 2 (by decide)).2
  have a3 := (hA 3 (by decide)).1
  have c3 : K 114 = 108 := (hA 3 (by decide)).2
  have a4 := (hA 4 (by decide)).1
  have c4 : K 115 = 108 := (hA 4 (by decide)).2
  have a5 := (hA 5 (by decide)).1
  have c5 : K 116 = 108 := (hA 5 (by decide)).2
  have a6 := (hA 6 (by decide)).1
  have c6 : K 117 = 108 := (hA 6 (by decide)).2
  have a7 := (hA 7 (by decide)).1
  have c7 : K 118 = 108 := (hA 7 (by decide)).2
  have a8 := (hA 8 (by decide)).1
  have c8 : K 119 = 108 := (hA 8 (by decide)).2
  have a9 := (hA 9 (by decide)).1
  have c9 : K 120 = 108 := (hA 9 (by decide)).2
  have hQ0 := hQ
  obtain ⟨q0, q1, q2, q3, q4, q5, q6⟩ := hQ
  have hX0 := hX
  obtain ⟨x0, x1, x2, x3, x4, hXL, hXK⟩ := hX
  have hn8 := hw.2.1
  have hR := hC.1
  have h200 : I 200 0 = nI (mn σ) := hR.1.trans hw.1
  have t0 : (nI 0).toInt = 0 := rfl
  have t1 : (nI 1).toInt = 1 := rfl
  have t2 : (nI 2).toInt = 2 := rfl
  have t4 : (nI 4).toInt = 4 := rfl
  have t6 : (nI 6).toInt = 6 := rfl
  have t8 : (nI 8).toInt = 8 := rfl
  have t10 : (nI 10).toInt = 10 := rfl
  have t255 : (nI 255).toInt = 255 := rfl
  have t65535 : (nI 65535).toInt = 65535 := rfl
  refine MI.of (by decide) (Nat.le_of_ble_eq_true rfl) ?_
  intro p ee s m args below meth c ls Qf C hret hP hl
  have C : Cx E p s m args c cX6_image RX6 2 := C
  have hx := C.1
  have hb := C.2.1
  have hS : va_S (AG E) s.heap s.heap [] := va_S.rf
  have hl : lv_has ls 2 [(0, .ref (ad 100)), (1, .int k)] := hl
  refine lv_iload_n hx hb dX6_image_0 rfl (lv_at hl 1 rfl) ?_
  refine lv_iconst (v := nI 2) hx hb dX6_image_1 (by decide) ?_
  refine k_X6_41 C hP hS (c_X6_isIn k ((nI 2))) ⟨Nat.le_of_ble_eq_true rfl, Nat.le_of_ble_eq_true rfl⟩ ⟨Nat.zero_le _, Nat.zero_le _⟩ hl.1 (Nat.le_of_ble_eq_true rfl) dX6_image_2 (fun v1 I2 H locs hv3 hP hS => ?_)
  obtain ⟨eI2, hv3⟩ := hv3
  rw [eI2] at hP
  clear eI2
  rcases hv3 with ⟨rfl, hc4⟩ | ⟨rfl, hc4⟩
  · refine z_ne1 C dX6_image_5 (tgt := 11) (by decide) ?_
    obtain ⟨j, hj, ej⟩ : ∃ j : Nat, j < 2 ∧ k = nI j := ⟨k.toInt.toNat, by omega, i32_eq (by omega) (by omega)⟩
    have cj : tn k = j := by rw [ej]; exact nI_clamp (by omega)
    rw [ej] at hl
    refine lv_aload_n hx hb dX6_image_11 rfl (lv_at hl 0 rfl) ?_
    refine f_X6_37 (q := 150) C hP (by assumption) (by assumption) rfl dX6_image_12 ?_
    refine lv_iload_n hx hb dX6_image_15 rfl (lv_at hl 1 rfl) ?_
    have i2 := hNA j ej hj
    rcases hC.2.2.2.2 j (by omega) with ⟨i1, i22, i3, i4, i5⟩ | ⟨i1, i22, i3⟩
    · have gk0 := i3.1
      refine r_ald13 (q := 300 + 100 * j) C hP (by assumption) (by assumption) (by omega) (by omega) dX6_image_16 ?_
      refine lv_ifnonnull hx hb dX6_image_17 (tgt := 33) (by decide) ?_
      refine lv_aload_n hx hb dX6_image_33 rfl (lv_at hl 0 rfl) ?_
      refine f_X6_37 (q := 150) C hP (by assumption) (by assumption) rfl dX6_image_34 ?_
      refine lv_iload_n hx hb dX6_image_37 rfl (lv_at hl 1 rfl) ?_
      refine r_ald13 (q := 300 + 100 * j) C hP (by assumption) (by assumption) (by omega) (by omega) dX6_image_38 ?_
      refine lv_aload_n hx hb dX6_image_39 rfl (lv_at hl 0 rfl) ?_
      refine f_X6_12 (q := 200) C hP (by assumption) (by assumption) rfl dX6_image_40 ?_
      refine k_X6_207 C hP hS (by assumption) (c_X3_copy (σ := σ) (300 + 100 * j) 200 (mn σ) i3 hp0 i4.2.1 hR hw rfl (by omega)) ⟨Nat.le_of_ble_eq_true rfl, Nat.le_of_ble_eq_true rfl⟩ ⟨Nat.zero_le _, Nat.zero_le _⟩ hl.1 (Nat.le_of_ble_eq_true rfl) dX6_image_43 (fun I6 H locs hv7 hP hS => ?_)
      have eI6 := hv7
      refine lv_iconst (v := nI 1) hx hb dX6_image_46 (by decide) ?_
      exact hret _ _ _ _ _ _ dX6_image_47 hP hS (by unfold sImage; rw [if_pos (by omega), cj]; exact ⟨rfl, img_CR hC hw hj i2 i3 eI6.2 (fun a ha => eI6.1 a ha), fun a ha => eI6.1 a (by omega)⟩)
    · exact absurd (i2.symm.trans i22) (by decide)
  · refine z_ne0 C dX6_image_5 (tgt := 11) (by decide) ?_
    refine lv_bipush (v := (-2)) hx hb dX6_image_8 (by decide) ?_
    exact hret _ _ _ _ _ _ dX6_image_10 hP hS (by unfold sImage; rw [if_neg (by omega)]; exact ⟨rfl, hC, fun _ _ => rfl⟩)
