/-! one step of the law: the two answers agree, the invariant holds again -/
theorem wf_table {σ : Mem} (k : Int32) (hw : WF σ) : WF (sTable σ k).2 := by
  unfold sTable
  by_cases h1 : isFd k
  · rw [if_pos h1]
    by_cases h2 : mn σ = 8
    · rw [if_pos h2]; exact hw
    · rw [if_neg h2]; exact tab_WF hw (by have := hw.2.1; omega) h1
  · rw [if_neg h1]; exact hw
theorem isTb_tn {σ : Mem} {t : Int32} (h : isTb σ t) : tn t < mn σ := nv_lt h.1 h.2
theorem wf_entry {σ : Mem} (t v k g x : Int32) (hw : WF σ) : WF (sEntry σ t v k g x).2 := by
  unfold sEntry
  by_cases h1 : isTb σ t
  · rw [if_pos h1]
    by_cases h2 : (0 ≤ v.toInt ∧ v.toInt ≤ 255) ∧ okA k g x
    · rw [if_pos h2]
      by_cases h3 : fnd (fun e => σ 13 (5 * tn t + e)) v (en σ (tn t)) 0 ≠ 4 ∨ (hrg k ∧ tk σ (tn t) x)
      · rw [if_pos h3]; exact hw
      · rw [if_neg h3]
        by_cases h4 : en σ (tn t) = 4
        · rw [if_pos h4]; exact hw
        · rw [if_neg h4]
          have hu := isTb_tn h1
          have := en_le hw _ hu
          exact ent_WF hw hu (by omega) h2.2 (Decidable.not_not.mp fun q => h3 (Or.inl q))
    · rw [if_neg h2]; exact hw
  · rw [if_neg h1]; exact hw
theorem wf_other {σ : Mem} (t k g x : Int32) (hw : WF σ) : WF (sOther σ t k g x).2 := by
  unfold sOther
  by_cases h1 : isTb σ t
  · rw [if_pos h1]
    by_cases h2 : okA k g x
    · rw [if_pos h2]
      by_cases h3 : hrg k ∧ tk σ (tn t) x
      · rw [if_pos h3]; exact hw
      · rw [if_neg h3]; exact oth_WF hw (isTb_tn h1) h2
    · rw [if_neg h2]; exact hw
  · rw [if_neg h1]; exact hw
theorem wf_forget {σ : Mem} (t e : Int32) (hw : WF σ) : WF (sForget σ t e).2 := by
  unfold sForget
  by_cases h1 : isTb σ t
  · rw [if_pos h1]
    by_cases h2 : 0 ≤ e.toInt ∧ e.toInt < (en σ (tn t) : Int)
    · rw [if_pos h2]; exact fg_WF hw (isTb_tn h1) (nv_lt h2.1 h2.2)
    · rw [if_neg h2]; exact hw
  · rw [if_neg h1]; exact hw
theorem wf_drop {σ : Mem} (t : Int32) (hw : WF σ) : WF (sDrop σ t).2 := by
  unfold sDrop
  by_cases h1 : isTb σ t
  · rw [if_pos h1]; exact dr_WF hw (isTb_tn h1)
  · rw [if_neg h1]; exact hw
theorem tn_eq {w : Int32} {j : Nat} (h : w.toInt = (j : Int)) : tn w = j := by show w.toInt.toNat = j; omega
theorem wf_rule {σ : Mem} (w n : Int32) (hw : WF σ) : WF (sRule σ w n).2 := by
  unfold sRule
  by_cases h1 : (0 ≤ w.toInt ∧ w.toInt < 4) ∧ (ruL w ≤ n.toInt ∧ n.toInt ≤ ruH w)
  · rw [if_pos h1]
    obtain ⟨⟨a1, a2⟩, b1, b2⟩ := h1
    unfold ruL at b1
    unfold ruH at b2
    refine up_WF hw (Or.inr (Or.inr rfl)) ⟨fun h => absurd h (by decide), fun h => absurd h (by decide), fun _ => ⟨fun h => ?_, fun h => ?_, fun h => ?_, fun h => ?_⟩⟩
    · have e : w.toInt = 0 := by have : w.toInt.toNat = 0 := h; omega
      rw [if_pos e] at b1 b2; exact ⟨b1, b2⟩
    · have e : w.toInt = 1 := by have : w.toInt.toNat = 1 := h; omega
      rw [if_neg (by omega)] at b1; rw [if_neg (by omega), if_neg (by omega)] at b2; exact ⟨b1, b2⟩
    · have e : w.toInt = 2 := by have : w.toInt.toNat = 2 := h; omega
      rw [if_neg (by omega)] at b1; rw [if_neg (by omega), if_pos (by omega)] at b2; exact ⟨b1, b2⟩
    · have e : w.toInt = 3 := by have : w.toInt.toNat = 3 := h; omega
      rw [if_neg (by omega)] at b1; rw [if_neg (by omega), if_neg (by omega)] at b2; exact ⟨b1, b2⟩
  · rw [if_neg h1]; exact hw
theorem wf_tell {σ : Mem} (f n : Int32) (hw : WF σ) : WF (sTell σ f n).2 := by
  unfold sTell
  by_cases h1 : isFd f
  · rw [if_pos h1]
    by_cases h2 : 0 ≤ n.toInt ∧ n.toInt ≤ 255
    · rw [if_pos h2]
      exact up_WF hw (Or.inr (Or.inl rfl)) ⟨fun h => absurd h (by decide), fun _ => h2, fun h => absurd h (by decide)⟩
    · rw [if_neg h2]; exact hw
  · rw [if_neg h1]; exact hw
theorem wf_put {σ : Mem} (f n : Int32) (hw : WF σ) : WF (sPut σ f n).2 := by
  unfold sPut
  by_cases h1 : 0 ≤ f.toInt ∧ f.toInt < 4
  · rw [if_pos h1]
    by_cases h2 : 0 ≤ n.toInt ∧ n.toInt ≤ 65535
    · rw [if_pos h2]
      exact up_WF hw (Or.inl rfl) ⟨fun _ => h2, fun h => absurd h (by decide), fun h => absurd h (by decide)⟩
    · rw [if_neg h2]; exact hw
  · rw [if_neg h1]; exact hw
theorem wf_image {σ : Mem} (k : Int32) (hw : WF σ) : WF (sImage σ k).2 := by
  unfold sImage
  by_cases h1 : 0 ≤ k.toInt ∧ k.toInt < 2
  · rw [if_pos h1]; exact sig_WF hw (fun a i h => by show imU σ (tn k) a i = σ a i; rw [imU_lo a (by have := ofs_hi h; omega)])
  · rw [if_neg h1]; exact hw
theorem st_pair {K : Nat → Nat} {L : Nat → Nat → Bool} {I J J2 : Mem} {f : Mem → Int32 × Mem} {v v2 : Int32} (hf : Lcl f) (hwf : WF (f I).2) (hLo : Lo I J) (ev : v = (f I).1) (hCJ : CR K L J (f I).2) (ev2 : v2 = (f J).1) (eJ2 : J2 = (f J).2) : v = v2 ∧ CR K L J2 J2 ∧ WF J2 := by
  obtain ⟨h1, h2⟩ := hf.1 I J hLo
  subst eJ2
  refine ⟨by rw [ev, ev2, h1], CR_lo h2 hwf (fun a ha => hf.2 J a ha) hCJ, ?_⟩
  rw [← lo_WF h2]; exact hwf
theorem CR_sm {K : Nat → Nat} {L : Nat → Nat → Bool} {J J2 I : Mem} (hw : WF I) (hLo : Lo I J) (hSm : Sm J J2) (H : CR K L J I) : CR K L J2 J2 ∧ WF J2 := by
  have hs : ∀ a i, ofs a i < 191 → J2 a i = I a i := fun a i h => by
    have := ofs_hi h
    rw [hSm a (by omega), hLo a (by omega)]
  refine ⟨CR_c H (sig_PR hw hs (PR_hi hw (fun a g1 g2 => hSm a (by omega)) H.1)) (by rw [hSm 132 (by omega), hSm 133 (by omega)]; exact H.2.1) (fun a ha => hSm a (by omega)) (fun a g1 g2 => by rw [hSm a (by omega), hLo a g2]) (fun i _ => by rw [hSm 10 (by omega), hLo 10 (by decide)]), sig_WF hw hs⟩
theorem st_pure {K : Nat → Nat} {L : Nat → Nat → Bool} {I J J2 : Mem} {g : Mem → Int32} {v v2 : Int32} (hg : ∀ σ τ, Lo σ τ → g σ = g τ) (hw : WF I) (hLo : Lo I J) (ev : v = g I) (hCJ : CR K L J I) (hSm : Sm J J2) (ev2 : v2 = g J) : v = v2 ∧ CR K L J2 J2 ∧ WF J2 :=
  ⟨by rw [ev, ev2, hg I J hLo], CR_sm hw hLo hSm hCJ⟩
theorem st_few {K : Nat → Nat} {L : Nat → Nat → Bool} {I J J2 : Mem} {v v2 : Int32} (hw : WF I) (hLo : Lo I J) (ev : sFew I v) (hCJ : CR K L J I) (hSm : Sm J J2) (ev2 : sFew J v2) : v = v2 ∧ CR K L J2 J2 ∧ WF J2 :=
  ⟨sFew_uni ev (by rw [lo_sFew hLo]; exact ev2), CR_sm hw hLo hSm hCJ⟩
theorem tk1_at {σ : Mem} {S : PSt} {t : Nat} (h : t < mn σ) : ∃ x, tk1 σ S t = x ∧ x = nI (stT σ t (rnd σ t S)) := ⟨_, rfl, by unfold tk1; rw [if_pos h]⟩
theorem st_run {K : Nat → Nat} {L : Nat → Nat → Bool} {I J J2 : Mem} {v v2 : Int32} (hw : WF I) (hC : CR K L I I) (hLo : Lo I J) (ev : v = sRun I) (h0 : pkS I (mn I) = none → CR K L J I) (h1 : pkS I (mn I) ≠ none → RunC I I J) (ev2 : v2 = sRun J) (g0 : pkS J (mn J) = none → Sm J J2) (g1 : pkS J (mn J) ≠ none → RunP J J2) : v = v2 ∧ CR K L J2 J2 ∧ WF J2 := by
  have epk : pkS J (mn J) = pkS I (mn I) := by rw [← lo_mn hLo, ← lo_pkS hLo]
  refine ⟨by rw [ev, ev2, lo_sRun hLo], ?_⟩
  by_cases hn : pkS I (mn I) = none
  · exact CR_sm hw hLo (g0 (epk.trans hn)) (h0 hn)
  · obtain ⟨r1, ⟨r2, r3, r4⟩, r5, r6, r7, r8, r9⟩ := h1 hn
    obtain ⟨s1, s2, s3, s4, s5, s6, s7, s8, s9⟩ := g1 (fun q => hn (epk.symm.trans q))
    rw [← lo_rS hLo] at s3 s4 s7
    rw [← lo_rN hLo] at s5 s8 s9
    obtain ⟨c0, ⟨c1, c2⟩, ⟨c3, c4, c5⟩, -, im⟩ := hC
    have hn8 := hw.2.1
    have hru := wf_ru hw
    have hN4 : rN I ≤ 4 := by
      have := (rnN_le I (pS0 I) (ru I 3) 0).2
      unfold rN; omega
    have hJ2 : ∀ a, 100 ≤ a → J2 a = J a := fun a ha => s1 a (by omega) (by omega) (by omega) (by omega) (by omega)
    have hI2 : ∀ a, 100 ≤ a → a ≠ 100 → (a < 110 ∨ 120 < a) → (a < 140 ∨ 146 < a) → a ≠ 202 → J2 a = I a := fun a g1 g2 g3 g4 g5 => by rw [hJ2 a g1]; exact r1 a g2 g3 g4 g5
    have hlo2 : ∀ a, a < 20 → a ≠ 10 → a ≠ 17 → J2 a = I a := fun a g1 g2 g3 => by rw [s1 a g2 g3 (by omega) (by omega) (by omega), hLo a (by omega)]
    have h100 : J2 10 0 = I 10 0 := by rw [s2 0 (by decide) (by decide) (by decide) (by decide) (by decide) (by decide), hLo 10 (by decide)]
    have hmn : mn J2 = mn I := mn_cong h100
    have hPT : PT 200 J2 I := PT_cong hn8 (en_le hw) (fun a g1 g2 g3 => hI2 a (by omega) (by omega) (by omega) (by omega) (by omega)) ⟨c0.1, c0.2.1, c0.2.2.1⟩
    have hok := itR_ok hw (pS0_ok hw) (rN I)
    refine ⟨⟨⟨by rw [hPT.1, h100], hPT.2.1, fun t ht => ?_, fun i hi => by rw [hJ2 202 (by decide), r6 i hi, s4 i hi], fun i hi => by rw [hI2 203 (by omega) (by omega) (by omega) (by omega) (by omega), hlo2 19 (by decide) (by decide) (by decide)]; exact c0.2.2.2.2.1 i hi, fun i hi => by rw [hI2 204 (by omega) (by omega) (by omega) (by omega) (by omega), hlo2 18 (by decide) (by decide) (by decide)]; exact c0.2.2.2.2.2 i hi⟩, ⟨by rw [hI2 132 (by omega) (by omega) (by omega) (by omega) (by omega)]; exact c1, by rw [hI2 133 (by omega) (by omega) (by omega) (by omega) (by omega)]; exact c2⟩, ⟨by rw [hJ2 100 (by decide), r2, s6, c3, hLo 10 (by decide)], by rw [hJ2 100 (by decide), r3, s7, c4, hLo 10 (by decide)], by rw [hJ2 100 (by decide), r4, s8, c5, hLo 10 (by decide)]⟩, ⟨fun j hj => by rw [hJ2 141 (by decide), r5 j hj, s3 j hj], rN I, mn I, hN4, hn8, s5, by rw [hJ2 140 (by decide)]; exact r7, by rw [hJ2 140 (by decide)]; exact r8, fun r hr t ht => ?_⟩, fun k hk => ?_⟩, ?_⟩
    · rw [hmn] at ht
      exact TRp_to (by rw [hlo2 11 (by decide) (by decide) (by decide)]) (by rw [hlo2 12 (by decide) (by decide) (by decide)]) (fun a g1 g2 e _ => by rw [hlo2 a (by omega) (by omega) (by omega)]) (en_le hw t ht) (hPT.2.2 t ht)
    · rw [s9 r hr t ht, hJ2 (143 + r) (by omega), ← lo_itR hLo, ← lo_pS0 hLo, ← lo_tk1 hLo]
      by_cases q : t < mn I
      · rw [if_pos q, r9 r hr t q]
      · rw [if_neg q]; unfold tk1; rw [if_neg q]
    · have e : imM J2 k = imM I k := by unfold imM; rw [s1 35 (by decide) (by decide) (by decide) (by decide) (by decide), hLo 35 (by decide)]
      rw [e, s1 36 (by decide) (by decide) (by decide) (by decide) (by decide), ← hLo 36 (by decide)]
      rcases im k hk with ⟨a1, a2, a3, a4, a5⟩ | ⟨b1, b2, b3⟩
      · exact Or.inl ⟨a1, a2, a3, PR_hi a5 (fun a g1 g2 => hI2 a (by omega) (by omega) (by omega) (by omega) (by omega)) a4, a5⟩
      · exact Or.inr ⟨b1, b2, fun o ho => ⟨(b3 o ho).1, fun j => by rw [hI2 _ (by omega) (by omega) (by omega) (by omega) (by omega)]; exact (b3 o ho).2 j⟩⟩
    · obtain ⟨w1, w2, w3, w4, w5, w6⟩ := hw
      unfold WF
      rw [hmn, h100, hlo2 18 (by decide) (by decide) (by decide), hlo2 19 (by decide) (by decide) (by decide)]
      refine ⟨w1, w2, fun t ht => WFt_to (by rw [hlo2 11 (by decide) (by decide) (by decide)]) (by rw [hlo2 12 (by decide) (by decide) (by decide)]) (fun a g1 g2 e _ => by rw [hlo2 a (by omega) (by omega) (by omega)]) (w3 t ht), fun i hi => by rw [s4 i hi]; exact hok.2.1 i hi, w5, w6⟩
/-- restore -/
theorem wf_rest {K : Nat → Nat} {L : Nat → Nat → Bool} {I J : Mem} (k : Int32) (hw : WF I) (hC : CR K L J I) : WF (sRest I k).2 := by
  unfold sRest
  by_cases h1 : 0 ≤ k.toInt ∧ k.toInt < 2
  · rw [if_pos h1]
    by_cases h2 : I 36 (tn k) = 0
    · rw [if_pos h2]; exact hw
    · rw [if_neg h2]
      rcases hC.2.2.2.2 (tn k) (nv_lt h1.1 h1.2) with ⟨-, -, -, -, a5⟩ | ⟨b1, -, -⟩
      · exact sig_WF a5 (fun a i h => re_im h)
      · exact absurd b1 h2
  · rw [if_neg h1]; exact hw
