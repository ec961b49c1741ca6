/-! the addresses of the roles; the first world -/
def off (k r : Nat) : Nat := if r = 100 then 0 else if 200 ≤ r ∧ r < 208 then r - 199 else if 208 ≤ r ∧ r < 300 then r - 202 else if r = 110 then 70 else if 111 ≤ r ∧ r < 130 then r - 40 else if r = 130 then 81 else if 131 ≤ r ∧ r < 140 then r - 49 else if 140 ≤ r ∧ r < 150 then r - 55 else if r = 150 then 92 else if r ≤ 27 then r + 83 else if r = 31 then 111 else if r = 35 then 112 else if r = 36 then 113 else if 300 ≤ r ∧ r < 400 then (if k = 0 then 114 else 183) + (if r - 300 < 5 then r - 300 else r - 303) else (if k = 0 then 183 else 114) + (if r - 400 < 5 then r - 400 else r - 403)
def onv (k n : Nat) : Nat := if n = 0 then 100 else if n < 6 then n + 199 else if n < 70 then n + 202 else if n = 70 then 110 else if n < 81 then n + 40 else if n = 81 then 130 else if n < 85 then n + 49 else if n < 92 then n + 55 else if n = 92 then 150 else if n < 111 then n - 83 else if n = 111 then 31 else if n = 112 then 35 else if n = 113 then 36 else if n < 183 then (if k = 0 then 300 else 400) + (if n - 114 < 5 then n - 114 else n - 111) else (if k = 0 then 400 else 300) + (if n - 183 < 5 then n - 183 else n - 180)
theorem off_onv : ∀ k, k < 2 → ∀ r, r < 472 → KF r ≠ 0 → onv k (off k r) = r := by decide +kernel
theorem off_lo : ∀ k, k < 2 → ∀ r, r < 300 → KF r ≠ 0 → off k r < 114 := by decide +kernel
theorem KF_hi {r : Nat} (h : KF r ≠ 0) : r < 472 := by
  by_cases q : r < 472
  · exact q
  · refine absurd ?_ h
    unfold KF
    rw [if_neg (by omega), if_neg (by omega), if_neg (by omega)]
    unfold kS
    repeat rw [if_neg (by omega)]
def adF (B k : Nat) : Nat → Nat := fun r => B + off k r
theorem ad_AI {B k : Nat} (hk : k < 2) : AI (adF B k) := fun r q hr hq h => by
  have e : off k r = off k q := by unfold adF at h; omega
  rw [← off_onv k hk r (KF_hi hr) hr, ← off_onv k hk q (KF_hi hq) hq, e]
theorem ad_K {B k z : Nat} (hk : k < 2) (hz : B + 114 ≤ z) : ∀ r, r < 300 → KF r ≠ 0 → KK (adF B k) z r = KF r := fun r h1 h2 => kkf (by have := off_lo k hk r h1 h2; unfold adF; omega) rfl
def obs (k j : Nat) : Nat := if j = k then 114 else 183
theorem off_ib : ∀ k, k < 2 → ∀ j, j < 2 → off k (300 + 100 * j) = obs k j := by decide +kernel
theorem off_ip : ∀ k, k < 2 → ∀ j, j < 2 → ∀ o, o < 5 → off k (300 + 100 * j + o) = obs k j + o := by decide +kernel
theorem off_iq1 : ∀ k, k < 2 → ∀ j, j < 2 → ∀ o, o < 64 → off k (300 + 100 * j + (8 + o)) = obs k j + (8 + o) - 3 := by decide +kernel
theorem off_iq {k j o : Nat} (hk : k < 2) (hj : j < 2) (h8 : 8 ≤ o) (ho : o < 72) : off k (300 + 100 * j + o) = obs k j + o - 3 := by
  have h := off_iq1 k hk j hj (o - 8) (by omega)
  rw [show 8 + (o - 8) = o by omega] at h
  exact h
theorem IsM_mono {K K' : Nat → Nat} {L L' : Nat → Nat → Bool} (hK : ∀ r, K r ≠ 0 → K' r = K r) (hL : L' 10 = L 10) (H : IsM K L) : IsM K' L' := by
  unfold IsM at H ⊢
  rw [hL]
  obtain ⟨h0, l1, l2, l3, l4, l5, l6, l7, l8, l9, l10, l11, l12, l13, l14, l15, l16, l17, l21, l25, l26, k11, k12, k13, k14, k15, k16, k17, k18, k19, k20, k21, k22, k23, k24, k25, k26, k27, k31, k35, k36⟩ := H
  exact ⟨(hK 10 (by omega)).trans h0, l1, l2, l3, l4, l5, l6, l7, l8, l9, l10, l11, l12, l13, l14, l15, l16, l17, l21, l25, l26, (hK 11 (by omega)).trans k11, (hK 12 (by omega)).trans k12, (hK 13 (by omega)).trans k13, (hK 14 (by omega)).trans k14, (hK 15 (by omega)).trans k15, (hK 16 (by omega)).trans k16, (hK 17 (by omega)).trans k17, (hK 18 (by omega)).trans k18, (hK 19 (by omega)).trans k19, (hK 20 (by omega)).trans k20, (hK 21 (by omega)).trans k21, (hK 22 (by omega)).trans k22, (hK 23 (by omega)).trans k23, (hK 24 (by omega)).trans k24, (hK 25 (by omega)).trans k25, (hK 26 (by omega)).trans k26, (hK 27 (by omega)).trans k27, (hK 31 (by omega)).trans k31, (hK 35 (by omega)).trans k35, (hK 36 (by omega)).trans k36⟩
def L00 : Nat → Nat → Bool := fun _ _ => false
def I00 : Mem := fun _ _ => 0
def L01 : Nat → Nat → Bool := LMd (LO L00)
def I01 : Mem := IMd (IP I00 200 8)
theorem LMd_r {L : Nat → Nat → Bool} {a : Nat} (h : a ≠ 10) : LMd L a = L a := by
  unfold LMd
  simp only [sL_r h]
theorem LO_r {L : Nat → Nat → Bool} {a : Nat} (h1 : a ≠ 100) (h2 : a ≠ 110) (h3 : a ≠ 130) (h4 : a ≠ 140) (h5 : a ≠ 142) : LO L a = Lpg L 200 8 a := by
  unfold LO
  rw [sL_r h1, sL_r h1, sL_r h4, sL4_r h5, sL_r h4, sL_r h1, Lsq_r h3, sL_r h1, Lsq_r h2, sL_r h1]
theorem I01_r {a : Nat} (h1 : a ≠ 19) (h2 : a < 200 ∨ 272 ≤ a) (j : Nat) : I01 a j = 0 := by
  unfold I01 IMd
  rw [up2_r h1, up2_r h1, up2_r h1, up2_r h1, IP_r (by omega)]
  rfl
theorem I01_p {a : Nat} (h2 : 200 ≤ a) : I01 a = IP I00 200 8 a := by
  unfold I01 IMd
  rw [up2_r (by omega), up2_r (by omega), up2_r (by omega), up2_r (by omega)]
theorem I01_19 : I01 19 0 = nI 10 ∧ I01 19 1 = nI 2 ∧ I01 19 2 = nI 8 ∧ I01 19 3 = nI 3 := ⟨by decide, by decide, by decide, by decide⟩
theorem mn01 : mn I01 = 0 := by
  unfold mn
  rw [I01_r (by decide) (by decide)]; rfl
theorem wf01 : WF I01 := by
  obtain ⟨r0, r1, r2, r3⟩ := I01_19
  unfold WF
  rw [mn01, r0, r1, r2, r3]
  refine ⟨by rw [I01_r (by decide) (by decide)]; rfl, by decide, fun t ht => absurd ht (Nat.not_lt_zero t), fun i _ => by rw [I01_r (by decide) (by decide)]; decide, by decide, fun i _ => by rw [I01_r (by decide) (by decide)]; decide⟩
theorem L01_p {a : Nat} (h1 : 200 ≤ a) : L01 a = Lpg L00 200 8 a := by
  unfold L01
  rw [LMd_r (by omega), LO_r (by omega) (by omega) (by omega) (by omega) (by omega)]
theorem pr01 : PR 200 I01 I01 := by
  obtain ⟨r0, r1, r2, r3⟩ := I01_19
  have z0 : ∀ a, a = 200 ∨ a = 202 ∨ a = 204 → ∀ i, I01 a i = 0 := fun a ha i => by
    rw [I01_p (by omega)]
    unfold IP
    rw [if_neg (by omega), if_neg (by omega), if_neg (by omega)]; rfl
  refine ⟨by rw [z0 200 (by omega), I01_r (by decide) (by decide)], PM_cong (fun t _ => by rw [I01_p (by decide)]) (PM_new I00 200), fun t ht => absurd ht (by rw [mn01]; exact Nat.not_lt_zero t), fun i _ => by rw [z0 (200 + 2) (by omega), I01_r (by decide) (by decide)], fun i hi => ?_, fun i _ => by rw [z0 (200 + 4) (by omega), I01_r (by decide) (by decide)]⟩
  rw [I01_p (by decide)]
  rcases (show i = 0 ∨ i = 1 ∨ i = 2 ∨ i = 3 by omega) with rfl | rfl | rfl | rfl
  · rw [r0]; rfl
  · rw [r1]; rfl
  · rw [r2]; rfl
  · rw [r3]; rfl
theorem cr01 (K : Nat → Nat) : CR K L01 I01 I01 := by
  refine ⟨pr01, ⟨I01_r (by decide) (by decide) 0, I01_r (by decide) (by decide) 0⟩, ⟨by rw [I01_r (by decide) (by decide), I01_r (by decide) (by decide)], by rw [I01_r (by decide) (by decide), I01_r (by decide) (by decide)], by rw [I01_r (by decide) (by decide), I01_r (by decide) (by decide)]⟩, ⟨fun j _ => by rw [I01_r (by decide) (by decide), I01_r (by decide) (by decide)], 0, 0, by decide, by decide, I01_r (by decide) (by decide) _, I01_r (by decide) (by decide) _, I01_r (by decide) (by decide) _, fun r hr => absurd hr (Nat.not_lt_zero r)⟩, fun k hk => Or.inr ⟨I01_r (by decide) (by decide) k, ?_, fun w hw => ⟨fun j => ?_, fun j => I01_r (by omega) (by omega) j⟩⟩⟩
  · rcases (show k = 0 ∨ k = 1 by omega) with rfl | rfl <;> rfl
  · rw [L01_p (by omega), Lpg_r (by omega)]; rfl
theorem kP_m : ∀ o, o < 72 → KF (200 + o) = kP o := by decide +kernel
theorem o01 {B k : Nat} (hk : k < 2) : IsO (KK (adF B k) (B + 114)) L01 := by
  have hK := ad_K (z := B + 114) hk (Nat.le_refl (B + 114))
  have h8 : ∀ j, j < 10 → KF (111 + j) = 108 ∧ L01 110 j = true := by decide +kernel
  have h4 : ∀ j, j < 4 → KF (143 + j) = 108 ∧ L01 142 j = true := by decide +kernel
  refine ⟨(hK 100 (by decide) (by decide)).trans (by decide), by decide, by decide, by decide, by decide, by decide, IsP_new (L := L00) kP_m (fun o ho h => (kk0 (by rw [hK (200 + o) (by omega) (by rw [kP_m o ho]; exact h), kP_m o ho]; exact h)).1) (fun a g1 g2 => L01_p g1), ⟨(hK 110 (by decide) (by decide)).trans (by decide), fun j hj => ⟨(h8 j hj).2, (hK (111 + j) (by omega) (by rw [(h8 j hj).1]; decide)).trans (h8 j hj).1⟩⟩, ⟨(hK 130 (by decide) (by decide)).trans (by decide), by decide, by decide, by decide, (hK 131 (by decide) (by decide)).trans (by decide), (hK 132 (by decide) (by decide)).trans (by decide), (hK 133 (by decide) (by decide)).trans (by decide)⟩, ⟨(hK 140 (by decide) (by decide)).trans (by decide), by decide, by decide, (hK 141 (by decide) (by decide)).trans (by decide), (hK 142 (by decide) (by decide)).trans (by decide), fun j hj => (h4 j hj).2, fun j hj => (hK (143 + j) (by omega) (by rw [(h4 j hj).1]; decide)).trans (h4 j hj).1⟩, (hK 150 (by decide) (by decide)).trans (by decide)⟩
theorem m01 {B k : Nat} (hk : k < 2) : IsM (KK (adF B k) (B + 114)) L01 := by
  have hK := ad_K (z := B + 114) hk (Nat.le_refl (B + 114))
  exact ⟨(hK 10 (by decide) (by decide)).trans (by decide), by decide, by decide, by decide, by decide, by decide, by decide, by decide, by decide, by decide, by decide, by decide, by decide, by decide, by decide, by decide, by decide, by decide, by decide, by decide, by decide, (hK 11 (by decide) (by decide)).trans (by decide), (hK 12 (by decide) (by decide)).trans (by decide), (hK 13 (by decide) (by decide)).trans (by decide), (hK 14 (by decide) (by decide)).trans (by decide), (hK 15 (by decide) (by decide)).trans (by decide), (hK 16 (by decide) (by decide)).trans (by decide), (hK 17 (by decide) (by decide)).trans (by decide), (hK 18 (by decide) (by decide)).trans (by decide), (hK 19 (by decide) (by decide)).trans (by decide), (hK 20 (by decide) (by decide)).trans (by decide), (hK 21 (by decide) (by decide)).trans (by decide), (hK 22 (by decide) (by decide)).trans (by decide), (hK 23 (by decide) (by decide)).trans (by decide), (hK 24 (by decide) (by decide)).trans (by decide), (hK 25 (by decide) (by decide)).trans (by decide), (hK 26 (by decide) (by decide)).trans (by decide), (hK 27 (by decide) (by decide)).trans (by decide), (hK 31 (by decide) (by decide)).trans (by decide), (hK 35 (by decide) (by decide)).trans (by decide), (hK 36 (by decide) (by decide)).trans (by decide)⟩
