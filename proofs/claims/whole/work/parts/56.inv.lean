/-! the invariant of the component against the abstract state -/
def imM (σ : Mem) (k : Nat) : Mem := fun a i => σ 35 (191 * k + ofs a i)
def PKT (J σ : Mem) : Prop := (∀ j, j < 6 → J 141 j = σ 27 j) ∧ ∃ q n, q ≤ 4 ∧ n ≤ 8 ∧ σ 10 20 = nI q ∧ J 140 3 = nI q ∧ J 140 4 = nI n ∧ ∀ r, r < q → ∀ t, t < 8 → σ 31 (8 * r + t) = if t < n then J (143 + r) t else -6
def Fre (L : Nat → Nat → Bool) (J : Mem) (b : Nat) : Prop := ∀ o, o < 72 → (∀ j, L (b + o) j = false) ∧ ∀ j, J (b + o) j = 0
def IMG (K : Nat → Nat) (L : Nat → Nat → Bool) (J σ : Mem) : Prop := ∀ k, k < 2 → (σ 36 k = nI 1 ∧ L 150 k = true ∧ IsP K L (300 + 100 * k) ∧ PR (300 + 100 * k) J (imM σ k) ∧ WF (imM σ k)) ∨ (σ 36 k = nI 0 ∧ L 150 k = false ∧ Fre L J (300 + 100 * k))
def CR (K : Nat → Nat) (L : Nat → Nat → Bool) (J σ : Mem) : Prop := PR 200 J σ ∧ (J 132 0 = nI 0 ∧ J 133 0 = nI 0) ∧ (J 100 5 = σ 10 22 ∧ J 100 6 = σ 10 23 ∧ J 100 7 = σ 10 24) ∧ PKT J σ ∧ IMG K L J σ
/-- the object's parts -/
def IsO (K : Nat → Nat) (L : Nat → Nat → Bool) : Prop := K 100 = 7 ∧ L 100 0 = true ∧ L 100 1 = true ∧ L 100 2 = true ∧ L 100 3 = true ∧ L 100 4 = true ∧ IsP K L 200 ∧ IsK K L 110 ∧ IsQ K L ∧ IsX K L ∧ K 150 = 13
theorem en_le {σ : Mem} (hw : WF σ) : ∀ t, t < mn σ → en σ t ≤ 4 := fun t ht => (hw.2.2.1 t ht).2.1
theorem PR_hi {b : Nat} {J J' σ : Mem} (hw : WF σ) (hc : ∀ a, b ≤ a → a < b + 72 → J' a = J a) (H : PR b J σ) : PR b J' σ := PR_cong hw.2.1 (en_le hw) hc H
/-- a change of the program's rows alone -/
theorem CR_c {K : Nat → Nat} {L : Nat → Nat → Bool} {J J' σ σ' : Mem} (H : CR K L J σ) (hP : PR 200 J' σ') (h132 : J' 132 0 = nI 0 ∧ J' 133 0 = nI 0) (hJ : ∀ a, a = 100 ∨ (140 ≤ a ∧ a ≤ 146) ∨ 300 ≤ a → J' a = J a) (hσ : ∀ a, 26 < a → a < 100 → σ' a = σ a) (h10 : ∀ i, i ≠ 0 → σ' 10 i = σ 10 i) : CR K L J' σ' := by
  obtain ⟨-, -, ⟨c1, c2, c3⟩, ⟨p1, q, n, p2, p3, p4, p5, p6, p7⟩, im⟩ := H
  refine ⟨hP, h132, ⟨by rw [hJ 100 (by omega), h10 22 (by decide)]; exact c1, by rw [hJ 100 (by omega), h10 23 (by decide)]; exact c2, by rw [hJ 100 (by omega), h10 24 (by decide)]; exact c3⟩, ⟨fun j hj => by rw [hJ 141 (by omega), hσ 27 (by decide) (by decide)]; exact p1 j hj, q, n, p2, p3, by rw [h10 20 (by decide)]; exact p4, by rw [hJ 140 (by omega)]; exact p5, by rw [hJ 140 (by omega)]; exact p6, fun r hr t ht => by rw [hσ 31 (by decide) (by decide), hJ (143 + r) (by omega)]; exact p7 r hr t ht⟩, fun k hk => ?_⟩
  have e : imM σ' k = imM σ k := by unfold imM; rw [hσ 35 (by decide) (by decide)]
  rw [e, hσ 36 (by decide) (by decide)]
  rcases im k hk with ⟨a1, a2, a3, a4, a5⟩ | ⟨b1, b2, b3⟩
  · exact Or.inl ⟨a1, a2, a3, PR_hi a5 (fun a g1 g2 => hJ a (by omega)) a4, a5⟩
  · exact Or.inr ⟨b1, b2, fun o ho => ⟨(b3 o ho).1, fun j => by rw [hJ _ (by omega)]; exact (b3 o ho).2 j⟩⟩
theorem CR_same {K : Nat → Nat} {L : Nat → Nat → Bool} {J J' σ : Mem} (hw : WF σ) (H : CR K L J σ) (h132 : J' 132 0 = nI 0 ∧ J' 133 0 = nI 0) (hJ : ∀ a, a = 100 ∨ (140 ≤ a ∧ a ≤ 146) ∨ 200 ≤ a → J' a = J a) : CR K L J' σ :=
  CR_c H (PR_hi hw (fun a g1 g2 => hJ a (by omega)) H.1) h132 (fun a ha => hJ a (by omega)) (fun _ _ _ => rfl) (fun _ _ => rfl)
theorem PR_lo {b : Nat} {J σ τ : Mem} (h : Lo σ τ) (H : PR b J σ) : PR b J τ := by
  obtain ⟨h0, h1, h2, h3, h4, h5⟩ := H
  refine ⟨by rw [← h 10 (by decide)]; exact h0, h1, fun t ht => ?_, fun i hi => by rw [← h 17 (by decide)]; exact h3 i hi, fun i hi => by rw [← h 19 (by decide)]; exact h4 i hi, fun i hi => by rw [← h 18 (by decide)]; exact h5 i hi⟩
  have := h2 t (by rw [lo_mn h]; exact ht)
  unfold TRp at *
  rw [← lo_en h, ← h 11 (by decide), ← h 12 (by decide), ← h 13 (by decide)]
  exact ⟨this.1, this.2.1, this.2.2.1, fun e h6 h7 k hk => by rw [← h (14 + k) (by omega)]; exact this.2.2.2 e h6 h7 k hk⟩
theorem CR_lo {K : Nat → Nat} {L : Nat → Nat → Bool} {J J' σ τ : Mem} (h : Lo σ τ) (hw : WF σ) (hJ : ∀ a, 100 ≤ a → J' a = J a) (H : CR K L J σ) : CR K L J' τ :=
  CR_c H (PR_lo h (PR_hi hw (fun a g1 g2 => hJ a (by omega)) H.1)) (by rw [hJ 132 (by decide), hJ 133 (by decide)]; exact H.2.1) (fun a ha => hJ a (by omega)) (fun a _ ha => (h a ha).symm) (fun i _ => by rw [h 10 (by decide)])
/-! tables, by what they hold -/
theorem TRp_to {h t t' : Nat} {J σ σ' : Mem} (h11 : σ' 11 t' = σ 11 t) (h12 : σ' 12 t' = σ 12 t) (hx : ∀ a, 13 ≤ a → a ≤ 16 → ∀ e, e < 5 → σ' a (5 * t' + e) = σ a (5 * t + e)) (he : en σ t ≤ 4) (H : TRp h J σ t) : TRp h J σ' t' := by
  have hen : en σ' t' = en σ t := by unfold en; rw [h12]
  unfold TRp
  rw [hen, h11, h12]
  exact ⟨H.1, H.2.1, fun e h1 => by rw [hx 13 (by decide) (by decide) e (by omega)]; exact H.2.2.1 e h1, fun e h1 h2 k hk => by rw [hx (14 + k) (by omega) (by omega) e h1]; exact H.2.2.2 e h1 h2 k hk⟩
theorem WFt_to {t t' : Nat} {σ σ' : Mem} (h11 : σ' 11 t' = σ 11 t) (h12 : σ' 12 t' = σ 12 t) (hx : ∀ a, 13 ≤ a → a ≤ 16 → ∀ e, e < 5 → σ' a (5 * t' + e) = σ a (5 * t + e)) (H : WFt σ t) : WFt σ' t' := by
  have hen : en σ' t' = en σ t := by unfold en; rw [h12]
  obtain ⟨g1, g2, g3, g4, g5⟩ := H
  unfold WFt
  rw [hen, h11, h12]
  refine ⟨g1, g2, g3, fun e h1 h2 => ?_, fun e f h1 h2 h3 => g5 e f h1 h2 ?_⟩
  · rw [hx 14 (by decide) (by decide) e h1, hx 15 (by decide) (by decide) e h1, hx 16 (by decide) (by decide) e h1]; exact g4 e h1 h2
  · rw [← hx 13 (by decide) (by decide) e (by omega), ← hx 13 (by decide) (by decide) f (by omega)]; exact h3
theorem mn_nI {σ : Mem} {n : Nat} (hn : n ≤ 8) (h : σ 10 0 = nI n) : mn σ = n := by unfold mn; rw [h]; exact nI_clamp (by omega)
theorem en_nI {σ : Mem} {t n : Nat} (hn : n ≤ 8) (h : σ 12 t = nI n) : en σ t = n := by unfold en; rw [h]; exact nI_clamp (by omega)
/-- one table is changed -/
theorem PR_one {b u : Nat} {J J' σ σ' : Mem} (hw : WF σ) (H : PR b J σ) (hu : u < mn σ) (h10 : σ' 10 0 = σ 10 0) (hJ : ∀ a, b ≤ a → a < b + 72 → ¬ (tr J b u ≤ a ∧ a < tr J b u + 8) → J' a = J a) (hT : TRp (tr J b u) J' σ' u)
    (hs : ∀ t, t < mn σ → t ≠ u → σ' 11 t = σ 11 t ∧ σ' 12 t = σ 12 t ∧ ∀ a, 13 ≤ a → a ≤ 16 → ∀ e, e < 5 → σ' a (5 * t + e) = σ a (5 * t + e)) (h17 : σ' 17 = σ 17) (h18 : σ' 18 = σ 18) (h19 : σ' 19 = σ 19) : PR b J' σ' := by
  obtain ⟨h0, h1, h2, h3, h4, h5⟩ := H
  have hn8 := hw.2.1
  have hlo := tr_lo J b u
  have hhi := tr_hi h1 (show u < 8 by omega)
  have hmn : mn σ' = mn σ := mn_cong h10
  have h7 : ∀ t, t < 8 → J' (b + 1) t = J (b + 1) t := fun t _ => by rw [hJ (b + 1) (by omega) (by omega) (by omega)]
  refine ⟨by rw [hJ b (by omega) (by omega) (by omega), h10]; exact h0, PM_cong h7 h1, fun t ht => ?_, fun i hi => by rw [hJ (b + 2) (by omega) (by omega) (by omega), h17]; exact h3 i hi, fun i hi => by rw [hJ (b + 3) (by omega) (by omega) (by omega), h19]; exact h4 i hi, fun i hi => by rw [hJ (b + 4) (by omega) (by omega) (by omega), h18]; exact h5 i hi⟩
  rw [hmn] at ht
  rw [tr_cong (h7 t (by omega))]
  by_cases q : t = u
  · subst q; exact hT
  · obtain ⟨s1, s2, s3⟩ := hs t ht q
    have hne := tr_ne h1 (show t < 8 by omega) (show u < 8 by omega) q
    have llo := tr_lo J b t
    have lhi := tr_hi h1 (show t < 8 by omega)
    exact TRp_to s1 s2 s3 (en_le hw t ht) (TRp_cong (en_le hw t ht) (fun a g1 g2 => hJ a (by omega) (by omega) (by omega)) (h2 t ht))
theorem WF_one {u : Nat} {σ σ' : Mem} (hw : WF σ) (h10 : σ' 10 0 = σ 10 0) (hT : WFt σ' u) (hs : ∀ t, t < mn σ → t ≠ u → σ' 11 t = σ 11 t ∧ σ' 12 t = σ 12 t ∧ ∀ a, 13 ≤ a → a ≤ 16 → ∀ e, e < 5 → σ' a (5 * t + e) = σ a (5 * t + e)) (h17 : σ' 17 = σ 17) (h18 : σ' 18 = σ 18) (h19 : σ' 19 = σ 19) : WF σ' := by
  obtain ⟨w1, w2, w3, w4, w5, w6⟩ := hw
  have hmn : mn σ' = mn σ := mn_cong h10
  unfold WF
  rw [hmn, h10, h17, h18, h19]
  refine ⟨w1, w2, fun t ht => ?_, w4, w5, w6⟩
  by_cases q : t = u
  · subst q; exact hT
  · obtain ⟨s1, s2, s3⟩ := hs t ht q
    exact WFt_to s1 s2 s3 (w3 t ht)
theorem lay_at {σ : Mem} {w : Nat} {k t x : Int32} : layS σ w k t x 14 w = k ∧ layS σ w k t x 15 w = mq k t ∧ layS σ w k t x 16 w = mq k x := by
  unfold layS
  exact ⟨by rw [up2_r (by decide), up2_r (by decide), up2_s], by rw [up2_r (by decide), up2_s], by rw [up2_s]⟩
theorem lay_ne {σ : Mem} {w : Nat} {k t x : Int32} {a i : Nat} (h : i ≠ w) : layS σ w k t x a i = σ a i := by unfold layS; rw [up2_k h, up2_k h, up2_k h]
theorem lay_r {σ : Mem} {w : Nat} {k t x : Int32} {a : Nat} (h : a < 14 ∨ 16 < a) : layS σ w k t x a = σ a := by unfold layS; rw [up2_r (by omega), up2_r (by omega), up2_r (by omega)]
theorem okA_mq {k g x : Int32} (h : okA k g x) : okA k (mq k g) (mq k x) := ⟨h.1, fun m => by rw [mq_t m, mq_t m]; exact h.2 m⟩
theorem k3 {P : Nat → Prop} (h0 : P 0) (h1 : P 1) (h2 : P 2) : ∀ k, k < 3 → P k := fun k hk => by
  rcases (show k = 0 ∨ k = 1 ∨ k = 2 by omega) with rfl | rfl | rfl
  · exact h0
  · exact h1
  · exact h2
/-! otherwise -/
def othU (σ : Mem) (u : Nat) (k g x : Int32) : Mem := layS σ (5 * u + 4) k g x
theorem oth_sig {σ : Mem} {u : Nat} {k g x : Int32} : ∀ t, t ≠ u → othU σ u k g x 11 t = σ 11 t ∧ othU σ u k g x 12 t = σ 12 t ∧ ∀ a, 13 ≤ a → a ≤ 16 → ∀ e, e < 5 → othU σ u k g x a (5 * t + e) = σ a (5 * t + e) := fun t ht =>
  ⟨by unfold othU; rw [lay_r (by decide)], by unfold othU; rw [lay_r (by decide)], fun a _ _ e he => by unfold othU; rw [lay_ne (by omega)]⟩
theorem oth_PR {b u : Nat} {J σ : Mem} {k g x : Int32} (hw : WF σ) (H : PR b J σ) (hu : u < mn σ) : PR b (set3 J (tr J b u + 7) k (mq k g) (mq k x)) (othU σ u k g x) := by
  have hT := H.2.2.1 u hu
  refine PR_one hw H hu (by unfold othU; rw [lay_r (by decide)]) (fun a g1 g2 g3 => set3_r (by omega)) ?_ (fun t ht q => oth_sig t q) (by unfold othU; rw [lay_r (by decide)]) (by unfold othU; rw [lay_r (by decide)]) (by unfold othU; rw [lay_r (by decide)])
  have hen : en (othU σ u k g x) u = en σ u := by unfold en othU; rw [lay_r (by decide)]
  have he4 := en_le hw u hu
  unfold TRp
  rw [hen]
  refine ⟨by rw [set3_r (by omega)]; unfold othU; rw [lay_r (by decide)]; exact hT.1, by rw [set3_r (by omega)]; unfold othU; rw [lay_r (by decide)]; exact hT.2.1, fun e h1 => by rw [set3_r (by omega)]; unfold othU; rw [lay_r (by decide)]; exact hT.2.2.1 e h1, fun e h1 h2 => ?_⟩
  by_cases q : e = 4
  · subst q
    unfold othU
    refine k3 ?_ ?_ ?_
    · show set3 _ (tr J b u + 3 + 4) _ _ _ (tr J b u + 3 + 4) 0 = _; rw [set3_0, lay_at.1]
    · show set3 _ (tr J b u + 3 + 4) _ _ _ (tr J b u + 3 + 4) 1 = _; rw [set3_1, lay_at.2.1]
    · show set3 _ (tr J b u + 3 + 4) _ _ _ (tr J b u + 3 + 4) 2 = _; rw [set3_2, lay_at.2.2]
  · intro c hc
    rw [set3_r (by omega)]; unfold othU; rw [lay_ne (by omega)]; exact hT.2.2.2 e h1 h2 c hc
theorem oth_WF {u : Nat} {σ : Mem} {k g x : Int32} (hw : WF σ) (hu : u < mn σ) (ok : okA k g x) : WF (othU σ u k g x) := by
  refine WF_one hw (by unfold othU; rw [lay_r (by decide)]) ?_ (fun t ht q => oth_sig t q) (by unfold othU; rw [lay_r (by decide)]) (by unfold othU; rw [lay_r (by decide)]) (by unfold othU; rw [lay_r (by decide)])
  have hen : en (othU σ u k g x) u = en σ u := by unfold en othU; rw [lay_r (by decide)]
  obtain ⟨g1, g2, g3, g4, g5⟩ := hw.2.2.1 u hu
  unfold WFt
  rw [hen]
  refine ⟨by unfold othU; rw [lay_r (by decide)]; exact g1, g2, by unfold othU; rw [lay_r (by decide)]; exact g3, fun e h1 h2 => ?_, by unfold othU; rw [lay_r (by decide)]; exact g5⟩
  by_cases q : e = 4
  · subst q; unfold othU; rw [lay_at.1, lay_at.2.1, lay_at.2.2]; exact okA_mq ok
  · unfold othU; rw [lay_ne (by omega), lay_ne (by omega), lay_ne (by omega)]; exact g4 e h1 h2
/-! entry -/
def entU (σ : Mem) (u : Nat) (v k g x : Int32) : Mem := up2 (layS (up2 σ 13 (5 * u + en σ u) v) (5 * u + en σ u) k g x) 12 u (nI (en σ u + 1))
theorem ent_sig {σ : Mem} {u : Nat} {v k g x : Int32} (he : en σ u < 4) : ∀ t, t ≠ u → entU σ u v k g x 11 t = σ 11 t ∧ entU σ u v k g x 12 t = σ 12 t ∧ ∀ a, 13 ≤ a → a ≤ 16 → ∀ e, e < 5 → entU σ u v k g x a (5 * t + e) = σ a (5 * t + e) := fun t ht =>
  ⟨by unfold entU; rw [up2_r (by decide), lay_r (by decide), up2_r (by decide)], by unfold entU; rw [up2_k ht, lay_r (by decide), up2_r (by decide)], fun a _ _ e he => by unfold entU; rw [up2_r (by omega), lay_ne (by omega), up2_k (by omega)]⟩
theorem ent_row {σ : Mem} {u : Nat} {v k g x : Int32} {a : Nat} (h : a < 12 ∨ 16 < a) : entU σ u v k g x a = σ a := by unfold entU; rw [up2_r (by omega), lay_r (by omega), up2_r (by omega)]
theorem ent_en {σ : Mem} {u : Nat} {v k g x : Int32} (he : en σ u < 4) : en (entU σ u v k g x) u = en σ u + 1 := en_nI (by omega) (by unfold entU; rw [up2_s])
theorem ent_13 {σ : Mem} {u e : Nat} {v k g x : Int32} : entU σ u v k g x 13 (5 * u + e) = if e = en σ u then v else σ 13 (5 * u + e) := by
  unfold entU
  rw [up2_r (by decide), lay_r (by decide)]
  by_cases q : e = en σ u
  · rw [if_pos q, q, up2_s]
  · rw [if_neg q, up2_k (by omega)]
theorem ent_act {σ : Mem} {u : Nat} {v k g x : Int32} : entU σ u v k g x 14 (5 * u + en σ u) = k ∧ entU σ u v k g x 15 (5 * u + en σ u) = mq k g ∧ entU σ u v k g x 16 (5 * u + en σ u) = mq k x := by
  unfold entU
  rw [up2_r (by decide), up2_r (by decide), up2_r (by decide)]
  exact lay_at
theorem ent_acn {σ : Mem} {u e a : Nat} {v k g x : Int32} (ha : 14 ≤ a) (h : e ≠ en σ u) : entU σ u v k g x a (5 * u + e) = σ a (5 * u + e) := by
  unfold entU
  rw [up2_r (by omega), lay_ne (by omega), up2_r (by omega)]
theorem ent_PR {b u : Nat} {J σ : Mem} {v k g x : Int32} (hw : WF σ) (H : PR b J σ) (hu : u < mn σ) (he : en σ u < 4) : PR b (up2 (set3 (up2 J (tr J b u + 1) (en σ u) v) (tr J b u + 3 + en σ u) k (mq k g) (mq k x)) (tr J b u) 1 (nI (en σ u + 1))) (entU σ u v k g x) := by
  have hT := H.2.2.1 u hu
  refine PR_one hw H hu (by rw [ent_row (by decide)]) (fun a g1 g2 g3 => by rw [up2_r (by omega), set3_r (by omega), up2_r (by omega)]) ?_ (fun t ht q => ent_sig he t q) (ent_row (by decide)) (ent_row (by decide)) (ent_row (by decide))
  unfold TRp
  rw [ent_en he, ent_row (by decide)]
  refine ⟨by rw [up2_k (by decide), set3_r (by omega), up2_r (by omega)]; exact hT.1, by rw [up2_s]; unfold entU; rw [up2_s], fun e h1 => ?_, fun e h1 h2 => ?_⟩
  · rw [up2_r (by omega), set3_r (by omega), ent_13]
    by_cases q : e = en σ u
    · rw [if_pos q, q, up2_s]
    · rw [if_neg q, up2_k q]; exact hT.2.2.1 e (by omega)
  · by_cases q : e = en σ u
    · subst q
      refine k3 ?_ ?_ ?_
      · rw [up2_r (by omega), set3_0, ent_act.1]
      · rw [up2_r (by omega), set3_1, ent_act.2.1]
      · rw [up2_r (by omega), set3_2, ent_act.2.2]
    · intro c hc
      rw [up2_r (by omega), set3_r (by omega), up2_r (by omega), ent_acn (by omega) q]
      exact hT.2.2.2 e h1 (by omega) c hc
theorem ent_WF {u : Nat} {σ : Mem} {v k g x : Int32} (hw : WF σ) (hu : u < mn σ) (he : en σ u < 4) (ok : okA k g x) (hf : fnd (fun e => σ 13 (5 * u + e)) v (en σ u) 0 = 4) : WF (entU σ u v k g x) := by
  refine WF_one hw (by rw [ent_row (by decide)]) ?_ (fun t ht q => ent_sig he t q) (ent_row (by decide)) (ent_row (by decide)) (ent_row (by decide))
  obtain ⟨g1, g2, g3, g4, g5⟩ := hw.2.2.1 u hu
  have hno : ∀ e, e < en σ u → σ 13 (5 * u + e) ≠ v := fun e h q => by
    have := fnd_one (f := fun e => σ 13 (5 * u + e)) g5 h q
    omega
  unfold WFt
  rw [ent_en he, ent_row (a := 11) (by decide)]
  refine ⟨by unfold entU; rw [up2_s], by omega, g3, fun e h1 h2 => ?_, fun e f h1 h2 h3 => ?_⟩
  · by_cases q : e = en σ u
    · subst q; rw [ent_act.1, ent_act.2.1, ent_act.2.2]; exact okA_mq ok
    · rw [ent_acn (by decide) q, ent_acn (by decide) q, ent_acn (by decide) q]; exact g4 e h1 (by omega)
  · rw [ent_13, ent_13] at h3
    by_cases q : e = en σ u
    · by_cases r : f = en σ u
      · omega
      · rw [if_pos q, if_neg r] at h3; exact absurd h3.symm (hno f (by omega))
    · by_cases r : f = en σ u
      · rw [if_neg q, if_pos r] at h3; exact absurd h3 (hno e (by omega))
      · rw [if_neg q, if_neg r] at h3; exact g5 e f (by omega) (by omega) h3
/-! forget -/
theorem fg_12 {σ : Mem} {u e0 n : Nat} : fgU σ u e0 n 12 u = nI (n - 1) := by simp [fgU]
theorem fg_x {σ : Mem} {u e0 n a e : Nat} (h1 : 13 ≤ a) (h2 : a ≤ 16) : fgU σ u e0 n a (5 * u + e) = if e0 ≤ e ∧ e < n - 1 then σ a (5 * u + (e + 1)) else σ a (5 * u + e) := by
  unfold fgU
  rw [if_neg (by omega)]
  by_cases q : e0 ≤ e ∧ e < n - 1
  · rw [if_pos (by omega), if_pos q]; rfl
  · rw [if_neg (by omega), if_neg q]
theorem fg_row {σ : Mem} {u e0 n a : Nat} (h : a < 12 ∨ 16 < a) : fgU σ u e0 n a = σ a := by funext i; unfold fgU; rw [if_neg (by omega), if_neg (by omega)]
theorem fg_sig {σ : Mem} {u e0 n : Nat} (hn : n ≤ 4) : ∀ t, t ≠ u → fgU σ u e0 n 11 t = σ 11 t ∧ fgU σ u e0 n 12 t = σ 12 t ∧ ∀ a, 13 ≤ a → a ≤ 16 → ∀ e, e < 5 → fgU σ u e0 n a (5 * t + e) = σ a (5 * t + e) := fun t ht =>
  ⟨by rw [fg_row (by decide)], by unfold fgU; rw [if_neg (by omega), if_neg (by omega)], fun a g1 g2 e he => by unfold fgU; rw [if_neg (by omega), if_neg (by omega)]⟩
theorem fg_PR {b u e0 : Nat} {J J0 σ : Mem} (hw : WF σ) (H : PR b J σ) (hu : u < mn σ) (he : e0 < en σ u) (hR : RE J J0 (tr J b u) e0 (en σ u - 1)) : PR b (up2 J0 (tr J b u) 1 (nI (en σ u - 1))) (fgU σ u e0 (en σ u)) := by
  have hT := H.2.2.1 u hu
  have he4 := en_le hw u hu
  refine PR_one hw H hu (by rw [fg_row (by decide)]) (fun a g1 g2 g3 => by rw [up2_r (by omega), hR.1 a (by omega) (fun e _ => by omega)]) ?_ (fun t ht q => fg_sig he4 t q) (fg_row (by decide)) (fg_row (by decide)) (fg_row (by decide))
  have hen : en (fgU σ u e0 (en σ u)) u = en σ u - 1 := en_nI (by omega) fg_12
  unfold TRp
  rw [hen, fg_row (by decide), fg_12]
  refine ⟨by rw [up2_k (by decide), hR.1 _ (by omega) (fun e _ => by omega)]; exact hT.1, by rw [up2_s], fun e h1 => ?_, fun e h1 h2 c hc => ?_⟩
  · rw [up2_r (by omega), hR.2.1 e (by omega), fg_x (by decide) (by decide)]
    by_cases q : e0 ≤ e ∧ e < en σ u - 1
    · rw [if_pos q, if_pos q]; exact hT.2.2.1 (e + 1) (by omega)
    · rw [if_neg q, if_neg q]; exact hT.2.2.1 e (by omega)
  · rw [up2_r (by omega), fg_x (by omega) (by omega)]
    by_cases g : e = 4
    · rw [hR.1 _ (by omega) (fun e' _ => by omega), if_neg (by omega)]
      exact hT.2.2.2 e h1 (by omega) c hc
    · rw [hR.2.2 e (by omega) c hc]
      by_cases q : e0 ≤ e ∧ e < en σ u - 1
      · rw [if_pos q, if_pos q]; exact hT.2.2.2 (e + 1) (by omega) (by omega) c hc
      · rw [if_neg q, if_neg q]; exact hT.2.2.2 e h1 (by omega) c hc
theorem fg_WF {u e0 : Nat} {σ : Mem} (hw : WF σ) (hu : u < mn σ) (he : e0 < en σ u) : WF (fgU σ u e0 (en σ u)) := by
  have he4 := en_le hw u hu
  refine WF_one hw (by rw [fg_row (by decide)]) ?_ (fun t ht q => fg_sig he4 t q) (fg_row (by decide)) (fg_row (by decide)) (fg_row (by decide))
  have hen : en (fgU σ u e0 (en σ u)) u = en σ u - 1 := en_nI (by omega) fg_12
  obtain ⟨g1, g2, g3, g4, g5⟩ := hw.2.2.1 u hu
  unfold WFt
  rw [hen, fg_row (a := 11) (by decide), fg_12]
  refine ⟨rfl, by omega, g3, fun e h1 h2 => ?_, fun e f h1 h2 h3 => ?_⟩
  · rw [fg_x (by decide) (by decide), fg_x (by decide) (by decide), fg_x (by decide) (by decide)]
    by_cases q : e0 ≤ e ∧ e < en σ u - 1
    · rw [if_pos q, if_pos q, if_pos q]; exact g4 (e + 1) (by omega) (by omega)
    · rw [if_neg q, if_neg q, if_neg q]; exact g4 e h1 (by omega)
  · rw [fg_x (by decide) (by decide), fg_x (by decide) (by decide)] at h3
    by_cases q : e0 ≤ e ∧ e < en σ u - 1
    · by_cases r : e0 ≤ f ∧ f < en σ u - 1
      · rw [if_pos q, if_pos r] at h3; have := g5 (e + 1) (f + 1) (by omega) (by omega) h3; omega
      · rw [if_pos q, if_neg r] at h3; have := g5 (e + 1) f (by omega) (by omega) h3; omega
    · by_cases r : e0 ≤ f ∧ f < en σ u - 1
      · rw [if_neg q, if_pos r] at h3; have := g5 e (f + 1) (by omega) (by omega) h3; omega
      · rw [if_neg q, if_neg r] at h3; exact g5 e f (by omega) (by omega) h3
/-! table -/
def tabU (σ : Mem) (k : Int32) : Mem := up2 (layS (up2 (up2 σ 11 (mn σ) k) 12 (mn σ) (nI 0)) (5 * mn σ + 4) (nI 0) (nI 0) (nI 0)) 10 0 (nI (mn σ + 1))
theorem tab_row {σ : Mem} {k : Int32} {a : Nat} (h : a < 10 ∨ 16 < a ∨ a = 13) : tabU σ k a = σ a := by unfold tabU; rw [up2_r (by omega), lay_r (by omega), up2_r (by omega), up2_r (by omega)]
theorem tab_old {σ : Mem} {k : Int32} : ∀ t, t < mn σ → tabU σ k 11 t = σ 11 t ∧ tabU σ k 12 t = σ 12 t ∧ ∀ a, 13 ≤ a → a ≤ 16 → ∀ e, e < 5 → tabU σ k a (5 * t + e) = σ a (5 * t + e) := fun t ht =>
  ⟨by unfold tabU; rw [up2_r (by decide), lay_r (by decide), up2_r (by decide), up2_k (by omega)], by unfold tabU; rw [up2_r (by decide), lay_r (by decide), up2_k (by omega), up2_r (by decide)], fun a g1 g2 e he => by unfold tabU; rw [up2_r (by omega), lay_ne (by omega), up2_r (by omega), up2_r (by omega)]⟩
theorem tab_new {σ : Mem} {k : Int32} : tabU σ k 11 (mn σ) = k ∧ tabU σ k 12 (mn σ) = nI 0 ∧ tabU σ k 14 (5 * mn σ + 4) = nI 0 ∧ tabU σ k 15 (5 * mn σ + 4) = -6 ∧ tabU σ k 16 (5 * mn σ + 4) = -6 := by
  have m0 : ¬ mat (nI 0) := by decide
  have h := lay_at (σ := up2 (up2 σ 11 (mn σ) k) 12 (mn σ) (nI 0)) (w := 5 * mn σ + 4) (k := nI 0) (t := nI 0) (x := nI 0)
  rw [mq_f m0] at h
  unfold tabU
  refine ⟨by rw [up2_r (by decide), lay_r (by decide), up2_r (by decide), up2_s], by rw [up2_r (by decide), lay_r (by decide), up2_s], by rw [up2_r (by decide)]; exact h.1, by rw [up2_r (by decide)]; exact h.2.1, by rw [up2_r (by decide)]; exact h.2.2⟩
theorem tab_mn {σ : Mem} {k : Int32} (h : mn σ < 8) : mn (tabU σ k) = mn σ + 1 := mn_nI (by omega) (by unfold tabU; rw [up2_s])
theorem tab_PR {b : Nat} {J σ : Mem} {k : Int32} (hw : WF σ) (H : PR b J σ) (hn : mn σ < 8) : PR b (up2 (set3 (up2 (up2 J (tr J b (mn σ)) 0 k) (tr J b (mn σ)) 1 (nI 0)) (tr J b (mn σ) + 7) (nI 0) (-6) (-6)) b 0 (nI (mn σ + 1))) (tabU σ k) := by
  obtain ⟨h0, h1, h2, h3, h4, h5⟩ := H
  have hlo := tr_lo J b (mn σ)
  have hhi := tr_hi h1 hn
  generalize hZ : up2 (set3 (up2 (up2 J (tr J b (mn σ)) 0 k) (tr J b (mn σ)) 1 (nI 0)) (tr J b (mn σ) + 7) (nI 0) (-6) (-6)) b 0 (nI (mn σ + 1)) = Z
  have hrow : ∀ a, a ≠ b → a ≠ tr J b (mn σ) → a ≠ tr J b (mn σ) + 7 → Z a = J a := fun a g1 g2 g3 => by rw [← hZ, up2_r g1, set3_r g3, up2_r g2, up2_r g2]
  have h7 : ∀ t, t < 8 → Z (b + 1) t = J (b + 1) t := fun t _ => by rw [hrow (b + 1) (by omega) (by omega) (by omega)]
  refine ⟨by rw [← hZ, up2_s]; unfold tabU; rw [up2_s], PM_cong h7 h1, fun t ht => ?_, fun i hi => by rw [hrow (b + 2) (by omega) (by omega) (by omega), tab_row (by decide)]; exact h3 i hi, fun i hi => by rw [hrow (b + 3) (by omega) (by omega) (by omega), tab_row (by decide)]; exact h4 i hi, fun i hi => by rw [hrow (b + 4) (by omega) (by omega) (by omega), tab_row (by decide)]; exact h5 i hi⟩
  rw [tab_mn hn] at ht
  rw [tr_cong (h7 t (by omega))]
  by_cases q : t = mn σ
  · subst q
    have hen : en (tabU σ k) (mn σ) = 0 := en_nI (by omega) tab_new.2.1
    unfold TRp
    rw [hen, tab_new.1, tab_new.2.1]
    refine ⟨by rw [← hZ, up2_r (by omega), set3_r (by omega), up2_k (by decide), up2_s], by rw [← hZ, up2_r (by omega), set3_r (by omega), up2_s], fun e he => absurd he (Nat.not_lt_zero e), fun e h6 h8 => ?_⟩
    have he : e = 4 := by omega
    subst he
    rw [← hZ]
    refine k3 ?_ ?_ ?_
    · rw [up2_r (by omega)]; show set3 _ (tr J b (mn σ) + 3 + 4) _ _ _ (tr J b (mn σ) + 3 + 4) 0 = _; rw [set3_0]; exact tab_new.2.2.1.symm
    · rw [up2_r (by omega)]; show set3 _ (tr J b (mn σ) + 3 + 4) _ _ _ (tr J b (mn σ) + 3 + 4) 1 = _; rw [set3_1]; exact tab_new.2.2.2.1.symm
    · rw [up2_r (by omega)]; show set3 _ (tr J b (mn σ) + 3 + 4) _ _ _ (tr J b (mn σ) + 3 + 4) 2 = _; rw [set3_2]; exact tab_new.2.2.2.2.symm
  · have hne := tr_ne h1 (show t < 8 by omega) hn q
    have llo := tr_lo J b t
    obtain ⟨s1, s2, s3⟩ := tab_old (σ := σ) (k := k) t (by omega)
    exact TRp_to s1 s2 s3 (en_le hw t (by omega)) (TRp_cong (en_le hw t (by omega)) (fun a g1 g2 => hrow a (by omega) (by omega) (by omega)) (h2 t (by omega)))
theorem tab_WF {σ : Mem} {k : Int32} (hw : WF σ) (hn : mn σ < 8) (hk : isFd k) : WF (tabU σ k) := by
  obtain ⟨w1, w2, w3, w4, w5, w6⟩ := hw
  unfold WF
  rw [tab_mn hn, tab_row (a := 17) (by decide), tab_row (a := 18) (by decide), tab_row (a := 19) (by decide)]
  refine ⟨by unfold tabU; rw [up2_s], by omega, fun t ht => ?_, w4, w5, w6⟩
  by_cases q : t = mn σ
  · subst q
    have hen : en (tabU σ k) (mn σ) = 0 := en_nI (by omega) tab_new.2.1
    unfold WFt
    rw [hen, tab_new.1, tab_new.2.1]
    refine ⟨rfl, by decide, hk, fun e h1 h2 => ?_, fun e f h1 => absurd h1 (Nat.not_lt_zero e)⟩
    rw [show e = 4 by omega, tab_new.2.2.1, tab_new.2.2.2.1, tab_new.2.2.2.2]
    exact ⟨by decide, fun m => absurd m (by decide)⟩
  · obtain ⟨s1, s2, s3⟩ := tab_old (σ := σ) (k := k) t (by omega)
    exact WFt_to s1 s2 s3 (w3 t (by omega))
/-! drop -/
theorem dr_row {σ : Mem} {u n a : Nat} (h : a < 10 ∨ 16 < a) : drU σ u n a = σ a := by funext i; unfold drU; rw [if_neg (by omega), if_neg (by omega), if_neg (by omega)]
theorem dr_10 {σ : Mem} {u n i : Nat} (h : i ≠ 0) : drU σ u n 10 i = σ 10 i := by unfold drU; rw [if_neg (by omega), if_neg (by omega), if_neg (by omega)]
theorem dr_sig {σ : Mem} {u n t : Nat} (hu : u < n) (ht : t < n - 1) : drU σ u n 11 t = σ 11 (if t < u then t else t + 1) ∧ drU σ u n 12 t = σ 12 (if t < u then t else t + 1) ∧ ∀ a, 13 ≤ a → a ≤ 16 → ∀ e, e < 5 → drU σ u n a (5 * t + e) = σ a (5 * (if t < u then t else t + 1) + e) := by
  unfold drU
  by_cases q : t < u
  · rw [if_pos q]
    exact ⟨by rw [if_neg (by omega), if_neg (by omega), if_neg (by omega)], by rw [if_neg (by omega), if_neg (by omega), if_neg (by omega)], fun a _ _ e he => by rw [if_neg (by omega), if_neg (by omega), if_neg (by omega)]⟩
  · rw [if_neg q]
    exact ⟨by rw [if_neg (by omega), if_pos (by omega)], by rw [if_neg (by omega), if_pos (by omega)], fun a _ _ e he => by rw [if_neg (by omega), if_neg (by omega), if_pos (by omega)]; congr 1; omega⟩
theorem dr_mn {σ : Mem} {u n : Nat} (h : n ≤ 8) : mn (drU σ u n) = n - 1 := mn_nI (by omega) (by simp [drU])
theorem dr_PR {b u : Nat} {J J' σ : Mem} (hw : WF σ) (H : PR b J σ) (hu : u < mn σ) (hR : RTe J J' b (mn σ) u) : PR b J' (drU σ u (mn σ)) := by
  obtain ⟨h0, h1, h2, h3, h4, h5⟩ := H
  obtain ⟨r1, r2, r3⟩ := hR
  have hn8 := hw.2.1
  have hp : ∀ t, t < 8 → ∃ p, p < 8 ∧ J' (b + 1) t = J (b + 1) p ∧ p = (if t < u then t else if t + 1 < mn σ then t + 1 else if t + 1 = mn σ then u else t) := fun t ht => by
    rw [r3 t ht]
    refine ⟨_, ?_, ?_, rfl⟩
    · repeat' split
      all_goals omega
    · repeat' split
      all_goals rfl
  refine ⟨by rw [r2]; simp [drU], ⟨fun t ht => ?_, fun t t' ht ht' e => ?_⟩, fun t ht => ?_, fun i hi => by rw [r1 (b + 2) (by omega) (by omega), dr_row (by decide)]; exact h3 i hi, fun i hi => by rw [r1 (b + 3) (by omega) (by omega), dr_row (by decide)]; exact h4 i hi, fun i hi => by rw [r1 (b + 4) (by omega) (by omega), dr_row (by decide)]; exact h5 i hi⟩
  · obtain ⟨p, p1, p2, -⟩ := hp t ht
    rw [p2]; exact h1.1 p p1
  · obtain ⟨p, p1, p2, p3⟩ := hp t ht
    obtain ⟨p', q1, q2, q3⟩ := hp t' ht'
    rw [p2, q2] at e
    have := h1.2 p p' p1 q1 e
    subst this
    rw [p3] at q3
    repeat' split at q3
    all_goals omega
  · rw [dr_mn hn8] at ht
    obtain ⟨s1, s2, s3⟩ := dr_sig (σ := σ) hu ht
    have hsrc : tr J' b t = tr J b (if t < u then t else t + 1) := by
      unfold tr
      rw [r3 t (by omega)]
      by_cases q : t < u
      · rw [if_pos q, if_pos q]
      · rw [if_neg q, if_neg q, if_pos (by omega)]
    have hlt : (if t < u then t else t + 1) < mn σ := by split <;> omega
    rw [hsrc]
    have llo := tr_lo J b (if t < u then t else t + 1)
    exact TRp_to s1 s2 s3 (en_le hw _ hlt) (TRp_cong (en_le hw _ hlt) (fun a g1 g2 => r1 a (by omega) (by omega)) (h2 _ hlt))
theorem dr_WF {u : Nat} {σ : Mem} (hw : WF σ) (hu : u < mn σ) : WF (drU σ u (mn σ)) := by
  obtain ⟨w1, w2, w3, w4, w5, w6⟩ := hw
  unfold WF
  rw [dr_mn w2, dr_row (a := 17) (by decide), dr_row (a := 18) (by decide), dr_row (a := 19) (by decide)]
  refine ⟨by simp [drU], by omega, fun t ht => ?_, w4, w5, w6⟩
  obtain ⟨s1, s2, s3⟩ := dr_sig (σ := σ) hu ht
  have hlt : (if t < u then t else t + 1) < mn σ := by split <;> omega
  exact WFt_to s1 s2 s3 (w3 _ hlt)
/-! rule, tell, put -/
theorem up_PR {b r j : Nat} {v : Int32} {J σ : Mem} (hw : WF σ) (H : PR b J σ) (hr : r = 17 ∨ r = 18 ∨ r = 19) : PR b (up2 J (if r = 17 then b + 2 else if r = 19 then b + 3 else b + 4) j v) (up2 σ r j v) := by
  obtain ⟨h0, h1, h2, h3, h4, h5⟩ := H
  have hn8 := hw.2.1
  obtain ⟨q, hq, hq2⟩ : ∃ q, q = (if r = 17 then b + 2 else if r = 19 then b + 3 else b + 4) ∧ b + 2 ≤ q ∧ q ≤ b + 4 := ⟨_, rfl, by split <;> (try split) <;> omega, by split <;> (try split) <;> omega⟩
  rw [← hq]
  have h7 : ∀ t, t < 8 → up2 J q j v (b + 1) t = J (b + 1) t := fun t _ => by rw [up2_r (by omega)]
  have hmn : mn (up2 σ r j v) = mn σ := mn_cong (by rw [up2_r (by omega)])
  refine ⟨by rw [up2_r (by omega), up2_r (by omega)]; exact h0, PM_cong h7 h1, fun t ht => ?_, ?_, ?_, ?_⟩
  · rw [hmn] at ht
    rw [tr_cong (h7 t (by omega))]
    have llo := tr_lo J b t
    exact TRp_to (by rw [up2_r (by omega)]) (by rw [up2_r (by omega)]) (fun a _ _ e _ => by rw [up2_r (by omega)]) (en_le hw t ht) (TRp_cong (en_le hw t ht) (fun a g1 g2 => by rw [up2_r (by omega)]) (h2 t ht))
  · intro i hi
    rcases hr with rfl | rfl | rfl
    · rw [if_pos rfl] at hq; rw [hq, up2_eq, up2_eq]
      by_cases w : i = j
      · rw [if_pos ⟨rfl, w⟩, if_pos ⟨rfl, w⟩]
      · rw [if_neg (fun z => w z.2), if_neg (fun z => w z.2)]; exact h3 i hi
    · rw [if_neg (by decide), if_neg (by decide)] at hq; rw [up2_r (by omega), up2_r (by decide)]; exact h3 i hi
    · rw [if_neg (by decide), if_pos rfl] at hq; rw [up2_r (by omega), up2_r (by decide)]; exact h3 i hi
  · intro i hi
    rcases hr with rfl | rfl | rfl
    · rw [if_pos rfl] at hq; rw [up2_r (by omega), up2_r (by decide)]; exact h4 i hi
    · rw [if_neg (by decide), if_neg (by decide)] at hq; rw [up2_r (by omega), up2_r (by decide)]; exact h4 i hi
    · rw [if_neg (by decide), if_pos rfl] at hq; rw [hq, up2_eq, up2_eq]
      by_cases w : i = j
      · rw [if_pos ⟨rfl, w⟩, if_pos ⟨rfl, w⟩]
      · rw [if_neg (fun z => w z.2), if_neg (fun z => w z.2)]; exact h4 i hi
  · intro i hi
    rcases hr with rfl | rfl | rfl
    · rw [if_pos rfl] at hq; rw [up2_r (by omega), up2_r (by decide)]; exact h5 i hi
    · rw [if_neg (by decide), if_neg (by decide)] at hq; rw [hq, up2_eq, up2_eq]
      by_cases w : i = j
      · rw [if_pos ⟨rfl, w⟩, if_pos ⟨rfl, w⟩]
      · rw [if_neg (fun z => w z.2), if_neg (fun z => w z.2)]; exact h5 i hi
    · rw [if_neg (by decide), if_pos rfl] at hq; rw [up2_r (by omega), up2_r (by decide)]; exact h5 i hi
theorem up_WF {r j : Nat} {v : Int32} {σ : Mem} (hw : WF σ) (hr : r = 17 ∨ r = 18 ∨ r = 19)
    (hv : (r = 17 → 0 ≤ v.toInt ∧ v.toInt ≤ 65535) ∧ (r = 18 → 0 ≤ v.toInt ∧ v.toInt ≤ 255) ∧ (r = 19 → (j = 0 → 5 ≤ v.toInt ∧ v.toInt ≤ 20) ∧ (j = 1 → 1 ≤ v.toInt ∧ v.toInt ≤ 4) ∧ (j = 2 → 1 ≤ v.toInt ∧ v.toInt ≤ 8) ∧ (j = 3 → 1 ≤ v.toInt ∧ v.toInt ≤ 4))) : WF (up2 σ r j v) := by
  obtain ⟨w1, w2, w3, w4, ⟨x0, x1, x2, x3⟩, w6⟩ := hw
  have hmn : mn (up2 σ r j v) = mn σ := mn_cong (by rw [up2_r (by omega)])
  unfold WF
  rw [hmn]
  refine ⟨by rw [up2_r (by omega)]; exact w1, w2, fun t ht => WFt_to (by rw [up2_r (by omega)]) (by rw [up2_r (by omega)]) (fun a _ _ e _ => by rw [up2_r (by omega)]) (w3 t ht), fun i hi => ?_, ⟨?_, ?_, ?_, ?_⟩, fun i hi => ?_⟩
  · rw [up2_eq]; split
    · exact hv.1 (by omega)
    · exact w4 i hi
  · rw [up2_eq]; split
    · exact (hv.2.2 (by omega)).1 (by omega)
    · exact x0
  · rw [up2_eq]; split
    · exact (hv.2.2 (by omega)).2.1 (by omega)
    · exact x1
  · rw [up2_eq]; split
    · exact (hv.2.2 (by omega)).2.2.1 (by omega)
    · exact x2
  · rw [up2_eq]; split
    · exact (hv.2.2 (by omega)).2.2.2 (by omega)
    · exact x3
  · rw [up2_eq]; split
    · exact hv.2.1 (by omega)
    · exact w6 i hi
/-! images -/
theorem sig_PR {b : Nat} {J σ τ : Mem} (hw : WF σ) (h : ∀ a i, ofs a i < 191 → τ a i = σ a i) (H : PR b J σ) : PR b J τ := by
  obtain ⟨h0, h1, h2, h3, h4, h5⟩ := H
  have hn8 := hw.2.1
  have e10 : τ 10 0 = σ 10 0 := h 10 0 (by rw [ofs_10]; decide)
  have hmn : mn τ = mn σ := mn_cong e10
  refine ⟨by rw [e10]; exact h0, h1, fun t ht => ?_, fun i hi => by rw [h 17 i (by rw [ofs_17 hi]; omega)]; exact h3 i hi, fun i hi => by rw [h 19 i (by rw [ofs_19 hi]; omega)]; exact h4 i hi, fun i hi => by rw [h 18 i (by rw [ofs_18 hi]; omega)]; exact h5 i hi⟩
  rw [hmn] at ht
  refine TRp_to (h 11 t (by rw [ofs_11 (by omega)]; omega)) (h 12 t (by rw [ofs_12 (by omega)]; omega)) (fun a g1 g2 e he => h a _ ?_) (en_le hw t ht) (h2 t ht)
  rcases (show a = 13 ∨ a = 14 ∨ a = 15 ∨ a = 16 by omega) with rfl | rfl | rfl | rfl
  · rw [ofs_13 (by omega)]; omega
  · rw [ofs_14 (by omega)]; omega
  · rw [ofs_15 (by omega)]; omega
  · rw [ofs_16 (by omega)]; omega
theorem sig_WF {σ τ : Mem} (hw : WF σ) (h : ∀ a i, ofs a i < 191 → τ a i = σ a i) : WF τ := by
  obtain ⟨w1, w2, w3, w4, ⟨x0, x1, x2, x3⟩, w6⟩ := hw
  have e10 : τ 10 0 = σ 10 0 := h 10 0 (by rw [ofs_10]; decide)
  have hmn : mn τ = mn σ := mn_cong e10
  have e19 : ∀ i, i < 4 → τ 19 i = σ 19 i := fun i hi => h 19 i (by rw [ofs_19 hi]; omega)
  unfold WF
  rw [hmn, e10, e19 0 (by decide), e19 1 (by decide), e19 2 (by decide), e19 3 (by decide)]
  refine ⟨w1, w2, fun t ht => ?_, fun i hi => by rw [h 17 i (by rw [ofs_17 hi]; omega)]; exact w4 i hi, ⟨x0, x1, x2, x3⟩, fun i hi => by rw [h 18 i (by rw [ofs_18 hi]; omega)]; exact w6 i hi⟩
  refine WFt_to (h 11 t (by rw [ofs_11 (by omega)]; omega)) (h 12 t (by rw [ofs_12 (by omega)]; omega)) (fun a g1 g2 e he => h a _ ?_) (w3 t ht)
  rcases (show a = 13 ∨ a = 14 ∨ a = 15 ∨ a = 16 by omega) with rfl | rfl | rfl | rfl
  · rw [ofs_13 (by omega)]; omega
  · rw [ofs_14 (by omega)]; omega
  · rw [ofs_15 (by omega)]; omega
  · rw [ofs_16 (by omega)]; omega
theorem imS_ofs {σ : Mem} {a i : Nat} (h : ofs a i < 191) : imS σ (ofs a i) = σ a i := by
  obtain ⟨e1, e2⟩ := ofs_inv h
  have key : ∀ o, o < 191 → imS σ o = σ (rowO o) (idxO o) := fun o ho => by
    unfold imS rowO idxO
    repeat' split
    all_goals first | rfl | (congr 1; omega)
  rw [key _ h, e1, e2]
theorem re_im {σ : Mem} {k a i : Nat} (h : ofs a i < 191) : reU σ k a i = imM σ k a i := by
  unfold reU REf imM; rw [if_pos ⟨h, rfl⟩]
theorem re_row {σ : Mem} {k a : Nat} (h : a < 10 ∨ 19 < a) : reU σ k a = σ a := by
  funext i; unfold reU REf; rw [if_neg (fun q => by have := ofs_hi q.1; omega)]
theorem re_10 {σ : Mem} {k i : Nat} (h : i ≠ 0) : reU σ k 10 i = σ 10 i := by
  unfold reU REf
  rw [if_neg]
  intro q
  have q1 := q.1
  unfold ofs at q1
  rw [if_neg (by omega), if_neg (by omega), if_neg (by omega), if_neg (by omega), if_neg (by omega), if_neg (by omega), if_neg (by omega), if_neg (by omega), if_neg (by omega), if_neg (by omega)] at q1
  omega
/-- the image just made is the state itself -/
theorem im_new {σ : Mem} {k a i : Nat} (h : ofs a i < 191) : imM (imU σ k) k a i = σ a i := by
  unfold imM imU IMf
  rw [up2_r (by decide), if_pos ⟨rfl, by omega, rfl⟩, show 191 * k + ofs a i - 191 * k = ofs a i by omega, imS_ofs h]
theorem im_old {σ : Mem} {k k' a i : Nat} (hk : k ≠ k') (h : ofs a i < 191) : imM (imU σ k) k' a i = imM σ k' a i := by
  unfold imM imU IMf
  rw [up2_r (by decide), if_neg]
  intro q
  have := q.2.1
  omega
theorem ofs_le (a i : Nat) : ofs a i ≤ 191 := by
  unfold ofs
  repeat' split
  all_goals omega
theorem imU_row {σ : Mem} {k a : Nat} (h : a ≠ 35) (h2 : a ≠ 36) : imU σ k a = σ a := by unfold imU; rw [up2_r h2, IM_r h]
theorem imU_36 {σ : Mem} {k j : Nat} : imU σ k 36 j = if j = k then nI 1 else σ 36 j := by
  unfold imU; rw [up2_eq]
  by_cases q : j = k
  · rw [if_pos ⟨rfl, q⟩, if_pos q]
  · rw [if_neg (fun z => q z.2), if_neg q, IM_r (by decide)]
theorem imU_lo {σ : Mem} {k : Nat} (a : Nat) (h : a < 35) : imU σ k a = σ a := imU_row (by omega) (by omega)
