/-! the abstract state: rows 10 (many), 11 keys, 12 entries, 13 values, 14 kinds, 15 targets, 16 numbers, 17 registers, 18 packet, 19 rules, as the reference keeps them; and how a Program of the class represents it -/
abbrev Mem : Type := Nat → Nat → Int32
def mn (σ : Mem) : Nat := (σ 10 0).toNatClampNeg
def en (σ : Mem) (t : Nat) : Nat := (σ 12 t).toNatClampNeg
/-- a program at role b -/
def IsP (K : Nat → Nat) (L : Nat → Nat → Bool) (b : Nat) : Prop := K b = 4 ∧ (L b 1 = true ∧ L b 2 = true ∧ L b 3 = true ∧ L b 4 = true) ∧ K (b + 1) = 12 ∧ (∀ t, t < 8 → L (b + 1) t = true) ∧ K (b + 2) = 104 ∧ K (b + 3) = 104 ∧ K (b + 4) = 106 ∧ ∀ u, u < 8 → IsT K L (b + 8 + 8 * u)
/-- the role of the table at place t -/
def tr (I : Mem) (b t : Nat) : Nat := b + 1 + 7 + 8 * (I (b + 1) t).toNatClampNeg
def PM (I : Mem) (b : Nat) : Prop := (∀ t, t < 8 → I (b + 1) t = nI (I (b + 1) t).toNatClampNeg ∧ (I (b + 1) t).toNatClampNeg < 8) ∧ ∀ t u, t < 8 → u < 8 → I (b + 1) t = I (b + 1) u → t = u
theorem tr_T {K : Nat → Nat} {L : Nat → Nat → Bool} {I : Mem} {b t : Nat} (hp : IsP K L b) (hm : PM I b) (ht : t < 8) : IsT K L (tr I b t) := by
  have := hp.2.2.2.2.2.2.2 _ (hm.1 t ht).2
  unfold tr
  rw [show b + 1 + 7 + 8 * (I (b + 1) t).toNatClampNeg = b + 8 + 8 * (I (b + 1) t).toNatClampNeg by omega]
  exact this
theorem tr_lo (I : Mem) (b t : Nat) : b + 8 ≤ tr I b t := by unfold tr; omega
theorem tr_hi {I : Mem} {b t : Nat} (hm : PM I b) (ht : t < 8) : tr I b t + 8 ≤ b + 72 := by
  have := (hm.1 t ht).2
  unfold tr; omega
theorem tr_ne {I : Mem} {b t u : Nat} (hm : PM I b) (ht : t < 8) (hu : u < 8) (h : t ≠ u) : tr I b t + 8 ≤ tr I b u ∨ tr I b u + 8 ≤ tr I b t := by
  have h1 := hm.1 t ht
  have h2 := hm.1 u hu
  have h3 : (I (b + 1) t).toNatClampNeg ≠ (I (b + 1) u).toNatClampNeg := fun e => h (hm.2 t u ht hu (by rw [h1.1, h2.1, e]))
  unfold tr; omega
theorem tr_cong {I J : Mem} {b t : Nat} (h : J (b + 1) t = I (b + 1) t) : tr J b t = tr I b t := by unfold tr; rw [h]
theorem PM_cong {I J : Mem} {b : Nat} (h : ∀ t, t < 8 → J (b + 1) t = I (b + 1) t) (hm : PM I b) : PM J b := ⟨fun t ht => by rw [h t ht]; exact hm.1 t ht, fun t u ht hu e => hm.2 t u ht hu (by rw [← h t ht, ← h u hu]; exact e)⟩
/-- the table at role h is the abstract state's table t -/
def TRp (h : Nat) (J σ : Mem) (t : Nat) : Prop := J h 0 = σ 11 t ∧ J h 1 = σ 12 t ∧ (∀ e, e < en σ t → J (h + 1) e = σ 13 (5 * t + e)) ∧ ∀ e, e < 5 → thr (en σ t) e → ∀ k, k < 3 → J (h + 3 + e) k = σ (14 + k) (5 * t + e)
theorem TRp_cong {h t : Nat} {J J' σ : Mem} (he : en σ t ≤ 4) (hc : ∀ a, h ≤ a → a < h + 8 → J' a = J a) (H : TRp h J σ t) : TRp h J' σ t :=
  ⟨by rw [hc h (by omega) (by omega)]; exact H.1, by rw [hc h (by omega) (by omega)]; exact H.2.1, fun e h1 => by rw [hc (h + 1) (by omega) (by omega)]; exact H.2.2.1 e h1, fun e h1 h2 k hk => by rw [hc (h + 3 + e) (by omega) (by omega)]; exact H.2.2.2 e h1 h2 k hk⟩
def PR (b : Nat) (J σ : Mem) : Prop := J b 0 = σ 10 0 ∧ PM J b ∧ (∀ t, t < mn σ → TRp (tr J b t) J σ t) ∧ (∀ i, i < 4 → J (b + 2) i = σ 17 i) ∧ (∀ i, i < 4 → J (b + 3) i = σ 19 i) ∧ ∀ i, i < 6 → J (b + 4) i = σ 18 i
/-- acts as they may be -/
def most (k : Int32) : Int := if k.toInt = 1 ∨ k.toInt = 3 then 255 else if k.toInt = 2 ∨ k.toInt = 4 then 5 else 3
abbrev okA (k t x : Int32) : Prop := (0 ≤ k.toInt ∧ k.toInt ≤ 9) ∧ (mat k → (0 ≤ t.toInt ∧ t.toInt < 6) ∧ (0 ≤ x.toInt ∧ x.toInt ≤ most k))
def WFt (σ : Mem) (t : Nat) : Prop := σ 12 t = nI (en σ t) ∧ en σ t ≤ 4 ∧ (0 ≤ (σ 11 t).toInt ∧ (σ 11 t).toInt < 6) ∧ (∀ e, e < 5 → thr (en σ t) e → okA (σ 14 (5 * t + e)) (σ 15 (5 * t + e)) (σ 16 (5 * t + e))) ∧ ∀ e f, e < en σ t → f < en σ t → σ 13 (5 * t + e) = σ 13 (5 * t + f) → e = f
def WF (σ : Mem) : Prop := σ 10 0 = nI (mn σ) ∧ mn σ ≤ 8 ∧ (∀ t, t < mn σ → WFt σ t) ∧ (∀ i, i < 4 → 0 ≤ (σ 17 i).toInt ∧ (σ 17 i).toInt ≤ 65535) ∧ ((5 ≤ (σ 19 0).toInt ∧ (σ 19 0).toInt ≤ 20) ∧ (1 ≤ (σ 19 1).toInt ∧ (σ 19 1).toInt ≤ 4) ∧ (1 ≤ (σ 19 2).toInt ∧ (σ 19 2).toInt ≤ 8) ∧ 1 ≤ (σ 19 3).toInt ∧ (σ 19 3).toInt ≤ 4) ∧ ∀ i, i < 6 → 0 ≤ (σ 18 i).toInt ∧ (σ 18 i).toInt ≤ 255
/-- the spec's words -/
def wrS (σ : Mem) (t : Nat) : Int32 := wrT (en σ t) (fun e => σ 14 (5 * t + e)) (fun e => σ 15 (5 * t + e))
def rdS (σ : Mem) (t : Nat) : Int32 := rdT (σ 11 t) (en σ t) (fun e => σ 14 (5 * t + e)) (fun e => σ 15 (5 * t + e)) (fun e => σ 16 (5 * t + e))
def rgS (σ : Mem) (t : Nat) : Int32 := rgT (en σ t) (fun e => σ 14 (5 * t + e)) (fun e => σ 16 (5 * t + e))
theorem wrS_rep {h t : Nat} {J σ : Mem} (H : TRp h J σ t) : wrT (en σ t) (fun e => J (h + 3 + e) 0) (fun e => J (h + 3 + e) 1) = wrS σ t := by
  unfold wrS wrT
  refine orF_congr fun e he => ?_
  dsimp only
  by_cases q : thr (en σ t) e
  · rw [if_pos q, if_pos q, H.2.2.2 e he q 0 (by decide), H.2.2.2 e he q 1 (by decide)]
  · rw [if_neg q, if_neg q]
theorem rdS_rep {h t : Nat} {J σ : Mem} (H : TRp h J σ t) : rdT (J h 0) (en σ t) (fun e => J (h + 3 + e) 0) (fun e => J (h + 3 + e) 1) (fun e => J (h + 3 + e) 2) = rdS σ t := by
  unfold rdS rdT
  rw [H.1]
  refine orF_congr fun e he => ?_
  dsimp only
  by_cases q : thr (en σ t) e
  · rw [if_pos q, if_pos q, H.2.2.2 e he q 0 (by decide), H.2.2.2 e he q 1 (by decide), H.2.2.2 e he q 2 (by decide)]
  · rw [if_neg q, if_neg q]
theorem rgS_rep {h t : Nat} {J σ : Mem} (H : TRp h J σ t) : rgT (en σ t) (fun e => J (h + 3 + e) 0) (fun e => J (h + 3 + e) 2) = rgS σ t := by
  unfold rgS rgT
  refine orF_congr fun e he => ?_
  dsimp only
  by_cases q : thr (en σ t) e
  · rw [if_pos q, if_pos q, H.2.2.2 e he q 0 (by decide), H.2.2.2 e he q 2 (by decide)]
  · rw [if_neg q, if_neg q]
section RW3
variable {p : Program} {l : Launch} {e : Env} {R : Room} {s : State} {m : MethodId} {args : Array Value} {below : List Frame} {meth : Method} {c : Code} {H : Heap} {locs : List Loc} {cells slots : Nat} {Q : State → Prop}
variable {cc : ByteArray} {pc : Nat} {ls : Array Slot} {rest : List Value} {E : En} {K : Nat → Nat} {L : Nat → Nat → Bool} {ad : Nat → Nat} {I : Nat → Nat → Int32} {r : Nat} {own : String} {nL : Nat}
theorem r_ast12 (C : Cx E p s m args c cc own nL) (hP : Hp E K L ad I H) (hS : va_S (AG E) s.heap H locs) {j q u : Nat} (hr : K r = 12) (hL : L r j = true) (hk : K q = 6) (hj : j < 8) (hu : u < 2 ^ 31) (hq : q = r + 7 + 8 * u) (hdg : decode cc pc = .ok (.aastore, 1))
    (kk : ∀ (H1 : Heap) (locs1 : List Loc), Hp E K L ad (up2 I r j (nI u)) H1 → va_S (AG E) s.heap H1 locs1 → W p l e R s m args below meth c H1 locs1 cells slots Q (F0 m (pc + 1) ls rest)) : W p l e R s m args below meth c H locs cells slots Q (F0 m pc ls (.ref (ad q) :: .int (nI j) :: .ref (ad r) :: rest)) := by
  refine r_aast (t0 := 3) (ci := 5) (rc := (RX5, TX5, 4)) (L' := L) (I' := up2 I r j (nI u)) C hP hS (by omega) (wE_12 _ _ _ _ hr) rfl (by omega) (wE_6 _ _ _ _ hk) rfl hj (by decide) ?_ (fun a ha => up2_r ha) (fun _ _ => rfl) hdg kk
  rw [wE_12 _ _ _ _ hr, up2_at]
  congr 7
  funext i
  by_cases e : i = j
  · subst e
    simp only [upd, va_up, if_true]
    rw [qo_t hL, nI_clamp hu, hq]
  · simp only [upd, va_up, e, if_false]
end RW3
/-- registers of the tables but t0, and whether x is among them -/
def tkO (σ : Mem) (t0 : Nat) : Nat → Int32 := orF (nI 0) (fun k => if k = t0 then nI 0 else rgS σ k)
abbrev tk (σ : Mem) (t0 : Nat) (x : Int32) : Prop := tkO σ t0 (mn σ) &&& sB x ≠ 0
/-- tables from t0 on to j moved one down -/
def RT (I J : Mem) (b t0 j : Nat) : Prop := (∀ a, a ≠ b + 1 → J a = I a) ∧ ∀ t, t < 8 → J (b + 1) t = if t0 ≤ t ∧ t < j then I (b + 1) (t + 1) else I (b + 1) t
theorem RT_s {I J : Mem} {b t0 j : Nat} (H : RT I J b t0 j) (h0 : t0 ≤ j) (hj : j + 1 < 8) : RT I (up2 J (b + 1) j (I (b + 1) (j + 1))) b t0 (j + 1) := by
  refine ⟨fun a ha => by rw [up2_r ha, H.1 a ha], fun t ht => ?_⟩
  by_cases e : t = j
  · subst e; rw [up2_s, if_pos (by omega)]
  · rw [up2_k e, H.2 t ht]
    by_cases q : t0 ≤ t ∧ t < j
    · rw [if_pos q, if_pos (by omega)]
    · rw [if_neg q, if_neg (by omega)]
def RTe (I J : Mem) (b n t0 : Nat) : Prop := (∀ a, a ≠ b → a ≠ b + 1 → J a = I a) ∧ J b 0 = nI (n - 1) ∧ ∀ t, t < 8 → J (b + 1) t = if t < t0 then I (b + 1) t else if t + 1 < n then I (b + 1) (t + 1) else if t + 1 = n then I (b + 1) t0 else I (b + 1) t
theorem RT_e {I J : Mem} {b n t0 : Nat} (H : RT I J b t0 (n - 1)) (h0 : t0 < n) (hn : n ≤ 8) : RTe I (up2 (up2 J b 0 (nI (n - 1))) (b + 1) (n - 1) (I (b + 1) t0)) b n t0 := by
  refine ⟨fun a h1 h2 => by rw [up2_r h2, up2_r h1, H.1 a h2], by rw [up2_r (by omega), up2_s], fun t ht => ?_⟩
  by_cases e : t = n - 1
  · subst e
    rw [up2_s]
    by_cases q : n - 1 < t0
    · omega
    · rw [if_neg q, if_neg (by omega), if_pos (by omega)]
  · rw [up2_k e, up2_r (by omega), H.2 t ht]
    by_cases q : t < t0
    · rw [if_pos q, if_neg (by omega)]
    · rw [if_neg q]
      by_cases q2 : t + 1 < n
      · rw [if_pos (by omega), if_pos q2]
      · rw [if_neg (by omega), if_neg q2, if_neg (by omega)]
theorem CT_TRp {J J' σ : Mem} {h q t : Nat} (H : CT J J' h q 5) (T : TRp q J σ t) (he : en σ t ≤ 4) : TRp h J' σ t :=
  ⟨by rw [H.2.1]; exact T.1, by rw [H.2.2.1]; exact T.2.1, fun e h1 => by rw [H.2.2.2.1 e (by omega)]; exact T.2.2.1 e h1, fun e h1 h2 k hk => by rw [H.2.2.2.2 e h1 k hk]; exact T.2.2.2 e h1 h2 k hk⟩
/-- a program copied from one that represents σ, as far as table j -/
def CP (I J σ : Mem) (b j : Nat) : Prop := (∀ a, ¬ (b ≤ a ∧ a < b + 72) → J a = I a) ∧ J b 0 = σ 10 0 ∧ (∀ t, t < 8 → J (b + 1) t = I (b + 1) t) ∧ ∀ t, t < j → TRp (tr I b t) J σ t
theorem CP_s {I J J' σ : Mem} {b q j : Nat} (H : CP I J σ b j) (hm : PM I b) (hj : j < 8) (hb : b + 72 ≤ q ∨ q + 72 ≤ b) (hw : ∀ t, t ≤ j → en σ t ≤ 4) (hq : PR q I σ) (hjn : j < mn σ) (C : CT J J' (tr I b j) (tr I q j) 5) : CP I J' σ b (j + 1) := by
  have hlo := tr_lo I b j
  have hhi := tr_hi hm hj
  have glo := tr_lo I q j
  have ghi := tr_hi hq.2.1 hj
  have hT : TRp (tr I q j) J σ j := TRp_cong (hw j (Nat.le_refl _)) (fun a h1 h2 => H.1 a (by omega)) (hq.2.2.1 j hjn)
  refine ⟨fun a ha => ?_, ?_, fun t ht => ?_, fun t ht => ?_⟩
  · rw [C.1 a (by omega) (by omega) (fun e he => by omega), H.1 a ha]
  · rw [C.1 b (by omega) (by omega) (fun e he => by omega)]; exact H.2.1
  · rw [C.1 (b + 1) (by omega) (by omega) (fun e he => by omega)]; exact H.2.2.1 t ht
  · by_cases e : t = j
    · subst e; exact CT_TRp C hT (hw t (Nat.le_refl _))
    · have hne := tr_ne hm (show t < 8 by omega) hj e
      exact TRp_cong (hw t (by omega)) (fun a h1 h2 => C.1 a (by omega) (by omega) (fun e he => by omega)) (H.2.2.2 t (by omega))
theorem CP_e {I J σ : Mem} {b q : Nat} (H : CP I J σ b (mn σ)) (hm : PM I b) (hb : b + 72 ≤ q ∨ q + 72 ≤ b) (hn : mn σ ≤ 8) (hw : ∀ t, t < mn σ → en σ t ≤ 4) (hq : PR q I σ) :
    (∀ a, ¬ (b ≤ a ∧ a < b + 72) → cpy2 (cpy2 (cpy2 J (b + 2) (q + 2) 4) (b + 3) (q + 3) 4) (b + 4) (q + 4) 6 a = I a) ∧ PR b (cpy2 (cpy2 (cpy2 J (b + 2) (q + 2) 4) (b + 3) (q + 3) 4) (b + 4) (q + 4) 6) σ := by
  have hrow : ∀ a, a ≠ b + 2 → a ≠ b + 3 → a ≠ b + 4 → cpy2 (cpy2 (cpy2 J (b + 2) (q + 2) 4) (b + 3) (q + 3) 4) (b + 4) (q + 4) 6 a = J a := fun a h1 h2 h3 => by rw [cpy2_r h3, cpy2_r h2, cpy2_r h1]
  generalize hZ : cpy2 (cpy2 (cpy2 J (b + 2) (q + 2) 4) (b + 3) (q + 3) 4) (b + 4) (q + 4) 6 = Z at hrow ⊢
  have htr : ∀ t, t < 8 → tr Z b t = tr I b t := fun t ht => tr_cong (by rw [hrow _ (by omega) (by omega) (by omega)]; exact H.2.2.1 t ht)
  refine ⟨fun a ha => by rw [hrow a (by omega) (by omega) (by omega), H.1 a ha], by rw [hrow b (by omega) (by omega) (by omega)]; exact H.2.1, PM_cong (fun t ht => by rw [hrow _ (by omega) (by omega) (by omega)]; exact H.2.2.1 t ht) hm, fun t ht => ?_, fun i hi => ?_, fun i hi => ?_, fun i hi => ?_⟩
  · have hlo := tr_lo I b t
    rw [htr t (by omega)]
    exact TRp_cong (hw t ht) (fun a h1 h2 => hrow a (by omega) (by omega) (by omega)) (H.2.2.2 t ht)
  · rw [← hZ, cpy2_r (by omega), cpy2_r (by omega), cpy2_s hi, H.1 (q + 2) (by omega)]; exact hq.2.2.2.1 i hi
  · rw [← hZ, cpy2_r (by omega), cpy2_s hi, cpy2_r (by omega), H.1 (q + 3) (by omega)]; exact hq.2.2.2.2.1 i hi
  · rw [← hZ, cpy2_s hi, cpy2_r (by omega), cpy2_r (by omega), H.1 (q + 4) (by omega)]; exact hq.2.2.2.2.2 i hi
