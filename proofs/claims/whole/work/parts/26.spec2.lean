/-! spec: needs, told, stages -/
def sNeeds (σ : Mem) (a b : Int32) : Int32 := if isTb σ a ∧ isTb σ b then (if a = b then -2 else nI (if a.toInt < b.toInt then nd σ (tn a) (tn b) else nd σ (tn b) (tn a))) else -1
def sTold (σ : Mem) (t w : Int32) : Int32 := if isTb σ t then (if w.toInt = 0 then σ 11 (tn t) else if w.toInt = 1 then σ 12 (tn t) else if w.toInt = 2 then nI (lev σ (tn t)) else if w.toInt = 3 then (match pkS σ (mn σ) with | none => -3 | some pl => nI (pl (tn t))) else if w.toInt = 4 then wrS σ (tn t) else if w.toInt = 5 then rdS σ (tn t) else if w.toInt = 6 then rgS σ (tn t) else prt (en σ (tn t)) (fun e => σ 13 (5 * tn t + e)) (fun e k => σ (14 + k) (5 * tn t + e)) w) else -1
def sStages (σ : Mem) : Int32 := match pkS σ (mn σ) with
  | none => -3
  | some pl => nI (cn (fun z => decide (0 < cn (atF pl z) (mn σ))) 8)
def sStage (σ : Mem) (i w : Int32) : Int32 := if (0 ≤ i.toInt ∧ i.toInt < 8) ∧ (0 ≤ w.toInt ∧ w.toInt ≤ 1) then (match pkS σ (mn σ) with | none => -3 | some pl => if w.toInt = 0 then nI (sN (atF pl (tn i)) (mn σ)) else nI (szP σ pl (tn i) (mn σ))) else -2
/-- the reference's scratch rows are 20 to 26 -/
def Sm (I J : Mem) : Prop := ∀ a, a < 20 ∨ 26 < a → J a = I a
def LVo (I J : Mem) (k : Nat) : Prop := (∀ a, a ≠ 20 → J a = I a) ∧ ∀ i, i < k → J 20 i = nI (lev I i)
def LVi (I J : Mem) (k e : Nat) : Prop := LVo I J k ∧ J 20 k = nI (lvP I k e)
theorem LVi_s {I J : Mem} {k e m : Nat} (H : LVi I J k e) (hm : m = lvP I k (e + 1)) : LVi I (up2 J 20 k (nI m)) k (e + 1) :=
  ⟨⟨fun a ha => by rw [up2_r ha]; exact H.1.1 a ha, fun i hi => by rw [up2_k (by omega)]; exact H.1.2 i hi⟩, by rw [up2_s, hm]⟩
theorem LVi_e {I J : Mem} {k : Nat} (H : LVi I J k k) : LVo I J (k + 1) := ⟨H.1.1, fun i hi => if q : i = k then by subst q; rw [H.2, lev_eq] else H.1.2 i (by omega)⟩
theorem lvP_1 {σ : Mem} {k e : Nat} (h : 2 ≤ nd σ e k) (h2 : lvP σ k e ≤ lev σ e) : lev σ e + 1 = lvP σ k (e + 1) := by
  unfold lvP at *; simp only [mxF]; rw [if_pos h]; omega
theorem lvP_2 {σ : Mem} {k e : Nat} (h2 : lev σ e < lvP σ k e) : lvP σ k e = lvP σ k (e + 1) := by
  unfold lvP at *; simp only [mxF]; split <;> omega
theorem lvP_3 {σ : Mem} {k e : Nat} (h : ¬ 2 ≤ nd σ e k) : lvP σ k e = lvP σ k (e + 1) := by
  unfold lvP; simp only [mxF]; rw [if_neg h]; omega
/-- the reference's rows of stages -/
def PKM (I J : Mem) (t : Nat) (pl : Nat → Nat) : Prop := pkS I t = some pl ∧ (∀ a, a < 21 ∨ 23 < a → J a = I a) ∧ (∀ e, e < t → J 21 e = nI (pl e) ∧ pl e < 8) ∧ ∀ z, z < 8 → J 22 z = nI (cn (atF pl z) t) ∧ J 23 z = nI (szP I pl z t) ∧ cn (atF pl z) t ≤ ru I 1
theorem PKM_s {I J : Mem} {t z : Nat} {pl : Nat → Nat} (H : PKM I J t pl) (ht : t < 8) (hz : z < 8) (hs : srch I pl t (ru I 2 - lsP I pl t t) (lsP I pl t t) = some z) (hc : cn (atF pl z) t < ru I 1) :
    PKM I (up2 (up2 (up2 J 21 t (nI z)) 22 z (nI (cn (atF pl z) t + 1))) 23 z (nI (szP I pl z t + (en I t + 1)))) (t + 1) (fun i => if i = t then z else pl i) := by
  obtain ⟨h0, h1, h2, h3⟩ := H
  refine ⟨pkS_so h0 hs, fun a ha => by rw [up2_r (by omega), up2_r (by omega), up2_r (by omega)]; exact h1 a ha, fun e he => ?_, fun u hu => ?_⟩
  · rw [up2_r (by decide), up2_r (by decide)]
    by_cases q : e = t
    · subst q; rw [up2_s]; simp [hz]
    · rw [up2_k q]; simp only [q, if_false]; exact h2 e (by omega)
  · have c1 : cn (atF (fun i => if i = t then z else pl i) u) t = cn (atF pl u) t := cn_congr fun i hi => by simp [atF, show i ≠ t by omega]
    have c2 : szP I (fun i => if i = t then z else pl i) u t = szP I pl u t := szP_congr fun i hi => by simp [show i ≠ t by omega]
    simp only [cn, szP]
    rw [c1, c2]
    obtain ⟨g1, g2, g3⟩ := h3 u hu
    by_cases q : u = z
    · subst q
      refine ⟨?_, ?_, ?_⟩
      · rw [up2_r (by decide), up2_s]; simp [atF]
      · rw [up2_s]; simp
      · simp [atF]; omega
    · refine ⟨?_, ?_, ?_⟩
      · rw [up2_r (by decide), up2_k q, up2_r (by decide), g1]; simp [atF, Ne.symm q]
      · rw [up2_k q, up2_r (by decide), up2_r (by decide), g2]; simp [Ne.symm q]
      · simp [atF, Ne.symm q]; exact g3
def sOut (σ : Mem) (w : Int32) : Int32 := if 0 ≤ w.toInt ∧ w.toInt ≤ 6 then (if σ 10 22 = 0 then -6 else if w.toInt = 6 then σ 10 20 else σ 27 (tn w)) else -2
def sTook (σ : Mem) (t r : Int32) : Int32 := if (0 ≤ t.toInt ∧ t.toInt < 8) ∧ (0 ≤ r.toInt ∧ r.toInt < 4) then (if r.toInt < (σ 10 20).toInt then σ 31 (8 * tn r + tn t) else -6) else -2
def sCount (σ : Mem) (w : Int32) : Int32 := if w.toInt = 0 then σ 10 0 else if 1 ≤ w.toInt ∧ w.toInt ≤ 4 then σ 19 (w.toInt - 1).toNat else if w.toInt = 5 then σ 10 22 else if w.toInt = 6 then σ 10 23 else if w.toInt = 7 then σ 10 24 else if w.toInt = 8 then (match pkS σ (mn σ) with | none => nI 0 | some _ => nI 1) else if w.toInt = 9 then nI ((if σ 36 0 = 0 then 0 else 1) + (if σ 36 1 = 0 then 0 else 2)) else if 10 ≤ w.toInt ∧ w.toInt ≤ 15 then σ 18 (w.toInt - 10).toNat else -2
theorem prt_D {n : Nat} {val : Nat → Int32} {a : Nat → Nat → Int32} {i : Nat} (hi : i < 16) (h : 4 * n ≤ i) : prt n val a (nI (i + 10)) = -2 := prt_C (by rw [nI_toInt (by omega)]; omega) (by rw [nI_toInt (by omega)]; omega)
