/-! the fewest stages: what a table of answers must satisfy -/
def szS (σ : Mem) (S : Nat) : Nat → Nat
  | 0 => 0
  | t + 1 => szS σ S t + (if S.testBit t then en σ t + 1 else 0)
def mfS (σ : Mem) (t : Nat) : Nat := sN (mfF σ t) t
def mjS (σ : Mem) (t : Nat) : Nat := sN (mjF σ t) t
def fitS (σ : Mem) (B S j : Nat) : Prop := ∀ t, t < j → S.testBit t = true → mfS σ t &&& B = mfS σ t ∧ mjS σ t &&& (B ||| S) = mjS σ t
def okS (σ : Mem) (B S : Nat) : Prop := popN S ≤ ru σ 1 ∧ fitS σ B S (mn σ) ∧ szS σ S (mn σ) ≤ ru σ 0
/-- set S in one stage makes D out of D - S, in k stages -/
def cnd (σ : Mem) (A : Nat → Option Nat) (D S k : Nat) : Prop := okS σ (D - S) S ∧ ∃ m, A (D - S) = some m ∧ k = m + 1
/-- v is the least of the k's of the sets in P -/
def MinOf (P : Nat → Prop) (c : Nat → Nat → Prop) (v : Option Nat) : Prop := (∀ S k, P S → c S k → ∃ m, v = some m ∧ m ≤ k) ∧ ∀ m, v = some m → ∃ S, P S ∧ c S m
theorem MinOf_uni {P : Nat → Prop} {c c' : Nat → Nat → Prop} {v w : Option Nat} (hc : ∀ S k, P S → (c S k ↔ c' S k)) (H : MinOf P c v) (G : MinOf P c' w) : v = w := by
  cases v with
  | none =>
    cases w with
    | none => rfl
    | some k =>
      obtain ⟨S, h1, h2⟩ := G.2 k rfl
      obtain ⟨m, h3, -⟩ := H.1 S k h1 ((hc S k h1).mpr h2)
      cases h3
  | some m =>
    obtain ⟨S, h1, h2⟩ := H.2 m rfl
    obtain ⟨k, h3, h4⟩ := G.1 S m h1 ((hc S m h1).mp h2)
    subst h3
    obtain ⟨T, g1, g2⟩ := G.2 k rfl
    obtain ⟨m', g3, g4⟩ := H.1 T k g1 ((hc T k g1).mpr g2)
    cases g3
    rw [show m = k by omega]
abbrev sub (S D : Nat) : Prop := S ≠ 0 ∧ S &&& D = S
theorem sub_le {S D : Nat} (h : sub S D) : S ≤ D := by rw [← h.2]; exact Nat.and_le_right
def Fw (σ : Mem) (A : Nat → Option Nat) : Prop := A 0 = some 0 ∧ ∀ D, 0 < D → D < 2 ^ mn σ → MinOf (fun S => sub S D) (cnd σ A D) (A D)
theorem Fw_uni {σ : Mem} {A B : Nat → Option Nat} (HA : Fw σ A) (HB : Fw σ B) : ∀ n D, D < n → D < 2 ^ mn σ → A D = B D
  | 0, _, h, _ => absurd h (Nat.not_lt_zero _)
  | n + 1, D, h, hD => by
    by_cases q : D = 0
    · subst q; rw [HA.1, HB.1]
    · refine MinOf_uni (fun S k hS => ?_) (HA.2 D (by omega) hD) (HB.2 D (by omega) hD)
      have hle := sub_le hS
      have e := Fw_uni HA HB n (D - S) (by have := hS.1; omega) (by omega)
      unfold cnd; rw [e]
/-- the next set below s -/
theorem nxt_sub {D : Nat} : ∀ (n s S : Nat), s < n → 0 < s → s &&& D = s → S &&& D = S → S < s → S ≤ (s - 1) &&& D := by
  intro n
  induction n generalizing D with
  | zero => intro s S h; omega
  | succ n ih =>
    intro s S hn hs h1 h2 hlt
    have d1 : (s &&& D) / 2 = (s / 2) &&& (D / 2) := by
      apply Nat.eq_of_testBit_eq; intro i; simp [Nat.testBit_and, Nat.testBit_div_two]
    have d2 : (S &&& D) / 2 = (S / 2) &&& (D / 2) := by
      apply Nat.eq_of_testBit_eq; intro i; simp [Nat.testBit_and, Nat.testBit_div_two]
    have d3 : ((s - 1) &&& D) / 2 = ((s - 1) / 2) &&& (D / 2) := by
      apply Nat.eq_of_testBit_eq; intro i; simp [Nat.testBit_and, Nat.testBit_div_two]
    have m0 : ∀ x : Nat, (x &&& D) % 2 = (x % 2) &&& (D % 2) := fun x => by
      have := Nat.and_mod_two_pow (a := x) (b := D) (n := 1); simpa using this
    have m2 := m0 S
    have m3 := m0 (s - 1)
    rw [h1] at d1
    rw [h2] at d2 m2
    have hb : ∀ a, a < 2 → ∀ b, b < 2 → a &&& b ≤ a ∧ (a = 1 → b = 1 → a &&& b = 1) ∧ (a &&& b = 1 → b = 1) := by decide
    by_cases o : s % 2 = 1
    · have e1 : (s - 1) / 2 = s / 2 := by omega
      rw [e1, ← d1] at d3
      omega
    · have e1 : (s - 1) / 2 = s / 2 - 1 := by omega
      rw [e1] at d3
      have i1 := ih (D := D / 2) (s / 2) (S / 2) (by omega) (by omega) d1.symm d2.symm (by omega)
      rw [← d3] at i1
      have hs1 : (s - 1) % 2 = 1 := by omega
      have q1 := hb (S % 2) (by omega) (D % 2) (by omega)
      have q2 := hb ((s - 1) % 2) (by omega) (D % 2) (by omega)
      have : S % 2 = 0 ∨ S % 2 = 1 := by omega
      rcases this with z | z
      · omega
      · have : D % 2 = 1 := q1.2.2 (by rw [← m2]; exact z)
        have := q2.2.1 hs1 this
        omega
/-- the sets of D above s have been seen -/
def Seen (σ : Mem) (A : Nat → Option Nat) (D s : Nat) (v : Option Nat) : Prop := MinOf (fun S => sub S D ∧ s < S) (cnd σ A D) v
theorem Seen_0 {σ : Mem} {A : Nat → Option Nat} {D : Nat} : Seen σ A D D none := ⟨fun S k h _ => absurd (sub_le h.1) (by omega), fun m h => by cases h⟩
theorem Seen_e {σ : Mem} {A : Nat → Option Nat} {D : Nat} {v : Option Nat} (H : Seen σ A D 0 v) : MinOf (fun S => sub S D) (cnd σ A D) v :=
  ⟨fun S k h c => H.1 S k ⟨h, by have := h.1; omega⟩ c, fun m h => (H.2 m h).elim fun S q => ⟨S, q.1.1, q.2⟩⟩
theorem seen_of {D s S : Nat} (hs : sub s D) (h : sub S D) (h2 : (s - 1) &&& D < S) : s ≤ S := by
  rcases Nat.lt_or_ge S s with q | q
  · have := nxt_sub (s + 1) s S (by omega) (by have := hs.1; omega) hs.2 h.2 q; omega
  · exact q
/-- the set s makes no less -/
theorem Seen_no {σ : Mem} {A : Nat → Option Nat} {D s : Nat} {v : Option Nat} (H : Seen σ A D s v) (hs : sub s D) (hn : ∀ k, cnd σ A D s k → ∃ m, v = some m ∧ m ≤ k) : Seen σ A D ((s - 1) &&& D) v := by
  refine ⟨fun S k h c => ?_, fun m h => (H.2 m h).elim fun S q => ⟨S, ⟨q.1.1, Nat.lt_of_le_of_lt (Nat.le_trans Nat.and_le_left (Nat.sub_le _ _)) q.1.2⟩, q.2⟩⟩
  by_cases e : S = s
  · subst e; exact hn k c
  · exact H.1 S k ⟨h.1, by have := seen_of hs h.1 h.2; omega⟩ c
theorem Seen_yes {σ : Mem} {A : Nat → Option Nat} {D s k : Nat} {v : Option Nat} (H : Seen σ A D s v) (hs : sub s D) (hc : cnd σ A D s k) (hl : ∀ m, v = some m → k < m) : Seen σ A D ((s - 1) &&& D) (some k) := by
  have hlt : (s - 1) &&& D < s := Nat.lt_of_le_of_lt Nat.and_le_left (by have := hs.1; omega)
  refine ⟨fun S k' h c => ⟨k, rfl, ?_⟩, fun m h => ⟨s, ⟨hs, hlt⟩, by cases h; exact hc⟩⟩
  by_cases e : S = s
  · subst e
    obtain ⟨-, m, h1, h2⟩ := hc
    obtain ⟨-, m', h3, h4⟩ := c
    rw [h1] at h3; cases h3; omega
  · obtain ⟨m, h1, h2⟩ := H.1 S k' ⟨h.1, by have := seen_of hs h.1 h.2; omega⟩ c
    have := hl m h1; omega
def encR (v : Option Nat) : Int32 := match v with
  | none => -6
  | some k => nI k
theorem szS_le {σ : Mem} {S : Nat} : ∀ {t : Nat}, (∀ e, e < t → en σ e ≤ 4) → szS σ S t ≤ 5 * t
  | 0, _ => Nat.le_refl _
  | t + 1, h => by
    have := szS_le (σ := σ) (S := S) (fun e he => h e (Nat.lt_succ_of_lt he))
    have := h t (Nat.lt_succ_self t)
    simp only [szS]; split <;> omega
