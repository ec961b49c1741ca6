/-! rows: arraycopy, max, min; words of the library -/
theorem tq_cpN : Cond.native arraycopyName ∈ TB := tb_in (List.mem_of_getElem? (i := 501) (by decide +kernel)) (by decide +kernel)
theorem tq_cpS : Cond.static arraycopyName ∈ TB := tb_in (List.mem_of_getElem? (i := 500) (by decide +kernel)) (by decide +kernel)
theorem tq_maxS : Cond.static Lib.Math.max.name ∈ TB := tb_in (List.mem_of_getElem? (i := 408) (by decide +kernel)) (by decide +kernel)
theorem tq_maxC : Cond.code Lib.Math.max.name Lib.Math.max.code 2 (some .int) ∈ TB := tb_in (List.mem_of_getElem? (i := 409) (by decide +kernel)) (by decide +kernel)
theorem tq_minS : Cond.static Lib.Math.min.name ∈ TB := tb_in (List.mem_of_getElem? (i := 440) (by decide +kernel)) (by decide +kernel)
theorem tq_minC : Cond.code Lib.Math.min.name Lib.Math.min.code 2 (some .int) ∈ TB := tb_in (List.mem_of_getElem? (i := 441) (by decide +kernel)) (by decide +kernel)
def cpy2 (I : Nat → Nat → Int32) (r q n : Nat) : Nat → Nat → Int32 := fun a => if a = r then va_cpy (I q) (I r) 0 0 n else I a
theorem cpy2_r {I : Nat → Nat → Int32} {r q n a : Nat} (h : a ≠ r) : cpy2 I r q n a = I a := by simp [cpy2, h]
theorem cpy2_s {I : Nat → Nat → Int32} {r q n j : Nat} (h : j < n) : cpy2 I r q n r j = I q j := by simp [cpy2, va_cpy, h]
section RW2
variable {p : Program} {l : Launch} {e : Env} {R : Room} {s : State} {m : MethodId} {args : Array Value} {below : List Frame} {meth : Method} {c : Code} {H : Heap} {locs : List Loc} {cells slots : Nat} {Q : State → Prop}
variable {cc : ByteArray} {pc : Nat} {ls : Array Slot} {rest : List Value} {E : En} {K : Nat → Nat} {L : Nat → Nat → Bool} {ad : Nat → Nat} {I : Nat → Nat → Int32} {r : Nat} {own : String} {nL : Nat}
theorem r_mmax (C : Cx E p s m args c cc own nL) {idx : Nat} {x y : Int32} (hlink : Cond.methodLink own idx Lib.Math.max.name ∈ TB) (hf : 1 ≤ R.frames) (hlo : (rest.map fun v => v.category).sum + 13 ≤ R.locals) (hc : cells ≤ R.cells ∧ slots ≤ R.slots) (hls : ls.size = nL) (hdg : decode cc pc = .ok (.invokestatic idx, 3))
    (kk : W p l e R s m args below meth c H locs cells slots Q (F0 m (pc + 3) ls (.int (if x < y then y else x) :: rest))) : W p l e R s m args below meth c H locs cells slots Q (F0 m pc ls (.int y :: .int x :: rest)) :=
  va_mmax C.1 C.2.1 (by rw [C.2.2.2.2.2, hls]) C.2.2.2.1 (C.2.2.1 _ hlink) (C.2.2.1 _ tq_maxS) (C.2.2.1 _ tz_J9) (C.2.2.1 _ tq_maxC) hf hlo hc.1 hc.2 hdg kk
theorem r_mmin (C : Cx E p s m args c cc own nL) {idx : Nat} {x y : Int32} (hlink : Cond.methodLink own idx Lib.Math.min.name ∈ TB) (hf : 1 ≤ R.frames) (hlo : (rest.map fun v => v.category).sum + 13 ≤ R.locals) (hc : cells ≤ R.cells ∧ slots ≤ R.slots) (hls : ls.size = nL) (hdg : decode cc pc = .ok (.invokestatic idx, 3))
    (kk : W p l e R s m args below meth c H locs cells slots Q (F0 m (pc + 3) ls (.int (if y < x then y else x) :: rest))) : W p l e R s m args below meth c H locs cells slots Q (F0 m pc ls (.int y :: .int x :: rest)) :=
  va_mmin C.1 C.2.1 (by rw [C.2.2.2.2.2, hls]) C.2.2.2.1 (C.2.2.1 _ hlink) (C.2.2.1 _ tq_minS) (C.2.2.1 _ tz_J9) (C.2.2.1 _ tq_minC) hf hlo hc.1 hc.2 hdg kk
theorem r_acp (C : Cx E p s m args c cc own nL) (hP : Hp E K L ad I H) (hS : va_S (AG E) s.heap H locs) {idx n0 n1 n q : Nat} (hr : K r = 100 + n1) (hq : K q = 100 + n0) (h4 : n ≤ n0) (h5 : n ≤ n1) (hn : n < 2 ^ 31) (hlink : Cond.methodLink own idx arraycopyName ∈ TB) (hf : 1 ≤ R.frames) (hlo : (rest.map fun v => v.category).sum + (nativeFrameWords "java/lang/System" "arraycopy" 5 + 11) ≤ R.locals) (hls : ls.size = nL) (hdg : decode cc pc = .ok (.invokestatic idx, 3))
    (kk : ∀ (H1 : Heap) (locs1 : List Loc), Hp E K L ad (cpy2 I r q n) H1 → va_S (AG E) s.heap H1 locs1 → W p l e R s m args below meth c H1 locs1 cells slots Q (F0 m (pc + 3) ls rest)) : W p l e R s m args below meth c H locs cells slots Q (F0 m pc ls (.int (nI n) :: .int (nI 0) :: .ref (ad r) :: .int (nI 0) :: .ref (ad q) :: rest)) := by
  have hr0 : K r ≠ 0 := by omega
  have hq0 : K q ≠ 0 := by omega
  have hK := C.2.2.2.2.1.1
  intro T hT X
  have hc0 : H[ad q]? = some (vp_cell (E.2.1 0) (n0, .inl (I q))) := (hP.one hq0 (wE_A _ _ _ _ hq)) 0 _ rfl
  have hc1 : H[ad r]? = some (vp_cell (E.2.1 0) (n1, .inl (I r))) := (hP.one hr0 (wE_A _ _ _ _ hr)) 0 _ rfl
  obtain ⟨-, k0, hk0, cm0, hkk0⟩ := (hK.2 0 _ rfl).1 n0 (fun j => .int (I q j))
  have hcl : (nI n).toNatClampNeg = n := nI_clamp hn
  have hcl0 : (nI 0).toNatClampNeg = 0 := nI_clamp (by decide)
  have hni : (nI n).toInt = (n : Int) := nI_toInt hn
  obtain ⟨vm', X', step⟩ := X.arraycopy C.1 C.2.2.2.1 (C.2.2.1 _ hlink) (C.2.2.1 _ tq_cpN) (C.2.2.1 _ tq_cpS) (C.2.2.1 _ tz_J10) (src := ad q) (dst := ad r) (cs := vp_cell (E.2.1 0) (n0, .inl (I q))) (cd := vp_cell (E.2.1 0) (n1, .inl (I r))) (srcPos := nI 0) (destPos := nI 0) (n := nI n) (by rw [hT]; exact hc0) (by rw [hT]; exact hc1)
    (fun _ h => by cases h) (fun _ h => by cases h) (fun h => by cases h) (fun h => by cases h) hk0 hk0 hkk0 hkk0 (by simp [refKind]) (by decide) (by decide) (nI_pos hn)
    (by rw [hni, show (nI 0).toInt = 0 from rfl]; show ¬ _ > ((arrV (E.2.1 0) n0 (fun j => .int (I q j))).slots.size : Int); rw [arrV_size]; omega)
    (by rw [hni, show (nI 0).toInt = 0 from rfl]; show ¬ _ > ((arrV (E.2.1 0) n1 (fun j => .int (I r j))).slots.size : Int); rw [arrV_size]; omega)
    (fun vm₁ _ i hi => by
      rw [hcl] at hi
      have e : (vp_cell (E.2.1 0) (n0, .inl (I q))).slots.getD ((nI 0).toNatClampNeg + i) .null = .int (I q ((nI 0).toNatClampNeg + i)) := by
        show (arrV (E.2.1 0) n0 (fun j => .int (I q j))).slots.getD _ _ = _
        rw [Array.getD_eq_getD_getElem?, arrV_read _ _ (by rw [hcl0]; omega)]
        rfl
      refine ⟨?_, ?_⟩
      · rw [e]; rfl
      · rw [e]; exact trivial)
    (g := F0 m pc ls (.int (nI n) :: .int (nI 0) :: .ref (ad r) :: .int (nI 0) :: .ref (ad q) :: rest)) rfl (by rw [C.2.2.2.2.2]; exact hls) (rest := rest) rfl (by rw [C.2.1]; exact hdg) hf (by show 2 * 0 + _ + _ ≤ _; omega)
  have e1 : copied (vp_cell (E.2.1 0) (n0, .inl (I q))) (vp_cell (E.2.1 0) (n1, .inl (I r))) (nI 0) (nI 0) (nI n) = vp_cell (E.2.1 0) (n1, .inl (va_cpy (I q) (I r) (nI 0).toNatClampNeg (nI 0).toNatClampNeg (nI n).toNatClampNeg)) := va_copied (fun z => .int z) (E.2.1 0) (E.2.1 0) (I q) (I r) (by rw [hcl, hcl0]; omega)
  rw [hcl, hcl0] at e1
  rw [e1] at X' step
  have hl : ad r < H.size := (Array.getElem?_eq_some_iff.mp hc1).1
  have hheap : ((T.setVm vm').setCell (ad r) (vp_cell (E.2.1 0) (n1, .inl (va_cpy (I q) (I r) 0 0 n)))).heap = H.setIfInBounds (ad r) (vp_cell (E.2.1 0) (n1, .inl (va_cpy (I q) (I r) 0 0 n))) := by rw [← hT]; rfl
  have oq : ∀ x : Nat, x ≠ ad r → (H.setIfInBounds (ad r) (vp_cell (E.2.1 0) (n1, .inl (va_cpy (I q) (I r) 0 0 n))))[x]? = H[x]? := fun x hx => by simp [Array.getElem?_setIfInBounds, Ne.symm hx]
  obtain ⟨t, a1, b1⟩ := kk _ _ (hP.set (I' := cpy2 I r q n) hr0 (by simp) oq (by
      rw [wE_A _ _ _ _ hr]
      show (H.setIfInBounds (ad r) _)[ad r]? = some (vp_cell _ _)
      simp [Array.getElem?_setIfInBounds, hl, cpy2]) (fun a ha => cpy2_r ha) (fun _ _ => rfl)) ⟨by simp; exact hS.1, fun x g1 g2 => by
      rw [oq x (fun e => g2 (by rw [e]; exact hP.2.1 r hr0))]
      exact hS.2.1 x g1 g2, fun x hx => by
      rcases List.mem_append.mp hx with h | h
      · exact hS.2.2 x h
      · obtain ⟨z, -, hz⟩ := List.mem_map.mp h
        rw [← hz]
        exact hP.2.1 r hr0⟩ _ hheap X'
  exact ⟨t, step t a1, b1⟩
end RW2
/-! pure words of a table's changes -/
theorem prt_A {n : Nat} (hn : n ≤ 4) {val : Nat → Int32} {a : Nat → Nat → Int32} {i : Nat} (hi : i < 4 * n) : prt n val a (nI (i + 10)) = pick val a (i % 4) (i / 4) := by
  unfold prt
  rw [nI_toInt (by omega), if_pos (by omega), show (((i + 10 : Nat) : Int) - 10).toNat = i by omega]
theorem prt_B {n : Nat} (hn : n ≤ 4) {val : Nat → Int32} {a : Nat → Nat → Int32} {i : Nat} (hi : i < 3) : prt n val a (nI (i + 31)) = pick val a ((i + 21) % 4) 4 := by
  unfold prt
  rw [nI_toInt (by omega), if_neg (by omega), if_pos (by omega), show (((i + 31 : Nat) : Int) - 10).toNat = i + 21 by omega]
theorem prt_C {n : Nat} {val : Nat → Int32} {a : Nat → Nat → Int32} {w : Int32} (h1 : ¬ (10 ≤ w.toInt ∧ w.toInt < 10 + 4 * (n : Int))) (h2 : ¬ (31 ≤ w.toInt ∧ w.toInt ≤ 33)) : prt n val a w = -2 := by
  unfold prt
  rw [if_neg h1, if_neg h2]
theorem w_split (w : Int32) (n : Nat) (hn : n ≤ 4) : (∃ i, i < 4 * n ∧ w = nI (i + 10)) ∨ (∃ i, i < 3 ∧ w = nI (i + 31)) ∨ (¬ (10 ≤ w.toInt ∧ w.toInt < 10 + 4 * (n : Int)) ∧ ¬ (31 ≤ w.toInt ∧ w.toInt ≤ 33)) := by
  by_cases h1 : 10 ≤ w.toInt ∧ w.toInt < 10 + 4 * (n : Int)
  · exact Or.inl ⟨(w.toInt - 10).toNat, by omega, i32_eq (by omega) (by omega)⟩
  · by_cases h2 : 31 ≤ w.toInt ∧ w.toInt ≤ 33
    · exact Or.inr (Or.inl ⟨(w.toInt - 31).toNat, by omega, i32_eq (by omega) (by omega)⟩)
    · exact Or.inr (Or.inr ⟨h1, h2⟩)
/-- entries from e0 on to j moved one down -/
def RE (I J : Nat → Nat → Int32) (h e0 j : Nat) : Prop :=
  (∀ a, a ≠ h + 1 → (∀ e, e < 4 → a ≠ h + 3 + e) → J a = I a) ∧ (∀ i, i < 4 → J (h + 1) i = if e0 ≤ i ∧ i < j then I (h + 1) (i + 1) else I (h + 1) i) ∧ ∀ i, i < 4 → ∀ k, k < 3 → J (h + 3 + i) k = if e0 ≤ i ∧ i < j then I (h + 3 + (i + 1)) k else I (h + 3 + i) k
theorem RE_0 (I : Nat → Nat → Int32) (h e0 : Nat) : RE I I h e0 e0 := ⟨fun _ _ _ => rfl, fun i _ => by rw [if_neg (by omega)], fun i _ k _ => by rw [if_neg (by omega)]⟩
theorem set3_k {I : Nat → Nat → Int32} {r : Nat} {f : Nat → Int32} {k : Nat} (hk : k < 3) : set3 I r (f 0) (f 1) (f 2) r k = f k := by
  match k, hk with
  | 0, _ => exact set3_0 _ _ _ _ _
  | 1, _ => exact set3_1 _ _ _ _ _
  | 2, _ => exact set3_2 _ _ _ _ _
  | k + 3, h => omega
theorem RE_s {I J : Nat → Nat → Int32} {h e0 j : Nat} (H : RE I J h e0 j) (h0 : e0 ≤ j) (hj : j + 1 < 4) : RE I (set3 (up2 J (h + 1) j (J (h + 1) (j + 1))) (h + 3 + j) (J (h + 3 + (j + 1)) 0) (J (h + 3 + (j + 1)) 1) (J (h + 3 + (j + 1)) 2)) h e0 (j + 1) := by
  obtain ⟨H1, H2, H3⟩ := H
  refine ⟨fun a h1 h2 => ?_, fun i hi => ?_, fun i hi k hk => ?_⟩
  · rw [set3_r (h2 j (by omega)), up2_r h1, H1 a h1 h2]
  · rw [set3_r (by omega)]
    by_cases e : i = j
    · subst e
      rw [up2_s, if_pos (by omega), H2 _ (by omega), if_neg (by omega)]
    · rw [up2_k e, H2 i hi]
      by_cases q : e0 ≤ i ∧ i < j
      · rw [if_pos q, if_pos (by omega)]
      · rw [if_neg q, if_neg (by omega)]
  · by_cases e : i = j
    · subst e
      rw [set3_k (f := fun k => J (h + 3 + (i + 1)) k) hk, if_pos (by omega), H3 _ (by omega) k hk, if_neg (by omega)]
    · rw [set3_r (by omega), up2_r (by omega), H3 i hi k hk]
      by_cases q : e0 ≤ i ∧ i < j
      · rw [if_pos q, if_pos (by omega)]
      · rw [if_neg q, if_neg (by omega)]
/-- a table copied to another -/
def CT (I J : Nat → Nat → Int32) (h q j : Nat) : Prop :=
  (∀ a, a ≠ h → a ≠ h + 1 → (∀ e, e < 5 → a ≠ h + 3 + e) → J a = I a) ∧ J h 0 = I q 0 ∧ J h 1 = I q 1 ∧ (∀ i, i < 4 → J (h + 1) i = I (q + 1) i) ∧ (∀ i, i < j → ∀ k, k < 3 → J (h + 3 + i) k = I (q + 3 + i) k)
theorem CT_s {I J : Nat → Nat → Int32} {h q j : Nat} (H : CT I J h q j) (hj : j < 5) (hq : h + 8 ≤ q ∨ q + 8 ≤ h) : CT I (set3 J (h + 3 + j) (J (q + 3 + j) 0) (J (q + 3 + j) 1) (J (q + 3 + j) 2)) h q (j + 1) := by
  obtain ⟨H1, H2, H3, H4, H5⟩ := H
  have hr : J (q + 3 + j) = I (q + 3 + j) := H1 _ (by omega) (by omega) (fun e he => by omega)
  refine ⟨fun a h0 h1 h2 => ?_, ?_, ?_, fun i hi => ?_, fun i hi k hk => ?_⟩
  · rw [set3_r (h2 j hj), H1 a h0 h1 h2]
  · rw [set3_r (by omega), H2]
  · rw [set3_r (by omega), H3]
  · rw [set3_r (by omega), H4 i hi]
  · by_cases e : i = j
    · subst e
      rw [set3_k (f := fun k => J (q + 3 + i) k) hk, hr]
    · rw [set3_r (by omega), H5 i (by omega) k hk]
