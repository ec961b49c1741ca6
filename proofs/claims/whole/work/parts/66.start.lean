/-! the start of the law: what the tables and the statics say; the addresses of the roles; the first world -/
theorem len_at {args : Array Value} {s : State} {t : Term} {N : Nat} (hN : N < 2 ^ 31) (h : (Term.length t).eval args s none [] s = some (.int (Int32.ofNat N))) : ∃ a cell, t.eval args s none [] s = some (.ref a) ∧ s.arrayAt? a = some cell ∧ cell.slots.size = N := by
  simp only [Term.eval, Option.bind_eq_bind] at h
  cases ht : t.eval args s none [] s with
  | none => simp [ht] at h
  | some x =>
    cases x <;> simp [ht] at h
    case ref a =>
      obtain ⟨cell, hcell, h⟩ := Option.bind_eq_some_iff.mp h
      by_cases hn : cell.slots.size < 2147483648
      · rw [if_pos hn] at h
        refine ⟨a, cell, rfl, hcell, ?_⟩
        have e : nI cell.slots.size = nI N := Value.int.inj (Option.some.inj h)
        exact (nI_eq (by omega) hN).mp e
      · rw [if_neg hn] at h; cases h
theorem st_at {args : Array Value} {s : State} {n : String} {N : Nat} {f : Nat → Int32} {A : Nat → Prop} (hN : N < 2 ^ 31) (hl : (Cond.laysStatic RX6 n "[I").before args s = true) (hini : (Cond.initialized RX6).before args s = true) (harr : (Cond.arrayOf (.static RX6 n "[I") .int).before args s = true) (hlen : (Cond.eq (.length (.static RX6 n "[I")) (.int (Int32.ofNat N))).before args s = true)
    (hel : ∀ j : Nat, j < N → (Cond.eq (.elem (.static RX6 n "[I") (.int (Int32.ofNat j))) (.int (f j))).before args s = true) (hA : ∀ a : Nat, a < s.heap.size → ¬ A a) :
    ∃ t : Nat, (Term.static RX6 n "[I").eval args s none [] s = some (.ref t) ∧ va_Z RX6 n "[I" (.ref t) A s s.heap ∧ vT .int t N (fun i => .int (f i)) A s s.heap := by
  obtain ⟨t, ht, cell, c1, c2, c3, -, -, c6, c7⟩ := va_Tof (f := fun i => .int (f i)) hN harr (va_eqt hlen) (fun j hj => va_eqt (hel j hj)) hA
  obtain ⟨a, cell2, g1, g2, g3⟩ := len_at hN (va_eqt hlen)
  cases ht.symm.trans g1
  obtain ⟨g4, -, -, -⟩ := State.arrayAt?_spec g2
  cases c1.symm.trans g4
  exact ⟨t, ht, va_Zof hl hini ht hA, cell, c1, c2, c3, g3, c6, c7⟩
theorem arr_of {s : State} {cA comp : ClassId} {kA : Class} {ty : FieldType} (h2 : s.vm.classes[cA]? = some kA) (h3 : kA.kind = .array comp ty) : ArrOfT s cA ty := fun _ _ => ⟨fun _ h => (by cases h), kA, h2, comp, h3⟩
set_option maxHeartbeats 4000000 in
set_option maxRecDepth 100000 in
theorem env_start {s : State} {args : Array Value} (hts : ∀ w ∈ lw_tbl, w.before args s = true) (hgv : (Jvm.Cond.and given_1 narrow_1).before args s = true) : ∃ E : En, E.2.2.2 = s.heap.size ∧ Vp E s ∧ XF E s := by
  have htb : ∀ w ∈ TB, w.before args s = true := fun w hw => hts w (List.mem_filter.mp hw).1
  have hs := flat_of_before _ hgv
  obtain ⟨c0, i0, hk0⟩ := u_known (C := RX0) (T := TX0) (N := 3) (n := 3) htb ly_X0 (htb _ tb_X0)
  obtain ⟨c1, i1, hk1⟩ := u_known (C := RX1) (T := TX1) (N := 6) (n := 6) htb ly_X1 (htb _ tb_X1)
  obtain ⟨c2, i2, hk2⟩ := u_known (C := RX2) (T := TX2) (N := 11) (n := 11) htb ly_X2 (htb _ tb_X2)
  obtain ⟨c3, i3, hk3⟩ := u_known (C := RX3) (T := TX3) (N := 5) (n := 5) htb ly_X3 (htb _ tb_X3)
  obtain ⟨c4, i4, hk4⟩ := u_known (C := RX4) (T := TX4) (N := 3) (n := 3) htb ly_X4 (htb _ tb_X4)
  obtain ⟨c5, i5, hk5⟩ := u_known (C := RX5) (T := TX5) (N := 4) (n := 4) htb ly_X5 (htb _ tb_X5)
  obtain ⟨c6, i6, hk6⟩ := u_known (C := RX6) (T := TX6) (N := 8) (n := 8) htb ly_X6 (htb _ tb_X6)
  obtain ⟨c7, i7, hk7⟩ := u_known (C := RX7) (T := TX7) (N := 27) (n := 27) htb ly_X7 (htb _ tb_X7)
  obtain ⟨a0, kA0, p0, f0, g0, h0⟩ := Cond.arrayClass_spec (htb _ ta_int)
  obtain ⟨a1, kA1, p1, f1, g1, h1⟩ := Cond.arrayClass_spec (htb _ ta_boolean)
  obtain ⟨p2, a2, kA2, e2, -, g2, h2, f2⟩ := Cond.arrayOver_spec (hts _ ta_X0)
  obtain ⟨p3, a3, kA3, e3, -, g3, h3, f3⟩ := Cond.arrayOver_spec (hts _ ta_X5)
  obtain ⟨p4, a4, kA4, e4, -, g4, h4, f4⟩ := Cond.arrayOver_spec (hts _ ta_X3)
  obtain ⟨p5, a5, kA5, e5, -, g5, h5, f5⟩ := arrayOverA_spec (hts _ ta_II)
  have hA : ∀ a : Nat, a < s.heap.size → ¬ (fun q : Nat => s.heap.size ≤ q) a := fun a h q => absurd h (Nat.not_lt.mpr q)
  obtain ⟨t0, v0, z0, w0⟩ := st_at (n := "FIRST_RULES") (N := 4) (f := stV 0) (by decide) (hts (.laysStatic RX6 "FIRST_RULES" "[I") (by decide +kernel)) (htb _ tz_X6) (hs _ (by decide +kernel)) (hs _ (by decide +kernel)) (fun j hj => by
    rcases (show j = 0 ∨ j = 1 ∨ j = 2 ∨ j = 3 by omega) with rfl | rfl | rfl | rfl <;> exact hs _ (by decide +kernel)) hA
  obtain ⟨t1, v1, z1, w1⟩ := st_at (n := "LEAST_RULES") (N := 4) (f := stV 1) (by decide) (hts (.laysStatic RX6 "LEAST_RULES" "[I") (by decide +kernel)) (htb _ tz_X6) (hs _ (by decide +kernel)) (hs _ (by decide +kernel)) (fun j hj => by
    rcases (show j = 0 ∨ j = 1 ∨ j = 2 ∨ j = 3 by omega) with rfl | rfl | rfl | rfl <;> exact hs _ (by decide +kernel)) hA
  obtain ⟨t2, v2, z2, w2⟩ := st_at (n := "GREATEST_RULES") (N := 4) (f := stV 2) (by decide) (hts (.laysStatic RX6 "GREATEST_RULES" "[I") (by decide +kernel)) (htb _ tz_X6) (hs _ (by decide +kernel)) (hs _ (by decide +kernel)) (fun j hj => by
    rcases (show j = 0 ∨ j = 1 ∨ j = 2 ∨ j = 3 by omega) with rfl | rfl | rfl | rfl <;> exact hs _ (by decide +kernel)) hA
  obtain ⟨t3, v3, z3, w3⟩ := st_at (n := "GREATEST_X") (N := 10) (f := stV 3) (by decide) (hts (.laysStatic RX6 "GREATEST_X" "[I") (by decide +kernel)) (htb _ tz_X6) (hs _ (by decide +kernel)) (hs _ (by decide +kernel)) (fun j hj => by
    rcases (show j = 0 ∨ j = 1 ∨ j = 2 ∨ j = 3 ∨ j = 4 ∨ j = 5 ∨ j = 6 ∨ j = 7 ∨ j = 8 ∨ j = 9 by omega) with rfl | rfl | rfl | rfl | rfl | rfl | rfl | rfl | rfl | rfl <;> exact hs _ (by decide +kernel)) hA
  obtain ⟨x1, x2, cellX, kX, x3, x4, x5, -, x6, x7, -⟩ := Cond.exactly_spec (hs (.exactly (.static RX6 "FIRST_RULES" "[I") "[I") (by decide +kernel))
  cases v0.symm.trans x3
  refine ⟨(((fun k => match k with | 0 => c0 | 1 => c1 | 2 => c2 | 3 => c3 | 4 => c4 | 5 => c5 | 6 => c6 | _ => c7), (fun k => match k with | 0 => i0 | 1 => i1 | 2 => i2 | 3 => i3 | 4 => i4 | 5 => i5 | 6 => i6 | _ => i7)), (fun k => match k with | 0 => a0 | 1 => a1 | 2 => a2 | 3 => a3 | 4 => a4 | _ => a5), (fun k => match k with | 0 => t0 | 1 => t1 | 2 => t2 | _ => t3), s.heap.size), rfl, ⟨⟨fun k q hq => ?_, fun k q hq => ?_⟩, ⟨fun a i y h hm => va_Nw.of rfl (hts _ hm), fun a i b n d h hm => va_Nw.of rfl (hts _ hm), fun a b hm => va_Nw.of rfl (hts _ hm), fun C hm => va_AO.of (hts _ hm)⟩, fun j hj => ?_⟩, hts _ ta_II, ?_⟩
  · match k, hq with
    | 0, hq => cases hq; exact hk0
    | 1, hq => cases hq; exact hk1
    | 2, hq => cases hq; exact hk2
    | 3, hq => cases hq; exact hk3
    | 4, hq => cases hq; exact hk4
    | 5, hq => cases hq; exact hk5
    | 6, hq => cases hq; exact hk6
    | 7, hq => cases hq; exact hk7
    | k + 8, hq => simp [classes] at hq
  · match k, hq with
    | 0, hq => cases hq; exact ⟨arr_of g0 h0, f0⟩
    | 1, hq => cases hq; exact ⟨arr_of g1 h1, f1⟩
    | 2, hq => cases hq; exact ⟨arr_of g2 h2, kA2, p2, g2, h2, e2, f2⟩
    | 3, hq => cases hq; exact ⟨arr_of g3 h3, kA3, p3, g3, h3, e3, f3⟩
    | 4, hq => cases hq; exact ⟨arr_of g4 h4, kA4, p4, g4, h4, e4, f4⟩
    | 5, hq => cases hq; exact ⟨arr_of g5 h5, f5⟩
    | k + 6, hq => simp [tysG] at hq
  · rcases (show j = 0 ∨ j = 1 ∨ j = 2 ∨ j = 3 by omega) with rfl | rfl | rfl | rfl
    · exact ⟨z0, w0⟩
    · exact ⟨z1, w1⟩
    · exact ⟨z2, w2⟩
    · exact ⟨z3, w3⟩
  · obtain ⟨cell, w1, -, w3, w4, w5, w6⟩ := w0
    cases w1.symm.trans x5
    refine ⟨cellX, w1, ?_, fun k h => ?_, w3, w4, w5, w6⟩
    · have : s.vm.findClass "[I" = some a0 := va_nm_int f0
      exact x7.trans (Option.some.inj (x4.symm.trans this))
    · rw [h] at x6; cases x6
