/-! pure words of acts and tables -/
abbrev sB (x : Int32) : Int32 := nI 1 <<< (x &&& 31)
abbrev mat (k : Int32) : Prop := 1 ≤ k.toInt ∧ k.toInt ≤ 7
abbrev hrg (k : Int32) : Prop := 5 ≤ k.toInt ∧ k.toInt ≤ 7
def wrA (k t : Int32) : Int32 := if mat k then sB t else nI 0
def rgA (k x : Int32) : Int32 := if hrg k then sB x else nI 0
def rdA (k t x : Int32) : Int32 := if k.toInt = 2 then sB x else if k.toInt = 3 ∨ k.toInt = 6 ∨ k.toInt = 7 then sB t else if k.toInt = 4 then sB t ||| sB x else nI 0
/-- the or of f 0 .. f (k - 1) onto s -/
def orF (s : Int32) (f : Nat → Int32) : Nat → Int32
  | 0 => s
  | k + 1 => orF s f k ||| f k
theorem orF_congr {s : Int32} {f g : Nat → Int32} {k : Nat} (h : ∀ i, i < k → f i = g i) : orF s f k = orF s g k := by
  induction k with
  | zero => rfl
  | succ k ih => simp only [orF]; rw [ih (fun i hi => h i (by omega)), h k (by omega)]
/-- an act at slot e is there -/
abbrev thr (n e : Nat) : Prop := e < n ∨ e = 4
def wrT (n : Nat) (kd tg : Nat → Int32) : Int32 := orF (nI 0) (fun e => if thr n e then wrA (kd e) (tg e) else nI 0) 5
def rdT (k : Int32) (n : Nat) (kd tg xs : Nat → Int32) : Int32 := orF (sB k) (fun e => if thr n e then rdA (kd e) (tg e) (xs e) else nI 0) 5
def rgT (n : Nat) (kd xs : Nat → Int32) : Int32 := orF (nI 0) (fun e => if thr n e then rgA (kd e) (xs e) else nI 0) 5
/-- the first place below n that holds v, or 4 -/
def fnd (f : Nat → Int32) (v : Int32) : Nat → Nat → Nat
  | 0, _ => 4
  | k + 1, i => if f i = v then i else fnd f v k (i + 1)
theorem fnd_hit {f : Nat → Int32} {v : Int32} : ∀ (k i j : Nat), i ≤ j → j < i + k → f j = v → (∀ a, i ≤ a → a < j → f a ≠ v) → fnd f v k i = j := by
  intro k
  induction k with
  | zero => intro i j h1 h2; omega
  | succ k ih =>
    intro i j h1 h2 h3 h4
    simp only [fnd]
    by_cases e : i = j
    · subst e; simp [h3]
    · rw [if_neg (h4 i (by omega) (by omega))]
      exact ih (i + 1) j (by omega) (by omega) h3 (fun a ha hb => h4 a (by omega) hb)
theorem fnd_miss {f : Nat → Int32} {v : Int32} : ∀ (k i : Nat), (∀ a, i ≤ a → a < i + k → f a ≠ v) → fnd f v k i = 4 := by
  intro k
  induction k with
  | zero => intro i _; rfl
  | succ k ih =>
    intro i h
    simp only [fnd]
    rw [if_neg (h i (by omega) (by omega))]
    exact ih (i + 1) (fun a ha hb => h a (by omega) (by omega))
section SW
variable {p : Program} {l : Launch} {e : Env} {R : Room} {s : State} {m : MethodId} {args : Array Value} {below : List Frame} {meth : Method} {c : Code} {H : Heap} {locs : List Loc} {cells slots : Nat} {Q : State → Prop}
variable {cc : ByteArray} {pc : Nat} {ls : Array Slot} {rest : List Value} {E : En} {own : String} {nL : Nat}
theorem sw_in (C : Cx E p s m args c cc own nL) {dflt lo hi : Int} {offs : Array Int} {len tgt : Nat} {x : Int32} {k off : Int} (hdg : decode cc pc = .ok (.tableswitch dflt lo hi offs, len)) (hk : x.toInt = k) (h1 : lo ≤ k) (h2 : k ≤ hi) (ho : offs[(k - lo).toNat]? = some off) (ht : (pc : Int) + off = (tgt : Int))
    (kk : W p l e R s m args below meth c H locs cells slots Q (F0 m tgt ls rest)) : W p l e R s m args below meth c H locs cells slots Q (F0 m pc ls (.int x :: rest)) :=
  lv_tableIn C.1 C.2.1 hdg (by omega) (by omega) (by rw [hk]; exact ho) ht kk
theorem r_divN (C : Cx E p s m args c cc own nL) {a b : Nat} (ha : a < 2 ^ 31) (h0 : 0 < b) (hb : b < 2 ^ 31) (hdg : decode cc pc = .ok (.idiv, 1)) (kk : W p l e R s m args below meth c H locs cells slots Q (F0 m (pc + 1) ls (.int (nI (a / b)) :: rest))) : W p l e R s m args below meth c H locs cells slots Q (F0 m pc ls (.int (nI b) :: .int (nI a) :: rest)) :=
  lv_idiv C.1 C.2.1 hdg (nI_ne0 h0 hb) (by rw [pk_div ha h0 hb]; exact kk)
theorem r_remN (C : Cx E p s m args c cc own nL) {a b : Nat} (ha : a < 2 ^ 31) (h0 : 0 < b) (hb : b < 2 ^ 31) (hdg : decode cc pc = .ok (.irem, 1)) (kk : W p l e R s m args below meth c H locs cells slots Q (F0 m (pc + 1) ls (.int (nI (a % b)) :: rest))) : W p l e R s m args below meth c H locs cells slots Q (F0 m pc ls (.int (nI b) :: .int (nI a) :: rest)) :=
  lv_irem C.1 C.2.1 hdg (nI_ne0 h0 hb) (by first | (rw [pk_rem ha h0 hb]; exact kk) | (have h9 := pk_rem ha h0 hb; simp_all))
end SW
theorem ti0 : (nI 0).toInt = 0 := by decide
theorem i32_eq {x : Int32} {k : Nat} (hk : k < 2 ^ 31) (h : x.toInt = (k : Int)) : x = nI k := Int32.toInt_inj.mp (by rw [h, nI_toInt hk])
/-- an act set -/
def set3 (I : Nat → Nat → Int32) (r : Nat) (a b c : Int32) : Nat → Nat → Int32 := up2 (up2 (up2 I r 0 a) r 1 b) r 2 c
theorem set3_r {I : Nat → Nat → Int32} {r : Nat} {a b c : Int32} {q : Nat} (h : q ≠ r) : set3 I r a b c q = I q := by unfold set3; rw [up2_r h, up2_r h, up2_r h]
theorem set3_0 (I : Nat → Nat → Int32) (r : Nat) (a b c : Int32) : set3 I r a b c r 0 = a := by unfold set3; rw [up2_k (by decide), up2_k (by decide), up2_s]
theorem set3_1 (I : Nat → Nat → Int32) (r : Nat) (a b c : Int32) : set3 I r a b c r 1 = b := by unfold set3; rw [up2_k (by decide), up2_s]
theorem set3_2 (I : Nat → Nat → Int32) (r : Nat) (a b c : Int32) : set3 I r a b c r 2 = c := by unfold set3; rw [up2_s]
/-- a table at role h -/
def IsT (K : Nat → Nat) (L : Nat → Nat → Bool) (h : Nat) : Prop := K h = 6 ∧ L h 2 = true ∧ L h 3 = true ∧ K (h + 1) = 104 ∧ K (h + 2) = 11 ∧ (∀ e, e < 5 → L (h + 2) e = true) ∧ ∀ e, e < 5 → K (h + 3 + e) = 1
/-- what an act keeps of a target or an x -/
def mq (k x : Int32) : Int32 := if mat k then x else -6
theorem mq_t {k x : Int32} (h : mat k) : mq k x = x := if_pos h
theorem mq_f {k x : Int32} (h : ¬ mat k) : mq k x = -6 := if_neg h
/-- a number of an act, asked by what -/
def pick (val : Nat → Int32) (a : Nat → Nat → Int32) (c e : Nat) : Int32 := if c = 0 then val e else if c = 1 then a e 0 else if c = 2 then a e 1 else a e 2
def prt (n : Nat) (val : Nat → Int32) (a : Nat → Nat → Int32) (w : Int32) : Int32 :=
  if 10 ≤ w.toInt ∧ w.toInt < 10 + 4 * (n : Int) then pick val a ((w.toInt - 10).toNat % 4) ((w.toInt - 10).toNat / 4)
  else if 31 ≤ w.toInt ∧ w.toInt ≤ 33 then pick val a ((w.toInt - 10).toNat % 4) 4 else -2
