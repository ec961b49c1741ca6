/-! THE WORLD BY ROLES. A role is a number for a place in the object graph; K: the kind of what is there (0 nothing, 1..8 objects, 11..15 arrays, 100 + n an int array of n), L: which reference slots are set, ad: the address of a role, I: all ints. -/
def TB : List Cond := lw_tbl.filter goodWord
theorem tb_in {w : Cond} (h : w ∈ lw_tbl) (g : goodWord w = true) : w ∈ TB := List.mem_filter.mpr ⟨h, g⟩
theorem tb_good {w : Cond} (h : w ∈ TB) : (w.onTables && w.keeps) = true ∨ ∃ ty, w = .arrayClass ty := good_of_word (List.mem_filter.mp h).2
theorem gd_in {c0 : Cond} {ws : List Cond} (h : ∀ w ∈ ws, w ∈ TB) : GoodIn (c0 :: TB) ws := fun w hw => ⟨List.mem_cons_of_mem _ (h w hw), tb_good (h w hw)⟩
theorem gd_tb {ws : List Cond} (h : ∀ w ∈ ws, w ∈ TB) : GoodIn TB ws := fun w hw => ⟨h w hw, tb_good (h w hw)⟩
abbrev classes : List vw_C := [(RX0, TX0, 3), (RX1, TX1, 6), (RX2, TX2, 11), (RX3, TX3, 5), (RX4, TX4, 3), (RX5, TX5, 4), (RX6, TX6, 8), (RX7, TX7, 27)]
/-- classes' numbers and slots, array classes, static arrays' addresses, the first address of the world -/
abbrev En : Type := va_G × (Nat → ClassId) × (Nat → Nat) × Nat
abbrev tysG (cy : Nat → ClassId) : List (ClassId × FieldType) := [(cy 0, .int), (cy 1, .boolean), (cy 2, .object RX0), (cy 3, .object RX5), (cy 4, .object RX3), (cy 5, .array .int)]
def qv (b : Bool) (a : Nat) : Value := if b = true then .ref a else .null
def qo (b : Bool) (a : Nat) : Option Nat := if b = true then some a else none
theorem qv_t {b : Bool} {a : Nat} (h : b = true) : qv b a = .ref a := if_pos h
theorem qo_t {b : Bool} {a : Nat} (h : b = true) : qo b a = some a := if_pos h
theorem qv_rf (b : Bool) (a : Nat) : va_rf (qo b a) = qv b a := by cases b <;> rfl
def up2 (I : Nat → Nat → Int32) (r k : Nat) (v : Int32) : Nat → Nat → Int32 := fun a => if a = r then upd (I r) k v else I a
theorem up2_s (I : Nat → Nat → Int32) (r k : Nat) (v : Int32) : up2 I r k v r k = v := by simp [up2, upd]
theorem up2_r {I : Nat → Nat → Int32} {r k : Nat} {v : Int32} {a : Nat} (h : a ≠ r) : up2 I r k v a = I a := by simp [up2, h]
theorem up2_k {I : Nat → Nat → Int32} {r k : Nat} {v : Int32} {a j : Nat} (h : j ≠ k) : up2 I r k v a j = I a j := by
  by_cases e : a = r
  · subst e; simp [up2, upd, h]
  · simp [up2, e]
theorem up2_at (I : Nat → Nat → Int32) (r k : Nat) (v : Int32) : up2 I r k v r = upd (I r) k v := by simp [up2]
theorem up2_eq (I : Nat → Nat → Int32) (r k : Nat) (v : Int32) (a j : Nat) : up2 I r k v a j = if a = r ∧ j = k then v else I a j := by
  by_cases e : a = r
  · subst e; by_cases f : j = k
    · subst f; simp [up2, upd]
    · simp [up2, upd, f]
  · simp [up2, e]
def wE (cy : Nat → ClassId) (K : Nat → Nat) (L : Nat → Nat → Bool) (ad : Nat → Nat) (I : Nat → Nat → Int32) (r : Nat) : va_E :=
  if K r = 1 then .inr (0, [.int (I r 0), .int (I r 1), .int (I r 2)]) else
  if K r = 2 then .inr (1, [qv (L r 0) (ad (r + 1)), .int (I r 1), .int (I r 2), .int (I r 3), .int (I r 4), qv (L r 5) (ad (r + 2))]) else
  if K r = 3 then .inr (2, [qv (L r 0) (ad (r + 1)), qv (L r 1) (ad (r + 2)), qv (L r 2) (ad (r + 3)), qv (L r 3) (ad (r + 4)), qv (L r 4) (ad (r + 5)), qv (L r 5) (ad (r + 6)), qv (L r 6) (ad (r + 7)), qv (L r 7) (ad (r + 8)), qv (L r 8) (ad (r + 9)), qv (L r 9) (ad (r + 10)), .int (I r 10)]) else
  if K r = 4 then .inr (3, [.int (I r 0), qv (L r 1) (ad (r + 1)), qv (L r 2) (ad (r + 2)), qv (L r 3) (ad (r + 3)), qv (L r 4) (ad (r + 4))]) else
  if K r = 5 then .inr (4, [qv (L r 0) (ad (r + 1)), qv (L r 1) (ad (r + 2)), qv (L r 2) (ad (r + 3))]) else
  if K r = 6 then .inr (5, [.int (I r 0), .int (I r 1), qv (L r 2) (ad (r + 1)), qv (L r 3) (ad (r + 2))]) else
  if K r = 7 then .inr (6, [qv (L r 0) (ad (r + 100)), qv (L r 1) (ad (r + 10)), qv (L r 2) (ad (r + 30)), qv (L r 3) (ad (r + 40)), qv (L r 4) (ad (r + 50)), .int (I r 5), .int (I r 6), .int (I r 7)]) else
  if K r = 8 then .inr (7, [.int (I r 0), qv (L r 1) (ad (r + 1)), qv (L r 2) (ad (r + 2)), qv (L r 3) (ad (r + 3)), qv (L r 4) (ad (r + 4)), qv (L r 5) (ad (r + 5)), qv (L r 6) (ad (r + 6)), qv (L r 7) (ad (r + 7)), qv (L r 8) (ad (r + 8)), qv (L r 9) (ad (r + 9)), qv (L r 10) (ad (r + 10)), qv (L r 11) (ad (r + 11)), qv (L r 12) (ad (r + 12)), qv (L r 13) (ad (r + 13)), qv (L r 14) (ad (r + 14)), qv (L r 15) (ad (r + 15)), qv (L r 16) (ad (r + 16)), qv (L r 17) (ad (r + 17)), .int (I r 18), .int (I r 19), .int (I r 20), qv (L r 21) (ad (r + 21)), .int (I r 22), .int (I r 23), .int (I r 24), qv (L r 25) (ad (r + 25)), qv (L r 26) (ad (r + 26))]) else
  if K r = 11 then .inl (cy 2, 5, .inr (.inr (.inr (.inr (fun j => qo (L r j) (ad (r + 1 + j))))))) else
  if K r = 12 then .inl (cy 3, 8, .inr (.inr (.inr (.inr (fun j => qo (L r j) (ad (r + 7 + 8 * (I r j).toNatClampNeg))))))) else
  if K r = 13 then .inl (cy 4, 2, .inr (.inr (.inr (.inr (fun j => qo (L r j) (ad (r + 150 + 100 * j))))))) else
  if K r = 14 then .inl (cy 5, 4, .inr (.inr (.inr (.inr (fun j => qo (L r j) (ad (r + 1 + j))))))) else
  if K r = 15 then .inl (cy 1, 2, .inl (I r)) else
  .inl (cy 0, K r - 100, .inl (I r))
theorem wE_1 (cy : Nat → ClassId) {K : Nat → Nat} (L : Nat → Nat → Bool) (ad : Nat → Nat) (I : Nat → Nat → Int32) {r : Nat} (h : K r = 1) : wE cy K L ad I r = .inr (0, [.int (I r 0), .int (I r 1), .int (I r 2)]) := by simp [wE, h]
theorem wE_2 (cy : Nat → ClassId) {K : Nat → Nat} (L : Nat → Nat → Bool) (ad : Nat → Nat) (I : Nat → Nat → Int32) {r : Nat} (h : K r = 2) : wE cy K L ad I r = .inr (1, [qv (L r 0) (ad (r + 1)), .int (I r 1), .int (I r 2), .int (I r 3), .int (I r 4), qv (L r 5) (ad (r + 2))]) := by simp [wE, h]
theorem wE_3 (cy : Nat → ClassId) {K : Nat → Nat} (L : Nat → Nat → Bool) (ad : Nat → Nat) (I : Nat → Nat → Int32) {r : Nat} (h : K r = 3) : wE cy K L ad I r = .inr (2, [qv (L r 0) (ad (r + 1)), qv (L r 1) (ad (r + 2)), qv (L r 2) (ad (r + 3)), qv (L r 3) (ad (r + 4)), qv (L r 4) (ad (r + 5)), qv (L r 5) (ad (r + 6)), qv (L r 6) (ad (r + 7)), qv (L r 7) (ad (r + 8)), qv (L r 8) (ad (r + 9)), qv (L r 9) (ad (r + 10)), .int (I r 10)]) := by simp [wE, h]
theorem wE_4 (cy : Nat → ClassId) {K : Nat → Nat} (L : Nat → Nat → Bool) (ad : Nat → Nat) (I : Nat → Nat → Int32) {r : Nat} (h : K r = 4) : wE cy K L ad I r = .inr (3, [.int (I r 0), qv (L r 1) (ad (r + 1)), qv (L r 2) (ad (r + 2)), qv (L r 3) (ad (r + 3)), qv (L r 4) (ad (r + 4))]) := by simp [wE, h]
theorem wE_5 (cy : Nat → ClassId) {K : Nat → Nat} (L : Nat → Nat → Bool) (ad : Nat → Nat) (I : Nat → Nat → Int32) {r : Nat} (h : K r = 5) : wE cy K L ad I r = .inr (4, [qv (L r 0) (ad (r + 1)), qv (L r 1) (ad (r + 2)), qv (L r 2) (ad (r + 3))]) := by simp [wE, h]
theorem wE_6 (cy : Nat → ClassId) {K : Nat → Nat} (L : Nat → Nat → Bool) (ad : Nat → Nat) (I : Nat → Nat → Int32) {r : Nat} (h : K r = 6) : wE cy K L ad I r = .inr (5, [.int (I r 0), .int (I r 1), qv (L r 2) (ad (r + 1)), qv (L r 3) (ad (r + 2))]) := by simp [wE, h]
theorem wE_7 (cy : Nat → ClassId) {K : Nat → Nat} (L : Nat → Nat → Bool) (ad : Nat → Nat) (I : Nat → Nat → Int32) {r : Nat} (h : K r = 7) : wE cy K L ad I r = .inr (6, [qv (L r 0) (ad (r + 100)), qv (L r 1) (ad (r + 10)), qv (L r 2) (ad (r + 30)), qv (L r 3) (ad (r + 40)), qv (L r 4) (ad (r + 50)), .int (I r 5), .int (I r 6), .int (I r 7)]) := by simp [wE, h]
theorem wE_8 (cy : Nat → ClassId) {K : Nat → Nat} (L : Nat → Nat → Bool) (ad : Nat → Nat) (I : Nat → Nat → Int32) {r : Nat} (h : K r = 8) : wE cy K L ad I r = .inr (7, [.int (I r 0), qv (L r 1) (ad (r + 1)), qv (L r 2) (ad (r + 2)), qv (L r 3) (ad (r + 3)), qv (L r 4) (ad (r + 4)), qv (L r 5) (ad (r + 5)), qv (L r 6) (ad (r + 6)), qv (L r 7) (ad (r + 7)), qv (L r 8) (ad (r + 8)), qv (L r 9) (ad (r + 9)), qv (L r 10) (ad (r + 10)), qv (L r 11) (ad (r + 11)), qv (L r 12) (ad (r + 12)), qv (L r 13) (ad (r + 13)), qv (L r 14) (ad (r + 14)), qv (L r 15) (ad (r + 15)), qv (L r 16) (ad (r + 16)), qv (L r 17) (ad (r + 17)), .int (I r 18), .int (I r 19), .int (I r 20), qv (L r 21) (ad (r + 21)), .int (I r 22), .int (I r 23), .int (I r 24), qv (L r 25) (ad (r + 25)), qv (L r 26) (ad (r + 26))]) := by simp [wE, h]
theorem wE_11 (cy : Nat → ClassId) {K : Nat → Nat} (L : Nat → Nat → Bool) (ad : Nat → Nat) (I : Nat → Nat → Int32) {r : Nat} (h : K r = 11) : wE cy K L ad I r = .inl (cy 2, 5, .inr (.inr (.inr (.inr (fun j => qo (L r j) (ad (r + 1 + j))))))) := by simp [wE, h]
theorem wE_12 (cy : Nat → ClassId) {K : Nat → Nat} (L : Nat → Nat → Bool) (ad : Nat → Nat) (I : Nat → Nat → Int32) {r : Nat} (h : K r = 12) : wE cy K L ad I r = .inl (cy 3, 8, .inr (.inr (.inr (.inr (fun j => qo (L r j) (ad (r + 7 + 8 * (I r j).toNatClampNeg))))))) := by simp [wE, h]
theorem wE_13 (cy : Nat → ClassId) {K : Nat → Nat} (L : Nat → Nat → Bool) (ad : Nat → Nat) (I : Nat → Nat → Int32) {r : Nat} (h : K r = 13) : wE cy K L ad I r = .inl (cy 4, 2, .inr (.inr (.inr (.inr (fun j => qo (L r j) (ad (r + 150 + 100 * j))))))) := by simp [wE, h]
theorem wE_14 (cy : Nat → ClassId) {K : Nat → Nat} (L : Nat → Nat → Bool) (ad : Nat → Nat) (I : Nat → Nat → Int32) {r : Nat} (h : K r = 14) : wE cy K L ad I r = .inl (cy 5, 4, .inr (.inr (.inr (.inr (fun j => qo (L r j) (ad (r + 1 + j))))))) := by simp [wE, h]
theorem wE_15 (cy : Nat → ClassId) {K : Nat → Nat} (L : Nat → Nat → Bool) (ad : Nat → Nat) (I : Nat → Nat → Int32) {r : Nat} (h : K r = 15) : wE cy K L ad I r = .inl (cy 1, 2, .inl (I r)) := by simp [wE, h]
theorem wE_A (cy : Nat → ClassId) {K : Nat → Nat} (L : Nat → Nat → Bool) (ad : Nat → Nat) (I : Nat → Nat → Int32) {r n : Nat} (h : K r = 100 + n) : wE cy K L ad I r = .inl (cy 0, n, .inl (I r)) := by
  have h1 : ∀ k, k < 100 → K r ≠ k := fun k hk e => by omega
  simp only [wE, h1 1 (by decide), h1 2 (by decide), h1 3 (by decide), h1 4 (by decide), h1 5 (by decide), h1 6 (by decide), h1 7 (by decide), h1 8 (by decide), h1 11 (by decide), h1 12 (by decide), h1 13 (by decide), h1 14 (by decide), h1 15 (by decide), if_false]
  rw [h, Nat.add_sub_cancel_left]
/-- an entry looks at its own row of I alone -/
theorem wE_cong {cy : Nat → ClassId} {K : Nat → Nat} {L L' : Nat → Nat → Bool} {ad : Nat → Nat} {I I' : Nat → Nat → Int32} {r : Nat} (h : I' r = I r) (hL : L' r = L r) : wE cy K L' ad I' r = wE cy K L ad I r := by simp only [wE, h, hL]
/-- the heap holds the world -/
def Hp (E : En) (K : Nat → Nat) (L : Nat → Nat → Bool) (ad : Nat → Nat) (I : Nat → Nat → Int32) (H : Heap) : Prop :=
  (∀ r, K r ≠ 0 → va_at E.1 classes (ad r, wE E.2.1 K L ad I r) H) ∧ (∀ r, K r ≠ 0 → E.2.2.2 ≤ ad r) ∧ (∀ r q, K r ≠ 0 → K q ≠ 0 → ad r = ad q → r = q) ∧ E.2.2.2 ≤ H.size
def AG (E : En) : Nat → Prop := fun q => E.2.2.2 ≤ q
theorem Hp.set {E : En} {K : Nat → Nat} {L L' : Nat → Nat → Bool} {ad : Nat → Nat} {I I' : Nat → Nat → Int32} {H H1 : Heap} {r : Nat} (h : Hp E K L ad I H) (hr : K r ≠ 0) (z : H1.size = H.size) (oq : ∀ q : Nat, q ≠ ad r → H1[q]? = H[q]?)
    (hat : va_at E.1 classes (ad r, wE E.2.1 K L' ad I' r) H1) (hI : ∀ a, a ≠ r → I' a = I a) (hL : ∀ a, a ≠ r → L' a = L a) : Hp E K L' ad I' H1 := by
  refine ⟨fun a ha => ?_, h.2.1, h.2.2.1, by rw [z]; exact h.2.2.2⟩
  by_cases e : a = r
  · subst e; exact hat
  · rw [wE_cong (hI a e) (hL a e)]
    exact (h.1 a ha).kept (oq _ (fun q => e (h.2.2.1 a r ha hr q)))
theorem Hp.eq {E : En} {K : Nat → Nat} {L : Nat → Nat → Bool} {ad : Nat → Nat} {I I' : Nat → Nat → Int32} {H : Heap} (h : Hp E K L ad I H) (e : ∀ a j, I' a j = I a j) : Hp E K L ad I' H := by
  have : I' = I := funext fun a => funext fun j => e a j
  rw [this]; exact h
/-- what the vm has, of the start alone -/
def nestM : Cond → Bool
  | .methodLinkNest _ _ _ _ => true
  | _ => false
def vT (ty : FieldType) (t N : Nat) (f : Nat → Value) (A : Nat → Prop) (U : State) (H : Heap) : Prop := ∃ cell : Cell, H[t]? = some cell ∧ U.isArrayOf cell ty ∧ cell.vm ≠ .unknown ∧ cell.slots.size = N ∧ (∀ j : Nat, j < N → cell.slots[j]? = some (f j)) ∧ ¬ A t
theorem vT.moved {ty : FieldType} {t N : Nat} {f : Nat → Value} {A : Nat → Prop} {u U : State} {H : Heap} (hvm : u.vm.Alike U.vm) (h : vT ty t N f A u H) : vT ty t N f A U H := by
  obtain ⟨cell, h1, h2, h3⟩ := h
  exact ⟨cell, h1, State.isArrayOf_alike hvm h2, h3⟩
theorem vT.kept {ty : FieldType} {t N : Nat} {f : Nat → Value} {A : Nat → Prop} {U : State} {H H1 : Heap} (h : vT ty t N f A U H) (hq : ∀ a : Nat, a < H.size → ¬ A a → H1[a]? = H[a]?) : vT ty t N f A U H1 := by
  obtain ⟨cell, h1, h2, h3, h4, h5, h6⟩ := h
  exact ⟨cell, by rw [hq t (Array.getElem?_eq_some_iff.mp h1).1 h6]; exact h1, h2, h3, h4, h5, h6⟩
theorem vT.va {ty : FieldType} {t N : Nat} {f : Nat → Value} {A : Nat → Prop} {U : State} {H : Heap} (h : vT ty t N f A U H) : va_T ty t N f A U H := by
  obtain ⟨cell, h1, h2, h3, h4, h5, h6⟩ := h
  exact ⟨cell, h1, h2, h3, by omega, by rw [h4], h5, h6⟩
def stN : Nat → String := fun j => match j with
  | 0 => "FIRST_RULES"
  | 1 => "LEAST_RULES"
  | 2 => "GREATEST_RULES"
  | _ => "GREATEST_X"
def stL : Nat → Nat := fun j => match j with
  | 3 => 10
  | _ => 4
def stV : Nat → Nat → Int32 := fun j i => match j with
  | 0 => ([10, 2, 8, 3] : List Int32).getD i 0
  | 1 => ([5, 1, 1, 1] : List Int32).getD i 0
  | 2 => ([20, 4, 8, 4] : List Int32).getD i 0
  | _ => ([0, 255, 5, 255, 5, 3, 3, 3, 0, 0] : List Int32).getD i 0
def Stc (E : En) (U : State) (H : Heap) : Prop := ∀ j, j < 4 → va_Z RX6 (stN j) "[I" (.ref (E.2.2.1 j)) (AG E) U H ∧ vT .int (E.2.2.1 j) (stL j) (fun i => .int (stV j i)) (AG E) U H
def Nst (U : State) : Prop := (∀ a i y h, Cond.methodLinkNest a i y h ∈ lw_tbl → va_Nw (.methodLinkNest a i y h) U) ∧ (∀ a i b n d h, Cond.fieldLinkNest a i b n d h ∈ lw_tbl → va_Nw (.fieldLinkNest a i b n d h) U) ∧ (∀ a b, Cond.castable a b ∈ lw_tbl → va_Nw (.castable a b) U) ∧ (∀ C, Cond.arrayOver (.object C) ∈ lw_tbl → va_AO C U)
def Vp (E : En) (U : State) : Prop := va_K E.1 classes (tysG E.2.1) U ∧ Nst U ∧ Stc E U U.heap
theorem Nst.warm {s U : State} (hW : s.WarmedH U.vm) (h : Nst s) : Nst U := ⟨fun a i y k hm => va_Nw.warmM hW (h.1 a i y k hm), fun a i b n d k hm => va_Nw.warmF hW (h.2.1 a i b n d k hm), fun a b hm => va_Nw.warmC hW (h.2.2.1 a b hm), fun C hm => va_AO.moved hW.alike (h.2.2.2 C hm)⟩
theorem Vp.to {E : En} {s U : State} {H : Heap} {locs : List Loc} (h : Vp E s) (hS : va_S (AG E) s.heap H locs) (hU : U.heap = H) (hW : s.WarmedH U.vm) : Vp E U := by
  refine ⟨va_K.moved hW.alike h.1, h.2.1.warm hW, fun j hj => ?_⟩
  obtain ⟨h1, h2⟩ := h.2.2 j hj
  rw [hU]
  exact ⟨va_Z.moved hW.alike (h1.kept hS.2.1), vT.moved hW.alike (h2.kept hS.2.1)⟩
theorem Vp.calling {E : En} {U : State} (g : JFrame) (mk : MethodId) (a : Array Value) (h : Vp E U) : Vp E (U.calling g mk a) := by
  have hW : U.WarmedH (U.calling g mk a).vm := State.WarmedH.refl U
  exact h.to (H := U.heap) (locs := []) va_S.rf rfl hW
def PcW (E : En) (K : Nat → Nat) (L : Nat → Nat → Bool) (ad : Nat → Nat) (I : Nat → Nat → Int32) (av : List Value) : Array Value → State → Prop := va_Pc av (fun U => Hp E K L ad I U.heap ∧ Vp E U)
theorem PcW.blind {E : En} {K : Nat → Nat} {L : Nat → Nat → Bool} {ad : Nat → Nat} {I : Nat → Nat → Int32} {av : List Value} : FrameBlind (PcW E K L ad I av) := fun _ _ g mk h => ⟨h.1, h.2.1, h.2.2.calling g mk _⟩
/-- room of a method k calls above the deepest one -/
def rmk (k : Nat) : Room := { frames := k, cells := 0, slots := 0, locals := 26 * k }
/-- contracts: a method that makes nothing; its world before, what it answers and its world behind -/
def MI (l : Launch) (E : En) (K : Nat → Nat) (L : Nat → Nat → Bool) (ad : Nat → Nat) (I : Nat → Nat → Int32) (y : MethodName) (b : ByteArray) (n : Nat) (rt : Option FieldType) (k : Nat) (av : List Value) (post : Int32 → (Nat → Nat → Int32) → Prop) : Prop :=
  Met l y (.code y b n rt :: TB) (rmk k) (PcW E K L ad I av) (va_Qi post (fun J t => Hp E K L ad J t.heap) (AG E)) 0 0 (AG E)
def MV (l : Launch) (E : En) (K : Nat → Nat) (L : Nat → Nat → Bool) (ad : Nat → Nat) (I : Nat → Nat → Int32) (y : MethodName) (b : ByteArray) (n : Nat) (k : Nat) (av : List Value) (post : (Nat → Nat → Int32) → Prop) : Prop :=
  Met l y (.code y b n none :: TB) (rmk k) (PcW E K L ad I av) (va_Qv post (fun J t => Hp E K L ad J t.heap) (AG E)) 0 0 (AG E)
/-- what stands all through a method -/
def Cx (E : En) (p : Program) (s : State) (m : MethodId) (args : Array Value) (c : Code) (cc : ByteArray) (own : String) (nL : Nat) : Prop :=
  p.tables.exec = Jvm.exec ∧ c.code = cc ∧ (∀ w ∈ TB, w.before args s = true) ∧ s.vm.findClass own = some m.cls ∧ Vp E s ∧ c.maxLocals = nL
section RW
variable {p : Program} {l : Launch} {e : Env} {R : Room} {s : State} {m : MethodId} {args : Array Value} {below : List Frame} {meth : Method} {c : Code} {H : Heap} {locs : List Loc} {cells slots : Nat} {Q : State → Prop}
variable {cc : ByteArray} {pc : Nat} {ls : Array Slot} {rest : List Value} {E : En} {K : Nat → Nat} {L : Nat → Nat → Bool} {ad : Nat → Nat} {I : Nat → Nat → Int32} {r : Nat} {own : String} {nL : Nat}
/-- returns -/
theorem r_iret {post : Int32 → (Nat → Nat → Int32) → Prop} {v : Int32} (C : Cx E p s m args c cc own nL) (hr : meth.sig.returnType = some .int) (hlk : meth.locks = false) (hP : Hp E K L ad I H) (hS : va_S (AG E) s.heap H locs) (hdg : decode cc pc = .ok (.ireturn, 1)) (h : post v I) :
    W p l e R s m args below meth c H locs cells slots (MQ below (va_Qi post (fun J t => Hp E K L ad J t.heap) (AG E)) args s cells slots (AG E)) (F0 m pc ls [.int v]) :=
  W.iret C.1 C.2.1 hr (fun t ht _ => ⟨⟨v, I, rfl, h, by show Hp E K L ad I t.heap; rw [ht]; exact hP⟩, hS.F ht⟩) hS.2.2 hdg hlk
theorem r_zret {post : Int32 → (Nat → Nat → Int32) → Prop} {v : Int32} (C : Cx E p s m args c cc own nL) (hr : meth.sig.returnType = some .boolean) (hlk : meth.locks = false) (hP : Hp E K L ad I H) (hS : va_S (AG E) s.heap H locs) (hdg : decode cc pc = .ok (.ireturn, 1)) (hn : narrow .boolean (.int v) = .int v) (h : post v I) :
    W p l e R s m args below meth c H locs cells slots (MQ below (va_Qi post (fun J t => Hp E K L ad J t.heap) (AG E)) args s cells slots (AG E)) (F0 m pc ls [.int v]) :=
  W.zret C.1 C.2.1 hr hn (fun t ht _ => ⟨⟨v, I, rfl, h, by show Hp E K L ad I t.heap; rw [ht]; exact hP⟩, hS.F ht⟩) hS.2.2 hdg hlk
theorem r_vret {post : (Nat → Nat → Int32) → Prop} (C : Cx E p s m args c cc own nL) (hr : meth.sig.returnType = none) (hlk : meth.locks = false) (hP : Hp E K L ad I H) (hS : va_S (AG E) s.heap H locs) (hdg : decode cc pc = .ok (.return_, 1)) (h : post I) :
    W p l e R s m args below meth c H locs cells slots (MQ below (va_Qv post (fun J t => Hp E K L ad J t.heap) (AG E)) args s cells slots (AG E)) (F0 m pc ls []) :=
  W.vret C.1 C.2.1 hr (fun t ht _ => ⟨⟨I, rfl, h, by show Hp E K L ad I t.heap; rw [ht]; exact hP⟩, hS.F ht⟩) hS.2.2 hdg hlk
theorem MI.of {y : MethodName} {n k : Nat} {av : List Value} {post : Int32 → (Nat → Nat → Int32) → Prop} (hy : plainName y.cls = true) (hlen : (lg_sl av).length ≤ n)
    (body : ∀ (p : Program) (e : Env) (s : State) (m : MethodId) (args : Array Value) (below : List Frame) (meth : Method) (c : Code) (ls : Array Slot) (Qf : State → Prop), Cx E p s m args c cc y.cls n →
      (∀ (pc : Nat) (ls : Array Slot) (H : Heap) (locs : List Loc) (v : Int32) (J : Nat → Nat → Int32), decode cc pc = .ok (.ireturn, 1) → Hp E K L ad J H → va_S (AG E) s.heap H locs → post v J → W p l e (rmk k) s m args below meth c H locs 0 0 Qf (F0 m pc ls [.int v])) →
      Hp E K L ad I s.heap → lv_has ls n (lv_args 0 av) → W p l e (rmk k) s m args below meth c s.heap [] 0 0 Qf (F0 m 0 ls [])) : MI l E K L ad I y cc n (some .int) k av post := by
  refine Met.ofW (cc := cc) (maxL := n) (ret := some .int) hy rfl ?_
  intro p e s m args below meth c s₁ B hml hv
  obtain ⟨rfl, hP, hV⟩ := hv
  have hts := atoms_spec (ws := Cond.code y cc n (some .int) :: TB) B.pre
  have C : Cx E p s m av.toArray c cc y.cls n := ⟨B.exec, B.bytes, fun w hw => hts w (List.mem_cons_of_mem _ hw), findClass_of_methodNamed B.named, hV, hml⟩
  rw [lg_entry_eq]
  exact body p e s m _ below meth c _ _ C (fun pc ls H locs v J hd hP hS h => r_iret C B.returns B.notSynchronized hP hS hd h) hP (lv_entry av hlen)
theorem MZ.of {y : MethodName} {n k : Nat} {av : List Value} {post : Int32 → (Nat → Nat → Int32) → Prop} (hy : plainName y.cls = true) (hlen : (lg_sl av).length ≤ n)
    (body : ∀ (p : Program) (e : Env) (s : State) (m : MethodId) (args : Array Value) (below : List Frame) (meth : Method) (c : Code) (ls : Array Slot) (Qf : State → Prop), Cx E p s m args c cc y.cls n →
      (∀ (pc : Nat) (ls : Array Slot) (H : Heap) (locs : List Loc) (v : Int32) (J : Nat → Nat → Int32), decode cc pc = .ok (.ireturn, 1) → Hp E K L ad J H → va_S (AG E) s.heap H locs → narrow .boolean (.int v) = .int v → post v J → W p l e (rmk k) s m args below meth c H locs 0 0 Qf (F0 m pc ls [.int v])) →
      Hp E K L ad I s.heap → lv_has ls n (lv_args 0 av) → W p l e (rmk k) s m args below meth c s.heap [] 0 0 Qf (F0 m 0 ls [])) : MI l E K L ad I y cc n (some .boolean) k av post := by
  refine Met.ofW (cc := cc) (maxL := n) (ret := some .boolean) hy rfl ?_
  intro p e s m args below meth c s₁ B hml hv
  obtain ⟨rfl, hP, hV⟩ := hv
  have hts := atoms_spec (ws := Cond.code y cc n (some .boolean) :: TB) B.pre
  have C : Cx E p s m av.toArray c cc y.cls n := ⟨B.exec, B.bytes, fun w hw => hts w (List.mem_cons_of_mem _ hw), findClass_of_methodNamed B.named, hV, hml⟩
  rw [lg_entry_eq]
  exact body p e s m _ below meth c _ _ C (fun pc ls H locs v J hd hP hS hn h => r_zret C B.returns B.notSynchronized hP hS hd hn h) hP (lv_entry av hlen)
theorem MV.of {y : MethodName} {n k : Nat} {av : List Value} {post : (Nat → Nat → Int32) → Prop} (hy : plainName y.cls = true) (hlen : (lg_sl av).length ≤ n)
    (body : ∀ (p : Program) (e : Env) (s : State) (m : MethodId) (args : Array Value) (below : List Frame) (meth : Method) (c : Code) (ls : Array Slot) (Qf : State → Prop), Cx E p s m args c cc y.cls n →
      (∀ (pc : Nat) (ls : Array Slot) (H : Heap) (locs : List Loc) (J : Nat → Nat → Int32), decode cc pc = .ok (.return_, 1) → Hp E K L ad J H → va_S (AG E) s.heap H locs → post J → W p l e (rmk k) s m args below meth c H locs 0 0 Qf (F0 m pc ls [])) →
      Hp E K L ad I s.heap → lv_has ls n (lv_args 0 av) → W p l e (rmk k) s m args below meth c s.heap [] 0 0 Qf (F0 m 0 ls [])) : MV l E K L ad I y cc n k av post := by
  refine Met.ofW (cc := cc) (maxL := n) (ret := none) hy rfl ?_
  intro p e s m args below meth c s₁ B hml hv
  obtain ⟨rfl, hP, hV⟩ := hv
  have hts := atoms_spec (ws := Cond.code y cc n none :: TB) B.pre
  have C : Cx E p s m av.toArray c cc y.cls n := ⟨B.exec, B.bytes, fun w hw => hts w (List.mem_cons_of_mem _ hw), findClass_of_methodNamed B.named, hV, hml⟩
  rw [lg_entry_eq]
  exact body p e s m _ below meth c _ _ C (fun pc ls H locs J hd hP hS h => r_vret C B.returns B.notSynchronized hP hS hd h) hP (lv_entry av hlen)
/-- one object of the world as a list of one -/
theorem Hp.one (hP : Hp E K L ad I H) (hr : K r ≠ 0) {en : va_E} (he : wE E.2.1 K L ad I r = en) : va_P E.1 classes [(ad r, en)] H := fun k q hq => by
  have hk : k < 1 := (List.getElem?_eq_some_iff.mp hq).1
  rw [show k = 0 by omega] at hq
  cases hq
  rw [← he]
  exact hP.1 r hr
theorem g_get (C : Cx E p s m args c cc own nL) (hP : Hp E K L ad I H) {ref Cn : String} {T : u_T} {N ci index k : Nat} {fs : List Value} {v : Value} (hr : K r ≠ 0) (he : wE E.2.1 K L ad I r = .inr (ci, fs)) (hin : ∀ w ∈ u_ws Cn T N, w ∈ TB) (hc : classes[ci]? = some (Cn, T, N)) (hk : k < N) (hlink : Cond.fieldLink own index ref (T k).2.1 (T k).2.2.1 ∈ TB) (href : ref = (T k).1) (hv : fs[k]? = some v) (hdg : decode cc pc = .ok (.getfield index, 3))
    (kk : W p l e R s m args below meth c H locs cells slots Q (F0 m (pc + 3) ls (v :: rest))) : W p l e R s m args below meth c H locs cells slots Q (F0 m pc ls (.ref (ad r) :: rest)) :=
  va_get (D := E.1) (cl := classes) C.1 C.2.1 C.2.2.1 hin C.2.2.2.1 C.2.2.2.2.1.1 (hP.one hr he) 0 rfl hc k hk (C.2.2.1 _ hlink) (fun x h => by rw [href]; exact h) hv hdg kk
theorem g_put (C : Cx E p s m args c cc own nL) (hP : Hp E K L ad I H) (hS0 : va_S (AG E) s.heap H locs) {ref Cn : String} {T : u_T} {N ci index k : Nat} {fs : List Value} {v : Value} {L' : Nat → Nat → Bool} {I' : Nat → Nat → Int32} (hr : K r ≠ 0) (he : wE E.2.1 K L ad I r = .inr (ci, fs)) (hin : ∀ w ∈ u_ws Cn T N, w ∈ TB) (ty0 : Nat → FieldType) (hty : ∀ k, k < N → parseFieldDescriptor (T k).2.2.1 = some (ty0 k)) (hnm : ∀ a, a < N → ∀ b, b < N → a ≠ b → (T a).2.1 ≠ (T b).2.1) (hc : classes[ci]? = some (Cn, T, N)) (hk : k < N) (hlink : Cond.fieldLink own index ref (T k).2.1 (T k).2.2.1 ∈ TB) (href : ref = (T k).1) (hfin : (T k).2.2.2 = false) {ty : FieldType} (hd : parseFieldDescriptor (T k).2.2.1 = some ty) (hn : narrow ty v = v) (hfit : fits ty v = true) (hl : k < fs.length)
    (he' : wE E.2.1 K L' ad I' r = .inr (ci, fs.set k v)) (hI : ∀ a, a ≠ r → I' a = I a) (hL : ∀ a, a ≠ r → L' a = L a) (hdg : decode cc pc = .ok (.putfield index, 3))
    (kk : ∀ (H1 : Heap) (locs1 : List Loc), Hp E K L' ad I' H1 → va_S (AG E) s.heap H1 locs1 → W p l e R s m args below meth c H1 locs1 cells slots Q (F0 m (pc + 3) ls rest)) : W p l e R s m args below meth c H locs cells slots Q (F0 m pc ls (v :: .ref (ad r) :: rest)) := by
  have hts := C.2.2.1
  have hK := C.2.2.2.2.1.1
  have hap := va_apart (own := own) hts hin ty0 hty hnm hK hc
  obtain ⟨q, h1, cell, q1, q2, q3, q4⟩ := (hP.one hr he) 0 _ rfl
  have hq : q = (Cn, T, N) := Option.some.inj (h1.symm.trans hc)
  subst hq
  obtain ⟨hS, hfc, kC, hkC, hkind⟩ := hK.1 ci _ hc
  obtain ⟨cf, kf, fi, f, hi, hsl⟩ := hS k hk
  have hlay := hts _ (hin _ (u_in_lay hk))
  unfold u_lay at hlay
  rw [if_neg (by rw [hfin]; decide)] at hlay
  have hst := (u_facts hfc hkC (u_lays hts hin hk) hi).1
  have h6 := u_store hfc hkC hkind hlay hi hd hn hfit
  refine W.putK C.1 C.2.1 (f := f) ⟨C.2.2.2.1, hts _ hlink, ⟨_, _, _, by rw [href]; exact hi⟩, hst⟩ (by rw [q2]; exact h6) q1 q3 (by rw [hsl]; exact k2_hasslot (q4 k hk)) rfl rfl hdg fun H' e1 e2 e3 => ?_
  rw [hsl] at e1 ⊢
  refine kk H' _ (hP.set hr e2 e3 ?_ hI hL) (hS0.put e2 e3 (hP.2.1 r hr))
  rw [he']
  exact ⟨_, hc, t_OB.to (V := updV (vp_V fs) k v) ⟨_, e1, q2, q3, t_set q4 hap hk v⟩ (fun j _ => vp_updV_set hl v j)⟩
theorem g_putF (C : Cx E p s m args c cc own nL) (hP : Hp E K L ad I H) (hS0 : va_S (AG E) s.heap H locs) {ref Cn : String} {T : u_T} {N ci index k : Nat} {fs : List Value} {v : Value} {L' : Nat → Nat → Bool} {I' : Nat → Nat → Int32} (hr : K r ≠ 0) (he : wE E.2.1 K L ad I r = .inr (ci, fs)) (hin : ∀ w ∈ u_ws Cn T N, w ∈ TB) (ty0 : Nat → FieldType) (hty : ∀ k, k < N → parseFieldDescriptor (T k).2.2.1 = some (ty0 k)) (hnm : ∀ a, a < N → ∀ b, b < N → a ≠ b → (T a).2.1 ≠ (T b).2.1) (hc : classes[ci]? = some (Cn, T, N)) (hk : k < N) (hlink : Cond.fieldLink own index ref (T k).2.1 (T k).2.2.1 ∈ TB) (href : ref = (T k).1) (hfin : (T k).2.2.2 = true) (hin2 : meth.name = "<init>") (hdecl : (T k).1 = own) {ty : FieldType} (hd : parseFieldDescriptor (T k).2.2.1 = some ty) (hn : narrow ty v = v) (hfit : fits ty v = true) (hl : k < fs.length)
    (he' : wE E.2.1 K L' ad I' r = .inr (ci, fs.set k v)) (hI : ∀ a, a ≠ r → I' a = I a) (hL : ∀ a, a ≠ r → L' a = L a) (hdg : decode cc pc = .ok (.putfield index, 3))
    (kk : ∀ (H1 : Heap) (locs1 : List Loc), Hp E K L' ad I' H1 → va_S (AG E) s.heap H1 locs1 → W p l e R s m args below meth c H1 locs1 cells slots Q (F0 m (pc + 3) ls rest)) : W p l e R s m args below meth c H locs cells slots Q (F0 m pc ls (v :: .ref (ad r) :: rest)) := by
  have hts := C.2.2.1
  have hK := C.2.2.2.2.1.1
  have hap := va_apart (own := own) hts hin ty0 hty hnm hK hc
  obtain ⟨q, h1, cell, q1, q2, q3, q4⟩ := (hP.one hr he) 0 _ rfl
  have hq : q = (Cn, T, N) := Option.some.inj (h1.symm.trans hc)
  subst hq
  obtain ⟨hS, hfc, kC, hkC, hkind⟩ := hK.1 ci _ hc
  obtain ⟨cf, kf, fi, f, hi, hsl⟩ := hS k hk
  have hlay := hts _ (hin _ (u_in_lay hk))
  unfold u_lay at hlay
  rw [if_pos hfin] at hlay
  have hst := (u_facts hfc hkC (u_lays hts hin hk) hi).1
  have hcf : m.cls = cf := by
    obtain ⟨_, _, c', _, _, _, -, -, hf', -, -, -, hown2, -⟩ := Cond.laysFinal_spec hlay
    have e1 : c' = cf := by have := hi.symm.trans hf'; simp at this; exact this.1.symm
    rw [hdecl] at hown2
    rw [← e1]; exact Option.some.inj (C.2.2.2.1.symm.trans hown2)
  have h6 := u_fits hfc hkC hkind (Or.inr hlay) hi hd hn hfit
  refine W.putFinK C.1 C.2.1 C.2.2.2.1 (hts _ hlink) (by rw [href]; exact hi) hst hcf hin2 (by rw [q2]; exact h6) q1 q3 (by rw [hsl]; exact k2_hasslot (q4 k hk)) rfl rfl hdg fun H' e1 e2 e3 => ?_
  rw [hsl] at e1 ⊢
  refine kk H' _ (hP.set hr e2 e3 ?_ hI hL) (hS0.put e2 e3 (hP.2.1 r hr))
  rw [he']
  exact ⟨_, hc, t_OB.to (V := updV (vp_V fs) k v) ⟨_, e1, q2, q3, t_set q4 hap hk v⟩ (fun j _ => vp_updV_set hl v j)⟩
/-- arrays of ints -/
theorem r_iald (C : Cx E p s m args c cc own nL) (hP : Hp E K L ad I H) {n j : Nat} (hr : K r = 100 + n) (hj : j < n) (hn : n < 2 ^ 31) (hdg : decode cc pc = .ok (.iaload, 1))
    (kk : W p l e R s m args below meth c H locs cells slots Q (F0 m (pc + 1) ls (.int (I r j) :: rest))) : W p l e R s m args below meth c H locs cells slots Q (F0 m pc ls (.int (nI j) :: .ref (ad r) :: rest)) := by
  refine va_iald (D := E.1) (cl := classes) (tys := tysG E.2.1) C.1 C.2.1 C.2.2.2.2.1.1 (hP.one (by omega) (wE_A _ _ _ _ hr)) 0 0 rfl rfl (vp_in_nI hj hn) hdg ?_
  rw [nI_clamp (by omega)]
  exact kk
theorem r_iast (C : Cx E p s m args c cc own nL) (hP : Hp E K L ad I H) (hS : va_S (AG E) s.heap H locs) {n j : Nat} {x : Int32} (hr : K r = 100 + n) (hj : j < n) (hn : n < 2 ^ 31) (hdg : decode cc pc = .ok (.iastore, 1))
    (kk : ∀ (H1 : Heap) (locs1 : List Loc), Hp E K L ad (up2 I r j x) H1 → va_S (AG E) s.heap H1 locs1 → W p l e R s m args below meth c H1 locs1 cells slots Q (F0 m (pc + 1) ls rest)) : W p l e R s m args below meth c H locs cells slots Q (F0 m pc ls (.int x :: .int (nI j) :: .ref (ad r) :: rest)) := by
  have hr0 : K r ≠ 0 := by omega
  have hc := (hP.one hr0 (wE_A _ _ _ _ hr)) 0 _ rfl
  refine W.iast C.1 C.2.1 hc ((C.2.2.2.2.1.1.2 0 _ rfl).1 n (fun i => .int (I r i))) (fun q => by cases q) (by show ¬ (nI j < 0 ∨ (arrV _ _ _).slots.size ≤ _); rw [arrV_size]; exact vp_in_nI hj hn) rfl rfl hdg fun H1 e1 z oq => ?_
  refine kk H1 _ (hP.set (I' := up2 I r j x) hr0 z oq ?_ (fun a ha => up2_r ha) (fun _ _ => rfl)) (hS.put z oq (hP.2.1 r hr0))
  rw [wE_A _ _ _ _ hr]
  show H1[ad r]? = some (vp_cell _ _)
  rw [e1, vp_cell_i, vp_cell_i, arrV_store, nI_clamp (by omega), up2_at]
  congr 2
  funext q
  by_cases hq : q = j
  · subst hq; simp [updV, upd]
  · simp [updV, upd, hq]
theorem r_alen (C : Cx E p s m args c cc own nL) (hP : Hp E K L ad I H) {n : Nat} (hr : K r = 100 + n) (hdg : decode cc pc = .ok (.arraylength, 1))
    (kk : W p l e R s m args below meth c H locs cells slots Q (F0 m (pc + 1) ls (.int (nI n) :: rest))) : W p l e R s m args below meth c H locs cells slots Q (F0 m pc ls (.ref (ad r) :: rest)) :=
  va_alen (D := E.1) (cl := classes) (tys := tysG E.2.1) C.1 C.2.1 C.2.2.2.2.1.1 (hP.one (by omega) (wE_A _ _ _ _ hr)) 0 0 rfl rfl rfl hdg kk
/-- arrays of booleans, of two -/
theorem r_zald (C : Cx E p s m args c cc own nL) (hP : Hp E K L ad I H) {j : Nat} (hr : K r = 15) (hj : j < 2) (hdg : decode cc pc = .ok (.baload, 1))
    (kk : W p l e R s m args below meth c H locs cells slots Q (F0 m (pc + 1) ls (.int (I r j) :: rest))) : W p l e R s m args below meth c H locs cells slots Q (F0 m pc ls (.int (nI j) :: .ref (ad r) :: rest)) := by
  refine va_zald (D := E.1) (cl := classes) (tys := tysG E.2.1) C.1 C.2.1 C.2.2.2.2.1.1 (hP.one (by omega) (wE_15 _ _ _ _ hr)) 0 1 rfl rfl (vp_in_nI hj (by decide)) hdg ?_
  rw [nI_clamp (by omega)]
  exact kk
theorem r_zast (C : Cx E p s m args c cc own nL) (hP : Hp E K L ad I H) (hS : va_S (AG E) s.heap H locs) {j : Nat} {x : Int32} (hr : K r = 15) (hj : j < 2) (hx : narrow .boolean (.int x) = .int x) (hdg : decode cc pc = .ok (.bastore, 1))
    (kk : ∀ (H1 : Heap) (locs1 : List Loc), Hp E K L ad (up2 I r j x) H1 → va_S (AG E) s.heap H1 locs1 → W p l e R s m args below meth c H1 locs1 cells slots Q (F0 m (pc + 1) ls rest)) : W p l e R s m args below meth c H locs cells slots Q (F0 m pc ls (.int x :: .int (nI j) :: .ref (ad r) :: rest)) := by
  have hr0 : K r ≠ 0 := by omega
  have hc := (hP.one hr0 (wE_15 _ _ _ _ hr)) 0 _ rfl
  refine W.zast C.1 C.2.1 hc ((C.2.2.2.2.1.1.2 1 _ rfl).1 2 (fun i => .int (I r i))) (fun q => by cases q) (by show ¬ (nI j < 0 ∨ (arrV _ _ _).slots.size ≤ _); rw [arrV_size]; exact vp_in_nI (N := 2) hj (by decide)) rfl rfl hdg fun H1 e1 z oq => ?_
  refine kk H1 _ (hP.set (I' := up2 I r j x) hr0 z oq ?_ (fun a ha => up2_r ha) (fun _ _ => rfl)) (hS.put z oq (hP.2.1 r hr0))
  rw [wE_15 _ _ _ _ hr]
  show H1[ad r]? = some (vp_cell _ _)
  rw [e1, hx, vp_cell_i, vp_cell_i, arrV_store, nI_clamp (by omega), up2_at]
  congr 2
  funext q
  by_cases hq : q = j
  · subst hq; simp [updV, upd]
  · simp [updV, upd, hq]
/-- arrays of objects -/
theorem r_aald (C : Cx E p s m args c cc own nL) (hP : Hp E K L ad I H) {j t0 n q : Nat} {ty : FieldType} {cA : ClassId} {f : Nat → Option Nat} (hr : K r ≠ 0) (he : wE E.2.1 K L ad I r = .inl (cA, n, .inr (.inr (.inr (.inr f))))) (ht : (tysG E.2.1)[t0]? = some (cA, ty)) (hty : ty.isReference = true) (hj : j < n) (hn : n < 2 ^ 31) (hq : f j = some q) (hdg : decode cc pc = .ok (.aaload, 1))
    (kk : W p l e R s m args below meth c H locs cells slots Q (F0 m (pc + 1) ls (.ref q :: rest))) : W p l e R s m args below meth c H locs cells slots Q (F0 m pc ls (.int (nI j) :: .ref (ad r) :: rest)) := by
  have hcl : (nI j).toNatClampNeg = j := nI_clamp (by omega)
  exact W.aald (v := .ref q) (ty := ty) C.1 C.2.1 ((hP.one hr he) 0 _ rfl) ((C.2.2.2.2.1.1.2 t0 _ ht).1 n (fun j => va_rf (f j))) hty (fun q => by cases q) (by show ¬ (nI j < 0 ∨ (arrV _ _ _).slots.size ≤ _); rw [arrV_size]; exact vp_in_nI hj hn) (by show (arrV _ _ _).slots[_]? = _; rw [hcl, arrV_read _ _ hj, hq]; rfl) rfl rfl hdg kk
/-- an Act of a table's acts, a Table of a program's, an image, a row of slots -/
theorem r_ald11 (C : Cx E p s m args c cc own nL) (hP : Hp E K L ad I H) {j q : Nat} (hr : K r = 11) (hL : L r j = true) (hj : j < 5) (hq : r + 1 + j = q) (hdg : decode cc pc = .ok (.aaload, 1))
    (kk : W p l e R s m args below meth c H locs cells slots Q (F0 m (pc + 1) ls (.ref (ad q) :: rest))) : W p l e R s m args below meth c H locs cells slots Q (F0 m pc ls (.int (nI j) :: .ref (ad r) :: rest)) :=
  r_aald (t0 := 2) C hP (by omega) (wE_11 _ _ _ _ hr) rfl rfl hj (by decide) (by subst hq; exact qo_t hL) hdg kk
theorem r_ald12 (C : Cx E p s m args c cc own nL) (hP : Hp E K L ad I H) {j q : Nat} (hr : K r = 12) (hL : L r j = true) (hj : j < 8) (hq : r + 7 + 8 * (I r j).toNatClampNeg = q) (hdg : decode cc pc = .ok (.aaload, 1))
    (kk : W p l e R s m args below meth c H locs cells slots Q (F0 m (pc + 1) ls (.ref (ad q) :: rest))) : W p l e R s m args below meth c H locs cells slots Q (F0 m pc ls (.int (nI j) :: .ref (ad r) :: rest)) :=
  r_aald (t0 := 3) C hP (by omega) (wE_12 _ _ _ _ hr) rfl rfl hj (by decide) (by subst hq; exact qo_t hL) hdg kk
theorem r_ald13 (C : Cx E p s m args c cc own nL) (hP : Hp E K L ad I H) {j q : Nat} (hr : K r = 13) (hL : L r j = true) (hj : j < 2) (hq : r + 150 + 100 * j = q) (hdg : decode cc pc = .ok (.aaload, 1))
    (kk : W p l e R s m args below meth c H locs cells slots Q (F0 m (pc + 1) ls (.ref (ad q) :: rest))) : W p l e R s m args below meth c H locs cells slots Q (F0 m pc ls (.int (nI j) :: .ref (ad r) :: rest)) :=
  r_aald (t0 := 4) C hP (by omega) (wE_13 _ _ _ _ hr) rfl rfl hj (by decide) (by subst hq; exact qo_t hL) hdg kk
theorem r_ald14 (C : Cx E p s m args c cc own nL) (hP : Hp E K L ad I H) {j q : Nat} (hr : K r = 14) (hL : L r j = true) (hj : j < 4) (hq : r + 1 + j = q) (hdg : decode cc pc = .ok (.aaload, 1))
    (kk : W p l e R s m args below meth c H locs cells slots Q (F0 m (pc + 1) ls (.ref (ad q) :: rest))) : W p l e R s m args below meth c H locs cells slots Q (F0 m pc ls (.int (nI j) :: .ref (ad r) :: rest)) :=
  r_aald (t0 := 5) C hP (by omega) (wE_14 _ _ _ _ hr) rfl rfl hj (by decide) (by subst hq; exact qo_t hL) hdg kk
theorem r_aast (C : Cx E p s m args c cc own nL) (hP : Hp E K L ad I H) (hS : va_S (AG E) s.heap H locs) {j t0 n q ci : Nat} {cA : ClassId} {f : Nat → Option Nat} {vs : List Value} {rc : vw_C} {L' : Nat → Nat → Bool} {I' : Nat → Nat → Int32} (hr : K r ≠ 0) (he : wE E.2.1 K L ad I r = .inl (cA, n, .inr (.inr (.inr (.inr f))))) (ht : (tysG E.2.1)[t0]? = some (cA, .object rc.1)) (hq : K q ≠ 0) (hv : wE E.2.1 K L ad I q = .inr (ci, vs)) (hc : classes[ci]? = some rc) (hj : j < n) (hn : n < 2 ^ 31)
    (he' : wE E.2.1 K L' ad I' r = .inl (cA, n, .inr (.inr (.inr (.inr (va_up f j (some (ad q)))))))) (hI : ∀ a, a ≠ r → I' a = I a) (hL : ∀ a, a ≠ r → L' a = L a) (hdg : decode cc pc = .ok (.aastore, 1))
    (kk : ∀ (H1 : Heap) (locs1 : List Loc), Hp E K L' ad I' H1 → va_S (AG E) s.heap H1 locs1 → W p l e R s m args below meth c H1 locs1 cells slots Q (F0 m (pc + 1) ls rest)) : W p l e R s m args below meth c H locs cells slots Q (F0 m pc ls (.ref (ad q) :: .int (nI j) :: .ref (ad r) :: rest)) := by
  obtain ⟨r', hr', cellV, g1, g2, g3, -⟩ := (hP.one hq hv) 0 _ rfl
  have hK := C.2.2.2.2.1.1
  have hcls := (hK.1 ci rc hc).2
  obtain ⟨kA, comp, k1, k2, k3, -⟩ := (hK.2 t0 _ ht).2
  have hcomp : comp = E.1.1 ci := Option.some.inj (k3.symm.trans hcls.1)
  subst hcomp
  obtain ⟨kC, hkC, -⟩ := hcls.2
  have hcl : (nI j).toNatClampNeg = j := nI_clamp (by omega)
  refine W.aast C.1 C.2.1 ((hP.one hr he) 0 _ rfl) (fun q h => by cases h) (fun h => by cases h) k1 k2 rfl hkC ⟨nI_pos (by omega), by show _ < (arrV _ _ _).slots.size; rw [arrV_size, hcl]; exact hj⟩ g1 (fun q h => by rw [g3] at h; cases h) (by rw [g2]; exact hkC) (by rw [g2]; exact va_assign hcls) rfl rfl hdg fun H1 e1 z oq => ?_
  refine kk H1 _ (hP.set hr z oq ?_ hI hL) (hS.put z oq (hP.2.1 r hr))
  rw [he']
  show H1[ad r]? = some (vp_cell _ _)
  rw [e1, vp_cell_q, vp_cell_q, arrV_store, hcl]
  congr 2
  funext q
  by_cases hq : q = j
  · subst hq; simp [updV, va_up, va_rf]
  · simp [updV, va_up, hq]
/-- static arrays -/
theorem r_gst (C : Cx E p s m args c cc own nL) (hS : va_S (AG E) s.heap H locs) {j index : Nat} (hj : j < 4) (hlink : Cond.fieldLink own index RX6 (stN j) "[I" ∈ TB) (hdg : decode cc pc = .ok (.getstatic index, 3))
    (kk : W p l e R s m args below meth c H locs cells slots Q (F0 m (pc + 3) ls (.ref (E.2.2.1 j) :: rest))) : W p l e R s m args below meth c H locs cells slots Q (F0 m pc ls rest) :=
  va_gets C.1 C.2.1 (C.2.2.2.2.1.2.2 j hj).1 hS C.2.2.2.1 (C.2.2.1 _ hlink) (fun _ h => h) hdg kk
theorem r_sld (C : Cx E p s m args c cc own nL) (hS : va_S (AG E) s.heap H locs) {j i : Nat} (hj : j < 4) (hi : i < stL j) (hL : stL j < 2 ^ 31) (hdg : decode cc pc = .ok (.iaload, 1))
    (kk : W p l e R s m args below meth c H locs cells slots Q (F0 m (pc + 1) ls (.int (stV j i) :: rest))) : W p l e R s m args below meth c H locs cells slots Q (F0 m pc ls (.int (nI i) :: .ref (E.2.2.1 j) :: rest)) :=
  va_ti C.1 C.2.1 ((C.2.2.2.2.1.2.2 j hj).2).va hS (vp_in_nI hi hL) (by rw [nI_clamp (by omega)]) hdg kk
theorem r_slen (C : Cx E p s m args c cc own nL) (hS : va_S (AG E) s.heap H locs) {j : Nat} (hj : j < 4) (hdg : decode cc pc = .ok (.arraylength, 1))
    (kk : W p l e R s m args below meth c H locs cells slots Q (F0 m (pc + 1) ls (.int (nI (stL j)) :: rest))) : W p l e R s m args below meth c H locs cells slots Q (F0 m pc ls (.ref (E.2.2.1 j) :: rest)) :=
  va_tlen C.1 C.2.1 ((C.2.2.2.2.1.2.2 j hj).2).va hS rfl hdg kk
/-- calls -/
theorem PcW.of (C : Cx E p s m args c cc own nL) (hP : Hp E K L ad I H) (hS : va_S (AG E) s.heap H locs) (av : List Value) : ∀ U : State, U.heap = H → s.WarmedH U.vm → PcW E K L ad I av av.toArray U := fun U hU hW => ⟨rfl, by rw [hU]; exact hP, C.2.2.2.2.1.to hS hU hW⟩
theorem r_callVi {y : MethodName} {b : ByteArray} {n k idx ci : Nat} {rt : Option FieldType} {As st : List Value} {fs : List Value} {rc : vw_C} {post : Int32 → (Nat → Nat → Int32) → Prop} (C : Cx E p s m args c cc own nL) (hP : Hp E K L ad I H) (hS : va_S (AG E) s.heap H locs)
    (h1 : Cond.methodLink own idx y ∈ TB) (h2 : Cond.instanceMethod y ∈ TB) (h3 : Cond.selects y.cls y y ∈ TB) (h4 : Cond.initialized y.cls ∈ TB) (h5 : Cond.code y b n rt ∈ TB) (hd : y.cls ≠ "java/lang/invoke/MethodHandle" ∧ y.cls ≠ "java/lang/invoke/VarHandle" ∧ (parseMethodDescriptor y.desc).map (fun d => d.parameters.length) = some As.length)
    (hr : K r ≠ 0) (he : wE E.2.1 K L ad I r = .inr (ci, fs)) (hc : classes[ci]? = some rc) (hcn : rc.1 = y.cls) (hM : MI l E K L ad I y b n rt k (.ref (ad r) :: As) post) (hR : k + 1 ≤ R.frames ∧ 8 + (n + 11) + 26 * k ≤ R.locals) (hcells : cells ≤ R.cells ∧ slots ≤ R.slots) (hls : ls.size = nL) (hst : st = As.reverse ++ .ref (ad r) :: rest) (hroom : (rest.map fun v => v.category).sum ≤ 8) (hdg : decode cc pc = .ok (.invokevirtual idx, 3))
    (kk : ∀ (v : Int32) (J : Nat → Nat → Int32) (H1 : Heap) (locs1 : List Loc), post v J → Hp E K L ad J H1 → va_S (AG E) s.heap H1 locs1 → W p l e R s m args below meth c H1 locs1 cells slots Q (F0 m (pc + 3) ls (.int v :: rest))) : W p l e R s m args below meth c H locs cells slots Q (F0 m pc ls st) := by
  subst hst
  refine va_calli (va_runV (Ts := TB) (As := As) (rest := rest) ⟨C.1, C.2.1, C.2.2.2.2.2, C.2.2.2.1, C.2.2.1⟩ hM (cwV As.length C.2.2.1 (gd_tb (fun w hw => ?_)) rfl rfl rfl ⟨rfl, hd⟩ hR) ⟨PcW.blind, ?_, PcW.of C hP hS _⟩ rfl rfl hls rfl (lv_room hroom) hdg hcells) hS (fun q _ h => h) (fun q h => h) (fun v J t H1 locs1 ht hvm hw hB _ _ hS1 => kk v J H1 locs1 hw (by rw [← ht]; exact hB) hS1)
  · unfold wsV at hw
    rcases List.mem_append.mp hw with h | h
    · rcases List.mem_cons.mp h with rfl | h
      · exact h1
      · rcases List.mem_cons.mp h with rfl | h
        · exact h2
        · rcases List.mem_cons.mp h with rfl | h
          · exact h3
          · rcases List.mem_cons.mp h with rfl | h
            · exact h4
            · cases h
    · rcases List.mem_cons.mp h with rfl | h
      · exact h5
      · exact h
  · have := va_recv C.2.2.2.2.1.1 (hP.one hr he) hc (q0 := 0) rfl
    rw [hcn] at this
    exact this
theorem r_callVv {y : MethodName} {b : ByteArray} {n k idx ci : Nat} {As st : List Value} {fs : List Value} {rc : vw_C} {post : (Nat → Nat → Int32) → Prop} (C : Cx E p s m args c cc own nL) (hP : Hp E K L ad I H) (hS : va_S (AG E) s.heap H locs)
    (h1 : Cond.methodLink own idx y ∈ TB) (h2 : Cond.instanceMethod y ∈ TB) (h3 : Cond.selects y.cls y y ∈ TB) (h4 : Cond.initialized y.cls ∈ TB) (h5 : Cond.code y b n none ∈ TB) (hd : y.cls ≠ "java/lang/invoke/MethodHandle" ∧ y.cls ≠ "java/lang/invoke/VarHandle" ∧ (parseMethodDescriptor y.desc).map (fun d => d.parameters.length) = some As.length)
    (hr : K r ≠ 0) (he : wE E.2.1 K L ad I r = .inr (ci, fs)) (hc : classes[ci]? = some rc) (hcn : rc.1 = y.cls) (hM : MV l E K L ad I y b n k (.ref (ad r) :: As) post) (hR : k + 1 ≤ R.frames ∧ 8 + (n + 11) + 26 * k ≤ R.locals) (hcells : cells ≤ R.cells ∧ slots ≤ R.slots) (hls : ls.size = nL) (hst : st = As.reverse ++ .ref (ad r) :: rest) (hroom : (rest.map fun v => v.category).sum ≤ 8) (hdg : decode cc pc = .ok (.invokevirtual idx, 3))
    (kk : ∀ (J : Nat → Nat → Int32) (H1 : Heap) (locs1 : List Loc), post J → Hp E K L ad J H1 → va_S (AG E) s.heap H1 locs1 → W p l e R s m args below meth c H1 locs1 cells slots Q (F0 m (pc + 3) ls rest)) : W p l e R s m args below meth c H locs cells slots Q (F0 m pc ls st) := by
  subst hst
  refine va_callv (va_runV (Ts := TB) (As := As) (rest := rest) ⟨C.1, C.2.1, C.2.2.2.2.2, C.2.2.2.1, C.2.2.1⟩ hM (cwV As.length C.2.2.1 (gd_tb (fun w hw => ?_)) rfl rfl rfl ⟨rfl, hd⟩ hR) ⟨PcW.blind, ?_, PcW.of C hP hS _⟩ rfl rfl hls rfl (lv_room hroom) hdg hcells) hS (fun q _ h => h) (fun q h => h) (fun J t H1 locs1 ht hvm hw hB _ _ hS1 => kk J H1 locs1 hw (by rw [← ht]; exact hB) hS1)
  · unfold wsV at hw
    rcases List.mem_append.mp hw with h | h
    · rcases List.mem_cons.mp h with rfl | h
      · exact h1
      · rcases List.mem_cons.mp h with rfl | h
        · exact h2
        · rcases List.mem_cons.mp h with rfl | h
          · exact h3
          · rcases List.mem_cons.mp h with rfl | h
            · exact h4
            · cases h
    · rcases List.mem_cons.mp h with rfl | h
      · exact h5
      · exact h
  · have := va_recv C.2.2.2.2.1.1 (hP.one hr he) hc (q0 := 0) rfl
    rw [hcn] at this
    exact this
theorem r_callSi {y : MethodName} {b : ByteArray} {n k idx : Nat} {rt : Option FieldType} {As st : List Value} {post : Int32 → (Nat → Nat → Int32) → Prop} (C : Cx E p s m args c cc own nL) (hP : Hp E K L ad I H) (hS : va_S (AG E) s.heap H locs)
    (h1 : Cond.methodLink own idx y ∈ TB) (h2 : Cond.static y ∈ TB) (h4 : Cond.initialized y.cls ∈ TB) (h5 : Cond.code y b n rt ∈ TB) (hd : y.cls ≠ "java/lang/invoke/MethodHandle" ∧ y.cls ≠ "java/lang/invoke/VarHandle" ∧ (parseMethodDescriptor y.desc).map (fun d => d.parameters.length) = some As.length)
    (hM : MI l E K L ad I y b n rt k As post) (hR : k + 1 ≤ R.frames ∧ 8 + (n + 11) + 26 * k ≤ R.locals) (hcells : cells ≤ R.cells ∧ slots ≤ R.slots) (hls : ls.size = nL) (hst : st = As.reverse ++ rest) (hroom : (rest.map fun v => v.category).sum ≤ 8) (hdg : decode cc pc = .ok (.invokestatic idx, 3))
    (kk : ∀ (v : Int32) (J : Nat → Nat → Int32) (H1 : Heap) (locs1 : List Loc), post v J → Hp E K L ad J H1 → va_S (AG E) s.heap H1 locs1 → W p l e R s m args below meth c H1 locs1 cells slots Q (F0 m (pc + 3) ls (.int v :: rest))) : W p l e R s m args below meth c H locs cells slots Q (F0 m pc ls st) := by
  subst hst
  refine va_calli (va_runS (Ts := TB) (As := As) (rest := rest) ⟨C.1, C.2.1, C.2.2.2.2.2, C.2.2.2.1, C.2.2.1⟩ hM (va_cwS As.length C.2.2.1 (gd_tb (fun w hw => ?_)) rfl rfl rfl hd hR) ⟨PcW.blind, PcW.of C hP hS _⟩ rfl rfl hls rfl (lv_room hroom) hdg hcells) hS (fun q _ h => h) (fun q h => h) (fun v J t H1 locs1 ht hvm hw hB _ _ hS1 => kk v J H1 locs1 hw (by rw [← ht]; exact hB) hS1)
  unfold va_wsS at hw
  rcases List.mem_append.mp hw with h | h
  · rcases List.mem_cons.mp h with rfl | h
    · exact h1
    · rcases List.mem_cons.mp h with rfl | h
      · exact h2
      · rcases List.mem_cons.mp h with rfl | h
        · exact h4
        · cases h
  · rcases List.mem_cons.mp h with rfl | h
    · exact h5
    · exact h
theorem r_callSv {y : MethodName} {b : ByteArray} {n k idx : Nat} {As st : List Value} {post : (Nat → Nat → Int32) → Prop} (C : Cx E p s m args c cc own nL) (hP : Hp E K L ad I H) (hS : va_S (AG E) s.heap H locs)
    (h1 : Cond.methodLink own idx y ∈ TB) (h2 : Cond.static y ∈ TB) (h4 : Cond.initialized y.cls ∈ TB) (h5 : Cond.code y b n none ∈ TB) (hd : y.cls ≠ "java/lang/invoke/MethodHandle" ∧ y.cls ≠ "java/lang/invoke/VarHandle" ∧ (parseMethodDescriptor y.desc).map (fun d => d.parameters.length) = some As.length)
    (hM : MV l E K L ad I y b n k As post) (hR : k + 1 ≤ R.frames ∧ 8 + (n + 11) + 26 * k ≤ R.locals) (hcells : cells ≤ R.cells ∧ slots ≤ R.slots) (hls : ls.size = nL) (hst : st = As.reverse ++ rest) (hroom : (rest.map fun v => v.category).sum ≤ 8) (hdg : decode cc pc = .ok (.invokestatic idx, 3))
    (kk : ∀ (J : Nat → Nat → Int32) (H1 : Heap) (locs1 : List Loc), post J → Hp E K L ad J H1 → va_S (AG E) s.heap H1 locs1 → W p l e R s m args below meth c H1 locs1 cells slots Q (F0 m (pc + 3) ls rest)) : W p l e R s m args below meth c H locs cells slots Q (F0 m pc ls st) := by
  subst hst
  refine va_callv (va_runS (Ts := TB) (As := As) (rest := rest) ⟨C.1, C.2.1, C.2.2.2.2.2, C.2.2.2.1, C.2.2.1⟩ hM (va_cwS As.length C.2.2.1 (gd_tb (fun w hw => ?_)) rfl rfl rfl hd hR) ⟨PcW.blind, PcW.of C hP hS _⟩ rfl rfl hls rfl (lv_room hroom) hdg hcells) hS (fun q _ h => h) (fun q h => h) (fun J t H1 locs1 ht hvm hw hB _ _ hS1 => kk J H1 locs1 hw (by rw [← ht]; exact hB) hS1)
  unfold va_wsS at hw
  rcases List.mem_append.mp hw with h | h
  · rcases List.mem_cons.mp h with rfl | h
    · exact h1
    · rcases List.mem_cons.mp h with rfl | h
      · exact h2
      · rcases List.mem_cons.mp h with rfl | h
        · exact h4
        · cases h
  · rcases List.mem_cons.mp h with rfl | h
    · exact h5
    · exact h
theorem r_callNi {y : MethodName} {b : ByteArray} {n k idx : Nat} {host : String} {rt : Option FieldType} {As st : List Value} {post : Int32 → (Nat → Nat → Int32) → Prop} (C : Cx E p s m args c cc own nL) (hP : Hp E K L ad I H) (hS : va_S (AG E) s.heap H locs)
    (h1 : Cond.methodLinkNest own idx y host ∈ lw_tbl) (h2 : Cond.static y ∈ TB) (h4 : Cond.initialized y.cls ∈ TB) (h5 : Cond.code y b n rt ∈ TB) (hd : y.cls ≠ "java/lang/invoke/MethodHandle" ∧ y.cls ≠ "java/lang/invoke/VarHandle" ∧ (parseMethodDescriptor y.desc).map (fun d => d.parameters.length) = some As.length)
    (hM : MI l E K L ad I y b n rt k As post) (hR : k + 1 ≤ R.frames ∧ 8 + (n + 11) + 26 * k ≤ R.locals) (hcells : cells ≤ R.cells ∧ slots ≤ R.slots) (hls : ls.size = nL) (hst : st = As.reverse ++ rest) (hroom : (rest.map fun v => v.category).sum ≤ 8) (hdg : decode cc pc = .ok (.invokestatic idx, 3))
    (kk : ∀ (v : Int32) (J : Nat → Nat → Int32) (H1 : Heap) (locs1 : List Loc), post v J → Hp E K L ad J H1 → va_S (AG E) s.heap H1 locs1 → W p l e R s m args below meth c H1 locs1 cells slots Q (F0 m (pc + 3) ls (.int v :: rest))) : W p l e R s m args below meth c H locs cells slots Q (F0 m pc ls st) := by
  subst hst
  refine va_calli (va_runSN (Ts := TB) (As := As) (rest := rest) ⟨C.1, C.2.1, C.2.2.2.2.2, C.2.2.2.1, C.2.2.1⟩ hM ⟨va_cnB As.length C.2.2.1 (gd_tb (fun w hw => ?_)) rfl rfl rfl (C.2.2.2.2.1.2.1.1 _ _ _ _ h1) (C.2.2.1 _ h4) hd hR, C.2.2.1 _ h2, trivial⟩ ⟨PcW.blind, PcW.of C hP hS _⟩ rfl rfl hls rfl (lv_room hroom) hdg hcells) hS (fun q _ h => h) (fun q h => h) (fun v J t H1 locs1 ht hvm hw hB _ _ hS1 => kk v J H1 locs1 hw (by rw [← ht]; exact hB) hS1)
  rcases List.mem_cons.mp hw with rfl | h
  · exact h5
  · exact h
/-- numbers -/
theorem r_eqi {x y : Int32} (h : x = y) (kk : W p l e R s m args below meth c H locs cells slots Q (F0 m pc ls (.int y :: rest))) : W p l e R s m args below meth c H locs cells slots Q (F0 m pc ls (.int x :: rest)) := by rw [h]; exact kk
theorem r_addN (C : Cx E p s m args c cc own nL) {a b : Nat} (hdg : decode cc pc = .ok (.iadd, 1)) (kk : W p l e R s m args below meth c H locs cells slots Q (F0 m (pc + 1) ls (.int (nI (a + b)) :: rest))) : W p l e R s m args below meth c H locs cells slots Q (F0 m pc ls (.int (nI b) :: .int (nI a) :: rest)) :=
  lv_iadd C.1 C.2.1 hdg (by rw [nI_add]; exact kk)
theorem r_mulN (C : Cx E p s m args c cc own nL) {a b : Nat} (hdg : decode cc pc = .ok (.imul, 1)) (kk : W p l e R s m args below meth c H locs cells slots Q (F0 m (pc + 1) ls (.int (nI (a * b)) :: rest))) : W p l e R s m args below meth c H locs cells slots Q (F0 m pc ls (.int (nI b) :: .int (nI a) :: rest)) :=
  lv_imul C.1 C.2.1 hdg (by rw [pk_mul]; exact kk)
theorem r_subN (C : Cx E p s m args c cc own nL) {a b : Nat} (hab : b ≤ a) (hdg : decode cc pc = .ok (.isub, 1)) (kk : W p l e R s m args below meth c H locs cells slots Q (F0 m (pc + 1) ls (.int (nI (a - b)) :: rest))) : W p l e R s m args below meth c H locs cells slots Q (F0 m pc ls (.int (nI b) :: .int (nI a) :: rest)) :=
  lv_isub C.1 C.2.1 hdg (by rw [pk_sub hab]; exact kk)
end RW

