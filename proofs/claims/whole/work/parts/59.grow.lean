/-! constructors: rows by which the world grows. Addresses are foreseen (ad), kinds too (KF): a role is there once the heap has come to its address. -/
def kP (o : Nat) : Nat := if o = 0 then 4 else if o = 1 then 12 else if o = 2 ∨ o = 3 then 104 else if o = 4 then 106 else if o < 8 then 0 else if o % 8 = 0 then 6 else if o % 8 = 1 then 104 else if o % 8 = 2 then 11 else 1
def kS (r : Nat) : Nat := if r = 10 then 8 else if r = 11 ∨ r = 12 then 108 else if 13 ≤ r ∧ r ≤ 16 then 140 else if r = 17 ∨ r = 19 then 104 else if r = 18 ∨ r = 27 then 106 else if 20 ≤ r ∧ r ≤ 23 then 108 else if r = 24 then 356 else if r = 25 ∨ r = 26 then 108 else if r = 31 then 132 else if r = 35 then 482 else if r = 36 then 15 else if r = 100 then 7 else if r = 110 then 3 else if 111 ≤ r ∧ r ≤ 120 then 108 else if r = 130 then 5 else if 131 ≤ r ∧ r ≤ 133 then 356 else if r = 140 then 2 else if r = 141 then 106 else if r = 142 then 14 else if 143 ≤ r ∧ r ≤ 146 then 108 else if r = 150 then 13 else 0
def KF (r : Nat) : Nat := if 200 ≤ r ∧ r < 272 then kP (r - 200) else if 300 ≤ r ∧ r < 372 then kP (r - 300) else if 400 ≤ r ∧ r < 472 then kP (r - 400) else kS r
def KK (ad : Nat → Nat) (z r : Nat) : Nat := if ad r < z then KF r else 0
def AI (ad : Nat → Nat) : Prop := ∀ r q, KF r ≠ 0 → KF q ≠ 0 → ad r = ad q → r = q
theorem kkf {ad : Nat → Nat} {z r k : Nat} (h : ad r < z) (hk : KF r = k) : KK ad z r = k := by unfold KK; rw [if_pos h]; exact hk
theorem kk0 {ad : Nat → Nat} {z r : Nat} (h : KK ad z r ≠ 0) : ad r < z ∧ KF r ≠ 0 := by
  unfold KK at h
  by_cases q : ad r < z
  · rw [if_pos q] at h; exact ⟨q, h⟩
  · rw [if_neg q] at h; exact absurd rfl h
def AOA (U : State) : Prop := (Cond.arrayOver (.array .int)).before #[] U = true
theorem AOA.moved {u U : State} (hvm : u.vm.Alike U.vm) (h : AOA u) : AOA U := Jvm.Stand.arrayOver_alikeB hvm h
def FRc (E : En) (H : Heap) : Prop := ∃ cell : Cell, H[E.2.2.1 0]? = some cell ∧ cell.cls = E.2.1 0 ∧ (∀ k, cell.vm ≠ .statics k) ∧ cell.vm ≠ .unknown ∧ cell.slots.size = 4 ∧ (∀ j : Nat, j < 4 → cell.slots[j]? = some (.int (stV 0 j))) ∧ ¬ AG E (E.2.2.1 0)
theorem FRc.kept {E : En} {H0 H : Heap} {locs : List Loc} (h : FRc E H0) (hS : va_S (AG E) H0 H locs) : FRc E H := by
  obtain ⟨cell, h1, h2⟩ := h
  exact ⟨cell, by rw [hS.2.1 _ (Array.getElem?_eq_some_iff.mp h1).1 h2.2.2.2.2.2]; exact h1, h2⟩
def XF (E : En) (U : State) : Prop := AOA U ∧ FRc E U.heap
def sL (L : Nat → Nat → Bool) (r k : Nat) : Nat → Nat → Bool := fun a j => if a = r ∧ j = k then true else L a j
theorem sL_s (L : Nat → Nat → Bool) (r k : Nat) : sL L r k r k = true := by simp [sL]
theorem sL_k {L : Nat → Nat → Bool} {r k a j : Nat} (h : j ≠ k) : sL L r k a j = L a j := by simp [sL, h]
theorem sL_r {L : Nat → Nat → Bool} {r k a : Nat} (h : a ≠ r) : sL L r k a = L a := by funext j; simp [sL, h]
def sR (I : Mem) (r : Nat) (f : Nat → Int32) : Mem := fun a => if a = r then f else I a
theorem sR_s (I : Mem) (r : Nat) (f : Nat → Int32) : sR I r f r = f := by simp [sR]
theorem sR_r {I : Mem} {r a : Nat} {f : Nat → Int32} (h : a ≠ r) : sR I r f a = I a := by simp [sR, h]
theorem wE_congK {cy : Nat → ClassId} {K K' : Nat → Nat} {L : Nat → Nat → Bool} {ad : Nat → Nat} {I : Nat → Nat → Int32} {r : Nat} (h : K' r = K r) : wE cy K' L ad I r = wE cy K L ad I r := by simp only [wE, h]
theorem Hp.grow {E : En} {ad : Nat → Nat} {L L' : Nat → Nat → Bool} {I I' : Mem} {H H1 : Heap} {z n : Nat} (h : Hp E (KK ad z) L ad I H) (hz : H.size = z) (hai : AI ad) (z1 : H1.size = z + n) (o1 : ∀ q : Nat, q < z → H1[q]? = H[q]?) (hL : ∀ a, KF a ≠ 0 → ad a < z → L' a = L a) (hI : ∀ a, KF a ≠ 0 → ad a < z → I' a = I a)
    (hnew : ∀ r, KF r ≠ 0 → z ≤ ad r → ad r < z + n → va_at E.1 classes (ad r, wE E.2.1 (KK ad (z + n)) L' ad I' r) H1) : Hp E (KK ad (z + n)) L' ad I' H1 := by
  refine ⟨fun a ha => ?_, fun a ha => ?_, fun a b ha hb e => hai a b (kk0 ha).2 (kk0 hb).2 e, by rw [z1]; have := h.2.2.2; omega⟩
  · obtain ⟨h1, h2⟩ := kk0 ha
    by_cases q : ad a < z
    · have e : KK ad (z + n) a = KK ad z a := by unfold KK; rw [if_pos q, if_pos h1]
      rw [wE_cong (hI a h2 q) (hL a h2 q), wE_congK e]
      exact (h.1 a (by rw [← e]; exact ha)).kept (o1 _ q)
    · exact hnew a h2 (by omega) h1
  · obtain ⟨h1, h2⟩ := kk0 ha
    by_cases q : ad a < z
    · exact h.2.1 a (by unfold KK; rw [if_pos q]; exact h2)
    · have := h.2.2.2; omega
theorem va_S.grow {A : Nat → Prop} {H0 H H1 : Heap} {locs : List Loc} (h : va_S A H0 H locs) (z1 : H.size ≤ H1.size) (o1 : ∀ q : Nat, q < H.size → H1[q]? = H[q]?) : va_S A H0 H1 locs := ⟨Nat.le_trans h.1 z1, fun x h1 h2 => (o1 x (Nat.lt_of_lt_of_le h1 h.1)).trans (h.2.1 x h1 h2), h.2.2⟩
/-- room of a constructor -/
def rmc (k mc ms : Nat) : Room := { frames := k, cells := mc, slots := ms, locals := 26 * k }
def PcK (E : En) (ad : Nat → Nat) (z : Nat) (L : Nat → Nat → Bool) (I : Mem) (av : List Value) : Array Value → State → Prop := va_Pc av (fun U => (Hp E (KK ad z) L ad I U.heap ∧ U.heap.size = z) ∧ Vp E U ∧ XF E U)
theorem PcK.blind {E : En} {ad : Nat → Nat} {z : Nat} {L : Nat → Nat → Bool} {I : Mem} {av : List Value} : FrameBlind (PcK E ad z L I av) := fun _ U g mk h => ⟨h.1, h.2.1, h.2.2.1.calling g mk _, AOA.moved (U := U.calling g mk _) (State.WarmedH.refl U).alike h.2.2.2.1, h.2.2.2.2⟩
def MK (l : Launch) (E : En) (ad : Nat → Nat) (z : Nat) (L : Nat → Nat → Bool) (I : Mem) (y : MethodName) (b : ByteArray) (n k mc ms : Nat) (av : List Value) (post : (Nat → Nat → Bool) → Mem → Prop) : Prop :=
  Met l y (.code y b n none :: TB) (rmc k mc ms) (PcK E ad z L I av) (va_Qv (S := (Nat → Nat → Bool) × Mem) (fun u => post u.1 u.2) (fun u t => Hp E (KK ad (z + mc)) u.1 ad u.2 t.heap ∧ t.heap.size = z + mc) (AG E)) mc ms (AG E)
section RG
variable {p : Program} {l : Launch} {e : Env} {R : Room} {s : State} {m : MethodId} {args : Array Value} {below : List Frame} {meth : Method} {c : Code} {H : Heap} {locs : List Loc} {cells slots : Nat} {Q : State → Prop}
variable {cc : ByteArray} {pc : Nat} {ls : Array Slot} {rest : List Value} {E : En} {K : Nat → Nat} {L : Nat → Nat → Bool} {ad : Nat → Nat} {I : Nat → Nat → Int32} {r z : Nat} {own : String} {nL : Nat}
theorem MK.of {y : MethodName} {n k mc ms : Nat} {av : List Value} {post : (Nat → Nat → Bool) → Mem → Prop} (hy : plainName y.cls = true) (hyn : y.name = "<init>") (hlen : (lg_sl av).length ≤ n)
    (body : ∀ (p : Program) (e : Env) (s : State) (m : MethodId) (args : Array Value) (below : List Frame) (meth : Method) (c : Code) (ls : Array Slot) (Qf : State → Prop), Cx E p s m args c cc y.cls n → meth.name = "<init>" → XF E s →
      (∀ (pc : Nat) (ls : Array Slot) (H : Heap) (locs : List Loc) (L' : Nat → Nat → Bool) (J : Nat → Nat → Int32), decode cc pc = .ok (.return_, 1) → Hp E (KK ad (z + mc)) L' ad J H → H.size = z + mc → va_S (AG E) s.heap H locs → post L' J → W p l e (rmc k mc ms) s m args below meth c H locs mc ms Qf (F0 m pc ls [])) →
      Hp E (KK ad z) L ad I s.heap → s.heap.size = z → lv_has ls n (lv_args 0 av) → W p l e (rmc k mc ms) s m args below meth c s.heap [] 0 0 Qf (F0 m 0 ls [])) : MK l E ad z L I y cc n k mc ms av post := by
  refine Met.ofW (cc := cc) (maxL := n) (ret := none) hy rfl ?_
  intro p e s m args below meth c s₁ B hml hv
  obtain ⟨rfl, ⟨hP, hz⟩, hV, hX⟩ := hv
  have hts := atoms_spec (ws := Cond.code y cc n none :: TB) B.pre
  have C : Cx E p s m av.toArray c cc y.cls n := ⟨B.exec, B.bytes, fun w hw => hts w (List.mem_cons_of_mem _ hw), findClass_of_methodNamed B.named, hV, hml⟩
  have hin : meth.name = "<init>" := (name_of_methodNamed B.named B.method).1.trans hyn
  rw [lg_entry_eq]
  exact body p e s m _ below meth c _ _ C hin hX (fun pc ls H locs L' J hd hP hz hS h => W.vret C.1 C.2.1 B.returns (fun t ht _ => ⟨⟨(L', J), rfl, h, by show Hp E (KK ad (z + mc)) L' ad J t.heap; rw [ht]; exact hP, by rw [ht]; exact hz⟩, hS.F ht⟩) hS.2.2 hd B.notSynchronized) hP hz (lv_entry av hlen)
theorem PcK.of (C : Cx E p s m args c cc own nL) (hX : XF E s) (hP : Hp E (KK ad z) L ad I H) (hz : H.size = z) (hS : va_S (AG E) s.heap H locs) (av : List Value) : ∀ U : State, U.heap = H → s.WarmedH U.vm → PcK E ad z L I av av.toArray U := fun U hU hW => ⟨rfl, ⟨by rw [hU]; exact hP, by rw [hU]; exact hz⟩, C.2.2.2.2.1.to hS hU hW, hX.1.moved hW.alike, by rw [hU]; exact hX.2.kept hS⟩
theorem gc_new (C : Cx E p s m args c cc own nL) (hP : Hp E (KK ad z) L ad I H) (hz : H.size = z) (hai : AI ad) (hS : va_S (AG E) s.heap H locs) {Cn : String} {T : u_T} {N ci index : Nat} {fs : List Value} (hin : ∀ w ∈ u_ws Cn T N, w ∈ TB) (ty : Nat → FieldType) (hty : ∀ k, k < N → parseFieldDescriptor (T k).2.2.1 = some (ty k)) (hcl : Cond.classLink own index Cn ∈ TB) (hinst : Cond.instantiable Cn N ∈ TB) (hini : Cond.initialized Cn ∈ TB) (hc : classes[ci]? = some (Cn, T, N)) (har : ad r = z) (hk : KF r ≠ 0) (he : wE E.2.1 (KK ad (z + 1)) L ad I r = .inr (ci, fs)) (hfs : ∀ j, j < N → defaultValue (ty j) = vp_V fs j) (hcells : cells + 1 ≤ R.cells) (hslots : slots + N ≤ R.slots) (hdg : decode cc pc = .ok (.new index, 3))
    (kk : ∀ (H1 : Heap), Hp E (KK ad (z + 1)) L ad I H1 → H1.size = z + 1 → va_S (AG E) s.heap H1 locs → W p l e R s m args below meth c H1 locs (cells + 1) (slots + N) Q (F0 m (pc + 3) ls (.ref (ad r) :: rest))) : W p l e R s m args below meth c H locs cells slots Q (F0 m pc ls rest) := by
  have hKn := C.2.2.2.2.1.1.1 ci _ hc
  refine W.newcK C.1 C.2.1 C.2.2.2.1 (C.2.2.1 _ hcl) (C.2.2.1 _ hinst) (C.2.2.1 _ hini) rfl hdg hcells hslots hKn.2.1 hz fun H1 kC hkC e1 z1 o1 => ?_
  have k2 := kk H1 (hP.grow hz hai z1 o1 (fun _ _ _ => rfl) (fun _ _ _ => rfl) (fun q hq h1 h2 => by
    have e := hai q r hq hk (by omega)
    subst e
    rw [he, har]
    exact ⟨_, hc, (u_born ty C.2.2.1 hin hKn hkC e1 hty).to hfs⟩)) z1 (hS.grow (by omega) (by rw [hz]; exact o1))
  rw [har] at k2
  exact k2
theorem gc_newa (C : Cx E p s m args c cc own nL) (hP : Hp E (KK ad z) L ad I H) (hz : H.size = z) (hai : AI ad) (hS : va_S (AG E) s.heap H locs) {N : Nat} (har : ad r = z) (hk : KF r = 100 + N) (hI : ∀ j, I r j = 0) (hN : N < 1000) (hcells : cells + 1 ≤ R.cells) (hslots : slots + N ≤ R.slots) (hdg : decode cc pc = .ok (.newarray .int, 2))
    (kk : ∀ (H1 : Heap), Hp E (KK ad (z + 1)) L ad I H1 → H1.size = z + 1 → va_S (AG E) s.heap H1 locs → W p l e R s m args below meth c H1 locs (cells + 1) (slots + N) Q (F0 m (pc + 2) ls (.ref (ad r) :: rest))) : W p l e R s m args below meth c H locs cells slots Q (F0 m pc ls (.int (nI N) :: rest)) := by
  refine va_newaK (atype := .int) C.1 C.2.1 (C.2.2.1 _ ta_int) rfl hdg rfl (nI_pos (by omega)) (nI_clamp (by omega)) (by show N * 4 ≤ _; omega) hcells hslots hz fun H1 cA e1 z1 o1 hAr hNm => ?_
  have hcA : cA = E.2.1 0 := Option.some.inj (hNm.symm.trans (C.2.2.2.2.1.1.2 0 _ rfl).2)
  have k2 := kk H1 (hP.grow hz hai z1 o1 (fun _ _ _ => rfl) (fun _ _ _ => rfl) (fun q hq h1 h2 => by
    have e := hai q r hq (by omega) (by omega)
    subst e
    rw [wE_A _ _ _ _ (kkf (by omega) hk), har]
    show H1[z]? = some (vp_cell _ _)
    rw [vp_cell_i, e1, hcA]
    congr 2
    funext j
    rw [hI]; rfl)) z1 (hS.grow (by omega) (by rw [hz]; exact o1))
  rw [har] at k2
  exact k2
theorem gc_newz (C : Cx E p s m args c cc own nL) (hP : Hp E (KK ad z) L ad I H) (hz : H.size = z) (hai : AI ad) (hS : va_S (AG E) s.heap H locs) (har : ad r = z) (hk : KF r = 15) (hI : ∀ j, I r j = 0) (hcells : cells + 1 ≤ R.cells) (hslots : slots + 2 ≤ R.slots) (hdg : decode cc pc = .ok (.newarray .boolean, 2))
    (kk : ∀ (H1 : Heap), Hp E (KK ad (z + 1)) L ad I H1 → H1.size = z + 1 → va_S (AG E) s.heap H1 locs → W p l e R s m args below meth c H1 locs (cells + 1) (slots + 2) Q (F0 m (pc + 2) ls (.ref (ad r) :: rest))) : W p l e R s m args below meth c H locs cells slots Q (F0 m pc ls (.int (nI 2) :: rest)) := by
  refine va_newaK (atype := .boolean) C.1 C.2.1 (C.2.2.1 _ ta_boolean) rfl hdg rfl (nI_pos (by omega)) (nI_clamp (by omega)) (by decide) hcells hslots hz fun H1 cA e1 z1 o1 hAr hNm => ?_
  have hcA : cA = E.2.1 1 := Option.some.inj (hNm.symm.trans (C.2.2.2.2.1.1.2 1 _ rfl).2)
  have k2 := kk H1 (hP.grow hz hai z1 o1 (fun _ _ _ => rfl) (fun _ _ _ => rfl) (fun q hq h1 h2 => by
    have e := hai q r hq (by omega) (by omega)
    subst e
    rw [wE_15 _ _ _ _ (kkf (by omega) hk), har]
    show H1[z]? = some (vp_cell _ _)
    rw [vp_cell_i, e1, hcA]
    congr 2
    funext j
    rw [hI]; rfl)) z1 (hS.grow (by omega) (by rw [hz]; exact o1))
  rw [har] at k2
  exact k2
theorem gc_anew (C : Cx E p s m args c cc own nL) (hP : Hp E (KK ad z) L ad I H) (hz : H.size = z) (hai : AI ad) (hS : va_S (AG E) s.heap H locs) {n t0 index : Nat} {C0 : String} {f : Nat → Option Nat} (har : ad r = z) (hk : KF r ≠ 0) (he : wE E.2.1 (KK ad (z + 1)) L ad I r = .inl (E.2.1 t0, n, .inr (.inr (.inr (.inr f))))) (hf : ∀ j, f j = none) (ht : (tysG E.2.1)[t0]? = some (E.2.1 t0, .object C0)) (hclink : Cond.classLink own index C0 ∈ TB) (hover : Cond.arrayOver (.object C0) ∈ lw_tbl) (hn : n < 1000) (hcells : cells + 1 ≤ R.cells) (hslots : slots + n ≤ R.slots) (hdg : decode cc pc = .ok (.anewarray index, 3))
    (kk : ∀ (H1 : Heap), Hp E (KK ad (z + 1)) L ad I H1 → H1.size = z + 1 → va_S (AG E) s.heap H1 locs → W p l e R s m args below meth c H1 locs (cells + 1) (slots + n) Q (F0 m (pc + 3) ls (.ref (ad r) :: rest))) : W p l e R s m args below meth c H locs cells slots Q (F0 m pc ls (.int (nI n) :: rest)) := by
  have hcl : (nI n).toNatClampNeg = n := nI_clamp (by omega)
  refine W.anew C.1 C.2.1 C.2.2.2.1 (C.2.2.1 _ hclink) (va_AO.use (C.2.2.2.2.1.2.1.2.2.2 C0 hover)) rfl hdg rfl (nI_pos (by omega)) (by rw [hcl]; omega) hcells (by rw [hcl]; exact hslots) fun cA kA comp f1 f2 f3 f4 => ?_
  rw [hcl]
  generalize hH1 : H.push ({ cls := cA, slots := Array.replicate n .null, vm := .none } : Cell) = H1
  have z1 : H1.size = z + 1 := by rw [← hH1, Array.size_push, hz]
  have e1 : H1[z]? = some (arrV cA n (fun _ => .null)) := by rw [← hH1, ← hz, Array.getElem?_push_size, ← arrV_new]
  have o1 : ∀ q : Nat, q < z → H1[q]? = H[q]? := fun q hq => by rw [← hH1, Array.getElem?_push, if_neg (by omega)]
  obtain ⟨-, -, -, -, -, g4⟩ := (C.2.2.2.2.1.1.2 t0 _ ht).2
  have hcA : cA = E.2.1 t0 := Option.some.inj (f1.symm.trans g4)
  have k2 := kk H1 (hP.grow hz hai z1 o1 (fun _ _ _ => rfl) (fun _ _ _ => rfl) (fun q hq h1 h2 => by
    have e := hai q r hq hk (by omega)
    subst e
    rw [he, har]
    show H1[z]? = some (vp_cell _ _)
    rw [vp_cell_q, e1, hcA]
    congr 2
    funext j
    rw [hf]; rfl)) z1 (hS.grow (by omega) (by rw [hz]; exact o1))
  rw [har, ← hz] at k2
  exact k2

theorem cg_put (C : Cx E p s m args c cc own nL) (hP : Hp E K L ad I H) (hS0 : va_S (AG E) s.heap H locs) {ref Cn : String} {T : u_T} {N ci index k : Nat} {fs : List Value} {v : Value} {L' : Nat → Nat → Bool} {I' : Nat → Nat → Int32} (hr : K r ≠ 0) (he : wE E.2.1 K L ad I r = .inr (ci, fs)) (hin : ∀ w ∈ u_ws Cn T N, w ∈ TB) (ty0 : Nat → FieldType) (hty : ∀ k, k < N → parseFieldDescriptor (T k).2.2.1 = some (ty0 k)) (hnm : ∀ a, a < N → ∀ b, b < N → a ≠ b → (T a).2.1 ≠ (T b).2.1) (hc : classes[ci]? = some (Cn, T, N)) (hk : k < N) (hlink : Cond.fieldLink own index ref (T k).2.1 (T k).2.2.1 ∈ TB) (href : ref = (T k).1) (hfin : (T k).2.2.2 = false) {ty : FieldType} (hd : parseFieldDescriptor (T k).2.2.1 = some ty) (hn : narrow ty v = v) (hfit : fits ty v = true) (hl : k < fs.length)
    (he' : wE E.2.1 K L' ad I' r = .inr (ci, fs.set k v)) (hI : ∀ a, a ≠ r → I' a = I a) (hL : ∀ a, a ≠ r → L' a = L a) (hdg : decode cc pc = .ok (.putfield index, 3))
    (kk : ∀ (H1 : Heap) (locs1 : List Loc), H1.size = H.size → Hp E K L' ad I' H1 → va_S (AG E) s.heap H1 locs1 → W p l e R s m args below meth c H1 locs1 cells slots Q (F0 m (pc + 3) ls rest)) : W p l e R s m args below meth c H locs cells slots Q (F0 m pc ls (v :: .ref (ad r) :: rest)) := by
  have hts := C.2.2.1
  have hK := C.2.2.2.2.1.1
  have hap := va_apart (own := own) hts hin ty0 hty hnm hK hc
  obtain ⟨q, h1, cell, q1, q2, q3, q4⟩ := (hP.one hr he) 0 _ rfl
  have hq : q = (Cn, T, N) := Option.some.inj (h1.symm.trans hc)
  subst hq
  obtain ⟨hS, hfc, kC, hkC, hkind⟩ := hK.1 ci _ hc
  obtain ⟨cf, kf, fi, f, hi, hsl⟩ := hS k hk
  have hlay := hts _ (hin _ (u_in_lay hk))
  unfold u_lay at hlay
  rw [if_neg (by rw [hfin]; decide)] at hlay
  have hst := (u_facts hfc hkC (u_lays hts hin hk) hi).1
  have h6 := u_store hfc hkC hkind hlay hi hd hn hfit
  refine W.putK C.1 C.2.1 (f := f) ⟨C.2.2.2.1, hts _ hlink, ⟨_, _, _, by rw [href]; exact hi⟩, hst⟩ (by rw [q2]; exact h6) q1 q3 (by rw [hsl]; exact k2_hasslot (q4 k hk)) rfl rfl hdg fun H' e1 e2 e3 => ?_
  rw [hsl] at e1 ⊢
  refine kk H' _ e2 (hP.set hr e2 e3 ?_ hI hL) (hS0.put e2 e3 (hP.2.1 r hr))
  rw [he']
  exact ⟨_, hc, t_OB.to (V := updV (vp_V fs) k v) ⟨_, e1, q2, q3, t_set q4 hap hk v⟩ (fun j _ => vp_updV_set hl v j)⟩
theorem cg_putF (C : Cx E p s m args c cc own nL) (hP : Hp E K L ad I H) (hS0 : va_S (AG E) s.heap H locs) {ref Cn : String} {T : u_T} {N ci index k : Nat} {fs : List Value} {v : Value} {L' : Nat → Nat → Bool} {I' : Nat → Nat → Int32} (hr : K r ≠ 0) (he : wE E.2.1 K L ad I r = .inr (ci, fs)) (hin : ∀ w ∈ u_ws Cn T N, w ∈ TB) (ty0 : Nat → FieldType) (hty : ∀ k, k < N → parseFieldDescriptor (T k).2.2.1 = some (ty0 k)) (hnm : ∀ a, a < N → ∀ b, b < N → a ≠ b → (T a).2.1 ≠ (T b).2.1) (hc : classes[ci]? = some (Cn, T, N)) (hk : k < N) (hlink : Cond.fieldLink own index ref (T k).2.1 (T k).2.2.1 ∈ TB) (href : ref = (T k).1) (hfin : (T k).2.2.2 = true) (hin2 : meth.name = "<init>") (hdecl : (T k).1 = own) {ty : FieldType} (hd : parseFieldDescriptor (T k).2.2.1 = some ty) (hn : narrow ty v = v) (hfit : fits ty v = true) (hl : k < fs.length)
    (he' : wE E.2.1 K L' ad I' r = .inr (ci, fs.set k v)) (hI : ∀ a, a ≠ r → I' a = I a) (hL : ∀ a, a ≠ r → L' a = L a) (hdg : decode cc pc = .ok (.putfield index, 3))
    (kk : ∀ (H1 : Heap) (locs1 : List Loc), H1.size = H.size → Hp E K L' ad I' H1 → va_S (AG E) s.heap H1 locs1 → W p l e R s m args below meth c H1 locs1 cells slots Q (F0 m (pc + 3) ls rest)) : W p l e R s m args below meth c H locs cells slots Q (F0 m pc ls (v :: .ref (ad r) :: rest)) := by
  have hts := C.2.2.1
  have hK := C.2.2.2.2.1.1
  have hap := va_apart (own := own) hts hin ty0 hty hnm hK hc
  obtain ⟨q, h1, cell, q1, q2, q3, q4⟩ := (hP.one hr he) 0 _ rfl
  have hq : q = (Cn, T, N) := Option.some.inj (h1.symm.trans hc)
  subst hq
  obtain ⟨hS, hfc, kC, hkC, hkind⟩ := hK.1 ci _ hc
  obtain ⟨cf, kf, fi, f, hi, hsl⟩ := hS k hk
  have hlay := hts _ (hin _ (u_in_lay hk))
  unfold u_lay at hlay
  rw [if_pos hfin] at hlay
  have hst := (u_facts hfc hkC (u_lays hts hin hk) hi).1
  have hcf : m.cls = cf := by
    obtain ⟨_, _, c', _, _, _, -, -, hf', -, -, -, hown2, -⟩ := Cond.laysFinal_spec hlay
    have e1 : c' = cf := by have := hi.symm.trans hf'; simp at this; exact this.1.symm
    rw [hdecl] at hown2
    rw [← e1]; exact Option.some.inj (C.2.2.2.1.symm.trans hown2)
  have h6 := u_fits hfc hkC hkind (Or.inr hlay) hi hd hn hfit
  refine W.putFinK C.1 C.2.1 C.2.2.2.1 (hts _ hlink) (by rw [href]; exact hi) hst hcf hin2 (by rw [q2]; exact h6) q1 q3 (by rw [hsl]; exact k2_hasslot (q4 k hk)) rfl rfl hdg fun H' e1 e2 e3 => ?_
  rw [hsl] at e1 ⊢
  refine kk H' _ e2 (hP.set hr e2 e3 ?_ hI hL) (hS0.put e2 e3 (hP.2.1 r hr))
  rw [he']
  exact ⟨_, hc, t_OB.to (V := updV (vp_V fs) k v) ⟨_, e1, q2, q3, t_set q4 hap hk v⟩ (fun j _ => vp_updV_set hl v j)⟩
theorem cr_iast (C : Cx E p s m args c cc own nL) (hP : Hp E K L ad I H) (hS : va_S (AG E) s.heap H locs) {n j : Nat} {x : Int32} (hr : K r = 100 + n) (hj : j < n) (hn : n < 2 ^ 31) (hdg : decode cc pc = .ok (.iastore, 1))
    (kk : ∀ (H1 : Heap) (locs1 : List Loc), H1.size = H.size → Hp E K L ad (up2 I r j x) H1 → va_S (AG E) s.heap H1 locs1 → W p l e R s m args below meth c H1 locs1 cells slots Q (F0 m (pc + 1) ls rest)) : W p l e R s m args below meth c H locs cells slots Q (F0 m pc ls (.int x :: .int (nI j) :: .ref (ad r) :: rest)) := by
  have hr0 : K r ≠ 0 := by omega
  have hc := (hP.one hr0 (wE_A _ _ _ _ hr)) 0 _ rfl
  refine W.iast C.1 C.2.1 hc ((C.2.2.2.2.1.1.2 0 _ rfl).1 n (fun i => .int (I r i))) (fun q => by cases q) (by show ¬ (nI j < 0 ∨ (arrV _ _ _).slots.size ≤ _); rw [arrV_size]; exact vp_in_nI hj hn) rfl rfl hdg fun H1 e1 z9 oq => ?_
  refine kk H1 _ z9 (hP.set (I' := up2 I r j x) hr0 z9 oq ?_ (fun a ha => up2_r ha) (fun _ _ => rfl)) (hS.put z9 oq (hP.2.1 r hr0))
  rw [wE_A _ _ _ _ hr]
  show H1[ad r]? = some (vp_cell _ _)
  rw [e1, vp_cell_i, vp_cell_i, arrV_store, nI_clamp (by omega), up2_at]
  congr 2
  funext q
  by_cases hq : q = j
  · subst hq; simp [updV, upd]
  · simp [updV, upd, hq]
theorem cr_aast (C : Cx E p s m args c cc own nL) (hP : Hp E K L ad I H) (hS : va_S (AG E) s.heap H locs) {j t0 n q ci : Nat} {cA : ClassId} {f : Nat → Option Nat} {vs : List Value} {rc : vw_C} {L' : Nat → Nat → Bool} {I' : Nat → Nat → Int32} (hr : K r ≠ 0) (he : wE E.2.1 K L ad I r = .inl (cA, n, .inr (.inr (.inr (.inr f))))) (ht : (tysG E.2.1)[t0]? = some (cA, .object rc.1)) (hq : K q ≠ 0) (hv : wE E.2.1 K L ad I q = .inr (ci, vs)) (hc : classes[ci]? = some rc) (hj : j < n) (hn : n < 2 ^ 31)
    (he' : wE E.2.1 K L' ad I' r = .inl (cA, n, .inr (.inr (.inr (.inr (va_up f j (some (ad q)))))))) (hI : ∀ a, a ≠ r → I' a = I a) (hL : ∀ a, a ≠ r → L' a = L a) (hdg : decode cc pc = .ok (.aastore, 1))
    (kk : ∀ (H1 : Heap) (locs1 : List Loc), H1.size = H.size → Hp E K L' ad I' H1 → va_S (AG E) s.heap H1 locs1 → W p l e R s m args below meth c H1 locs1 cells slots Q (F0 m (pc + 1) ls rest)) : W p l e R s m args below meth c H locs cells slots Q (F0 m pc ls (.ref (ad q) :: .int (nI j) :: .ref (ad r) :: rest)) := by
  obtain ⟨r', hr', cellV, g1, g2, g3, -⟩ := (hP.one hq hv) 0 _ rfl
  have hK := C.2.2.2.2.1.1
  have hcls := (hK.1 ci rc hc).2
  obtain ⟨kA, comp, k1, k2, k3, -⟩ := (hK.2 t0 _ ht).2
  have hcomp : comp = E.1.1 ci := Option.some.inj (k3.symm.trans hcls.1)
  subst hcomp
  obtain ⟨kC, hkC, -⟩ := hcls.2
  have hcl : (nI j).toNatClampNeg = j := nI_clamp (by omega)
  refine W.aast C.1 C.2.1 ((hP.one hr he) 0 _ rfl) (fun q h => by cases h) (fun h => by cases h) k1 k2 rfl hkC ⟨nI_pos (by omega), by show _ < (arrV _ _ _).slots.size; rw [arrV_size, hcl]; exact hj⟩ g1 (fun q h => by rw [g3] at h; cases h) (by rw [g2]; exact hkC) (by rw [g2]; exact va_assign hcls) rfl rfl hdg fun H1 e1 z9 oq => ?_
  refine kk H1 _ z9 (hP.set hr z9 oq ?_ hI hL) (hS.put z9 oq (hP.2.1 r hr))
  rw [he']
  show H1[ad r]? = some (vp_cell _ _)
  rw [e1, vp_cell_q, vp_cell_q, arrV_store, hcl]
  congr 2
  funext q
  by_cases hq : q = j
  · subst hq; simp [updV, va_up, va_rf]
  · simp [updV, va_up, hq]
theorem gc_call {y : MethodName} {b : ByteArray} {n k mc ms idx : Nat} {post : (Nat → Nat → Bool) → Mem → Prop} (C : Cx E p s m args c cc own nL) (hX : XF E s) (hP : Hp E (KK ad z) L ad I H) (hz : H.size = z) (hS : va_S (AG E) s.heap H locs)
    (h1 : Cond.methodLink own idx y ∈ TB) (h2 : Cond.instanceMethod y ∈ TB) (h4 : Cond.initialized y.cls ∈ TB) (h5 : Cond.code y b n none ∈ TB) (hy : y.name = "<init>") (hd : y.cls ≠ "java/lang/invoke/MethodHandle" ∧ y.cls ≠ "java/lang/invoke/VarHandle" ∧ (parseMethodDescriptor y.desc).map (fun d => d.parameters.length) = some 0)
    (hM : MK l E ad z L I y b n k mc ms [.ref (ad r)] post) (hR : k + 1 ≤ R.frames ∧ 8 + (n + 11) + 26 * k ≤ R.locals) (hcells : cells + mc ≤ R.cells ∧ slots + ms ≤ R.slots) (hls : ls.size = nL) (hroom : (rest.map fun v => v.category).sum ≤ 8) (hdg : decode cc pc = .ok (.invokespecial idx, 3))
    (kk : ∀ (L' : Nat → Nat → Bool) (J : Nat → Nat → Int32) (H1 : Heap) (locs1 : List Loc), post L' J → Hp E (KK ad (z + mc)) L' ad J H1 → H1.size = z + mc → va_S (AG E) s.heap H1 locs1 → W p l e R s m args below meth c H1 locs1 (cells + mc) (slots + ms) Q (F0 m (pc + 3) ls rest)) : W p l e R s m args below meth c H locs cells slots Q (F0 m pc ls (.ref (ad r) :: rest)) := by
  refine va_callv (va_runI (Ts := TB) (As := []) (rest := rest) ⟨C.1, C.2.1, C.2.2.2.2.2, C.2.2.2.1, C.2.2.1⟩ hM (cwI 0 C.2.2.1 (gd_tb (fun w hw => ?_)) rfl rfl rfl (C.2.2.1 _ h4) (C.2.2.1 _ h1) (C.2.2.1 _ h2) hy hd hR) ⟨PcK.blind, PcK.of C hX hP hz hS _⟩ rfl rfl hls rfl (lv_room hroom) hdg hcells) hS (fun q _ h => h) (fun q h => h) (fun u t H1 locs1 ht hvm hw hB _ _ hS1 => kk u.1 u.2 H1 locs1 hw (by rw [← ht]; exact hB.1) (by rw [← ht]; exact hB.2) hS1)
  rcases List.mem_cons.mp hw with rfl | h
  · exact h5
  · exact h
theorem gc_callN {y : MethodName} {b : ByteArray} {n k mc ms idx : Nat} {host : String} {post : (Nat → Nat → Bool) → Mem → Prop} (C : Cx E p s m args c cc own nL) (hX : XF E s) (hP : Hp E (KK ad z) L ad I H) (hz : H.size = z) (hS : va_S (AG E) s.heap H locs)
    (h1 : Cond.methodLinkNest own idx y host ∈ lw_tbl) (h2 : Cond.instanceMethod y ∈ TB) (h4 : Cond.initialized y.cls ∈ TB) (h5 : Cond.code y b n none ∈ TB) (hy : y.name = "<init>") (hd : y.cls ≠ "java/lang/invoke/MethodHandle" ∧ y.cls ≠ "java/lang/invoke/VarHandle" ∧ (parseMethodDescriptor y.desc).map (fun d => d.parameters.length) = some 0)
    (hM : MK l E ad z L I y b n k mc ms [.ref (ad r)] post) (hR : k + 1 ≤ R.frames ∧ 8 + (n + 11) + 26 * k ≤ R.locals) (hcells : cells + mc ≤ R.cells ∧ slots + ms ≤ R.slots) (hls : ls.size = nL) (hroom : (rest.map fun v => v.category).sum ≤ 8) (hdg : decode cc pc = .ok (.invokespecial idx, 3))
    (kk : ∀ (L' : Nat → Nat → Bool) (J : Nat → Nat → Int32) (H1 : Heap) (locs1 : List Loc), post L' J → Hp E (KK ad (z + mc)) L' ad J H1 → H1.size = z + mc → va_S (AG E) s.heap H1 locs1 → W p l e R s m args below meth c H1 locs1 (cells + mc) (slots + ms) Q (F0 m (pc + 3) ls rest)) : W p l e R s m args below meth c H locs cells slots Q (F0 m pc ls (.ref (ad r) :: rest)) := by
  refine va_callv (va_runIN (Ts := TB) (As := []) (rest := rest) ⟨C.1, C.2.1, C.2.2.2.2.2, C.2.2.2.1, C.2.2.1⟩ hM ⟨va_cnB 0 C.2.2.1 (gd_tb (fun w hw => ?_)) rfl rfl rfl (C.2.2.2.2.1.2.1.1 _ _ _ _ h1) (C.2.2.1 _ h4) hd hR, hy, C.2.2.1 _ h2⟩ ⟨PcK.blind, PcK.of C hX hP hz hS _⟩ rfl rfl hls rfl (lv_room hroom) hdg hcells) hS (fun q _ h => h) (fun q h => h) (fun u t H1 locs1 ht hvm hw hB _ _ hS1 => kk u.1 u.2 H1 locs1 hw (by rw [← ht]; exact hB.1) (by rw [← ht]; exact hB.2) hS1)
  rcases List.mem_cons.mp hw with rfl | h
  · exact h5
  · exact h

theorem to_i : Cond.instanceMethod Lib.objectInit ∈ TB := tb_in (List.mem_of_getElem? (i := 47) (by decide +kernel)) (by decide +kernel)
theorem to_c : Cond.code Lib.objectInit ⟨#[0xb1]⟩ 1 none ∈ TB := tb_in (List.mem_of_getElem? (i := 48) (by decide +kernel)) (by decide +kernel)
theorem ta_X0 : Cond.arrayOver (.object RX0) ∈ lw_tbl := List.mem_of_getElem? (i := 72) (by decide +kernel)
theorem ta_X3 : Cond.arrayOver (.object RX3) ∈ lw_tbl := List.mem_of_getElem? (i := 243) (by decide +kernel)
theorem ta_X5 : Cond.arrayOver (.object RX5) ∈ lw_tbl := List.mem_of_getElem? (i := 56) (by decide +kernel)
theorem ta_II : Cond.arrayOver (.array .int) ∈ lw_tbl := List.mem_of_getElem? (i := 217) (by decide +kernel)
theorem tg_FR : Cond.fieldLinkNest RX3 21 RX6 "FIRST_RULES" "[I" RX6 ∈ lw_tbl := List.mem_of_getElem? (i := 57) (by decide +kernel)
theorem tg_cast : Cond.castable "[I" "java/lang/Cloneable" ∈ lw_tbl := List.mem_of_getElem? (i := 64) (by decide +kernel)
theorem tg_ml : Cond.methodLink RX3 24 ⟨"[I", "clone", "()Ljava/lang/Object;"⟩ ∈ TB := tb_in (List.mem_of_getElem? (i := 59) (by decide +kernel)) (by decide +kernel)
theorem tg_sm : Cond.sameMethod "[I" "java/lang/Object" "clone" "()Ljava/lang/Object;" ∈ TB := tb_in (List.mem_of_getElem? (i := 60) (by decide +kernel)) (by decide +kernel)
theorem tg_nt : Cond.native ⟨"java/lang/Object", "clone", "()Ljava/lang/Object;"⟩ ∈ TB := tb_in (List.mem_of_getElem? (i := 61) (by decide +kernel)) (by decide +kernel)
theorem tg_im : Cond.instanceMethod ⟨"java/lang/Object", "clone", "()Ljava/lang/Object;"⟩ ∈ TB := tb_in (List.mem_of_getElem? (i := 62) (by decide +kernel)) (by decide +kernel)
theorem tg_se : Cond.selects "[I" ⟨"[I", "clone", "()Ljava/lang/Object;"⟩ ⟨"java/lang/Object", "clone", "()Ljava/lang/Object;"⟩ ∈ TB := tb_in (List.mem_of_getElem? (i := 63) (by decide +kernel)) (by decide +kernel)
theorem gc_clone (C : Cx E p s m args c cc RX3 nL) (hX : XF E s) (hP : Hp E (KK ad z) L ad I H) (hz : H.size = z) (hai : AI ad) (hS : va_S (AG E) s.heap H locs) (har : ad r = z) (hk : KF r = 104) (hls : ls.size = nL) (hfr : 1 ≤ R.frames) (hlo : (rest.map fun v => v.category).sum + 14 ≤ R.locals) (hcells : cells + 1 ≤ R.cells) (hslots : slots + 4 ≤ R.slots) (hdg : decode cc pc = .ok (.invokevirtual 24, 3))
    (kk : ∀ (H1 : Heap), Hp E (KK ad (z + 1)) L ad (sR I r (stV 0)) H1 → H1.size = z + 1 → va_S (AG E) s.heap H1 locs → W p l e R s m args below meth c H1 locs (cells + 1) (slots + 4) Q (F0 m (pc + 3) ls (.ref (ad r) :: rest))) : W p l e R s m args below meth c H locs cells slots Q (F0 m pc ls (.ref (E.2.2.1 0) :: rest)) := by
  obtain ⟨cell, q1, q2, q3, q4, q5, q6, -⟩ := hX.2.kept hS
  have hnm : s.vm.findClass "[I" = some cell.cls := by rw [q2]; exact va_nm_int (C.2.2.2.2.1.1.2 0 _ rfl).2
  obtain ⟨c0, t0', f1, f2, f3⟩ := Cond.castable_spec (va_Nw.use (A := args) rfl (C.2.2.2.2.1.2.1.2.2.1 _ _ tg_cast))
  cases hnm.symm.trans f1
  obtain ⟨-, kS, hkS, compS, hkindS⟩ := (C.2.2.2.2.1.1.2 0 _ rfl).1 0 (fun _ => .null)
  have hkS : s.vm.classes[cell.cls]? = some kS := by rw [q2]; exact hkS
  have hfit : ∀ (i : Nat) (v : Value), cell.slots[i]? = some v → fits .int v = true := fun i v hv => by
    have hi : i < 4 := by rw [← q5]; exact (Array.getElem?_eq_some_iff.mp hv).1
    rw [q6 i hi] at hv
    cases hv; rfl
  intro T hT X
  obtain ⟨kT, hkT, heT⟩ := X.warmed.alike.2.2 _ _ hkS
  obtain ⟨vm', X', st⟩ := X.cloneArray C.1 C.2.2.2.1 (C.2.2.1 _ tg_ml) (C.2.2.1 _ tg_sm) (C.2.2.1 _ tg_nt) (C.2.2.1 _ tg_im) (C.2.2.1 _ tg_se) (a := E.2.2.1 0) (cell := cell) (by rw [hT]; exact q1) q3 q4 hnm f2 f3
    (fun i v hv => by
      have hk' : T.vm.classes[cell.cls]? = some kT := hkT
      have hkk : kT.kind = .array compS .int := by rw [heT]; exact hkindS
      simpa [State.fitsSlot, State.slotType?, hk', hkk] using hfit i v hv)
    (g := F0 m pc ls (.ref (E.2.2.1 0) :: rest)) rfl (by rw [C.2.2.2.2.2]; exact hls) rfl (by rw [C.2.1]; exact hdg) hfr (by show 2 * 0 + _ + 14 ≤ _; omega) hcells (by rw [q5]; exact hslots) (hloader := Vm.clonesLoader_of_array hkS hkindS)
  rw [q5] at X'
  have hsl : ({ cls := cell.cls, slots := cell.slots } : Cell) = vp_cell (E.2.1 0) (4, .inl (stV 0)) := by
    rw [vp_cell_i, q2]
    unfold arrV
    congr 1
    apply Array.ext
    · rw [q5]; simp
    · intro i h1 h2
      have := q6 i (by omega)
      rw [Array.getElem?_eq_getElem h1] at this
      have e := Option.some.inj this
      rw [e]; simp
  rw [hsl] at X' st
  generalize hH1 : H.push (vp_cell (E.2.1 0) (4, .inl (stV 0))) = H1
  have z1 : H1.size = z + 1 := by rw [← hH1, Array.size_push, hz]
  have e1 : H1[z]? = some (vp_cell (E.2.1 0) (4, .inl (stV 0))) := by rw [← hH1, ← hz, Array.getElem?_push_size]
  have o1 : ∀ q : Nat, q < z → H1[q]? = H[q]? := fun q hq => by rw [← hH1, Array.getElem?_push, if_neg (by omega)]
  obtain ⟨t, b1, b2⟩ := kk H1 (hP.grow (I' := sR I r (stV 0)) hz hai z1 o1 (fun _ _ _ => rfl) (fun a _ h => sR_r (fun e => by rw [e] at h; omega)) (fun q hq h1 h2 => by
    have e := hai q r hq (by omega) (by omega)
    subst e
    rw [wE_A (n := 4) _ _ _ _ (kkf (by omega) hk), har, sR_s]
    exact e1)) z1 (hS.grow (by omega) (by rw [hz]; exact o1)) ((T.setVm vm').pushCell (vp_cell (E.2.1 0) (4, .inl (stV 0)))) (by rw [← hH1, ← hT]; rfl) X'
  refine ⟨t, st t ?_, b2⟩
  rw [har, ← hz, ← hT] at b1
  exact b1
theorem gc_cast (C : Cx E p s m args c cc RX3 nL) (hP : Hp E K L ad I H) {n : Nat} (hr : K r = 100 + n) (hdg : decode cc pc = .ok (.checkcast 25, 3))
    (kk : W p l e R s m args below meth c H locs cells slots Q (F0 m (pc + 3) ls (.ref (ad r) :: rest))) : W p l e R s m args below meth c H locs cells slots Q (F0 m pc ls (.ref (ad r) :: rest)) := by
  have hc : H[ad r]? = some (vp_cell (E.2.1 0) (n, .inl (I r))) := (hP.one (by omega) (wE_A _ _ _ _ hr)) 0 _ rfl
  have hnm : s.vm.findClass "[I" = some (E.2.1 0) := va_nm_int (C.2.2.2.2.1.1.2 0 _ rfl).2
  intro T hT X
  obtain ⟨vm', X', st⟩ := X.checkcastYes C.1 C.2.2.2.1 (C.2.2.1 _ tl_X3_25) (by rw [hT]; exact hc) rfl hnm (va_asg _ _) (g := F0 m pc ls (.ref (ad r) :: rest)) rfl rfl (by rw [C.2.1]; exact hdg)
  obtain ⟨t, a1, b1⟩ := kk (T.setVm vm') hT X'
  exact ⟨t, st t a1, b1⟩
theorem gc_gets (C : Cx E p s m args c cc RX3 nL) (hS : va_S (AG E) s.heap H locs) (hdg : decode cc pc = .ok (.getstatic 21, 3))
    (kk : W p l e R s m args below meth c H locs cells slots Q (F0 m (pc + 3) ls (.ref (E.2.2.1 0) :: rest))) : W p l e R s m args below meth c H locs cells slots Q (F0 m pc ls rest) :=
  va_getsN C.1 C.2.1 (C.2.2.2.2.1.2.2 0 (by decide)).1 hS C.2.2.2.1 (va_Nw.use (A := args) rfl (C.2.2.2.2.1.2.1.2.1 _ _ _ _ _ _ tg_FR)) (fun _ h => h) hdg kk
theorem arr2 (cA : ClassId) (N h0 : Nat) : ∀ i : Nat, Jvm.Free.Multi.outerC cA N h0 i = arrV cA N (fun j => va_rf (if j < i then some (h0 + 1 + j) else none))
  | 0 => by
    show ({ cls := cA, slots := Array.replicate N .null, vm := .none } : Cell) = _
    rw [arrV_new]
    refine congrArg (arrV cA N) (funext fun j => ?_)
    simp [va_rf]
  | i + 1 => by
    show (Jvm.Free.Multi.outerC cA N h0 i).setSlot i (.ref (h0 + 1 + i)) = _
    rw [arr2 cA N h0 i, arrV_store]
    refine congrArg (arrV cA N) (funext fun j => ?_)
    by_cases e : j = i
    · subst e
      simp [updV, va_rf]
    · by_cases h : j < i
      · simp [updV, e, h, Nat.lt_succ_of_lt h]
      · simp [updV, e, h, show ¬ j < i + 1 by omega]
def sL4 (L : Nat → Nat → Bool) : Nat → Nat → Bool := fun a j => if a = 142 ∧ j < 4 then true else L a j
theorem gc_mna (C : Cx E p s m args c cc RX1 nL) (hX : XF E s) (hP : Hp E (KK ad z) L ad I H) (hz : H.size = z) (hai : AI ad) (hS : va_S (AG E) s.heap H locs) (har : ad 142 = z) (har2 : ∀ j, j < 4 → ad (143 + j) = z + 1 + j) (hL : ∀ j, L 142 j = false) (hI : ∀ q, q < 4 → ∀ j, I (143 + q) j = 0) (hcells : cells + 5 ≤ R.cells) (hslots : slots + 36 ≤ R.slots) (hdg : decode cc pc = .ok (.multianewarray 15 2, 4))
    (kk : ∀ (H1 : Heap), Hp E (KK ad (z + 5)) (sL4 L) ad I H1 → H1.size = z + 5 → va_S (AG E) s.heap H1 locs → W p l e R s m args below meth c H1 locs (cells + 5) (slots + 36) Q (F0 m (pc + 4) ls (.ref (ad 142) :: rest))) : W p l e R s m args below meth c H locs cells slots Q (F0 m pc ls (.int (nI 8) :: .int (nI 4) :: rest)) := by
  have h4 : (nI 4).toNatClampNeg = 4 := nI_clamp (by decide)
  have h8 : (nI 8).toNatClampNeg = 8 := nI_clamp (by decide)
  intro T hT Xs
  obtain ⟨vm₁, cA, comp, -, fA, fC, hO, -, X', step⟩ := Xs.multianewarray2F (ty := .int) (n := nI 4) (k := nI 8) C.1 C.2.2.2.1 (C.2.2.1 _ tl_X1_15) (show (Cond.arrayOver (.array .int)).before args s = true from hX.1) (C.2.2.1 _ ta_int) (g := F0 m pc ls (.int (nI 8) :: .int (nI 4) :: rest)) rfl (by rw [C.2.1]; exact hdg) rfl (by decide) (by decide) (by rw [h4]; decide) (by rw [h8]; decide) (by rw [h8]; decide) rfl rfl (by rw [h4]; omega) (by rw [h4, h8]; omega)
  rw [h4, h8] at X' step
  have hcy : s.vm.findClass (FieldType.array .int).toString = some (E.2.1 0) := va_nm_int (C.2.2.2.2.1.1.2 0 _ rfl).2
  have ec : E.2.1 0 = comp := Option.some.inj (hcy.symm.trans fC)
  have ecA : cA = E.2.1 5 := Option.some.inj (fA.symm.trans (C.2.2.2.2.1.1.2 5 _ rfl).2)
  subst ec
  generalize hF : Jvm.Free.Multi.fill (T.setVm vm₁) cA (E.2.1 0) 4 8 (defaultValue .int) 4 = F at X' step
  have hTh : (T.setVm vm₁).heap = H := hT
  obtain ⟨f1, f2, -, -⟩ := Jvm.Free.Multi.fill_facts (T.setVm vm₁) cA (E.2.1 0) 4 8 (defaultValue .int) 4
  rw [hF, hTh, hz] at f1 f2
  have hold : ∀ x : Nat, x < z → F.heap[x]? = H[x]? := fun x hx => by
    have := Jvm.Free.Multi.fill_old (T.setVm vm₁) cA (E.2.1 0) 4 8 (defaultValue .int) (a := x) (by rw [hTh, hz]; exact hx) 4
    rw [hF, hTh] at this
    exact this
  have hrow : ∀ j : Nat, j < 4 → F.heap[z + 1 + j]? = some (Jvm.Free.Multi.innerC (E.2.1 0) 8 (defaultValue .int)) := fun j hj => by
    have := Jvm.Free.Multi.fill_inner (T.setVm vm₁) cA (E.2.1 0) 4 8 (defaultValue .int) 4 j hj
    rw [hF, hTh, hz] at this
    exact this
  obtain ⟨t, a1, b1⟩ := kk F.heap (hP.grow (L' := sL4 L) (n := 5) hz hai (by omega) hold (fun a _ h => by funext j; unfold sL4; rw [if_neg (fun q => by rw [q.1] at h; omega)]) (fun _ _ _ => rfl) (fun q hq g1 g2 => by
    by_cases e : ad q = z
    · have e2 := hai q 142 hq (by decide) (by omega)
      subst e2
      rw [wE_14 _ _ _ _ (kkf (by omega) rfl), har]
      show F.heap[z]? = some (vp_cell _ _)
      rw [vp_cell_q, f2, arr2, ecA]
      congr 2
      funext j
      by_cases hj : j < 4
      · rw [if_pos hj]; unfold sL4; rw [if_pos ⟨rfl, hj⟩, show 142 + 1 + j = 143 + j by omega, har2 j hj]; rfl
      · rw [if_neg hj]; unfold sL4; rw [if_neg (fun w => hj w.2), hL]; rfl
    · have hj : ad q - z - 1 < 4 := by omega
      have e2 := hai q (143 + (ad q - z - 1)) hq (by rcases (show ad q - z - 1 = 0 ∨ ad q - z - 1 = 1 ∨ ad q - z - 1 = 2 ∨ ad q - z - 1 = 3 by omega) with w | w | w | w <;> rw [w] <;> decide) (by rw [har2 _ hj]; omega)
      obtain ⟨jj, hjj⟩ : ∃ jj, jj = ad q - z - 1 := ⟨_, rfl⟩
      rw [← hjj] at hj e2
      subst e2
      have hkk : KF (143 + jj) = 100 + 8 := by rcases (show jj = 0 ∨ jj = 1 ∨ jj = 2 ∨ jj = 3 by omega) with w | w | w | w <;> rw [w] <;> decide
      rw [wE_A (n := 8) _ _ _ _ (kkf g2 hkk), har2 jj hj]
      show F.heap[z + 1 + jj]? = some (vp_cell _ _)
      rw [vp_cell_i, hrow jj hj]
      show some ({ cls := E.2.1 0, slots := Array.replicate 8 (defaultValue .int), vm := .none } : Cell) = _
      rw [arrV_new]
      congr 2
      funext i
      rw [hI jj hj]; rfl)) (by omega) (hS.grow (by rw [f1]; omega) (by rw [hz]; exact hold)) F rfl X'
  refine ⟨t, step t ?_, b1⟩
  rw [har, ← hz, ← hT] at a1
  exact a1
end RG

