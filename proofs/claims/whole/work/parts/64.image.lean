/-! an image made for the first time -/
theorem IsT_mono {K K' : Nat → Nat} {L L' : Nat → Nat → Bool} {h : Nat} (hK : ∀ r, K r ≠ 0 → K' r = K r) (hL : ∀ a, h ≤ a → a < h + 8 → L' a = L a) (H : IsT K L h) : IsT K' L' h := by
  obtain ⟨a1, a2, a3, a4, a5, a6, a7⟩ := H
  exact ⟨by rw [hK _ (by omega)]; exact a1, by rw [hL h (by omega) (by omega)]; exact a2, by rw [hL h (by omega) (by omega)]; exact a3, by rw [hK _ (by omega)]; exact a4, by rw [hK _ (by omega)]; exact a5, fun e he => by rw [hL (h + 2) (by omega) (by omega)]; exact a6 e he, fun e he => by rw [hK _ (by rw [a7 e he]; decide)]; exact a7 e he⟩
theorem IsP_mono {K K' : Nat → Nat} {L L' : Nat → Nat → Bool} {b : Nat} (hK : ∀ r, K r ≠ 0 → K' r = K r) (hL : ∀ a, b ≤ a → a < b + 72 → L' a = L a) (H : IsP K L b) : IsP K' L' b := by
  obtain ⟨a1, ⟨a2, a3, a4, a5⟩, a6, a7, a8, a9, a10, a11⟩ := H
  have e := hL b (by omega) (by omega)
  exact ⟨by rw [hK _ (by omega)]; exact a1, ⟨by rw [e]; exact a2, by rw [e]; exact a3, by rw [e]; exact a4, by rw [e]; exact a5⟩, by rw [hK _ (by omega)]; exact a6, fun t ht => by rw [hL (b + 1) (by omega) (by omega)]; exact a7 t ht, by rw [hK _ (by omega)]; exact a8, by rw [hK _ (by omega)]; exact a9, by rw [hK _ (by omega)]; exact a10, fun u hu => IsT_mono hK (fun a g1 g2 => hL a (by omega) (by omega)) (a11 u hu)⟩
theorem IsO_mono {K K' : Nat → Nat} {L L' : Nat → Nat → Bool} (hK : ∀ r, K r ≠ 0 → K' r = K r) (hL : ∀ a, a < 272 → a ≠ 150 → L' a = L a) (H : IsO K L) : IsO K' L' := by
  obtain ⟨o0, o1, o2, o3, o4, o5, hp, ⟨k0, hk⟩, ⟨q0, q1, q2, q3, q4, q5, q6⟩, ⟨x0, x1, x2, x3, x4, x5, x6⟩, o150⟩ := H
  have e := hL 100 (by decide) (by decide)
  have e3 := hL 130 (by decide) (by decide)
  have e4 := hL 140 (by decide) (by decide)
  exact ⟨by rw [hK _ (by omega)]; exact o0, by rw [e]; exact o1, by rw [e]; exact o2, by rw [e]; exact o3, by rw [e]; exact o4, by rw [e]; exact o5, IsP_mono hK (fun a g1 g2 => hL a (by omega) (by omega)) hp, ⟨by rw [hK _ (by omega)]; exact k0, fun j hj => ⟨by rw [hL 110 (by decide) (by decide)]; exact (hk j hj).1, by rw [hK _ (by rw [(hk j hj).2]; decide)]; exact (hk j hj).2⟩⟩, ⟨by rw [hK _ (by omega)]; exact q0, by rw [e3]; exact q1, by rw [e3]; exact q2, by rw [e3]; exact q3, by rw [hK _ (by omega)]; exact q4, by rw [hK _ (by omega)]; exact q5, by rw [hK _ (by omega)]; exact q6⟩, ⟨by rw [hK _ (by omega)]; exact x0, by rw [e4]; exact x1, by rw [e4]; exact x2, by rw [hK _ (by omega)]; exact x3, by rw [hK _ (by omega)]; exact x4, fun j hj => by rw [hL 142 (by decide) (by decide)]; exact x5 j hj, fun j hj => by rw [hK _ (by rw [x6 j hj]; decide)]; exact x6 j hj⟩, by rw [hK _ (by omega)]; exact o150⟩
theorem img_new {K K' : Nat → Nat} {L L' : Nat → Nat → Bool} {J J' σ : Mem} {j : Nat} (H : CR K L J σ) (hw : WF σ) (hj : j < 2) (hK : ∀ r, K r ≠ 0 → K' r = K r) (hLa : ∀ a, a ≠ 150 → ¬ (300 + 100 * j ≤ a ∧ a < 300 + 100 * j + 72) → L' a = L a) (hLb : ∀ i, i ≠ j → L' 150 i = L 150 i) (hL : L' 150 j = true) (hIP : IsP K' L' (300 + 100 * j)) (hP : PR (300 + 100 * j) J' σ) (hJ : ∀ a, ¬ (300 + 100 * j ≤ a ∧ a < 300 + 100 * j + 72) → J' a = J a) : CR K' L' J' (imU σ j) := by
  have hs : ∀ a i, ofs a i < 191 → imU σ j a i = σ a i := fun a i h => by rw [imU_lo a (by have := ofs_hi h; omega)]
  obtain ⟨p0, ⟨q1, q2⟩, ⟨c1, c2, c3⟩, ⟨p1, q, n, p2, p3, p4, p5, p6, p7⟩, im⟩ := H
  refine ⟨sig_PR hw hs (PR_hi hw (fun a g1 g2 => hJ a (by omega)) p0), ⟨by rw [hJ 132 (by omega)]; exact q1, by rw [hJ 133 (by omega)]; exact q2⟩, ⟨by rw [hJ 100 (by omega), imU_lo 10 (by decide)]; exact c1, by rw [hJ 100 (by omega), imU_lo 10 (by decide)]; exact c2, by rw [hJ 100 (by omega), imU_lo 10 (by decide)]; exact c3⟩, ⟨fun i hi => by rw [hJ 141 (by omega), imU_lo 27 (by decide)]; exact p1 i hi, q, n, p2, p3, by rw [imU_lo 10 (by decide)]; exact p4, by rw [hJ 140 (by omega)]; exact p5, by rw [hJ 140 (by omega)]; exact p6, fun r hr t ht => by rw [imU_lo 31 (by decide), hJ (143 + r) (by omega)]; exact p7 r hr t ht⟩, fun k hk => ?_⟩
  rw [imU_36]
  by_cases e : k = j
  · subst e
    rw [if_pos rfl]
    exact Or.inl ⟨rfl, hL, hIP, sig_PR hw (fun a i h => im_new h) hP, sig_WF hw (fun a i h => im_new h)⟩
  · rw [if_neg e]
    rcases im k hk with ⟨a1, a2, a3, a4, a5⟩ | ⟨b1, b2, b3⟩
    · exact Or.inl ⟨a1, by rw [hLb k e]; exact a2, IsP_mono hK (fun a g1 g2 => hLa a (by omega) (by omega)) a3, sig_PR a5 (fun a i h => im_old (Ne.symm e) h) (PR_hi a5 (fun a g1 g2 => hJ a (by omega)) a4), sig_WF a5 (fun a i h => im_old (Ne.symm e) h)⟩
    · exact Or.inr ⟨b1, by rw [hLb k e]; exact b2, fun o ho => ⟨fun i => by rw [hLa _ (by omega) (by omega)]; exact (b3 o ho).1 i, fun i => by rw [hJ _ (by omega)]; exact (b3 o ho).2 i⟩⟩
theorem IsP_new {ad : Nat → Nat} {Z b : Nat} {L L' : Nat → Nat → Bool} (hFo : ∀ o, o < 72 → KF (b + o) = kP o) (had : ∀ o, o < 72 → kP o ≠ 0 → ad (b + o) < Z) (hL : ∀ a, b ≤ a → a < b + 72 → L' a = Lpg L b 8 a) : IsP (KK ad Z) L' b := by
  have kk : ∀ o, o < 72 → kP o ≠ 0 → KK ad Z (b + o) = kP o := fun o h1 h2 => kkf (had o h1 h2) (hFo o h1)
  have e0 : ∀ i, 1 ≤ i → i ≤ 4 → L' b i = true := fun i h1 h2 => by rw [hL b (by omega) (by omega)]; unfold Lpg; rw [if_pos (by omega)]
  refine ⟨kk 0 (by decide) (by decide), ⟨e0 1 (by decide) (by decide), e0 2 (by decide) (by decide), e0 3 (by decide) (by decide), e0 4 (by decide) (by decide)⟩, kk 1 (by decide) (by decide), fun t ht => by rw [hL (b + 1) (by omega) (by omega)]; unfold Lpg; rw [if_pos (by omega)], kk 2 (by decide) (by decide), kk 3 (by decide) (by decide), kk 4 (by decide) (by decide), fun u hu => ?_⟩
  obtain ⟨k6, k1, k2, k3⟩ := kP_t u hu
  refine ⟨?_, ?_, ?_, ?_, ?_, fun e he => ?_, fun e he => ?_⟩
  · rw [show b + 8 + 8 * u = b + (8 + 8 * u) by omega, kk _ (by omega) (by rw [k6]; decide)]; exact k6
  · rw [hL _ (by omega) (by omega)]; unfold Lpg; rw [if_pos (by omega)]
  · rw [hL _ (by omega) (by omega)]; unfold Lpg; rw [if_pos (by omega)]
  · rw [show b + 8 + 8 * u + 1 = b + (8 + 8 * u + 1) by omega, kk _ (by omega) (by rw [k1]; decide)]; exact k1
  · rw [show b + 8 + 8 * u + 2 = b + (8 + 8 * u + 2) by omega, kk _ (by omega) (by rw [k2]; decide)]; exact k2
  · rw [hL _ (by omega) (by omega)]; unfold Lpg; rw [if_pos (by omega)]
  · rw [show b + 8 + 8 * u + 3 + e = b + (8 + 8 * u + 3 + e) by omega, kk _ (by omega) (by rw [k3 e he]; decide)]; exact k3 e he
theorem PM_new (I : Mem) (b : Nat) : PM (IP I b 8) b := by
  have e : ∀ t, t < 8 → IP I b 8 (b + 1) t = nI t := fun t ht => by unfold IP; rw [if_pos rfl, if_pos ht]
  refine ⟨fun t ht => by rw [e t ht, nI_clamp (by omega)]; exact ⟨rfl, ht⟩, fun t u ht hu h => ?_⟩
  rw [e t ht, e u hu] at h
  exact (nI_eq (by omega) (by omega)).mp h
theorem W.sz {p : Program} {l : Launch} {e : Env} {R : Room} {s : State} {m : MethodId} {args : Array Value} {below : List Frame} {meth : Method} {c : Code} {H : Heap} {locs : List Loc} {cells slots : Nat} {Q : State → Prop} {g : JFrame} (k : H.size ≤ s.heap.size + cells → W p l e R s m args below meth c H locs cells slots Q g) : W p l e R s m args below meth c H locs cells slots Q g := fun T hT X => k (by rw [← hT]; exact X.heapSize) T hT X
theorem KK_mono {ad : Nat → Nat} {z n : Nat} : ∀ r, KK ad z r ≠ 0 → KK ad (z + n) r = KK ad z r := fun r h => by
  obtain ⟨h1, h2⟩ := kk0 h
  unfold KK; rw [if_pos h1, if_pos (by omega)]
def MKI (l : Launch) (E : En) (ad : Nat → Nat) (z : Nat) (L : Nat → Nat → Bool) (I : Mem) (y : MethodName) (b : ByteArray) (n k mc ms : Nat) (av : List Value) (post : Int32 → (Nat → Nat → Bool) → Mem → Prop) : Prop :=
  Met l y (.code y b n (some .int) :: TB) (rmc k mc ms) (PcK E ad z L I av) (va_Qi (S := (Nat → Nat → Bool) × Mem) (fun v u => post v u.1 u.2) (fun u t => Hp E (KK ad (z + mc)) u.1 ad u.2 t.heap ∧ t.heap.size = z + mc) (AG E)) mc ms (AG E)
section RI
variable {p : Program} {l : Launch} {e : Env} {R : Room} {s : State} {m : MethodId} {args : Array Value} {below : List Frame} {meth : Method} {c : Code} {H : Heap} {locs : List Loc} {cells slots : Nat} {Q : State → Prop}
variable {cc : ByteArray} {pc : Nat} {ls : Array Slot} {rest : List Value} {E : En} {K : Nat → Nat} {L : Nat → Nat → Bool} {ad : Nat → Nat} {I : Nat → Nat → Int32} {r z : Nat} {own : String} {nL : Nat}
theorem MKI.of {y : MethodName} {n k mc ms : Nat} {av : List Value} {post : Int32 → (Nat → Nat → Bool) → Mem → Prop} (hy : plainName y.cls = true) (hlen : (lg_sl av).length ≤ n)
    (body : ∀ (p : Program) (e : Env) (s : State) (m : MethodId) (args : Array Value) (below : List Frame) (meth : Method) (c : Code) (ls : Array Slot) (Qf : State → Prop), Cx E p s m args c cc y.cls n → XF E s →
      (∀ (pc : Nat) (ls : Array Slot) (H : Heap) (locs : List Loc) (v : Int32) (L' : Nat → Nat → Bool) (J : Nat → Nat → Int32), decode cc pc = .ok (.ireturn, 1) → Hp E (KK ad (z + mc)) L' ad J H → H.size = z + mc → va_S (AG E) s.heap H locs → post v L' J → W p l e (rmc k mc ms) s m args below meth c H locs mc ms Qf (F0 m pc ls [.int v])) →
      Hp E (KK ad z) L ad I s.heap → s.heap.size = z → lv_has ls n (lv_args 0 av) → W p l e (rmc k mc ms) s m args below meth c s.heap [] 0 0 Qf (F0 m 0 ls [])) : MKI l E ad z L I y cc n k mc ms av post := by
  refine Met.ofW (cc := cc) (maxL := n) (ret := some .int) hy rfl ?_
  intro p e s m args below meth c s₁ B hml hv
  obtain ⟨rfl, ⟨hP, hz⟩, hV, hX⟩ := hv
  have hts := atoms_spec (ws := Cond.code y cc n (some .int) :: TB) B.pre
  have C : Cx E p s m av.toArray c cc y.cls n := ⟨B.exec, B.bytes, fun w hw => hts w (List.mem_cons_of_mem _ hw), findClass_of_methodNamed B.named, hV, hml⟩
  rw [lg_entry_eq]
  exact body p e s m _ below meth c _ _ C hX (fun pc ls H locs v L' J hd hP hz hS h => W.iret C.1 C.2.1 B.returns (fun t ht _ => ⟨⟨v, (L', J), rfl, h, by show Hp E (KK ad (z + mc)) L' ad J t.heap; rw [ht]; exact hP, by rw [ht]; exact hz⟩, hS.F ht⟩) hS.2.2 hd B.notSynchronized) hP hz (lv_entry av hlen)
theorem gi_call {y : MethodName} {b : ByteArray} {n k mc ms idx ci : Nat} {As st : List Value} {fs : List Value} {rc : vw_C} {post : Int32 → (Nat → Nat → Bool) → Mem → Prop} (C : Cx E p s m args c cc own nL) (hX : XF E s) (hP : Hp E (KK ad z) L ad I H) (hz : H.size = z) (hS : va_S (AG E) s.heap H locs)
    (h1 : Cond.methodLink own idx y ∈ TB) (h2 : Cond.instanceMethod y ∈ TB) (h3 : Cond.selects y.cls y y ∈ TB) (h4 : Cond.initialized y.cls ∈ TB) (h5 : Cond.code y b n (some .int) ∈ TB) (hd : y.cls ≠ "java/lang/invoke/MethodHandle" ∧ y.cls ≠ "java/lang/invoke/VarHandle" ∧ (parseMethodDescriptor y.desc).map (fun d => d.parameters.length) = some As.length)
    (hr : KK ad z r ≠ 0) (he : wE E.2.1 (KK ad z) L ad I r = .inr (ci, fs)) (hc : classes[ci]? = some rc) (hcn : rc.1 = y.cls) (hM : MKI l E ad z L I y b n k mc ms (.ref (ad r) :: As) post) (hR : k + 1 ≤ R.frames ∧ 8 + (n + 11) + 26 * k ≤ R.locals) (hcells : cells + mc ≤ R.cells ∧ slots + ms ≤ R.slots) (hls : ls.size = nL) (hst : st = As.reverse ++ .ref (ad r) :: rest) (hroom : (rest.map fun v => v.category).sum ≤ 8) (hdg : decode cc pc = .ok (.invokevirtual idx, 3))
    (kk : ∀ (v : Int32) (L' : Nat → Nat → Bool) (J : Nat → Nat → Int32) (H1 : Heap) (locs1 : List Loc), post v L' J → Hp E (KK ad (z + mc)) L' ad J H1 → H1.size = z + mc → va_S (AG E) s.heap H1 locs1 → W p l e R s m args below meth c H1 locs1 (cells + mc) (slots + ms) Q (F0 m (pc + 3) ls (.int v :: rest))) : W p l e R s m args below meth c H locs cells slots Q (F0 m pc ls st) := by
  subst hst
  refine va_calli (va_runV (Ts := TB) (As := As) (rest := rest) ⟨C.1, C.2.1, C.2.2.2.2.2, C.2.2.2.1, C.2.2.1⟩ hM (cwV As.length C.2.2.1 (gd_tb (fun w hw => ?_)) rfl rfl rfl ⟨rfl, hd⟩ hR) ⟨PcK.blind, ?_, PcK.of C hX hP hz hS _⟩ rfl rfl hls rfl (lv_room hroom) hdg hcells) hS (fun q _ h => h) (fun q h => h) (fun v u t H1 locs1 ht hvm hw hB _ _ hS1 => kk v u.1 u.2 H1 locs1 hw (by rw [← ht]; exact hB.1) (by rw [← ht]; exact hB.2) hS1)
  · unfold wsV at hw
    rcases List.mem_append.mp hw with h | h
    · rcases List.mem_cons.mp h with rfl | h
      · exact h1
      · rcases List.mem_cons.mp h with rfl | h
        · exact h2
        · rcases List.mem_cons.mp h with rfl | h
          · exact h3
          · rcases List.mem_cons.mp h with rfl | h
            · exact h4
            · cases h
    · rcases List.mem_cons.mp h with rfl | h
      · exact h5
      · exact h
  · have := va_recv C.2.2.2.2.1.1 (hP.one hr he) hc (q0 := 0) rfl
    rw [hcn] at this
    exact this
end RI
set_option maxHeartbeats 4000000 in
set_option maxRecDepth 100000 in
theorem c_X6_imageN {l : Launch} {E : En} {L : Nat → Nat → Bool} {ad : Nat → Nat} {I : Nat → Nat → Int32} {z : Nat} {σ : Mem} (j : Nat) (hai : AI ad) (hO : IsO (KK ad z) L) (hC : CR (KK ad z) L I σ) (hw : WF σ) (hj : j < 2) (hLj : L 150 j = false) (hadb : ad (300 + 100 * j) = z) (hadP : ∀ o, 1 ≤ o → o ≤ 4 → ad (300 + 100 * j + o) = z + o) (hadQ : ∀ o, 8 ≤ o → o < 72 → ad (300 + 100 * j + o) = z + o - 3) : MKI l E ad z L I yX6_image cX6_image 2 4 69 251 [.ref (ad 100), .int (nI j)] (fun rv L9 J => rv = nI 1 ∧ L9 = sL (Lpg L (300 + 100 * j) 8) 150 j ∧ IsO (KK ad (z + 69)) L9 ∧ CR (KK ad (z + 69)) L9 J (imU σ j) ∧ ∀ a, a < 100 → J a = I a) := by
  have hO0 := hO
  obtain ⟨o0, o1, o2, o3, o4, o5, hp, hk, hQ, hXX, o150⟩ := hO
  have had0 : ad 100 < z := (kk0 (by rw [o0]; decide)).1
  have had150 : ad 150 < z := (kk0 (by rw [o150]; decide)).1
  have had200 : ad 200 < z := (kk0 (by rw [hp.1]; decide)).1
  have hFre : Fre L I (300 + 100 * j) := by
    rcases hC.2.2.2.2 j hj with ⟨-, h, -⟩ | ⟨-, -, h⟩
    · exact absurd (h.symm.trans hLj) (by decide)
    · exact h
  have hFo : ∀ o, o < 72 → KF (300 + 100 * j + o) = kP o := fun o ho => by
    unfold KF
    rcases (show j = 0 ∨ j = 1 by omega) with rfl | rfl
    · rw [if_neg (by omega), if_pos (by omega), show 300 + 100 * 0 + o - 300 = o by omega]
    · rw [if_neg (by omega), if_neg (by omega), if_pos (by omega), show 300 + 100 * 1 + o - 400 = o by omega]
  have hF4 : KF (300 + 100 * j) = 4 := hFo 0 (by decide)
  have hLf : ∀ a, 300 + 100 * j ≤ a → a < 300 + 100 * j + 72 → ∀ i, L a i = false := fun a g1 g2 i => by
    have := (hFre (a - (300 + 100 * j)) (by omega)).1 i
    rw [show 300 + 100 * j + (a - (300 + 100 * j)) = a by omega] at this; exact this
  have hIf : ∀ a, 300 + 100 * j ≤ a → a < 300 + 100 * j + 72 → ∀ i, I a i = 0 := fun a g1 g2 i => by
    have := (hFre (a - (300 + 100 * j)) (by omega)).2 i
    rw [show 300 + 100 * j + (a - (300 + 100 * j)) = a by omega] at this; exact this
  have hRI : PR 200 (IP I (300 + 100 * j) 8) σ := PR_hi hw (fun a g1 g2 => IP_r (by omega)) hC.1
  refine MKI.of (by decide) (Nat.le_of_ble_eq_true rfl) ?_
  intro p ee s m args below meth c ls Qf C hX hret hP hz hl
  have C : Cx E p s m args c cX6_image RX6 2 := C
  have hx := C.1
  have hb := C.2.1
  have hz0 := hz
  have hS : va_S (AG E) s.heap s.heap [] := va_S.rf
  have hl : lv_has ls 2 [(0, .ref (ad 100)), (1, .int (nI j))] := hl
  refine lv_iload_n hx hb dX6_image_0 rfl (lv_at hl 1 rfl) ?_
  refine lv_iconst (v := nI 2) hx hb dX6_image_1 (by decide) ?_
  refine k_X6_41 C hP hS (c_X6_isIn (nI j) (nI 2)) ⟨Nat.le_of_ble_eq_true rfl, Nat.le_of_ble_eq_true rfl⟩ ⟨Nat.zero_le _, Nat.zero_le _⟩ hl.1 (Nat.le_of_ble_eq_true rfl) dX6_image_2 (fun v1 I2 H locs hv3 hP hS => ?_)
  obtain ⟨eI2, hv3⟩ := hv3
  rw [eI2] at hP
  clear eI2
  rcases hv3 with ⟨rfl, hc4⟩ | ⟨rfl, hc4⟩
  · refine W.sz fun hsz => ?_
    have hz : H.size = z := by have := hS.1; omega
    refine z_ne1 C dX6_image_5 (tgt := 11) (by decide) ?_
    refine lv_aload_n hx hb dX6_image_11 rfl (lv_at hl 0 rfl) ?_
    have kf5 : KK ad (z) 100 = 7 := kkf (by first | exact Nat.lt_of_lt_of_le had0 (Nat.le_add_right _ _) | exact had0 | omega) (by first | assumption | rfl | omega)
    refine f_X6_37 (q := 150) C hP (by assumption) (by assumption) rfl dX6_image_12 ?_
    refine lv_iload_n hx hb dX6_image_15 rfl (lv_at hl 1 rfl) ?_
    have kf7 : KK ad (z) 150 = 13 := kkf (by first | exact Nat.lt_of_lt_of_le had0 (Nat.le_add_right _ _) | exact had0 | omega) (by first | assumption | rfl | omega)
    refine r_ald13n C hP (by assumption) (by assumption) (by omega) dX6_image_16 ?_
    refine lv_ifnonnullN hx hb dX6_image_17 ?_
    refine lv_aload_n hx hb dX6_image_20 rfl (lv_at hl 0 rfl) ?_
    have kf8 : KK ad (z) 100 = 7 := kkf (by first | exact Nat.lt_of_lt_of_le had0 (Nat.le_add_right _ _) | exact had0 | omega) (by first | assumption | rfl | omega)
    refine f_X6_37 (q := 150) C hP (by assumption) (by assumption) rfl dX6_image_21 ?_
    refine lv_iload_n hx hb dX6_image_24 rfl (lv_at hl 1 rfl) ?_
    refine n_X6_9 (r := 300 + 100 * j) C hP hz hai hS (by first | assumption | omega) (by first | assumption | rfl | omega) (fun i => hLf _ (by omega) (by omega) i) (fun i => hIf _ (by omega) (by omega) i) (Nat.le_of_ble_eq_true rfl) (Nat.le_of_ble_eq_true rfl) dX6_image_25 (fun H hP hz hS => ?_)
    rw [show z + 1 = z + 1 from rfl] at hP hz
    refine lv_dup hx hb dX6_image_28 rfl ?_
    refine gc_call C hX hP hz hS tm_X6_11 ti_X3_init tz_X3 tc_X3_init rfl (by decide +kernel) (c_X3_init (300 + 100 * j) hai hFo (by omega) (hadP 1 (by decide) (by decide)) (hadP 2 (by decide) (by decide)) (hadP 3 (by decide) (by decide)) (hadP 4 (by decide) (by decide)) (fun o g1 g2 => by rw [hadQ o g1 g2]; omega) hLf hIf) ⟨Nat.le_of_ble_eq_true rfl, Nat.le_of_ble_eq_true rfl⟩ ⟨Nat.le_of_ble_eq_true rfl, Nat.le_of_ble_eq_true rfl⟩ hl.1 (Nat.le_of_ble_eq_true rfl) dX6_image_29 (fun L11 I10 H locs hv12 hP hz hS => ?_)
    obtain ⟨eL11, eI10⟩ := hv12
    rw [show z + 1 + 68 = z + 69 from rfl] at hP hz
    have hLx := eL11
    have hIx := eI10
    have kf13 : KK ad (z + 69) 150 = 13 := kkf (by first | exact Nat.lt_of_lt_of_le had0 (Nat.le_add_right _ _) | exact had0 | omega) (by first | assumption | rfl | omega)
    have kf14 : KK ad (z + 69) (300 + 100 * j) = 4 := kkf (by first | exact Nat.lt_of_lt_of_le had0 (Nat.le_add_right _ _) | exact had0 | omega) (by first | assumption | rfl | omega)
    refine cr_ast13 C hP hS (by assumption) (by assumption) (by omega) (by omega) dX6_image_32 (fun H locs hz9 hP hS => ?_)
    replace hz := hz9.trans hz
    clear hz9
    obtain ⟨L15, eL15⟩ : ∃ Znew : Nat → Nat → Bool, Znew = sL L11 150 j := ⟨_, rfl⟩
    rw [← eL15] at hP
    refine lv_aload_n hx hb dX6_image_33 rfl (lv_at hl 0 rfl) ?_
    have kf16 : KK ad (z + 69) 100 = 7 := kkf (by first | exact Nat.lt_of_lt_of_le had0 (Nat.le_add_right _ _) | exact had0 | omega) (by first | assumption | rfl | omega)
    have lg17 : L15 100 4 = true := by rw [eL15, sL_r (by omega), eL11, Lpg_r (by omega)]; exact o5
    refine f_X6_37 (q := 150) C hP (by assumption) (by assumption) rfl dX6_image_34 ?_
    refine lv_iload_n hx hb dX6_image_37 rfl (lv_at hl 1 rfl) ?_
    have hLjj : L15 150 j = true := by rw [eL15, sL_s]
    refine r_ald13 (q := 300 + 100 * j) C hP (by assumption) (by first | assumption | exact hLa _ (by omega)) (by omega) (by omega) dX6_image_38 ?_
    refine lv_aload_n hx hb dX6_image_39 rfl (lv_at hl 0 rfl) ?_
    have kf18 : KK ad (z + 69) 100 = 7 := kkf (by first | exact Nat.lt_of_lt_of_le had0 (Nat.le_add_right _ _) | exact had0 | omega) (by first | assumption | rfl | omega)
    have lg19 : L15 100 0 = true := by rw [eL15, sL_r (by omega), eL11, Lpg_r (by omega)]; exact o1
    refine f_X6_12 (q := 200) C hP (by assumption) (by assumption) rfl dX6_image_40 ?_
    have hIPn : IsP (KK ad (z + 69)) L15 (300 + 100 * j) := IsP_new (L := L) hFo (fun o ho hk9 => by
      by_cases g : o < 8
      · by_cases g0 : o = 0
        · subst g0; show ad (300 + 100 * j) < z + 69; omega
        · by_cases g4 : o ≤ 4
          · rw [hadP o (by omega) g4]; omega
          · exact absurd (show kP o = 0 by unfold kP; rw [if_neg (by omega), if_neg (by omega), if_neg (by omega), if_neg (by omega), if_pos g]) hk9
      · rw [hadQ o (by omega) ho]; omega) (fun a g1 g2 => by rw [eL15, sL_r (by omega), hLx])
    have hIP2 : IsP (KK ad (z + 69)) L15 200 := IsP_mono KK_mono (fun a g1 g2 => by rw [eL15, sL_r (by omega), hLx, Lpg_r (by omega)]) hp
    rw [hIx] at hP
    refine k_X6_207 C hP hS (by assumption) (c_X3_copy (σ := σ) (300 + 100 * j) 200 (mn σ) hIPn hIP2 (PM_new I _) hRI hw rfl (by omega)) ⟨Nat.le_of_ble_eq_true rfl, Nat.le_of_ble_eq_true rfl⟩ ⟨Nat.le_of_ble_eq_true rfl, Nat.le_of_ble_eq_true rfl⟩ hl.1 (Nat.le_of_ble_eq_true rfl) dX6_image_43 (fun I21 H locs hv22 hP hS => ?_)
    have eI21 := hv22
    refine W.sz fun hsz => ?_
    have hlow : z + 68 < H.size := by
      have h71 := (hP.1 (300 + 100 * j + 71) (by rw [kkf (by rw [hadQ 71 (by decide) (by decide)]; omega) (hFo 71 (by decide))]; decide)).lt
      rw [show (ad (300 + 100 * j + 71), wE E.2.1 (KK ad (z + 69)) L15 ad I21 (300 + 100 * j + 71)).1 = ad (300 + 100 * j + 71) from rfl, hadQ 71 (by decide) (by decide)] at h71
      omega
    have hz : H.size = z + 69 := by omega
    refine lv_iconst (v := nI 1) hx hb dX6_image_46 (by decide) ?_
    exact hret _ _ _ _ _ _ _ dX6_image_47 hP hz hS (⟨rfl, by rw [eL15, hLx], IsO_mono KK_mono (fun a g1 g2 => by rw [eL15, sL_r g2, hLx, Lpg_r (by omega)]) hO0, img_new hC hw hj KK_mono (fun a g1 g2 => by rw [eL15, sL_r g1, hLx, Lpg_r (by omega)]) (fun i hi => by rw [eL15, sL_k hi, hLx, Lpg_r (by omega)]) (by rw [eL15, sL_s]) hIPn eI21.2 (fun a ha => by rw [eI21.1 a ha]; exact IP_r (by omega)), fun a ha => by rw [eI21.1 a (by omega)]; exact IP_r (by omega)⟩)
  · exact absurd ⟨by rw [nI_toInt (by omega)]; omega, by rw [nI_toInt (by omega), show (nI 2).toInt = 2 from rfl]; omega⟩ hc4
