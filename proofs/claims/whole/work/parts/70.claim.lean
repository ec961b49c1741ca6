/-! the entry of the law; the claim (begun from the skeleton) -/
theorem off_p : ∀ k, k < 2 → ∀ a, a < 5 → off k (200 + a) = 1 + a := by decide +kernel
theorem off_q : ∀ k, k < 2 → ∀ a, a < 64 → off k (200 + (8 + a)) = 1 + (8 + a) - 3 := by decide +kernel
theorem off_k : ∀ k, k < 2 → ∀ a, a < 10 → off k (111 + a) = 71 + a := by decide +kernel
theorem off_s : ∀ k, k < 2 → ∀ a, a < 3 → off k (131 + a) = 82 + a := by decide +kernel
theorem off_t : ∀ k, k < 2 → ∀ a, a < 4 → off k (143 + a) = 88 + a := by decide +kernel
theorem off_1 : ∀ k, k < 2 → off k 100 = 0 ∧ off k 110 = 70 ∧ off k 130 = 81 ∧ off k 140 = 85 ∧ off k 141 = 86 ∧ off k 142 = 87 ∧ off k 150 = 92 ∧ off k 10 = 93 := by decide +kernel
theorem off_m : ∀ k, k < 2 → ∀ i, i < 20 → off k (10 + ([1, 2, 3, 4, 5, 6, 7, 8, 9, 10, 11, 12, 13, 14, 15, 16, 17, 21, 25, 26] : List Nat).getD i 0) = 94 + i := by decide +kernel
set_option maxHeartbeats 4000000 in
set_option maxRecDepth 100000 in
theorem whole_start {p : Program} {e : Env} {s : State} {m : MethodId} {below : List Frame} {meth : Method} {c : Code} (l : Launch) (hflags : l.flags = flags0) {b L : Nat} {xs : Nat → Int32} (hL : L ≤ 3072) (C0 : lw_At p s m meth c b L xs) : W p l e room_1 s m #[Value.ref b] below meth c s.heap [] 0 0 (lw_Z below #[Value.ref b] s) (entryFrame m ([Value.ref b] : List Value).toArray 4) := by
  obtain ⟨hx, hb, hr, hml, hown, hts, hXX, hbl, hlocks, hgv⟩ := id C0
  obtain ⟨E, hE, hV, hXF⟩ := env_start hts hgv
  obtain ⟨o, ho, hord⟩ := ord_ex xs
  have htb : ∀ w ∈ TB, w.before #[Value.ref b] s = true := fun w hw => hts w (List.mem_filter.mp hw).1
  have C : Cx E p s m #[Value.ref b] c cL_law RL 4 := ⟨hx, hb, htb, hown, hV, hml⟩
  have hai := ad_AI (B := s.heap.size) ho
  obtain ⟨q100, q110, q130, q140, q141, q142, q150, q10⟩ := off_1 o ho
  have had : ∀ r n, off o r = n → adF s.heap.size o r = s.heap.size + n := fun r n h => by unfold adF; rw [h]
  have hk0 : ∀ r, KK (adF s.heap.size o) s.heap.size r = 0 := fun r => by unfold KK adF; rw [if_neg (by omega)]
  have hP : Hp E (KK (adF s.heap.size o) s.heap.size) L00 (adF s.heap.size o) I00 s.heap := ⟨fun r h => absurd (hk0 r) h, fun r h => absurd (hk0 r) h, fun r q h => absurd (hk0 r) h, by omega⟩
  have hS : va_S (AG E) s.heap s.heap [] := va_S.rf
  have hl := lv_entry ([.ref b]) (n := 4) (Nat.le_of_ble_eq_true rfl)
  rw [lg_entry_eq]
  generalize (lg_sl ([.ref b]) ++ List.replicate (4 - (lg_sl ([.ref b])).length) Slot.unset).toArray = ls at hl ⊢
  have hl : lv_has ls 4 [(0, .ref b)] := hl
  refine n_L_7 (r := 100) C hP rfl hai hS (had 100 0 q100) (by decide) (fun _ => rfl) (fun _ => rfl) (Nat.le_of_ble_eq_true rfl) (Nat.le_of_ble_eq_true rfl) dL_law_0 (fun H hP hz hS => ?_)
  refine lv_dup hx hb dL_law_3 rfl ?_
  refine gc_call C hXF hP hz hS tm_L_9 ti_X6_init tz_X6 tc_X6_init rfl (by decide +kernel) (c_X6_init hai (by rw [had 100 0 q100]; omega) (had 200 1 (off_p o ho 0 (by decide))) (fun a g1 g2 => by rw [had _ _ (off_p o ho a (by omega))]; omega) (fun a g1 g2 => by
    have h := off_q o ho (a - 8) (by omega)
    rw [show 8 + (a - 8) = a by omega] at h
    rw [had _ _ h]; omega) (by rw [had _ _ q110]) (fun a ha => by rw [had _ _ (off_k o ho a ha)]; omega) (by rw [had _ _ q130]) (fun a ha => by rw [had _ _ (off_s o ho a ha)]; omega) (by rw [had _ _ q140]) (by rw [had _ _ q141]) (by rw [had _ _ q142]) (fun a ha => by rw [had _ _ (off_t o ho a ha)]; omega) (by rw [had _ _ q150]) (fun _ _ _ _ => rfl) (fun _ _ _ _ => rfl)) ⟨Nat.le_of_ble_eq_true rfl, Nat.le_of_ble_eq_true rfl⟩ ⟨Nat.le_of_ble_eq_true rfl, Nat.le_of_ble_eq_true rfl⟩ hl.1 (Nat.le_of_ble_eq_true rfl) dL_law_4 (fun L1 I1 H locs hv hP hz hS => ?_)
  obtain ⟨eL1, eI1⟩ := hv
  subst eL1 eI1
  refine lv_astore_n (lv' := [(1, .ref (adF s.heap.size o 100)), (0, .ref b)]) hx hb dL_law_7 rfl hl (by decide) rfl (fun ls hl => ?_)
  refine n_L_10 (r := 10) C hP hz hai hS (by rw [had 10 93 q10]) (by decide) (fun j => by rw [LO_r (by decide) (by decide) (by decide) (by decide) (by decide), Lpg_r (by decide)]; rfl) (fun j => by rw [IP_r (by decide)]; rfl) (Nat.le_of_ble_eq_true rfl) (Nat.le_of_ble_eq_true rfl) dL_law_8 (fun H hP hz hS => ?_)
  refine lv_dup hx hb dL_law_11 rfl ?_
  refine gc_call C hXF hP hz hS tm_L_12 ti_X7_init tz_X7 tc_X7_init rfl (by decide +kernel) (c_X7_init hai (by rw [had 10 93 q10]; omega) (fun i k h => by
    have hi : i < 20 := (List.getElem?_eq_some_iff.mp h).1
    have h2 := off_m o ho i hi
    rw [List.getD_eq_getElem?_getD, h] at h2
    have h2 : off o (10 + k) = 94 + i := h2
    rw [had _ _ h2]; omega) (fun a g1 g2 j => by rw [IP_r (by omega)]; rfl)) ⟨Nat.le_of_ble_eq_true rfl, Nat.le_of_ble_eq_true rfl⟩ ⟨Nat.le_of_ble_eq_true rfl, Nat.le_of_ble_eq_true rfl⟩ hl.1 (Nat.le_of_ble_eq_true rfl) dL_law_12 (fun L2 I2 H locs hv hP hz hS => ?_)
  obtain ⟨eL2, eI2⟩ := hv
  subst eL2 eI2
  refine lv_astore_n (lv' := [(2, .ref (adF s.heap.size o 10)), (1, .ref (adF s.heap.size o 100)), (0, .ref b)]) hx hb dL_law_15 rfl hl (by decide) rfl (fun ls hl => ?_)
  refine lv_iconst (v := nI 0) hx hb dL_law_16 (by decide) ?_
  refine lv_istore_n (lv' := [(3, .int (nI (6 * 0))), (2, .ref (adF s.heap.size o 10)), (1, .ref (adF s.heap.size o 100)), (0, .ref b)]) hx hb dL_law_17 rfl hl (by decide) rfl (fun ls hl => ?_)
  have ez : s.heap.size + 1 + 92 + 1 + 20 = zP s.heap.size 0 := by unfold zP; omega
  rw [ez] at hP
  refine W.widen (k := 114 + 69 * 0) (n := 2114 + 251 * 0) (Nat.le_of_ble_eq_true rfl) (Nat.le_of_ble_eq_true rfl) ?_
  exact law_loop C0 hL hE hV hXF ho hord (L + 1) 0 0 L01 I01 H locs ls (by omega) (Nat.zero_le _) (Or.inl ⟨rfl, by decide, by decide, fun q' h => absurd h (Nat.not_lt_zero q')⟩) hP hS (o01 ho) (m01 ho) (cr01 _) wf01 (lv_sub hl [3, 2, 1, 0] rfl)
set_option maxHeartbeats 4000000 in
theorem lw_walk (l : Launch) (hflags : l.flags = flags0) (b : Addr) (xs : List Int32) : MetFree l x (headSpec (Jvm.Cond.code x code maxLocals ret :: tables_1) room_1) (lw_P b xs) (fun _ _ _ _ _ => True) lw_Q := by
  refine MetFree.of_bodyS (code := code) (maxLocals := maxLocals) (ret := ret) (by decide) ?_ ?_
  · intro args s m h hn
    obtain ⟨meth, c, h1, h2, h3, h4, h5, h6, -, -⟩ := Cond.code_spec hn (atoms_spec (ws := Jvm.Cond.code x code maxLocals ret :: tables_1) h _ List.mem_cons_self)
    exact ⟨meth, c, h1, h2, h3, h4, h5, h6⟩
  · intro p e s m args below meth c s₁ B hml0 hP _
    obtain ⟨rfl, hx, hbd, hgv⟩ := hP
    obtain ⟨scr, harrAt, hlist, hof, hsmall⟩ := hx
    obtain ⟨hcb, hkn, -, -⟩ := State.arrayAt?_spec harrAt
    have hown : s.vm.findClass R_law = some m.cls := findClass_of_methodNamed B.named
    have hts0 : ∀ c ∈ (Jvm.Cond.code x code maxLocals ret :: tables_1), c.before #[Value.ref b] s = true := atoms_spec (ws := Jvm.Cond.code x code maxLocals ret :: tables_1) B.pre
    have hts : ∀ w ∈ lw_tbl, w.before #[Value.ref b] s = true := k2_hts_sels lw_privs (fun w hw => hts0 w (List.mem_cons_of_mem _ hw)) lw_privs_ok
    have hml : c.maxLocals = 4 := B.maxLocals_eq (hts0 _ List.mem_cons_self)
    have X₀ : Stand p l e room_1 s m #[Value.ref b] below meth c s₁ [] 0 0 := Stand.of_body B
    have hh0 : s₁.heap = s.heap := by rw [B.state]; rfl
    have hsz : scr.slots.size = xs.length := by rw [← Array.length_toList, hlist, List.length_map]
    have hval : ∀ j : Nat, j < xs.length → scr.slots[j]? = some (.int (xs.getD j 0)) := fun j hj => by
      rw [← Array.getElem?_toList, hlist]
      simp [hj]
    have hbl : b < s.heap.size := (Array.getElem?_eq_some_iff.mp hcb).1
    have hX : va_X b xs.length (fun j => xs.getD j 0) s s.heap := ⟨scr, hcb, hof, hkn, hsz, hval⟩
    have K : W p l e room_1 s m #[Value.ref b] below meth c s₁.heap [] 0 0 (lw_Z below #[Value.ref b] s) (entryFrame m ([Value.ref b] : List Value).toArray 4) := by
      rw [hh0]
      exact whole_start l hflags hbd ⟨B.exec, B.bytes, B.returns, hml, hown, hts, hX, hbl, B.notSynchronized, hgv⟩
    obtain ⟨t, a1, o, b1, b2, b3⟩ := K s₁ rfl X₀
    exact ⟨t, o, a1, b1, b2, b3⟩
theorem lw_pre_spec {args : Array Value} {s : State} (h : (Jvm.Cond.and given_1 narrow_1).before args s = true) (hr : rest_1_c.before args s = true) : ∃ (b : Addr) (xs : List Int32), lw_P b xs args s := by
  have hs := flat_of_before _ h
  have hq := flat_of_before _ hr
  have hc : (Cond.count 1).before args s = true := hs _ (by decide +kernel)
  have harr : (Cond.arrayOf (.arg 0) .int).before args s = true := hs _ (by decide +kernel)
  have hle : (Cond.le (.length (.arg 0)) (.int 3072)).before args s = true := hs _ (by decide +kernel)
  have hlen : (Cond.isInt (.length (.arg 0))).before args s = true := hq _ (by decide +kernel)
  have hall : (Cond.all (.arg 0) (.isInt (.elem (.arg 0) (.index 0)))).before args s = true := hq _ (by decide +kernel)
  obtain ⟨b, xs, hb, hx⟩ := State.ints_of_pre rfl harr hlen hall
  have hsm : xs.length < 2 ^ 31 := hx.choose_spec.2.2.2
  have hev : (Term.length (.arg 0)).eval args s none [] s = some (.int xs.length.toInt32) := hx.length_eval hb
  have hv := Cond.le_ints hev (show (Term.int 3072).eval args s none [] s = some (.int 3072) from rfl)
  have hd : xs.length.toInt32 ≤ 3072 := by
    simpa [Cond.before, Cond.holds, hv] using hle
  have hN : xs.length ≤ 3072 := (Int32.ofNat_le_ofNat hsm (by decide)).mp (show Int32.ofNat xs.length ≤ Int32.ofNat 3072 from hd)
  exact ⟨b, xs, Cond.one_arg hc (show args[0]? = some (.ref b) from hb), hx, hN, h⟩
theorem lw_comes (l : Launch) (hflags : l.flags = flags0) : Comes l x (Jvm.Cond.code x code maxLocals ret :: tables_1) room_1 (fun tb e args s => Calls_1 tb e args s ∧ rest_1 tb e args s ∧ Pre_1 tb e args s)
    (fun _ _ args s o t => lw_Q args s o t) := by
  intro p e ha hc hk s m args below hf hfit hheap happ hpre
  obtain ⟨b, xs, hP⟩ := lw_pre_spec hpre.2.2 hpre.2.1
  obtain ⟨k, o, h1, h2, h3, hQ⟩ := lw_walk l hflags b xs p e ha hc hk s m args below hf ((Spec.applies_iff_loose hf).mp happ).1 hP trivial
  exact ⟨k, o, h1, h2, h3, hQ⟩
theorem lw_frame {s t : State} {o : Outcome} {args : Array Value} (h : Framed s o t [] 600000 7302250) :
    Framed s o t (fieldLocs frame_1_writes args s ++ arrayLocs frame_1_arrays args s ++ staticLocs frame_1_statics s) 600000 7302250 := h
theorem lw_limb (L : Cond) (hL : ∀ (args : Array Value) (s t : State), L.after args s (.returned (some (.int 1))) t = true) :
    ArmFor flags0 classFile x code maxLocals ret World_1 tables_1 room_1 Calls_1 rest_1 Pre_1
      (fun tb e a s o t => postC L tb e a s o t ∧ Framed s o t (fieldLocs frame_1_writes a s ++ arrayLocs frame_1_arrays a s ++ staticLocs frame_1_statics s) 600000 7302250) := by
  intro l hflags _ _ p e ha hc hk s m args below hf hfit hheap happ hpre
  obtain ⟨k, o, h1, h2, h3, rfl, hF⟩ := lw_comes l hflags p e ha hc hk s m args below hf hfit hheap happ hpre
  exact ⟨k, _, h1, h2, h3, hL args s _, lw_frame hF⟩
theorem i_vc : Claimed_1_1 ∧ Claimed_1_2 := ⟨lw_limb limb_1_1 (fun args s t => by simp [limb_1_1, Cond.after, Cond.holds, Cond.value]), lw_limb limb_1_2 (fun args s t => Cond.after_iff.mpr (by
  first | (rw [show limb_1_2 = Cond.eq .result (.int 1) from rfl, Cond.eq_ints (x := 1) (y := 1) rfl rfl]; simp; done) | (simp [limb_1_2, Cond.value, Term.eval]; done)))⟩
