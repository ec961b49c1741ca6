/-! the law's loop, from its entry to its end (begun from the skeleton's rows) -/
def R_law : String := "StagedTablesLaw"
def lw_P (b : Addr) (xs : List Int32) (args : Array Value) (s : State) : Prop := args = #[.ref b] ∧ s.IntsAt b xs ∧ xs.length ≤ 3072 ∧ (Jvm.Cond.and given_1 narrow_1).before args s = true
def lw_Q (_ : Array Value) (s : State) (o : Outcome) (t : State) : Prop := o = .returned (some (.int 1)) ∧ Framed s o t [] 600000 7302250
def lw_Z (below : List Frame) (a : Array Value) (s : State) : State → Prop := fun t => ∃ o, t.status = .running ∧ Ended t below o ∧ lw_Q a s o t
/-- the law's own end, with 1 on the stack, nothing written that was there before, its room as the claim has it -/
theorem lw_ret {p : Program} {l : Launch} {e : Env} {s : State} {m : MethodId} {below : List Frame} {meth : Method} {c : Code} {b : Nat} (hx : p.tables.exec = Jvm.exec) (hb : c.code = code) (hr : meth.sig.returnType = ret) (hlocks : meth.locks = false) {pc : Nat} {H : Heap} {ls : Array Slot} (hdg : decode code pc = .ok (.ireturn, 1)) : W p l e room_1 s m #[Value.ref b] below meth c H [] 600000 7302250 (lw_Z below #[Value.ref b] s) (F0 m pc ls [.int 1]) := by
  intro T hT X
  obtain ⟨fs, hret, hrun, hended, hW, hframe⟩ := X.leave (v := some (.int 1)) (hlocks := hlocks) (fun h => by rw [hr] at h; cases h)
  have hmeth' : T.vm.method? m = some meth := X.method'
  refine ⟨T.setFrames fs, ?_, .returned (some (.int 1)), hrun, hended, rfl, ⟨_, rfl⟩, hW, hframe⟩
  jvm_step X.here [X.here.top, hx, hb, hdg, hmeth', hr, ret, narrow_b1]
  (try refine ⟨rfl, ?_⟩); (try refine ⟨rfl, ?_⟩)
  first | (intro acts; rw [hret _ acts rfl rfl rfl]) | rw [hret _ _ rfl rfl rfl]
  exact Steps.refl _
/-- what holds at the law's entry: the machine, the code, the tables' words (any of lw_tbl by 'hts w (by decide +kernel)'), the script of L ints xs at the cell b, what the Statement gives of the start (any of its parts by flat_of_before) -/
def lw_At (p : Program) (s : State) (m : MethodId) (meth : Method) (c : Code) (b L : Nat) (xs : Nat → Int32) : Prop :=
  p.tables.exec = Jvm.exec ∧ c.code = code ∧ meth.sig.returnType = ret ∧ c.maxLocals = 4 ∧ s.vm.findClass R_law = some m.cls ∧ (∀ w ∈ lw_tbl, w.before #[Value.ref b] s = true) ∧ va_X b L xs s s.heap ∧ b < s.heap.size ∧ meth.locks = false ∧ (Jvm.Cond.and given_1 narrow_1).before #[Value.ref b] s = true
/-- call q of the script keeps image j -/
def imgAt (xs : Nat → Int32) (q j : Nat) : Prop := (xs (6 * q) &&& nI 31).toInt = 17 ∧ xs (6 * q + 1) = nI j
def noImg (xs : Nat → Int32) (q : Nat) : Prop := ∀ q', q' < q → ∀ j, j < 2 → ¬ imgAt xs q' j
/-- which image is kept first -/
theorem ord_ex (xs : Nat → Int32) : ∃ o, o < 2 ∧ ∀ q j, noImg xs q → imgAt xs q j → j < 2 → j = o := by
  by_cases h : ∃ q, noImg xs q ∧ imgAt xs q 1
  · obtain ⟨q0, h1, h2⟩ := h
    refine ⟨1, by decide, fun q j hn hi hj => ?_⟩
    rcases Nat.lt_trichotomy q q0 with w | w | w
    · exact absurd hi (h1 q w j hj)
    · subst w
      exact (nI_eq (by omega) (by decide)).mp (hi.2.symm.trans h2.2)
    · exact absurd h2 (hn q0 w 1 (by decide))
  · refine ⟨0, by decide, fun q j hn hi hj => ?_⟩
    rcases (show j = 0 ∨ j = 1 by omega) with rfl | rfl
    · rfl
    · exact absurd ⟨q, hn, hi⟩ h
def Phz (xs : Nat → Int32) (o ph q : Nat) (L : Nat → Nat → Bool) : Prop := (ph = 0 ∧ L 150 0 = false ∧ L 150 1 = false ∧ noImg xs q) ∨ (ph = 1 ∧ L 150 o = true ∧ L 150 (1 - o) = false) ∨ (ph = 2 ∧ L 150 0 = true ∧ L 150 1 = true)
theorem Phz.step {xs : Nat → Int32} {o ph q : Nat} {L : Nat → Nat → Bool} (h : Phz xs o ph q L) (hn : ph = 0 → ∀ j, j < 2 → ¬ imgAt xs q j) : Phz xs o ph (q + 1) L := by
  rcases h with ⟨h0, h1, h2, h3⟩ | h | h
  · refine Or.inl ⟨h0, h1, h2, fun q' hq j hj => ?_⟩
    by_cases w : q' = q
    · subst w; exact hn h0 j hj
    · exact h3 q' (by omega) j hj
  · exact Or.inr (Or.inl h)
  · exact Or.inr (Or.inr h)
theorem Phz.le {xs : Nat → Int32} {o ph q : Nat} {L : Nat → Nat → Bool} (h : Phz xs o ph q L) : ph ≤ 2 := by
  rcases h with ⟨h0, -⟩ | ⟨h0, -⟩ | ⟨h0, -⟩ <;> omega
def zP (B ph : Nat) : Nat := B + 114 + 69 * ph
/-- the last cell of a phase is there -/
theorem z_lo {E : En} {B o ph : Nat} {L : Nat → Nat → Bool} {I : Mem} {H : Heap} (ho : o < 2) (hph : ph ≤ 1) (hP : Hp E (KK (adF B o) (zP B ph)) L (adF B o) I H) : zP B ph ≤ H.size := by
  rcases (show ph = 0 ∨ ph = 1 by omega) with rfl | rfl
  · have e : adF B o 36 = B + 113 := by
      rcases (show o = 0 ∨ o = 1 by omega) with rfl | rfl <;> rfl
    have h := (hP.1 36 (by rw [kkf (k := 15) (by rw [e]; unfold zP; omega) (by decide)]; decide)).lt
    have h : adF B o 36 < H.size := h
    rw [e] at h
    unfold zP; omega
  · have e : adF B o (300 + 100 * o + 71) = B + 182 := by
      rcases (show o = 0 ∨ o = 1 by omega) with rfl | rfl <;> rfl
    have k : KF (300 + 100 * o + 71) = 1 := by
      rcases (show o = 0 ∨ o = 1 by omega) with rfl | rfl <;> decide
    have h := (hP.1 (300 + 100 * o + 71) (by rw [kkf (k := 1) (by rw [e]; unfold zP; omega) k]; decide)).lt
    have h : adF B o (300 + 100 * o + 71) < H.size := h
    rw [e] at h
    unfold zP; omega
section LL
variable {p : Program} {l : Launch} {e : Env} {s : State} {m : MethodId} {below : List Frame} {meth : Method} {c : Code} {E : En}
set_option maxHeartbeats 4000000 in
set_option maxRecDepth 100000 in
theorem law_loop {b Ln o : Nat} {xs : Nat → Int32} (C0 : lw_At p s m meth c b Ln xs) (hLn : Ln ≤ 3072) (hE : E.2.2.2 = s.heap.size) (hV : Vp E s) (hXF : XF E s) (ho : o < 2) (hord : ∀ q j, noImg xs q → imgAt xs q j → j < 2 → j = o) : ∀ (d q ph : Nat) (L : Nat → Nat → Bool) (I : Mem) (H : Heap) (locs : List Loc) (ls : Array Slot), Ln < 6 * q + d → 6 * q ≤ Ln → Phz xs o ph q L → Hp E (KK (adF s.heap.size o) (zP s.heap.size ph)) L (adF s.heap.size o) I H → va_S (AG E) s.heap H locs → IsO (KK (adF s.heap.size o) (zP s.heap.size ph)) L → IsM (KK (adF s.heap.size o) (zP s.heap.size ph)) L → CR (KK (adF s.heap.size o) (zP s.heap.size ph)) L I I → WF I → lv_has ls 4 [(0, .ref b), (1, .ref (adF s.heap.size o 100)), (2, .ref (adF s.heap.size o 10)), (3, .int (nI (6 * q)))] →
    W p l e room_1 s m #[Value.ref b] below meth c H locs (114 + 69 * ph) (2114 + 251 * ph) (lw_Z below #[Value.ref b] s) (F0 m 18 ls []) := by
  obtain ⟨hx, hb, hr, hml, hown, hts, hXX, hbl, hlocks, hgv⟩ := id C0
  have htb : ∀ w ∈ TB, w.before #[Value.ref b] s = true := fun w hw => hts w (List.mem_filter.mp hw).1
  have C : Cx E p s m #[Value.ref b] c cL_law RL 4 := ⟨hx, hb, htb, hown, hV, hml⟩
  have hbA : ¬ AG E b := fun h => by
    have h : E.2.2.2 ≤ b := h
    omega
  have hai := ad_AI (B := s.heap.size) ho
  intro d
  induction d with
  | zero => intro q ph L I H locs ls h1 h2; omega
  | succ d ih =>
    intro q ph L I H locs ls hd hq hph hP hS hO hM hC hw hl
    have hph2 := hph.le
    have hcs : 114 + 69 * ph ≤ room_1.cells ∧ 2114 + 251 * ph ≤ room_1.slots := ⟨by show _ ≤ 600000; omega, by show _ ≤ 7302250; omega⟩
    have tail : ∀ (ph1 : Nat) (L1 : Nat → Nat → Bool) (J : Mem) (H1 : Heap) (locs1 : List Loc), 6 * q + 6 ≤ Ln → Phz xs o ph1 (q + 1) L1 → Hp E (KK (adF s.heap.size o) (zP s.heap.size ph1)) L1 (adF s.heap.size o) J H1 → va_S (AG E) s.heap H1 locs1 → IsO (KK (adF s.heap.size o) (zP s.heap.size ph1)) L1 → IsM (KK (adF s.heap.size o) (zP s.heap.size ph1)) L1 → CR (KK (adF s.heap.size o) (zP s.heap.size ph1)) L1 J J → WF J →
        W p l e room_1 s m #[Value.ref b] below meth c H1 locs1 (114 + 69 * ph1) (2114 + 251 * ph1) (lw_Z below #[Value.ref b] s) (F0 m 708 ls []) := by
      intro ph1 L1 J H1 locs1 h6 hph1 hP1 hS1 hO1 hM1 hC1 hw1
      refine lv_iinc (v := nI (6 * (q + 1))) (lv' := [(3, .int (nI (6 * (q + 1)))), (0, .ref b), (1, .ref (adF s.heap.size o 100)), (2, .ref (adF s.heap.size o 10))]) hx hb dL_law_708 hl (k := 3) rfl ?_ (by decide) rfl (fun ls hl => ?_)
      · rw [show Int32.ofInt 6 = nI 6 from rfl, nI_add, show 6 * q + 6 = 6 * (q + 1) by omega]
      · refine lv_goto (tgt := 18) hx hb dL_law_711 (by decide) ?_
        exact ih (q + 1) ph1 L1 J H1 locs1 ls (by omega) (by omega) hph1 hP1 hS1 hO1 hM1 hC1 hw1 (lv_sub hl [1, 2, 3, 0] rfl)
    refine lv_iload_n hx hb dL_law_18 rfl (lv_at hl 3 rfl) ?_
    refine lv_aload_n hx hb dL_law_19 rfl (lv_at hl 0 rfl) ?_
    refine va_slen hx hb hXX hbl hbA hS dL_law_20 ?_
    refine lv_bipush (v := nI 6) hx hb dL_law_21 (by decide) ?_
    refine lv_isub hx hb dL_law_23 ?_
    have hsub : (Int32.ofNat Ln - nI 6).toInt = (Ln : Int) - 6 := pk_sub_toInt (a := Ln) (b := 6) (by omega) (by decide)
    refine b_gt C dL_law_24 (tgt := 714) (by decide) (fun hg => ?_) (fun hg => ?_)
    · refine va_forget (fun w hw => by
        have h : E.2.2.2 ≤ w.base := hS.2.2 w hw
        omega) ?_
      refine lv_iconst (v := 1) hx hb dL_law_714 (by decide) ?_
      refine W.widen (k := 600000) (n := 7302250) (by omega) (by omega) ?_
      exact lw_ret hx hb hr hlocks dL_law_715
    · rw [hsub, nI_toInt (by omega)] at hg
      have h6 : 6 * q + 6 ≤ Ln := by omega
      refine lv_aload_n hx hb dL_law_27 rfl (lv_at hl 0 rfl) ?_
      refine lv_iload_n hx hb dL_law_28 rfl (lv_at hl 3 rfl) ?_
      refine va_sld hx hb hXX hbl hbA hS (vp_in_nI (n := 6 * q) (by omega) (by omega)) dL_law_29 ?_
      rw [nI_clamp (by omega)]
      refine lv_bipush (v := nI 31) hx hb dL_law_30 (by decide) ?_
      refine lv_iand hx hb dL_law_32 ?_
      refine lv_topi (fun w ew => ?_)
      have hno : w.toInt ≠ 17 → ph = 0 → ∀ j, j < 2 → ¬ imgAt xs q j := fun h _ j _ hi => h (by rw [ew]; exact hi.1)
      have plain : w.toInt ≠ 17 → ∀ (J : Mem) (H1 : Heap) (locs1 : List Loc), Hp E (KK (adF s.heap.size o) (zP s.heap.size ph)) L (adF s.heap.size o) J H1 → va_S (AG E) s.heap H1 locs1 → CR (KK (adF s.heap.size o) (zP s.heap.size ph)) L J J → WF J → W p l e room_1 s m #[Value.ref b] below meth c H1 locs1 (114 + 69 * ph) (2114 + 251 * ph) (lw_Z below #[Value.ref b] s) (F0 m 708 ls []) := fun h J H1 locs1 hP1 hS1 hC1 hw1 => tail ph L J H1 locs1 h6 (hph.step (hno h)) hP1 hS1 hO hM hC1 hw1
      by_cases w0 : w.toInt = 0
      · exact sw_in C dL_law_33 w0 (by decide) (by decide) (off := 95) (by decide) (tgt := 128) (by decide) (lc_table C hXX hbl hbA hl h6 hLn hP hS hO hM hC hw hcs (plain (by omega)))
      by_cases w1 : w.toInt = 1
      · exact sw_in C dL_law_33 w1 (by decide) (by decide) (off := 118) (by decide) (tgt := 151) (by decide) (lc_entry C hXX hbl hbA hl h6 hLn hP hS hO hM hC hw hcs (plain (by omega)))
      by_cases w2 : w.toInt = 2
      · exact sw_in C dL_law_33 w2 (by decide) (by decide) (off := 181) (by decide) (tgt := 214) (by decide) (lc_otherwise C hXX hbl hbA hl h6 hLn hP hS hO hM hC hw hcs (plain (by omega)))
      by_cases w3 : w.toInt = 3
      · exact sw_in C dL_law_33 w3 (by decide) (by decide) (off := 234) (by decide) (tgt := 267) (by decide) (lc_forget C hXX hbl hbA hl h6 hLn hP hS hO hM hC hw hcs (plain (by omega)))
      by_cases w4 : w.toInt = 4
      · exact sw_in C dL_law_33 w4 (by decide) (by decide) (off := 267) (by decide) (tgt := 300) (by decide) (lc_drop C hXX hbl hbA hl h6 hLn hP hS hO hM hC hw hcs (plain (by omega)))
      by_cases w5 : w.toInt = 5
      · exact sw_in C dL_law_33 w5 (by decide) (by decide) (off := 290) (by decide) (tgt := 323) (by decide) (lc_rule C hXX hbl hbA hl h6 hLn hP hS hO hM hC hw hcs (plain (by omega)))
      by_cases w6 : w.toInt = 6
      · exact sw_in C dL_law_33 w6 (by decide) (by decide) (off := 323) (by decide) (tgt := 356) (by decide) (lc_told C hXX hbl hbA hl h6 hLn hP hS hO hM hC hw hcs (plain (by omega)))
      by_cases w7 : w.toInt = 7
      · exact sw_in C dL_law_33 w7 (by decide) (by decide) (off := 356) (by decide) (tgt := 389) (by decide) (lc_needs C hXX hbl hbA hl h6 hLn hP hS hO hM hC hw hcs (plain (by omega)))
      by_cases w8 : w.toInt = 8
      · exact sw_in C dL_law_33 w8 (by decide) (by decide) (off := 389) (by decide) (tgt := 422) (by decide) (lc_stages C hXX hbl hbA hl h6 hLn hP hS hO hM hC hw hcs (plain (by omega)))
      by_cases w9 : w.toInt = 9
      · exact sw_in C dL_law_33 w9 (by decide) (by decide) (off := 402) (by decide) (tgt := 435) (by decide) (lc_stage C hXX hbl hbA hl h6 hLn hP hS hO hM hC hw hcs (plain (by omega)))
      by_cases w10 : w.toInt = 10
      · exact sw_in C dL_law_33 w10 (by decide) (by decide) (off := 435) (by decide) (tgt := 468) (by decide) (lc_fewest C hXX hbl hbA hl h6 hLn hP hS hO hM hC hw hcs (plain (by omega)))
      by_cases w11 : w.toInt = 11
      · exact sw_in C dL_law_33 w11 (by decide) (by decide) (off := 448) (by decide) (tgt := 481) (by decide) (lc_tell C hXX hbl hbA hl h6 hLn hP hS hO hM hC hw hcs (plain (by omega)))
      by_cases w12 : w.toInt = 12
      · exact sw_in C dL_law_33 w12 (by decide) (by decide) (off := 481) (by decide) (tgt := 514) (by decide) (lc_put C hXX hbl hbA hl h6 hLn hP hS hO hM hC hw hcs (plain (by omega)))
      by_cases w13 : w.toInt = 13
      · exact sw_in C dL_law_33 w13 (by decide) (by decide) (off := 514) (by decide) (tgt := 547) (by decide) (lc_register C hXX hbl hbA hl h6 hLn hP hS hO hM hC hw hcs (plain (by omega)))
      by_cases w14 : w.toInt = 14
      · exact sw_in C dL_law_33 w14 (by decide) (by decide) (off := 537) (by decide) (tgt := 570) (by decide) (lc_run C hXX hbl hbA hl h6 hLn hP hS hO hM hC hw hcs (plain (by omega)))
      by_cases w15 : w.toInt = 15
      · exact sw_in C dL_law_33 w15 (by decide) (by decide) (off := 550) (by decide) (tgt := 583) (by decide) (lc_out C hXX hbl hbA hl h6 hLn hP hS hO hM hC hw hcs (plain (by omega)))
      by_cases w16 : w.toInt = 16
      · exact sw_in C dL_law_33 w16 (by decide) (by decide) (off := 573) (by decide) (tgt := 606) (by decide) (lc_took C hXX hbl hbA hl h6 hLn hP hS hO hM hC hw hcs (plain (by omega)))
      by_cases w18 : w.toInt = 18
      · exact sw_in C dL_law_33 w18 (by decide) (by decide) (off := 629) (by decide) (tgt := 662) (by decide) (lc_restore C hXX hbl hbA hl h6 hLn hP hS hO hM hC hw hcs (plain (by omega)))
      by_cases w19 : w.toInt = 19
      · exact sw_in C dL_law_33 w19 (by decide) (by decide) (off := 652) (by decide) (tgt := 685) (by decide) (lc_count C hXX hbl hbA hl h6 hLn hP hS hO hM hC hw hcs (plain (by omega)))
      by_cases w17 : w.toInt = 17
      · refine sw_in C dL_law_33 w17 (by decide) (by decide) (off := 606) (by decide) (tgt := 639) (by decide) ?_
        by_cases hN : ∃ j, j < 2 ∧ xs (6 * q + 1) = nI j ∧ L 150 j = false
        · obtain ⟨j, hj, hxj, hLj⟩ := hN
          have himg : imgAt xs q j := ⟨by rw [← ew]; exact w17, hxj⟩
          have hph1 : ph ≤ 1 := by
            rcases hph with ⟨h0, -⟩ | ⟨h0, -⟩ | ⟨h0, h1, h2⟩
            · omega
            · omega
            · rcases (show j = 0 ∨ j = 1 by omega) with rfl | rfl
              · rw [h1] at hLj; cases hLj
              · rw [h2] at hLj; cases hLj
          have hob : zP s.heap.size ph = s.heap.size + obs o j := by
            unfold zP obs
            rcases hph with ⟨h0, -, -, h3⟩ | ⟨h0, h1, h2⟩ | ⟨h0, -⟩
            · rw [if_pos (hord q j h3 himg hj), h0]
            · rw [if_neg (fun w => by rw [w, h1] at hLj; cases hLj), h0]
            · omega
          refine W.sz fun hsz => ?_
          have hlo := z_lo ho hph1 hP
          have hz : H.size = zP s.heap.size ph := by
            unfold zP at hlo ⊢; omega
          refine lc_imgN C hXX hbl hbA hl h6 hLn hai hXF hP hz hS hO hM hC hw ⟨by show _ ≤ 600000; omega, by show _ ≤ 7302250; omega⟩ hj hxj hLj (by rw [hob, ← off_ib o ho j hj]; rfl) (fun a g1 g2 => by
            have e1 := off_ip o ho j hj a (by omega)
            unfold adF
            rw [e1, hob]; omega) (fun a g1 g2 => by
            have e1 := off_iq ho hj g1 g2
            unfold adF
            rw [e1, hob]; omega) (fun L9 J H1 locs1 hP1 hS1 hO1 hM1 hC1 hw1 hL9 hL9n => ?_)
          have ez : zP s.heap.size ph + 69 = zP s.heap.size (ph + 1) := by unfold zP; omega
          rw [ez] at hP1 hO1 hM1 hC1
          have ec : 114 + 69 * ph + 69 = 114 + 69 * (ph + 1) := by omega
          have es : 2114 + 251 * ph + 251 = 2114 + 251 * (ph + 1) := by omega
          rw [ec, es]
          refine tail (ph + 1) L9 J H1 locs1 h6 ?_ hP1 hS1 hO1 hM1 hC1 hw1
          rcases hph with ⟨h0, h1, h2, h3⟩ | ⟨h0, h1, h2⟩ | ⟨h0, -⟩
          · have ej := hord q j h3 himg hj
            subst ej
            refine Or.inr (Or.inl ⟨by omega, hL9, ?_⟩)
            rw [hL9n (1 - j) (by omega)]
            rcases (show j = 0 ∨ j = 1 by omega) with rfl | rfl
            · exact h2
            · exact h1
          · have hjo : j ≠ o := fun w => by rw [w, h1] at hLj; cases hLj
            refine Or.inr (Or.inr ⟨by omega, ?_⟩)
            have hb2 : ∀ i, i < 2 → L9 150 i = true := fun i hi => by
              by_cases w : i = j
              · rw [w]; exact hL9
              · rw [hL9n i w, show i = o by omega]; exact h1
            exact ⟨hb2 0 (by decide), hb2 1 (by decide)⟩
          · omega
        · refine lc_image C hXX hbl hbA hl h6 hLn hP hS hO hM hC hw hcs (fun j hxj hj => ?_) (fun J H1 locs1 hP1 hS1 hC1 hw1 => tail ph L J H1 locs1 h6 (hph.step (fun h0 j hj hi => ?_)) hP1 hS1 hO hM hC1 hw1)
          · cases hv : L 150 j with
            | true => rfl
            | false => exact absurd ⟨j, hj, hxj, hv⟩ hN
          · refine hN ⟨j, hj, hi.2, ?_⟩
            rcases hph with ⟨-, h1, h2, -⟩ | ⟨h1, -⟩ | ⟨h1, -⟩
            · rcases (show j = 0 ∨ j = 1 by omega) with rfl | rfl
              · exact h1
              · exact h2
            · omega
            · omega
      refine lv_tableOut hx hb dL_law_33 (by omega) (tgt := 708) (by decide) ?_
      exact plain w17 I H locs hP hS hC hw
end LL
