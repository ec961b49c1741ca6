/-! the spec looks at rows below 100 alone -/
def Lo (σ τ : Mem) : Prop := ∀ a, a < 100 → σ a = τ a
theorem Lo.symm {σ τ : Mem} (h : Lo σ τ) : Lo τ σ := fun a ha => (h a ha).symm
theorem Lo.trans {σ τ ρ : Mem} (h : Lo σ τ) (g : Lo τ ρ) : Lo σ ρ := fun a ha => (h a ha).trans (g a ha)
theorem Lo.up {σ τ : Mem} {r k : Nat} {v : Int32} (h : Lo σ τ) : Lo (up2 σ r k v) (up2 τ r k v) := fun a ha => by
  funext j; rw [up2_eq, up2_eq, h a ha]
theorem lo_mn {σ τ : Mem} (h : Lo σ τ) : mn σ = mn τ := by unfold mn; rw [h 10 (by decide)]
theorem lo_en {σ τ : Mem} (h : Lo σ τ) : en σ = en τ := by funext t; unfold en; rw [h 12 (by decide)]
theorem lo_ru {σ τ : Mem} (h : Lo σ τ) : ru σ = ru τ := by funext t; unfold ru; rw [h 19 (by decide)]
theorem lo_wr {σ τ : Mem} (h : Lo σ τ) : wrS σ = wrS τ := by funext t; unfold wrS; rw [lo_en h, h 14 (by decide), h 15 (by decide)]
theorem lo_rd {σ τ : Mem} (h : Lo σ τ) : rdS σ = rdS τ := by funext t; unfold rdS; rw [lo_en h, h 11 (by decide), h 14 (by decide), h 15 (by decide), h 16 (by decide)]
theorem lo_rg {σ τ : Mem} (h : Lo σ τ) : rgS σ = rgS τ := by funext t; unfold rgS; rw [lo_en h, h 14 (by decide), h 16 (by decide)]
theorem lo_nd {σ τ : Mem} (h : Lo σ τ) : nd σ = nd τ := by funext e t; unfold nd; rw [lo_wr h, lo_rd h, h 11 (by decide)]
theorem lo_lvA {σ τ : Mem} (h : Lo σ τ) : ∀ t, lvA σ t = lvA τ t
  | 0 => rfl
  | t + 1 => by simp only [lvA]; rw [lo_lvA h t, lo_nd h]
theorem lo_lev {σ τ : Mem} (h : Lo σ τ) : lev σ = lev τ := by funext t; unfold lev; rw [lo_lvA h]
theorem lo_lsP {σ τ : Mem} (h : Lo σ τ) : lsP σ = lsP τ := by funext pl t j; unfold lsP; rw [lo_nd h]
theorem lo_szP1 {σ τ : Mem} (h : Lo σ τ) (pl : Nat → Nat) (s : Nat) : ∀ t, szP σ pl s t = szP τ pl s t
  | 0 => rfl
  | t + 1 => by simp only [szP]; rw [lo_szP1 h pl s t, lo_en h]
theorem lo_szP {σ τ : Mem} (h : Lo σ τ) : szP σ = szP τ := by funext pl s t; exact lo_szP1 h pl s t
theorem lo_srch {σ τ : Mem} (h : Lo σ τ) (pl : Nat → Nat) (t : Nat) : ∀ d s, srch σ pl t d s = srch τ pl t d s
  | 0, _ => rfl
  | d + 1, s => by
    have e : ftS σ pl t s ↔ ftS τ pl t s := by unfold ftS; rw [lo_szP h, lo_ru h, lo_en h]
    simp only [srch]; rw [lo_srch h pl t d]
    by_cases q : ftS σ pl t s
    · rw [if_pos q, if_pos (e.mp q)]
    · rw [if_neg q, if_neg (fun z => q (e.mpr z))]
theorem lo_pkS {σ τ : Mem} (h : Lo σ τ) : ∀ t, pkS σ t = pkS τ t
  | 0 => rfl
  | t + 1 => by
    simp only [pkS]
    rw [lo_pkS h t]
    cases pkS τ t with
    | none => rfl
    | some pl => dsimp only; rw [lo_srch h, lo_lsP h, lo_ru h]
theorem lo_tk {σ τ : Mem} (h : Lo σ τ) (t0 : Nat) (x : Int32) : tk σ t0 x ↔ tk τ t0 x := by
  unfold tk tkO; rw [lo_mn h, lo_rg h]
theorem lo_stT {σ τ : Mem} (h : Lo σ τ) : stT σ = stT τ := by funext t S; unfold stT; rw [lo_en h, h 11 (by decide), h 13 (by decide)]
theorem lo_rnd {σ τ : Mem} (h : Lo σ τ) : ∀ t S, rnd σ t S = rnd τ t S
  | 0, _ => rfl
  | t + 1, S => by simp only [rnd]; rw [lo_rnd h t S, lo_stT h, h 14 (by decide), h 15 (by decide), h 16 (by decide)]
theorem lo_itR {σ τ : Mem} (h : Lo σ τ) (S : PSt) : ∀ i, itR σ S i = itR τ S i
  | 0 => rfl
  | i + 1 => by simp only [itR]; rw [lo_itR h S i, lo_mn h, lo_rnd h]
theorem lo_rnN {σ τ : Mem} (h : Lo σ τ) (S : PSt) : ∀ d i, rnN σ S d i = rnN τ S d i
  | 0, _ => rfl
  | d + 1, i => by simp only [rnN]; rw [lo_rnN h S d, lo_itR h]
theorem lo_pS0 {σ τ : Mem} (h : Lo σ τ) : pS0 σ = pS0 τ := by unfold pS0; rw [h 18 (by decide), h 17 (by decide)]
theorem lo_rN {σ τ : Mem} (h : Lo σ τ) : rN σ = rN τ := by unfold rN; rw [lo_rnN h, lo_pS0 h, lo_ru h]
theorem lo_rS {σ τ : Mem} (h : Lo σ τ) : rS σ = rS τ := by unfold rS; rw [lo_itR h, lo_pS0 h, lo_rN h]
theorem lo_tk1 {σ τ : Mem} (h : Lo σ τ) : tk1 σ = tk1 τ := by
  funext S t; unfold tk1; rw [lo_mn h, lo_stT h, lo_rnd h]
theorem lo_sRun {σ τ : Mem} (h : Lo σ τ) : sRun σ = sRun τ := by unfold sRun; rw [lo_mn h, lo_pkS h, lo_rS h]
theorem lo_mfS {σ τ : Mem} (h : Lo σ τ) : mfS σ = mfS τ := by funext t; unfold mfS mfF; rw [lo_nd h]
theorem lo_mjS {σ τ : Mem} (h : Lo σ τ) : mjS σ = mjS τ := by funext t; unfold mjS mjF; rw [lo_nd h]
theorem lo_szS1 {σ τ : Mem} (h : Lo σ τ) (S : Nat) : ∀ t, szS σ S t = szS τ S t
  | 0 => rfl
  | t + 1 => by simp only [szS]; rw [lo_szS1 h S t, lo_en h]
theorem lo_okS {σ τ : Mem} (h : Lo σ τ) : okS σ = okS τ := by
  funext B S; unfold okS fitS; rw [lo_ru h, lo_mn h, lo_mfS h, lo_mjS h, lo_szS1 h]
theorem lo_cnd {σ τ : Mem} (h : Lo σ τ) : cnd σ = cnd τ := by funext A D S k; unfold cnd; rw [lo_okS h]
theorem lo_Fw {σ τ : Mem} (h : Lo σ τ) : Fw σ = Fw τ := by funext A; unfold Fw; rw [lo_mn h, lo_cnd h]
theorem lo_sFew {σ τ : Mem} (h : Lo σ τ) : sFew σ = sFew τ := by funext r; unfold sFew; rw [lo_mn h, lo_Fw h]
theorem lo_WFt {σ τ : Mem} (h : Lo σ τ) : WFt σ = WFt τ := by
  funext t; unfold WFt; rw [lo_en h, h 11 (by decide), h 12 (by decide), h 13 (by decide), h 14 (by decide), h 15 (by decide), h 16 (by decide)]
theorem lo_WF {σ τ : Mem} (h : Lo σ τ) : WF σ = WF τ := by
  unfold WF; rw [lo_mn h, lo_WFt h, h 10 (by decide), h 17 (by decide), h 18 (by decide), h 19 (by decide)]
/-! what tells only -/
theorem lo_sReg {σ τ : Mem} (h : Lo σ τ) (r : Int32) : sReg σ r = sReg τ r := by unfold sReg; rw [h 17 (by decide)]
theorem lo_sNeeds {σ τ : Mem} (h : Lo σ τ) (a b : Int32) : sNeeds σ a b = sNeeds τ a b := by unfold sNeeds isTb; rw [lo_mn h, lo_nd h]
theorem lo_sTold {σ τ : Mem} (h : Lo σ τ) (t w : Int32) : sTold σ t w = sTold τ t w := by
  have e14 : (fun (e : Nat) (k : Nat) => σ (14 + k) (5 * tn t + e)) = fun e k => if k < 86 then τ (14 + k) (5 * tn t + e) else σ (14 + k) (5 * tn t + e) := by
    funext e k; by_cases q : k < 86
    · rw [if_pos q, h (14 + k) (by omega)]
    · rw [if_neg q]
  have hp : ∀ (n : Nat) (v : Nat → Int32) (f g : Nat → Nat → Int32), (∀ e k, k < 3 → f e k = g e k) → prt n v f w = prt n v g w := fun n v f g hfg => by
    unfold prt pick
    simp only [hfg _ 0 (by decide), hfg _ 1 (by decide), hfg _ 2 (by decide)]
  unfold sTold isTb
  rw [lo_mn h, lo_lev h, lo_pkS h, lo_wr h, lo_rd h, lo_rg h, lo_en h, h 11 (by decide), h 12 (by decide), h 13 (by decide), hp _ _ _ (fun e k => τ (14 + k) (5 * tn t + e)) (fun e k hk => by rw [h (14 + k) (by omega)])]
theorem lo_sStages {σ τ : Mem} (h : Lo σ τ) : sStages σ = sStages τ := by unfold sStages; rw [lo_mn h, lo_pkS h]
theorem lo_sStage {σ τ : Mem} (h : Lo σ τ) (i w : Int32) : sStage σ i w = sStage τ i w := by unfold sStage; rw [lo_mn h, lo_pkS h, lo_szP h]
theorem lo_sOut {σ τ : Mem} (h : Lo σ τ) (w : Int32) : sOut σ w = sOut τ w := by unfold sOut; rw [h 10 (by decide), h 27 (by decide)]
theorem lo_sTook {σ τ : Mem} (h : Lo σ τ) (t r : Int32) : sTook σ t r = sTook τ t r := by unfold sTook; rw [h 10 (by decide), h 31 (by decide)]
theorem lo_sCount {σ τ : Mem} (h : Lo σ τ) (w : Int32) : sCount σ w = sCount τ w := by unfold sCount; rw [lo_mn h, lo_pkS h, h 10 (by decide), h 19 (by decide), h 36 (by decide), h 18 (by decide)]
/-! what changes: the answer, rows below 100, rows from 100 on -/
def Lcl (f : Mem → Int32 × Mem) : Prop := (∀ σ τ, Lo σ τ → (f σ).1 = (f τ).1 ∧ Lo (f σ).2 (f τ).2) ∧ ∀ σ a, 100 ≤ a → (f σ).2 a = σ a
theorem lo_lay {σ τ : Mem} {w : Nat} {k t x : Int32} (h : Lo σ τ) : Lo (layS σ w k t x) (layS τ w k t x) := h.up.up.up
theorem lay_hi {σ : Mem} {w : Nat} {k t x : Int32} {a : Nat} (ha : 100 ≤ a) : layS σ w k t x a = σ a := by unfold layS; rw [up2_r (by omega), up2_r (by omega), up2_r (by omega)]
theorem loc_table (k : Int32) : Lcl (fun σ => sTable σ k) := by
  refine ⟨fun σ τ h => ?_, fun σ a ha => ?_⟩
  · dsimp only; unfold sTable; rw [lo_mn h]
    repeat' split
    · exact ⟨rfl, h⟩
    · exact ⟨rfl, (lo_lay h.up.up).up⟩
    · exact ⟨rfl, h⟩
  · dsimp only; unfold sTable
    repeat' split
    · rfl
    · dsimp only; rw [up2_r (by omega), lay_hi ha, up2_r (by omega), up2_r (by omega)]
    · rfl
theorem loc_entry (t v k g x : Int32) : Lcl (fun σ => sEntry σ t v k g x) := by
  refine ⟨fun σ τ h => ?_, fun σ a ha => ?_⟩
  · dsimp only; unfold sEntry isTb tk tkO; rw [lo_mn h, lo_en h, h 13 (by decide), lo_rg h]
    repeat' split
    all_goals first | exact ⟨rfl, h⟩ | exact ⟨rfl, (lo_lay h.up).up⟩
  · dsimp only; unfold sEntry
    repeat' split
    all_goals first | rfl | (dsimp only; rw [up2_r (by omega), lay_hi ha, up2_r (by omega)])
theorem loc_other (t k g x : Int32) : Lcl (fun σ => sOther σ t k g x) := by
  refine ⟨fun σ τ h => ?_, fun σ a ha => ?_⟩
  · dsimp only; unfold sOther isTb tk tkO; rw [lo_mn h, lo_rg h, h 14 (by decide)]
    repeat' split
    all_goals first | exact ⟨rfl, h⟩ | exact ⟨rfl, lo_lay h⟩
  · dsimp only; unfold sOther
    repeat' split
    all_goals first | rfl | (dsimp only; rw [lay_hi ha])
theorem loc_forget (t e : Int32) : Lcl (fun σ => sForget σ t e) := by
  refine ⟨fun σ τ h => ?_, fun σ a ha => ?_⟩
  · dsimp only; unfold sForget isTb; rw [lo_mn h, lo_en h]
    repeat' split
    · exact ⟨rfl, fun a ha => by unfold fgU; funext i; dsimp only; rw [h a ha]⟩
    all_goals exact ⟨rfl, h⟩
  · dsimp only; unfold sForget
    repeat' split
    · unfold fgU; dsimp only; funext i; rw [if_neg (by omega), if_neg (by omega)]
    all_goals rfl
theorem loc_drop (t : Int32) : Lcl (fun σ => sDrop σ t) := by
  refine ⟨fun σ τ h => ?_, fun σ a ha => ?_⟩
  · dsimp only; unfold sDrop isTb; rw [lo_mn h]
    repeat' split
    · exact ⟨rfl, fun a ha => by unfold drU; funext i; dsimp only; rw [h a ha]⟩
    all_goals exact ⟨rfl, h⟩
  · dsimp only; unfold sDrop
    repeat' split
    · unfold drU; dsimp only; funext i; rw [if_neg (by omega), if_neg (by omega), if_neg (by omega)]
    all_goals rfl
theorem loc_rule (w n : Int32) : Lcl (fun σ => sRule σ w n) := by
  refine ⟨fun σ τ h => ?_, fun σ a ha => ?_⟩
  · dsimp only; unfold sRule; rw [h 19 (by decide)]
    repeat' split
    · exact ⟨rfl, h.up⟩
    all_goals exact ⟨rfl, h⟩
  · dsimp only; unfold sRule
    repeat' split
    · dsimp only; rw [up2_r (by omega)]
    all_goals rfl
theorem loc_tell (f n : Int32) : Lcl (fun σ => sTell σ f n) := by
  refine ⟨fun σ τ h => ?_, fun σ a ha => ?_⟩
  · dsimp only; unfold sTell; rw [h 18 (by decide)]
    repeat' split
    · exact ⟨rfl, h.up⟩
    all_goals exact ⟨rfl, h⟩
  · dsimp only; unfold sTell
    repeat' split
    · dsimp only; rw [up2_r (by omega)]
    all_goals rfl
theorem loc_put (f n : Int32) : Lcl (fun σ => sPut σ f n) := by
  refine ⟨fun σ τ h => ?_, fun σ a ha => ?_⟩
  · dsimp only; unfold sPut; rw [h 17 (by decide)]
    repeat' split
    · exact ⟨rfl, h.up⟩
    all_goals exact ⟨rfl, h⟩
  · dsimp only; unfold sPut
    repeat' split
    · dsimp only; rw [up2_r (by omega)]
    all_goals rfl
theorem lo_imS {σ τ : Mem} (h : Lo σ τ) : imS σ = imS τ := by
  funext o; unfold imS; rw [h 10 (by decide), h 11 (by decide), h 12 (by decide), h 13 (by decide), h 14 (by decide), h 15 (by decide), h 16 (by decide), h 17 (by decide), h 18 (by decide), h 19 (by decide)]
theorem loc_image (k : Int32) : Lcl (fun σ => sImage σ k) := by
  refine ⟨fun σ τ h => ?_, fun σ a ha => ?_⟩
  · dsimp only; unfold sImage
    repeat' split
    · refine ⟨rfl, ?_⟩
      dsimp only; unfold imU
      refine Lo.up fun a ha => ?_
      funext i; simp only [IMf]; rw [h a ha, lo_imS h]
    all_goals exact ⟨rfl, h⟩
  · dsimp only; unfold sImage
    repeat' split
    · dsimp only; unfold imU; rw [up2_r (by omega), IM_r (by omega)]
    all_goals rfl
theorem ofs_hi {a i : Nat} (h : ofs a i < 191) : 10 ≤ a ∧ a ≤ 19 := by
  unfold ofs at h
  repeat' split at h
  all_goals first | omega | (exfalso; omega)
theorem loc_rest (k : Int32) : Lcl (fun σ => sRest σ k) := by
  refine ⟨fun σ τ h => ?_, fun σ a ha => ?_⟩
  · dsimp only; unfold sRest; rw [h 36 (by decide)]
    repeat' split
    · exact ⟨rfl, h⟩
    · exact ⟨rfl, fun a ha => by dsimp only; unfold reU REf; funext i; rw [h 35 (by decide), h a ha]⟩
    all_goals exact ⟨rfl, h⟩
  · dsimp only; unfold sRest
    repeat' split
    · rfl
    · dsimp only; unfold reU REf; funext i; rw [if_neg (fun q => by have := ofs_hi q.1; omega)]
    all_goals rfl
