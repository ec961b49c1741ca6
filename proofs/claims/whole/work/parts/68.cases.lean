/-! the cases of the law's switch: both sides asked, the answers agree, the world stands again -/
section LC
variable {p : Program} {l : Launch} {e : Env} {s : State} {m : MethodId} {args : Array Value} {below : List Frame} {meth : Method} {c : Code} {H : Heap} {locs : List Loc} {cells slots : Nat} {Q : State → Prop}
variable {ls : Array Slot} {rest : List Value} {E : En} {K : Nat → Nat} {L : Nat → Nat → Bool} {ad : Nat → Nat} {I : Mem} {R : Room}
theorem sc_ld {b Ln i k pc : Nat} {n : Int} {xs : Nat → Int32} (C : Cx E p s m args c cL_law RL 4) (hXX : va_X b Ln xs s s.heap) (hbl : b < s.heap.size) (hbA : ¬ AG E b) (hS : va_S (AG E) s.heap H locs) (hl : lv_has ls 4 [(0, .ref b), (1, .ref (ad 100)), (2, .ref (ad 10)), (3, .int (nI i))]) (hi : i + k < Ln) (hLn : Ln ≤ 3072) (d0 : decode cL_law pc = .ok (.aload_n 0, 1)) (d1 : decode cL_law (pc + 1) = .ok (.iload_n 3, 1)) (d2 : decode cL_law (pc + 2) = .ok (.iconst n, 1)) (hn : Int32.ofInt n = nI k) (d3 : decode cL_law (pc + 3) = .ok (.iadd, 1)) (d4 : decode cL_law (pc + 4) = .ok (.iaload, 1))
    (kk : W p l e R s m args below meth c H locs cells slots Q (F0 m (pc + 5) ls (.int (xs (i + k)) :: rest))) : W p l e R s m args below meth c H locs cells slots Q (F0 m pc ls rest) := by
  refine lv_aload_n C.1 C.2.1 d0 rfl (lv_at hl 0 rfl) ?_
  refine lv_iload_n C.1 C.2.1 d1 rfl (lv_at hl 3 rfl) ?_
  refine lv_iconst (v := nI k) C.1 C.2.1 d2 hn ?_
  refine r_addN C d3 ?_
  refine va_sld C.1 C.2.1 hXX hbl hbA hS (vp_in_nI hi (by omega)) d4 ?_
  rw [nI_clamp (by omega)]
  exact kk
set_option maxHeartbeats 1000000 in
theorem lc_table {b Ln i : Nat} {xs : Nat → Int32} (C : Cx E p s m args c cL_law RL 4) (hXX : va_X b Ln xs s s.heap) (hbl : b < s.heap.size) (hbA : ¬ AG E b) (hl : lv_has ls 4 [(0, .ref b), (1, .ref (ad 100)), (2, .ref (ad 10)), (3, .int (nI i))]) (hi : i + 6 ≤ Ln) (hLn : Ln ≤ 3072) (hP : Hp E K L ad I H) (hS : va_S (AG E) s.heap H locs) (hO : IsO K L) (hM : IsM K L) (hC : CR K L I I) (hw : WF I) (hcs : cells ≤ room_1.cells ∧ slots ≤ room_1.slots)
    (kk : ∀ (J : Mem) (H1 : Heap) (locs1 : List Loc), Hp E K L ad J H1 → va_S (AG E) s.heap H1 locs1 → CR K L J J → WF J → W p l e room_1 s m args below meth c H1 locs1 cells slots Q (F0 m 708 ls [])) : W p l e room_1 s m args below meth c H locs cells slots Q (F0 m 128 ls []) := by
  refine lv_aload_n C.1 C.2.1 dL_law_128 rfl (lv_at hl 1 rfl) ?_
  refine sc_ld (k := 1) C hXX hbl hbA hS hl (by omega) hLn dL_law_129 dL_law_130 dL_law_131 (by decide) dL_law_132 dL_law_133 ?_
  refine k_L_13 C hP hS hO.1 (c_X6_table (xs (i + 1)) hO hC hw) ⟨Nat.le_of_ble_eq_true rfl, Nat.le_of_ble_eq_true rfl⟩ hcs hl.1 (Nat.le_of_ble_eq_true rfl) dL_law_134 (fun v J H locs hv hP hS => ?_)
  obtain ⟨ev, hCJ, hLo⟩ := hv
  have hLo : Lo I J := fun a ha => (hLo a ha).symm
  have hwJ : WF J := by rw [← lo_WF hLo]; exact hw
  refine lv_aload_n C.1 C.2.1 dL_law_137 rfl (lv_at hl 2 rfl) ?_
  refine sc_ld (k := 1) C hXX hbl hbA hS hl (by omega) hLn dL_law_138 dL_law_139 dL_law_140 (by decide) dL_law_141 dL_law_142 ?_
  refine k_L_17 C hP hS hM.1 (c_X7_table (xs (i + 1)) hM hwJ) ⟨Nat.le_of_ble_eq_true rfl, Nat.le_of_ble_eq_true rfl⟩ hcs hl.1 (Nat.le_of_ble_eq_true rfl) dL_law_143 (fun v2 J2 H locs hv2 hP hS => ?_)
  obtain ⟨ee, hC2, hw2⟩ := st_pair (f := fun σ => sTable σ (xs (i + 1))) (loc_table (xs (i + 1))) (wf_table (xs (i + 1)) hw) hLo ev hCJ hv2.1 hv2.2
  exact b_eq C dL_law_146 (tgt := 708) (by decide) (fun _ => kk J2 H locs hP hS hC2 hw2) (fun h => absurd ee h)
set_option maxHeartbeats 1000000 in
theorem lc_entry {b Ln i : Nat} {xs : Nat → Int32} (C : Cx E p s m args c cL_law RL 4) (hXX : va_X b Ln xs s s.heap) (hbl : b < s.heap.size) (hbA : ¬ AG E b) (hl : lv_has ls 4 [(0, .ref b), (1, .ref (ad 100)), (2, .ref (ad 10)), (3, .int (nI i))]) (hi : i + 6 ≤ Ln) (hLn : Ln ≤ 3072) (hP : Hp E K L ad I H) (hS : va_S (AG E) s.heap H locs) (hO : IsO K L) (hM : IsM K L) (hC : CR K L I I) (hw : WF I) (hcs : cells ≤ room_1.cells ∧ slots ≤ room_1.slots)
    (kk : ∀ (J : Mem) (H1 : Heap) (locs1 : List Loc), Hp E K L ad J H1 → va_S (AG E) s.heap H1 locs1 → CR K L J J → WF J → W p l e room_1 s m args below meth c H1 locs1 cells slots Q (F0 m 708 ls [])) : W p l e room_1 s m args below meth c H locs cells slots Q (F0 m 151 ls []) := by
  refine lv_aload_n C.1 C.2.1 dL_law_151 rfl (lv_at hl 1 rfl) ?_
  refine sc_ld (k := 1) C hXX hbl hbA hS hl (by omega) hLn dL_law_152 dL_law_153 dL_law_154 (by decide) dL_law_155 dL_law_156 ?_
  refine sc_ld (k := 2) C hXX hbl hbA hS hl (by omega) hLn dL_law_157 dL_law_158 dL_law_159 (by decide) dL_law_160 dL_law_161 ?_
  refine sc_ld (k := 3) C hXX hbl hbA hS hl (by omega) hLn dL_law_162 dL_law_163 dL_law_164 (by decide) dL_law_165 dL_law_166 ?_
  refine sc_ld (k := 4) C hXX hbl hbA hS hl (by omega) hLn dL_law_167 dL_law_168 dL_law_169 (by decide) dL_law_170 dL_law_171 ?_
  refine sc_ld (k := 5) C hXX hbl hbA hS hl (by omega) hLn dL_law_172 dL_law_173 dL_law_174 (by decide) dL_law_175 dL_law_176 ?_
  refine k_L_18 C hP hS hO.1 (c_X6_entry (xs (i + 1)) (xs (i + 2)) (xs (i + 3)) (xs (i + 4)) (xs (i + 5)) hO hC hw) ⟨Nat.le_of_ble_eq_true rfl, Nat.le_of_ble_eq_true rfl⟩ hcs hl.1 (Nat.le_of_ble_eq_true rfl) dL_law_177 (fun v J H locs hv hP hS => ?_)
  obtain ⟨ev, hCJ, hLo⟩ := hv
  have hLo : Lo I J := fun a ha => (hLo a ha).symm
  have hwJ : WF J := by rw [← lo_WF hLo]; exact hw
  refine lv_aload_n C.1 C.2.1 dL_law_180 rfl (lv_at hl 2 rfl) ?_
  refine sc_ld (k := 1) C hXX hbl hbA hS hl (by omega) hLn dL_law_181 dL_law_182 dL_law_183 (by decide) dL_law_184 dL_law_185 ?_
  refine sc_ld (k := 2) C hXX hbl hbA hS hl (by omega) hLn dL_law_186 dL_law_187 dL_law_188 (by decide) dL_law_189 dL_law_190 ?_
  refine sc_ld (k := 3) C hXX hbl hbA hS hl (by omega) hLn dL_law_191 dL_law_192 dL_law_193 (by decide) dL_law_194 dL_law_195 ?_
  refine sc_ld (k := 4) C hXX hbl hbA hS hl (by omega) hLn dL_law_196 dL_law_197 dL_law_198 (by decide) dL_law_199 dL_law_200 ?_
  refine sc_ld (k := 5) C hXX hbl hbA hS hl (by omega) hLn dL_law_201 dL_law_202 dL_law_203 (by decide) dL_law_204 dL_law_205 ?_
  refine k_L_22 C hP hS hM.1 (c_X7_entry (xs (i + 1)) (xs (i + 2)) (xs (i + 3)) (xs (i + 4)) (xs (i + 5)) hM hwJ) ⟨Nat.le_of_ble_eq_true rfl, Nat.le_of_ble_eq_true rfl⟩ hcs hl.1 (Nat.le_of_ble_eq_true rfl) dL_law_206 (fun v2 J2 H locs hv2 hP hS => ?_)
  obtain ⟨ee, hC2, hw2⟩ := st_pair (f := fun σ => sEntry σ (xs (i + 1)) (xs (i + 2)) (xs (i + 3)) (xs (i + 4)) (xs (i + 5))) (loc_entry (xs (i + 1)) (xs (i + 2)) (xs (i + 3)) (xs (i + 4)) (xs (i + 5))) (wf_entry (xs (i + 1)) (xs (i + 2)) (xs (i + 3)) (xs (i + 4)) (xs (i + 5)) hw) hLo ev hCJ hv2.1 hv2.2
  exact b_eq C dL_law_209 (tgt := 708) (by decide) (fun _ => kk J2 H locs hP hS hC2 hw2) (fun h => absurd ee h)
set_option maxHeartbeats 1000000 in
theorem lc_otherwise {b Ln i : Nat} {xs : Nat → Int32} (C : Cx E p s m args c cL_law RL 4) (hXX : va_X b Ln xs s s.heap) (hbl : b < s.heap.size) (hbA : ¬ AG E b) (hl : lv_has ls 4 [(0, .ref b), (1, .ref (ad 100)), (2, .ref (ad 10)), (3, .int (nI i))]) (hi : i + 6 ≤ Ln) (hLn : Ln ≤ 3072) (hP : Hp E K L ad I H) (hS : va_S (AG E) s.heap H locs) (hO : IsO K L) (hM : IsM K L) (hC : CR K L I I) (hw : WF I) (hcs : cells ≤ room_1.cells ∧ slots ≤ room_1.slots)
    (kk : ∀ (J : Mem) (H1 : Heap) (locs1 : List Loc), Hp E K L ad J H1 → va_S (AG E) s.heap H1 locs1 → CR K L J J → WF J → W p l e room_1 s m args below meth c H1 locs1 cells slots Q (F0 m 708 ls [])) : W p l e room_1 s m args below meth c H locs cells slots Q (F0 m 214 ls []) := by
  refine lv_aload_n C.1 C.2.1 dL_law_214 rfl (lv_at hl 1 rfl) ?_
  refine sc_ld (k := 1) C hXX hbl hbA hS hl (by omega) hLn dL_law_215 dL_law_216 dL_law_217 (by decide) dL_law_218 dL_law_219 ?_
  refine sc_ld (k := 2) C hXX hbl hbA hS hl (by omega) hLn dL_law_220 dL_law_221 dL_law_222 (by decide) dL_law_223 dL_law_224 ?_
  refine sc_ld (k := 3) C hXX hbl hbA hS hl (by omega) hLn dL_law_225 dL_law_226 dL_law_227 (by decide) dL_law_228 dL_law_229 ?_
  refine sc_ld (k := 4) C hXX hbl hbA hS hl (by omega) hLn dL_law_230 dL_law_231 dL_law_232 (by decide) dL_law_233 dL_law_234 ?_
  refine k_L_23 C hP hS hO.1 (c_X6_otherwise (xs (i + 1)) (xs (i + 2)) (xs (i + 3)) (xs (i + 4)) hO hC hw) ⟨Nat.le_of_ble_eq_true rfl, Nat.le_of_ble_eq_true rfl⟩ hcs hl.1 (Nat.le_of_ble_eq_true rfl) dL_law_235 (fun v J H locs hv hP hS => ?_)
  obtain ⟨ev, hCJ, hLo⟩ := hv
  have hLo : Lo I J := fun a ha => (hLo a ha).symm
  have hwJ : WF J := by rw [← lo_WF hLo]; exact hw
  refine lv_aload_n C.1 C.2.1 dL_law_238 rfl (lv_at hl 2 rfl) ?_
  refine sc_ld (k := 1) C hXX hbl hbA hS hl (by omega) hLn dL_law_239 dL_law_240 dL_law_241 (by decide) dL_law_242 dL_law_243 ?_
  refine sc_ld (k := 2) C hXX hbl hbA hS hl (by omega) hLn dL_law_244 dL_law_245 dL_law_246 (by decide) dL_law_247 dL_law_248 ?_
  refine sc_ld (k := 3) C hXX hbl hbA hS hl (by omega) hLn dL_law_249 dL_law_250 dL_law_251 (by decide) dL_law_252 dL_law_253 ?_
  refine sc_ld (k := 4) C hXX hbl hbA hS hl (by omega) hLn dL_law_254 dL_law_255 dL_law_256 (by decide) dL_law_257 dL_law_258 ?_
  refine k_L_27 C hP hS hM.1 (c_X7_otherwise (xs (i + 1)) (xs (i + 2)) (xs (i + 3)) (xs (i + 4)) hM hwJ) ⟨Nat.le_of_ble_eq_true rfl, Nat.le_of_ble_eq_true rfl⟩ hcs hl.1 (Nat.le_of_ble_eq_true rfl) dL_law_259 (fun v2 J2 H locs hv2 hP hS => ?_)
  obtain ⟨ee, hC2, hw2⟩ := st_pair (f := fun σ => sOther σ (xs (i + 1)) (xs (i + 2)) (xs (i + 3)) (xs (i + 4))) (loc_other (xs (i + 1)) (xs (i + 2)) (xs (i + 3)) (xs (i + 4))) (wf_other (xs (i + 1)) (xs (i + 2)) (xs (i + 3)) (xs (i + 4)) hw) hLo ev hCJ hv2.1 hv2.2
  exact b_eq C dL_law_262 (tgt := 708) (by decide) (fun _ => kk J2 H locs hP hS hC2 hw2) (fun h => absurd ee h)
set_option maxHeartbeats 1000000 in
theorem lc_forget {b Ln i : Nat} {xs : Nat → Int32} (C : Cx E p s m args c cL_law RL 4) (hXX : va_X b Ln xs s s.heap) (hbl : b < s.heap.size) (hbA : ¬ AG E b) (hl : lv_has ls 4 [(0, .ref b), (1, .ref (ad 100)), (2, .ref (ad 10)), (3, .int (nI i))]) (hi : i + 6 ≤ Ln) (hLn : Ln ≤ 3072) (hP : Hp E K L ad I H) (hS : va_S (AG E) s.heap H locs) (hO : IsO K L) (hM : IsM K L) (hC : CR K L I I) (hw : WF I) (hcs : cells ≤ room_1.cells ∧ slots ≤ room_1.slots)
    (kk : ∀ (J : Mem) (H1 : Heap) (locs1 : List Loc), Hp E K L ad J H1 → va_S (AG E) s.heap H1 locs1 → CR K L J J → WF J → W p l e room_1 s m args below meth c H1 locs1 cells slots Q (F0 m 708 ls [])) : W p l e room_1 s m args below meth c H locs cells slots Q (F0 m 267 ls []) := by
  refine lv_aload_n C.1 C.2.1 dL_law_267 rfl (lv_at hl 1 rfl) ?_
  refine sc_ld (k := 1) C hXX hbl hbA hS hl (by omega) hLn dL_law_268 dL_law_269 dL_law_270 (by decide) dL_law_271 dL_law_272 ?_
  refine sc_ld (k := 2) C hXX hbl hbA hS hl (by omega) hLn dL_law_273 dL_law_274 dL_law_275 (by decide) dL_law_276 dL_law_277 ?_
  refine k_L_28 C hP hS hO.1 (c_X6_forget (xs (i + 1)) (xs (i + 2)) hO hC hw) ⟨Nat.le_of_ble_eq_true rfl, Nat.le_of_ble_eq_true rfl⟩ hcs hl.1 (Nat.le_of_ble_eq_true rfl) dL_law_278 (fun v J H locs hv hP hS => ?_)
  obtain ⟨ev, hCJ, hLo⟩ := hv
  have hLo : Lo I J := fun a ha => (hLo a ha).symm
  have hwJ : WF J := by rw [← lo_WF hLo]; exact hw
  refine lv_aload_n C.1 C.2.1 dL_law_281 rfl (lv_at hl 2 rfl) ?_
  refine sc_ld (k := 1) C hXX hbl hbA hS hl (by omega) hLn dL_law_282 dL_law_283 dL_law_284 (by decide) dL_law_285 dL_law_286 ?_
  refine sc_ld (k := 2) C hXX hbl hbA hS hl (by omega) hLn dL_law_287 dL_law_288 dL_law_289 (by decide) dL_law_290 dL_law_291 ?_
  refine k_L_32 C hP hS hM.1 (c_X7_forget (xs (i + 1)) (xs (i + 2)) hM hwJ) ⟨Nat.le_of_ble_eq_true rfl, Nat.le_of_ble_eq_true rfl⟩ hcs hl.1 (Nat.le_of_ble_eq_true rfl) dL_law_292 (fun v2 J2 H locs hv2 hP hS => ?_)
  obtain ⟨ee, hC2, hw2⟩ := st_pair (f := fun σ => sForget σ (xs (i + 1)) (xs (i + 2))) (loc_forget (xs (i + 1)) (xs (i + 2))) (wf_forget (xs (i + 1)) (xs (i + 2)) hw) hLo ev hCJ hv2.1 hv2.2
  exact b_eq C dL_law_295 (tgt := 708) (by decide) (fun _ => kk J2 H locs hP hS hC2 hw2) (fun h => absurd ee h)
set_option maxHeartbeats 1000000 in
theorem lc_drop {b Ln i : Nat} {xs : Nat → Int32} (C : Cx E p s m args c cL_law RL 4) (hXX : va_X b Ln xs s s.heap) (hbl : b < s.heap.size) (hbA : ¬ AG E b) (hl : lv_has ls 4 [(0, .ref b), (1, .ref (ad 100)), (2, .ref (ad 10)), (3, .int (nI i))]) (hi : i + 6 ≤ Ln) (hLn : Ln ≤ 3072) (hP : Hp E K L ad I H) (hS : va_S (AG E) s.heap H locs) (hO : IsO K L) (hM : IsM K L) (hC : CR K L I I) (hw : WF I) (hcs : cells ≤ room_1.cells ∧ slots ≤ room_1.slots)
    (kk : ∀ (J : Mem) (H1 : Heap) (locs1 : List Loc), Hp E K L ad J H1 → va_S (AG E) s.heap H1 locs1 → CR K L J J → WF J → W p l e room_1 s m args below meth c H1 locs1 cells slots Q (F0 m 708 ls [])) : W p l e room_1 s m args below meth c H locs cells slots Q (F0 m 300 ls []) := by
  refine lv_aload_n C.1 C.2.1 dL_law_300 rfl (lv_at hl 1 rfl) ?_
  refine sc_ld (k := 1) C hXX hbl hbA hS hl (by omega) hLn dL_law_301 dL_law_302 dL_law_303 (by decide) dL_law_304 dL_law_305 ?_
  refine k_L_33 C hP hS hO.1 (c_X6_drop (xs (i + 1)) hO hC hw) ⟨Nat.le_of_ble_eq_true rfl, Nat.le_of_ble_eq_true rfl⟩ hcs hl.1 (Nat.le_of_ble_eq_true rfl) dL_law_306 (fun v J H locs hv hP hS => ?_)
  obtain ⟨ev, hCJ, hLo⟩ := hv
  have hLo : Lo I J := fun a ha => (hLo a ha).symm
  have hwJ : WF J := by rw [← lo_WF hLo]; exact hw
  refine lv_aload_n C.1 C.2.1 dL_law_309 rfl (lv_at hl 2 rfl) ?_
  refine sc_ld (k := 1) C hXX hbl hbA hS hl (by omega) hLn dL_law_310 dL_law_311 dL_law_312 (by decide) dL_law_313 dL_law_314 ?_
  refine k_L_36 C hP hS hM.1 (c_X7_drop (xs (i + 1)) hM hwJ) ⟨Nat.le_of_ble_eq_true rfl, Nat.le_of_ble_eq_true rfl⟩ hcs hl.1 (Nat.le_of_ble_eq_true rfl) dL_law_315 (fun v2 J2 H locs hv2 hP hS => ?_)
  obtain ⟨ee, hC2, hw2⟩ := st_pair (f := fun σ => sDrop σ (xs (i + 1))) (loc_drop (xs (i + 1))) (wf_drop (xs (i + 1)) hw) hLo ev hCJ hv2.1 hv2.2
  exact b_eq C dL_law_318 (tgt := 708) (by decide) (fun _ => kk J2 H locs hP hS hC2 hw2) (fun h => absurd ee h)
set_option maxHeartbeats 1000000 in
theorem lc_rule {b Ln i : Nat} {xs : Nat → Int32} (C : Cx E p s m args c cL_law RL 4) (hXX : va_X b Ln xs s s.heap) (hbl : b < s.heap.size) (hbA : ¬ AG E b) (hl : lv_has ls 4 [(0, .ref b), (1, .ref (ad 100)), (2, .ref (ad 10)), (3, .int (nI i))]) (hi : i + 6 ≤ Ln) (hLn : Ln ≤ 3072) (hP : Hp E K L ad I H) (hS : va_S (AG E) s.heap H locs) (hO : IsO K L) (hM : IsM K L) (hC : CR K L I I) (hw : WF I) (hcs : cells ≤ room_1.cells ∧ slots ≤ room_1.slots)
    (kk : ∀ (J : Mem) (H1 : Heap) (locs1 : List Loc), Hp E K L ad J H1 → va_S (AG E) s.heap H1 locs1 → CR K L J J → WF J → W p l e room_1 s m args below meth c H1 locs1 cells slots Q (F0 m 708 ls [])) : W p l e room_1 s m args below meth c H locs cells slots Q (F0 m 323 ls []) := by
  refine lv_aload_n C.1 C.2.1 dL_law_323 rfl (lv_at hl 1 rfl) ?_
  refine sc_ld (k := 1) C hXX hbl hbA hS hl (by omega) hLn dL_law_324 dL_law_325 dL_law_326 (by decide) dL_law_327 dL_law_328 ?_
  refine sc_ld (k := 2) C hXX hbl hbA hS hl (by omega) hLn dL_law_329 dL_law_330 dL_law_331 (by decide) dL_law_332 dL_law_333 ?_
  refine k_L_37 C hP hS hO.1 (c_X6_rule (xs (i + 1)) (xs (i + 2)) hO hC hw) ⟨Nat.le_of_ble_eq_true rfl, Nat.le_of_ble_eq_true rfl⟩ hcs hl.1 (Nat.le_of_ble_eq_true rfl) dL_law_334 (fun v J H locs hv hP hS => ?_)
  obtain ⟨ev, hCJ, hLo⟩ := hv
  have hLo : Lo I J := fun a ha => (hLo a ha).symm
  have hwJ : WF J := by rw [← lo_WF hLo]; exact hw
  refine lv_aload_n C.1 C.2.1 dL_law_337 rfl (lv_at hl 2 rfl) ?_
  refine sc_ld (k := 1) C hXX hbl hbA hS hl (by omega) hLn dL_law_338 dL_law_339 dL_law_340 (by decide) dL_law_341 dL_law_342 ?_
  refine sc_ld (k := 2) C hXX hbl hbA hS hl (by omega) hLn dL_law_343 dL_law_344 dL_law_345 (by decide) dL_law_346 dL_law_347 ?_
  refine k_L_40 C hP hS hM.1 (c_X7_rule (xs (i + 1)) (xs (i + 2)) hM) ⟨Nat.le_of_ble_eq_true rfl, Nat.le_of_ble_eq_true rfl⟩ hcs hl.1 (Nat.le_of_ble_eq_true rfl) dL_law_348 (fun v2 J2 H locs hv2 hP hS => ?_)
  obtain ⟨ee, hC2, hw2⟩ := st_pair (f := fun σ => sRule σ (xs (i + 1)) (xs (i + 2))) (loc_rule (xs (i + 1)) (xs (i + 2))) (wf_rule (xs (i + 1)) (xs (i + 2)) hw) hLo ev hCJ hv2.1 hv2.2
  exact b_eq C dL_law_351 (tgt := 708) (by decide) (fun _ => kk J2 H locs hP hS hC2 hw2) (fun h => absurd ee h)
set_option maxHeartbeats 1000000 in
theorem lc_told {b Ln i : Nat} {xs : Nat → Int32} (C : Cx E p s m args c cL_law RL 4) (hXX : va_X b Ln xs s s.heap) (hbl : b < s.heap.size) (hbA : ¬ AG E b) (hl : lv_has ls 4 [(0, .ref b), (1, .ref (ad 100)), (2, .ref (ad 10)), (3, .int (nI i))]) (hi : i + 6 ≤ Ln) (hLn : Ln ≤ 3072) (hP : Hp E K L ad I H) (hS : va_S (AG E) s.heap H locs) (hO : IsO K L) (hM : IsM K L) (hC : CR K L I I) (hw : WF I) (hcs : cells ≤ room_1.cells ∧ slots ≤ room_1.slots)
    (kk : ∀ (J : Mem) (H1 : Heap) (locs1 : List Loc), Hp E K L ad J H1 → va_S (AG E) s.heap H1 locs1 → CR K L J J → WF J → W p l e room_1 s m args below meth c H1 locs1 cells slots Q (F0 m 708 ls [])) : W p l e room_1 s m args below meth c H locs cells slots Q (F0 m 356 ls []) := by
  refine lv_aload_n C.1 C.2.1 dL_law_356 rfl (lv_at hl 1 rfl) ?_
  refine sc_ld (k := 1) C hXX hbl hbA hS hl (by omega) hLn dL_law_357 dL_law_358 dL_law_359 (by decide) dL_law_360 dL_law_361 ?_
  refine sc_ld (k := 2) C hXX hbl hbA hS hl (by omega) hLn dL_law_362 dL_law_363 dL_law_364 (by decide) dL_law_365 dL_law_366 ?_
  refine k_L_41 C hP hS hO.1 (c_X6_told (xs (i + 1)) (xs (i + 2)) hO hC hw) ⟨Nat.le_of_ble_eq_true rfl, Nat.le_of_ble_eq_true rfl⟩ hcs hl.1 (Nat.le_of_ble_eq_true rfl) dL_law_367 (fun v J H locs hv hP hS => ?_)
  obtain ⟨ev, hCJ, hLo⟩ := hv
  have hLo : Lo I J := fun a ha => (hLo a ha).symm
  have hwJ : WF J := by rw [← lo_WF hLo]; exact hw
  refine lv_aload_n C.1 C.2.1 dL_law_370 rfl (lv_at hl 2 rfl) ?_
  refine sc_ld (k := 1) C hXX hbl hbA hS hl (by omega) hLn dL_law_371 dL_law_372 dL_law_373 (by decide) dL_law_374 dL_law_375 ?_
  refine sc_ld (k := 2) C hXX hbl hbA hS hl (by omega) hLn dL_law_376 dL_law_377 dL_law_378 (by decide) dL_law_379 dL_law_380 ?_
  refine k_L_44 C hP hS hM.1 (c_X7_told (xs (i + 1)) (xs (i + 2)) hM hwJ) ⟨Nat.le_of_ble_eq_true rfl, Nat.le_of_ble_eq_true rfl⟩ hcs hl.1 (Nat.le_of_ble_eq_true rfl) dL_law_381 (fun v2 J2 H locs hv2 hP hS => ?_)
  obtain ⟨hSm, ev2⟩ := hv2
  obtain ⟨ee, hC2, hw2⟩ := st_pure (g := fun σ => sTold σ (xs (i + 1)) (xs (i + 2))) (fun σ τ h => lo_sTold h (xs (i + 1)) (xs (i + 2))) hw hLo ev hCJ hSm ev2
  exact b_eq C dL_law_384 (tgt := 708) (by decide) (fun _ => kk J2 H locs hP hS hC2 hw2) (fun h => absurd ee h)
set_option maxHeartbeats 1000000 in
theorem lc_needs {b Ln i : Nat} {xs : Nat → Int32} (C : Cx E p s m args c cL_law RL 4) (hXX : va_X b Ln xs s s.heap) (hbl : b < s.heap.size) (hbA : ¬ AG E b) (hl : lv_has ls 4 [(0, .ref b), (1, .ref (ad 100)), (2, .ref (ad 10)), (3, .int (nI i))]) (hi : i + 6 ≤ Ln) (hLn : Ln ≤ 3072) (hP : Hp E K L ad I H) (hS : va_S (AG E) s.heap H locs) (hO : IsO K L) (hM : IsM K L) (hC : CR K L I I) (hw : WF I) (hcs : cells ≤ room_1.cells ∧ slots ≤ room_1.slots)
    (kk : ∀ (J : Mem) (H1 : Heap) (locs1 : List Loc), Hp E K L ad J H1 → va_S (AG E) s.heap H1 locs1 → CR K L J J → WF J → W p l e room_1 s m args below meth c H1 locs1 cells slots Q (F0 m 708 ls [])) : W p l e room_1 s m args below meth c H locs cells slots Q (F0 m 389 ls []) := by
  refine lv_aload_n C.1 C.2.1 dL_law_389 rfl (lv_at hl 1 rfl) ?_
  refine sc_ld (k := 1) C hXX hbl hbA hS hl (by omega) hLn dL_law_390 dL_law_391 dL_law_392 (by decide) dL_law_393 dL_law_394 ?_
  refine sc_ld (k := 2) C hXX hbl hbA hS hl (by omega) hLn dL_law_395 dL_law_396 dL_law_397 (by decide) dL_law_398 dL_law_399 ?_
  refine k_L_45 C hP hS hO.1 (c_X6_needs (xs (i + 1)) (xs (i + 2)) hO hC hw) ⟨Nat.le_of_ble_eq_true rfl, Nat.le_of_ble_eq_true rfl⟩ hcs hl.1 (Nat.le_of_ble_eq_true rfl) dL_law_400 (fun v J H locs hv hP hS => ?_)
  obtain ⟨ev, hCJ, hLo⟩ := hv
  have hLo : Lo I J := fun a ha => (hLo a ha).symm
  have hwJ : WF J := by rw [← lo_WF hLo]; exact hw
  refine lv_aload_n C.1 C.2.1 dL_law_403 rfl (lv_at hl 2 rfl) ?_
  refine sc_ld (k := 1) C hXX hbl hbA hS hl (by omega) hLn dL_law_404 dL_law_405 dL_law_406 (by decide) dL_law_407 dL_law_408 ?_
  refine sc_ld (k := 2) C hXX hbl hbA hS hl (by omega) hLn dL_law_409 dL_law_410 dL_law_411 (by decide) dL_law_412 dL_law_413 ?_
  refine k_L_48 C hP hS hM.1 (c_X7_needs (xs (i + 1)) (xs (i + 2)) hM hwJ) ⟨Nat.le_of_ble_eq_true rfl, Nat.le_of_ble_eq_true rfl⟩ hcs hl.1 (Nat.le_of_ble_eq_true rfl) dL_law_414 (fun v2 J2 H locs hv2 hP hS => ?_)
  obtain ⟨eJ, ev2⟩ := hv2
  have hSm : Sm J J2 := fun a _ => by rw [eJ]
  obtain ⟨ee, hC2, hw2⟩ := st_pure (g := fun σ => sNeeds σ (xs (i + 1)) (xs (i + 2))) (fun σ τ h => lo_sNeeds h (xs (i + 1)) (xs (i + 2))) hw hLo ev hCJ hSm ev2
  exact b_eq C dL_law_417 (tgt := 708) (by decide) (fun _ => kk J2 H locs hP hS hC2 hw2) (fun h => absurd ee h)
set_option maxHeartbeats 1000000 in
theorem lc_stages {b Ln i : Nat} {xs : Nat → Int32} (C : Cx E p s m args c cL_law RL 4) (hXX : va_X b Ln xs s s.heap) (hbl : b < s.heap.size) (hbA : ¬ AG E b) (hl : lv_has ls 4 [(0, .ref b), (1, .ref (ad 100)), (2, .ref (ad 10)), (3, .int (nI i))]) (hi : i + 6 ≤ Ln) (hLn : Ln ≤ 3072) (hP : Hp E K L ad I H) (hS : va_S (AG E) s.heap H locs) (hO : IsO K L) (hM : IsM K L) (hC : CR K L I I) (hw : WF I) (hcs : cells ≤ room_1.cells ∧ slots ≤ room_1.slots)
    (kk : ∀ (J : Mem) (H1 : Heap) (locs1 : List Loc), Hp E K L ad J H1 → va_S (AG E) s.heap H1 locs1 → CR K L J J → WF J → W p l e room_1 s m args below meth c H1 locs1 cells slots Q (F0 m 708 ls [])) : W p l e room_1 s m args below meth c H locs cells slots Q (F0 m 422 ls []) := by
  refine lv_aload_n C.1 C.2.1 dL_law_422 rfl (lv_at hl 1 rfl) ?_
  refine k_L_49 C hP hS hO.1 (c_X6_stages hO hC hw) ⟨Nat.le_of_ble_eq_true rfl, Nat.le_of_ble_eq_true rfl⟩ hcs hl.1 (Nat.le_of_ble_eq_true rfl) dL_law_423 (fun v J H locs hv hP hS => ?_)
  obtain ⟨ev, hCJ, hLo⟩ := hv
  have hLo : Lo I J := fun a ha => (hLo a ha).symm
  have hwJ : WF J := by rw [← lo_WF hLo]; exact hw
  refine lv_aload_n C.1 C.2.1 dL_law_426 rfl (lv_at hl 2 rfl) ?_
  refine k_L_53 C hP hS hM.1 (c_X7_stages hM hwJ) ⟨Nat.le_of_ble_eq_true rfl, Nat.le_of_ble_eq_true rfl⟩ hcs hl.1 (Nat.le_of_ble_eq_true rfl) dL_law_427 (fun v2 J2 H locs hv2 hP hS => ?_)
  obtain ⟨hSm, ev2⟩ := hv2
  obtain ⟨ee, hC2, hw2⟩ := st_pure (g := fun σ => sStages σ ) (fun σ τ h => lo_sStages h ) hw hLo ev hCJ hSm ev2
  exact b_eq C dL_law_430 (tgt := 708) (by decide) (fun _ => kk J2 H locs hP hS hC2 hw2) (fun h => absurd ee h)
set_option maxHeartbeats 1000000 in
theorem lc_stage {b Ln i : Nat} {xs : Nat → Int32} (C : Cx E p s m args c cL_law RL 4) (hXX : va_X b Ln xs s s.heap) (hbl : b < s.heap.size) (hbA : ¬ AG E b) (hl : lv_has ls 4 [(0, .ref b), (1, .ref (ad 100)), (2, .ref (ad 10)), (3, .int (nI i))]) (hi : i + 6 ≤ Ln) (hLn : Ln ≤ 3072) (hP : Hp E K L ad I H) (hS : va_S (AG E) s.heap H locs) (hO : IsO K L) (hM : IsM K L) (hC : CR K L I I) (hw : WF I) (hcs : cells ≤ room_1.cells ∧ slots ≤ room_1.slots)
    (kk : ∀ (J : Mem) (H1 : Heap) (locs1 : List Loc), Hp E K L ad J H1 → va_S (AG E) s.heap H1 locs1 → CR K L J J → WF J → W p l e room_1 s m args below meth c H1 locs1 cells slots Q (F0 m 708 ls [])) : W p l e room_1 s m args below meth c H locs cells slots Q (F0 m 435 ls []) := by
  refine lv_aload_n C.1 C.2.1 dL_law_435 rfl (lv_at hl 1 rfl) ?_
  refine sc_ld (k := 1) C hXX hbl hbA hS hl (by omega) hLn dL_law_436 dL_law_437 dL_law_438 (by decide) dL_law_439 dL_law_440 ?_
  refine sc_ld (k := 2) C hXX hbl hbA hS hl (by omega) hLn dL_law_441 dL_law_442 dL_law_443 (by decide) dL_law_444 dL_law_445 ?_
  refine k_L_54 C hP hS hO.1 (c_X6_stage (xs (i + 1)) (xs (i + 2)) hO hC hw) ⟨Nat.le_of_ble_eq_true rfl, Nat.le_of_ble_eq_true rfl⟩ hcs hl.1 (Nat.le_of_ble_eq_true rfl) dL_law_446 (fun v J H locs hv hP hS => ?_)
  obtain ⟨ev, hCJ, hLo⟩ := hv
  have hLo : Lo I J := fun a ha => (hLo a ha).symm
  have hwJ : WF J := by rw [← lo_WF hLo]; exact hw
  refine lv_aload_n C.1 C.2.1 dL_law_449 rfl (lv_at hl 2 rfl) ?_
  refine sc_ld (k := 1) C hXX hbl hbA hS hl (by omega) hLn dL_law_450 dL_law_451 dL_law_452 (by decide) dL_law_453 dL_law_454 ?_
  refine sc_ld (k := 2) C hXX hbl hbA hS hl (by omega) hLn dL_law_455 dL_law_456 dL_law_457 (by decide) dL_law_458 dL_law_459 ?_
  refine k_L_57 C hP hS hM.1 (c_X7_stage (xs (i + 1)) (xs (i + 2)) hM hwJ) ⟨Nat.le_of_ble_eq_true rfl, Nat.le_of_ble_eq_true rfl⟩ hcs hl.1 (Nat.le_of_ble_eq_true rfl) dL_law_460 (fun v2 J2 H locs hv2 hP hS => ?_)
  obtain ⟨hSm, ev2⟩ := hv2
  obtain ⟨ee, hC2, hw2⟩ := st_pure (g := fun σ => sStage σ (xs (i + 1)) (xs (i + 2))) (fun σ τ h => lo_sStage h (xs (i + 1)) (xs (i + 2))) hw hLo ev hCJ hSm ev2
  exact b_eq C dL_law_463 (tgt := 708) (by decide) (fun _ => kk J2 H locs hP hS hC2 hw2) (fun h => absurd ee h)
set_option maxHeartbeats 1000000 in
theorem lc_fewest {b Ln i : Nat} {xs : Nat → Int32} (C : Cx E p s m args c cL_law RL 4) (hXX : va_X b Ln xs s s.heap) (hbl : b < s.heap.size) (hbA : ¬ AG E b) (hl : lv_has ls 4 [(0, .ref b), (1, .ref (ad 100)), (2, .ref (ad 10)), (3, .int (nI i))]) (hi : i + 6 ≤ Ln) (hLn : Ln ≤ 3072) (hP : Hp E K L ad I H) (hS : va_S (AG E) s.heap H locs) (hO : IsO K L) (hM : IsM K L) (hC : CR K L I I) (hw : WF I) (hcs : cells ≤ room_1.cells ∧ slots ≤ room_1.slots)
    (kk : ∀ (J : Mem) (H1 : Heap) (locs1 : List Loc), Hp E K L ad J H1 → va_S (AG E) s.heap H1 locs1 → CR K L J J → WF J → W p l e room_1 s m args below meth c H1 locs1 cells slots Q (F0 m 708 ls [])) : W p l e room_1 s m args below meth c H locs cells slots Q (F0 m 468 ls []) := by
  refine lv_aload_n C.1 C.2.1 dL_law_468 rfl (lv_at hl 1 rfl) ?_
  refine k_L_58 C hP hS hO.1 (c_X6_fewest hO hC hw) ⟨Nat.le_of_ble_eq_true rfl, Nat.le_of_ble_eq_true rfl⟩ hcs hl.1 (Nat.le_of_ble_eq_true rfl) dL_law_469 (fun v J H locs hv hP hS => ?_)
  obtain ⟨ev, hCJ, hLo⟩ := hv
  have hLo : Lo I J := fun a ha => (hLo a ha).symm
  have hwJ : WF J := by rw [← lo_WF hLo]; exact hw
  refine lv_aload_n C.1 C.2.1 dL_law_472 rfl (lv_at hl 2 rfl) ?_
  refine k_L_61 C hP hS hM.1 (c_X7_fewest hM hwJ) ⟨Nat.le_of_ble_eq_true rfl, Nat.le_of_ble_eq_true rfl⟩ hcs hl.1 (Nat.le_of_ble_eq_true rfl) dL_law_473 (fun v2 J2 H locs hv2 hP hS => ?_)
  obtain ⟨hSm, ev2⟩ := hv2
  obtain ⟨ee, hC2, hw2⟩ := st_few hw hLo ev hCJ hSm ev2
  exact b_eq C dL_law_476 (tgt := 708) (by decide) (fun _ => kk J2 H locs hP hS hC2 hw2) (fun h => absurd ee h)
set_option maxHeartbeats 1000000 in
theorem lc_tell {b Ln i : Nat} {xs : Nat → Int32} (C : Cx E p s m args c cL_law RL 4) (hXX : va_X b Ln xs s s.heap) (hbl : b < s.heap.size) (hbA : ¬ AG E b) (hl : lv_has ls 4 [(0, .ref b), (1, .ref (ad 100)), (2, .ref (ad 10)), (3, .int (nI i))]) (hi : i + 6 ≤ Ln) (hLn : Ln ≤ 3072) (hP : Hp E K L ad I H) (hS : va_S (AG E) s.heap H locs) (hO : IsO K L) (hM : IsM K L) (hC : CR K L I I) (hw : WF I) (hcs : cells ≤ room_1.cells ∧ slots ≤ room_1.slots)
    (kk : ∀ (J : Mem) (H1 : Heap) (locs1 : List Loc), Hp E K L ad J H1 → va_S (AG E) s.heap H1 locs1 → CR K L J J → WF J → W p l e room_1 s m args below meth c H1 locs1 cells slots Q (F0 m 708 ls [])) : W p l e room_1 s m args below meth c H locs cells slots Q (F0 m 481 ls []) := by
  refine lv_aload_n C.1 C.2.1 dL_law_481 rfl (lv_at hl 1 rfl) ?_
  refine sc_ld (k := 1) C hXX hbl hbA hS hl (by omega) hLn dL_law_482 dL_law_483 dL_law_484 (by decide) dL_law_485 dL_law_486 ?_
  refine sc_ld (k := 2) C hXX hbl hbA hS hl (by omega) hLn dL_law_487 dL_law_488 dL_law_489 (by decide) dL_law_490 dL_law_491 ?_
  refine k_L_62 C hP hS hO.1 (c_X6_tell (xs (i + 1)) (xs (i + 2)) hO hC hw) ⟨Nat.le_of_ble_eq_true rfl, Nat.le_of_ble_eq_true rfl⟩ hcs hl.1 (Nat.le_of_ble_eq_true rfl) dL_law_492 (fun v J H locs hv hP hS => ?_)
  obtain ⟨ev, hCJ, hLo⟩ := hv
  have hLo : Lo I J := fun a ha => (hLo a ha).symm
  have hwJ : WF J := by rw [← lo_WF hLo]; exact hw
  refine lv_aload_n C.1 C.2.1 dL_law_495 rfl (lv_at hl 2 rfl) ?_
  refine sc_ld (k := 1) C hXX hbl hbA hS hl (by omega) hLn dL_law_496 dL_law_497 dL_law_498 (by decide) dL_law_499 dL_law_500 ?_
  refine sc_ld (k := 2) C hXX hbl hbA hS hl (by omega) hLn dL_law_501 dL_law_502 dL_law_503 (by decide) dL_law_504 dL_law_505 ?_
  refine k_L_65 C hP hS hM.1 (c_X7_tell (xs (i + 1)) (xs (i + 2)) hM) ⟨Nat.le_of_ble_eq_true rfl, Nat.le_of_ble_eq_true rfl⟩ hcs hl.1 (Nat.le_of_ble_eq_true rfl) dL_law_506 (fun v2 J2 H locs hv2 hP hS => ?_)
  obtain ⟨ee, hC2, hw2⟩ := st_pair (f := fun σ => sTell σ (xs (i + 1)) (xs (i + 2))) (loc_tell (xs (i + 1)) (xs (i + 2))) (wf_tell (xs (i + 1)) (xs (i + 2)) hw) hLo ev hCJ hv2.1 hv2.2
  exact b_eq C dL_law_509 (tgt := 708) (by decide) (fun _ => kk J2 H locs hP hS hC2 hw2) (fun h => absurd ee h)
set_option maxHeartbeats 1000000 in
theorem lc_put {b Ln i : Nat} {xs : Nat → Int32} (C : Cx E p s m args c cL_law RL 4) (hXX : va_X b Ln xs s s.heap) (hbl : b < s.heap.size) (hbA : ¬ AG E b) (hl : lv_has ls 4 [(0, .ref b), (1, .ref (ad 100)), (2, .ref (ad 10)), (3, .int (nI i))]) (hi : i + 6 ≤ Ln) (hLn : Ln ≤ 3072) (hP : Hp E K L ad I H) (hS : va_S (AG E) s.heap H locs) (hO : IsO K L) (hM : IsM K L) (hC : CR K L I I) (hw : WF I) (hcs : cells ≤ room_1.cells ∧ slots ≤ room_1.slots)
    (kk : ∀ (J : Mem) (H1 : Heap) (locs1 : List Loc), Hp E K L ad J H1 → va_S (AG E) s.heap H1 locs1 → CR K L J J → WF J → W p l e room_1 s m args below meth c H1 locs1 cells slots Q (F0 m 708 ls [])) : W p l e room_1 s m args below meth c H locs cells slots Q (F0 m 514 ls []) := by
  refine lv_aload_n C.1 C.2.1 dL_law_514 rfl (lv_at hl 1 rfl) ?_
  refine sc_ld (k := 1) C hXX hbl hbA hS hl (by omega) hLn dL_law_515 dL_law_516 dL_law_517 (by decide) dL_law_518 dL_law_519 ?_
  refine sc_ld (k := 2) C hXX hbl hbA hS hl (by omega) hLn dL_law_520 dL_law_521 dL_law_522 (by decide) dL_law_523 dL_law_524 ?_
  refine k_L_66 C hP hS hO.1 (c_X6_put (xs (i + 1)) (xs (i + 2)) hO hC hw) ⟨Nat.le_of_ble_eq_true rfl, Nat.le_of_ble_eq_true rfl⟩ hcs hl.1 (Nat.le_of_ble_eq_true rfl) dL_law_525 (fun v J H locs hv hP hS => ?_)
  obtain ⟨ev, hCJ, hLo⟩ := hv
  have hLo : Lo I J := fun a ha => (hLo a ha).symm
  have hwJ : WF J := by rw [← lo_WF hLo]; exact hw
  refine lv_aload_n C.1 C.2.1 dL_law_528 rfl (lv_at hl 2 rfl) ?_
  refine sc_ld (k := 1) C hXX hbl hbA hS hl (by omega) hLn dL_law_529 dL_law_530 dL_law_531 (by decide) dL_law_532 dL_law_533 ?_
  refine sc_ld (k := 2) C hXX hbl hbA hS hl (by omega) hLn dL_law_534 dL_law_535 dL_law_536 (by decide) dL_law_537 dL_law_538 ?_
  refine k_L_69 C hP hS hM.1 (c_X7_put (xs (i + 1)) (xs (i + 2)) hM) ⟨Nat.le_of_ble_eq_true rfl, Nat.le_of_ble_eq_true rfl⟩ hcs hl.1 (Nat.le_of_ble_eq_true rfl) dL_law_539 (fun v2 J2 H locs hv2 hP hS => ?_)
  obtain ⟨ee, hC2, hw2⟩ := st_pair (f := fun σ => sPut σ (xs (i + 1)) (xs (i + 2))) (loc_put (xs (i + 1)) (xs (i + 2))) (wf_put (xs (i + 1)) (xs (i + 2)) hw) hLo ev hCJ hv2.1 hv2.2
  exact b_eq C dL_law_542 (tgt := 708) (by decide) (fun _ => kk J2 H locs hP hS hC2 hw2) (fun h => absurd ee h)
set_option maxHeartbeats 1000000 in
theorem lc_register {b Ln i : Nat} {xs : Nat → Int32} (C : Cx E p s m args c cL_law RL 4) (hXX : va_X b Ln xs s s.heap) (hbl : b < s.heap.size) (hbA : ¬ AG E b) (hl : lv_has ls 4 [(0, .ref b), (1, .ref (ad 100)), (2, .ref (ad 10)), (3, .int (nI i))]) (hi : i + 6 ≤ Ln) (hLn : Ln ≤ 3072) (hP : Hp E K L ad I H) (hS : va_S (AG E) s.heap H locs) (hO : IsO K L) (hM : IsM K L) (hC : CR K L I I) (hw : WF I) (hcs : cells ≤ room_1.cells ∧ slots ≤ room_1.slots)
    (kk : ∀ (J : Mem) (H1 : Heap) (locs1 : List Loc), Hp E K L ad J H1 → va_S (AG E) s.heap H1 locs1 → CR K L J J → WF J → W p l e room_1 s m args below meth c H1 locs1 cells slots Q (F0 m 708 ls [])) : W p l e room_1 s m args below meth c H locs cells slots Q (F0 m 547 ls []) := by
  refine lv_aload_n C.1 C.2.1 dL_law_547 rfl (lv_at hl 1 rfl) ?_
  refine sc_ld (k := 1) C hXX hbl hbA hS hl (by omega) hLn dL_law_548 dL_law_549 dL_law_550 (by decide) dL_law_551 dL_law_552 ?_
  refine k_L_70 C hP hS hO.1 (c_X6_register (xs (i + 1)) hO hC hw) ⟨Nat.le_of_ble_eq_true rfl, Nat.le_of_ble_eq_true rfl⟩ hcs hl.1 (Nat.le_of_ble_eq_true rfl) dL_law_553 (fun v J H locs hv hP hS => ?_)
  obtain ⟨ev, hCJ, hLo⟩ := hv
  have hLo : Lo I J := fun a ha => (hLo a ha).symm
  have hwJ : WF J := by rw [← lo_WF hLo]; exact hw
  refine lv_aload_n C.1 C.2.1 dL_law_556 rfl (lv_at hl 2 rfl) ?_
  refine sc_ld (k := 1) C hXX hbl hbA hS hl (by omega) hLn dL_law_557 dL_law_558 dL_law_559 (by decide) dL_law_560 dL_law_561 ?_
  refine k_L_73 C hP hS hM.1 (c_X7_register (xs (i + 1)) hM) ⟨Nat.le_of_ble_eq_true rfl, Nat.le_of_ble_eq_true rfl⟩ hcs hl.1 (Nat.le_of_ble_eq_true rfl) dL_law_562 (fun v2 J2 H locs hv2 hP hS => ?_)
  obtain ⟨eJ, ev2⟩ := hv2
  have hSm : Sm J J2 := fun a _ => by rw [eJ]
  obtain ⟨ee, hC2, hw2⟩ := st_pure (g := fun σ => sReg σ (xs (i + 1))) (fun σ τ h => lo_sReg h (xs (i + 1))) hw hLo ev hCJ hSm ev2
  exact b_eq C dL_law_565 (tgt := 708) (by decide) (fun _ => kk J2 H locs hP hS hC2 hw2) (fun h => absurd ee h)
set_option maxHeartbeats 1000000 in
theorem lc_run {b Ln i : Nat} {xs : Nat → Int32} (C : Cx E p s m args c cL_law RL 4) (hXX : va_X b Ln xs s s.heap) (hbl : b < s.heap.size) (hbA : ¬ AG E b) (hl : lv_has ls 4 [(0, .ref b), (1, .ref (ad 100)), (2, .ref (ad 10)), (3, .int (nI i))]) (hi : i + 6 ≤ Ln) (hLn : Ln ≤ 3072) (hP : Hp E K L ad I H) (hS : va_S (AG E) s.heap H locs) (hO : IsO K L) (hM : IsM K L) (hC : CR K L I I) (hw : WF I) (hcs : cells ≤ room_1.cells ∧ slots ≤ room_1.slots)
    (kk : ∀ (J : Mem) (H1 : Heap) (locs1 : List Loc), Hp E K L ad J H1 → va_S (AG E) s.heap H1 locs1 → CR K L J J → WF J → W p l e room_1 s m args below meth c H1 locs1 cells slots Q (F0 m 708 ls [])) : W p l e room_1 s m args below meth c H locs cells slots Q (F0 m 570 ls []) := by
  refine lv_aload_n C.1 C.2.1 dL_law_570 rfl (lv_at hl 1 rfl) ?_
  refine k_L_74 C hP hS hO.1 (c_X6_run hO hC hw) ⟨Nat.le_of_ble_eq_true rfl, Nat.le_of_ble_eq_true rfl⟩ hcs hl.1 (Nat.le_of_ble_eq_true rfl) dL_law_571 (fun v J H locs hv hP hS => ?_)
  obtain ⟨ev, hLo, hc0, hc1⟩ := hv
  have hLo : Lo I J := fun a ha => (hLo a ha).symm
  have hwJ : WF J := by rw [← lo_WF hLo]; exact hw
  refine lv_aload_n C.1 C.2.1 dL_law_574 rfl (lv_at hl 2 rfl) ?_
  refine k_L_77 C hP hS hM.1 (c_X7_run hM hwJ) ⟨Nat.le_of_ble_eq_true rfl, Nat.le_of_ble_eq_true rfl⟩ hcs hl.1 (Nat.le_of_ble_eq_true rfl) dL_law_575 (fun v2 J2 H locs hv2 hP hS => ?_)
  obtain ⟨ev2, g0, g1⟩ := hv2
  obtain ⟨ee, hC2, hw2⟩ := st_run hw hC hLo ev hc0 hc1 ev2 g0 g1
  exact b_eq C dL_law_578 (tgt := 708) (by decide) (fun _ => kk J2 H locs hP hS hC2 hw2) (fun h => absurd ee h)
set_option maxHeartbeats 1000000 in
theorem lc_out {b Ln i : Nat} {xs : Nat → Int32} (C : Cx E p s m args c cL_law RL 4) (hXX : va_X b Ln xs s s.heap) (hbl : b < s.heap.size) (hbA : ¬ AG E b) (hl : lv_has ls 4 [(0, .ref b), (1, .ref (ad 100)), (2, .ref (ad 10)), (3, .int (nI i))]) (hi : i + 6 ≤ Ln) (hLn : Ln ≤ 3072) (hP : Hp E K L ad I H) (hS : va_S (AG E) s.heap H locs) (hO : IsO K L) (hM : IsM K L) (hC : CR K L I I) (hw : WF I) (hcs : cells ≤ room_1.cells ∧ slots ≤ room_1.slots)
    (kk : ∀ (J : Mem) (H1 : Heap) (locs1 : List Loc), Hp E K L ad J H1 → va_S (AG E) s.heap H1 locs1 → CR K L J J → WF J → W p l e room_1 s m args below meth c H1 locs1 cells slots Q (F0 m 708 ls [])) : W p l e room_1 s m args below meth c H locs cells slots Q (F0 m 583 ls []) := by
  refine lv_aload_n C.1 C.2.1 dL_law_583 rfl (lv_at hl 1 rfl) ?_
  refine sc_ld (k := 1) C hXX hbl hbA hS hl (by omega) hLn dL_law_584 dL_law_585 dL_law_586 (by decide) dL_law_587 dL_law_588 ?_
  refine k_L_78 C hP hS hO.1 (c_X6_out (xs (i + 1)) hO hC hw) ⟨Nat.le_of_ble_eq_true rfl, Nat.le_of_ble_eq_true rfl⟩ hcs hl.1 (Nat.le_of_ble_eq_true rfl) dL_law_589 (fun v J H locs hv hP hS => ?_)
  obtain ⟨ev, hCJ, hLo⟩ := hv
  have hLo : Lo I J := fun a ha => (hLo a ha).symm
  have hwJ : WF J := by rw [← lo_WF hLo]; exact hw
  refine lv_aload_n C.1 C.2.1 dL_law_592 rfl (lv_at hl 2 rfl) ?_
  refine sc_ld (k := 1) C hXX hbl hbA hS hl (by omega) hLn dL_law_593 dL_law_594 dL_law_595 (by decide) dL_law_596 dL_law_597 ?_
  refine k_L_81 C hP hS hM.1 (c_X7_out (xs (i + 1)) hM) ⟨Nat.le_of_ble_eq_true rfl, Nat.le_of_ble_eq_true rfl⟩ hcs hl.1 (Nat.le_of_ble_eq_true rfl) dL_law_598 (fun v2 J2 H locs hv2 hP hS => ?_)
  obtain ⟨eJ, ev2⟩ := hv2
  have hSm : Sm J J2 := fun a _ => by rw [eJ]
  obtain ⟨ee, hC2, hw2⟩ := st_pure (g := fun σ => sOut σ (xs (i + 1))) (fun σ τ h => lo_sOut h (xs (i + 1))) hw hLo ev hCJ hSm ev2
  exact b_eq C dL_law_601 (tgt := 708) (by decide) (fun _ => kk J2 H locs hP hS hC2 hw2) (fun h => absurd ee h)
set_option maxHeartbeats 1000000 in
theorem lc_took {b Ln i : Nat} {xs : Nat → Int32} (C : Cx E p s m args c cL_law RL 4) (hXX : va_X b Ln xs s s.heap) (hbl : b < s.heap.size) (hbA : ¬ AG E b) (hl : lv_has ls 4 [(0, .ref b), (1, .ref (ad 100)), (2, .ref (ad 10)), (3, .int (nI i))]) (hi : i + 6 ≤ Ln) (hLn : Ln ≤ 3072) (hP : Hp E K L ad I H) (hS : va_S (AG E) s.heap H locs) (hO : IsO K L) (hM : IsM K L) (hC : CR K L I I) (hw : WF I) (hcs : cells ≤ room_1.cells ∧ slots ≤ room_1.slots)
    (kk : ∀ (J : Mem) (H1 : Heap) (locs1 : List Loc), Hp E K L ad J H1 → va_S (AG E) s.heap H1 locs1 → CR K L J J → WF J → W p l e room_1 s m args below meth c H1 locs1 cells slots Q (F0 m 708 ls [])) : W p l e room_1 s m args below meth c H locs cells slots Q (F0 m 606 ls []) := by
  refine lv_aload_n C.1 C.2.1 dL_law_606 rfl (lv_at hl 1 rfl) ?_
  refine sc_ld (k := 1) C hXX hbl hbA hS hl (by omega) hLn dL_law_607 dL_law_608 dL_law_609 (by decide) dL_law_610 dL_law_611 ?_
  refine sc_ld (k := 2) C hXX hbl hbA hS hl (by omega) hLn dL_law_612 dL_law_613 dL_law_614 (by decide) dL_law_615 dL_law_616 ?_
  refine k_L_82 C hP hS hO.1 (c_X6_took (xs (i + 1)) (xs (i + 2)) hO hC hw) ⟨Nat.le_of_ble_eq_true rfl, Nat.le_of_ble_eq_true rfl⟩ hcs hl.1 (Nat.le_of_ble_eq_true rfl) dL_law_617 (fun v J H locs hv hP hS => ?_)
  obtain ⟨ev, hCJ, hLo⟩ := hv
  have hLo : Lo I J := fun a ha => (hLo a ha).symm
  have hwJ : WF J := by rw [← lo_WF hLo]; exact hw
  refine lv_aload_n C.1 C.2.1 dL_law_620 rfl (lv_at hl 2 rfl) ?_
  refine sc_ld (k := 1) C hXX hbl hbA hS hl (by omega) hLn dL_law_621 dL_law_622 dL_law_623 (by decide) dL_law_624 dL_law_625 ?_
  refine sc_ld (k := 2) C hXX hbl hbA hS hl (by omega) hLn dL_law_626 dL_law_627 dL_law_628 (by decide) dL_law_629 dL_law_630 ?_
  refine k_L_85 C hP hS hM.1 (c_X7_took (xs (i + 1)) (xs (i + 2)) hM) ⟨Nat.le_of_ble_eq_true rfl, Nat.le_of_ble_eq_true rfl⟩ hcs hl.1 (Nat.le_of_ble_eq_true rfl) dL_law_631 (fun v2 J2 H locs hv2 hP hS => ?_)
  obtain ⟨eJ, ev2⟩ := hv2
  have hSm : Sm J J2 := fun a _ => by rw [eJ]
  obtain ⟨ee, hC2, hw2⟩ := st_pure (g := fun σ => sTook σ (xs (i + 1)) (xs (i + 2))) (fun σ τ h => lo_sTook h (xs (i + 1)) (xs (i + 2))) hw hLo ev hCJ hSm ev2
  exact b_eq C dL_law_634 (tgt := 708) (by decide) (fun _ => kk J2 H locs hP hS hC2 hw2) (fun h => absurd ee h)
set_option maxHeartbeats 1000000 in
theorem lc_image {b Ln i : Nat} {xs : Nat → Int32} (C : Cx E p s m args c cL_law RL 4) (hXX : va_X b Ln xs s s.heap) (hbl : b < s.heap.size) (hbA : ¬ AG E b) (hl : lv_has ls 4 [(0, .ref b), (1, .ref (ad 100)), (2, .ref (ad 10)), (3, .int (nI i))]) (hi : i + 6 ≤ Ln) (hLn : Ln ≤ 3072) (hP : Hp E K L ad I H) (hS : va_S (AG E) s.heap H locs) (hO : IsO K L) (hM : IsM K L) (hC : CR K L I I) (hw : WF I) (hcs : cells ≤ room_1.cells ∧ slots ≤ room_1.slots) (hNA : ∀ j, xs (i + 1) = nI j → j < 2 → L 150 j = true)
    (kk : ∀ (J : Mem) (H1 : Heap) (locs1 : List Loc), Hp E K L ad J H1 → va_S (AG E) s.heap H1 locs1 → CR K L J J → WF J → W p l e room_1 s m args below meth c H1 locs1 cells slots Q (F0 m 708 ls [])) : W p l e room_1 s m args below meth c H locs cells slots Q (F0 m 639 ls []) := by
  refine lv_aload_n C.1 C.2.1 dL_law_639 rfl (lv_at hl 1 rfl) ?_
  refine sc_ld (k := 1) C hXX hbl hbA hS hl (by omega) hLn dL_law_640 dL_law_641 dL_law_642 (by decide) dL_law_643 dL_law_644 ?_
  refine k_L_86 C hP hS hO.1 (c_X6_image (xs (i + 1)) hO hC hw hNA) ⟨Nat.le_of_ble_eq_true rfl, Nat.le_of_ble_eq_true rfl⟩ hcs hl.1 (Nat.le_of_ble_eq_true rfl) dL_law_645 (fun v J H locs hv hP hS => ?_)
  obtain ⟨ev, hCJ, hLo⟩ := hv
  have hLo : Lo I J := fun a ha => (hLo a ha).symm
  have hwJ : WF J := by rw [← lo_WF hLo]; exact hw
  refine lv_aload_n C.1 C.2.1 dL_law_648 rfl (lv_at hl 2 rfl) ?_
  refine sc_ld (k := 1) C hXX hbl hbA hS hl (by omega) hLn dL_law_649 dL_law_650 dL_law_651 (by decide) dL_law_652 dL_law_653 ?_
  refine k_L_89 C hP hS hM.1 (c_X7_image (xs (i + 1)) hM) ⟨Nat.le_of_ble_eq_true rfl, Nat.le_of_ble_eq_true rfl⟩ hcs hl.1 (Nat.le_of_ble_eq_true rfl) dL_law_654 (fun v2 J2 H locs hv2 hP hS => ?_)
  obtain ⟨ee, hC2, hw2⟩ := st_pair (f := fun σ => sImage σ (xs (i + 1))) (loc_image (xs (i + 1))) (wf_image (xs (i + 1)) hw) hLo ev hCJ hv2.1 hv2.2
  exact b_eq C dL_law_657 (tgt := 708) (by decide) (fun _ => kk J2 H locs hP hS hC2 hw2) (fun h => absurd ee h)
set_option maxHeartbeats 1000000 in
theorem lc_restore {b Ln i : Nat} {xs : Nat → Int32} (C : Cx E p s m args c cL_law RL 4) (hXX : va_X b Ln xs s s.heap) (hbl : b < s.heap.size) (hbA : ¬ AG E b) (hl : lv_has ls 4 [(0, .ref b), (1, .ref (ad 100)), (2, .ref (ad 10)), (3, .int (nI i))]) (hi : i + 6 ≤ Ln) (hLn : Ln ≤ 3072) (hP : Hp E K L ad I H) (hS : va_S (AG E) s.heap H locs) (hO : IsO K L) (hM : IsM K L) (hC : CR K L I I) (hw : WF I) (hcs : cells ≤ room_1.cells ∧ slots ≤ room_1.slots)
    (kk : ∀ (J : Mem) (H1 : Heap) (locs1 : List Loc), Hp E K L ad J H1 → va_S (AG E) s.heap H1 locs1 → CR K L J J → WF J → W p l e room_1 s m args below meth c H1 locs1 cells slots Q (F0 m 708 ls [])) : W p l e room_1 s m args below meth c H locs cells slots Q (F0 m 662 ls []) := by
  refine lv_aload_n C.1 C.2.1 dL_law_662 rfl (lv_at hl 1 rfl) ?_
  refine sc_ld (k := 1) C hXX hbl hbA hS hl (by omega) hLn dL_law_663 dL_law_664 dL_law_665 (by decide) dL_law_666 dL_law_667 ?_
  refine k_L_90 C hP hS hO.1 (c_X6_restore (xs (i + 1)) hO hC hw) ⟨Nat.le_of_ble_eq_true rfl, Nat.le_of_ble_eq_true rfl⟩ hcs hl.1 (Nat.le_of_ble_eq_true rfl) dL_law_668 (fun v J H locs hv hP hS => ?_)
  obtain ⟨ev, hCJ, hLo⟩ := hv
  have hLo : Lo I J := fun a ha => (hLo a ha).symm
  have hwJ : WF J := by rw [← lo_WF hLo]; exact hw
  refine lv_aload_n C.1 C.2.1 dL_law_671 rfl (lv_at hl 2 rfl) ?_
  refine sc_ld (k := 1) C hXX hbl hbA hS hl (by omega) hLn dL_law_672 dL_law_673 dL_law_674 (by decide) dL_law_675 dL_law_676 ?_
  refine k_L_93 C hP hS hM.1 (c_X7_restore (xs (i + 1)) hM) ⟨Nat.le_of_ble_eq_true rfl, Nat.le_of_ble_eq_true rfl⟩ hcs hl.1 (Nat.le_of_ble_eq_true rfl) dL_law_677 (fun v2 J2 H locs hv2 hP hS => ?_)
  obtain ⟨ee, hC2, hw2⟩ := st_pair (f := fun σ => sRest σ (xs (i + 1))) (loc_rest (xs (i + 1))) (wf_rest (xs (i + 1)) hw hC) hLo ev hCJ hv2.1 hv2.2
  exact b_eq C dL_law_680 (tgt := 708) (by decide) (fun _ => kk J2 H locs hP hS hC2 hw2) (fun h => absurd ee h)
set_option maxHeartbeats 1000000 in
theorem lc_count {b Ln i : Nat} {xs : Nat → Int32} (C : Cx E p s m args c cL_law RL 4) (hXX : va_X b Ln xs s s.heap) (hbl : b < s.heap.size) (hbA : ¬ AG E b) (hl : lv_has ls 4 [(0, .ref b), (1, .ref (ad 100)), (2, .ref (ad 10)), (3, .int (nI i))]) (hi : i + 6 ≤ Ln) (hLn : Ln ≤ 3072) (hP : Hp E K L ad I H) (hS : va_S (AG E) s.heap H locs) (hO : IsO K L) (hM : IsM K L) (hC : CR K L I I) (hw : WF I) (hcs : cells ≤ room_1.cells ∧ slots ≤ room_1.slots)
    (kk : ∀ (J : Mem) (H1 : Heap) (locs1 : List Loc), Hp E K L ad J H1 → va_S (AG E) s.heap H1 locs1 → CR K L J J → WF J → W p l e room_1 s m args below meth c H1 locs1 cells slots Q (F0 m 708 ls [])) : W p l e room_1 s m args below meth c H locs cells slots Q (F0 m 685 ls []) := by
  refine lv_aload_n C.1 C.2.1 dL_law_685 rfl (lv_at hl 1 rfl) ?_
  refine sc_ld (k := 1) C hXX hbl hbA hS hl (by omega) hLn dL_law_686 dL_law_687 dL_law_688 (by decide) dL_law_689 dL_law_690 ?_
  refine k_L_94 C hP hS hO.1 (c_X6_count (xs (i + 1)) hO hC hw) ⟨Nat.le_of_ble_eq_true rfl, Nat.le_of_ble_eq_true rfl⟩ hcs hl.1 (Nat.le_of_ble_eq_true rfl) dL_law_691 (fun v J H locs hv hP hS => ?_)
  obtain ⟨ev, hCJ, hLo⟩ := hv
  have hLo : Lo I J := fun a ha => (hLo a ha).symm
  have hwJ : WF J := by rw [← lo_WF hLo]; exact hw
  refine lv_aload_n C.1 C.2.1 dL_law_694 rfl (lv_at hl 2 rfl) ?_
  refine sc_ld (k := 1) C hXX hbl hbA hS hl (by omega) hLn dL_law_695 dL_law_696 dL_law_697 (by decide) dL_law_698 dL_law_699 ?_
  refine k_L_97 C hP hS hM.1 (c_X7_count (xs (i + 1)) hM hwJ) ⟨Nat.le_of_ble_eq_true rfl, Nat.le_of_ble_eq_true rfl⟩ hcs hl.1 (Nat.le_of_ble_eq_true rfl) dL_law_700 (fun v2 J2 H locs hv2 hP hS => ?_)
  obtain ⟨hSm, ev2⟩ := hv2
  obtain ⟨ee, hC2, hw2⟩ := st_pure (g := fun σ => sCount σ (xs (i + 1))) (fun σ τ h => lo_sCount h (xs (i + 1))) hw hLo ev hCJ hSm ev2
  exact b_eq C dL_law_703 (tgt := 708) (by decide) (fun _ => kk J2 H locs hP hS hC2 hw2) (fun h => absurd ee h)
set_option maxHeartbeats 1000000 in
theorem lc_imgN {b Ln i : Nat} {xs : Nat → Int32} (C : Cx E p s m args c cL_law RL 4) (hXX : va_X b Ln xs s s.heap) (hbl : b < s.heap.size) (hbA : ¬ AG E b) (hl : lv_has ls 4 [(0, .ref b), (1, .ref (ad 100)), (2, .ref (ad 10)), (3, .int (nI i))]) (hi : i + 6 ≤ Ln) (hLn : Ln ≤ 3072) {z j : Nat} (hai : AI ad) (hXF : XF E s) (hP : Hp E (KK ad z) L ad I H) (hz : H.size = z) (hS : va_S (AG E) s.heap H locs) (hO : IsO (KK ad z) L) (hM : IsM (KK ad z) L) (hC : CR (KK ad z) L I I) (hw : WF I) (hcs : cells + 69 ≤ room_1.cells ∧ slots + 251 ≤ room_1.slots) (hj : j < 2) (hxj : xs (i + 1) = nI j) (hLj : L 150 j = false) (hadb : ad (300 + 100 * j) = z) (hadP : ∀ o, 1 ≤ o → o ≤ 4 → ad (300 + 100 * j + o) = z + o) (hadQ : ∀ o, 8 ≤ o → o < 72 → ad (300 + 100 * j + o) = z + o - 3)
    (kk : ∀ (L9 : Nat → Nat → Bool) (J : Mem) (H1 : Heap) (locs1 : List Loc), Hp E (KK ad (z + 69)) L9 ad J H1 → va_S (AG E) s.heap H1 locs1 → IsO (KK ad (z + 69)) L9 → IsM (KK ad (z + 69)) L9 → CR (KK ad (z + 69)) L9 J J → WF J → L9 150 j = true → (∀ i, i ≠ j → L9 150 i = L 150 i) → W p l e room_1 s m args below meth c H1 locs1 (cells + 69) (slots + 251) Q (F0 m 708 ls [])) : W p l e room_1 s m args below meth c H locs cells slots Q (F0 m 639 ls []) := by
  refine lv_aload_n C.1 C.2.1 dL_law_639 rfl (lv_at hl 1 rfl) ?_
  refine sc_ld (k := 1) C hXX hbl hbA hS hl (by omega) hLn dL_law_640 dL_law_641 dL_law_642 (by decide) dL_law_643 dL_law_644 ?_
  refine r_eqi hxj ?_
  refine gi_call (As := [.int (nI j)]) (ci := 6) C hXF hP hz hS tm_L_86 ti_X6_image ts_X6_image tz_X6 tc_X6_image dy_X6_image (by rw [hO.1]; decide) (wE_7 _ _ _ _ hO.1) rfl rfl (c_X6_imageN j hai hO hC hw hj hLj hadb hadP hadQ) ⟨Nat.le_of_ble_eq_true rfl, Nat.le_of_ble_eq_true rfl⟩ hcs hl.1 rfl (Nat.le_of_ble_eq_true rfl) dL_law_645 (fun v L9 J H locs hv hP hz hS => ?_)
  obtain ⟨ev, eL9, hO9, hC9, hLo⟩ := hv
  have hLo : Lo I J := fun a ha => (hLo a ha).symm
  have hM9 : IsM (KK ad (z + 69)) L9 := IsM_mono KK_mono (by rw [eL9, sL_r (by decide), Lpg_r (by omega)]) hM
  refine lv_aload_n C.1 C.2.1 dL_law_648 rfl (lv_at hl 2 rfl) ?_
  refine sc_ld (k := 1) C hXX hbl hbA hS hl (by omega) hLn dL_law_649 dL_law_650 dL_law_651 (by decide) dL_law_652 dL_law_653 ?_
  refine r_eqi hxj ?_
  refine k_L_89 C hP hS hM9.1 (c_X7_image (nI j) hM9) ⟨Nat.le_of_ble_eq_true rfl, Nat.le_of_ble_eq_true rfl⟩ hcs hl.1 (Nat.le_of_ble_eq_true rfl) dL_law_654 (fun v2 J2 H locs hv2 hP hS => ?_)
  have e1 : sImage I (nI j) = (nI 1, imU I j) := by
    unfold sImage
    rw [if_pos ⟨by rw [nI_toInt (by omega)]; omega, by rw [nI_toInt (by omega)]; omega⟩, show tn (nI j) = j from nI_clamp (by omega)]
  obtain ⟨ee, hC2, hw2⟩ := st_pair (f := fun σ => sImage σ (nI j)) (loc_image (nI j)) (wf_image (nI j) hw) hLo (v := v) (by rw [e1]; exact ev) (by show CR _ _ _ (sImage I (nI j)).2; rw [e1]; exact hC9) hv2.1 hv2.2
  exact b_eq C dL_law_657 (tgt := 708) (by decide) (fun _ => kk L9 J2 H locs hP hS hO9 hM9 hC2 hw2 (by rw [eL9, sL_s]) (fun i hne => by rw [eL9, sL_k hne, Lpg_r (by omega)])) (fun h => absurd ee h)
end LC
