/-! The law: its loop, its entry -/
theorem andF (y : Int32) : ∃ t, t < 16 ∧ y &&& 15 = nI t := by
  refine ⟨(y &&& 15).toBitVec.toNat, ?_, ?_⟩
  · rw [Int32.toBitVec_and, BitVec.toNat_and]
    exact Nat.lt_of_le_of_lt Nat.and_le_right (by decide)
  · apply Int32.toBitVec_inj.mp
    show _ = BitVec.ofNat 32 _
    rw [BitVec.ofNat_toNat, BitVec.setWidth_eq]
theorem law_len {L k : Nat} (hL : L ≤ 1536) (hk : 3 * k ≤ 1536) : nI L - 3 < nI (3 * k) ↔ L < 3 * k + 3 := by
  by_cases h : 3 ≤ L
  · rw [show (3 : Int32) = nI 3 from rfl, z_sub h, z_lt (by omega) (by omega)]
    omega
  · have h3 : L = 0 ∨ L = 1 ∨ L = 2 := by omega
    have key : ∀ x : Int32, x.toInt < 0 → (x < nI (3 * k) ↔ L < 3 * k + 3) := fun x hx => by
      rw [Int32.lt_iff_toInt_lt, nI_toInt (by omega)]
      omega
    rcases h3 with rfl | rfl | rfl
    · exact key _ (by decide)
    · exact key _ (by decide)
    · exact key _ (by decide)
theorem mem_type : (13, 32, 506, 507, 508) ∈ lTab ∧ (17, 103, 916, 917, 918) ∈ lTab := by decide
theorem mem_clear : (18, 35, 518, 519, 520) ∈ lTab ∧ (22, 106, 928, 929, 930) ∈ lTab := by decide
theorem mem_reads : (23, 36, 522, 523, 524) ∈ lTab ∧ (26, 107, 932, 933, 934) ∈ lTab := by decide
theorem mem_clears : (27, 56, 605, 606, 607) ∈ lTab ∧ (30, 119, 980, 981, 982) ∈ lTab := by decide
theorem mem_of : (31, 57, 611, 612, 613) ∈ lTab ∧ (35, 121, 988, 989, 990) ∈ lTab := by decide
theorem mem_rows : (36, 64, 639, 640, 641) ∈ lTab ∧ (39, 133, 1037, 1038, 1039) ∈ lTab := by decide
theorem mem_judge : (40, 75, 692, 693, 694) ∈ lTab ∧ (43, 136, 1050, 1051, 1052) ∈ lTab := by decide
theorem mem_mark : (44, 86, 743, 744, 745) ∈ lTab ∧ (47, 143, 1079, 1080, 1081) ∈ lTab := by decide
theorem mem_begins : (48, 89, 755, 756, 757) ∈ lTab ∧ (51, 146, 1093, 1094, 1095) ∈ lTab := by decide
theorem mem_steps : (52, 92, 768, 769, 770) ∈ lTab ∧ (55, 149, 1105, 1106, 1107) ∈ lTab := by decide
theorem mem_now : (56, 94, 776, 777, 778) ∈ lTab ∧ (59, 150, 1110, 1111, 1112) ∈ lTab := by decide
theorem mem_back : (60, 95, 780, 781, 782) ∈ lTab ∧ (63, 152, 1118, 1119, 1120) ∈ lTab := by decide
theorem mem_told : (64, 97, 788, 789, 790) ∈ lTab ∧ (67, 153, 1122, 1123, 1124) ∈ lTab := by decide
theorem mem_digest : (68, 99, 796, 797, 798) ∈ lTab ∧ (72, 155, 1131, 1132, 1133) ∈ lTab := by decide
theorem sJ_up {k : Nat} {v : aV} {h1 h2 : aH} (h : sJ k v h1 h2) : sJ (k + 1) v h1 h2 := by
  obtain ⟨G, A, hG, q⟩ := h
  exact ⟨G, A, by omega, q⟩
section LL
variable {l : Launch} {D : va_G} {dA : Nat → ClassId} {p : Program} {e : Env} {s : State} {m : MethodId} {b L : Nat} {xs : Nat → Int32} {below : List Frame} {meth : Method} {c : Code}
set_option maxHeartbeats 4000000 in
set_option maxRecDepth 100000 in
theorem law_loop (C : lC D dA p s m b L xs meth c) (hL : L ≤ 1536) : ∀ (r k : Nat) (v : aV) (ρ1 ρ2 : Nat → Nat) (h1 h2 : aH) (H : Heap) (locs : List Loc) (lsr : Array Slot), L < 3 * (k + r) + 3 → 3 * k ≤ 1536 → sJ k v h1 h2 → VC v ≤ 367360 ∧ VS v ≤ 6475136 → lS D dA s ρ1 ρ2 h1 h2 H locs → lv_has lsr 4 [(0, .ref b), (1, .ref (ρ1 0)), (2, .ref (ρ2 0)), (3, .int (nI (3 * k)))] → W p l e room_1 s m #[Value.ref b] below meth c H locs (214 + VC v) (11198 + VS v) (lw_Z below #[Value.ref b] s) (F0 m 18 lsr []) := by
  intro r
  induction r with
  | zero =>
    intro k v ρ1 ρ2 h1 h2 H locs lsr hLk hk3 hJ hv S hl
    refine lv_iload_n C.1 C.2.1 dl_18 rfl (lv_at hl 3 rfl) ?_
    refine lv_aload_n C.1 C.2.1 dl_19 rfl (lv_at hl 0 rfl) ?_
    refine va_slen (A := lA s) C.1 C.2.1 C.2.2.2.2.2.2.2.2.2.1 C.2.2.2.2.2.2.2.2.2.2 (Nat.not_le.mpr C.2.2.2.2.2.2.2.2.2.2) S.2.2.2.2.2 dl_20 ?_
    refine lv_iconst (v := 3) C.1 C.2.1 dl_21 (by decide) ?_
    refine lv_isub C.1 C.2.1 dl_22 ?_
    refine lv_icmp_gt (tgt := 403) C.1 C.2.1 dl_23 (by decide) (fun _ => ?_) (fun q => absurd ((law_len hL hk3).mpr (by omega)) q)
    refine lv_iconst (v := 1) C.1 C.2.1 dl_403 (by decide) ?_
    refine va_forget (fun q hq => S.2.2.2.2.2.2.2 q hq) ?_
    refine W.widen (k := 600000) (n := 7302250) (by omega) (by omega) ?_
    exact W.base (lw_ret (Drawn.sameBut.refl s.drawn lw_cs) C.1 C.2.1 C.2.2.1 C.2.2.2.2.2.2.2.1 dl_404)
  | succ r ih =>
    intro k v ρ1 ρ2 h1 h2 H locs lsr hLk hk3 hJ hv S hl
    refine lv_iload_n C.1 C.2.1 dl_18 rfl (lv_at hl 3 rfl) ?_
    refine lv_aload_n C.1 C.2.1 dl_19 rfl (lv_at hl 0 rfl) ?_
    refine va_slen (A := lA s) C.1 C.2.1 C.2.2.2.2.2.2.2.2.2.1 C.2.2.2.2.2.2.2.2.2.2 (Nat.not_le.mpr C.2.2.2.2.2.2.2.2.2.2) S.2.2.2.2.2 dl_20 ?_
    refine lv_iconst (v := 3) C.1 C.2.1 dl_21 (by decide) ?_
    refine lv_isub C.1 C.2.1 dl_22 ?_
    refine lv_icmp_gt (tgt := 403) C.1 C.2.1 dl_23 (by decide) (fun _ => ?_) (fun q => ?_)
    · refine lv_iconst (v := 1) C.1 C.2.1 dl_403 (by decide) ?_
      refine va_forget (fun q hq => S.2.2.2.2.2.2.2 q hq) ?_
      refine W.widen (k := 600000) (n := 7302250) (by omega) (by omega) ?_
      exact W.base (lw_ret (Drawn.sameBut.refl s.drawn lw_cs) C.1 C.2.1 C.2.2.1 C.2.2.2.2.2.2.2.1 dl_404)
    · have hlt : 3 * k + 3 ≤ L := by
        have : ¬ L < 3 * k + 3 := fun z => q ((law_len hL hk3).mpr z)
        omega
      have hk : k < 512 := by omega
      have hin0 : vp_in (nI (3 * k)) L := (z_in (by omega) (by omega)).mpr trivial
      have hin1 : vp_in (nI (3 * k) + 1) L := by
        rw [show (1 : Int32) = nI 1 from rfl, z_add]
        exact (z_in (by omega) (by omega)).mpr trivial
      have hin2 : vp_in (nI (3 * k) + 2) L := by
        rw [show (2 : Int32) = nI 2 from rfl, z_add]
        exact (z_in (by omega) (by omega)).mpr trivial
      have hh := sJ_1 hJ
      have hgo : ∀ (v' : aV) (ρ1' ρ2' : Nat → Nat) (h1' h2' : aH) (H' : Heap) (locs' : List Loc), sJ (k + 1) v' h1' h2' → ρ1' 0 = ρ1 0 → ρ2' 0 = ρ2 0 → lS D dA s ρ1' ρ2' h1' h2' H' locs' → W p l e room_1 s m #[Value.ref b] below meth c H' locs' (214 + VC v') (11198 + VS v') (lw_Z below #[Value.ref b] s) (F0 m 397 lsr []) := fun v' ρ1' ρ2' h1' h2' H' locs' hJ' r1 r2 S' => by
        have hv' : VC v' ≤ 367360 ∧ VS v' ≤ 6475136 := by
          obtain ⟨G, A, hG, hI, -⟩ := hJ'
          obtain ⟨b1, b2⟩ := mvB_b hI.2.2.2.2.2 (by omega)
          exact ⟨b2, b1⟩
        refine lv_iinc (v := nI (3 * (k + 1))) (lv' := [(3, .int (nI (3 * (k + 1)))), (0, .ref b), (1, .ref (ρ1 0)), (2, .ref (ρ2 0))]) C.1 C.2.1 dl_397 hl (k := 3) rfl (by
          show nI (3 * k) + nI 3 = _
          rw [z_add, show 3 * k + 3 = 3 * (k + 1) by omega]) (by decide) rfl (fun ls' hl' => ?_)
        refine lv_goto (tgt := 18) C.1 C.2.1 dl_400 (by decide) ?_
        exact ih (k + 1) v' ρ1' ρ2' h1' h2' H' locs' ls' (by omega) (by omega) hJ' hv' S' (by
          rw [r1, r2]
          exact lv_sub hl' [1, 2, 3, 0] rfl)
      have hnx : lNx l D dA p e s m b below meth c (ρ1 0) (ρ2 0) k lsr (lw_Z below #[Value.ref b] s) := fun v' h1' h2' ρ1' ρ2' H' locs' q1 q2 q3 q4 => hgo v' ρ1' ρ2' h1' h2' H' locs' q1 q2 q3 q4
      refine lv_aload_n C.1 C.2.1 dl_26 rfl (lv_at hl 0 rfl) ?_
      refine lv_iload_n C.1 C.2.1 dl_27 rfl (lv_at hl 3 rfl) ?_
      refine va_sld (A := lA s) C.1 C.2.1 C.2.2.2.2.2.2.2.2.2.1 C.2.2.2.2.2.2.2.2.2.2 (Nat.not_le.mpr C.2.2.2.2.2.2.2.2.2.2) S.2.2.2.2.2 hin0 dl_28 ?_
      refine lv_bipush (v := 15) C.1 C.2.1 dl_29 (by decide) ?_
      refine lv_iand C.1 C.2.1 dl_31 ?_
      obtain ⟨t, ht, et⟩ := andF (xs (nI (3 * k)).toNatClampNeg)
      rw [et]
      clear et
      have ht16 : t = 0 ∨ t = 1 ∨ t = 2 ∨ t = 3 ∨ t = 4 ∨ t = 5 ∨ t = 6 ∨ t = 7 ∨ t = 8 ∨ t = 9 ∨ t = 10 ∨ t = 11 ∨ t = 12 ∨ t = 13 ∨ t = 14 ∨ t = 15 := by omega
      rcases ht16 with rfl | rfl | rfl | rfl | rfl | rfl | rfl | rfl | rfl | rfl | rfl | rfl | rfl | rfl | rfl | rfl
      · refine lv_tableIn (off := 72) (tgt := 104) C.1 C.2.1 dl_32 (by decide) (by decide) (by decide) (by decide) ?_
        exact law_c1 C S hl hin1 (fun y => ja_type hk hJ y) hh mem_type.1 mem_type.2 (by decide +kernel) (by decide +kernel) dl_104 dl_105 dl_106 dl_107 dl_108 dl_109 dl_110 dl_113 dl_114 dl_115 dl_116 dl_117 dl_118 dl_119 dl_122 (by decide) hnx
      · refine lv_tableIn (off := 95) (tgt := 127) C.1 C.2.1 dl_32 (by decide) (by decide) (by decide) (by decide) ?_
        exact law_c0 C S hl (j_clear hk hJ) hh mem_clear.1 mem_clear.2 (by decide +kernel) (by decide +kernel) dl_127 dl_128 dl_131 dl_132 dl_135 (by decide) hnx
      · refine lv_tableIn (off := 108) (tgt := 140) C.1 C.2.1 dl_32 (by decide) (by decide) (by decide) (by decide) ?_
        exact law_c0 C S hl (j_reads hk hJ) hh mem_reads.1 mem_reads.2 (by decide +kernel) (by decide +kernel) dl_140 dl_141 dl_144 dl_145 dl_148 (by decide) hnx
      · refine lv_tableIn (off := 121) (tgt := 153) C.1 C.2.1 dl_32 (by decide) (by decide) (by decide) (by decide) ?_
        exact law_c1 C S hl hin1 (fun y => ja_clears hk hJ y) hh mem_clears.1 mem_clears.2 (by decide +kernel) (by decide +kernel) dl_153 dl_154 dl_155 dl_156 dl_157 dl_158 dl_159 dl_162 dl_163 dl_164 dl_165 dl_166 dl_167 dl_168 dl_171 (by decide) hnx
      · refine lv_tableIn (off := 144) (tgt := 176) C.1 C.2.1 dl_32 (by decide) (by decide) (by decide) (by decide) ?_
        exact law_c2 C S hl hin1 hin2 (fun y z => ja_of hk hJ y z) hh mem_of.1 mem_of.2 (by decide +kernel) (by decide +kernel) dl_176 dl_177 dl_178 dl_179 dl_180 dl_181 dl_182 dl_183 dl_184 dl_185 dl_186 dl_187 dl_190 dl_191 dl_192 dl_193 dl_194 dl_195 dl_196 dl_197 dl_198 dl_199 dl_200 dl_201 dl_204 (by decide) hnx
      · refine lv_tableIn (off := 177) (tgt := 209) C.1 C.2.1 dl_32 (by decide) (by decide) (by decide) (by decide) ?_
        exact law_c2 C S hl hin1 hin2 (fun y z => ja_rows hk hJ y z) hh mem_rows.1 mem_rows.2 (by decide +kernel) (by decide +kernel) dl_209 dl_210 dl_211 dl_212 dl_213 dl_214 dl_215 dl_216 dl_217 dl_218 dl_219 dl_220 dl_223 dl_224 dl_225 dl_226 dl_227 dl_228 dl_229 dl_230 dl_231 dl_232 dl_233 dl_234 dl_237 (by decide) hnx
      · refine lv_tableIn (off := 210) (tgt := 242) C.1 C.2.1 dl_32 (by decide) (by decide) (by decide) (by decide) ?_
        exact law_c1 C S hl hin1 (fun y => ja_judge hk hJ y) hh mem_judge.1 mem_judge.2 (by decide +kernel) (by decide +kernel) dl_242 dl_243 dl_244 dl_245 dl_246 dl_247 dl_248 dl_251 dl_252 dl_253 dl_254 dl_255 dl_256 dl_257 dl_260 (by decide) hnx
      · refine lv_tableIn (off := 233) (tgt := 265) C.1 C.2.1 dl_32 (by decide) (by decide) (by decide) (by decide) ?_
        exact law_c0 C S hl (j_mark hk hJ) hh mem_mark.1 mem_mark.2 (by decide +kernel) (by decide +kernel) dl_265 dl_266 dl_269 dl_270 dl_273 (by decide) hnx
      · refine lv_tableIn (off := 246) (tgt := 278) C.1 C.2.1 dl_32 (by decide) (by decide) (by decide) (by decide) ?_
        exact law_c1 C S hl hin1 (fun y => ja_begins hk hJ y) hh mem_begins.1 mem_begins.2 (by decide +kernel) (by decide +kernel) dl_278 dl_279 dl_280 dl_281 dl_282 dl_283 dl_284 dl_287 dl_288 dl_289 dl_290 dl_291 dl_292 dl_293 dl_296 (by decide) hnx
      · refine lv_tableIn (off := 269) (tgt := 301) C.1 C.2.1 dl_32 (by decide) (by decide) (by decide) (by decide) ?_
        exact law_c1 C S hl hin1 (fun y => ja_steps hk hJ y) hh mem_steps.1 mem_steps.2 (by decide +kernel) (by decide +kernel) dl_301 dl_302 dl_303 dl_304 dl_305 dl_306 dl_307 dl_310 dl_311 dl_312 dl_313 dl_314 dl_315 dl_316 dl_319 (by decide) hnx
      · refine lv_tableIn (off := 292) (tgt := 324) C.1 C.2.1 dl_32 (by decide) (by decide) (by decide) (by decide) ?_
        exact law_c1 C S hl hin1 (fun y => ja_now hk hJ y) hh mem_now.1 mem_now.2 (by decide +kernel) (by decide +kernel) dl_324 dl_325 dl_326 dl_327 dl_328 dl_329 dl_330 dl_333 dl_334 dl_335 dl_336 dl_337 dl_338 dl_339 dl_342 (by decide) hnx
      · refine lv_tableIn (off := 315) (tgt := 347) C.1 C.2.1 dl_32 (by decide) (by decide) (by decide) (by decide) ?_
        exact law_c0 C S hl (j_back hk hJ) hh mem_back.1 mem_back.2 (by decide +kernel) (by decide +kernel) dl_347 dl_348 dl_351 dl_352 dl_355 (by decide) hnx
      · refine lv_tableIn (off := 328) (tgt := 360) C.1 C.2.1 dl_32 (by decide) (by decide) (by decide) (by decide) ?_
        exact law_c1 C S hl hin1 (fun y => ja_told hk hJ y) hh mem_told.1 mem_told.2 (by decide +kernel) (by decide +kernel) dl_360 dl_361 dl_362 dl_363 dl_364 dl_365 dl_366 dl_369 dl_370 dl_371 dl_372 dl_373 dl_374 dl_375 dl_378 (by decide) hnx
      · refine lv_tableIn (off := 351) (tgt := 383) C.1 C.2.1 dl_32 (by decide) (by decide) (by decide) (by decide) ?_
        exact law_cJ C S hl (j_digest hk hJ) hh mem_digest.1 mem_digest.2 (by decide +kernel) (by decide +kernel) dl_383 dl_384 dl_387 dl_388 dl_391 dl_392 (by decide) hnx
      · refine lv_tableOut (tgt := 397) C.1 C.2.1 dl_32 (Or.inr (by decide)) (by decide) ?_
        exact hgo v ρ1 ρ2 h1 h2 H locs (sJ_up hJ) rfl rfl S
      · refine lv_tableOut (tgt := 397) C.1 C.2.1 dl_32 (Or.inr (by decide)) (by decide) ?_
        exact hgo v ρ1 ρ2 h1 h2 H locs (sJ_up hJ) rfl rfl S
end LL
