/-! Calls refused, on both sides -/
theorem jK_0 {A : sA} {v : aV} {J : jS} {PM : Nat → PS × MS} (h : jK A v J PM) : jK (rA0 A) v (rfB J) PM := by
  obtain ⟨w, e1, q⟩ := h
  exact ⟨w, by show (J.1.1 + 1, J.1.2.1, J.1.2.2) = (A.1.1 + 1, A.1.2.1, A.1.2.2); rw [e1], q⟩
theorem jK_1 {A : sA} {v : aV} {J : jS} {PM : Nat → PS × MS} (h : jK A v J PM) : jK (rA1 A) v (rfN J) PM := by
  obtain ⟨w, e1, q⟩ := h
  exact ⟨w, by show (J.1.1, J.1.2.1 + 1, J.1.2.2) = (A.1.1, A.1.2.1 + 1, A.1.2.2); rw [e1], q⟩
theorem jK_2 {A : sA} {v : aV} {J : jS} {PM : Nat → PS × MS} (h : jK A v J PM) : jK (rA2 A) v (rfF J) PM := by
  obtain ⟨w, e1, q⟩ := h
  exact ⟨w, by show (J.1.1, J.1.2.1, J.1.2.2 + 1) = (A.1.1, A.1.2.1, A.1.2.2 + 1); rw [e1], q⟩
theorem sI_b {G : List (Nat × List Nat)} {A : sA} {v : aV} {k : Nat} (h : sI G A v) (hG : G.length ≤ k) (hk : k < 512) : VS v ≤ 6475136 ∧ VC v ≤ 367360 := mvB_b h.2.2.2.2.2 (by omega)
theorem jcBad {μ1 μ2 : Nat} {a : List Value} {k : Nat} {v : aV} {h1 h2 : aH} (hk : k < 512) (hS : sJ k v h1 h2) (mv : Nat → Bool) (h0 : mv 0 = false)
    (c1 : ∀ d J PM, aSp (d + 51) μ1 a (jH J PM) mv 0 0 (fun r h' => r = some (.int (-2)) ∧ h' = jH (rfB J) PM))
    (c2 : ∀ d gal gps gst grf gtx gtl h, gHx gal gps gst grf gtx gtl h → aSp (d + 7) μ2 a h nomv 0 0 (fun r h' => r = some (.int (-2)) ∧ gHx gal gps gst (rfG grf 0) gtx gtl h')) : JC zI μ1 μ2 a k v h1 h2 := by
  obtain ⟨G, A, hG, hI, hj, gal, gps, grf, gtx, hx, hg⟩ := hS
  obtain ⟨J, PM, rfl, hJ⟩ := jI_of hj
  refine JC.same mv h0 (fun h' => h' = jH (rfB J) PM) (fun h' => gHx gal gps (nI A.2.2.2.length) (rfG grf 0) gtx (nI A.2.1.length) h') _ ⟨_, rfl⟩ (sI_b hI hG hk) (fun d => c1 d J PM) (fun d => c2 d _ _ _ _ _ _ _ hx) ?_
  rintro _ h2' rfl q
  exact ⟨G, rA0 A, by omega, hI, jI_mk (jK_0 hJ), gal, gps, rfG grf 0, gtx, q, gK_0 hg⟩
theorem jv_0 : jv 0 = false := by decide
section BAD
variable {k : Nat} {v : aV} {h1 h2 : aH}
theorem j_typeBad (hk : k < 512) (hS : sJ k v h1 h2) (c : Int32) (hb : inB c 0 127 = false) (hc : c < nI 0 ∨ nI 127 < c) : JC zI 32 103 [.ref 0, .int c] k v h1 h2 := by
  refine jcBad hk hS nomv rfl (fun d J PM => ?_) (fun d gal gps gst grf gtx gtl h q => ?_)
  · obtain ⟨⟨a, b, e⟩, t, s, p, r0, cn, bk⟩ := J
    exact c_typeBad a b e s p r0 cn bk PM (d + 50) t c hc
  · obtain ⟨gmy, gkd, glf, grt, gpr, gun, gow, gem, ged, gse, gsz, gsp, gmd, gop, gom, gwt, gwm, gtn, gon, gsh, gtr, gbl, gbd, gwh, gfl, gfd, gfe, rfl⟩ := q
    refine sp_weaken (g_typeBad gal gps gst grf gmy gkd glf grt gpr gun gow gem ged gse gsz gtx gtl gsp gmd gop gom gwt gwm gtn gon gsh gtr gbl gbd gwh gfl gfd gfe (d + 5) c hb) ?_
    rintro r _ ⟨rfl, rfl⟩
    exact ⟨rfl, gHx_i gal gps gst ((rfG grf 0)) gmy gkd glf grt gpr gun gow gem ged gse gsz gtx gtl gsp gmd gop gom gwt gwm gtn gon gsh gtr gbl gbd gwh gfl gfd gfe⟩
theorem j_toldBad (hk : k < 512) (hS : sJ k v h1 h2) (c : Int32) (hb : inB c 0 4 = false) (hc : c < nI 0 ∨ nI 4 < c) : JC zI 97 153 [.ref 0, .int c] k v h1 h2 := by
  refine jcBad hk hS nomv rfl (fun d J PM => ?_) (fun d gal gps gst grf gtx gtl h q => ?_)
  · obtain ⟨⟨a, b, e⟩, t, s, p, r0, cn, bk⟩ := J
    exact c_toldBad a b e s p r0 cn bk PM (d + 50) t c hc
  · obtain ⟨gmy, gkd, glf, grt, gpr, gun, gow, gem, ged, gse, gsz, gsp, gmd, gop, gom, gwt, gwm, gtn, gon, gsh, gtr, gbl, gbd, gwh, gfl, gfd, gfe, rfl⟩ := q
    refine sp_weaken (g_toldBad gal gps gst grf gmy gkd glf grt gpr gun gow gem ged gse gsz gtx gtl gsp gmd gop gom gwt gwm gtn gon gsh gtr gbl gbd gwh gfl gfd gfe (d + 5) c hb) ?_
    rintro r _ ⟨rfl, rfl⟩
    exact ⟨rfl, gHx_i gal gps gst ((rfG grf 0)) gmy gkd glf grt gpr gun gow gem ged gse gsz gtx gtl gsp gmd gop gom gwt gwm gtn gon gsh gtr gbl gbd gwh gfl gfd gfe⟩
theorem j_clearsBad (hk : k < 512) (hS : sJ k v h1 h2) (c : Int32) (hb : inB c 0 8 = false) (hc : c < nI 0 ∨ nI 9 ≤ c) : JC zI 56 119 [.ref 0, .int c] k v h1 h2 := by
  refine jcBad hk hS jv jv_0 (fun d J PM => ?_) (fun d gal gps gst grf gtx gtl h q => ?_)
  · exact c_clearsBad J PM (d + 50) c hc
  · obtain ⟨gmy, gkd, glf, grt, gpr, gun, gow, gem, ged, gse, gsz, gsp, gmd, gop, gom, gwt, gwm, gtn, gon, gsh, gtr, gbl, gbd, gwh, gfl, gfd, gfe, rfl⟩ := q
    refine sp_weaken (g_clearsBad gal gps gst grf gmy gkd glf grt gpr gun gow gem ged gse gsz gtx gtl gsp gmd gop gom gwt gwm gtn gon gsh gtr gbl gbd gwh gfl gfd gfe (d + 5) c hb) ?_
    rintro r _ ⟨rfl, rfl⟩
    exact ⟨rfl, gHx_i gal gps gst ((rfG grf 0)) gmy gkd glf grt gpr gun gow gem ged gse gsz gtx gtl gsp gmd gop gom gwt gwm gtn gon gsh gtr gbl gbd gwh gfl gfd gfe⟩
theorem j_nowBad (hk : k < 512) (hS : sJ k v h1 h2) (c : Int32) (hb : inB c 0 3 = false) (hc : c < nI 0 ∨ nI 3 < c) : JC zI 94 150 [.ref 0, .int c] k v h1 h2 := by
  refine jcBad hk hS jv jv_0 (fun d J PM => ?_) (fun d gal gps gst grf gtx gtl h q => ?_)
  · exact c_nowBad J PM (d + 50) c hc
  · obtain ⟨gmy, gkd, glf, grt, gpr, gun, gow, gem, ged, gse, gsz, gsp, gmd, gop, gom, gwt, gwm, gtn, gon, gsh, gtr, gbl, gbd, gwh, gfl, gfd, gfe, rfl⟩ := q
    refine sp_weaken (g_nowBad gal gps gst grf gmy gkd glf grt gpr gun gow gem ged gse gsz gtx gtl gsp gmd gop gom gwt gwm gtn gon gsh gtr gbl gbd gwh gfl gfd gfe (d + 5) c hb) ?_
    rintro r _ ⟨rfl, rfl⟩
    exact ⟨rfl, gHx_i gal gps gst ((rfG grf 0)) gmy gkd glf grt gpr gun gow gem ged gse gsz gtx gtl gsp gmd gop gom gwt gwm gtn gon gsh gtr gbl gbd gwh gfl gfd gfe⟩
theorem j_beginsBad (hk : k < 512) (hS : sJ k v h1 h2) (c : Int32) (hb : inB c 0 8 = false) (hc : c < nI 0 ∨ nI 9 ≤ c) : JC zI 89 146 [.ref 0, .int c] k v h1 h2 := by
  refine jcBad hk hS jv jv_0 (fun d J PM => ?_) (fun d gal gps gst grf gtx gtl h q => ?_)
  · exact c_beginsBad J PM (d + 50) c hc
  · obtain ⟨gmy, gkd, glf, grt, gpr, gun, gow, gem, ged, gse, gsz, gsp, gmd, gop, gom, gwt, gwm, gtn, gon, gsh, gtr, gbl, gbd, gwh, gfl, gfd, gfe, rfl⟩ := q
    refine sp_weaken (g_beginsBad gal gps gst grf gmy gkd glf grt gpr gun gow gem ged gse gsz gtx gtl gsp gmd gop gom gwt gwm gtn gon gsh gtr gbl gbd gwh gfl gfd gfe (d + 5) c hb) ?_
    rintro r _ ⟨rfl, rfl⟩
    exact ⟨rfl, gHx_i gal gps gst ((rfG grf 0)) gmy gkd glf grt gpr gun gow gem ged gse gsz gtx gtl gsp gmd gop gom gwt gwm gtn gon gsh gtr gbl gbd gwh gfl gfd gfe⟩
theorem j_stepsBad (hk : k < 512) (hS : sJ k v h1 h2) (c : Int32) (hb : inB c 0 7 = false) (hc : c < nI 0 ∨ nI 8 ≤ c) : JC zI 92 149 [.ref 0, .int c] k v h1 h2 := by
  refine jcBad hk hS jv jv_0 (fun d J PM => ?_) (fun d gal gps gst grf gtx gtl h q => ?_)
  · exact c_stepsBad J PM (d + 50) c hc
  · obtain ⟨gmy, gkd, glf, grt, gpr, gun, gow, gem, ged, gse, gsz, gsp, gmd, gop, gom, gwt, gwm, gtn, gon, gsh, gtr, gbl, gbd, gwh, gfl, gfd, gfe, rfl⟩ := q
    refine sp_weaken (g_stepsBad gal gps gst grf gmy gkd glf grt gpr gun gow gem ged gse gsz gtx gtl gsp gmd gop gom gwt gwm gtn gon gsh gtr gbl gbd gwh gfl gfd gfe (d + 5) c hb) ?_
    rintro r _ ⟨rfl, rfl⟩
    exact ⟨rfl, gHx_i gal gps gst ((rfG grf 0)) gmy gkd glf grt gpr gun gow gem ged gse gsz gtx gtl gsp gmd gop gom gwt gwm gtn gon gsh gtr gbl gbd gwh gfl gfd gfe⟩
theorem j_judgeBad (hk : k < 512) (hS : sJ k v h1 h2) (c : Int32) (hb : inB c 0 5 = false) (hc : c < nI 0 ∨ nI 5 < c) : JC zI 75 136 [.ref 0, .int c] k v h1 h2 := by
  refine jcBad hk hS jv jv_0 (fun d J PM => ?_) (fun d gal gps gst grf gtx gtl h q => ?_)
  · exact c_judgeBad J PM (d + 50) c hc
  · obtain ⟨gmy, gkd, glf, grt, gpr, gun, gow, gem, ged, gse, gsz, gsp, gmd, gop, gom, gwt, gwm, gtn, gon, gsh, gtr, gbl, gbd, gwh, gfl, gfd, gfe, rfl⟩ := q
    refine sp_weaken (g_judgeBad gal gps gst grf gmy gkd glf grt gpr gun gow gem ged gse gsz gtx gtl gsp gmd gop gom gwt gwm gtn gon gsh gtr gbl gbd gwh gfl gfd gfe (d + 5) c hb) ?_
    rintro r _ ⟨rfl, rfl⟩
    exact ⟨rfl, gHx_i gal gps gst ((rfG grf 0)) gmy gkd glf grt gpr gun gow gem ged gse gsz gtx gtl gsp gmd gop gom gwt gwm gtn gon gsh gtr gbl gbd gwh gfl gfd gfe⟩
theorem j_ofBad (hk : k < 512) (hS : sJ k v h1 h2) (x c : Int32) (hb : inB x 0 8 = false ∨ inB c 0 3 = false) (hc : (x < nI 0 ∨ nI 9 ≤ x) ∨ (∃ k, k < 9 ∧ x = nI k) ∧ (c < nI 0 ∨ nI 3 < c)) : JC zI 57 121 [.ref 0, .int x, .int c] k v h1 h2 := by
  refine jcBad hk hS jv jv_0 (fun d J PM => ?_) (fun d gal gps gst grf gtx gtl h q => ?_)
  · exact c_ofBad (d + 48) x c J PM hc
  · obtain ⟨gmy, gkd, glf, grt, gpr, gun, gow, gem, ged, gse, gsz, gsp, gmd, gop, gom, gwt, gwm, gtn, gon, gsh, gtr, gbl, gbd, gwh, gfl, gfd, gfe, rfl⟩ := q
    refine sp_weaken (g_ofBad gal gps gst grf gmy gkd glf grt gpr gun gow gem ged gse gsz gtx gtl gsp gmd gop gom gwt gwm gtn gon gsh gtr gbl gbd gwh gfl gfd gfe (d + 5) x c hb) ?_
    rintro r _ ⟨rfl, rfl⟩
    exact ⟨rfl, gHx_i gal gps gst ((rfG grf 0)) gmy gkd glf grt gpr gun gow gem ged gse gsz gtx gtl gsp gmd gop gom gwt gwm gtn gon gsh gtr gbl gbd gwh gfl gfd gfe⟩
theorem j_rowsBad (hk : k < 512) (hS : sJ k v h1 h2) (x c : Int32) (hb : inB x 0 8 = false ∨ inB c 0 6 = false) (hc : (x < nI 0 ∨ nI 9 ≤ x) ∨ (∃ k, k < 9 ∧ x = nI k) ∧ (c < nI 0 ∨ nI 6 < c)) : JC zI 64 133 [.ref 0, .int x, .int c] k v h1 h2 := by
  refine jcBad hk hS jv jv_0 (fun d J PM => ?_) (fun d gal gps gst grf gtx gtl h q => ?_)
  · exact c_rowsBad (d + 48) x c J PM hc
  · obtain ⟨gmy, gkd, glf, grt, gpr, gun, gow, gem, ged, gse, gsz, gsp, gmd, gop, gom, gwt, gwm, gtn, gon, gsh, gtr, gbl, gbd, gwh, gfl, gfd, gfe, rfl⟩ := q
    refine sp_weaken (g_rowsBad gal gps gst grf gmy gkd glf grt gpr gun gow gem ged gse gsz gtx gtl gsp gmd gop gom gwt gwm gtn gon gsh gtr gbl gbd gwh gfl gfd gfe (d + 5) x c hb) ?_
    rintro r _ ⟨rfl, rfl⟩
    exact ⟨rfl, gHx_i gal gps gst ((rfG grf 0)) gmy gkd glf grt gpr gun gow gem ged gse gsz gtx gtl gsp gmd gop gom gwt gwm gtn gon gsh gtr gbl gbd gwh gfl gfd gfe⟩
end BAD
