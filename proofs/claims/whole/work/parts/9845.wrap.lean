/-! The model's calls, told by what lasts -/
section WR
variable {gal gps grf gtx : Nat → Int32} {gst gtl : Int32} {h : aH} (d : Nat)
theorem G_typeFull (hx : gHx gal gps gst grf gtx gtl h) (k : Nat) (hk : k < 128) (hl : gtl = nI 150) : aSp (d + 7) 103 [.ref 0, .int (nI k)] h nomv 0 0 (fun r h' => r = some (.int (-4)) ∧ gHx gal gps gst (rfG grf 2) gtx gtl h') := by
  obtain ⟨gmy, gkd, glf, grt, gpr, gun, gow, gem, ged, gse, gsz, gsp, gmd, gop, gom, gwt, gwm, gtn, gon, gsh, gtr, gbl, gbd, gwh, gfl, gfd, gfe, rfl⟩ := hx
  refine sp_weaken (g_typeFull gal gps gst grf gmy gkd glf grt gpr gun gow gem ged gse gsz gtx gtl gsp gmd gop gom gwt gwm gtn gon gsh gtr gbl gbd gwh gfl gfd gfe (d + 5) k hk hl) ?_
  rintro r _ ⟨rfl, rfl⟩
  exact ⟨rfl, gHx_i gal gps gst ((rfG grf 2)) gmy gkd glf grt gpr gun gow gem ged gse gsz gtx gtl gsp gmd gop gom gwt gwm gtn gon gsh gtr gbl gbd gwh gfl gfd gfe⟩
theorem G_type (hx : gHx gal gps gst grf gtx gtl h) (k len : Nat) (hk : k < 128) (hl : gtl = nI len) (hl2 : len < 150) : aSp (d + 7) 103 [.ref 0, .int (nI k)] h nomv 0 0 (fun r h' => r = some (.int (nI (len + 1))) ∧ gHx gal gps gst grf (upd gtx len (nI k)) (nI (len + 1)) h') := by
  obtain ⟨gmy, gkd, glf, grt, gpr, gun, gow, gem, ged, gse, gsz, gsp, gmd, gop, gom, gwt, gwm, gtn, gon, gsh, gtr, gbl, gbd, gwh, gfl, gfd, gfe, rfl⟩ := hx
  refine sp_weaken (g_type gal gps gst grf gmy gkd glf grt gpr gun gow gem ged gse gsz gtx gtl gsp gmd gop gom gwt gwm gtn gon gsh gtr gbl gbd gwh gfl gfd gfe (d + 5) k len hk hl hl2) ?_
  rintro r _ ⟨rfl, rfl⟩
  exact ⟨rfl, gHx_i gal gps gst grf gmy gkd glf grt gpr gun gow gem ged gse gsz ((upd gtx len (nI k))) ((nI (len + 1))) gsp gmd gop gom gwt gwm gtn gon gsh gtr gbl gbd gwh gfl gfd gfe⟩
theorem G_clear (hx : gHx gal gps gst grf gtx gtl h) : aSp (d + 7) 106 [.ref 0] h nomv 0 0 (fun r h' => r = some (.int gtl) ∧ gHx gal gps gst grf gtx (nI 0) h') := by
  obtain ⟨gmy, gkd, glf, grt, gpr, gun, gow, gem, ged, gse, gsz, gsp, gmd, gop, gom, gwt, gwm, gtn, gon, gsh, gtr, gbl, gbd, gwh, gfl, gfd, gfe, rfl⟩ := hx
  refine sp_weaken (g_clear gal gps gst grf gmy gkd glf grt gpr gun gow gem ged gse gsz gtx gtl gsp gmd gop gom gwt gwm gtn gon gsh gtr gbl gbd gwh gfl gfd gfe (d + 7)) ?_
  rintro r _ ⟨rfl, rfl⟩
  exact ⟨rfl, gHx_i gal gps gst grf gmy gkd glf grt gpr gun gow gem ged gse gsz gtx ((nI 0)) gsp gmd gop gom gwt gwm gtn gon gsh gtr gbl gbd gwh gfl gfd gfe⟩
theorem G_told (hx : gHx gal gps gst grf gtx gtl h) (w : Nat) (hw : w < 5) : aSp (d + 7) 153 [.ref 0, .int (nI w)] h nomv 0 0 (fun r h' => r = some (.int (tlG grf gtl gst w)) ∧ gHx gal gps gst grf gtx gtl h') := by
  obtain ⟨gmy, gkd, glf, grt, gpr, gun, gow, gem, ged, gse, gsz, gsp, gmd, gop, gom, gwt, gwm, gtn, gon, gsh, gtr, gbl, gbd, gwh, gfl, gfd, gfe, rfl⟩ := hx
  refine sp_weaken (g_told gal gps gst grf gmy gkd glf grt gpr gun gow gem ged gse gsz gtx gtl gsp gmd gop gom gwt gwm gtn gon gsh gtr gbl gbd gwh gfl gfd gfe (d + 5) w hw) ?_
  rintro r _ ⟨rfl, rfl⟩
  exact ⟨rfl, gHx_i gal gps gst grf gmy gkd glf grt gpr gun gow gem ged gse gsz gtx gtl gsp gmd gop gom gwt gwm gtn gon gsh gtr gbl gbd gwh gfl gfd gfe⟩
theorem G_clears (hx : gHx gal gps gst grf gtx gtl h) (x c : Nat) (hx9 : x < 9) (hc : c ≤ 4) (hst : gst = nI c) : aSp (d + 7) 119 [.ref 0, .int (nI x)] h nomv 0 0 (fun r h' => r = some (.int (nI 1)) ∧ ∃ gps', gHx (clG gal x) gps' (nI (c1N c)) grf gtx gtl h' ∧ kpR gps gps' gal c) := by
  obtain ⟨gmy, gkd, glf, grt, gpr, gun, gow, gem, ged, gse, gsz, gsp, gmd, gop, gom, gwt, gwm, gtn, gon, gsh, gtr, gbl, gbd, gwh, gfl, gfd, gfe, rfl⟩ := hx
  refine sp_weaken (g_clears gal gps gst grf gmy gkd glf grt gpr gun gow gem ged gse gsz gtx gtl gsp gmd gop gom gwt gwm gtn gon gsh gtr gbl gbd gwh gfl gfd gfe (d + 5) x c hx9 hc hst) ?_
  rintro r _ ⟨rfl, gps', rfl, q⟩
  exact ⟨rfl, gps', gHx_i ((clG gal x)) gps' ((nI (c1N c))) grf gmy gkd glf grt gpr gun gow gem ged gse gsz gtx gtl gsp gmd gop gom gwt gwm gtn gon gsh gtr gbl gbd gwh gfl gfd gfe, q⟩
theorem G_backNo (hx : gHx gal gps gst grf gtx gtl h) (hst : gst = nI 0) : aSp (d + 7) 152 [.ref 0] h nomv 0 0 (fun r h' => r = some (.int (-3)) ∧ gHx gal gps gst (rfG grf 1) gtx gtl h') := by
  obtain ⟨gmy, gkd, glf, grt, gpr, gun, gow, gem, ged, gse, gsz, gsp, gmd, gop, gom, gwt, gwm, gtn, gon, gsh, gtr, gbl, gbd, gwh, gfl, gfd, gfe, rfl⟩ := hx
  subst hst
  refine sp_weaken (g_backNo gal gps grf gmy gkd glf grt gpr gun gow gem ged gse gsz gtx gtl gsp gmd gop gom gwt gwm gtn gon gsh gtr gbl gbd gwh gfl gfd gfe (d + 6)) ?_
  rintro r _ ⟨rfl, rfl⟩
  exact ⟨rfl, gHx_i gal gps ((nI 0)) ((rfG grf 1)) gmy gkd glf grt gpr gun gow gem ged gse gsz gtx gtl gsp gmd gop gom gwt gwm gtn gon gsh gtr gbl gbd gwh gfl gfd gfe⟩
theorem G_back (hx : gHx gal gps gst grf gtx gtl h) (c : Nat) (hc : c < 4) (hst : gst = nI (c + 1)) : aSp (d + 7) 152 [.ref 0] h nomv 0 0 (fun r h' => r = some (.int (nI c)) ∧ ∃ gal', gHx gal' gps (nI c) grf gtx gtl h' ∧ ∀ k, k < 464 → gal' k = gps (464 * c + k)) := by
  obtain ⟨gmy, gkd, glf, grt, gpr, gun, gow, gem, ged, gse, gsz, gsp, gmd, gop, gom, gwt, gwm, gtn, gon, gsh, gtr, gbl, gbd, gwh, gfl, gfd, gfe, rfl⟩ := hx
  refine sp_weaken (g_back gal gps gst grf gmy gkd glf grt gpr gun gow gem ged gse gsz gtx gtl gsp gmd gop gom gwt gwm gtn gon gsh gtr gbl gbd gwh gfl gfd gfe (d + 6) c hc hst) ?_
  rintro r _ ⟨rfl, gal', rfl, q⟩
  exact ⟨rfl, gal', gHx_i gal' gps ((nI c)) grf gmy gkd glf grt gpr gun gow gem ged gse gsz gtx gtl gsp gmd gop gom gwt gwm gtn gon gsh gtr gbl gbd gwh gfl gfd gfe, q⟩
theorem G_now (hx : gHx gal gps gst grf gtx gtl h) (o w : Nat) (hw4 : w < 4) (row : List Nat) (p : Int64) (hp : paP gal o p) (hr : rwG gal o row) : aSp (d + 7) 150 [.ref 0, .int (nI w)] h nomv 0 0 (fun r h' => r = some (.int (orA p o row w)) ∧ gHx gal gps gst grf gtx gtl h') := by
  obtain ⟨gmy, gkd, glf, grt, gpr, gun, gow, gem, ged, gse, gsz, gsp, gmd, gop, gom, gwt, gwm, gtn, gon, gsh, gtr, gbl, gbd, gwh, gfl, gfd, gfe, rfl⟩ := hx
  exact g_now gal gps gst grf gmy gkd glf grt gpr gun gow gem ged gse gsz gtx gtl gsp gmd gop gom gwt gwm gtn gon gsh gtr gbl gbd gwh gfl gfd gfe (d + 2) o w hw4 row p hp hr
theorem G_of (hx : gHx gal gps gst grf gtx gtl h) (x w : Nat) (hx9 : x < 9) (hw4 : w < 4) (p : Int64) (hp : paP gal x p) : aSp (d + 7) 121 [.ref 0, .int (nI x), .int (nI w)] h nomv 0 0 (fun r h' => r = some (.int (opA p w)) ∧ gHx gal gps gst grf gtx gtl h') := by
  obtain ⟨gmy, gkd, glf, grt, gpr, gun, gow, gem, ged, gse, gsz, gsp, gmd, gop, gom, gwt, gwm, gtn, gon, gsh, gtr, gbl, gbd, gwh, gfl, gfd, gfe, rfl⟩ := hx
  exact g_of gal gps gst grf gmy gkd glf grt gpr gun gow gem ged gse gsz gtx gtl gsp gmd gop gom gwt gwm gtn gon gsh gtr gbl gbd gwh gfl gfd gfe (d + 2) x w hx9 hw4 p hp
theorem G_rows (hx : gHx gal gps gst grf gtx gtl h) (x n : Nat) (hx9 : x < 9) (hn : n ≤ 6) (p : Int64) (hp : paP gal x p) : aSp (d + 7) 133 [.ref 0, .int (nI x), .int (nI n)] h nomv 0 0 (fun r h' => r = some (.int (nI (cntR p n))) ∧ gHx gal gps gst grf gtx gtl h') := by
  obtain ⟨gmy, gkd, glf, grt, gpr, gun, gow, gem, ged, gse, gsz, gsp, gmd, gop, gom, gwt, gwm, gtn, gon, gsh, gtr, gbl, gbd, gwh, gfl, gfd, gfe, rfl⟩ := hx
  exact g_rows gal gps gst grf gmy gkd glf grt gpr gun gow gem ged gse gsz gtx gtl gsp gmd gop gom gwt gwm gtn gon gsh gtr gbl gbd gwh gfl gfd gfe (d + 2) x n hx9 hn p hp
theorem G_begins (hx : gHx gal gps gst grf gtx gtl h) (x c : Nat) (hx9 : x < 9) (hc : c ≤ 4) (hst : gst = nI c) (p : Int64) (hp : paP gal x p) : aSp (d + 7) 146 [.ref 0, .int (nI x)] h nomv 0 0 (fun r h' => r = some (.int (orA p x [] 0)) ∧ ∃ gps', gHx (upd (upd gal 442 (nI x)) 443 (nI 0)) gps' (nI (c1N c)) grf gtx gtl h' ∧ kpR gps gps' gal c) := by
  obtain ⟨gmy, gkd, glf, grt, gpr, gun, gow, gem, ged, gse, gsz, gsp, gmd, gop, gom, gwt, gwm, gtn, gon, gsh, gtr, gbl, gbd, gwh, gfl, gfd, gfe, rfl⟩ := hx
  exact g_begins gal gps gst grf gmy gkd glf grt gpr gun gow gem ged gse gsz gtx gtl gsp gmd gop gom gwt gwm gtn gon gsh gtr gbl gbd gwh gfl gfd gfe (d + 2) x c hx9 hc hst p hp
theorem G_stepsNo (hx : gHx gal gps gst grf gtx gtl h) (x o : Nat) (hx8 : x < 8) (row : List Nat) (p : Int64) (hp : paP gal o p) (hr : rwG gal o row) (hz : dltM (dG p) x (rowM p 1 row) = 0) : aSp (d + 7) 149 [.ref 0, .int (nI x)] h nomv 0 0 (fun r h' => r = some (.int (-3)) ∧ gHx gal gps gst (rfG grf 1) gtx gtl h') := by
  obtain ⟨gmy, gkd, glf, grt, gpr, gun, gow, gem, ged, gse, gsz, gsp, gmd, gop, gom, gwt, gwm, gtn, gon, gsh, gtr, gbl, gbd, gwh, gfl, gfd, gfe, rfl⟩ := hx
  exact g_stepsNo gal gps gst grf gmy gkd glf grt gpr gun gow gem ged gse gsz gtx gtl gsp gmd gop gom gwt gwm gtn gon gsh gtr gbl gbd gwh gfl gfd gfe (d + 2) x o hx8 row p hp hr hz
theorem G_stepsFull (hx : gHx gal gps gst grf gtx gtl h) (x o : Nat) (hx8 : x < 8) (row : List Nat) (p : Int64) (hp : paP gal o p) (hr : rwG gal o row) (hz : dltM (dG p) x (rowM p 1 row) ≠ 0) (h20 : row.length = 20) : aSp (d + 7) 149 [.ref 0, .int (nI x)] h nomv 0 0 (fun r h' => r = some (.int (-4)) ∧ gHx gal gps gst (rfG grf 2) gtx gtl h') := by
  obtain ⟨gmy, gkd, glf, grt, gpr, gun, gow, gem, ged, gse, gsz, gsp, gmd, gop, gom, gwt, gwm, gtn, gon, gsh, gtr, gbl, gbd, gwh, gfl, gfd, gfe, rfl⟩ := hx
  exact g_stepsFull gal gps gst grf gmy gkd glf grt gpr gun gow gem ged gse gsz gtx gtl gsp gmd gop gom gwt gwm gtn gon gsh gtr gbl gbd gwh gfl gfd gfe (d + 2) x o hx8 row p hp hr hz h20
theorem G_steps (hx : gHx gal gps gst grf gtx gtl h) (x o c : Nat) (hx8 : x < 8) (hc : c ≤ 4) (hst : gst = nI c) (row : List Nat) (p : Int64) (hp : paP gal o p) (hr : rwG gal o row) (hz : dltM (dG p) x (rowM p 1 row) ≠ 0) (h20 : row.length < 20) : aSp (d + 7) 149 [.ref 0, .int (nI x)] h nomv 0 0 (fun r h' => r = some (.int (orA p o (row ++ [x]) 0)) ∧ ∃ gps', gHx (adG gal row.length x) gps' (nI (c1N c)) grf gtx gtl h' ∧ kpR gps gps' gal c) := by
  obtain ⟨gmy, gkd, glf, grt, gpr, gun, gow, gem, ged, gse, gsz, gsp, gmd, gop, gom, gwt, gwm, gtn, gon, gsh, gtr, gbl, gbd, gwh, gfl, gfd, gfe, rfl⟩ := hx
  exact g_steps gal gps gst grf gmy gkd glf grt gpr gun gow gem ged gse gsz gtx gtl gsp gmd gop gom gwt gwm gtn gon gsh gtr gbl gbd gwh gfl gfd gfe (d + 2) x o c hx8 hc hst row p hp hr hz h20
theorem G_digest (hx : gHx gal gps gst grf gtx gtl h) (ps : Nat → Int64) (hp : ∀ x, x < 9 → paP gal x (ps x)) (o : Nat) (row : List Nat) (hr : rwG gal o row) : aSp (d + 7) 155 [.ref 0] h nomv 0 0 (fun r h' => r = some (.long (dgF (lN 2521) (dgG gst grf gtl ps o row))) ∧ gHx gal gps gst grf gtx gtl h') := by
  obtain ⟨gmy, gkd, glf, grt, gpr, gun, gow, gem, ged, gse, gsz, gsp, gmd, gop, gom, gwt, gwm, gtn, gon, gsh, gtr, gbl, gbd, gwh, gfl, gfd, gfe, rfl⟩ := hx
  exact g_digest gal gps gst grf gmy gkd glf grt gpr gun gow gem ged gse gsz gtx gtl gsp gmd gop gom gwt gwm gtn gon gsh gtr gbl gbd gwh gfl gfd gfe (d + 2) ps hp o row hr
theorem G_judge (w : Nat) (hw : w < 6) (T : List Nat) (hx : gHx gal gps gst grf gtx (nI T.length) h) (hT : txR gtx T) (hl : T.length ≤ 150) (ps : Nat → Int64) (hp : ∀ x, x < 9 → paP gal x (ps x)) (ν : Nat → aN) (hν : ∀ y, y < 9 → (ν y).1 = ps y) :
    aSp (d + 7) 136 [.ref 0, .int (nI w)] h nomv 0 0 (fun r h' => r = some (.int (jdA (kbW (kb0 ν) T) (jbA (kbE (kbF (kb0 ν) T 0).2 T.length) (kbF (kb0 ν) T 0).2.2.2.2.1 (kbF (kb0 ν) T 0).2.2.2.2.2.1 w))) ∧ gHx gal gps gst grf gtx (nI T.length) h') := by
  obtain ⟨gmy, gkd, glf, grt, gpr, gun, gow, gem, ged, gse, gsz, gsp, gmd, gop, gom, gwt, gwm, gtn, gon, gsh, gtr, gbl, gbd, gwh, gfl, gfd, gfe, rfl⟩ := hx
  exact g_judge gal gps gst grf gmy gkd glf grt gpr gun gow gem ged gse gsz gtx gsp gmd gop gom gwt gwm gtn gon gsh gtr gbl gbd gwh gfl gfd gfe d w hw T hT hl ps hp ν hν
theorem G_mark (T : List Nat) (hx : gHx gal gps gst grf gtx (nI T.length) h) (hT : txR gtx T) (hl : T.length ≤ 150) (ps : Nat → Int64) (hp : ∀ x, x < 9 → paP gal x (ps x)) (ν : Nat → aN) (hν : ∀ y, y < 9 → (ν y).1 = ps y) :
    aSp (d + 7) 143 [.ref 0] h nomv 0 0 (fun r h' => r = some (.int (jdA (kbW (kb0 ν) T) (nI (shF (kbE (kbF (kb0 ν) T 0).2 T.length) (kbF (kb0 ν) T 0).2.2.2.2.1).toNat))) ∧ gHx gal gps gst grf gtx (nI T.length) h') := by
  obtain ⟨gmy, gkd, glf, grt, gpr, gun, gow, gem, ged, gse, gsz, gsp, gmd, gop, gom, gwt, gwm, gtn, gon, gsh, gtr, gbl, gbd, gwh, gfl, gfd, gfe, rfl⟩ := hx
  exact g_mark gal gps gst grf gmy gkd glf grt gpr gun gow gem ged gse gsz gtx gsp gmd gop gom gwt gwm gtn gon gsh gtr gbl gbd gwh gfl gfd gfe d T hT hl ps hp ν hν
theorem G_readsBad (j : Nat) (T : List Nat) (hx : gHx gal gps gst grf gtx (nI T.length) h) (hT : txR gtx T) (hl : T.length ≤ 150) (Gr : Nat → List Nat) (hW : rdW (rdL (0, 0, [], 0, 0, [], Gr, 0) T 0) T.length = some j) :
    aSp (d + 7) 107 [.ref 0] h nomv 0 0 (fun r h' => r = some (.int (-10 - nI j)) ∧ gHx gal gps gst grf gtx (nI T.length) h') := by
  obtain ⟨gmy, gkd, glf, grt, gpr, gun, gow, gem, ged, gse, gsz, gsp, gmd, gop, gom, gwt, gwm, gtn, gon, gsh, gtr, gbl, gbd, gwh, gfl, gfd, gfe, rfl⟩ := hx
  exact g_readsBad gal gps gst grf gmy gkd glf grt gpr gun gow gem ged gse gsz gtx gsp gmd gop gom gwt gwm gtn gon gsh gtr gbl gbd gwh gfl gfd gfe (d + 2) j T hT hl Gr hW
theorem G_reads (c : Nat) (hc : c ≤ 4) (hst : gst = nI c) (T : List Nat) (hx : gHx gal gps gst grf gtx (nI T.length) h) (hT : txR gtx T) (hl : T.length ≤ 150) (Gr : Nat → List Nat) (hG0 : ∀ y, y < 9 → paL gal y (Gr y)) (σF : rS) (hQ : rdL (0, 0, [], 0, 0, [], Gr, 0) T 0 = .inr σF) (hF : σF.ph = 0 ∧ 0 < σF.ord) :
    aSp (d + 7) 107 [.ref 0] h nomv 0 0 (fun r h' => r = some (.int (nI σF.ord)) ∧ ∃ gps' gal', gHx (upd (upd gal' 442 (nI 8)) 443 (nI 0)) gps' (nI (c1N c)) grf gtx (nI T.length) h' ∧ kpR gps gps' gal c ∧ (∀ j, 441 ≤ j → gal' j = gal j) ∧ ∀ y, y < 9 → paL gal' y (σF.Gr y)) := by
  obtain ⟨gmy, gkd, glf, grt, gpr, gun, gow, gem, ged, gse, gsz, gsp, gmd, gop, gom, gwt, gwm, gtn, gon, gsh, gtr, gbl, gbd, gwh, gfl, gfd, gfe, rfl⟩ := hx
  exact g_reads gal gps gst grf gmy gkd glf grt gpr gun gow gem ged gse gsz gtx gsp gmd gop gom gwt gwm gtn gon gsh gtr gbl gbd gwh gfl gfd gfe (d + 2) c hc hst T hT hl Gr hG0 σF hQ hF
end WR
