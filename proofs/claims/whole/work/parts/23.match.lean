section
variable {xms xnc xsd xlr xls xle yms ync ysp ylr yls yle : Int32} {lim dl n nc : Nat} {kn : Nat → Nat} {xno xsk xrt xsj nK nA nB nL nR ysk tS tG : Nat → Int32}
theorem sm_match (cx : sm_cx n nc kn xno xrt nK nA nB nL nR) (hlim : lim ≤ 250) (hlim1 : 1 ≤ lim) (hdl : dl ≤ 8) (sj : sm_ch xsj 16) {v r last : Nat} (hv : v < 4) (hr : r < nc) (hvr : xrt v = nI r) (hl : last ≤ n) :
    ∀ d t (xst xnw xtc xtu xtn xcu xtd xtt xsr yfc yst ycf yev yfr ydo : Int32) (xtx xtl xcr eN eC eD eT eH eR tE tN fN fC fD fS fA fB fO fP fL fM : Nat → Int32) (tS tG : Nat → Int32), t + d = last + 1 → sm_vok xtx xtl →
      ∃ (res s e : Int32) (tS' tG' : Nat → Int32) (xst' xnw' xtc' xtu' xtn' xcu' xtd' xtt' xsr' yfc' yst' ycf' yev' yfr' ydo' : Int32) (xtx' xtl' xcr' eN' eC' eD' eT' eH' eR' tE' tN' fN' fC' fD' fS' fA' fB' fO' fP' fL' fM' : Nat → Int32), sm_vok xtx' xtl' ∧
        (∀ (post : Int32 → SX → Prop) m, d + 2 ≤ m → post res (xms, nI lim, nI dl, xnc, xsd, nI n, res, s, e, xst', xnw', xtc', xtu', xtn', xcu', xtd', xtt', xsr', xno, xsk, xrt, xsj, xtx', xtl', xcr', eN', eC', eD', eT', eH', eR', tE', tN') → wX_match_56 post (nI v) (nI last) m (nI t) xms (nI lim) (nI dl) xnc xsd (nI n) 0 (-1) (-1) xst xnw xtc xtu xtn xcu xtd xtt xsr xno xsk xrt xsj xtx xtl xcr eN eC eD eT eH eR tE tN) ∧
        (∀ (post : Int32 → SY → Prop) m, d + 2 ≤ m → post res (yms, nI lim, nI dl, ync, ysp, nI n, res, s, e, yfc', yst', ycf', yev', yfr', ydo', nK, nA, nB, nL, nR, ysk, xrt, xsj, xtx', xtl', xcr', fN', fC', fD', fS', fA', fB', fO', fP', fL', fM', tS', tG') → wY_match_49 post (nI v) (nI last) m 0 (-1) (-1) (nI t) yms (nI lim) (nI dl) ync ysp (nI n) ylr yls yle yfc yst ycf yev yfr ydo nK nA nB nL nR ysk xrt xsj xtx xtl xcr fN fC fD fS fA fB fO fP fL fM tS tG) := by
  intro d
  induction d with
  | zero =>
    intro t xst xnw xtc xtu xtn xcu xtd xtt xsr yfc yst ycf yev yfr ydo xtx xtl xcr eN eC eD eT eH eR tE tN fN fC fD fS fA fB fO fP fL fM tS tG h vk
    refine ⟨0, -1, -1, tS, tG, xst, xnw, xtc, xtu, xtn, xcu, xtd, xtt, xsr, yfc, yst, ycf, yev, yfr, ydo, xtx, xtl, xcr, eN, eC, eD, eT, eH, eR, tE, tN, fN, fC, fD, fS, fA, fB, fO, fP, fL, fM, vk, ?_, ?_⟩
    · intro post m hm hp
      obtain ⟨m, rfl⟩ : ∃ k, m = k + 1 := ⟨m - 1, by omega⟩
      exact br_t (nI_lt (by omega) (by have := cx.2.1; omega)) hp
    · intro post m hm hp
      obtain ⟨m, rfl⟩ : ∃ k, m = k + 1 := ⟨m - 1, by omega⟩
      exact br_t (nI_lt (by omega) (by have := cx.2.1; omega)) (br_f (by decide) hp)
  | succ d ih =>
    intro t xst xnw xtc xtu xtn xcu xtd xtt xsr yfc yst ycf yev yfr ydo xtx xtl xcr eN eC eD eT eH eR tE tN fN fC fD fS fA fB fO fP fL fM tS tG h vk
    have c16 := cx.2.1
    have ev : xrt (nI v).toNatClampNeg = nI r := sm_cg (by omega) hvr
    have v4 : vp_in (nI v) 4 := vp_in_nI hv (by omega)
    have lt : ¬ nI last < nI t := nI_nlt (by omega) (by omega)
    obtain ⟨xst', xnw', xtc', xtu', xtn', xcu', xtd', xtt', xsr', yfc', yst', ycf', yev', yfr', ydo', xtx', xtl', xcr', eN', eC', eD', eT', eH', eR', tE', tN', fN', fC', fD', fS', fA', fB', fO', fP', fL', fM', vk', en, hx, hy⟩ := sm_run (xst := xst) (xnw := xnw) (xtc := xtc) (xtu := xtu) (xtn := xtn) (xcu := xcu) (xtd := xtd) (xtt := xtt) (xsr := xsr) (yfc := yfc) (yst := yst) (ycf := ycf) (yev := yev) (yfr := yfr) (ydo := ydo) (xcr := xcr) (eN := eN) (eC := eC) (eD := eD) (eT := eT) (eH := eH) (eR := eR) (tE := tE) (tN := tN) (fN := fN) (fC := fC) (fD := fD) (fS := fS) (fA := fA) (fB := fB) (fO := fO) (fP := fP) (fL := fL) (fM := fM) (xms := xms) (xnc := xnc) (xsd := xsd) (xlr := 0) (xls := -1) (xle := -1) (yms := yms) (ync := ync) (ysp := ysp) (ylr := ylr) (yls := yls) (yle := yle) (xsk := xsk) (ysk := ysk) (tS := tS) (tG := tG) cx hlim hlim1 hdl sj vk hr (t := t) (by omega)
    rcases en with ⟨e1, e2⟩ | ⟨e1, e2⟩ | ⟨e1, e2, K, G, hK, I, E, X, Y, T, N, e3, e4⟩
    · subst e1 e2
      obtain ⟨res, s, e, tS2, tG2, xst2, xnw2, xtc2, xtu2, xtn2, xcu2, xtd2, xtt2, xsr2, yfc2, yst2, ycf2, yev2, yfr2, ydo2, xtx2, xtl2, xcr2, eN2, eC2, eD2, eT2, eH2, eR2, tE2, tN2, fN2, fC2, fD2, fS2, fA2, fB2, fO2, fP2, fL2, fM2, vk2, hx2, hy2⟩ := ih (t + 1) xst' xnw' xtc' xtu' xtn' xcu' xtd' xtt' 0 yfc' yst' ycf' yev' yfr' 2 xtx' xtl' xcr' eN' eC' eD' eT' eH' eR' tE' tN' fN' fC' fD' fS' fA' fB' fO' fP' fL' fM' tS tG (by omega) vk'
      refine ⟨res, s, e, tS2, tG2, xst2, xnw2, xtc2, xtu2, xtn2, xcu2, xtd2, xtt2, xsr2, yfc2, yst2, ycf2, yev2, yfr2, ydo2, xtx2, xtl2, xcr2, eN2, eC2, eD2, eT2, eH2, eR2, tE2, tN2, fN2, fC2, fD2, fS2, fA2, fB2, fO2, fP2, fL2, fM2, vk2, ?_, ?_⟩
      · intro post m hm hp
        obtain ⟨m, rfl⟩ : ∃ k, m = k + 1 := ⟨m - 1, by omega⟩
        refine br_f lt (br_t rfl ⟨v4, ?_⟩)
        rw [ev]
        exact hx _ (br_f (by decide) (nm_r (nI_1 t) (hx2 post m (by omega) hp)))
      · intro post m hm hp
        obtain ⟨m, rfl⟩ : ∃ k, m = k + 1 := ⟨m - 1, by omega⟩
        refine br_f lt (br_t rfl ⟨v4, ?_⟩)
        rw [ev]
        exact hy _ (br_f (by decide) (br_t rfl (nm_r (nI_1 t) (hy2 post m (by omega) hp))))
    · subst e1 e2
      refine ⟨2, -1, -1, tS, tG, xst', xnw', xtc', xtu', xtn', xcu', xtd', xtt', 2, yfc', yst', ycf', yev', yfr', 3, xtx', xtl', xcr', eN', eC', eD', eT', eH', eR', tE', tN', fN', fC', fD', fS', fA', fB', fO', fP', fL', fM', vk', ?_, ?_⟩
      · intro post m hm hp
        obtain ⟨m, rfl⟩ : ∃ k, m = k + 1 + 1 := ⟨m - 2, by omega⟩
        refine br_f lt (br_t rfl ⟨v4, ?_⟩)
        rw [ev]
        refine hx _ (br_f (by decide) (nm_r (nI_1 t) ?_))
        by_cases q : nI last < nI (t + 1)
        · exact br_t q hp
        · exact br_f q (br_f (by decide) hp)
      · intro post m hm hp
        obtain ⟨m, rfl⟩ : ∃ k, m = k + 1 + 1 := ⟨m - 2, by omega⟩
        refine br_f lt (br_t rfl ⟨v4, ?_⟩)
        rw [ev]
        refine hy _ (br_f (by decide) (br_f (by decide) (nm_r (nI_1 t) ?_)))
        by_cases q : nI last < nI (t + 1)
        · exact br_t q (br_f (by decide) hp)
        · exact br_f q (br_f (by decide) (br_f (by decide) hp))
    · subst e1 e2 e3 e4
      have eo : fO' 0 = nI (G 12 1) := Y.2.2.2.2.2.2.1 1 (Nat.le_refl 1) E.2.1 E.2.2.1
      obtain ⟨tS2, tG2, tx2, tl2, vk2, ax, ay⟩ := sm_apply (xst := xst') (xnw := xnw') (xtu := xtu') (xtn := xtn') (xtd := xtd') (xtt := xtt') (xsr := 1) (yfc := yfc') (yst := yst') (ycf := ycf') (yev := yev') (yfr := yfr') (ydo := 1) (xtx := xtx') (xtl := xtl') (xcr := xcr') (eN := eN') (eC := eC') (eD := eD') (eT := eT') (eH := eH') (eR := eR') (tE := tE') (tN := tN') (fN := fN') (fC := fC') (fD := fD') (fS := fS') (fA := fA') (fB := fB') (fO := fO') (fP := fP') (fL := fL') (fM := fM') (xcu := nI (G 12 1)) (xms := xms) (xnc := xnc) (xsd := xsd) (xlr := 1) (xls := nI t) (xle := nI (G 12 1)) (yms := yms) (ync := ync) (ysp := ysp) (ylr := 1) (yls := nI t) (yle := nI (G 12 1)) (lim := lim) (dl := dl) (xsk := xsk) (ysk := ysk) (tS := tS) (tG := tG) cx sj hK I E X Y T N vk'
      refine ⟨1, nI t, nI (G 12 1), tS2, tG2, xst', xnw', nI (G 19 1), xtu', xtn', nI (G 12 1), xtd', xtt', 1, yfc', yst', ycf', yev', yfr', 1, tx2, tl2, xcr', eN', eC', eD', eT', eH', eR', tE', tN', fN', fC', fD', fS', fA', fB', fO', fP', fL', fM', vk2, ?_, ?_⟩
      · intro post m hm hp
        obtain ⟨m, rfl⟩ : ∃ k, m = k + 1 + 1 := ⟨m - 2, by omega⟩
        refine br_f lt (br_t rfl ⟨v4, ?_⟩)
        rw [ev]
        refine hx _ (br_t rfl (ax _ (nm_r (nI_1 t) ?_)))
        by_cases q : nI last < nI (t + 1)
        · exact br_t q hp
        · exact br_f q (br_f (by decide) hp)
      · intro post m hm hp
        obtain ⟨m, rfl⟩ : ∃ k, m = k + 1 + 1 := ⟨m - 2, by omega⟩
        refine br_f lt (br_t rfl ⟨v4, ?_⟩)
        rw [ev]
        refine hy _ (br_t rfl (nm_r eo (nm_r (nI_1 t) ?_)))
        by_cases q : nI last < nI (t + 1)
        · exact br_t q (br_t rfl (ay _ hp))
        · exact br_f q (br_f (by decide) (br_t rfl (ay _ hp)))
end
