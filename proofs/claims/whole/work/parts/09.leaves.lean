section
variable {xms xsl xdl xnc xsd xn xlr xls xle xst xnw xtc xtu xtn xcu xtd xtt xsr : Int32} {xno xsk xrt xsj xtx xtl xcr eN eC eD eT eH eR tE tN : Nat → Int32}
variable {yms ysl ydl ync ysp yn ylr yls yle yfc yst ycf yev yfr ydo : Int32} {nK nA nB nL nR ysk yrt ysj ytx ytl ycr fN fC fD fS fA fB fO fP fL fM tS tG : Nat → Int32}
theorem sm_leaf2 {i n c : Nat} (hi : i < 32) (hn : n ≤ 16) (hc : c ≤ n) (hk : nK i = 2) :
    ∃ r, sm_an c n r ∧ (∀ post : Int32 → Prop, post r → wpX_leafEnd post (xms, xsl, xdl, xnc, xsd, nI n, xlr, xls, xle, xst, xnw, xtc, xtu, xtn, xcu, xtd, xtt, xsr, xno, xsk, xrt, xsj, xtx, xtl, xcr, eN, eC, eD, eT, eH, eR, tE, tN) 2 (nA i) (nB i) (nI c)) ∧
      (∀ post : Int32 → Prop, post r → wpY_leafValue post (yms, ysl, ydl, ync, ysp, nI n, ylr, yls, yle, yfc, yst, ycf, yev, yfr, ydo, nK, nA, nB, nL, nR, ysk, yrt, xsj, ytx, ytl, ycr, fN, fC, fD, fS, fA, fB, fO, fP, fL, fM, tS, tG) (nI i) (nI c)) := by
  exact ⟨nI c, Or.inr ⟨c, by omega, by omega, rfl⟩, fun post hp => br_f (by decide) (br_f (by decide) (br_f (by decide) (br_t rfl (hp)))), fun post hp => ⟨vp_in_nI hi (by omega), nm_r ((congrArg nK (sm_cl (by omega))).trans hk) ⟨vp_in_nI hi (by omega), nm_r (congrArg nA (sm_cl (by omega))) ⟨vp_in_nI hi (by omega), nm_r (congrArg nB (sm_cl (by omega))) (br_t rfl (hp))⟩⟩⟩⟩
theorem sm_leaf11 {i n c : Nat} (hi : i < 32) (hn : n ≤ 16) (hc : c ≤ n) (hk : nK i = 11) :
    ∃ r, sm_an c n r ∧ (∀ post : Int32 → Prop, post r → wpX_leafEnd post (xms, xsl, xdl, xnc, xsd, nI n, xlr, xls, xle, xst, xnw, xtc, xtu, xtn, xcu, xtd, xtt, xsr, xno, xsk, xrt, xsj, xtx, xtl, xcr, eN, eC, eD, eT, eH, eR, tE, tN) 11 (nA i) (nB i) (nI c)) ∧
      (∀ post : Int32 → Prop, post r → wpY_leafValue post (yms, ysl, ydl, ync, ysp, nI n, ylr, yls, yle, yfc, yst, ycf, yev, yfr, ydo, nK, nA, nB, nL, nR, ysk, yrt, xsj, ytx, ytl, ycr, fN, fC, fD, fS, fA, fB, fO, fP, fL, fM, tS, tG) (nI i) (nI c)) := by
  exact ⟨nI c, Or.inr ⟨c, by omega, by omega, rfl⟩, fun post hp => br_f (by decide) (br_f (by decide) (br_f (by decide) (br_f (by decide) (br_f (by decide) (br_f (by decide) (br_f (by decide) (br_f (by decide) (br_f (by decide) (br_f (by decide) (br_f (by decide) (br_f (by decide) (br_t rfl (hp))))))))))))), fun post hp => ⟨vp_in_nI hi (by omega), nm_r ((congrArg nK (sm_cl (by omega))).trans hk) ⟨vp_in_nI hi (by omega), nm_r (congrArg nA (sm_cl (by omega))) ⟨vp_in_nI hi (by omega), nm_r (congrArg nB (sm_cl (by omega))) (br_f (by decide) (br_t rfl (hp)))⟩⟩⟩⟩
theorem sm_leaf3 {i n c : Nat} (hi : i < 32) (hn : n ≤ 16) (hc : c ≤ n) (hk : nK i = 3) :
    ∃ r, sm_an c n r ∧ (∀ post : Int32 → Prop, post r → wpX_leafEnd post (xms, xsl, xdl, xnc, xsd, nI n, xlr, xls, xle, xst, xnw, xtc, xtu, xtn, xcu, xtd, xtt, xsr, xno, xsk, xrt, xsj, xtx, xtl, xcr, eN, eC, eD, eT, eH, eR, tE, tN) 3 (nA i) (nB i) (nI c)) ∧
      (∀ post : Int32 → Prop, post r → wpY_leafValue post (yms, ysl, ydl, ync, ysp, nI n, ylr, yls, yle, yfc, yst, ycf, yev, yfr, ydo, nK, nA, nB, nL, nR, ysk, yrt, xsj, ytx, ytl, ycr, fN, fC, fD, fS, fA, fB, fO, fP, fL, fM, tS, tG) (nI i) (nI c)) := by
  exact ⟨-1, Or.inl rfl, fun post hp => br_f (by decide) (br_f (by decide) (br_f (by decide) (br_f (by decide) (br_t rfl (hp))))), fun post hp => ⟨vp_in_nI hi (by omega), nm_r ((congrArg nK (sm_cl (by omega))).trans hk) ⟨vp_in_nI hi (by omega), nm_r (congrArg nA (sm_cl (by omega))) ⟨vp_in_nI hi (by omega), nm_r (congrArg nB (sm_cl (by omega))) (br_f (by decide) (br_f (by decide) (br_f (by decide) (br_f (by decide) (br_f (by decide) (br_f (by decide) (br_f (by decide) (br_f (by decide) (br_f (by decide) (hp))))))))))⟩⟩⟩⟩
theorem sm_leaf1 {i n c : Nat} (hi : i < 32) (hn : n ≤ 16) (hc : c ≤ n) (hk : nK i = 1) :
    ∃ r, sm_an c n r ∧ (∀ post : Int32 → Prop, post r → wpX_leafEnd post (xms, xsl, xdl, xnc, xsd, nI n, xlr, xls, xle, xst, xnw, xtc, xtu, xtn, xcu, xtd, xtt, xsr, xno, xsk, xrt, xsj, xtx, xtl, xcr, eN, eC, eD, eT, eH, eR, tE, tN) 1 (nA i) (nB i) (nI c)) ∧
      (∀ post : Int32 → Prop, post r → wpY_leafValue post (yms, ysl, ydl, ync, ysp, nI n, ylr, yls, yle, yfc, yst, ycf, yev, yfr, ydo, nK, nA, nB, nL, nR, ysk, yrt, xsj, ytx, ytl, ycr, fN, fC, fD, fS, fA, fB, fO, fP, fL, fM, tS, tG) (nI i) (nI c)) := by
  have cl : (nI c).toNatClampNeg = c := sm_cl (by omega)
  by_cases q : n ≤ c
  · exact ⟨-1, Or.inl rfl, fun post hp => br_f (by decide) (br_f (by decide) (br_t rfl (br_t (nI_le q (by omega)) (br_t rfl hp)))), fun post hp => ⟨vp_in_nI hi (by omega), nm_r ((congrArg nK (sm_cl (by omega))).trans hk) ⟨vp_in_nI hi (by omega), nm_r (congrArg nA (sm_cl (by omega))) ⟨vp_in_nI hi (by omega), nm_r (congrArg nB (sm_cl (by omega))) (br_f (by decide) (br_f (by decide) (br_t rfl (br_t (nI_le q (by omega)) hp))))⟩⟩⟩⟩
  · have nq : ¬ nI n ≤ nI c := nI_ge (by omega) (by omega)
    have vi : vp_in (nI c) 16 := vp_in_nI (by omega) (by omega)
    have ea : nA (nI i).toNatClampNeg = nA i := congrArg nA (sm_cl (by omega))
    by_cases s : xsj (nI c).toNatClampNeg = nA i
    · have l1 : ¬ xsj (nI c).toNatClampNeg < nA i := by rw [s]; exact Int32.lt_irrefl
      have l2 : ¬ nA i < xsj (nI c).toNatClampNeg := by rw [s]; exact Int32.lt_irrefl
      exact ⟨nI c + 1, Or.inr ⟨c + 1, by omega, by omega, nI_1 c⟩, fun post hp => br_f (by decide) (br_f (by decide) (br_t rfl (br_f nq ⟨vi, br_f l1 ⟨vi, br_f l2 (br_f (by decide) hp)⟩⟩))), fun post hp => ⟨vp_in_nI hi (by omega), nm_r ((congrArg nK (sm_cl (by omega))).trans hk) ⟨vp_in_nI hi (by omega), nm_r (congrArg nA (sm_cl (by omega))) ⟨vp_in_nI hi (by omega), nm_r (congrArg nB (sm_cl (by omega))) (br_f (by decide) (br_f (by decide) (br_t rfl (br_f nq ⟨vi, br_t s hp⟩))))⟩⟩⟩⟩
    · by_cases l1 : xsj (nI c).toNatClampNeg < nA i
      · exact ⟨-1, Or.inl rfl, fun post hp => br_f (by decide) (br_f (by decide) (br_t rfl (br_f nq ⟨vi, br_t l1 (br_t rfl hp)⟩))), fun post hp => ⟨vp_in_nI hi (by omega), nm_r ((congrArg nK (sm_cl (by omega))).trans hk) ⟨vp_in_nI hi (by omega), nm_r (congrArg nA (sm_cl (by omega))) ⟨vp_in_nI hi (by omega), nm_r (congrArg nB (sm_cl (by omega))) (br_f (by decide) (br_f (by decide) (br_t rfl (br_f nq ⟨vi, br_f s hp⟩))))⟩⟩⟩⟩
      · have l2 : nA i < xsj (nI c).toNatClampNeg := by
          rcases Int32.lt_or_eq_of_le (Int32.not_lt.mp l1) with z | z
          · exact z
          · exact absurd z.symm s
        exact ⟨-1, Or.inl rfl, fun post hp => br_f (by decide) (br_f (by decide) (br_t rfl (br_f nq ⟨vi, br_f l1 ⟨vi, br_t l2 (br_t rfl hp)⟩⟩))), fun post hp => ⟨vp_in_nI hi (by omega), nm_r ((congrArg nK (sm_cl (by omega))).trans hk) ⟨vp_in_nI hi (by omega), nm_r (congrArg nA (sm_cl (by omega))) ⟨vp_in_nI hi (by omega), nm_r (congrArg nB (sm_cl (by omega))) (br_f (by decide) (br_f (by decide) (br_t rfl (br_f nq ⟨vi, br_f s hp⟩))))⟩⟩⟩⟩
theorem sm_leaf4 {i n c : Nat} (hi : i < 32) (hn : n ≤ 16) (hc : c ≤ n) (hk : nK i = 4) {a : Nat} (ha : a ≤ 16) (ea : nA i = nI a) :
    ∃ r, sm_an c n r ∧ (∀ post : Int32 → Prop, post r → wpX_leafEnd post (xms, xsl, xdl, xnc, xsd, nI n, xlr, xls, xle, xst, xnw, xtc, xtu, xtn, xcu, xtd, xtt, xsr, xno, xsk, xrt, xsj, xtx, xtl, xcr, eN, eC, eD, eT, eH, eR, tE, tN) 4 (nA i) (nB i) (nI c)) ∧
      (∀ post : Int32 → Prop, post r → wpY_leafValue post (yms, ysl, ydl, ync, ysp, nI n, ylr, yls, yle, yfc, yst, ycf, yev, yfr, ydo, nK, nA, nB, nL, nR, ysk, yrt, xsj, ytx, ytl, ycr, fN, fC, fD, fS, fA, fB, fO, fP, fL, fM, tS, tG) (nI i) (nI c)) := by
  rw [ea]
  have es : nI c + nI a = nI (c + a) := nI_add c a
  have ey : nA (nI i).toNatClampNeg = nI a := (congrArg nA (sm_cl (by omega))).trans ea
  by_cases q : n < c + a
  · have l : nI n < nI c + nI a := by rw [es]; exact nI_lt q (by omega)
    exact ⟨-1, Or.inl rfl, fun post hp => br_f (by decide) (br_f (by decide) (br_f (by decide) (br_f (by decide) (br_f (by decide) (br_t rfl (br_t l hp)))))), fun post hp => ⟨vp_in_nI hi (by omega), nm_r ((congrArg nK (sm_cl (by omega))).trans hk) ⟨vp_in_nI hi (by omega), nm_r ey ⟨vp_in_nI hi (by omega), nm_r (congrArg nB (sm_cl (by omega))) (br_f (by decide) (br_f (by decide) (br_f (by decide) (br_t rfl (br_t l hp)))))⟩⟩⟩⟩
  · have l : ¬ nI n < nI c + nI a := by rw [es]; exact nI_nlt (by omega) (by omega)
    exact ⟨nI c + nI a, Or.inr ⟨c + a, by omega, by omega, es⟩, fun post hp => br_f (by decide) (br_f (by decide) (br_f (by decide) (br_f (by decide) (br_f (by decide) (br_t rfl (br_f l hp)))))), fun post hp => ⟨vp_in_nI hi (by omega), nm_r ((congrArg nK (sm_cl (by omega))).trans hk) ⟨vp_in_nI hi (by omega), nm_r ey ⟨vp_in_nI hi (by omega), nm_r (congrArg nB (sm_cl (by omega))) (br_f (by decide) (br_f (by decide) (br_f (by decide) (br_t rfl (br_f l hp)))))⟩⟩⟩⟩
theorem sm_leaf5 {i n c : Nat} (hi : i < 32) (hn : n ≤ 16) (hc : c ≤ n) (hk : nK i = 5) {a : Nat} (ha : a ≤ 16) (ea : nA i = nI a) :
    ∃ r, sm_an c n r ∧ (∀ post : Int32 → Prop, post r → wpX_leafEnd post (xms, xsl, xdl, xnc, xsd, nI n, xlr, xls, xle, xst, xnw, xtc, xtu, xtn, xcu, xtd, xtt, xsr, xno, xsk, xrt, xsj, xtx, xtl, xcr, eN, eC, eD, eT, eH, eR, tE, tN) 5 (nA i) (nB i) (nI c)) ∧
      (∀ post : Int32 → Prop, post r → wpY_leafValue post (yms, ysl, ydl, ync, ysp, nI n, ylr, yls, yle, yfc, yst, ycf, yev, yfr, ydo, nK, nA, nB, nL, nR, ysk, yrt, xsj, ytx, ytl, ycr, fN, fC, fD, fS, fA, fB, fO, fP, fL, fM, tS, tG) (nI i) (nI c)) := by
  rw [ea]
  have ey : nA (nI i).toNatClampNeg = nI a := (congrArg nA (sm_cl (by omega))).trans ea
  by_cases q : nI c = nI a
  · exact ⟨nI c, Or.inr ⟨c, by omega, by omega, rfl⟩, fun post hp => br_f (by decide) (br_f (by decide) (br_f (by decide) (br_f (by decide) (br_f (by decide) (br_f (by decide) (br_t rfl (br_t q hp))))))), fun post hp => ⟨vp_in_nI hi (by omega), nm_r ((congrArg nK (sm_cl (by omega))).trans hk) ⟨vp_in_nI hi (by omega), nm_r ey ⟨vp_in_nI hi (by omega), nm_r (congrArg nB (sm_cl (by omega))) (br_f (by decide) (br_f (by decide) (br_f (by decide) (br_f (by decide) (br_t rfl (br_t q hp))))))⟩⟩⟩⟩
  · exact ⟨-1, Or.inl rfl, fun post hp => br_f (by decide) (br_f (by decide) (br_f (by decide) (br_f (by decide) (br_f (by decide) (br_f (by decide) (br_t rfl (br_f q hp))))))), fun post hp => ⟨vp_in_nI hi (by omega), nm_r ((congrArg nK (sm_cl (by omega))).trans hk) ⟨vp_in_nI hi (by omega), nm_r ey ⟨vp_in_nI hi (by omega), nm_r (congrArg nB (sm_cl (by omega))) (br_f (by decide) (br_f (by decide) (br_f (by decide) (br_f (by decide) (br_t rfl (br_f q hp))))))⟩⟩⟩⟩
theorem sm_leaf6 {i n c : Nat} (hi : i < 32) (hn : n ≤ 16) (hc : c ≤ n) (hk : nK i = 6) {a : Nat} (ha : a ≤ 16) (ea : nA i = nI a) :
    ∃ r, sm_an c n r ∧ (∀ post : Int32 → Prop, post r → wpX_leafEnd post (xms, xsl, xdl, xnc, xsd, nI n, xlr, xls, xle, xst, xnw, xtc, xtu, xtn, xcu, xtd, xtt, xsr, xno, xsk, xrt, xsj, xtx, xtl, xcr, eN, eC, eD, eT, eH, eR, tE, tN) 6 (nA i) (nB i) (nI c)) ∧
      (∀ post : Int32 → Prop, post r → wpY_leafValue post (yms, ysl, ydl, ync, ysp, nI n, ylr, yls, yle, yfc, yst, ycf, yev, yfr, ydo, nK, nA, nB, nL, nR, ysk, yrt, xsj, ytx, ytl, ycr, fN, fC, fD, fS, fA, fB, fO, fP, fL, fM, tS, tG) (nI i) (nI c)) := by
  rw [ea]
  have ey : nA (nI i).toNatClampNeg = nI a := (congrArg nA (sm_cl (by omega))).trans ea
  by_cases q : nI c = nI n - nI a
  · exact ⟨nI c, Or.inr ⟨c, by omega, by omega, rfl⟩, fun post hp => br_f (by decide) (br_f (by decide) (br_f (by decide) (br_f (by decide) (br_f (by decide) (br_f (by decide) (br_f (by decide) (br_t rfl (br_t q hp)))))))), fun post hp => ⟨vp_in_nI hi (by omega), nm_r ((congrArg nK (sm_cl (by omega))).trans hk) ⟨vp_in_nI hi (by omega), nm_r ey ⟨vp_in_nI hi (by omega), nm_r (congrArg nB (sm_cl (by omega))) (br_f (by decide) (br_f (by decide) (br_f (by decide) (br_f (by decide) (br_f (by decide) (br_t rfl (br_t q hp)))))))⟩⟩⟩⟩
  · exact ⟨-1, Or.inl rfl, fun post hp => br_f (by decide) (br_f (by decide) (br_f (by decide) (br_f (by decide) (br_f (by decide) (br_f (by decide) (br_f (by decide) (br_t rfl (br_f q hp)))))))), fun post hp => ⟨vp_in_nI hi (by omega), nm_r ((congrArg nK (sm_cl (by omega))).trans hk) ⟨vp_in_nI hi (by omega), nm_r ey ⟨vp_in_nI hi (by omega), nm_r (congrArg nB (sm_cl (by omega))) (br_f (by decide) (br_f (by decide) (br_f (by decide) (br_f (by decide) (br_f (by decide) (br_t rfl (br_f q hp)))))))⟩⟩⟩⟩
theorem sm_leaf7 {i n c : Nat} (hi : i < 32) (hn : n ≤ 16) (hc : c ≤ n) (hk : nK i = 7) :
    ∃ r, sm_an c n r ∧ (∀ post : Int32 → Prop, post r → wpX_leafEnd post (xms, xsl, xdl, xnc, xsd, nI n, xlr, xls, xle, xst, xnw, xtc, xtu, xtn, xcu, xtd, xtt, xsr, xno, xsk, xrt, xsj, xtx, xtl, xcr, eN, eC, eD, eT, eH, eR, tE, tN) 7 (nA i) (nB i) (nI c)) ∧
      (∀ post : Int32 → Prop, post r → wpY_leafValue post (yms, ysl, ydl, ync, ysp, nI n, ylr, yls, yle, yfc, yst, ycf, yev, yfr, ydo, nK, nA, nB, nL, nR, ysk, yrt, xsj, ytx, ytl, ycr, fN, fC, fD, fS, fA, fB, fO, fP, fL, fM, tS, tG) (nI i) (nI c)) := by
  by_cases q : n ≤ c
  · exact ⟨-1, Or.inl rfl, fun post hp => br_f (by decide) (br_f (by decide) (br_f (by decide) (br_f (by decide) (br_f (by decide) (br_f (by decide) (br_f (by decide) (br_f (by decide) (br_t rfl (br_t (nI_le q (by omega)) (br_t rfl hp)))))))))), fun post hp => ⟨vp_in_nI hi (by omega), nm_r ((congrArg nK (sm_cl (by omega))).trans hk) ⟨vp_in_nI hi (by omega), nm_r (congrArg nA (sm_cl (by omega))) ⟨vp_in_nI hi (by omega), nm_r (congrArg nB (sm_cl (by omega))) (br_f (by decide) (br_f (by decide) (br_f (by decide) (br_f (by decide) (br_f (by decide) (br_f (by decide) (br_t rfl (br_t (nI_le q (by omega)) hp))))))))⟩⟩⟩⟩
  · have nq : ¬ nI n ≤ nI c := nI_ge (by omega) (by omega)
    have vi : vp_in (nI c) 16 := vp_in_nI (by omega) (by omega)
    by_cases l1 : xsj (nI c).toNatClampNeg < nA i
    · exact ⟨-1, Or.inl rfl, fun post hp => br_f (by decide) (br_f (by decide) (br_f (by decide) (br_f (by decide) (br_f (by decide) (br_f (by decide) (br_f (by decide) (br_f (by decide) (br_t rfl (br_f nq ⟨vi, br_t l1 (br_t rfl hp)⟩))))))))), fun post hp => ⟨vp_in_nI hi (by omega), nm_r ((congrArg nK (sm_cl (by omega))).trans hk) ⟨vp_in_nI hi (by omega), nm_r (congrArg nA (sm_cl (by omega))) ⟨vp_in_nI hi (by omega), nm_r (congrArg nB (sm_cl (by omega))) (br_f (by decide) (br_f (by decide) (br_f (by decide) (br_f (by decide) (br_f (by decide) (br_f (by decide) (br_t rfl (br_f nq ⟨vi, br_t l1 hp⟩))))))))⟩⟩⟩⟩
    · by_cases l2 : nB i < xsj (nI c).toNatClampNeg
      · exact ⟨-1, Or.inl rfl, fun post hp => br_f (by decide) (br_f (by decide) (br_f (by decide) (br_f (by decide) (br_f (by decide) (br_f (by decide) (br_f (by decide) (br_f (by decide) (br_t rfl (br_f nq ⟨vi, br_f l1 ⟨vi, br_t l2 (br_t rfl hp)⟩⟩))))))))), fun post hp => ⟨vp_in_nI hi (by omega), nm_r ((congrArg nK (sm_cl (by omega))).trans hk) ⟨vp_in_nI hi (by omega), nm_r (congrArg nA (sm_cl (by omega))) ⟨vp_in_nI hi (by omega), nm_r (congrArg nB (sm_cl (by omega))) (br_f (by decide) (br_f (by decide) (br_f (by decide) (br_f (by decide) (br_f (by decide) (br_f (by decide) (br_t rfl (br_f nq ⟨vi, br_f l1 ⟨vi, br_t l2 hp⟩⟩))))))))⟩⟩⟩⟩
      · exact ⟨nI c + 1, Or.inr ⟨c + 1, by omega, by omega, nI_1 c⟩, fun post hp => br_f (by decide) (br_f (by decide) (br_f (by decide) (br_f (by decide) (br_f (by decide) (br_f (by decide) (br_f (by decide) (br_f (by decide) (br_t rfl (br_f nq ⟨vi, br_f l1 ⟨vi, br_f l2 (br_f (by decide) hp)⟩⟩))))))))), fun post hp => ⟨vp_in_nI hi (by omega), nm_r ((congrArg nK (sm_cl (by omega))).trans hk) ⟨vp_in_nI hi (by omega), nm_r (congrArg nA (sm_cl (by omega))) ⟨vp_in_nI hi (by omega), nm_r (congrArg nB (sm_cl (by omega))) (br_f (by decide) (br_f (by decide) (br_f (by decide) (br_f (by decide) (br_f (by decide) (br_f (by decide) (br_t rfl (br_f nq ⟨vi, br_f l1 ⟨vi, br_f l2 hp⟩⟩))))))))⟩⟩⟩⟩
theorem sm_leaf8 {i n c : Nat} (hi : i < 32) (hn : n ≤ 16) (hc : c ≤ n) (hk : nK i = 8) :
    ∃ r, sm_an c n r ∧ (∀ post : Int32 → Prop, post r → wpX_leafEnd post (xms, xsl, xdl, xnc, xsd, nI n, xlr, xls, xle, xst, xnw, xtc, xtu, xtn, xcu, xtd, xtt, xsr, xno, xsk, xrt, xsj, xtx, xtl, xcr, eN, eC, eD, eT, eH, eR, tE, tN) 8 (nA i) (nB i) (nI c)) ∧
      (∀ post : Int32 → Prop, post r → wpY_leafValue post (yms, ysl, ydl, ync, ysp, nI n, ylr, yls, yle, yfc, yst, ycf, yev, yfr, ydo, nK, nA, nB, nL, nR, ysk, yrt, xsj, ytx, ytl, ycr, fN, fC, fD, fS, fA, fB, fO, fP, fL, fM, tS, tG) (nI i) (nI c)) := by
  obtain ⟨r, hr, hx, hy⟩ := sm_span (a := nA i) (b := nB i) hn hc (n - c) c (by omega) (Nat.le_refl c) (xms := xms) (xsl := xsl) (xdl := xdl) (xnc := xnc) (xsd := xsd) (xlr := xlr) (xls := xls) (xle := xle) (xst := xst) (xnw := xnw) (xtc := xtc) (xtu := xtu) (xtn := xtn) (xcu := xcu) (xtd := xtd) (xtt := xtt) (xsr := xsr) (xno := xno) (xsk := xsk) (xrt := xrt) (xsj := xsj) (xtx := xtx) (xtl := xtl) (xcr := xcr) (eN := eN) (eC := eC) (eD := eD) (eT := eT) (eH := eH) (eR := eR) (tE := tE) (tN := tN) (yms := yms) (ysl := ysl) (ydl := ydl) (ync := ync) (ysp := ysp) (ylr := ylr) (yls := yls) (yle := yle) (yfc := yfc) (yst := yst) (ycf := ycf) (yev := yev) (yfr := yfr) (ydo := ydo) (nK := nK) (nA := nA) (nB := nB) (nL := nL) (nR := nR) (ysk := ysk) (yrt := yrt) (ytx := ytx) (ytl := ytl) (ycr := ycr) (fN := fN) (fC := fC) (fD := fD) (fS := fS) (fA := fA) (fB := fB) (fO := fO) (fP := fP) (fL := fL) (fM := fM) (tS := tS) (tG := tG)
  have e0 : nI (c - c) = 0 := by rw [Nat.sub_self]; rfl
  rw [e0] at hy
  exact ⟨r, hr, fun post hp => br_f (by decide) (br_f (by decide) (br_f (by decide) (br_f (by decide) (br_f (by decide) (br_f (by decide) (br_f (by decide) (br_f (by decide) (br_f (by decide) (br_t rfl (⟨n - c + 1, hx post _ (by omega) hp⟩)))))))))), fun post hp => ⟨vp_in_nI hi (by omega), nm_r ((congrArg nK (sm_cl (by omega))).trans hk) ⟨vp_in_nI hi (by omega), nm_r (congrArg nA (sm_cl (by omega))) ⟨vp_in_nI hi (by omega), nm_r (congrArg nB (sm_cl (by omega))) (br_f (by decide) (br_f (by decide) (br_f (by decide) (br_f (by decide) (br_f (by decide) (br_f (by decide) (br_f (by decide) (br_t rfl (⟨n - c + 1, hy post _ (by omega) hp⟩)))))))))⟩⟩⟩⟩
theorem sm_leaf9 {i n c : Nat} (hi : i < 32) (hn : n ≤ 16) (hc : c ≤ n) (hk : nK i = 9) :
    ∃ r, sm_an c n r ∧ (∀ post : Int32 → Prop, post r → wpX_leafEnd post (xms, xsl, xdl, xnc, xsd, nI n, xlr, xls, xle, xst, xnw, xtc, xtu, xtn, xcu, xtd, xtt, xsr, xno, xsk, xrt, xsj, xtx, xtl, xcr, eN, eC, eD, eT, eH, eR, tE, tN) 9 (nA i) (nB i) (nI c)) ∧
      (∀ post : Int32 → Prop, post r → wpY_leafValue post (yms, ysl, ydl, ync, ysp, nI n, ylr, yls, yle, yfc, yst, ycf, yev, yfr, ydo, nK, nA, nB, nL, nR, ysk, yrt, xsj, ytx, ytl, ycr, fN, fC, fD, fS, fA, fB, fO, fP, fL, fM, tS, tG) (nI i) (nI c)) := by
  obtain ⟨r, hr, hx, hy⟩ := sm_break (a := nA i) (b := nB i) hn (n - c) c (by omega) (Nat.le_refl c) (xms := xms) (xsl := xsl) (xdl := xdl) (xnc := xnc) (xsd := xsd) (xlr := xlr) (xls := xls) (xle := xle) (xst := xst) (xnw := xnw) (xtc := xtc) (xtu := xtu) (xtn := xtn) (xcu := xcu) (xtd := xtd) (xtt := xtt) (xsr := xsr) (xno := xno) (xsk := xsk) (xrt := xrt) (xsj := xsj) (xtx := xtx) (xtl := xtl) (xcr := xcr) (eN := eN) (eC := eC) (eD := eD) (eT := eT) (eH := eH) (eR := eR) (tE := tE) (tN := tN) (yms := yms) (ysl := ysl) (ydl := ydl) (ync := ync) (ysp := ysp) (ylr := ylr) (yls := yls) (yle := yle) (yfc := yfc) (yst := yst) (ycf := ycf) (yev := yev) (yfr := yfr) (ydo := ydo) (nK := nK) (nA := nA) (nB := nB) (nL := nL) (nR := nR) (ysk := ysk) (yrt := yrt) (ytx := ytx) (ytl := ytl) (ycr := ycr) (fN := fN) (fC := fC) (fD := fD) (fS := fS) (fA := fA) (fB := fB) (fO := fO) (fP := fP) (fL := fL) (fM := fM) (tS := tS) (tG := tG)
  exact ⟨r, hr, fun post hp => br_f (by decide) (br_f (by decide) (br_f (by decide) (br_f (by decide) (br_f (by decide) (br_f (by decide) (br_f (by decide) (br_f (by decide) (br_f (by decide) (br_f (by decide) (br_t rfl (⟨n - c + 1, hx post _ (by omega) hp⟩))))))))))), fun post hp => ⟨vp_in_nI hi (by omega), nm_r ((congrArg nK (sm_cl (by omega))).trans hk) ⟨vp_in_nI hi (by omega), nm_r (congrArg nA (sm_cl (by omega))) ⟨vp_in_nI hi (by omega), nm_r (congrArg nB (sm_cl (by omega))) (br_f (by decide) (br_f (by decide) (br_f (by decide) (br_f (by decide) (br_f (by decide) (br_f (by decide) (br_f (by decide) (br_f (by decide) (br_t rfl (⟨n - c + 1, hy post _ (by omega) hp⟩))))))))))⟩⟩⟩⟩
theorem sm_leaf {i n c k : Nat} (hi : i < 32) (hn : n ≤ 16) (hc : c ≤ n) (hk : nK i = nI k) (h1 : 1 ≤ k) (h11 : k ≤ 11) (h10 : k ≠ 10)
    (ha : 4 ≤ k → k ≤ 6 → ∃ a, a ≤ 16 ∧ nA i = nI a) :
    ∃ r, sm_an c n r ∧ (∀ post : Int32 → Prop, post r → wpX_leafEnd post (xms, xsl, xdl, xnc, xsd, nI n, xlr, xls, xle, xst, xnw, xtc, xtu, xtn, xcu, xtd, xtt, xsr, xno, xsk, xrt, xsj, xtx, xtl, xcr, eN, eC, eD, eT, eH, eR, tE, tN) (nI k) (nA i) (nB i) (nI c)) ∧
      (∀ post : Int32 → Prop, post r → wpY_leafValue post (yms, ysl, ydl, ync, ysp, nI n, ylr, yls, yle, yfc, yst, ycf, yev, yfr, ydo, nK, nA, nB, nL, nR, ysk, yrt, xsj, ytx, ytl, ycr, fN, fC, fD, fS, fA, fB, fO, fP, fL, fM, tS, tG) (nI i) (nI c)) := by
  have cases : k = 1 ∨ k = 2 ∨ k = 3 ∨ k = 4 ∨ k = 5 ∨ k = 6 ∨ k = 7 ∨ k = 8 ∨ k = 9 ∨ k = 11 := by omega
  rcases cases with q | q | q | q | q | q | q | q | q | q
  · subst q
    exact sm_leaf1 hi hn hc hk
  · subst q
    exact sm_leaf2 hi hn hc hk
  · subst q
    exact sm_leaf3 hi hn hc hk
  · subst q
    obtain ⟨a, ha, ea⟩ := ha (by omega) (by omega)
    exact sm_leaf4 hi hn hc hk ha ea
  · subst q
    obtain ⟨a, ha, ea⟩ := ha (by omega) (by omega)
    exact sm_leaf5 hi hn hc hk ha ea
  · subst q
    obtain ⟨a, ha, ea⟩ := ha (by omega) (by omega)
    exact sm_leaf6 hi hn hc hk ha ea
  · subst q
    exact sm_leaf7 hi hn hc hk
  · subst q
    exact sm_leaf8 hi hn hc hk
  · subst q
    exact sm_leaf9 hi hn hc hk
  · subst q
    exact sm_leaf11 hi hn hc hk
end
