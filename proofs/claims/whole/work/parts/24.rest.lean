theorem pk_ix (x : Int32) {n : Nat} (hn : n < 2 ^ 31) : x < 0 ∨ nI n ≤ x ∨ ∃ j : Nat, j < n ∧ x = nI j := by
  by_cases h : x < 0
  · exact Or.inl h
  · obtain ⟨j, hj, rfl⟩ := nI_of h
    by_cases q : j < n
    · exact Or.inr (Or.inr ⟨j, q, rfl⟩)
    · exact Or.inr (Or.inl (nI_le (by omega) hj))
theorem sm_bl {x : Int32} {b : Nat} (h : nI b ≤ x) : ¬ x < nI b := Int32.not_lt.mpr h
theorem sm_b0 {x : Int32} {b : Nat} (h : nI b ≤ x) (hb : b < 2 ^ 31) : ¬ x < 0 := by
  rw [Int32.lt_iff_toInt_lt, sm_z0]
  rw [Int32.le_iff_toInt_le, nI_toInt hb] at h
  omega
theorem sm_bn {x : Int32} (a : Nat) {b : Nat} (h : nI b ≤ x) (hb : b < 2 ^ 31) (hab : a < b) : ¬ x ≤ nI a := by
  rw [Int32.le_iff_toInt_le, nI_toInt (by omega)]
  rw [Int32.le_iff_toInt_le, nI_toInt hb] at h
  omega
theorem sm_bg {x : Int32} (a : Nat) {b : Nat} (h : nI b ≤ x) (hb : b < 2 ^ 31) (hab : a < b) : nI a < x := by
  rw [Int32.lt_iff_toInt_lt, nI_toInt (by omega)]
  rw [Int32.le_iff_toInt_le, nI_toInt hb] at h
  omega
/-- what the relation holds of the values -/
def sm_ok (ms lim dl nc sp n : Nat) (kn : Nat → Nat) (xno xsk xrt xsj xtx xtl nK nA nB nL nR : Nat → Int32) : Prop :=
  ms ≤ 16 ∧ 1 ≤ lim ∧ lim ≤ 250 ∧ dl ≤ 8 ∧ sp ≤ 16 ∧ n ≤ ms ∧ sm_cx n nc kn xno xrt nK nA nB nL nR ∧ (∀ i, i < sp → ∃ s, s < nc ∧ xsk i = nI s) ∧ sm_ch xsj 16 ∧ sm_vok xtx xtl
def i_Rel (_ : Nat) (u : SX) (v : SY) : Prop :=
  ∃ (ms lim dl nc sp n : Nat) (kn : Nat → Nat) (xlr xls xle xst xnw xtc xtu xtn xcu xtd xtt xsr yfc yst ycf yev yfr ydo : Int32) (xno xsk xrt xsj nK nA nB nL nR tS tG xtx xtl xcr eN eC eD eT eH eR tE tN fN fC fD fS fA fB fO fP fL fM : Nat → Int32), u = (nI ms, nI lim, nI dl, nI nc, nI sp, nI n, xlr, xls, xle, xst, xnw, xtc, xtu, xtn, xcu, xtd, xtt, xsr, xno, xsk, xrt, xsj, xtx, xtl, xcr, eN, eC, eD, eT, eH, eR, tE, tN) ∧ v = (nI ms, nI lim, nI dl, nI nc, nI sp, nI n, xlr, xls, xle, yfc, yst, ycf, yev, yfr, ydo, nK, nA, nB, nL, nR, xsk, xrt, xsj, xtx, xtl, xcr, fN, fC, fD, fS, fA, fB, fO, fP, fL, fM, tS, tG) ∧ sm_ok ms lim dl nc sp n kn xno xsk xrt xsj xtx xtl nK nA nB nL nR
theorem i_up {k : Nat} {u : SX} {v : SY} (h : i_Rel k u v) : i_Rel (k + 4) u v := h
section
variable {ms lim dl nc sp n : Nat} {kn : Nat → Nat} {xlr xls xle xst xnw xtc xtu xtn xcu xtd xtt xsr yfc yst ycf yev yfr ydo : Int32} {xno xsk xrt xsj nK nA nB nL nR tS tG xtx xtl xcr eN eC eD eT eH eR tE tN fN fC fD fS fA fB fO fP fL fM : Nat → Int32}
theorem sm_mk {k : Nat} (h : sm_ok ms lim dl nc sp n kn xno xsk xrt xsj xtx xtl nK nA nB nL nR) : i_Rel k (nI ms, nI lim, nI dl, nI nc, nI sp, nI n, xlr, xls, xle, xst, xnw, xtc, xtu, xtn, xcu, xtd, xtt, xsr, xno, xsk, xrt, xsj, xtx, xtl, xcr, eN, eC, eD, eT, eH, eR, tE, tN) (nI ms, nI lim, nI dl, nI nc, nI sp, nI n, xlr, xls, xle, yfc, yst, ycf, yev, yfr, ydo, nK, nA, nB, nL, nR, xsk, xrt, xsj, xtx, xtl, xcr, fN, fC, fD, fS, fA, fB, fO, fP, fL, fM, tS, tG) := ⟨ms, lim, dl, nc, sp, n, kn, xlr, xls, xle, xst, xnw, xtc, xtu, xtn, xcu, xtd, xtt, xsr, yfc, yst, ycf, yev, yfr, ydo, xno, xsk, xrt, xsj, nK, nA, nB, nL, nR, tS, tG, xtx, xtl, xcr, eN, eC, eD, eT, eH, eR, tE, tN, fN, fC, fD, fS, fA, fB, fO, fP, fL, fM, rfl, rfl, h⟩
end
theorem i_vc_status {k : Nat} {u : SX} {v : SY} (I : i_Rel k u v) (hk : k + 4 ≤ 2051) (v1 : Int32) : wpX_status (fun r => wpY_status (fun r' => r' = r ∧ i_Rel (k + 4) u v) v v1) u v1 := by
  have J : i_Rel (k + 4) u v := I
  obtain ⟨ms, lim, dl, nc, sp, n, kn, xlr, xls, xle, xst, xnw, xtc, xtu, xtn, xcu, xtd, xtt, xsr, yfc, yst, ycf, yev, yfr, ydo, xno, xsk, xrt, xsj, nK, nA, nB, nL, nR, tS, tG, xtx, xtl, xcr, eN, eC, eD, eT, eH, eR, tE, tN, fN, fC, fD, fS, fA, fB, fO, fP, fL, fM, hu, hv, ok⟩ := I
  subst hu hv
  by_cases a0 : v1 = 0
  · subst a0; exact br_f (by decide) (br_f (by decide) (br_t rfl (br_t rfl ⟨rfl, J⟩)))
  by_cases a1 : v1 = 1
  · subst a1; exact br_f (by decide) (br_f (by decide) (br_f (by decide) (br_t rfl (br_f (by decide) (br_t rfl ⟨rfl, J⟩)))))
  by_cases a2 : v1 = 2
  · subst a2; exact br_f (by decide) (br_f (by decide) (br_f (by decide) (br_f (by decide) (br_t rfl (br_f (by decide) (br_f (by decide) (br_t rfl ⟨rfl, J⟩)))))))
  by_cases a3 : v1 = 3
  · subst a3; exact br_f (by decide) (br_f (by decide) (br_f (by decide) (br_f (by decide) (br_f (by decide) (br_t rfl (br_f (by decide) (br_f (by decide) (br_f (by decide) (br_t rfl ⟨rfl, J⟩)))))))))
  by_cases a4 : v1 = 4
  · subst a4; exact br_f (by decide) (br_f (by decide) (br_f (by decide) (br_f (by decide) (br_f (by decide) (br_f (by decide) (br_t rfl (br_f (by decide) (br_f (by decide) (br_f (by decide) (br_f (by decide) (br_t rfl ⟨rfl, J⟩)))))))))))
  by_cases a5 : v1 = 5
  · subst a5; exact br_f (by decide) (br_f (by decide) (br_f (by decide) (br_f (by decide) (br_f (by decide) (br_f (by decide) (br_f (by decide) (br_t rfl (br_f (by decide) (br_f (by decide) (br_f (by decide) (br_f (by decide) (br_f (by decide) (br_t rfl ⟨rfl, J⟩)))))))))))))
  have y : wpY_status (fun r' => r' = -1 ∧ i_Rel (k + 4) (nI ms, nI lim, nI dl, nI nc, nI sp, nI n, xlr, xls, xle, xst, xnw, xtc, xtu, xtn, xcu, xtd, xtt, xsr, xno, xsk, xrt, xsj, xtx, xtl, xcr, eN, eC, eD, eT, eH, eR, tE, tN) (nI ms, nI lim, nI dl, nI nc, nI sp, nI n, xlr, xls, xle, yfc, yst, ycf, yev, yfr, ydo, nK, nA, nB, nL, nR, xsk, xrt, xsj, xtx, xtl, xcr, fN, fC, fD, fS, fA, fB, fO, fP, fL, fM, tS, tG)) (nI ms, nI lim, nI dl, nI nc, nI sp, nI n, xlr, xls, xle, yfc, yst, ycf, yev, yfr, ydo, nK, nA, nB, nL, nR, xsk, xrt, xsj, xtx, xtl, xcr, fN, fC, fD, fS, fA, fB, fO, fP, fL, fM, tS, tG) v1 := br_f a0 (br_f a1 (br_f a2 (br_f a3 (br_f a4 (br_f a5 ⟨rfl, J⟩)))))
  by_cases b0 : v1 < 0
  · exact br_t b0 y
  by_cases b5 : 5 < v1
  · exact br_f b0 (br_t b5 y)
  exact br_f b0 (br_f b5 (br_f a0 (br_f a1 (br_f a2 (br_f a3 (br_f a4 (br_f a5 trivial)))))))
theorem i_vc_varLength {k : Nat} {u : SX} {v : SY} (I : i_Rel k u v) (hk : k + 4 ≤ 2051) (v1 : Int32) : wpX_varLength (fun r => wpY_varLength (fun r' => r' = r ∧ i_Rel (k + 4) u v) v v1) u v1 := by
  have J : i_Rel (k + 4) u v := I
  obtain ⟨ms, lim, dl, nc, sp, n, kn, xlr, xls, xle, xst, xnw, xtc, xtu, xtn, xcu, xtd, xtt, xsr, yfc, yst, ycf, yev, yfr, ydo, xno, xsk, xrt, xsj, nK, nA, nB, nL, nR, tS, tG, xtx, xtl, xcr, eN, eC, eD, eT, eH, eR, tE, tN, fN, fC, fD, fS, fA, fB, fO, fP, fL, fM, rfl, rfl, ok⟩ := I
  rcases pk_ix v1 (n := 8) (by omega) with h | h | ⟨j, hj, rfl⟩
  · exact br_t h (br_t h ⟨rfl, J⟩)
  · exact br_f (sm_b0 h (by omega)) (br_f (sm_bl h) (br_f (sm_b0 h (by omega)) (br_f (sm_bn 7 h (by omega) (by omega)) ⟨rfl, J⟩)))
  · exact br_f (nI_pos (by omega)) (br_t (sm_lt 8 hj (by omega)) ⟨vp_in_nI hj (by omega), br_f (nI_pos (by omega)) (br_t (nI_le (b := 7) (by omega) (by omega)) ⟨vp_in_nI hj (by omega), rfl, J⟩)⟩)
theorem i_vc_cursorVar {k : Nat} {u : SX} {v : SY} (I : i_Rel k u v) (hk : k + 4 ≤ 2051) (v1 : Int32) : wpX_cursorVar (fun r => wpY_cursorVar (fun r' => r' = r ∧ i_Rel (k + 4) u v) v v1) u v1 := by
  have J : i_Rel (k + 4) u v := I
  obtain ⟨ms, lim, dl, nc, sp, n, kn, xlr, xls, xle, xst, xnw, xtc, xtu, xtn, xcu, xtd, xtt, xsr, yfc, yst, ycf, yev, yfr, ydo, xno, xsk, xrt, xsj, nK, nA, nB, nL, nR, tS, tG, xtx, xtl, xcr, eN, eC, eD, eT, eH, eR, tE, tN, fN, fC, fD, fS, fA, fB, fO, fP, fL, fM, rfl, rfl, ok⟩ := I
  rcases pk_ix v1 (n := 8) (by omega) with h | h | ⟨j, hj, rfl⟩
  · exact br_t h (br_t h ⟨rfl, J⟩)
  · exact br_f (sm_b0 h (by omega)) (br_f (sm_bl h) (br_f (sm_b0 h (by omega)) (br_f (sm_bn 7 h (by omega) (by omega)) ⟨rfl, J⟩)))
  · exact br_f (nI_pos (by omega)) (br_t (sm_lt 8 hj (by omega)) ⟨vp_in_nI hj (by omega), br_f (nI_pos (by omega)) (br_t (nI_le (b := 7) (by omega) (by omega)) ⟨vp_in_nI hj (by omega), rfl, J⟩)⟩)
theorem i_vc_patternRoot {k : Nat} {u : SX} {v : SY} (I : i_Rel k u v) (hk : k + 4 ≤ 2051) (v1 : Int32) : wpX_patternRoot (fun r => wpY_patternRoot (fun r' => r' = r ∧ i_Rel (k + 4) u v) v v1) u v1 := by
  have J : i_Rel (k + 4) u v := I
  obtain ⟨ms, lim, dl, nc, sp, n, kn, xlr, xls, xle, xst, xnw, xtc, xtu, xtn, xcu, xtd, xtt, xsr, yfc, yst, ycf, yev, yfr, ydo, xno, xsk, xrt, xsj, nK, nA, nB, nL, nR, tS, tG, xtx, xtl, xcr, eN, eC, eD, eT, eH, eR, tE, tN, fN, fC, fD, fS, fA, fB, fO, fP, fL, fM, rfl, rfl, ok⟩ := I
  rcases pk_ix v1 (n := 4) (by omega) with h | h | ⟨j, hj, rfl⟩
  · exact br_t h (br_t h ⟨rfl, J⟩)
  · exact br_f (sm_b0 h (by omega)) (br_f (sm_bl h) (br_f (sm_b0 h (by omega)) (br_f (sm_bn 3 h (by omega) (by omega)) ⟨rfl, J⟩)))
  · exact br_f (nI_pos (by omega)) (br_t (sm_lt 4 hj (by omega)) ⟨vp_in_nI hj (by omega), br_f (nI_pos (by omega)) (br_t (nI_le (b := 3) (by omega) (by omega)) ⟨vp_in_nI hj (by omega), rfl, J⟩)⟩)
theorem i_vc_stackEntry {k : Nat} {u : SX} {v : SY} (I : i_Rel k u v) (hk : k + 4 ≤ 2051) (v1 : Int32) : wpX_stackEntry (fun r => wpY_stackEntry (fun r' => r' = r ∧ i_Rel (k + 4) u v) v v1) u v1 := by
  have J : i_Rel (k + 4) u v := I
  obtain ⟨ms, lim, dl, nc, sp, n, kn, xlr, xls, xle, xst, xnw, xtc, xtu, xtn, xcu, xtd, xtt, xsr, yfc, yst, ycf, yev, yfr, ydo, xno, xsk, xrt, xsj, nK, nA, nB, nL, nR, tS, tG, xtx, xtl, xcr, eN, eC, eD, eT, eH, eR, tE, tN, fN, fC, fD, fS, fA, fB, fO, fP, fL, fM, rfl, rfl, ok⟩ := I
  have s16 := ok.2.2.2.2.1
  rcases pk_ix v1 (n := sp) (by omega) with h | h | ⟨j, hj, rfl⟩
  · exact br_t h (br_t h ⟨rfl, J⟩)
  · exact br_f (sm_b0 h (by omega)) (br_f (sm_bl h) (br_f (sm_b0 h (by omega)) (br_f (sm_bl h) ⟨rfl, J⟩)))
  · exact br_f (nI_pos (by omega)) (br_t (nI_lt hj (by omega)) ⟨vp_in_nI (by omega) (by omega), br_f (nI_pos (by omega)) (br_t (nI_lt hj (by omega)) ⟨vp_in_nI (by omega) (by omega), rfl, J⟩)⟩)
theorem i_vc_subjectChar {k : Nat} {u : SX} {v : SY} (I : i_Rel k u v) (hk : k + 4 ≤ 2051) (v1 : Int32) : wpX_subjectChar (fun r => wpY_subjectChar (fun r' => r' = r ∧ i_Rel (k + 4) u v) v v1) u v1 := by
  have J : i_Rel (k + 4) u v := I
  obtain ⟨ms, lim, dl, nc, sp, n, kn, xlr, xls, xle, xst, xnw, xtc, xtu, xtn, xcu, xtd, xtt, xsr, yfc, yst, ycf, yev, yfr, ydo, xno, xsk, xrt, xsj, nK, nA, nB, nL, nR, tS, tG, xtx, xtl, xcr, eN, eC, eD, eT, eH, eR, tE, tN, fN, fC, fD, fS, fA, fB, fO, fP, fL, fM, rfl, rfl, ok⟩ := I
  obtain ⟨o1, o2, o3, o4, o5, o6, o7, o8, o9, o10⟩ := ok
  rcases pk_ix v1 (n := n) (by omega) with h | h | ⟨j, hj, rfl⟩
  · exact br_t h (br_t h ⟨rfl, J⟩)
  · exact br_f (sm_b0 h (by omega)) (br_f (sm_bl h) (br_f (sm_b0 h (by omega)) (br_f (sm_bl h) ⟨rfl, J⟩)))
  · obtain ⟨q, hq, e⟩ := o9 j (by omega)
    have ec : xsj (nI j).toNatClampNeg = nI q := sm_cg (by omega) e
    have na : narrow .char (.int (xsj (nI j).toNatClampNeg)) = .int (xsj (nI j).toNatClampNeg) := by rw [ec]; exact (pk_charN hq).1
    exact br_f (nI_pos (by omega)) (br_t (nI_lt hj (by omega)) ⟨vp_in_nI (by omega) (by omega), na, br_f (nI_pos (by omega)) (br_t (nI_lt hj (by omega)) ⟨vp_in_nI (by omega) (by omega), na, rfl, J⟩)⟩)
theorem i_vc_varChar {k : Nat} {u : SX} {v : SY} (I : i_Rel k u v) (hk : k + 4 ≤ 2051) (v1 : Int32) (v2 : Int32) : wpX_varChar (fun r => wpY_varChar (fun r' => r' = r ∧ i_Rel (k + 4) u v) v v1 v2) u v1 v2 := by
  have J : i_Rel (k + 4) u v := I
  obtain ⟨ms, lim, dl, nc, sp, n, kn, xlr, xls, xle, xst, xnw, xtc, xtu, xtn, xcu, xtd, xtt, xsr, yfc, yst, ycf, yev, yfr, ydo, xno, xsk, xrt, xsj, nK, nA, nB, nL, nR, tS, tG, xtx, xtl, xcr, eN, eC, eD, eT, eH, eR, tE, tN, fN, fC, fD, fS, fA, fB, fO, fP, fL, fM, rfl, rfl, ok⟩ := I
  obtain ⟨o1, o2, o3, o4, o5, o6, o7, o8, o9, o10⟩ := ok
  rcases pk_ix v1 (n := 8) (by omega) with h | h | ⟨j, hj, rfl⟩
  · exact br_t h (br_t h ⟨rfl, J⟩)
  · exact br_f (sm_b0 h (by omega)) (br_t h (br_f (sm_b0 h (by omega)) (br_t (sm_bg 7 h (by omega) (by omega)) ⟨rfl, J⟩)))
  · have n8 : ¬ (8 : Int32) ≤ nI j := nI_ge (b := 8) hj (by omega)
    have n7 : ¬ (7 : Int32) < nI j := sm_ngt 7 (by omega) (by omega)
    have vj : vp_in (nI j) 8 := vp_in_nI hj (by omega)
    obtain ⟨l, hl, el⟩ := o10.2 j hj
    have el' : xtl (nI j).toNatClampNeg = nI l := sm_cg (by omega) el
    rcases pk_ix v2 (n := l) (by omega) with h | h | ⟨i, hi, rfl⟩
    · exact br_f (nI_pos (by omega)) (br_f n8 (br_t h (br_f (nI_pos (by omega)) (br_f n7 (br_t h ⟨rfl, J⟩)))))
    · have g : ¬ v2 < xtl (nI j).toNatClampNeg := by rw [el']; exact sm_bl h
      exact br_f (nI_pos (by omega)) (br_f n8 (br_f (sm_b0 h (by omega)) ⟨vj, br_f g (br_f (nI_pos (by omega)) (br_f n7 (br_f (sm_b0 h (by omega)) ⟨vj, br_f g ⟨rfl, J⟩⟩)))⟩))
    · have g : nI i < xtl (nI j).toNatClampNeg := by rw [el']; exact nI_lt hi (by omega)
      have ei : nI j * 16 + nI i = nI (j * 16 + i) := by rw [sm_16, pk_mul, nI_add]
      have vi : vp_in (nI j * 16 + nI i) 128 := by rw [ei]; exact vp_in_nI (by omega) (by omega)
      obtain ⟨q, hq, e⟩ := o10.1 (j * 16 + i) (by omega)
      have na : narrow .char (.int (xtx (nI j * 16 + nI i).toNatClampNeg)) = .int (xtx (nI j * 16 + nI i).toNatClampNeg) := by rw [ei, sm_cl (by omega), e]; exact (pk_charN hq).1
      exact br_f (nI_pos (by omega)) (br_f n8 (br_f (nI_pos (by omega)) ⟨vj, br_t g ⟨vi, na, br_f (nI_pos (by omega)) (br_f n7 (br_f (nI_pos (by omega)) ⟨vj, br_t g ⟨vi, na, rfl, J⟩⟩))⟩⟩))
theorem i_vc_nodeField {k : Nat} {u : SX} {v : SY} (I : i_Rel k u v) (hk : k + 4 ≤ 2051) (v1 : Int32) (v2 : Int32) : wpX_nodeField (fun r => wpY_nodeField (fun r' => r' = r ∧ i_Rel (k + 4) u v) v v1 v2) u v1 v2 := by
  have J : i_Rel (k + 4) u v := I
  obtain ⟨ms, lim, dl, nc, sp, n, kn, xlr, xls, xle, xst, xnw, xtc, xtu, xtn, xcu, xtd, xtt, xsr, yfc, yst, ycf, yev, yfr, ydo, xno, xsk, xrt, xsj, nK, nA, nB, nL, nR, tS, tG, xtx, xtl, xcr, eN, eC, eD, eT, eH, eR, tE, tN, fN, fC, fD, fS, fA, fB, fO, fP, fL, fM, rfl, rfl, ok⟩ := I
  obtain ⟨o1, o2, o3, o4, o5, o6, o7, o8, o9, o10⟩ := ok
  have c32 := o7.1
  rcases pk_ix v1 (n := nc) (by omega) with h | h | ⟨j, hj, rfl⟩
  · exact br_t h (br_t h ⟨rfl, J⟩)
  · exact br_f (sm_b0 h (by omega)) (br_t h (br_f (sm_b0 h (by omega)) (br_f (sm_bl h) ⟨rfl, J⟩)))
  · have D := o7.2.2.1 j hj
    have nj : ¬ nI nc ≤ nI j := nI_ge hj (by omega)
    have lj : nI j < nI nc := nI_lt hj (by omega)
    have j32 : j < 32 := by omega
    have vj : vp_in (nI j) 32 := vp_in_nI j32 (by omega)
    have cl : (nI j).toNatClampNeg = j := sm_cl (by omega)
    rcases pk_ix v2 (n := 5) (by omega) with h | h | ⟨i, hi, rfl⟩
    · have a0 : ¬ v2 = 0 := fun z => by rw [z] at h; exact absurd h (by decide)
      have a1 : ¬ v2 = 1 := fun z => by rw [z] at h; exact absurd h (by decide)
      have a2 : ¬ v2 = 2 := fun z => by rw [z] at h; exact absurd h (by decide)
      have a3 : ¬ v2 = 3 := fun z => by rw [z] at h; exact absurd h (by decide)
      have a4 : ¬ v2 = 4 := fun z => by rw [z] at h; exact absurd h (by decide)
      exact br_f (nI_pos (by omega)) (br_f nj (br_t h (br_f (nI_pos (by omega)) (br_t lj (br_f a0 (br_f a1 (br_f a2 (br_f a3 (br_f a4 ⟨rfl, J⟩)))))))))
    · have a0 : ¬ v2 = 0 := fun z => by rw [z] at h; exact absurd h (by decide)
      have a1 : ¬ v2 = 1 := fun z => by rw [z] at h; exact absurd h (by decide)
      have a2 : ¬ v2 = 2 := fun z => by rw [z] at h; exact absurd h (by decide)
      have a3 : ¬ v2 = 3 := fun z => by rw [z] at h; exact absurd h (by decide)
      have a4 : ¬ v2 = 4 := fun z => by rw [z] at h; exact absurd h (by decide)
      exact br_f (nI_pos (by omega)) (br_f nj (br_f (sm_b0 h (by omega)) (br_f (sm_bl h) (br_f (nI_pos (by omega)) (br_t lj (br_f a0 (br_f a1 (br_f a2 (br_f a3 (br_f a4 ⟨rfl, J⟩))))))))))
    · have vi : vp_in (nI j * 5 + nI i) 160 := sm_in5 i j32 hi
      have ex : ∀ x, xno (5 * j + i) = x → xno (nI j * 5 + nI i).toNatClampNeg = x := fun x hx => sm_c5 i j32 hi hx
      have ks : i = 0 ∨ i = 1 ∨ i = 2 ∨ i = 3 ∨ i = 4 := by omega
      refine br_f (nI_pos (by omega)) (br_f nj (br_f (nI_pos (by omega)) (br_t (sm_lt 5 hi (by omega)) ⟨vi, ?_⟩)))
      rcases ks with rfl | rfl | rfl | rfl | rfl
      · exact br_f (nI_pos (by omega)) (br_t lj (br_t rfl ⟨vj, by rw [cl, ex _ D.2.2.2.1], J⟩))
      · exact br_f (nI_pos (by omega)) (br_t lj (br_f (by decide) (br_t rfl ⟨vj, by rw [cl, ex _ D.2.2.2.2.1], J⟩)))
      · exact br_f (nI_pos (by omega)) (br_t lj (br_f (by decide) (br_f (by decide) (br_t rfl ⟨vj, by rw [cl, ex _ D.2.2.2.2.2.1], J⟩))))
      · exact br_f (nI_pos (by omega)) (br_t lj (br_f (by decide) (br_f (by decide) (br_f (by decide) (br_t rfl ⟨vj, by rw [cl, ex _ D.2.2.2.2.2.2.1], J⟩)))))
      · exact br_f (nI_pos (by omega)) (br_t lj (br_f (by decide) (br_f (by decide) (br_f (by decide) (br_f (by decide) (br_t rfl ⟨vj, by rw [cl, ex _ D.2.2.2.2.2.2.2.1], J⟩))))))
