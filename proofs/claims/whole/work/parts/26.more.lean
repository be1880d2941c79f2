theorem pk_char (x : Int32) : (x.toUInt32 % 65536).toInt32 = nI (x.toBitVec.toNat % 65536) := by
  apply Int32.toBitVec_inj.mp
  apply BitVec.eq_of_toNat_eq
  show (x.toUInt32 % 65536).toNat = (x.toBitVec.toNat % 65536) % 2 ^ 32
  rw [UInt32.toNat_mod]
  have : x.toUInt32.toNat = x.toBitVec.toNat := rfl
  rw [this]
  have : (65536 : UInt32).toNat = 65536 := rfl
  rw [this]
  omega
theorem sm_chu {g : Nat → Int32} {i m : Nat} (h : sm_ch g m) (c : Int32) : sm_ch (upd g i (vp_nar .char ((c.toUInt32 % 65536).toInt32))) m := by
  intro j hj
  by_cases q : j = i
  · refine ⟨c.toBitVec.toNat % 65536, by omega, ?_⟩
    rw [q, pk_us, pk_char]
    unfold vp_nar
    rw [(pk_charN (by omega)).1]
  · rw [pk_un q]; exact h j hj
theorem i_vc_addSubjectChar {k : Nat} {u : SX} {v : SY} (I : i_Rel k u v) (hk : k + 4 ≤ 2051) (v1 : Int32) : wpX_addSubjectChar (fun r u' => wpY_addSubjectChar (fun r' v' => r' = r ∧ i_Rel (k + 4) u' v') v v1) u v1 := by
  have J : i_Rel (k + 4) u v := I
  obtain ⟨ms, lim, dl, nc, sp, n, kn, xlr, xls, xle, xst, xnw, xtc, xtu, xtn, xcu, xtd, xtt, xsr, yfc, yst, ycf, yev, yfr, ydo, xno, xsk, xrt, xsj, nK, nA, nB, nL, nR, tS, tG, xtx, xtl, xcr, eN, eC, eD, eT, eH, eR, tE, tN, fN, fC, fD, fS, fA, fB, fO, fP, fL, fM, rfl, rfl, o1, o2, o3, o4, o5, o6, o7, o8, o9, o10⟩ := I
  by_cases c0 : v1 < 0
  · exact br_t c0 (br_t c0 ⟨rfl, J⟩)
  by_cases c1 : v1 ≤ 65535
  · by_cases c2 : n < ms
    · have l : nI n < nI ms := nI_lt c2 (by omega)
      have vn : vp_in (nI n) 16 := vp_in_nI (by omega) (by omega)
      refine br_f c0 (br_t c1 (br_t l ⟨vn, nm_r (sm_up (by omega)) (nm_r (nI_1 n) (br_f c0 (br_t c1 (br_t l ⟨vn, nm_r (sm_up (by omega)) (nm_r (nI_1 n) ⟨rfl, ?_⟩)⟩))))⟩))
      exact sm_mk (k := k + 4) (n := n + 1) ⟨o1, o2, o3, o4, o5, c2, ⟨o7.1, by omega, o7.2.2⟩, o8, sm_chu o9 v1, o10⟩
    · have l : ¬ nI n < nI ms := nI_nlt (by omega) (by omega)
      exact br_f c0 (br_t c1 (br_f l (br_f c0 (br_t c1 (br_f l ⟨rfl, J⟩)))))
  · exact br_f c0 (br_f c1 (br_f c0 (br_f c1 ⟨rfl, J⟩)))
theorem i_vc_define {k : Nat} {u : SX} {v : SY} (I : i_Rel k u v) (hk : k + 4 ≤ 2051) (v1 : Int32) : wpX_define (fun r u' => wpY_define (fun r' v' => r' = r ∧ i_Rel (k + 4) u' v') v v1) u v1 := by
  have J : i_Rel (k + 4) u v := I
  obtain ⟨ms, lim, dl, nc, sp, n, kn, xlr, xls, xle, xst, xnw, xtc, xtu, xtn, xcu, xtd, xtt, xsr, yfc, yst, ycf, yev, yfr, ydo, xno, xsk, xrt, xsj, nK, nA, nB, nL, nR, tS, tG, xtx, xtl, xcr, eN, eC, eD, eT, eH, eR, tE, tN, fN, fC, fD, fS, fA, fB, fO, fP, fL, fM, rfl, rfl, o1, o2, o3, o4, o5, o6, o7, o8, o9, o10⟩ := I
  rcases pk_ix v1 (n := 4) (by omega) with h | h | ⟨j, hj, rfl⟩
  · exact br_t h (br_t h ⟨rfl, J⟩)
  · exact br_f (sm_b0 h (by omega)) (br_f (sm_bl h) (br_f (sm_b0 h (by omega)) (br_f (sm_bn 3 h (by omega) (by omega)) ⟨rfl, J⟩)))
  · have l3 : nI j ≤ 3 := nI_le (b := 3) (by omega) (by omega)
    have vj : vp_in (nI j) 4 := vp_in_nI hj (by omega)
    by_cases s0 : sp = 0
    · have e : nI sp = 0 := by rw [s0]; rfl
      exact br_f (nI_pos (by omega)) (br_t (sm_lt 4 hj (by omega)) (br_t e (br_f (nI_pos (by omega)) (br_t l3 (br_t e ⟨rfl, J⟩)))))
    · have e : ¬ nI sp = 0 := nI_ne0 (by omega) (by omega)
      obtain ⟨s, hs⟩ : ∃ s, sp = s + 1 := ⟨sp - 1, by omega⟩
      subst hs
      obtain ⟨c, hc, ec⟩ := o8 s (by omega)
      have vs : vp_in (nI s) 16 := vp_in_nI (by omega) (by omega)
      have es : xsk (nI s).toNatClampNeg = nI c := sm_cg (by omega) ec
      have eu : upd xrt (nI j).toNatClampNeg (xsk (nI s).toNatClampNeg) = upd xrt j (nI c) := by rw [es, sm_up (by omega)]
      refine br_f (nI_pos (by omega)) (br_t (sm_lt 4 hj (by omega)) (br_f e (nm_r (nI_pred s) ⟨vs, vj, nm_r eu ⟨vj, br_f (nI_pos (by omega)) (br_t l3 (br_f e (nm_r (nI_pred s) ⟨vs, vj, nm_r eu ⟨vj, rfl, ?_⟩⟩)))⟩⟩)))
      refine sm_mk (k := k + 4) (sp := s) ⟨o1, o2, o3, o4, by omega, o6, ⟨o7.1, o7.2.1, o7.2.2.1, ?_⟩, fun i hi => o8 i (by omega), o9, o10⟩
      intro w hw
      by_cases q : w = j
      · exact Or.inr ⟨c, hc, by rw [q, pk_us]⟩
      · rw [pk_un q]; exact o7.2.2.2 w hw
theorem i_vc_match {k : Nat} {u : SX} {v : SY} (I : i_Rel k u v) (hk : k + 4 ≤ 2051) (v1 : Int32) (v2 : Int32) : wpX_match (fun r u' => wpY_match (fun r' v' => r' = r ∧ i_Rel (k + 4) u' v') v v1 (lw_bz v2)) u v1 (lw_bz v2) := by
  have J : i_Rel (k + 4) u v := I
  obtain ⟨ms, lim, dl, nc, sp, n, kn, xlr, xls, xle, xst, xnw, xtc, xtu, xtn, xcu, xtd, xtt, xsr, yfc, yst, ycf, yev, yfr, ydo, xno, xsk, xrt, xsj, nK, nA, nB, nL, nR, tS, tG, xtx, xtl, xcr, eN, eC, eD, eT, eH, eR, tE, tN, fN, fC, fD, fS, fA, fB, fO, fP, fL, fM, rfl, rfl, o1, o2, o3, o4, o5, o6, o7, o8, o9, o10⟩ := I
  rcases pk_ix v1 (n := 4) (by omega) with h | h | ⟨j, hj, rfl⟩
  · exact br_t h (br_t h ⟨rfl, J⟩)
  · exact br_f (sm_b0 h (by omega)) (br_f (sm_bl h) (br_f (sm_b0 h (by omega)) (br_f (sm_bn 3 h (by omega) (by omega)) ⟨rfl, J⟩)))
  · have l3 : nI j ≤ 3 := nI_le (b := 3) (by omega) (by omega)
    have l4 : nI j < 4 := sm_lt 4 hj (by omega)
    have vj : vp_in (nI j) 4 := vp_in_nI hj (by omega)
    rcases o7.2.2.2 j hj with hr | ⟨r, hr, er⟩
    · have e : xrt (nI j).toNatClampNeg = -1 := sm_cg (by omega) hr
      have e0 : ¬ (0 : Int32) ≤ xrt (nI j).toNatClampNeg := by rw [e]; decide
      exact br_f (nI_pos (by omega)) (br_t l4 ⟨vj, br_t e (br_f (nI_pos (by omega)) (br_t l3 ⟨vj, br_f e0 ⟨rfl, J⟩⟩))⟩)
    · have c32 := o7.1
      have e : ¬ xrt (nI j).toNatClampNeg = -1 := by rw [sm_cg (f := xrt) (by omega) er]; exact sm_m1ne (by omega)
      have e0 : (0 : Int32) ≤ xrt (nI j).toNatClampNeg := by rw [sm_cg (f := xrt) (by omega) er]; exact nI_pos' (by omega)
      by_cases z : lw_bz v2 = 0
      · obtain ⟨res, s, e', tS2, tG2, xst2, xnw2, xtc2, xtu2, xtn2, xcu2, xtd2, xtt2, xsr2, yfc2, yst2, ycf2, yev2, yfr2, ydo2, xtx2, xtl2, xcr2, eN2, eC2, eD2, eT2, eH2, eR2, tE2, tN2, fN2, fC2, fD2, fS2, fA2, fB2, fO2, fP2, fL2, fM2, vk, hx, hy⟩ := sm_match (xms := nI ms) (xnc := nI nc) (xsd := nI sp) (yms := nI ms) (ync := nI nc) (ysp := nI sp) (ylr := xlr) (yls := xls) (yle := xle) (xsk := xsk) (ysk := xsk) o7 o3 o2 o4 o9 hj hr er (Nat.le_refl n) (n + 1) 0 xst xnw xtc xtu xtn xcu xtd xtt xsr yfc yst ycf yev yfr ydo xtx xtl xcr eN eC eD eT eH eR tE tN fN fC fD fS fA fB fO fP fL fM tS tG (by omega) o10
        exact br_f (nI_pos (by omega)) (br_t l4 ⟨vj, br_f e (br_t z ⟨n + 3, hx _ _ (by omega) (br_f (nI_pos (by omega)) (br_t l3 ⟨vj, br_t e0 (br_t z ⟨n + 3, hy _ _ (by omega) ⟨rfl, sm_mk (k := k + 4) ⟨o1, o2, o3, o4, o5, o6, o7, o8, o9, vk⟩⟩⟩)⟩))⟩)⟩)
      · obtain ⟨res, s, e', tS2, tG2, xst2, xnw2, xtc2, xtu2, xtn2, xcu2, xtd2, xtt2, xsr2, yfc2, yst2, ycf2, yev2, yfr2, ydo2, xtx2, xtl2, xcr2, eN2, eC2, eD2, eT2, eH2, eR2, tE2, tN2, fN2, fC2, fD2, fS2, fA2, fB2, fO2, fP2, fL2, fM2, vk, hx, hy⟩ := sm_match (xms := nI ms) (xnc := nI nc) (xsd := nI sp) (yms := nI ms) (ync := nI nc) (ysp := nI sp) (ylr := xlr) (yls := xls) (yle := xle) (xsk := xsk) (ysk := xsk) o7 o3 o2 o4 o9 hj hr er (Nat.zero_le n) 1 0 xst xnw xtc xtu xtn xcu xtd xtt xsr yfc yst ycf yev yfr ydo xtx xtl xcr eN eC eD eT eH eR tE tN fN fC fD fS fA fB fO fP fL fM tS tG (by omega) o10
        exact br_f (nI_pos (by omega)) (br_t l4 ⟨vj, br_f e (br_f z ⟨3, hx _ _ (by omega) (br_f (nI_pos (by omega)) (br_t l3 ⟨vj, br_t e0 (br_f z ⟨3, hy _ _ (by omega) ⟨rfl, sm_mk (k := k + 4) ⟨o1, o2, o3, o4, o5, o6, o7, o8, o9, vk⟩⟩⟩)⟩))⟩)⟩)
