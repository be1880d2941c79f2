section
variable {yms ysl ydl ync ysp yn ylr yls yle yfc yst ycf yev yfr ydo : Int32} {nK nA nB nL nR ysk yrt ysj ytx ytl ycr fN fC fD fS fA fB fO fP fL fM tS tG : Nat → Int32}
variable {post : SY → Prop} {m j it e : Nat}
theorem sy_t0n (hi : it < 1000) (hj : j < 255) (he : e < 256) (hS : tS j = nI e) (hG : tG j = 0) (hL : fL e = -1)
    (h : wY_applyTriples_18 post m (nI (j + 1)) (nI (it + 1)) yms ysl ydl ync ysp yn ylr yls yle yfc yst ycf yev yfr ydo nK nA nB nL nR ysk yrt ysj ytx ytl ycr fN fC fD fS fA fB fO fP fL fM tS (upd tG j 1)) : wY_applyTriples_18 post (m + 1) (nI (j + 1)) (nI it) yms ysl ydl ync ysp yn ylr yls yle yfc yst ycf yev yfr ydo nK nA nB nL nR ysk yrt ysj ytx ytl ycr fN fC fD fS fA fB fO fP fL fM tS tG := by
  have vj : vp_in (nI j) 256 := vp_in_nI (by omega) (by omega)
  exact br_f (nI_ge (b := 1024) (by omega) (by omega)) (br_f (nI_nle (by omega) (by omega)) (nm_r (nI_pred j) ⟨vj, nm_r (sm_cg (by omega) hS) ⟨vj, br_t (sm_cg (f := tG) (by omega) hG) ⟨vj, nm_r (sm_up (by omega)) ⟨vp_in_nI he (by omega), nm_r (sm_cg (by omega) hL) (br_t (by decide) (nm_r (nI_1 it) h))⟩⟩⟩⟩))
theorem sy_t0c {c : Nat} (hi : it < 1000) (hj : j < 255) (he : e < 256) (hS : tS j = nI e) (hG : tG j = 0) (hc : c < 256) (hL : fL e = nI c)
    (h : wY_applyTriples_18 post m (nI (j + 1 + 1)) (nI (it + 1)) yms ysl ydl ync ysp yn ylr yls yle yfc yst ycf yev yfr ydo nK nA nB nL nR ysk yrt ysj ytx ytl ycr fN fC fD fS fA fB fO fP fL fM (upd tS (j + 1) (nI c)) (upd (upd tG j 1) (j + 1) 0)) : wY_applyTriples_18 post (m + 1) (nI (j + 1)) (nI it) yms ysl ydl ync ysp yn ylr yls yle yfc yst ycf yev yfr ydo nK nA nB nL nR ysk yrt ysj ytx ytl ycr fN fC fD fS fA fB fO fP fL fM tS tG := by
  have vj : vp_in (nI j) 256 := vp_in_nI (by omega) (by omega)
  have vj1 : vp_in (nI (j + 1)) 256 := vp_in_nI (by omega) (by omega)
  exact br_f (nI_ge (b := 1024) (by omega) (by omega)) (br_f (nI_nle (by omega) (by omega)) (nm_r (nI_pred j) ⟨vj, nm_r (sm_cg (by omega) hS) ⟨vj, br_t (sm_cg (f := tG) (by omega) hG) ⟨vj, nm_r (sm_up (by omega)) ⟨vp_in_nI he (by omega), nm_r (sm_cg (by omega) hL) (br_f (nI_pos (by omega)) (br_f (nI_ge (b := 256) (by omega) (by omega)) ⟨vj1, nm_r (sm_up (by omega)) ⟨vj1, nm_r (sm_up (by omega)) (nm_r (nI_1 (j + 1)) (nm_r (nI_1 it) h))⟩⟩))⟩⟩⟩⟩))
theorem sy_t1n (hi : it < 1000) (hj : j < 255) (he : e < 256) (hS : tS j = nI e) (hG : tG j = 1) (hL : fM e = -1)
    (h : wY_applyTriples_18 post m (nI (j + 1)) (nI (it + 1)) yms ysl ydl ync ysp yn ylr yls yle yfc yst ycf yev yfr ydo nK nA nB nL nR ysk yrt ysj ytx ytl ycr fN fC fD fS fA fB fO fP fL fM tS (upd tG j 2)) : wY_applyTriples_18 post (m + 1) (nI (j + 1)) (nI it) yms ysl ydl ync ysp yn ylr yls yle yfc yst ycf yev yfr ydo nK nA nB nL nR ysk yrt ysj ytx ytl ycr fN fC fD fS fA fB fO fP fL fM tS tG := by
  have vj : vp_in (nI j) 256 := vp_in_nI (by omega) (by omega)
  have g1 : tG (nI j).toNatClampNeg = 1 := sm_cg (by omega) hG
  have g0 : ¬ tG (nI j).toNatClampNeg = 0 := by rw [g1]; decide
  exact br_f (nI_ge (b := 1024) (by omega) (by omega)) (br_f (nI_nle (by omega) (by omega)) (nm_r (nI_pred j) ⟨vj, nm_r (sm_cg (by omega) hS) ⟨vj, br_f g0 ⟨vj, br_t g1 ⟨vj, nm_r (sm_up (by omega)) ⟨vp_in_nI he (by omega), nm_r (sm_cg (by omega) hL) (br_t (by decide) (nm_r (nI_1 it) h))⟩⟩⟩⟩⟩))
theorem sy_t1c {c : Nat} (hi : it < 1000) (hj : j < 255) (he : e < 256) (hS : tS j = nI e) (hG : tG j = 1) (hc : c < 256) (hL : fM e = nI c)
    (h : wY_applyTriples_18 post m (nI (j + 1 + 1)) (nI (it + 1)) yms ysl ydl ync ysp yn ylr yls yle yfc yst ycf yev yfr ydo nK nA nB nL nR ysk yrt ysj ytx ytl ycr fN fC fD fS fA fB fO fP fL fM (upd tS (j + 1) (nI c)) (upd (upd tG j 2) (j + 1) 0)) : wY_applyTriples_18 post (m + 1) (nI (j + 1)) (nI it) yms ysl ydl ync ysp yn ylr yls yle yfc yst ycf yev yfr ydo nK nA nB nL nR ysk yrt ysj ytx ytl ycr fN fC fD fS fA fB fO fP fL fM tS tG := by
  have vj : vp_in (nI j) 256 := vp_in_nI (by omega) (by omega)
  have vj1 : vp_in (nI (j + 1)) 256 := vp_in_nI (by omega) (by omega)
  have g1 : tG (nI j).toNatClampNeg = 1 := sm_cg (by omega) hG
  have g0 : ¬ tG (nI j).toNatClampNeg = 0 := by rw [g1]; decide
  exact br_f (nI_ge (b := 1024) (by omega) (by omega)) (br_f (nI_nle (by omega) (by omega)) (nm_r (nI_pred j) ⟨vj, nm_r (sm_cg (by omega) hS) ⟨vj, br_f g0 ⟨vj, br_t g1 ⟨vj, nm_r (sm_up (by omega)) ⟨vp_in_nI he (by omega), nm_r (sm_cg (by omega) hL) (br_f (nI_pos (by omega)) (br_f (nI_ge (b := 256) (by omega) (by omega)) ⟨vj1, nm_r (sm_up (by omega)) ⟨vj1, nm_r (sm_up (by omega)) (nm_r (nI_1 (j + 1)) (nm_r (nI_1 it) h))⟩⟩))⟩⟩⟩⟩⟩))
theorem sy_m1 (j : Nat) : nI (j + 1) + (-1) = nI j := by rw [nI_succ]; grind
theorem sy_t2n {i k : Nat} (hi : it < 1000) (hj : j < 255) (he : e < 256) (hS : tS j = nI e) (hG : tG j = 2) (hN : fN e = nI i) (h32 : i < 32) (hK : nK i = nI k) (k0 : k ≠ 16) (k1 : k < 1000)
    (h : wY_applyTriples_18 post m (nI j) (nI (it + 1)) yms ysl ydl ync ysp yn ylr yls yle yfc yst ycf yev yfr ydo nK nA nB nL nR ysk yrt ysj ytx ytl ycr fN fC fD fS fA fB fO fP fL fM tS tG) : wY_applyTriples_18 post (m + 1) (nI (j + 1)) (nI it) yms ysl ydl ync ysp yn ylr yls yle yfc yst ycf yev yfr ydo nK nA nB nL nR ysk yrt ysj ytx ytl ycr fN fC fD fS fA fB fO fP fL fM tS tG := by
  have vj : vp_in (nI j) 256 := vp_in_nI (by omega) (by omega)
  have ve : vp_in (nI e) 256 := vp_in_nI (by omega) (by omega)
  have g1 : tG (nI j).toNatClampNeg = 2 := sm_cg (by omega) hG
  have g0 : ¬ tG (nI j).toNatClampNeg = 0 := by rw [g1]; decide
  have g2 : ¬ tG (nI j).toNatClampNeg = 1 := by rw [g1]; decide
  have en : fN (nI e).toNatClampNeg = nI i := sm_cg (by omega) hN
  have vn : vp_in (fN (nI e).toNatClampNeg) 32 := by rw [en]; exact vp_in_nI h32 (by omega)
  have ek : ¬ nK (fN (nI e).toNatClampNeg).toNatClampNeg = 16 := by rw [en, sm_cg (f := nK) (by omega) hK]; exact sm_ne 16 k0 k1 (by omega)
  exact br_f (nI_ge (b := 1024) (by omega) (by omega)) (br_f (nI_nle (by omega) (by omega)) (nm_r (nI_pred j) ⟨vj, nm_r (sm_cg (by omega) hS) ⟨vj, br_f g0 ⟨vj, br_f g2 ⟨ve, vn, br_f ek (nm_r (sy_m1 j) (br_t (by decide) (nm_r (nI_1 it) h)))⟩⟩⟩⟩))
theorem sy_t2c {i a c b n : Nat} (hi : it < 1000) (hj : j < 255) (he : e < 256) (hS : tS j = nI e) (hG : tG j = 2) (hN : fN e = nI i) (h32 : i < 32) (hK : nK i = nI 16) (hA : nA i = nI a) (ha : a ≤ 7)
    (hC : fC e = nI c) (hO : fO e = nI b) (cb : c ≤ b) (bn : b ≤ n) (hn : n ≤ 16)
    (h : wY_applyTriples_18 post m (nI j) (nI (it + 1)) yms ysl ydl ync ysp (nI n) ylr yls yle yfc yst ycf yev yfr ydo nK nA nB nL nR ysk yrt ysj (sm_put ysj ytx a c (b - c)) (upd ytl a (nI (b - c))) ycr fN fC fD fS fA fB fO fP fL fM tS tG) : wY_applyTriples_18 post (m + 1) (nI (j + 1)) (nI it) yms ysl ydl ync ysp (nI n) ylr yls yle yfc yst ycf yev yfr ydo nK nA nB nL nR ysk yrt ysj ytx ytl ycr fN fC fD fS fA fB fO fP fL fM tS tG := by
  have vj : vp_in (nI j) 256 := vp_in_nI (by omega) (by omega)
  have ve : vp_in (nI e) 256 := vp_in_nI (by omega) (by omega)
  have g1 : tG (nI j).toNatClampNeg = 2 := sm_cg (by omega) hG
  have g0 : ¬ tG (nI j).toNatClampNeg = 0 := by rw [g1]; decide
  have g2 : ¬ tG (nI j).toNatClampNeg = 1 := by rw [g1]; decide
  have en : fN (nI e).toNatClampNeg = nI i := sm_cg (by omega) hN
  have vn : vp_in (fN (nI e).toNatClampNeg) 32 := by rw [en]; exact vp_in_nI h32 (by omega)
  have ek : nK (fN (nI e).toNatClampNeg).toNatClampNeg = 16 := by rw [en, sm_cg (f := nK) (by omega) hK]; rfl
  have ea : nA (fN (nI e).toNatClampNeg).toNatClampNeg = nI a := by rw [en, sm_cg (f := nA) (by omega) hA]
  have ec : fC (nI e).toNatClampNeg = nI c := sm_cg (by omega) hC
  have eo : fO (nI e).toNatClampNeg = nI b := sm_cg (by omega) hO
  refine br_f (nI_ge (b := 1024) (by omega) (by omega)) (br_f (nI_nle (by omega) (by omega)) (nm_r (nI_pred j) ⟨vj, nm_r (sm_cg (by omega) hS) ⟨vj, br_f g0 ⟨vj, br_f g2 ⟨ve, vn, br_t ek ⟨ve, vn, ve, ve, ?_⟩⟩⟩⟩⟩))
  rw [ea, ec, eo]
  exact sy_setVar ha cb bn hn (nm_r (sy_m1 j) (br_t (by decide) (nm_r (nI_1 it) h)))
end
section
variable {xms xsl xdl xnc xsd xn xlr xls xle xst xnw xtc xtu xtn xcu xtd xtt xsr : Int32} {xno xsk xrt xsj xtx xtl xcr eN eC eD eT eH eR tE tN : Nat → Int32}
theorem sx_t {post : SX → Prop} {m t i e nd a c b : Nat} (ht : t ≤ 250) (hi : i < t) (hE : tE i = nI e) (he : e < 250) (hN : eN e = nI nd) (hn : nd < 32) (h1 : xno (5 * nd + 1) = nI a) (ha : a ≤ 7)
    (hC : eC e = nI c) (hb : tN i = nI b) (cb : c ≤ b) (b16 : b ≤ 16)
    (h : wX_applyTriples_2 post m (nI (i + 1)) xms xsl xdl xnc xsd xn xlr xls xle xst xnw (nI t) xtu xtn xcu xtd xtt xsr xno xsk xrt xsj (sm_put xsj xtx a c (b - c)) (upd xtl a (nI (b - c))) xcr eN eC eD eT eH eR tE tN) : wX_applyTriples_2 post (m + 1) (nI i) xms xsl xdl xnc xsd xn xlr xls xle xst xnw (nI t) xtu xtn xcu xtd xtt xsr xno xsk xrt xsj xtx xtl xcr eN eC eD eT eH eR tE tN := by
  have en : eN (nI e).toNatClampNeg = nI nd := sm_cg (by omega) hN
  have ec : eC (nI e).toNatClampNeg = nI c := sm_cg (by omega) hC
  have eb : tN (nI i).toNatClampNeg = nI b := sm_cg (by omega) hb
  have vn : vp_in (eN (nI e).toNatClampNeg * 5 + 1) 160 := by rw [en]; exact sm_in5 1 hn (by omega)
  have ea : xno (eN (nI e).toNatClampNeg * 5 + 1).toNatClampNeg = nI a := by rw [en]; exact sm_c5 1 hn (by omega) h1
  have vi : vp_in (nI i) 250 := vp_in_nI (by omega) (by omega)
  have ve : vp_in (nI e) 250 := vp_in_nI (by omega) (by omega)
  refine br_f (nI_ge (by omega) (by omega)) ⟨vi, nm_r (sm_cg (by omega) hE) ⟨ve, vn, nm_r ea ⟨ve, vi, ?_⟩⟩⟩
  rw [ec, eb]
  exact sx_setText ha cb b16 (nm_r (nI_1 i) h)
theorem sx_tend {post : SX → Prop} {m i : Nat} (hp : post (xms, xsl, xdl, xnc, xsd, xn, xlr, xls, xle, xst, xnw, nI i, xtu, xtn, xcu, xtd, xtt, xsr, xno, xsk, xrt, xsj, xtx, xtl, xcr, eN, eC, eD, eT, eH, eR, tE, tN)) (hi : i < 1000) : wX_applyTriples_2 post (m + 1) (nI i) xms xsl xdl xnc xsd xn xlr xls xle xst xnw (nI i) xtu xtn xcu xtd xtt xsr xno xsk xrt xsj xtx xtl xcr eN eC eD eT eH eR tE tN :=
  br_t (nI_le (Nat.le_refl i) (by omega)) hp
end
