def sm_nd (kn : Nat → Nat) (xno nK nA nB nL nR : Nat → Int32) (i : Nat) : Prop :=
  nK i = nI (kn i) ∧ 1 ≤ kn i ∧ kn i ≤ 18 ∧ xno (5 * i) = nK i ∧ xno (5 * i + 1) = nA i ∧ xno (5 * i + 2) = nB i ∧ xno (5 * i + 3) = nL i ∧ xno (5 * i + 4) = nR i ∧
  (4 ≤ kn i → kn i ≤ 6 → ∃ a, a ≤ 16 ∧ nA i = nI a) ∧ (kn i = 11 ∨ kn i = 15 ∨ kn i = 16 → ∃ a, a ≤ 7 ∧ nA i = nI a) ∧ (kn i = 12 → ∃ a, a ≤ 3 ∧ nA i = nI a) ∧
  (13 ≤ kn i → ∃ l, l < i ∧ nL i = nI l) ∧ (17 ≤ kn i → ∃ r, r < i ∧ nR i = nI r)
def sm_cx (n nc : Nat) (kn : Nat → Nat) (xno xrt nK nA nB nL nR : Nat → Int32) : Prop :=
  nc ≤ 32 ∧ n ≤ 16 ∧ (∀ i, i < nc → sm_nd kn xno nK nA nB nL nR i) ∧ (∀ v, v < 4 → xrt v = -1 ∨ ∃ r, r < nc ∧ xrt v = nI r)
def sm_ch (g : Nat → Int32) (m : Nat) : Prop := ∀ i, i < m → ∃ q, q < 65536 ∧ g i = nI q
def sm_vok (xtx xtl : Nat → Int32) : Prop := sm_ch xtx 128 ∧ ∀ v, v < 8 → ∃ l, l ≤ 16 ∧ xtl v = nI l
def sm_lx (post : Int32 → SX → Prop) (m i : Nat) (u : SX) : Prop := match u with
  | (xms, xsl, xdl, xnc, xsd, xn, xlr, xls, xle, xst, xnw, xtc, xtu, xtn, xcu, xtd, xtt, xsr, xno, xsk, xrt, xsj, xtx, xtl, xcr, eN, eC, eD, eT, eH, eR, tE, tN) => wX_searchFrom_30 post m (nI i) xms xsl xdl xnc xsd xn xlr xls xle xst xnw xtc xtu xtn xcu xtd xtt xsr xno xsk xrt xsj xtx xtl xcr eN eC eD eT eH eR tE tN
def sm_ly (post : Int32 → SY → Prop) (m i : Nat) (v : SY) : Prop := match v with
  | (yms, ysl, ydl, ync, ysp, yn, ylr, yls, yle, yfc, yst, ycf, yev, yfr, ydo, nK, nA, nB, nL, nR, ysk, yrt, ysj, ytx, ytl, ycr, fN, fC, fD, fS, fA, fB, fO, fP, fL, fM, tS, tG) => wY_runAt_26 post m (nI i) yms ysl ydl ync ysp yn ylr yls yle yfc yst ycf yev yfr ydo nK nA nB nL nR ysk yrt ysj ytx ytl ycr fN fC fD fS fA fB fO fP fL fM tS tG
/-- how a start ends -/
def sm_end (n nc : Nat) (kn : Nat → Nat) (xst xnw xtc xtu xtn xcu xtd xtt xsr yfc yst ycf yev yfr ydo : Int32) (xtx xtl xcr eN eC eD eT eH eR tE tN fN fC fD fS fA fB fO fP fL fM : Nat → Int32) : Prop :=
  (xsr = 0 ∧ ydo = 2) ∨ (xsr = 2 ∧ ydo = 3) ∨ (xsr = 1 ∧ ydo = 1 ∧ ∃ K G, K ≤ 250 ∧ sm_inv K n G ∧ sm_e2 K G 1 ∧ sm_X K G eN eC eD eT eH eR ∧
    sm_Y K G fN fC fD fS fA fB fO fP fL fM ∧ sm_T G tE tN ∧ sm_N K nc kn G ∧ xcu = nI (G 12 1) ∧ xtc = nI (G 19 1))
def sm_fin (xms xnc xsd xlr xls xle yms ync ysp ylr yls yle : Int32) (lim dl n nc : Nat) (kn : Nat → Nat) (xno xsk xrt xsj nK nA nB nL nR ysk tS tG : Nat → Int32) (P : Nat) (u : SX) (v : SY) : Prop :=
  ∃ (xst xnw xtc xtu xtn xcu xtd xtt xsr yfc yst ycf yev yfr ydo : Int32) (xtx xtl xcr eN eC eD eT eH eR tE tN fN fC fD fS fA fB fO fP fL fM : Nat → Int32), sm_vok xtx xtl ∧ sm_end n nc kn xst xnw xtc xtu xtn xcu xtd xtt xsr yfc yst ycf yev yfr ydo xtx xtl xcr eN eC eD eT eH eR tE tN fN fC fD fS fA fB fO fP fL fM ∧
    (∀ post m i, i + P < 999999 → P + 2 ≤ m → post xsr (xms, nI lim, nI dl, xnc, xsd, nI n, xlr, xls, xle, xst, xnw, xtc, xtu, xtn, xcu, xtd, xtt, xsr, xno, xsk, xrt, xsj, xtx, xtl, xcr, eN, eC, eD, eT, eH, eR, tE, tN) → sm_lx post m i u) ∧
    (∀ post m i, i + P < 4999999 → P + 2 ≤ m → post ydo (yms, nI lim, nI dl, ync, ysp, nI n, ylr, yls, yle, yfc, yst, ycf, yev, yfr, ydo, nK, nA, nB, nL, nR, ysk, xrt, xsj, xtx, xtl, xcr, fN, fC, fD, fS, fA, fB, fO, fP, fL, fM, tS, tG) → sm_ly post m i v)
def sm_r0 (P K : Nat) (G : Nat → Nat → Nat) (xst xnw xtc xtu xtn xcu xtd xtt xsr yfc yst ycf yev yfr ydo : Int32) (xtx xtl xcr eN eC eD eT eH eR tE tN fN fC fD fS fA fB fO fP fL fM : Nat → Int32) : Prop :=
  ∃ k, K = k + 1 ∧ sm_e0 K G ∧ ydo = 0 ∧ ycf = nI k ∧ yev = 0 ∧ sm_X k G eN eC eD eT eH eR ∧ xst = nI k ∧ xtu = 0 ∧ xtn = nI (G 0 K) ∧ xcu = nI (G 2 K) ∧
  xtd = nI (G 3 K) ∧ xtt = sm_p (G 6 K) ∧ xnw = sm_p (G 7 K) ∧ xtc = nI (G 8 K) ∧ (250 - K) * 1300 + 1280 ≤ P
def sm_r1 (P K : Nat) (G : Nat → Nat → Nat) (xst xnw xtc xtu xtn xcu xtd xtt xsr yfc yst ycf yev yfr ydo : Int32) (xtx xtl xcr eN eC eD eT eH eR tE tN fN fC fD fS fA fB fO fP fL fM : Nat → Int32) : Prop :=
  ∃ x, sm_e1 G (x + 1) ∧ ydo = 0 ∧ ycf = nI x ∧ yev = 1 ∧ sm_X K G eN eC eD eT eH eR ∧ xst = nI K ∧ xtu = 2 ∧ xnw = sm_p (G 18 (x + 1)) ∧
    (250 - K) * 1300 + 260 + 3 * G 17 (x + 1) ≤ P + G 20 (x + 1)
def sm_r2 (P K : Nat) (G : Nat → Nat → Nat) (xst xnw xtc xtu xtn xcu xtd xtt xsr yfc yst ycf yev yfr ydo : Int32) (xtx xtl xcr eN eC eD eT eH eR tE tN fN fC fD fS fA fB fO fP fL fM : Nat → Int32) : Prop :=
  ∃ f, sm_e2 K G (f + 1) ∧ sm_X K G eN eC eD eT eH eR ∧ xst = nI K ∧ xtu = 1 ∧ xcu = nI (G 12 (f + 1)) ∧ xtt = sm_p (G 6 (f + 1)) ∧ xnw = sm_p (G 18 (f + 1)) ∧ xtc = nI (G 19 (f + 1)) ∧
    ((G 2 (G 4 (f + 1)) < G 12 (f + 1) ∧ (250 - K) * 1300 + G 20 (G 4 (f + 1)) + 1 ≤ P) ∨ (250 - K) * 1300 + G 20 (G 4 (f + 1)) + 1021 ≤ P) ∧
    ((G 4 (f + 1) = 0 ∧ ydo = 1) ∨ (∃ q, G 4 (f + 1) = q + 1 ∧ ydo = 0 ∧ ycf = nI q ∧ yev = 2 ∧ yfr = nI f))
def sm_r3 (P K : Nat) (G : Nat → Nat → Nat) (xst xnw xtc xtu xtn xcu xtd xtt xsr yfc yst ycf yev yfr ydo : Int32) (xtx xtl xcr eN eC eD eT eH eR tE tN fN fC fD fS fA fB fO fP fL fM : Nat → Int32) : Prop :=
  ∃ f, sm_e3 K G (f + 1) ∧ sm_X K G eN eC eD eT eH eR ∧ xst = nI K ∧ xtu = 2 ∧ xnw = sm_p (G 7 (f + 1)) ∧
    (250 - K) * 1300 + 260 + 3 * (f + 1) ≤ P + G 20 (G 4 (f + 1)) ∧
    ((G 4 (f + 1) = 0 ∧ ydo = 2) ∨ (∃ q, G 4 (f + 1) = q + 1 ∧ ydo = 0 ∧ ycf = nI q ∧ yev = 3 ∧ yfr = nI f))
def sm_rel (lim n nc : Nat) (kn : Nat → Nat) (P K : Nat) (G : Nat → Nat → Nat) (xst xnw xtc xtu xtn xcu xtd xtt xsr yfc yst ycf yev yfr ydo : Int32) (xtx xtl xcr eN eC eD eT eH eR tE tN fN fC fD fS fA fB fO fP fL fM : Nat → Int32) : Prop :=
  xsr = 3 ∧ K ≤ lim ∧ ((K = lim ∧ ydo = 3 ∧ xtu = 0 ∧ xst = nI lim) ∨
    (yfc = nI K ∧ yst = nI K ∧ sm_inv K n G ∧ sm_Y K G fN fC fD fS fA fB fO fP fL fM ∧ sm_T G tE tN ∧ sm_N K nc kn G ∧
      (sm_r0 P K G xst xnw xtc xtu xtn xcu xtd xtt xsr yfc yst ycf yev yfr ydo xtx xtl xcr eN eC eD eT eH eR tE tN fN fC fD fS fA fB fO fP fL fM ∨ sm_r1 P K G xst xnw xtc xtu xtn xcu xtd xtt xsr yfc yst ycf yev yfr ydo xtx xtl xcr eN eC eD eT eH eR tE tN fN fC fD fS fA fB fO fP fL fM ∨ sm_r2 P K G xst xnw xtc xtu xtn xcu xtd xtt xsr yfc yst ycf yev yfr ydo xtx xtl xcr eN eC eD eT eH eR tE tN fN fC fD fS fA fB fO fP fL fM ∨ sm_r3 P K G xst xnw xtc xtu xtn xcu xtd xtt xsr yfc yst ycf yev yfr ydo xtx xtl xcr eN eC eD eT eH eR tE tN fN fC fD fS fA fB fO fP fL fM)))
def sm_IH (xms xnc xsd xlr xls xle yms ync ysp ylr yls yle : Int32) (lim dl n nc : Nat) (kn : Nat → Nat) (xno xsk xrt xsj nK nA nB nL nR ysk tS tG : Nat → Int32) (P : Nat) : Prop :=
  ∀ (P' K : Nat) (G : Nat → Nat → Nat) {xst xnw xtc xtu xtn xcu xtd xtt xsr yfc yst ycf yev yfr ydo : Int32} {xtx xtl xcr eN eC eD eT eH eR tE tN fN fC fD fS fA fB fO fP fL fM : Nat → Int32}, P' < P → sm_vok xtx xtl → sm_rel lim n nc kn P' K G xst xnw xtc xtu xtn xcu xtd xtt xsr yfc yst ycf yev yfr ydo xtx xtl xcr eN eC eD eT eH eR tE tN fN fC fD fS fA fB fO fP fL fM → sm_fin xms xnc xsd xlr xls xle yms ync ysp ylr yls yle lim dl n nc kn xno xsk xrt xsj nK nA nB nL nR ysk tS tG P' (xms, nI lim, nI dl, xnc, xsd, nI n, xlr, xls, xle, xst, xnw, xtc, xtu, xtn, xcu, xtd, xtt, xsr, xno, xsk, xrt, xsj, xtx, xtl, xcr, eN, eC, eD, eT, eH, eR, tE, tN) (yms, nI lim, nI dl, ync, ysp, nI n, ylr, yls, yle, yfc, yst, ycf, yev, yfr, ydo, nK, nA, nB, nL, nR, ysk, xrt, xsj, xtx, xtl, xcr, fN, fC, fD, fS, fA, fB, fO, fP, fL, fM, tS, tG)

section
variable {xms xsl xdl xnc xsd xn xlr xls xle xst xnw xtc xtu xtn xcu xtd xtt xsr : Int32} {xno xsk xrt xsj xtx xtl xcr eN eC eD eT eH eR tE tN : Nat → Int32}
variable {yms ysl ydl ync ysp yn ylr yls yle yfc yst ycf yev yfr ydo : Int32} {nK nA nB nL nR ysk yrt ysj ytx ytl ycr fN fC fD fS fA fB fO fP fL fM tS tG : Nat → Int32}
theorem sx_go0 {post : Int32 → SX → Prop} {m i : Nat} {u1 : SX} (hi : i < 999999) (h : ∀ Q : SX → Prop, Q u1 → wpX_begin Q (xms, xsl, xdl, xnc, xsd, xn, xlr, xls, xle, xst, xnw, xtc, 0, xtn, xcu, xtd, xtt, 3, xno, xsk, xrt, xsj, xtx, xtl, xcr, eN, eC, eD, eT, eH, eR, tE, tN)) (hl : sm_lx post m (i + 1) u1) :
    sm_lx post (m + 1) i (xms, xsl, xdl, xnc, xsd, xn, xlr, xls, xle, xst, xnw, xtc, 0, xtn, xcu, xtd, xtt, 3, xno, xsk, xrt, xsj, xtx, xtl, xcr, eN, eC, eD, eT, eH, eR, tE, tN) := by
  obtain ⟨xms', xsl', xdl', xnc', xsd', xn', xlr', xls', xle', xst', xnw', xtc', xtu', xtn', xcu', xtd', xtt', xsr', xno', xsk', xrt', xsj', xtx', xtl', xcr', eN', eC', eD', eT', eH', eR', tE', tN'⟩ := u1
  exact br_f (nI_ge (b := 1000000) (by omega) (by omega)) (br_t rfl (br_t rfl (h _ (nm_r (nI_1 i) hl))))
theorem sx_go1 {post : Int32 → SX → Prop} {m i : Nat} {u1 : SX} (hi : i < 999999) (h : ∀ Q : SX → Prop, Q u1 → wpX_produce Q (xms, xsl, xdl, xnc, xsd, xn, xlr, xls, xle, xst, xnw, xtc, 1, xtn, xcu, xtd, xtt, 3, xno, xsk, xrt, xsj, xtx, xtl, xcr, eN, eC, eD, eT, eH, eR, tE, tN)) (hl : sm_lx post m (i + 1) u1) :
    sm_lx post (m + 1) i (xms, xsl, xdl, xnc, xsd, xn, xlr, xls, xle, xst, xnw, xtc, 1, xtn, xcu, xtd, xtt, 3, xno, xsk, xrt, xsj, xtx, xtl, xcr, eN, eC, eD, eT, eH, eR, tE, tN) := by
  obtain ⟨xms', xsl', xdl', xnc', xsd', xn', xlr', xls', xle', xst', xnw', xtc', xtu', xtn', xcu', xtd', xtt', xsr', xno', xsk', xrt', xsj', xtx', xtl', xcr', eN', eC', eD', eT', eH', eR', tE', tN'⟩ := u1
  exact br_f (nI_ge (b := 1000000) (by omega) (by omega)) (br_t rfl (br_f (by decide) (br_t rfl (h _ (nm_r (nI_1 i) hl)))))
theorem sx_go2 {post : Int32 → SX → Prop} {m i : Nat} {u1 : SX} (hi : i < 999999) (h : ∀ Q : SX → Prop, Q u1 → wpX_backtrack Q (xms, xsl, xdl, xnc, xsd, xn, xlr, xls, xle, xst, xnw, xtc, 2, xtn, xcu, xtd, xtt, 3, xno, xsk, xrt, xsj, xtx, xtl, xcr, eN, eC, eD, eT, eH, eR, tE, tN)) (hl : sm_lx post m (i + 1) u1) :
    sm_lx post (m + 1) i (xms, xsl, xdl, xnc, xsd, xn, xlr, xls, xle, xst, xnw, xtc, 2, xtn, xcu, xtd, xtt, 3, xno, xsk, xrt, xsj, xtx, xtl, xcr, eN, eC, eD, eT, eH, eR, tE, tN) := by
  obtain ⟨xms', xsl', xdl', xnc', xsd', xn', xlr', xls', xle', xst', xnw', xtc', xtu', xtn', xcu', xtd', xtt', xsr', xno', xsk', xrt', xsj', xtx', xtl', xcr', eN', eC', eD', eT', eH', eR', tE', tN'⟩ := u1
  exact br_f (nI_ge (b := 1000000) (by omega) (by omega)) (br_t rfl (br_f (by decide) (br_f (by decide) (h _ (nm_r (nI_1 i) hl)))))
theorem sx_stop {post : Int32 → SX → Prop} {m i : Nat} (hi : i < 1000000) (h : ¬ xsr = 3) (hp : post xsr (xms, xsl, xdl, xnc, xsd, xn, xlr, xls, xle, xst, xnw, xtc, xtu, xtn, xcu, xtd, xtt, xsr, xno, xsk, xrt, xsj, xtx, xtl, xcr, eN, eC, eD, eT, eH, eR, tE, tN)) : sm_lx post (m + 1) i (xms, xsl, xdl, xnc, xsd, xn, xlr, xls, xle, xst, xnw, xtc, xtu, xtn, xcu, xtd, xtt, xsr, xno, xsk, xrt, xsj, xtx, xtl, xcr, eN, eC, eD, eT, eH, eR, tE, tN) :=
  br_f (nI_ge (b := 1000000) (by omega) (by omega)) (br_f h hp)
theorem sy_go {post : Int32 → SY → Prop} {m i : Nat} {v1 : SY} (hi : i < 4999999) (h : ∀ Q : SY → Prop, Q v1 → wpY_step Q (yms, ysl, ydl, ync, ysp, yn, ylr, yls, yle, yfc, yst, ycf, yev, yfr, 0, nK, nA, nB, nL, nR, ysk, yrt, ysj, ytx, ytl, ycr, fN, fC, fD, fS, fA, fB, fO, fP, fL, fM, tS, tG)) (hl : sm_ly post m (i + 1) v1) :
    sm_ly post (m + 1) i (yms, ysl, ydl, ync, ysp, yn, ylr, yls, yle, yfc, yst, ycf, yev, yfr, 0, nK, nA, nB, nL, nR, ysk, yrt, ysj, ytx, ytl, ycr, fN, fC, fD, fS, fA, fB, fO, fP, fL, fM, tS, tG) := by
  obtain ⟨yms', ysl', ydl', ync', ysp', yn', ylr', yls', yle', yfc', yst', ycf', yev', yfr', ydo', nK', nA', nB', nL', nR', ysk', yrt', ysj', ytx', ytl', ycr', fN', fC', fD', fS', fA', fB', fO', fP', fL', fM', tS', tG'⟩ := v1
  exact br_f (nI_ge (b := 5000000) (by omega) (by omega)) (br_t rfl (h _ (nm_r (nI_1 i) hl)))
theorem sy_stop {post : Int32 → SY → Prop} {m i : Nat} (hi : i < 5000000) (h : ¬ ydo = 0) (hp : post ydo (yms, ysl, ydl, ync, ysp, yn, ylr, yls, yle, yfc, yst, ycf, yev, yfr, ydo, nK, nA, nB, nL, nR, ysk, yrt, ysj, ytx, ytl, ycr, fN, fC, fD, fS, fA, fB, fO, fP, fL, fM, tS, tG)) : sm_ly post (m + 1) i (yms, ysl, ydl, ync, ysp, yn, ylr, yls, yle, yfc, yst, ycf, yev, yfr, ydo, nK, nA, nB, nL, nR, ysk, yrt, ysj, ytx, ytl, ycr, fN, fC, fD, fS, fA, fB, fO, fP, fL, fM, tS, tG) :=
  br_f (nI_ge (b := 5000000) (by omega) (by omega)) (br_f h (br_f h hp))
end
section
variable {xms xnc xsd xlr xls xle yms ync ysp ylr yls yle : Int32} {lim dl n nc : Nat} {kn : Nat → Nat} {xno xsk xrt xsj nK nA nB nL nR ysk tS tG : Nat → Int32}
theorem sm_fin_xy {P P' : Nat} {u u1 : SX} {v v1 : SY} (hx : ∀ post m i, i < 999999 → sm_lx post m (i + 1) u1 → sm_lx post (m + 1) i u)
    (hy : ∀ post m i, i < 4999999 → sm_ly post m (i + 1) v1 → sm_ly post (m + 1) i v) (h : sm_fin xms xnc xsd xlr xls xle yms ync ysp ylr yls yle lim dl n nc kn xno xsk xrt xsj nK nA nB nL nR ysk tS tG P' u1 v1) (hP : P' < P) : sm_fin xms xnc xsd xlr xls xle yms ync ysp ylr yls yle lim dl n nc kn xno xsk xrt xsj nK nA nB nL nR ysk tS tG P u v := by
  obtain ⟨xst, xnw, xtc, xtu, xtn, xcu, xtd, xtt, xsr, yfc, yst, ycf, yev, yfr, ydo, xtx, xtl, xcr, eN, eC, eD, eT, eH, eR, tE, tN, fN, fC, fD, fS, fA, fB, fO, fP, fL, fM, a, b, c, d⟩ := h
  refine ⟨xst, xnw, xtc, xtu, xtn, xcu, xtd, xtt, xsr, yfc, yst, ycf, yev, yfr, ydo, xtx, xtl, xcr, eN, eC, eD, eT, eH, eR, tE, tN, fN, fC, fD, fS, fA, fB, fO, fP, fL, fM, a, b, ?_, ?_⟩
  · intro post m i h1 h2 hp
    obtain ⟨m, rfl⟩ : ∃ k, m = k + 1 := ⟨m - 1, by omega⟩
    exact hx post m i (by omega) (c post m (i + 1) (by omega) (by omega) hp)
  · intro post m i h1 h2 hp
    obtain ⟨m, rfl⟩ : ∃ k, m = k + 1 := ⟨m - 1, by omega⟩
    exact hy post m i (by omega) (d post m (i + 1) (by omega) (by omega) hp)
theorem sm_fin_y {P P' : Nat} {u : SX} {v v1 : SY}
    (hy : ∀ post m i, i < 4999999 → sm_ly post m (i + 1) v1 → sm_ly post (m + 1) i v) (h : sm_fin xms xnc xsd xlr xls xle yms ync ysp ylr yls yle lim dl n nc kn xno xsk xrt xsj nK nA nB nL nR ysk tS tG P' u v1) (hP : P' < P) : sm_fin xms xnc xsd xlr xls xle yms ync ysp ylr yls yle lim dl n nc kn xno xsk xrt xsj nK nA nB nL nR ysk tS tG P u v := by
  obtain ⟨xst, xnw, xtc, xtu, xtn, xcu, xtd, xtt, xsr, yfc, yst, ycf, yev, yfr, ydo, xtx, xtl, xcr, eN, eC, eD, eT, eH, eR, tE, tN, fN, fC, fD, fS, fA, fB, fO, fP, fL, fM, a, b, c, d⟩ := h
  refine ⟨xst, xnw, xtc, xtu, xtn, xcu, xtd, xtt, xsr, yfc, yst, ycf, yev, yfr, ydo, xtx, xtl, xcr, eN, eC, eD, eT, eH, eR, tE, tN, fN, fC, fD, fS, fA, fB, fO, fP, fL, fM, a, b, ?_, ?_⟩
  · intro post m i h1 h2 hp
    exact c post m i (by omega) (by omega) hp
  · intro post m i h1 h2 hp
    obtain ⟨m, rfl⟩ : ∃ k, m = k + 1 := ⟨m - 1, by omega⟩
    exact hy post m i (by omega) (d post m (i + 1) (by omega) (by omega) hp)
end
