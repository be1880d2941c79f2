theorem sm_j1 {K P d f q : Nat} (hP : (250 - K) * 1300 + 260 + 3 * (f + 1) ≤ P + d) (hd : d ≤ q) (hq : q < f + 1) : P - 1 < P := by omega
theorem sm_j2 {K P d d' f h : Nat} (hP : (250 - K) * 1300 + 260 + 3 * (f + 1) ≤ P + d) (hh : h = f + 1) (hd : d' = d + 1) : (250 - K) * 1300 + 260 + 3 * h ≤ P - 1 + d' := by omega
theorem sm_j3 {K P d d' f q : Nat} (hP : (250 - K) * 1300 + 260 + 3 * (f + 1) ≤ P + d) (hq : q + 1 < f + 1) (hd : d = d' + 1) : (250 - K) * 1300 + 260 + 3 * (q + 1) ≤ P - 1 + d' := by omega
theorem sm_j4 {K P d f q lim : Nat} (hP : (250 - K) * 1300 + 260 + 3 * (f + 1) ≤ P + d) (hd : d ≤ q) (hq : q < f + 1) (hK : K ≤ lim) (hn : ¬ K = lim) (hl : lim ≤ 250) : K + 1 ≤ lim ∧ (250 - (K + 1)) * 1300 + 1280 ≤ P - 1 := by omega
section
variable {xms xnc xsd xlr xls xle yms ync ysp ylr yls yle : Int32} {lim dl n nc : Nat} {kn : Nat → Nat} {xno xsk xrt xsj nK nA nB nL nR ysk tS tG : Nat → Int32}
variable {xst xnw xtc xtu xtn xcu xtd xtt xsr yfc yst ycf yev yfr ydo : Int32} {xtx xtl xcr eN eC eD eT eH eR tE tN fN fC fD fS fA fB fO fP fL fM : Nat → Int32}
variable {P K : Nat} {G : Nat → Nat → Nat}

theorem sm_3ask (cx : sm_cx n nc kn xno xrt nK nA nB nL nR) (hlim : lim ≤ 250) (ih : sm_IH xms xnc xsd xlr xls xle yms ync ysp ylr yls yle lim dl n nc kn xno xsk xrt xsj nK nA nB nL nR ysk tS tG P) (vk : sm_vok xtx xtl)
    {f q : Nat} (hK : K ≤ lim) (I : sm_inv K n G) (Y : sm_Y K G fN fC fD fS fA fB fO fP fL fM) (T : sm_T G tE tN) (N : sm_N K nc kn G) (E : sm_e3 K G (f + 1)) (hq : G 4 (f + 1) = q + 1)
    (X : sm_X K G eN eC eD eT eH eR) (hP : (250 - K) * 1300 + 260 + 3 * (f + 1) ≤ P + G 20 (q + 1)) (s1 : sm_s1 G (f + 1) (q + 1)) :
    sm_fin xms xnc xsd xlr xls xle yms ync ysp ylr yls yle lim dl n nc kn xno xsk xrt xsj nK nA nB nL nR ysk tS tG P (xms, nI lim, nI dl, xnc, xsd, nI n, xlr, xls, xle, nI K, sm_p (G 7 (f + 1)), xtc, 2, xtn, xcu, xtd, xtt, 3, xno, xsk, xrt, xsj, xtx, xtl, xcr, eN, eC, eD, eT, eH, eR, tE, tN) (yms, nI lim, nI dl, ync, ysp, nI n, ylr, yls, yle, nI K, nI K, nI q, 3, nI f, 0, nK, nA, nB, nL, nR, ysk, xrt, xsj, xtx, xtl, xcr, fN, fC, fD, fS, fA, fB, fO, fP, fL, fM, tS, tG) := by
  have fK : f + 1 ≤ K := E.2.1
  have Lf := E.2.2.1
  have op := E.2.2.2.1
  rw [hq] at op Lf
  have lp := Lf.2.1
  have B := I.2.1 _ lp
  have qf : q + 1 < f + 1 := Lf.1
  have qK1 : q + 1 ≤ K := B.1
  have qK : q < K := B.1
  have K256 : K < 256 := Nat.lt_of_le_of_lt (Nat.le_trans hK hlim) (by decide)
  have q250 : q < 250 := Nat.lt_of_lt_of_le qK (Nat.le_trans hK hlim)
  have q256 : q < 256 := Nat.lt_trans q250 (by decide)
  have f998 : f < 998 := Nat.lt_of_lt_of_le (Nat.lt_of_lt_of_le fK (Nat.le_trans hK hlim)) (by decide)
  have P1 : P - 1 < P := sm_j1 hP B.2.2.2.1 qf
  have hnd := (N.2 (q + 1) (Nat.succ_pos q) qK1).1
  have hkd := (N.2 (q + 1) (Nat.succ_pos q) qK1).2.1
  have hd8 := (N.2 (q + 1) (Nat.succ_pos q) qK1).2.2
  have D := cx.2.2.1 _ hnd
  have i32 : G 0 (q + 1) < 32 := Nat.lt_of_lt_of_le hnd cx.1
  have y1 : fN q = nI (G 0 (q + 1)) := Y.1 q qK
  have y2 : fC q = nI (G 2 (q + 1)) := Y.2.1 q qK
  have y3 : fD q = nI (G 3 (q + 1)) := Y.2.2.1 q qK
  have y4 : fS q = nI (G 9 (q + 1)) := Y.2.2.2.1 q qK
  have y5 : fA q = sm_p (G 10 (q + 1)) := Y.2.2.2.2.1 q qK
  have y6 : fB q = sm_p (G 11 (q + 1)) := Y.2.2.2.2.2.1 q qK
  have y8 : fP q = sm_p (G 4 (q + 1)) := Y.2.2.2.2.2.2.2.1 q qK
  have hkk : nK (G 0 (q + 1)) = nI (G 1 (q + 1)) := by rw [hkd]; exact D.1
  have hx0 : xno (5 * G 0 (q + 1)) = nI (G 1 (q + 1)) := D.2.2.2.1.trans hkk
  have x1 : eN q = nI (G 0 (q + 1)) := X.1 q qK
  have x2 : eC q = nI (sm_ec G (q + 1)) := X.2.1 q qK
  rw [sm_ne10 (Nat.ne_of_gt (Nat.lt_of_lt_of_le (by decide) Lf.2.2.1))] at x2
  have x3 : eD q = nI (G 3 (q + 1)) := X.2.2.1 q qK
  have x4 : eT q = sm_p (G 6 (q + 1)) := X.2.2.2.1 q qK
  have x5 : eH q = sm_p (G 7 (q + 1)) := X.2.2.2.2.1 q qK
  have x6 : eR q = nI (G 8 (q + 1)) := X.2.2.2.2.2 q qK
  have Lp := I.2.2.1 (q + 1) (Nat.succ_pos q) lp
  have pq : ∀ p, G 4 (q + 1) = p + 1 → p < 1000 := fun p hp => sm_n3 qK1 (Nat.le_trans hK hlim) Lp.1 hp
  have E1 := sm_31 I E s1.1
  rw [hq] at E1
  obtain ⟨d1, d2, d3, d4, d5, d6, d7, d8, d9, d10, d11, d12, d13⟩ := s1
  obtain ⟨c, hc⟩ : ∃ c, G 10 (q + 1) = c + 1 := ⟨G 10 (q + 1) - 1, by omega⟩
  rw [hc] at d4 d5 d6 d8 E1
  rw [hc, sm_ps] at y5
  rw [d3] at y6
  have cK : c < K := (I.2.1 _ d4).1
  have Lc := I.2.2.1 (c + 1) (Nat.succ_pos c) d4
  rw [d8] at Lc
  rw [hc] at d13
  have bd : (250 - K) * 1300 + 260 + 3 * G 17 (c + 1) ≤ P - 1 + G 20 (c + 1) := sm_j2 hP d6 Lc.2.2.2.1
  exact sm_fin_y (P' := P - 1) (v1 := (yms, nI lim, nI dl, ync, ysp, nI n, ylr, yls, yle, nI K, nI K, nI c, 1, nI f, 0, nK, nA, nB, nL, nR, ysk, xrt, xsj, xtx, xtl, xcr, fN, fC, fD, fS, fA, fB, fO, fP, fL, fM, tS, tG)) (fun post m i hi hl => sy_go hi (fun Q hQ => sy_3ask q256 y1 i32 hkk y2 y3 d2.symm y6 f998 y5 cK (by omega) hQ) hl) (ih (P - 1) K G P1 vk ⟨rfl, hK, Or.inr ⟨rfl, rfl, I, Y, T, N, Or.inr (Or.inl ⟨c, E1, rfl, rfl, rfl, X, rfl, rfl, by rw [d13], bd⟩)⟩⟩) P1
theorem sm_3exh (cx : sm_cx n nc kn xno xrt nK nA nB nL nR) (hlim : lim ≤ 250) (ih : sm_IH xms xnc xsd xlr xls xle yms ync ysp ylr yls yle lim dl n nc kn xno xsk xrt xsj nK nA nB nL nR ysk tS tG P) (vk : sm_vok xtx xtl)
    {f q : Nat} (hK : K ≤ lim) (I : sm_inv K n G) (Y : sm_Y K G fN fC fD fS fA fB fO fP fL fM) (T : sm_T G tE tN) (N : sm_N K nc kn G) (E : sm_e3 K G (f + 1)) (hq : G 4 (f + 1) = q + 1)
    (X : sm_X K G eN eC eD eT eH eR) (hP : (250 - K) * 1300 + 260 + 3 * (f + 1) ≤ P + G 20 (q + 1)) (k0 : 12 ≤ G 1 (q + 1) ∧ G 1 (q + 1) ≤ 18) (sl : G 5 (f + 1) = 0) (s9 : G 1 (q + 1) = 18 → G 9 (q + 1) < 1000) (c2 : G 1 (q + 1) = 18 → G 9 (q + 1) ≠ 0) :
    sm_fin xms xnc xsd xlr xls xle yms ync ysp ylr yls yle lim dl n nc kn xno xsk xrt xsj nK nA nB nL nR ysk tS tG P (xms, nI lim, nI dl, xnc, xsd, nI n, xlr, xls, xle, nI K, sm_p (G 7 (q + 1)), xtc, 2, xtn, xcu, xtd, xtt, 3, xno, xsk, xrt, xsj, xtx, xtl, xcr, eN, eC, eD, eT, eH, eR, tE, tN) (yms, nI lim, nI dl, ync, ysp, nI n, ylr, yls, yle, nI K, nI K, nI q, 3, nI f, 0, nK, nA, nB, nL, nR, ysk, xrt, xsj, xtx, xtl, xcr, fN, fC, fD, fS, fA, fB, fO, fP, fL, fM, tS, tG) := by
  have fK : f + 1 ≤ K := E.2.1
  have Lf := E.2.2.1
  have op := E.2.2.2.1
  rw [hq] at op Lf
  have lp := Lf.2.1
  have B := I.2.1 _ lp
  have qf : q + 1 < f + 1 := Lf.1
  have qK1 : q + 1 ≤ K := B.1
  have qK : q < K := B.1
  have K256 : K < 256 := Nat.lt_of_le_of_lt (Nat.le_trans hK hlim) (by decide)
  have q250 : q < 250 := Nat.lt_of_lt_of_le qK (Nat.le_trans hK hlim)
  have q256 : q < 256 := Nat.lt_trans q250 (by decide)
  have f998 : f < 998 := Nat.lt_of_lt_of_le (Nat.lt_of_lt_of_le fK (Nat.le_trans hK hlim)) (by decide)
  have P1 : P - 1 < P := sm_j1 hP B.2.2.2.1 qf
  have hnd := (N.2 (q + 1) (Nat.succ_pos q) qK1).1
  have hkd := (N.2 (q + 1) (Nat.succ_pos q) qK1).2.1
  have hd8 := (N.2 (q + 1) (Nat.succ_pos q) qK1).2.2
  have D := cx.2.2.1 _ hnd
  have i32 : G 0 (q + 1) < 32 := Nat.lt_of_lt_of_le hnd cx.1
  have y1 : fN q = nI (G 0 (q + 1)) := Y.1 q qK
  have y2 : fC q = nI (G 2 (q + 1)) := Y.2.1 q qK
  have y3 : fD q = nI (G 3 (q + 1)) := Y.2.2.1 q qK
  have y4 : fS q = nI (G 9 (q + 1)) := Y.2.2.2.1 q qK
  have y5 : fA q = sm_p (G 10 (q + 1)) := Y.2.2.2.2.1 q qK
  have y6 : fB q = sm_p (G 11 (q + 1)) := Y.2.2.2.2.2.1 q qK
  have y8 : fP q = sm_p (G 4 (q + 1)) := Y.2.2.2.2.2.2.2.1 q qK
  have hkk : nK (G 0 (q + 1)) = nI (G 1 (q + 1)) := by rw [hkd]; exact D.1
  have hx0 : xno (5 * G 0 (q + 1)) = nI (G 1 (q + 1)) := D.2.2.2.1.trans hkk
  have x1 : eN q = nI (G 0 (q + 1)) := X.1 q qK
  have x2 : eC q = nI (sm_ec G (q + 1)) := X.2.1 q qK
  rw [sm_ne10 (Nat.ne_of_gt (Nat.lt_of_lt_of_le (by decide) Lf.2.2.1))] at x2
  have x3 : eD q = nI (G 3 (q + 1)) := X.2.2.1 q qK
  have x4 : eT q = sm_p (G 6 (q + 1)) := X.2.2.2.1 q qK
  have x5 : eH q = sm_p (G 7 (q + 1)) := X.2.2.2.2.1 q qK
  have x6 : eR q = nI (G 8 (q + 1)) := X.2.2.2.2.2 q qK
  have Lp := I.2.2.1 (q + 1) (Nat.succ_pos q) lp
  have pq : ∀ p, G 4 (q + 1) = p + 1 → p < 1000 := fun p hp => sm_n3 qK1 (Nat.le_trans hK hlim) Lp.1 hp
  have opp : G 16 (G 4 (q + 1)) ≠ 1 := fun z => op (Lp.2.2.2.2.1 z)
  have b7 := B.2.2.2.2.2.2.1
  have c1 : G 1 (q + 1) = 17 ∨ G 1 (q + 1) = 13 → G 11 (q + 1) ≠ f + 1 := by
    intro _ z
    rcases B.2.2.2.2.2.2.2 with w | w
    · omega
    · rw [z] at w; omega
  obtain ⟨H, I1, E1, Y1, T1, N1, ge⟩ := sm_T3 I Y T N lp opp
  have X1 : sm_X K H eN eC eD eT eH eR := sm_X_s X (fun i hi => ge i (by omega))
  have bd : (250 - K) * 1300 + 260 + 3 * (q + 1) ≤ P - 1 + H 20 (H 4 (q + 1)) := by rw [ge 4 (by decide), ge 20 (by decide)]; exact sm_j3 hP qf Lp.2.2.2.1
  by_cases z : G 4 (q + 1) = 0
  · rw [z, sm_p0] at y8
    exact sm_fin_y (P' := P - 1) (v1 := (yms, nI lim, nI dl, ync, ysp, nI n, ylr, yls, yle, nI K, nI K, nI q, 3, nI f, 2, nK, nA, nB, nL, nR, ysk, xrt, xsj, xtx, xtl, xcr, fN, fC, fD, fS, fA, fB, fO, fP, fL, fM, tS, tG)) (fun post m i hi hl => sy_go hi (fun Q hQ => sy_3exh q256 y1 i32 hkk y2 y3 k0 y6 (by omega) f998 y4 s9 c1 c2 (Or.inl ⟨y8, hQ⟩)) hl) (ih (P - 1) K H P1 vk ⟨rfl, hK, Or.inr ⟨rfl, rfl, I1, Y1, T1, N1, Or.inr (Or.inr (Or.inr ⟨q, E1, X1, rfl, rfl, by rw [ge 7 (by decide)], bd, Or.inl ⟨by rw [ge 4 (by decide)]; exact z, rfl⟩⟩))⟩⟩) P1
  · obtain ⟨p, hp⟩ : ∃ p, G 4 (q + 1) = p + 1 := ⟨G 4 (q + 1) - 1, (Nat.succ_pred_eq_of_ne_zero z).symm⟩
    have p9 := pq p hp
    rw [hp, sm_ps] at y8
    exact sm_fin_y (P' := P - 1) (v1 := (yms, nI lim, nI dl, ync, ysp, nI n, ylr, yls, yle, nI K, nI K, nI p, 3, nI q, 0, nK, nA, nB, nL, nR, ysk, xrt, xsj, xtx, xtl, xcr, fN, fC, fD, fS, fA, fB, fO, fP, fL, fM, tS, tG)) (fun post m i hi hl => sy_go hi (fun Q hQ => sy_3exh q256 y1 i32 hkk y2 y3 k0 y6 (by omega) f998 y4 s9 c1 c2 (Or.inr ⟨p, p9, y8, hQ⟩)) hl) (ih (P - 1) K H P1 vk ⟨rfl, hK, Or.inr ⟨rfl, rfl, I1, Y1, T1, N1, Or.inr (Or.inr (Or.inr ⟨q, E1, X1, rfl, rfl, by rw [ge 7 (by decide)], bd, Or.inr ⟨p, by rw [ge 4 (by decide)]; exact hp, rfl, rfl, rfl, rfl⟩⟩))⟩⟩) P1
theorem sm_3alt (cx : sm_cx n nc kn xno xrt nK nA nB nL nR) (hlim : lim ≤ 250) (ih : sm_IH xms xnc xsd xlr xls xle yms ync ysp ylr yls yle lim dl n nc kn xno xsk xrt xsj nK nA nB nL nR ysk tS tG P) (vk : sm_vok xtx xtl)
    {f q : Nat} (hK : K ≤ lim) (I : sm_inv K n G) (Y : sm_Y K G fN fC fD fS fA fB fO fP fL fM) (T : sm_T G tE tN) (N : sm_N K nc kn G) (E : sm_e3 K G (f + 1)) (hq : G 4 (f + 1) = q + 1)
    (X : sm_X K G eN eC eD eT eH eR) (hP : (250 - K) * 1300 + 260 + 3 * (f + 1) ≤ P + G 20 (q + 1)) (k0 : G 1 (q + 1) = 18) (st0 : G 9 (q + 1) = 0) :
    sm_fin xms xnc xsd xlr xls xle yms ync ysp ylr yls yle lim dl n nc kn xno xsk xrt xsj nK nA nB nL nR ysk tS tG P (xms, nI lim, nI dl, xnc, xsd, nI n, xlr, xls, xle, nI K, nI q, xtc, 2, xtn, xcu, xtd, xtt, 3, xno, xsk, xrt, xsj, xtx, xtl, xcr, eN, eC, eD, eT, eH, eR, tE, tN) (yms, nI lim, nI dl, ync, ysp, nI n, ylr, yls, yle, nI K, nI K, nI q, 3, nI f, 0, nK, nA, nB, nL, nR, ysk, xrt, xsj, xtx, xtl, xcr, fN, fC, fD, fS, fA, fB, fO, fP, fL, fM, tS, tG) := by
  have fK : f + 1 ≤ K := E.2.1
  have Lf := E.2.2.1
  have op := E.2.2.2.1
  rw [hq] at op Lf
  have lp := Lf.2.1
  have B := I.2.1 _ lp
  have qf : q + 1 < f + 1 := Lf.1
  have qK1 : q + 1 ≤ K := B.1
  have qK : q < K := B.1
  have K256 : K < 256 := Nat.lt_of_le_of_lt (Nat.le_trans hK hlim) (by decide)
  have q250 : q < 250 := Nat.lt_of_lt_of_le qK (Nat.le_trans hK hlim)
  have q256 : q < 256 := Nat.lt_trans q250 (by decide)
  have f998 : f < 998 := Nat.lt_of_lt_of_le (Nat.lt_of_lt_of_le fK (Nat.le_trans hK hlim)) (by decide)
  have P1 : P - 1 < P := sm_j1 hP B.2.2.2.1 qf
  have hnd := (N.2 (q + 1) (Nat.succ_pos q) qK1).1
  have hkd := (N.2 (q + 1) (Nat.succ_pos q) qK1).2.1
  have hd8 := (N.2 (q + 1) (Nat.succ_pos q) qK1).2.2
  have D := cx.2.2.1 _ hnd
  have i32 : G 0 (q + 1) < 32 := Nat.lt_of_lt_of_le hnd cx.1
  have y1 : fN q = nI (G 0 (q + 1)) := Y.1 q qK
  have y2 : fC q = nI (G 2 (q + 1)) := Y.2.1 q qK
  have y3 : fD q = nI (G 3 (q + 1)) := Y.2.2.1 q qK
  have y4 : fS q = nI (G 9 (q + 1)) := Y.2.2.2.1 q qK
  have y5 : fA q = sm_p (G 10 (q + 1)) := Y.2.2.2.2.1 q qK
  have y6 : fB q = sm_p (G 11 (q + 1)) := Y.2.2.2.2.2.1 q qK
  have y8 : fP q = sm_p (G 4 (q + 1)) := Y.2.2.2.2.2.2.2.1 q qK
  have hkk : nK (G 0 (q + 1)) = nI (G 1 (q + 1)) := by rw [hkd]; exact D.1
  have hx0 : xno (5 * G 0 (q + 1)) = nI (G 1 (q + 1)) := D.2.2.2.1.trans hkk
  have x1 : eN q = nI (G 0 (q + 1)) := X.1 q qK
  have x2 : eC q = nI (sm_ec G (q + 1)) := X.2.1 q qK
  rw [sm_ne10 (Nat.ne_of_gt (Nat.lt_of_lt_of_le (by decide) Lf.2.2.1))] at x2
  have x3 : eD q = nI (G 3 (q + 1)) := X.2.2.1 q qK
  have x4 : eT q = sm_p (G 6 (q + 1)) := X.2.2.2.1 q qK
  have x5 : eH q = sm_p (G 7 (q + 1)) := X.2.2.2.2.1 q qK
  have x6 : eR q = nI (G 8 (q + 1)) := X.2.2.2.2.2 q qK
  have Lp := I.2.2.1 (q + 1) (Nat.succ_pos q) lp
  have pq : ∀ p, G 4 (q + 1) = p + 1 → p < 1000 := fun p hp => sm_n3 qK1 (Nat.le_trans hK hlim) Lp.1 hp
  obtain ⟨l, hl1, hl2⟩ := sm_nd13 D (by rw [← hkd, k0]; decide)
  have hS : fS q = 0 := by rw [y4, st0]; rfl
  by_cases full : K = lim
  · exact sm_fin_xy (P' := P - 1) (u1 := (xms, nI lim, nI dl, xnc, xsd, nI n, xlr, xls, xle, nI K, sm_p (G 7 (q + 1)), nI (G 8 (q + 1)), 0, nI l, nI (G 2 (q + 1)), nI (G 3 (q + 1)), sm_p (G 6 (q + 1)), 3, xno, xsk, xrt, xsj, xtx, xtl, xcr, eN, eC, eD, eT, eH, eR, tE, tN)) (v1 := (yms, nI lim, nI dl, ync, ysp, nI n, ylr, yls, yle, nI K, nI K, nI q, 3, nI f, 3, nK, nA, nB, nL, nR, ysk, xrt, xsj, xtx, xtl, xcr, fN, fC, fD, upd fS q 1, fA, fB, fO, fP, fL, fM, tS, tG)) (fun post m i hi hl => sx_go2 hi (fun Q hQ => sx_2alt q250 x1 i32 hx0 x2 x5 x6 k0 x3 x4 (D.2.2.2.2.2.2.2.1.trans hl2) hQ) hl) (fun post m i hi hl => sy_go hi (fun Q hQ => sy_3alt q256 y1 i32 hkk y2 y3 k0 K256 (by omega) hl2 hS (fun _ => hQ) (fun z => absurd full z)) hl) (ih (P - 1) K G P1 vk ⟨rfl, hK, Or.inl ⟨full, rfl, rfl, by rw [full]⟩⟩) P1
  · obtain ⟨J, I0, lx0, ox0, top0, Y0, T0, N0, e0⟩ := sm_TC I lp op Y T N
    have ek0 : J 1 (q + 1) = 18 := by rw [e0 1 (by decide)]; exact k0
    obtain ⟨J2, I2, Y2, T2, N2, e2, s2, xx2⟩ := sm_TS (s := 1) I0 ox0 top0 Y0 T0 N0 (by rw [ek0]; decide)
    have ek : J2 1 (q + 1) = 18 := by rw [e2 1 (by decide)]; exact ek0
    obtain ⟨H, I1, E1, Y1, T1, N1, gx, h0, h2, h3, h6, h7, h8⟩ := sm_TA (nd := l) (dd := G 3 (q + 1)) (tk := J2 6 (q + 1)) (ch := J2 7 (q + 1)) I2 Y2 T2 N2 (by rw [e2 15 (by decide)]; exact lx0) (by rw [e2 16 (by decide)]; exact ox0) (by rw [e2 15 (by decide)]; exact top0) (by rw [ek]; decide) (fun z => absurd z (by rw [ek]; decide)) (fun _ => by rw [s2]; decide) (Nat.lt_trans hl1 hnd) (cx.2.2.1 l (Nat.lt_trans hl1 hnd)).2.2.1 hd8 (Or.inl ⟨Or.inr ek, rfl⟩) (Or.inr ⟨Or.inr (by rw [s2]; decide), rfl⟩)
    have q2 : J2 2 (q + 1) = G 2 (q + 1) := by rw [e2 2 (by decide), e0 2 (by decide)]
    have q6 : J2 6 (q + 1) = G 6 (q + 1) := by rw [e2 6 (by decide), e0 6 (by decide)]
    have q7 : J2 7 (q + 1) = G 7 (q + 1) := by rw [e2 7 (by decide), e0 7 (by decide)]
    have q8 : J2 8 (q + 1) = G 8 (q + 1) := by rw [e2 8 (by decide), e0 8 (by decide)]
    rw [q2] at Y1 h2
    rw [q6] at h6
    rw [q7] at h7
    rw [q8] at h8
    have X1 := gx _ _ _ _ _ _ (xx2 _ _ _ _ _ _ (sm_X_s X (fun i hi => e0 i (by omega))))
    exact sm_fin_xy (P' := P - 1) (u1 := (xms, nI lim, nI dl, xnc, xsd, nI n, xlr, xls, xle, nI K, sm_p (G 7 (q + 1)), nI (G 8 (q + 1)), 0, nI l, nI (G 2 (q + 1)), nI (G 3 (q + 1)), sm_p (G 6 (q + 1)), 3, xno, xsk, xrt, xsj, xtx, xtl, xcr, eN, eC, eD, eT, eH, eR, tE, tN)) (v1 := (yms, nI lim, nI dl, ync, ysp, nI n, ylr, yls, yle, nI (K + 1), nI (K + 1), nI K, 0, nI f, 0, nK, nA, nB, nL, nR, ysk, xrt, xsj, xtx, xtl, xcr, upd fN K (nI l), upd fC K (nI (G 2 (q + 1))), upd fD K (nI (G 3 (q + 1))), upd (upd fS q 1) K 0, upd (upd fA K (-1)) q (nI K), upd fB K (-1), upd fO K (-1), upd fP K (nI q), upd fL K (-1), upd fM K (-1), tS, tG)) (fun post m i hi hl => sx_go2 hi (fun Q hQ => sx_2alt q250 x1 i32 hx0 x2 x5 x6 k0 x3 x4 (D.2.2.2.2.2.2.2.1.trans hl2) hQ) hl) (fun post m i hi hl => sy_go hi (fun Q hQ => sy_3alt q256 y1 i32 hkk y2 y3 k0 K256 (by omega) hl2 hS (fun z => absurd z full) (fun _ => hQ)) hl) (ih (P - 1) (K + 1) H P1 vk ⟨rfl, (sm_j4 hP B.2.2.2.1 qf hK full hlim).1, Or.inr ⟨rfl, rfl, I1, Y1, T1, N1, Or.inl ⟨K, rfl, E1, rfl, rfl, rfl, X1, rfl, rfl, by rw [h0], by rw [h2], by rw [h3], by rw [h6], by rw [h7], by rw [h8], (sm_j4 hP B.2.2.2.1 qf hK full hlim).2⟩⟩⟩) P1
theorem sm_ev3 (cx : sm_cx n nc kn xno xrt nK nA nB nL nR) (hlim : lim ≤ 250) (ih : sm_IH xms xnc xsd xlr xls xle yms ync ysp ylr yls yle lim dl n nc kn xno xsk xrt xsj nK nA nB nL nR ysk tS tG P) (vk : sm_vok xtx xtl)
    {f q : Nat} (hK : K ≤ lim) (I : sm_inv K n G) (Y : sm_Y K G fN fC fD fS fA fB fO fP fL fM) (T : sm_T G tE tN) (N : sm_N K nc kn G) (E : sm_e3 K G (f + 1)) (hq : G 4 (f + 1) = q + 1)
    (X : sm_X K G eN eC eD eT eH eR) (hP : (250 - K) * 1300 + 260 + 3 * (f + 1) ≤ P + G 20 (q + 1)) :
    sm_fin xms xnc xsd xlr xls xle yms ync ysp ylr yls yle lim dl n nc kn xno xsk xrt xsj nK nA nB nL nR ysk tS tG P (xms, nI lim, nI dl, xnc, xsd, nI n, xlr, xls, xle, nI K, sm_p (G 7 (f + 1)), xtc, 2, xtn, xcu, xtd, xtt, 3, xno, xsk, xrt, xsj, xtx, xtl, xcr, eN, eC, eD, eT, eH, eR, tE, tN) (yms, nI lim, nI dl, ync, ysp, nI n, ylr, yls, yle, nI K, nI K, nI q, 3, nI f, 0, nK, nA, nB, nL, nR, ysk, xrt, xsj, xtx, xtl, xcr, fN, fC, fD, fS, fA, fB, fO, fP, fL, fM, tS, tG) := by
  have L := E.2.2.1
  rw [hq] at L
  have k12 := L.2.2.1
  have k18 := (I.2.1 _ L.2.1).2.2.2.2.1
  rcases L.2.2.2.2.2.2 with s0 | s1
  · obtain ⟨c1, c2, c3, c4, c5, c6⟩ := s0
    rcases c6 with ⟨k0, t0, t⟩ | ⟨k0, t⟩
    · rw [t, sm_ps]
      exact sm_3alt cx hlim ih vk hK I Y T N E hq X hP k0 t0
    · rw [t]
      exact sm_3exh cx hlim ih vk hK I Y T N E hq X hP ⟨k12, k18⟩ c1 (fun z => by have := L.2.2.2.2.2.1.2 z; omega) (by omega)
  · exact sm_3ask cx hlim ih vk hK I Y T N E hq X hP s1
end
