theorem sm_mm1 {K P h d x : Nat} (hP : (250 - K) * 1300 + 260 + 3 * h ≤ P + d) (hd : d ≤ x + 1) (hh : x + 1 < h) : P - 1 < P := by omega
theorem sm_m2 {K P h d d' x : Nat} (hP : (250 - K) * 1300 + 260 + 3 * h ≤ P + d) (hh : x + 1 < h) (hd : d = d' + 1) : (250 - K) * 1300 + 260 + 3 * (x + 1) ≤ P - 1 + d' := by omega
theorem sm_m3 {K P h d d' : Nat} (hP : (250 - K) * 1300 + 260 + 3 * h ≤ P + d) (hd : d' = d + 1) : (250 - K) * 1300 + 260 + 3 * h ≤ P - 1 + d' := by omega
theorem sm_m4 {K P h d d' x : Nat} (hP : (250 - K) * 1300 + 260 + 3 * h ≤ P + d) (hh : x + 1 < h) (hx : d ≤ x + 1) (hd : d = d' + 1) : (250 - K) * 1300 + d' + 1 ≤ P - 1 := by omega
theorem sm_m5 {K P h d x lim : Nat} (hP : (250 - K) * 1300 + 260 + 3 * h ≤ P + d) (hh : x + 1 < h) (hx : d ≤ x + 1) (hK : K ≤ lim) (hn : ¬ K = lim) (hl : lim ≤ 250) : K + 1 ≤ lim ∧ (250 - (K + 1)) * 1300 + 1280 ≤ P - 1 := by omega
theorem sm_ccm {K n f : Nat} {G : Nat → Nat → Nat} (I : sm_inv K n G) (hf : 1 ≤ f) (L : sm_lp G f (G 4 f)) : G 2 (G 4 f) ≤ G 2 f := by
  rcases L.2.2.2.2.2.2 with q | q
  · have := q.2.2.2.1; omega
  · obtain ⟨a1, a2, a3, a4, a5, a6, a7, a8, a9, a10, a11, a12, a13⟩ := q
    have LA := I.2.2.1 _ a9 a4
    rw [a8] at LA
    have z := (I.2.2.2.1 _ a4 a5).2.2.2.1
    rcases LA.2.2.2.2.2.2 with r | r
    · have := r.2.2.2.1; omega
    · have := r.1; omega
theorem sm_ne10 {G : Nat → Nat → Nat} {f : Nat} (h : G 1 f ≠ 10) : sm_ec G f = G 2 f := by unfold sm_ec; rw [if_neg h]
theorem sm_eq10 {G : Nat → Nat → Nat} {f : Nat} (h : G 1 f = 10) : sm_ec G f = G 9 f := by unfold sm_ec; rw [if_pos h]
section
variable {xms xnc xsd xlr xls xle yms ync ysp ylr yls yle : Int32} {lim dl n nc : Nat} {kn : Nat → Nat} {xno xsk xrt xsj nK nA nB nL nR ysk tS tG : Nat → Int32}
variable {xst xnw xtc xtu xtn xcu xtd xtt xsr yfc yst ycf yev yfr ydo : Int32} {xtx xtl xcr eN eC eD eT eH eR tE tN fN fC fD fS fA fB fO fP fL fM : Nat → Int32}
variable {P K : Nat} {G : Nat → Nat → Nat}

theorem sm_1leaf (cx : sm_cx n nc kn xno xrt nK nA nB nL nR) (hlim : lim ≤ 250) (ih : sm_IH xms xnc xsd xlr xls xle yms ync ysp ylr yls yle lim dl n nc kn xno xsk xrt xsj nK nA nB nL nR ysk tS tG P) (vk : sm_vok xtx xtl)
    {x : Nat} (hK : K ≤ lim) (I : sm_inv K n G) (Y : sm_Y K G fN fC fD fS fA fB fO fP fL fM) (T : sm_T G tE tN) (N : sm_N K nc kn G) (E : sm_e1 G (x + 1))
    (X : sm_X K G eN eC eD eT eH eR) (hP : (250 - K) * 1300 + 260 + 3 * G 17 (x + 1) ≤ P + G 20 (x + 1)) (k0 : G 1 (x + 1) ≤ 11 ∧ G 1 (x + 1) ≠ 10) (hac : G 18 (x + 1) = G 7 (x + 1)) :
    sm_fin xms xnc xsd xlr xls xle yms ync ysp ylr yls yle lim dl n nc kn xno xsk xrt xsj nK nA nB nL nR ysk tS tG P (xms, nI lim, nI dl, xnc, xsd, nI n, xlr, xls, xle, nI K, sm_p (G 18 (x + 1)), xtc, 2, xtn, xcu, xtd, xtt, 3, xno, xsk, xrt, xsj, xtx, xtl, xcr, eN, eC, eD, eT, eH, eR, tE, tN) (yms, nI lim, nI dl, ync, ysp, nI n, ylr, yls, yle, nI K, nI K, nI x, 1, yfr, 0, nK, nA, nB, nL, nR, ysk, xrt, xsj, xtx, xtl, xcr, fN, fC, fD, fS, fA, fB, fO, fP, fL, fM, tS, tG) := by
  have lx := E.2.1
  have fx := E.2.2.1
  have px := E.2.2.2.1
  have B := I.2.1 _ lx
  have xK1 : x + 1 ≤ K := B.1
  have xK : x < K := B.1
  have K256 : K < 256 := Nat.lt_of_le_of_lt (Nat.le_trans hK hlim) (by decide)
  have x250 : x < 250 := Nat.lt_of_lt_of_le xK (Nat.le_trans hK hlim)
  have x256 : x < 256 := Nat.lt_trans x250 (by decide)
  have F := I.2.2.2.1 _ lx fx
  have L := I.2.2.1 (x + 1) (Nat.succ_pos x) lx
  have P1 : P - 1 < P := sm_mm1 hP B.2.2.2.1 F.1
  have hnd := (N.2 (x + 1) (Nat.succ_pos x) xK1).1
  have hkd := (N.2 (x + 1) (Nat.succ_pos x) xK1).2.1
  have hd8 := (N.2 (x + 1) (Nat.succ_pos x) xK1).2.2
  have D := cx.2.2.1 _ hnd
  have i32 : G 0 (x + 1) < 32 := Nat.lt_of_lt_of_le hnd cx.1
  have y1 : fN x = nI (G 0 (x + 1)) := Y.1 x xK
  have y2 : fC x = nI (G 2 (x + 1)) := Y.2.1 x xK
  have y3 : fD x = nI (G 3 (x + 1)) := Y.2.2.1 x xK
  have y4 : fS x = nI (G 9 (x + 1)) := Y.2.2.2.1 x xK
  have y5 : fA x = sm_p (G 10 (x + 1)) := Y.2.2.2.2.1 x xK
  have y6 : fB x = sm_p (G 11 (x + 1)) := Y.2.2.2.2.2.1 x xK
  have y8 : fP x = sm_p (G 4 (x + 1)) := Y.2.2.2.2.2.2.2.1 x xK
  have hkk : nK (G 0 (x + 1)) = nI (G 1 (x + 1)) := by rw [hkd]; exact D.1
  have hx0 : xno (5 * G 0 (x + 1)) = nI (G 1 (x + 1)) := D.2.2.2.1.trans hkk
  have x1 : eN x = nI (G 0 (x + 1)) := X.1 x xK
  have x2 : eC x = nI (sm_ec G (x + 1)) := X.2.1 x xK
  have x3 : eD x = nI (G 3 (x + 1)) := X.2.2.1 x xK
  have x4 : eT x = sm_p (G 6 (x + 1)) := X.2.2.2.1 x xK
  have x5 : eH x = sm_p (G 7 (x + 1)) := X.2.2.2.2.1 x xK
  have x6 : eR x = nI (G 8 (x + 1)) := X.2.2.2.2.2 x xK
  have pq : ∀ q, G 4 (x + 1) = q + 1 → q < 1000 := fun q hq => sm_n3 xK1 (Nat.le_trans hK hlim) L.1 hq
  have c16 := cx.2.1
  have z4 := F.2.2.2.1
  have z5 := F.2.2.2.2.1
  obtain ⟨H, I1, E1, Y1, T1, N1, ge⟩ := sm_T3 I Y T N lx px
  have X1 : sm_X K H eN eC eD eT eH eR := sm_X_s X (fun i hi => ge i (by omega))
  have bd : (250 - K) * 1300 + 260 + 3 * (x + 1) ≤ P - 1 + H 20 (H 4 (x + 1)) := by rw [ge 4 (by decide), ge 20 (by decide)]; exact sm_m2 hP F.1 L.2.2.2.1
  by_cases q : G 4 (x + 1) = 0
  · rw [q, sm_p0] at y8
    exact sm_fin_y (P' := P - 1) (v1 := (yms, nI lim, nI dl, ync, ysp, nI n, ylr, yls, yle, nI K, nI K, nI x, 1, yfr, 2, nK, nA, nB, nL, nR, ysk, xrt, xsj, xtx, xtl, xcr, fN, fC, fD, fS, fA, fB, fO, fP, fL, fM, tS, tG)) (fun post m i hi hl => sy_go hi (fun Q hq => sy_1leaf x256 y1 i32 hkk y2 y3 k0 (Or.inl ⟨y8, hq⟩)) hl) (ih (P - 1) K H P1 vk ⟨rfl, hK, Or.inr ⟨rfl, rfl, I1, Y1, T1, N1, Or.inr (Or.inr (Or.inr ⟨x, E1, X1, rfl, rfl, by rw [ge 7 (by decide), hac], bd, Or.inl ⟨by rw [ge 4 (by decide)]; exact q, rfl⟩⟩))⟩⟩) P1
  · obtain ⟨q', hq'⟩ : ∃ q', G 4 (x + 1) = q' + 1 := ⟨G 4 (x + 1) - 1, (Nat.succ_pred_eq_of_ne_zero q).symm⟩
    have q9 := pq q' hq'
    rw [hq', sm_ps] at y8
    exact sm_fin_y (P' := P - 1) (v1 := (yms, nI lim, nI dl, ync, ysp, nI n, ylr, yls, yle, nI K, nI K, nI q', 3, nI x, 0, nK, nA, nB, nL, nR, ysk, xrt, xsj, xtx, xtl, xcr, fN, fC, fD, fS, fA, fB, fO, fP, fL, fM, tS, tG)) (fun post m i hi hl => sy_go hi (fun Q hq => sy_1leaf x256 y1 i32 hkk y2 y3 k0 (Or.inr ⟨q', q9, y8, hq⟩)) hl) (ih (P - 1) K H P1 vk ⟨rfl, hK, Or.inr ⟨rfl, rfl, I1, Y1, T1, N1, Or.inr (Or.inr (Or.inr ⟨x, E1, X1, rfl, rfl, by rw [ge 7 (by decide), hac], bd, Or.inr ⟨q', by rw [ge 4 (by decide)]; exact hq', rfl, rfl, rfl, rfl⟩⟩))⟩⟩) P1
theorem sm_1fence (cx : sm_cx n nc kn xno xrt nK nA nB nL nR) (hlim : lim ≤ 250) (ih : sm_IH xms xnc xsd xlr xls xle yms ync ysp ylr yls yle lim dl n nc kn xno xsk xrt xsj nK nA nB nL nR ysk tS tG P) (vk : sm_vok xtx xtl)
    {x : Nat} (hK : K ≤ lim) (I : sm_inv K n G) (Y : sm_Y K G fN fC fD fS fA fB fO fP fL fM) (T : sm_T G tE tN) (N : sm_N K nc kn G) (E : sm_e1 G (x + 1))
    (X : sm_X K G eN eC eD eT eH eR) (hP : (250 - K) * 1300 + 260 + 3 * G 17 (x + 1) ≤ P + G 20 (x + 1)) (k0 : G 1 (x + 1) = 14) (hac : G 18 (x + 1) = G 7 (x + 1)) :
    sm_fin xms xnc xsd xlr xls xle yms ync ysp ylr yls yle lim dl n nc kn xno xsk xrt xsj nK nA nB nL nR ysk tS tG P (xms, nI lim, nI dl, xnc, xsd, nI n, xlr, xls, xle, nI K, sm_p (G 18 (x + 1)), xtc, 2, xtn, xcu, xtd, xtt, 3, xno, xsk, xrt, xsj, xtx, xtl, xcr, eN, eC, eD, eT, eH, eR, tE, tN) (yms, nI lim, nI dl, ync, ysp, nI n, ylr, yls, yle, nI K, nI K, nI x, 1, yfr, 0, nK, nA, nB, nL, nR, ysk, xrt, xsj, xtx, xtl, xcr, fN, fC, fD, fS, fA, fB, fO, fP, fL, fM, tS, tG) := by
  have lx := E.2.1
  have fx := E.2.2.1
  have px := E.2.2.2.1
  have B := I.2.1 _ lx
  have xK1 : x + 1 ≤ K := B.1
  have xK : x < K := B.1
  have K256 : K < 256 := Nat.lt_of_le_of_lt (Nat.le_trans hK hlim) (by decide)
  have x250 : x < 250 := Nat.lt_of_lt_of_le xK (Nat.le_trans hK hlim)
  have x256 : x < 256 := Nat.lt_trans x250 (by decide)
  have F := I.2.2.2.1 _ lx fx
  have L := I.2.2.1 (x + 1) (Nat.succ_pos x) lx
  have P1 : P - 1 < P := sm_mm1 hP B.2.2.2.1 F.1
  have hnd := (N.2 (x + 1) (Nat.succ_pos x) xK1).1
  have hkd := (N.2 (x + 1) (Nat.succ_pos x) xK1).2.1
  have hd8 := (N.2 (x + 1) (Nat.succ_pos x) xK1).2.2
  have D := cx.2.2.1 _ hnd
  have i32 : G 0 (x + 1) < 32 := Nat.lt_of_lt_of_le hnd cx.1
  have y1 : fN x = nI (G 0 (x + 1)) := Y.1 x xK
  have y2 : fC x = nI (G 2 (x + 1)) := Y.2.1 x xK
  have y3 : fD x = nI (G 3 (x + 1)) := Y.2.2.1 x xK
  have y4 : fS x = nI (G 9 (x + 1)) := Y.2.2.2.1 x xK
  have y5 : fA x = sm_p (G 10 (x + 1)) := Y.2.2.2.2.1 x xK
  have y6 : fB x = sm_p (G 11 (x + 1)) := Y.2.2.2.2.2.1 x xK
  have y8 : fP x = sm_p (G 4 (x + 1)) := Y.2.2.2.2.2.2.2.1 x xK
  have hkk : nK (G 0 (x + 1)) = nI (G 1 (x + 1)) := by rw [hkd]; exact D.1
  have hx0 : xno (5 * G 0 (x + 1)) = nI (G 1 (x + 1)) := D.2.2.2.1.trans hkk
  have x1 : eN x = nI (G 0 (x + 1)) := X.1 x xK
  have x2 : eC x = nI (sm_ec G (x + 1)) := X.2.1 x xK
  have x3 : eD x = nI (G 3 (x + 1)) := X.2.2.1 x xK
  have x4 : eT x = sm_p (G 6 (x + 1)) := X.2.2.2.1 x xK
  have x5 : eH x = sm_p (G 7 (x + 1)) := X.2.2.2.2.1 x xK
  have x6 : eR x = nI (G 8 (x + 1)) := X.2.2.2.2.2 x xK
  have pq : ∀ q, G 4 (x + 1) = q + 1 → q < 1000 := fun q hq => sm_n3 xK1 (Nat.le_trans hK hlim) L.1 hq
  have c16 := cx.2.1
  have z4 := F.2.2.2.1
  have z5 := F.2.2.2.2.1
  obtain ⟨H, I1, E1, Y1, T1, N1, ge⟩ := sm_T3 I Y T N lx px
  have X1 : sm_X K H eN eC eD eT eH eR := sm_X_s X (fun i hi => ge i (by omega))
  have bd : (250 - K) * 1300 + 260 + 3 * (x + 1) ≤ P - 1 + H 20 (H 4 (x + 1)) := by rw [ge 4 (by decide), ge 20 (by decide)]; exact sm_m2 hP F.1 L.2.2.2.1
  by_cases q : G 4 (x + 1) = 0
  · rw [q, sm_p0] at y8
    exact sm_fin_y (P' := P - 1) (v1 := (yms, nI lim, nI dl, ync, ysp, nI n, ylr, yls, yle, nI K, nI K, nI x, 1, yfr, 2, nK, nA, nB, nL, nR, ysk, xrt, xsj, xtx, xtl, xcr, fN, fC, fD, fS, fA, fB, fO, fP, fL, fM, tS, tG)) (fun post m i hi hl => sy_go hi (fun Q hq => sy_1fence x256 y1 i32 hkk y2 y3 k0 (Or.inl ⟨y8, hq⟩)) hl) (ih (P - 1) K H P1 vk ⟨rfl, hK, Or.inr ⟨rfl, rfl, I1, Y1, T1, N1, Or.inr (Or.inr (Or.inr ⟨x, E1, X1, rfl, rfl, by rw [ge 7 (by decide), hac], bd, Or.inl ⟨by rw [ge 4 (by decide)]; exact q, rfl⟩⟩))⟩⟩) P1
  · obtain ⟨q', hq'⟩ : ∃ q', G 4 (x + 1) = q' + 1 := ⟨G 4 (x + 1) - 1, (Nat.succ_pred_eq_of_ne_zero q).symm⟩
    have q9 := pq q' hq'
    rw [hq', sm_ps] at y8
    exact sm_fin_y (P' := P - 1) (v1 := (yms, nI lim, nI dl, ync, ysp, nI n, ylr, yls, yle, nI K, nI K, nI q', 3, nI x, 0, nK, nA, nB, nL, nR, ysk, xrt, xsj, xtx, xtl, xcr, fN, fC, fD, fS, fA, fB, fO, fP, fL, fM, tS, tG)) (fun post m i hi hl => sy_go hi (fun Q hq => sy_1fence x256 y1 i32 hkk y2 y3 k0 (Or.inr ⟨q', q9, y8, hq⟩)) hl) (ih (P - 1) K H P1 vk ⟨rfl, hK, Or.inr ⟨rfl, rfl, I1, Y1, T1, N1, Or.inr (Or.inr (Or.inr ⟨x, E1, X1, rfl, rfl, by rw [ge 7 (by decide), hac], bd, Or.inr ⟨q', by rw [ge 4 (by decide)]; exact hq', rfl, rfl, rfl, rfl⟩⟩))⟩⟩) P1
theorem sm_1arb (cx : sm_cx n nc kn xno xrt nK nA nB nL nR) (hlim : lim ≤ 250) (ih : sm_IH xms xnc xsd xlr xls xle yms ync ysp ylr yls yle lim dl n nc kn xno xsk xrt xsj nK nA nB nL nR ysk tS tG P) (vk : sm_vok xtx xtl)
    {x : Nat} (hK : K ≤ lim) (I : sm_inv K n G) (Y : sm_Y K G fN fC fD fS fA fB fO fP fL fM) (T : sm_T G tE tN) (N : sm_N K nc kn G) (E : sm_e1 G (x + 1))
    (X : sm_X K G eN eC eD eT eH eR) (hP : (250 - K) * 1300 + 260 + 3 * G 17 (x + 1) ≤ P + G 20 (x + 1)) (k0 : G 1 (x + 1) = 10) (f0 : sm_f0 G (x + 1)) (so : G 9 (x + 1) = G 12 (x + 1)) :
    sm_fin xms xnc xsd xlr xls xle yms ync ysp ylr yls yle lim dl n nc kn xno xsk xrt xsj nK nA nB nL nR ysk tS tG P (xms, nI lim, nI dl, xnc, xsd, nI n, xlr, xls, xle, nI K, nI x, xtc, 2, xtn, xcu, xtd, xtt, 3, xno, xsk, xrt, xsj, xtx, xtl, xcr, eN, eC, eD, eT, eH, eR, tE, tN) (yms, nI lim, nI dl, ync, ysp, nI n, ylr, yls, yle, nI K, nI K, nI x, 1, yfr, 0, nK, nA, nB, nL, nR, ysk, xrt, xsj, xtx, xtl, xcr, fN, fC, fD, fS, fA, fB, fO, fP, fL, fM, tS, tG) := by
  have lx := E.2.1
  have fx := E.2.2.1
  have px := E.2.2.2.1
  have B := I.2.1 _ lx
  have xK1 : x + 1 ≤ K := B.1
  have xK : x < K := B.1
  have K256 : K < 256 := Nat.lt_of_le_of_lt (Nat.le_trans hK hlim) (by decide)
  have x250 : x < 250 := Nat.lt_of_lt_of_le xK (Nat.le_trans hK hlim)
  have x256 : x < 256 := Nat.lt_trans x250 (by decide)
  have F := I.2.2.2.1 _ lx fx
  have L := I.2.2.1 (x + 1) (Nat.succ_pos x) lx
  have P1 : P - 1 < P := sm_mm1 hP B.2.2.2.1 F.1
  have hnd := (N.2 (x + 1) (Nat.succ_pos x) xK1).1
  have hkd := (N.2 (x + 1) (Nat.succ_pos x) xK1).2.1
  have hd8 := (N.2 (x + 1) (Nat.succ_pos x) xK1).2.2
  have D := cx.2.2.1 _ hnd
  have i32 : G 0 (x + 1) < 32 := Nat.lt_of_lt_of_le hnd cx.1
  have y1 : fN x = nI (G 0 (x + 1)) := Y.1 x xK
  have y2 : fC x = nI (G 2 (x + 1)) := Y.2.1 x xK
  have y3 : fD x = nI (G 3 (x + 1)) := Y.2.2.1 x xK
  have y4 : fS x = nI (G 9 (x + 1)) := Y.2.2.2.1 x xK
  have y5 : fA x = sm_p (G 10 (x + 1)) := Y.2.2.2.2.1 x xK
  have y6 : fB x = sm_p (G 11 (x + 1)) := Y.2.2.2.2.2.1 x xK
  have y8 : fP x = sm_p (G 4 (x + 1)) := Y.2.2.2.2.2.2.2.1 x xK
  have hkk : nK (G 0 (x + 1)) = nI (G 1 (x + 1)) := by rw [hkd]; exact D.1
  have hx0 : xno (5 * G 0 (x + 1)) = nI (G 1 (x + 1)) := D.2.2.2.1.trans hkk
  have x1 : eN x = nI (G 0 (x + 1)) := X.1 x xK
  have x2 : eC x = nI (sm_ec G (x + 1)) := X.2.1 x xK
  have x3 : eD x = nI (G 3 (x + 1)) := X.2.2.1 x xK
  have x4 : eT x = sm_p (G 6 (x + 1)) := X.2.2.2.1 x xK
  have x5 : eH x = sm_p (G 7 (x + 1)) := X.2.2.2.2.1 x xK
  have x6 : eR x = nI (G 8 (x + 1)) := X.2.2.2.2.2 x xK
  have pq : ∀ q, G 4 (x + 1) = q + 1 → q < 1000 := fun q hq => sm_n3 xK1 (Nat.le_trans hK hlim) L.1 hq
  have c16 := cx.2.1
  have z4 := F.2.2.2.1
  have z5 := F.2.2.2.2.1
  rw [sm_eq10 k0] at x2
  by_cases st : G 9 (x + 1) < n
  · obtain ⟨J, I0, lx0, ox0, top0, Y0, T0, N0, e0⟩ := sm_TT I E Y T N
    obtain ⟨H, I1, E1, Y1, T1, N1, g8, g9, gs, go, ga, gt, gd⟩ := sm_T2 (v := G 9 (x + 1) + 1) (s := G 9 (x + 1) + 1) (a := x + 1) (fS' := upd fS x (nI (G 9 (x + 1) + 1))) I0 Y0 T0 N0 lx0 ox0 top0 (by rw [e0 2 (by decide) (by decide)]; omega) st (by rw [e0 13 (by decide) (by decide)]; exact f0.2.1) (by rw [e0 14 (by decide) (by decide)]; exact f0.2.2.1) (Or.inr rfl) (Or.inr (Or.inl ⟨by rw [e0 1 (by decide) (by decide)]; exact k0, rfl, rfl⟩))
    have X1 : sm_X K H eN (upd eC x (nI (G 9 (x + 1) + 1))) eD eT eH eR := sm_X_arb X (fun i g hi => by rw [g8 i g hi, e0 i (by omega) (by omega)]) (fun g hg => by rw [g9 g hg, e0 9 (by decide) (by decide)]) k0 gs
    have bd : (250 - K) * 1300 + H 20 (H 4 (x + 1)) + 1 ≤ P - 1 := by rw [g8 4 _ (by decide), gd, e0 4 (by decide) (by decide), e0 20 (by decide) (by decide)]; exact sm_m4 hP F.1 B.2.2.2.1 L.2.2.2.1
    have sc : H 2 (H 4 (x + 1)) < H 12 (x + 1) := by
      rw [g8 4 _ (by decide), g8 2 _ (by decide), go, e0 4 (by decide) (by decide), e0 2 (by decide) (by decide)]
      have := sm_ccm (f := x + 1) I (Nat.succ_pos x) L
      omega
    by_cases q : G 4 (x + 1) = 0
    · rw [q, sm_p0] at y8
      exact sm_fin_xy (P' := P - 1) (u1 := (xms, nI lim, nI dl, xnc, xsd, nI n, xlr, xls, xle, nI K, nI x, nI (G 8 (x + 1)), 1, xtn, nI (G 9 (x + 1) + 1), xtd, sm_p (G 6 (x + 1)), 3, xno, xsk, xrt, xsj, xtx, xtl, xcr, eN, upd eC x (nI (G 9 (x + 1) + 1)), eD, eT, eH, eR, tE, tN)) (v1 := (yms, nI lim, nI dl, ync, ysp, nI n, ylr, yls, yle, nI K, nI K, nI x, 1, yfr, 1, nK, nA, nB, nL, nR, ysk, xrt, xsj, xtx, xtl, xcr, fN, fC, fD, upd fS x (nI (G 9 (x + 1) + 1)), fA, fB, upd fO x (nI (G 9 (x + 1) + 1)), fP, fL, fM, tS, tG)) (fun post m i hi hl => sx_go2 hi (fun Q hq => sx_2arby x250 x1 i32 hx0 x2 x5 x6 k0 x4 st (by omega) hq) hl) (fun post m i hi hl => sy_go hi (fun Q hq => sy_1arby x256 y1 i32 hkk y2 y3 k0 y4 (by omega) st (Or.inl ⟨y8, hq⟩)) hl) (ih (P - 1) K H P1 vk ⟨rfl, hK, Or.inr ⟨rfl, rfl, I1, Y1, T1, N1, Or.inr (Or.inr (Or.inl ⟨x, E1, X1, rfl, rfl, by rw [go], by rw [g8 6 _ (by decide), e0 6 (by decide) (by decide)], by rw [ga, sm_ps], by rw [gt, e0 8 (by decide) (by decide)], Or.inl ⟨sc, bd⟩, Or.inl ⟨by rw [g8 4 _ (by decide), e0 4 (by decide) (by decide)]; exact q, rfl⟩⟩))⟩⟩) P1
    · obtain ⟨q', hq'⟩ : ∃ q', G 4 (x + 1) = q' + 1 := ⟨G 4 (x + 1) - 1, (Nat.succ_pred_eq_of_ne_zero q).symm⟩
      have q9 := pq q' hq'
      rw [hq', sm_ps] at y8
      exact sm_fin_xy (P' := P - 1) (u1 := (xms, nI lim, nI dl, xnc, xsd, nI n, xlr, xls, xle, nI K, nI x, nI (G 8 (x + 1)), 1, xtn, nI (G 9 (x + 1) + 1), xtd, sm_p (G 6 (x + 1)), 3, xno, xsk, xrt, xsj, xtx, xtl, xcr, eN, upd eC x (nI (G 9 (x + 1) + 1)), eD, eT, eH, eR, tE, tN)) (v1 := (yms, nI lim, nI dl, ync, ysp, nI n, ylr, yls, yle, nI K, nI K, nI q', 2, nI x, 0, nK, nA, nB, nL, nR, ysk, xrt, xsj, xtx, xtl, xcr, fN, fC, fD, upd fS x (nI (G 9 (x + 1) + 1)), fA, fB, upd fO x (nI (G 9 (x + 1) + 1)), fP, fL, fM, tS, tG)) (fun post m i hi hl => sx_go2 hi (fun Q hq => sx_2arby x250 x1 i32 hx0 x2 x5 x6 k0 x4 st (by omega) hq) hl) (fun post m i hi hl => sy_go hi (fun Q hq => sy_1arby x256 y1 i32 hkk y2 y3 k0 y4 (by omega) st (Or.inr ⟨q', q9, y8, hq⟩)) hl) (ih (P - 1) K H P1 vk ⟨rfl, hK, Or.inr ⟨rfl, rfl, I1, Y1, T1, N1, Or.inr (Or.inr (Or.inl ⟨x, E1, X1, rfl, rfl, by rw [go], by rw [g8 6 _ (by decide), e0 6 (by decide) (by decide)], by rw [ga, sm_ps], by rw [gt, e0 8 (by decide) (by decide)], Or.inl ⟨sc, bd⟩, Or.inr ⟨q', by rw [g8 4 _ (by decide), e0 4 (by decide) (by decide)]; exact hq', rfl, rfl, rfl, rfl⟩⟩))⟩⟩) P1
  · have sn : n ≤ G 9 (x + 1) := Nat.le_of_not_lt st
    have s1000 : G 9 (x + 1) < 1000 := by omega
    obtain ⟨H, I1, E1, Y1, T1, N1, ge⟩ := sm_T3 I Y T N lx px
    have X1 : sm_X K H eN eC eD eT eH eR := sm_X_s X (fun i hi => ge i (by omega))
    have bd : (250 - K) * 1300 + 260 + 3 * (x + 1) ≤ P - 1 + H 20 (H 4 (x + 1)) := by rw [ge 4 (by decide), ge 20 (by decide)]; exact sm_m2 hP F.1 L.2.2.2.1
    by_cases q : G 4 (x + 1) = 0
    · rw [q, sm_p0] at y8
      exact sm_fin_xy (P' := P - 1) (u1 := (xms, nI lim, nI dl, xnc, xsd, nI n, xlr, xls, xle, nI K, sm_p (G 7 (x + 1)), nI (G 8 (x + 1)), 2, xtn, xcu, xtd, xtt, 3, xno, xsk, xrt, xsj, xtx, xtl, xcr, eN, eC, eD, eT, eH, eR, tE, tN)) (v1 := (yms, nI lim, nI dl, ync, ysp, nI n, ylr, yls, yle, nI K, nI K, nI x, 1, yfr, 2, nK, nA, nB, nL, nR, ysk, xrt, xsj, xtx, xtl, xcr, fN, fC, fD, fS, fA, fB, fO, fP, fL, fM, tS, tG)) (fun post m i hi hl => sx_go2 hi (fun Q hq => sx_2arbx x250 x1 i32 hx0 x2 x5 x6 k0 sn s1000 hq) hl) (fun post m i hi hl => sy_go hi (fun Q hq => sy_1arbx x256 y1 i32 hkk y2 y3 k0 y4 (by omega) sn s1000 (Or.inl ⟨y8, hq⟩)) hl) (ih (P - 1) K H P1 vk ⟨rfl, hK, Or.inr ⟨rfl, rfl, I1, Y1, T1, N1, Or.inr (Or.inr (Or.inr ⟨x, E1, X1, rfl, rfl, by rw [ge 7 (by decide)], bd, Or.inl ⟨by rw [ge 4 (by decide)]; exact q, rfl⟩⟩))⟩⟩) P1
    · obtain ⟨q', hq'⟩ : ∃ q', G 4 (x + 1) = q' + 1 := ⟨G 4 (x + 1) - 1, (Nat.succ_pred_eq_of_ne_zero q).symm⟩
      have q9 := pq q' hq'
      rw [hq', sm_ps] at y8
      exact sm_fin_xy (P' := P - 1) (u1 := (xms, nI lim, nI dl, xnc, xsd, nI n, xlr, xls, xle, nI K, sm_p (G 7 (x + 1)), nI (G 8 (x + 1)), 2, xtn, xcu, xtd, xtt, 3, xno, xsk, xrt, xsj, xtx, xtl, xcr, eN, eC, eD, eT, eH, eR, tE, tN)) (v1 := (yms, nI lim, nI dl, ync, ysp, nI n, ylr, yls, yle, nI K, nI K, nI q', 3, nI x, 0, nK, nA, nB, nL, nR, ysk, xrt, xsj, xtx, xtl, xcr, fN, fC, fD, fS, fA, fB, fO, fP, fL, fM, tS, tG)) (fun post m i hi hl => sx_go2 hi (fun Q hq => sx_2arbx x250 x1 i32 hx0 x2 x5 x6 k0 sn s1000 hq) hl) (fun post m i hi hl => sy_go hi (fun Q hq => sy_1arbx x256 y1 i32 hkk y2 y3 k0 y4 (by omega) sn s1000 (Or.inr ⟨q', q9, y8, hq⟩)) hl) (ih (P - 1) K H P1 vk ⟨rfl, hK, Or.inr ⟨rfl, rfl, I1, Y1, T1, N1, Or.inr (Or.inr (Or.inr ⟨x, E1, X1, rfl, rfl, by rw [ge 7 (by decide)], bd, Or.inr ⟨q', by rw [ge 4 (by decide)]; exact hq', rfl, rfl, rfl, rfl⟩⟩))⟩⟩) P1
theorem sm_1arbno (cx : sm_cx n nc kn xno xrt nK nA nB nL nR) (hlim : lim ≤ 250) (ih : sm_IH xms xnc xsd xlr xls xle yms ync ysp ylr yls yle lim dl n nc kn xno xsk xrt xsj nK nA nB nL nR ysk tS tG P) (vk : sm_vok xtx xtl)
    {x : Nat} (hK : K ≤ lim) (I : sm_inv K n G) (Y : sm_Y K G fN fC fD fS fA fB fO fP fL fM) (T : sm_T G tE tN) (N : sm_N K nc kn G) (E : sm_e1 G (x + 1))
    (X : sm_X K G eN eC eD eT eH eR) (hP : (250 - K) * 1300 + 260 + 3 * G 17 (x + 1) ≤ P + G 20 (x + 1)) (k0 : G 1 (x + 1) = 13) (st1 : G 9 (x + 1) = 1) :
    sm_fin xms xnc xsd xlr xls xle yms ync ysp ylr yls yle lim dl n nc kn xno xsk xrt xsj nK nA nB nL nR ysk tS tG P (xms, nI lim, nI dl, xnc, xsd, nI n, xlr, xls, xle, nI K, nI x, xtc, 2, xtn, xcu, xtd, xtt, 3, xno, xsk, xrt, xsj, xtx, xtl, xcr, eN, eC, eD, eT, eH, eR, tE, tN) (yms, nI lim, nI dl, ync, ysp, nI n, ylr, yls, yle, nI K, nI K, nI x, 1, yfr, 0, nK, nA, nB, nL, nR, ysk, xrt, xsj, xtx, xtl, xcr, fN, fC, fD, fS, fA, fB, fO, fP, fL, fM, tS, tG) := by
  have lx := E.2.1
  have fx := E.2.2.1
  have px := E.2.2.2.1
  have B := I.2.1 _ lx
  have xK1 : x + 1 ≤ K := B.1
  have xK : x < K := B.1
  have K256 : K < 256 := Nat.lt_of_le_of_lt (Nat.le_trans hK hlim) (by decide)
  have x250 : x < 250 := Nat.lt_of_lt_of_le xK (Nat.le_trans hK hlim)
  have x256 : x < 256 := Nat.lt_trans x250 (by decide)
  have F := I.2.2.2.1 _ lx fx
  have L := I.2.2.1 (x + 1) (Nat.succ_pos x) lx
  have P1 : P - 1 < P := sm_mm1 hP B.2.2.2.1 F.1
  have hnd := (N.2 (x + 1) (Nat.succ_pos x) xK1).1
  have hkd := (N.2 (x + 1) (Nat.succ_pos x) xK1).2.1
  have hd8 := (N.2 (x + 1) (Nat.succ_pos x) xK1).2.2
  have D := cx.2.2.1 _ hnd
  have i32 : G 0 (x + 1) < 32 := Nat.lt_of_lt_of_le hnd cx.1
  have y1 : fN x = nI (G 0 (x + 1)) := Y.1 x xK
  have y2 : fC x = nI (G 2 (x + 1)) := Y.2.1 x xK
  have y3 : fD x = nI (G 3 (x + 1)) := Y.2.2.1 x xK
  have y4 : fS x = nI (G 9 (x + 1)) := Y.2.2.2.1 x xK
  have y5 : fA x = sm_p (G 10 (x + 1)) := Y.2.2.2.2.1 x xK
  have y6 : fB x = sm_p (G 11 (x + 1)) := Y.2.2.2.2.2.1 x xK
  have y8 : fP x = sm_p (G 4 (x + 1)) := Y.2.2.2.2.2.2.2.1 x xK
  have hkk : nK (G 0 (x + 1)) = nI (G 1 (x + 1)) := by rw [hkd]; exact D.1
  have hx0 : xno (5 * G 0 (x + 1)) = nI (G 1 (x + 1)) := D.2.2.2.1.trans hkk
  have x1 : eN x = nI (G 0 (x + 1)) := X.1 x xK
  have x2 : eC x = nI (sm_ec G (x + 1)) := X.2.1 x xK
  have x3 : eD x = nI (G 3 (x + 1)) := X.2.2.1 x xK
  have x4 : eT x = sm_p (G 6 (x + 1)) := X.2.2.2.1 x xK
  have x5 : eH x = sm_p (G 7 (x + 1)) := X.2.2.2.2.1 x xK
  have x6 : eR x = nI (G 8 (x + 1)) := X.2.2.2.2.2 x xK
  have pq : ∀ q, G 4 (x + 1) = q + 1 → q < 1000 := fun q hq => sm_n3 xK1 (Nat.le_trans hK hlim) L.1 hq
  have c16 := cx.2.1
  have z4 := F.2.2.2.1
  have z5 := F.2.2.2.2.1
  rw [sm_ne10 (by rw [k0]; decide)] at x2
  obtain ⟨l, hl1, hl2⟩ := sm_nd12 D (by rw [← hkd, k0]; decide)
  have hS : fS x = 1 := by rw [y4, st1]; rfl
  by_cases full : K = lim
  · exact sm_fin_xy (P' := P - 1) (u1 := (xms, nI lim, nI dl, xnc, xsd, nI n, xlr, xls, xle, nI K, sm_p (G 7 (x + 1)), nI (G 8 (x + 1)), 0, nI l, nI (G 2 (x + 1)), nI (G 3 (x + 1)), nI x, 3, xno, xsk, xrt, xsj, xtx, xtl, xcr, eN, eC, eD, eT, eH, eR, tE, tN)) (v1 := (yms, nI lim, nI dl, ync, ysp, nI n, ylr, yls, yle, nI K, nI K, nI x, 1, yfr, 3, nK, nA, nB, nL, nR, ysk, xrt, xsj, xtx, xtl, xcr, fN, fC, fD, upd fS x 2, fA, fB, fO, fP, fL, fM, tS, tG)) (fun post m i hi hl => sx_go2 hi (fun Q hq => sx_2arbno x250 x1 i32 hx0 x2 x5 x6 k0 x3 (D.2.2.2.2.2.2.1.trans hl2) hq) hl) (fun post m i hi hl => sy_go hi (fun Q hq => sy_1arbno x256 y1 i32 hkk y2 y3 k0 K256 (by omega) hl2 hS (fun _ => hq) (fun z => absurd full z)) hl) (ih (P - 1) K G P1 vk ⟨rfl, hK, Or.inl ⟨full, rfl, rfl, by rw [full]⟩⟩) P1
  · obtain ⟨J, I0, lx0, ox0, top0, Y0, T0, N0, e0⟩ := sm_TT I E Y T N
    have ek0 : J 1 (x + 1) = 13 := by rw [e0 1 (by decide) (by decide)]; exact k0
    obtain ⟨J2, I2, Y2, T2, N2, e2, s2, xx2⟩ := sm_TS (s := 2) I0 ox0 top0 Y0 T0 N0 (by rw [ek0]; decide)
    have ek : J2 1 (x + 1) = 13 := by rw [e2 1 (by decide)]; exact ek0
    obtain ⟨H, I1, E1, Y1, T1, N1, gx, h0, h2, h3, h6, h7, h8⟩ := sm_TA (nd := l) (dd := G 3 (x + 1)) (tk := x + 1) (ch := J2 7 (x + 1)) I2 Y2 T2 N2 (by rw [e2 15 (by decide)]; exact lx0) (by rw [e2 16 (by decide)]; exact ox0) (by rw [e2 15 (by decide)]; exact top0) (by rw [ek]; decide) (fun _ => s2) (fun z => absurd z (by rw [ek]; decide)) (Nat.lt_trans hl1 hnd) (cx.2.2.1 l (Nat.lt_trans hl1 hnd)).2.2.1 hd8 (Or.inr ⟨by rw [ek]; decide, by rw [ek]; decide, rfl⟩) (Or.inr ⟨Or.inl (by rw [ek]; decide), rfl⟩)
    have q2 : J2 2 (x + 1) = G 2 (x + 1) := by rw [e2 2 (by decide), e0 2 (by decide) (by decide)]
    have q7 : J2 7 (x + 1) = G 7 (x + 1) := by rw [e2 7 (by decide), e0 7 (by decide) (by decide)]
    have q8 : J2 8 (x + 1) = G 8 (x + 1) := by rw [e2 8 (by decide), e0 8 (by decide) (by decide)]
    rw [q2] at Y1 h2
    rw [q7] at h7
    rw [q8] at h8
    have X1 := gx _ _ _ _ _ _ (xx2 _ _ _ _ _ _ (sm_X_s X (fun i hi => e0 i (by omega) (by omega))))
    exact sm_fin_xy (P' := P - 1) (u1 := (xms, nI lim, nI dl, xnc, xsd, nI n, xlr, xls, xle, nI K, sm_p (G 7 (x + 1)), nI (G 8 (x + 1)), 0, nI l, nI (G 2 (x + 1)), nI (G 3 (x + 1)), nI x, 3, xno, xsk, xrt, xsj, xtx, xtl, xcr, eN, eC, eD, eT, eH, eR, tE, tN)) (v1 := (yms, nI lim, nI dl, ync, ysp, nI n, ylr, yls, yle, nI (K + 1), nI (K + 1), nI K, 0, yfr, 0, nK, nA, nB, nL, nR, ysk, xrt, xsj, xtx, xtl, xcr, upd fN K (nI l), upd fC K (nI (G 2 (x + 1))), upd fD K (nI (G 3 (x + 1))), upd (upd fS x 2) K 0, upd (upd fA K (-1)) x (nI K), upd fB K (-1), upd fO K (-1), upd fP K (nI x), upd fL K (-1), upd fM K (-1), tS, tG)) (fun post m i hi hl => sx_go2 hi (fun Q hq => sx_2arbno x250 x1 i32 hx0 x2 x5 x6 k0 x3 (D.2.2.2.2.2.2.1.trans hl2) hq) hl) (fun post m i hi hl => sy_go hi (fun Q hq => sy_1arbno x256 y1 i32 hkk y2 y3 k0 K256 (by omega) hl2 hS (fun z => absurd z full) (fun _ => hq)) hl) (ih (P - 1) (K + 1) H P1 vk ⟨rfl, (sm_m5 hP F.1 B.2.2.2.1 hK full hlim).1, Or.inr ⟨rfl, rfl, I1, Y1, T1, N1, Or.inl ⟨K, rfl, E1, rfl, rfl, rfl, X1, rfl, rfl, by rw [h0], by rw [h2], by rw [h3], by rw [h6, sm_ps], by rw [h7], by rw [h8], (sm_m5 hP F.1 B.2.2.2.1 hK full hlim).2⟩⟩⟩) P1
theorem sm_1cat (cx : sm_cx n nc kn xno xrt nK nA nB nL nR) (hlim : lim ≤ 250) (ih : sm_IH xms xnc xsd xlr xls xle yms ync ysp ylr yls yle lim dl n nc kn xno xsk xrt xsj nK nA nB nL nR ysk tS tG P) (vk : sm_vok xtx xtl)
    {x : Nat} (hK : K ≤ lim) (I : sm_inv K n G) (Y : sm_Y K G fN fC fD fS fA fB fO fP fL fM) (T : sm_T G tE tN) (N : sm_N K nc kn G) (E : sm_e1 G (x + 1))
    (X : sm_X K G eN eC eD eT eH eR) (hP : (250 - K) * 1300 + 260 + 3 * G 17 (x + 1) ≤ P + G 20 (x + 1)) (k0 : G 1 (x + 1) = 17) (ck : sm_ck G (x + 1) (G 11 (x + 1))) (hac : G 18 (x + 1) = G 18 (G 11 (x + 1))) :
    sm_fin xms xnc xsd xlr xls xle yms ync ysp ylr yls yle lim dl n nc kn xno xsk xrt xsj nK nA nB nL nR ysk tS tG P (xms, nI lim, nI dl, xnc, xsd, nI n, xlr, xls, xle, nI K, sm_p (G 18 (x + 1)), xtc, 2, xtn, xcu, xtd, xtt, 3, xno, xsk, xrt, xsj, xtx, xtl, xcr, eN, eC, eD, eT, eH, eR, tE, tN) (yms, nI lim, nI dl, ync, ysp, nI n, ylr, yls, yle, nI K, nI K, nI x, 1, yfr, 0, nK, nA, nB, nL, nR, ysk, xrt, xsj, xtx, xtl, xcr, fN, fC, fD, fS, fA, fB, fO, fP, fL, fM, tS, tG) := by
  have lx := E.2.1
  have fx := E.2.2.1
  have px := E.2.2.2.1
  have B := I.2.1 _ lx
  have xK1 : x + 1 ≤ K := B.1
  have xK : x < K := B.1
  have K256 : K < 256 := Nat.lt_of_le_of_lt (Nat.le_trans hK hlim) (by decide)
  have x250 : x < 250 := Nat.lt_of_lt_of_le xK (Nat.le_trans hK hlim)
  have x256 : x < 256 := Nat.lt_trans x250 (by decide)
  have F := I.2.2.2.1 _ lx fx
  have L := I.2.2.1 (x + 1) (Nat.succ_pos x) lx
  have P1 : P - 1 < P := sm_mm1 hP B.2.2.2.1 F.1
  have hnd := (N.2 (x + 1) (Nat.succ_pos x) xK1).1
  have hkd := (N.2 (x + 1) (Nat.succ_pos x) xK1).2.1
  have hd8 := (N.2 (x + 1) (Nat.succ_pos x) xK1).2.2
  have D := cx.2.2.1 _ hnd
  have i32 : G 0 (x + 1) < 32 := Nat.lt_of_lt_of_le hnd cx.1
  have y1 : fN x = nI (G 0 (x + 1)) := Y.1 x xK
  have y2 : fC x = nI (G 2 (x + 1)) := Y.2.1 x xK
  have y3 : fD x = nI (G 3 (x + 1)) := Y.2.2.1 x xK
  have y4 : fS x = nI (G 9 (x + 1)) := Y.2.2.2.1 x xK
  have y5 : fA x = sm_p (G 10 (x + 1)) := Y.2.2.2.2.1 x xK
  have y6 : fB x = sm_p (G 11 (x + 1)) := Y.2.2.2.2.2.1 x xK
  have y8 : fP x = sm_p (G 4 (x + 1)) := Y.2.2.2.2.2.2.2.1 x xK
  have hkk : nK (G 0 (x + 1)) = nI (G 1 (x + 1)) := by rw [hkd]; exact D.1
  have hx0 : xno (5 * G 0 (x + 1)) = nI (G 1 (x + 1)) := D.2.2.2.1.trans hkk
  have x1 : eN x = nI (G 0 (x + 1)) := X.1 x xK
  have x2 : eC x = nI (sm_ec G (x + 1)) := X.2.1 x xK
  have x3 : eD x = nI (G 3 (x + 1)) := X.2.2.1 x xK
  have x4 : eT x = sm_p (G 6 (x + 1)) := X.2.2.2.1 x xK
  have x5 : eH x = sm_p (G 7 (x + 1)) := X.2.2.2.2.1 x xK
  have x6 : eR x = nI (G 8 (x + 1)) := X.2.2.2.2.2 x xK
  have pq : ∀ q, G 4 (x + 1) = q + 1 → q < 1000 := fun q hq => sm_n3 xK1 (Nat.le_trans hK hlim) L.1 hq
  have c16 := cx.2.1
  have z4 := F.2.2.2.1
  have z5 := F.2.2.2.2.1
  have ck' := ck
  obtain ⟨b1, b2, b3, b4, b5, b6⟩ := ck'
  obtain ⟨c, hc⟩ : ∃ c, G 11 (x + 1) = c + 1 := ⟨G 11 (x + 1) - 1, by omega⟩
  rw [hc] at b1 b2 b3 b4 b5 b6 ck hac
  rw [hc, sm_ps] at y6
  have cK : c < K := (I.2.1 _ b2).1
  have Lc := I.2.2.1 (c + 1) (Nat.succ_pos c) b2
  rw [b4] at Lc
  obtain ⟨H, I1, E1, Y1, T1, N1, ge⟩ := sm_TK I E Y T N ck
  have X1 : sm_X K H eN eC eD eT eH eR := sm_X_s X (fun i hi => ge i (by omega))
  have bd : (250 - K) * 1300 + 260 + 3 * H 17 (c + 1) ≤ P - 1 + H 20 (c + 1) := by rw [ge 17 (by decide), ge 20 (by decide), b5]; exact sm_m3 hP Lc.2.2.2.1
  exact sm_fin_y (P' := P - 1) (v1 := (yms, nI lim, nI dl, ync, ysp, nI n, ylr, yls, yle, nI K, nI K, nI c, 1, yfr, 0, nK, nA, nB, nL, nR, ysk, xrt, xsj, xtx, xtl, xcr, fN, fC, fD, fS, fA, fB, fO, fP, fL, fM, tS, tG)) (fun post m i hi hl => sy_go hi (fun Q hq => sy_1cat x256 y1 i32 hkk y2 y3 k0 y6 cK (by omega) hq) hl) (ih (P - 1) K H P1 vk ⟨rfl, hK, Or.inr ⟨rfl, rfl, I1, Y1, T1, N1, Or.inr (Or.inl ⟨c, E1, rfl, rfl, rfl, X1, rfl, rfl, by rw [ge 18 (by decide), hac], bd⟩)⟩⟩) P1
theorem sm_1arbn2 (cx : sm_cx n nc kn xno xrt nK nA nB nL nR) (hlim : lim ≤ 250) (ih : sm_IH xms xnc xsd xlr xls xle yms ync ysp ylr yls yle lim dl n nc kn xno xsk xrt xsj nK nA nB nL nR ysk tS tG P) (vk : sm_vok xtx xtl)
    {x : Nat} (hK : K ≤ lim) (I : sm_inv K n G) (Y : sm_Y K G fN fC fD fS fA fB fO fP fL fM) (T : sm_T G tE tN) (N : sm_N K nc kn G) (E : sm_e1 G (x + 1))
    (X : sm_X K G eN eC eD eT eH eR) (hP : (250 - K) * 1300 + 260 + 3 * G 17 (x + 1) ≤ P + G 20 (x + 1)) (k0 : G 1 (x + 1) = 13) (ck : sm_ck G (x + 1) (G 11 (x + 1))) (hac : G 18 (x + 1) = G 18 (G 11 (x + 1))) (st2 : G 9 (x + 1) = 2) :
    sm_fin xms xnc xsd xlr xls xle yms ync ysp ylr yls yle lim dl n nc kn xno xsk xrt xsj nK nA nB nL nR ysk tS tG P (xms, nI lim, nI dl, xnc, xsd, nI n, xlr, xls, xle, nI K, sm_p (G 18 (x + 1)), xtc, 2, xtn, xcu, xtd, xtt, 3, xno, xsk, xrt, xsj, xtx, xtl, xcr, eN, eC, eD, eT, eH, eR, tE, tN) (yms, nI lim, nI dl, ync, ysp, nI n, ylr, yls, yle, nI K, nI K, nI x, 1, yfr, 0, nK, nA, nB, nL, nR, ysk, xrt, xsj, xtx, xtl, xcr, fN, fC, fD, fS, fA, fB, fO, fP, fL, fM, tS, tG) := by
  have lx := E.2.1
  have fx := E.2.2.1
  have px := E.2.2.2.1
  have B := I.2.1 _ lx
  have xK1 : x + 1 ≤ K := B.1
  have xK : x < K := B.1
  have K256 : K < 256 := Nat.lt_of_le_of_lt (Nat.le_trans hK hlim) (by decide)
  have x250 : x < 250 := Nat.lt_of_lt_of_le xK (Nat.le_trans hK hlim)
  have x256 : x < 256 := Nat.lt_trans x250 (by decide)
  have F := I.2.2.2.1 _ lx fx
  have L := I.2.2.1 (x + 1) (Nat.succ_pos x) lx
  have P1 : P - 1 < P := sm_mm1 hP B.2.2.2.1 F.1
  have hnd := (N.2 (x + 1) (Nat.succ_pos x) xK1).1
  have hkd := (N.2 (x + 1) (Nat.succ_pos x) xK1).2.1
  have hd8 := (N.2 (x + 1) (Nat.succ_pos x) xK1).2.2
  have D := cx.2.2.1 _ hnd
  have i32 : G 0 (x + 1) < 32 := Nat.lt_of_lt_of_le hnd cx.1
  have y1 : fN x = nI (G 0 (x + 1)) := Y.1 x xK
  have y2 : fC x = nI (G 2 (x + 1)) := Y.2.1 x xK
  have y3 : fD x = nI (G 3 (x + 1)) := Y.2.2.1 x xK
  have y4 : fS x = nI (G 9 (x + 1)) := Y.2.2.2.1 x xK
  have y5 : fA x = sm_p (G 10 (x + 1)) := Y.2.2.2.2.1 x xK
  have y6 : fB x = sm_p (G 11 (x + 1)) := Y.2.2.2.2.2.1 x xK
  have y8 : fP x = sm_p (G 4 (x + 1)) := Y.2.2.2.2.2.2.2.1 x xK
  have hkk : nK (G 0 (x + 1)) = nI (G 1 (x + 1)) := by rw [hkd]; exact D.1
  have hx0 : xno (5 * G 0 (x + 1)) = nI (G 1 (x + 1)) := D.2.2.2.1.trans hkk
  have x1 : eN x = nI (G 0 (x + 1)) := X.1 x xK
  have x2 : eC x = nI (sm_ec G (x + 1)) := X.2.1 x xK
  have x3 : eD x = nI (G 3 (x + 1)) := X.2.2.1 x xK
  have x4 : eT x = sm_p (G 6 (x + 1)) := X.2.2.2.1 x xK
  have x5 : eH x = sm_p (G 7 (x + 1)) := X.2.2.2.2.1 x xK
  have x6 : eR x = nI (G 8 (x + 1)) := X.2.2.2.2.2 x xK
  have pq : ∀ q, G 4 (x + 1) = q + 1 → q < 1000 := fun q hq => sm_n3 xK1 (Nat.le_trans hK hlim) L.1 hq
  have c16 := cx.2.1
  have z4 := F.2.2.2.1
  have z5 := F.2.2.2.2.1
  have ck' := ck
  obtain ⟨b1, b2, b3, b4, b5, b6⟩ := ck'
  obtain ⟨c, hc⟩ : ∃ c, G 11 (x + 1) = c + 1 := ⟨G 11 (x + 1) - 1, by omega⟩
  rw [hc] at b1 b2 b3 b4 b5 b6 ck hac
  rw [hc, sm_ps] at y6
  have cK : c < K := (I.2.1 _ b2).1
  have Lc := I.2.2.1 (c + 1) (Nat.succ_pos c) b2
  rw [b4] at Lc
  obtain ⟨H, I1, E1, Y1, T1, N1, ge⟩ := sm_TK I E Y T N ck
  have X1 : sm_X K H eN eC eD eT eH eR := sm_X_s X (fun i hi => ge i (by omega))
  have bd : (250 - K) * 1300 + 260 + 3 * H 17 (c + 1) ≤ P - 1 + H 20 (c + 1) := by rw [ge 17 (by decide), ge 20 (by decide), b5]; exact sm_m3 hP Lc.2.2.2.1
  exact sm_fin_y (P' := P - 1) (v1 := (yms, nI lim, nI dl, ync, ysp, nI n, ylr, yls, yle, nI K, nI K, nI c, 1, yfr, 0, nK, nA, nB, nL, nR, ysk, xrt, xsj, xtx, xtl, xcr, fN, fC, fD, fS, fA, fB, fO, fP, fL, fM, tS, tG)) (fun post m i hi hl => sy_go hi (fun Q hq => sy_1arbn2 x256 y1 i32 hkk y2 y3 k0 y6 cK (by omega) (y4.trans (sm_eqI st2)) hq) hl) (ih (P - 1) K H P1 vk ⟨rfl, hK, Or.inr ⟨rfl, rfl, I1, Y1, T1, N1, Or.inr (Or.inl ⟨c, E1, rfl, rfl, rfl, X1, rfl, rfl, by rw [ge 18 (by decide), hac], bd⟩)⟩⟩) P1
theorem sm_1else (cx : sm_cx n nc kn xno xrt nK nA nB nL nR) (hlim : lim ≤ 250) (ih : sm_IH xms xnc xsd xlr xls xle yms ync ysp ylr yls yle lim dl n nc kn xno xsk xrt xsj nK nA nB nL nR ysk tS tG P) (vk : sm_vok xtx xtl)
    {x : Nat} (hK : K ≤ lim) (I : sm_inv K n G) (Y : sm_Y K G fN fC fD fS fA fB fO fP fL fM) (T : sm_T G tE tN) (N : sm_N K nc kn G) (E : sm_e1 G (x + 1))
    (X : sm_X K G eN eC eD eT eH eR) (hP : (250 - K) * 1300 + 260 + 3 * G 17 (x + 1) ≤ P + G 20 (x + 1)) (k0 : G 1 (x + 1) = 12 ∨ G 1 (x + 1) = 15 ∨ G 1 (x + 1) = 16 ∨ G 1 (x + 1) = 18) (ck : sm_ck G (x + 1) (G 10 (x + 1))) (hac : G 18 (x + 1) = G 18 (G 10 (x + 1))) :
    sm_fin xms xnc xsd xlr xls xle yms ync ysp ylr yls yle lim dl n nc kn xno xsk xrt xsj nK nA nB nL nR ysk tS tG P (xms, nI lim, nI dl, xnc, xsd, nI n, xlr, xls, xle, nI K, sm_p (G 18 (x + 1)), xtc, 2, xtn, xcu, xtd, xtt, 3, xno, xsk, xrt, xsj, xtx, xtl, xcr, eN, eC, eD, eT, eH, eR, tE, tN) (yms, nI lim, nI dl, ync, ysp, nI n, ylr, yls, yle, nI K, nI K, nI x, 1, yfr, 0, nK, nA, nB, nL, nR, ysk, xrt, xsj, xtx, xtl, xcr, fN, fC, fD, fS, fA, fB, fO, fP, fL, fM, tS, tG) := by
  have lx := E.2.1
  have fx := E.2.2.1
  have px := E.2.2.2.1
  have B := I.2.1 _ lx
  have xK1 : x + 1 ≤ K := B.1
  have xK : x < K := B.1
  have K256 : K < 256 := Nat.lt_of_le_of_lt (Nat.le_trans hK hlim) (by decide)
  have x250 : x < 250 := Nat.lt_of_lt_of_le xK (Nat.le_trans hK hlim)
  have x256 : x < 256 := Nat.lt_trans x250 (by decide)
  have F := I.2.2.2.1 _ lx fx
  have L := I.2.2.1 (x + 1) (Nat.succ_pos x) lx
  have P1 : P - 1 < P := sm_mm1 hP B.2.2.2.1 F.1
  have hnd := (N.2 (x + 1) (Nat.succ_pos x) xK1).1
  have hkd := (N.2 (x + 1) (Nat.succ_pos x) xK1).2.1
  have hd8 := (N.2 (x + 1) (Nat.succ_pos x) xK1).2.2
  have D := cx.2.2.1 _ hnd
  have i32 : G 0 (x + 1) < 32 := Nat.lt_of_lt_of_le hnd cx.1
  have y1 : fN x = nI (G 0 (x + 1)) := Y.1 x xK
  have y2 : fC x = nI (G 2 (x + 1)) := Y.2.1 x xK
  have y3 : fD x = nI (G 3 (x + 1)) := Y.2.2.1 x xK
  have y4 : fS x = nI (G 9 (x + 1)) := Y.2.2.2.1 x xK
  have y5 : fA x = sm_p (G 10 (x + 1)) := Y.2.2.2.2.1 x xK
  have y6 : fB x = sm_p (G 11 (x + 1)) := Y.2.2.2.2.2.1 x xK
  have y8 : fP x = sm_p (G 4 (x + 1)) := Y.2.2.2.2.2.2.2.1 x xK
  have hkk : nK (G 0 (x + 1)) = nI (G 1 (x + 1)) := by rw [hkd]; exact D.1
  have hx0 : xno (5 * G 0 (x + 1)) = nI (G 1 (x + 1)) := D.2.2.2.1.trans hkk
  have x1 : eN x = nI (G 0 (x + 1)) := X.1 x xK
  have x2 : eC x = nI (sm_ec G (x + 1)) := X.2.1 x xK
  have x3 : eD x = nI (G 3 (x + 1)) := X.2.2.1 x xK
  have x4 : eT x = sm_p (G 6 (x + 1)) := X.2.2.2.1 x xK
  have x5 : eH x = sm_p (G 7 (x + 1)) := X.2.2.2.2.1 x xK
  have x6 : eR x = nI (G 8 (x + 1)) := X.2.2.2.2.2 x xK
  have pq : ∀ q, G 4 (x + 1) = q + 1 → q < 1000 := fun q hq => sm_n3 xK1 (Nat.le_trans hK hlim) L.1 hq
  have c16 := cx.2.1
  have z4 := F.2.2.2.1
  have z5 := F.2.2.2.2.1
  have ck' := ck
  obtain ⟨b1, b2, b3, b4, b5, b6⟩ := ck'
  obtain ⟨c, hc⟩ : ∃ c, G 10 (x + 1) = c + 1 := ⟨G 10 (x + 1) - 1, by omega⟩
  rw [hc] at b1 b2 b3 b4 b5 b6 ck hac
  rw [hc, sm_ps] at y5
  have cK : c < K := (I.2.1 _ b2).1
  have Lc := I.2.2.1 (c + 1) (Nat.succ_pos c) b2
  rw [b4] at Lc
  obtain ⟨H, I1, E1, Y1, T1, N1, ge⟩ := sm_TK I E Y T N ck
  have X1 : sm_X K H eN eC eD eT eH eR := sm_X_s X (fun i hi => ge i (by omega))
  have bd : (250 - K) * 1300 + 260 + 3 * H 17 (c + 1) ≤ P - 1 + H 20 (c + 1) := by rw [ge 17 (by decide), ge 20 (by decide), b5]; exact sm_m3 hP Lc.2.2.2.1
  exact sm_fin_y (P' := P - 1) (v1 := (yms, nI lim, nI dl, ync, ysp, nI n, ylr, yls, yle, nI K, nI K, nI c, 1, yfr, 0, nK, nA, nB, nL, nR, ysk, xrt, xsj, xtx, xtl, xcr, fN, fC, fD, fS, fA, fB, fO, fP, fL, fM, tS, tG)) (fun post m i hi hl => sy_go hi (fun Q hq => sy_1else x256 y1 i32 hkk y2 y3 k0 y5 cK (by omega) hq) hl) (ih (P - 1) K H P1 vk ⟨rfl, hK, Or.inr ⟨rfl, rfl, I1, Y1, T1, N1, Or.inr (Or.inl ⟨c, E1, rfl, rfl, rfl, X1, rfl, rfl, by rw [ge 18 (by decide), hac], bd⟩)⟩⟩) P1
theorem sm_ev1 (cx : sm_cx n nc kn xno xrt nK nA nB nL nR) (hlim : lim ≤ 250) (ih : sm_IH xms xnc xsd xlr xls xle yms ync ysp ylr yls yle lim dl n nc kn xno xsk xrt xsj nK nA nB nL nR ysk tS tG P) (vk : sm_vok xtx xtl)
    {x : Nat} (hK : K ≤ lim) (I : sm_inv K n G) (Y : sm_Y K G fN fC fD fS fA fB fO fP fL fM) (T : sm_T G tE tN) (N : sm_N K nc kn G) (E : sm_e1 G (x + 1))
    (X : sm_X K G eN eC eD eT eH eR) (hP : (250 - K) * 1300 + 260 + 3 * G 17 (x + 1) ≤ P + G 20 (x + 1)) :
    sm_fin xms xnc xsd xlr xls xle yms ync ysp ylr yls yle lim dl n nc kn xno xsk xrt xsj nK nA nB nL nR ysk tS tG P (xms, nI lim, nI dl, xnc, xsd, nI n, xlr, xls, xle, nI K, sm_p (G 18 (x + 1)), xtc, 2, xtn, xcu, xtd, xtt, 3, xno, xsk, xrt, xsj, xtx, xtl, xcr, eN, eC, eD, eT, eH, eR, tE, tN) (yms, nI lim, nI dl, ync, ysp, nI n, ylr, yls, yle, nI K, nI K, nI x, 1, yfr, 0, nK, nA, nB, nL, nR, ysk, xrt, xsj, xtx, xtl, xcr, fN, fC, fD, fS, fA, fB, fO, fP, fL, fM, tS, tG) := by
  have F := I.2.2.2.1 _ E.2.1 E.2.2.1
  rcases F.2.2.2.2.2 with f0 | f1 | f2
  · obtain ⟨a1, a2, a3, a4, a5, a6⟩ := f0
    rcases a1 with a1 | ⟨a1, s1⟩
    · by_cases k0 : G 1 (x + 1) = 10
      · have ac : G 18 (x + 1) = x + 1 := by omega
        rw [ac, sm_ps]
        exact sm_1arb cx hlim ih vk hK I Y T N E X hP k0 ⟨Or.inl a1, a2, a3, a4, a5, a6⟩ (a6 k0)
      · exact sm_1leaf cx hlim ih vk hK I Y T N E X hP ⟨a1, k0⟩ (by omega)
    · have ac : G 18 (x + 1) = x + 1 := by omega
      rw [ac, sm_ps]
      exact sm_1arbno cx hlim ih vk hK I Y T N E X hP a1 s1
  · obtain ⟨a1, a2, a3, a4, a5, a6, a7⟩ := f1
    by_cases k0 : G 1 (x + 1) = 14
    · exact sm_1fence cx hlim ih vk hK I Y T N E X hP k0 (by omega)
    · exact sm_1else cx hlim ih vk hK I Y T N E X hP (by omega) a2 (by omega)
  · obtain ⟨a1, a2, a3, a4, a5, a6, a7⟩ := f2
    rcases a1 with a1 | ⟨a1, s1⟩
    · exact sm_1cat cx hlim ih vk hK I Y T N E X hP a1 a2 a7
    · exact sm_1arbn2 cx hlim ih vk hK I Y T N E X hP a1 a2 a7 s1
end
