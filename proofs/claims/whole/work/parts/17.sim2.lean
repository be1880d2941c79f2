theorem sm_k2 {K P d d' c v : Nat} (hP : (c < v ∧ (250 - K) * 1300 + d + 1 ≤ P) ∨ (250 - K) * 1300 + d + 1021 ≤ P) : P - 1 < P := by omega
theorem sm_k3 {K P d d' c c' v : Nat} (hP : (c < v ∧ (250 - K) * 1300 + d + 1 ≤ P) ∨ (250 - K) * 1300 + d + 1021 ≤ P) (hd : d = d' + 1) (hc : c' ≤ c) : (c' < v ∧ (250 - K) * 1300 + d' + 1 ≤ P - 1) ∨ (250 - K) * 1300 + d' + 1021 ≤ P - 1 := by omega
theorem sm_k4 {K P d c v lim : Nat} (hP : (c < v ∧ (250 - K) * 1300 + d + 1 ≤ P) ∨ (250 - K) * 1300 + d + 1021 ≤ P) (hK : K ≤ lim) (hn : ¬ K = lim) (hl : lim ≤ 250) : K + 1 ≤ lim ∧ (250 - (K + 1)) * 1300 + 1280 ≤ P - 1 := by omega
theorem sm_k5 {K P d c v h e lim : Nat} (hP : (c < v ∧ (250 - K) * 1300 + d + 1 ≤ P) ∨ (250 - K) * 1300 + d + 1021 ≤ P) (hv : v = c) (hK : K ≤ lim) (hl : lim ≤ 250) (hh : h = K + 1) : (250 - K) * 1300 + 260 + 3 * h ≤ P - 1 + e := by omega
theorem sm_put_ch {sj tx : Nat → Int32} {v a m : Nat} (hs : sm_ch sj 16) (ht : sm_ch tx 128) (hv : v ≤ 7) : ∀ j, j ≤ 16 → a + j ≤ 16 → sm_ch (sm_put sj tx v a j) 128 := by
  intro j
  induction j with
  | zero => intro _ _; exact ht
  | succ j ih =>
    intro h1 h2 i hi
    by_cases q : i = v * 16 + j
    · obtain ⟨w, hw, e⟩ := hs (a + j) (by omega)
      refine ⟨w, hw, ?_⟩
      unfold sm_put
      rw [q, pk_us, e]
      unfold vp_nar
      rw [(pk_charN hw).1]
    · unfold sm_put
      rw [pk_un q]
      exact ih (by omega) (by omega) i hi
theorem sm_put_ok {sj tx tl : Nat → Int32} {v a b : Nat} (hs : sm_ch sj 16) (ht : sm_vok tx tl) (hv : v ≤ 7) (hab : a ≤ b) (hb : b ≤ 16) : sm_vok (sm_put sj tx v a (b - a)) (upd tl v (nI (b - a))) := by
  refine ⟨sm_put_ch (m := 0) hs ht.1 hv _ (by omega) (by omega), ?_⟩
  intro w hw
  by_cases q : w = v
  · exact ⟨b - a, by omega, by rw [q, pk_us]⟩
  · rw [pk_un q]; exact ht.2 w hw
section
variable {xms xnc xsd xlr xls xle yms ync ysp ylr yls yle : Int32} {lim dl n nc : Nat} {kn : Nat → Nat} {xno xsk xrt xsj nK nA nB nL nR ysk tS tG : Nat → Int32}
variable {xst xnw xtc xtu xtn xcu xtd xtt xsr yfc yst ycf yev yfr ydo : Int32} {xtx xtl xcr eN eC eD eT eH eR tE tN fN fC fD fS fA fB fO fP fL fM : Nat → Int32}
variable {P K : Nat} {G : Nat → Nat → Nat}

theorem sm_2pass (cx : sm_cx n nc kn xno xrt nK nA nB nL nR) (hlim : lim ≤ 250) (ih : sm_IH xms xnc xsd xlr xls xle yms ync ysp ylr yls yle lim dl n nc kn xno xsk xrt xsj nK nA nB nL nR ysk tS tG P) (vk : sm_vok xtx xtl)
    {f q : Nat} (hK : K ≤ lim) (I : sm_inv K n G) (Y : sm_Y K G fN fC fD fS fA fB fO fP fL fM) (T : sm_T G tE tN) (N : sm_N K nc kn G) (E : sm_e2 K G (f + 1)) (hq : G 4 (f + 1) = q + 1)
    (X : sm_X K G eN eC eD eT eH eR) (hP : (G 2 (q + 1) < G 12 (f + 1) ∧ (250 - K) * 1300 + G 20 (q + 1) + 1 ≤ P) ∨ (250 - K) * 1300 + G 20 (q + 1) + 1021 ≤ P) (k0 : G 1 (q + 1) = 12 ∨ G 1 (q + 1) = 18) (s0 : sm_s0 G (f + 1) (q + 1)) :
    sm_fin xms xnc xsd xlr xls xle yms ync ysp ylr yls yle lim dl n nc kn xno xsk xrt xsj nK nA nB nL nR ysk tS tG P (xms, nI lim, nI dl, xnc, xsd, nI n, xlr, xls, xle, nI K, sm_p (G 18 (f + 1)), nI (G 19 (f + 1)), 1, xtn, nI (G 12 (f + 1)), xtd, sm_p (G 6 (q + 1)), 3, xno, xsk, xrt, xsj, xtx, xtl, xcr, eN, eC, eD, eT, eH, eR, tE, tN) (yms, nI lim, nI dl, ync, ysp, nI n, ylr, yls, yle, nI K, nI K, nI q, 2, nI f, 0, nK, nA, nB, nL, nR, ysk, xrt, xsj, xtx, xtl, xcr, fN, fC, fD, fS, fA, fB, fO, fP, fL, fM, tS, tG) := by
  have lf := E.2.1
  have zf := E.2.2.1
  have hif := E.2.2.2.1
  have op := E.2.2.2.2.1
  rw [hq] at op
  have fK : f + 1 ≤ K := (I.2.1 _ lf).1
  have Lf := I.2.2.1 (f + 1) (Nat.succ_pos f) lf
  rw [hq] at Lf
  have lp := Lf.2.1
  have B := I.2.1 _ lp
  have qf : q + 1 < f + 1 := Lf.1
  have qK1 : q + 1 ≤ K := B.1
  have qK : q < K := B.1
  have K256 : K < 256 := Nat.lt_of_le_of_lt (Nat.le_trans hK hlim) (by decide)
  have q250 : q < 250 := Nat.lt_of_lt_of_le qK (Nat.le_trans hK hlim)
  have q256 : q < 256 := Nat.lt_trans q250 (by decide)
  have f256 : f < 256 := Nat.lt_of_lt_of_le (Nat.lt_of_lt_of_le fK (Nat.le_trans hK hlim)) (by decide)
  have P1 : P - 1 < P := sm_k2 (d' := 0) hP
  have Z := I.2.2.2.1 _ lf zf
  have v1 := Z.2.2.2.1
  have v2 := Z.2.2.2.2.1
  have hnd := (N.2 (q + 1) (Nat.succ_pos q) qK1).1
  have hkd := (N.2 (q + 1) (Nat.succ_pos q) qK1).2.1
  have hd8 := (N.2 (q + 1) (Nat.succ_pos q) qK1).2.2
  have D := cx.2.2.1 _ hnd
  have c16 := cx.2.1
  have i32 : G 0 (q + 1) < 32 := Nat.lt_of_lt_of_le hnd cx.1
  have y1 : fN q = nI (G 0 (q + 1)) := Y.1 q qK
  have y2 : fC q = nI (G 2 (q + 1)) := Y.2.1 q qK
  have y3 : fD q = nI (G 3 (q + 1)) := Y.2.2.1 q qK
  have y5 : fA q = sm_p (G 10 (q + 1)) := Y.2.2.2.2.1 q qK
  have y6 : fB q = sm_p (G 11 (q + 1)) := Y.2.2.2.2.2.1 q qK
  have y7 : fO f = nI (G 12 (f + 1)) := Y.2.2.2.2.2.2.1 (f + 1) (Nat.succ_pos f) lf zf
  have y8 : fP q = sm_p (G 4 (q + 1)) := Y.2.2.2.2.2.2.2.1 q qK
  have hkk : nK (G 0 (q + 1)) = nI (G 1 (q + 1)) := by rw [hkd]; exact D.1
  have hx0 : xno (5 * G 0 (q + 1)) = nI (G 1 (q + 1)) := D.2.2.2.1.trans hkk
  have x1 : eN q = nI (G 0 (q + 1)) := X.1 q qK
  have x2 : eC q = nI (sm_ec G (q + 1)) := X.2.1 q qK
  rw [sm_ne10 (Nat.ne_of_gt (Nat.lt_of_lt_of_le (by decide) Lf.2.2.1))] at x2
  have x3 : eD q = nI (G 3 (q + 1)) := X.2.2.1 q qK
  have x4 : eT q = sm_p (G 6 (q + 1)) := X.2.2.2.1 q qK
  have x5 : eH q = sm_p (G 7 (q + 1)) := X.2.2.2.2.1 q qK
  have Lp := I.2.2.1 (q + 1) (Nat.succ_pos q) lp
  have pq : ∀ p, G 4 (q + 1) = p + 1 → p < 1000 := fun p hp => sm_n3 qK1 (Nat.le_trans hK hlim) Lp.1 hp
  have cm := sm_ccm (f := q + 1) I (Nat.succ_pos q) Lp
  have c2 := s0.2.1
  have c4 := s0.2.2.2.1
  rw [c2] at y5
  have kne : G 1 (q + 1) ≠ 16 := by omega
  obtain ⟨H, I1, E1, Y1, T1, N1, ge, go, ga, gt, gd⟩ := sm_TP (la := (f + 1)) (lb := 0) (a := (G 18 (f + 1))) (t := (G 19 (f + 1))) (fL' := upd fL q (nI f)) (fM' := fM) (tE' := tE) (tN' := tN) I E Y T N hq (Or.inl ⟨s0.1, by omega, rfl, rfl, Or.inr ⟨by omega, rfl⟩, Or.inr ⟨kne, rfl⟩⟩) (by rw [sm_ps]) (Or.inl ⟨rfl, rfl⟩) (Or.inl ⟨kne, rfl, rfl⟩)
  have X1 : sm_X K H eN eC eD eT eH eR := sm_X_s X ge
  have bd := sm_k3 hP Lp.2.2.2.1 cm
  rw [← gd, ← ge 4 (by decide), ← ge 2 (by decide), ← go] at bd
  by_cases z : G 4 (q + 1) = 0
  · rw [z, sm_p0] at y8
    exact sm_fin_y (P' := P - 1) (v1 := (yms, nI lim, nI dl, ync, ysp, nI n, ylr, yls, yle, nI K, nI K, nI q, 2, nI f, 1, nK, nA, nB, nL, nR, ysk, xrt, xsj, xtx, xtl, xcr, fN, fC, fD, fS, fA, fB, upd fO q (nI (G 12 (f + 1))), fP, upd fL q (nI f), fM, tS, tG)) (fun post m i hi hl => sy_go hi (fun Q hQ => sy_2one q256 y1 i32 hkk y2 y3 (by omega) f256 y7 (Or.inl ⟨y8, hQ⟩)) hl) (ih (P - 1) K H P1 vk ⟨rfl, hK, Or.inr ⟨rfl, rfl, I1, Y1, T1, N1, Or.inr (Or.inr (Or.inl ⟨q, E1, X1, rfl, rfl, by rw [go], by rw [ge 6 (by decide)], by rw [ga], by rw [gt], bd, Or.inl ⟨by rw [ge 4 (by decide)]; exact z, rfl⟩⟩))⟩⟩) P1
  · obtain ⟨p, hp⟩ : ∃ p, G 4 (q + 1) = p + 1 := ⟨G 4 (q + 1) - 1, (Nat.succ_pred_eq_of_ne_zero z).symm⟩
    have p9 := pq p hp
    rw [hp, sm_ps] at y8
    exact sm_fin_y (P' := P - 1) (v1 := (yms, nI lim, nI dl, ync, ysp, nI n, ylr, yls, yle, nI K, nI K, nI p, 2, nI q, 0, nK, nA, nB, nL, nR, ysk, xrt, xsj, xtx, xtl, xcr, fN, fC, fD, fS, fA, fB, upd fO q (nI (G 12 (f + 1))), fP, upd fL q (nI f), fM, tS, tG)) (fun post m i hi hl => sy_go hi (fun Q hQ => sy_2one q256 y1 i32 hkk y2 y3 (by omega) f256 y7 (Or.inr ⟨p, p9, y8, hQ⟩)) hl) (ih (P - 1) K H P1 vk ⟨rfl, hK, Or.inr ⟨rfl, rfl, I1, Y1, T1, N1, Or.inr (Or.inr (Or.inl ⟨q, E1, X1, rfl, rfl, by rw [go], by rw [ge 6 (by decide)], by rw [ga], by rw [gt], bd, Or.inr ⟨p, by rw [ge 4 (by decide)]; exact hp, rfl, rfl, rfl, rfl⟩⟩))⟩⟩) P1
theorem sm_2fence (cx : sm_cx n nc kn xno xrt nK nA nB nL nR) (hlim : lim ≤ 250) (ih : sm_IH xms xnc xsd xlr xls xle yms ync ysp ylr yls yle lim dl n nc kn xno xsk xrt xsj nK nA nB nL nR ysk tS tG P) (vk : sm_vok xtx xtl)
    {f q : Nat} (hK : K ≤ lim) (I : sm_inv K n G) (Y : sm_Y K G fN fC fD fS fA fB fO fP fL fM) (T : sm_T G tE tN) (N : sm_N K nc kn G) (E : sm_e2 K G (f + 1)) (hq : G 4 (f + 1) = q + 1)
    (X : sm_X K G eN eC eD eT eH eR) (hP : (G 2 (q + 1) < G 12 (f + 1) ∧ (250 - K) * 1300 + G 20 (q + 1) + 1 ≤ P) ∨ (250 - K) * 1300 + G 20 (q + 1) + 1021 ≤ P) (k0 : G 1 (q + 1) = 14) (s0 : sm_s0 G (f + 1) (q + 1)) :
    sm_fin xms xnc xsd xlr xls xle yms ync ysp ylr yls yle lim dl n nc kn xno xsk xrt xsj nK nA nB nL nR ysk tS tG P (xms, nI lim, nI dl, xnc, xsd, nI n, xlr, xls, xle, nI K, sm_p (G 18 (f + 1)), nI (G 19 (f + 1)), 1, xtn, nI (G 12 (f + 1)), xtd, nI q, 3, xno, xsk, xrt, xsj, xtx, xtl, xcr, eN, eC, eD, eT, eH, eR, tE, tN) (yms, nI lim, nI dl, ync, ysp, nI n, ylr, yls, yle, nI K, nI K, nI q, 2, nI f, 0, nK, nA, nB, nL, nR, ysk, xrt, xsj, xtx, xtl, xcr, fN, fC, fD, fS, fA, fB, fO, fP, fL, fM, tS, tG) := by
  have lf := E.2.1
  have zf := E.2.2.1
  have hif := E.2.2.2.1
  have op := E.2.2.2.2.1
  rw [hq] at op
  have fK : f + 1 ≤ K := (I.2.1 _ lf).1
  have Lf := I.2.2.1 (f + 1) (Nat.succ_pos f) lf
  rw [hq] at Lf
  have lp := Lf.2.1
  have B := I.2.1 _ lp
  have qf : q + 1 < f + 1 := Lf.1
  have qK1 : q + 1 ≤ K := B.1
  have qK : q < K := B.1
  have K256 : K < 256 := Nat.lt_of_le_of_lt (Nat.le_trans hK hlim) (by decide)
  have q250 : q < 250 := Nat.lt_of_lt_of_le qK (Nat.le_trans hK hlim)
  have q256 : q < 256 := Nat.lt_trans q250 (by decide)
  have f256 : f < 256 := Nat.lt_of_lt_of_le (Nat.lt_of_lt_of_le fK (Nat.le_trans hK hlim)) (by decide)
  have P1 : P - 1 < P := sm_k2 (d' := 0) hP
  have Z := I.2.2.2.1 _ lf zf
  have v1 := Z.2.2.2.1
  have v2 := Z.2.2.2.2.1
  have hnd := (N.2 (q + 1) (Nat.succ_pos q) qK1).1
  have hkd := (N.2 (q + 1) (Nat.succ_pos q) qK1).2.1
  have hd8 := (N.2 (q + 1) (Nat.succ_pos q) qK1).2.2
  have D := cx.2.2.1 _ hnd
  have c16 := cx.2.1
  have i32 : G 0 (q + 1) < 32 := Nat.lt_of_lt_of_le hnd cx.1
  have y1 : fN q = nI (G 0 (q + 1)) := Y.1 q qK
  have y2 : fC q = nI (G 2 (q + 1)) := Y.2.1 q qK
  have y3 : fD q = nI (G 3 (q + 1)) := Y.2.2.1 q qK
  have y5 : fA q = sm_p (G 10 (q + 1)) := Y.2.2.2.2.1 q qK
  have y6 : fB q = sm_p (G 11 (q + 1)) := Y.2.2.2.2.2.1 q qK
  have y7 : fO f = nI (G 12 (f + 1)) := Y.2.2.2.2.2.2.1 (f + 1) (Nat.succ_pos f) lf zf
  have y8 : fP q = sm_p (G 4 (q + 1)) := Y.2.2.2.2.2.2.2.1 q qK
  have hkk : nK (G 0 (q + 1)) = nI (G 1 (q + 1)) := by rw [hkd]; exact D.1
  have hx0 : xno (5 * G 0 (q + 1)) = nI (G 1 (q + 1)) := D.2.2.2.1.trans hkk
  have x1 : eN q = nI (G 0 (q + 1)) := X.1 q qK
  have x2 : eC q = nI (sm_ec G (q + 1)) := X.2.1 q qK
  rw [sm_ne10 (Nat.ne_of_gt (Nat.lt_of_lt_of_le (by decide) Lf.2.2.1))] at x2
  have x3 : eD q = nI (G 3 (q + 1)) := X.2.2.1 q qK
  have x4 : eT q = sm_p (G 6 (q + 1)) := X.2.2.2.1 q qK
  have x5 : eH q = sm_p (G 7 (q + 1)) := X.2.2.2.2.1 q qK
  have Lp := I.2.2.1 (q + 1) (Nat.succ_pos q) lp
  have pq : ∀ p, G 4 (q + 1) = p + 1 → p < 1000 := fun p hp => sm_n3 qK1 (Nat.le_trans hK hlim) Lp.1 hp
  have cm := sm_ccm (f := q + 1) I (Nat.succ_pos q) Lp
  have c2 := s0.2.1
  have c4 := s0.2.2.2.1
  rw [c2] at y5
  have kne : G 1 (q + 1) ≠ 16 := by omega
  obtain ⟨H, I1, E1, Y1, T1, N1, ge, go, ga, gt, gd⟩ := sm_TP (la := (f + 1)) (lb := 0) (a := (G 7 (q + 1))) (t := (G 19 (f + 1))) (fL' := upd fL q (nI f)) (fM' := fM) (tE' := tE) (tN' := tN) I E Y T N hq (Or.inl ⟨s0.1, by omega, rfl, rfl, Or.inl ⟨k0, rfl⟩, Or.inr ⟨kne, rfl⟩⟩) (by rw [sm_ps]) (Or.inl ⟨rfl, rfl⟩) (Or.inl ⟨kne, rfl, rfl⟩)
  have X1 : sm_X K H eN eC eD eT eH eR := sm_X_s X ge
  have bd := sm_k3 hP Lp.2.2.2.1 cm
  rw [← gd, ← ge 4 (by decide), ← ge 2 (by decide), ← go] at bd
  by_cases z : G 4 (q + 1) = 0
  · rw [z, sm_p0] at y8
    exact sm_fin_xy (P' := P - 1) (u1 := (xms, nI lim, nI dl, xnc, xsd, nI n, xlr, xls, xle, nI K, sm_p (G 7 (q + 1)), nI (G 19 (f + 1)), 1, xtn, nI (G 12 (f + 1)), xtd, sm_p (G 6 (q + 1)), 3, xno, xsk, xrt, xsj, xtx, xtl, xcr, eN, eC, eD, eT, eH, eR, tE, tN)) (v1 := (yms, nI lim, nI dl, ync, ysp, nI n, ylr, yls, yle, nI K, nI K, nI q, 2, nI f, 1, nK, nA, nB, nL, nR, ysk, xrt, xsj, xtx, xtl, xcr, fN, fC, fD, fS, fA, fB, upd fO q (nI (G 12 (f + 1))), fP, upd fL q (nI f), fM, tS, tG)) (fun post m i hi hl => sx_go1 hi (fun Q hQ => sx_1fence q250 x1 i32 hx0 x2 x4 k0 x5 hQ) hl) (fun post m i hi hl => sy_go hi (fun Q hQ => sy_2one q256 y1 i32 hkk y2 y3 (by omega) f256 y7 (Or.inl ⟨y8, hQ⟩)) hl) (ih (P - 1) K H P1 vk ⟨rfl, hK, Or.inr ⟨rfl, rfl, I1, Y1, T1, N1, Or.inr (Or.inr (Or.inl ⟨q, E1, X1, rfl, rfl, by rw [go], by rw [ge 6 (by decide)], by rw [ga], by rw [gt], bd, Or.inl ⟨by rw [ge 4 (by decide)]; exact z, rfl⟩⟩))⟩⟩) P1
  · obtain ⟨p, hp⟩ : ∃ p, G 4 (q + 1) = p + 1 := ⟨G 4 (q + 1) - 1, (Nat.succ_pred_eq_of_ne_zero z).symm⟩
    have p9 := pq p hp
    rw [hp, sm_ps] at y8
    exact sm_fin_xy (P' := P - 1) (u1 := (xms, nI lim, nI dl, xnc, xsd, nI n, xlr, xls, xle, nI K, sm_p (G 7 (q + 1)), nI (G 19 (f + 1)), 1, xtn, nI (G 12 (f + 1)), xtd, sm_p (G 6 (q + 1)), 3, xno, xsk, xrt, xsj, xtx, xtl, xcr, eN, eC, eD, eT, eH, eR, tE, tN)) (v1 := (yms, nI lim, nI dl, ync, ysp, nI n, ylr, yls, yle, nI K, nI K, nI p, 2, nI q, 0, nK, nA, nB, nL, nR, ysk, xrt, xsj, xtx, xtl, xcr, fN, fC, fD, fS, fA, fB, upd fO q (nI (G 12 (f + 1))), fP, upd fL q (nI f), fM, tS, tG)) (fun post m i hi hl => sx_go1 hi (fun Q hQ => sx_1fence q250 x1 i32 hx0 x2 x4 k0 x5 hQ) hl) (fun post m i hi hl => sy_go hi (fun Q hQ => sy_2one q256 y1 i32 hkk y2 y3 (by omega) f256 y7 (Or.inr ⟨p, p9, y8, hQ⟩)) hl) (ih (P - 1) K H P1 vk ⟨rfl, hK, Or.inr ⟨rfl, rfl, I1, Y1, T1, N1, Or.inr (Or.inr (Or.inl ⟨q, E1, X1, rfl, rfl, by rw [go], by rw [ge 6 (by decide)], by rw [ga], by rw [gt], bd, Or.inr ⟨p, by rw [ge 4 (by decide)]; exact hp, rfl, rfl, rfl, rfl⟩⟩))⟩⟩) P1
theorem sm_2cond (cx : sm_cx n nc kn xno xrt nK nA nB nL nR) (hlim : lim ≤ 250) (ih : sm_IH xms xnc xsd xlr xls xle yms ync ysp ylr yls yle lim dl n nc kn xno xsk xrt xsj nK nA nB nL nR ysk tS tG P) (vk : sm_vok xtx xtl)
    {f q : Nat} (hK : K ≤ lim) (I : sm_inv K n G) (Y : sm_Y K G fN fC fD fS fA fB fO fP fL fM) (T : sm_T G tE tN) (N : sm_N K nc kn G) (E : sm_e2 K G (f + 1)) (hq : G 4 (f + 1) = q + 1)
    (X : sm_X K G eN eC eD eT eH eR) (hP : (G 2 (q + 1) < G 12 (f + 1) ∧ (250 - K) * 1300 + G 20 (q + 1) + 1 ≤ P) ∨ (250 - K) * 1300 + G 20 (q + 1) + 1021 ≤ P) (k0 : G 1 (q + 1) = 16) (s0 : sm_s0 G (f + 1) (q + 1)) :
    sm_fin xms xnc xsd xlr xls xle yms ync ysp ylr yls yle lim dl n nc kn xno xsk xrt xsj nK nA nB nL nR ysk tS tG P (xms, nI lim, nI dl, xnc, xsd, nI n, xlr, xls, xle, nI K, sm_p (G 18 (f + 1)), nI (G 19 (f + 1)), 1, xtn, nI (G 12 (f + 1)), xtd, nI q, 3, xno, xsk, xrt, xsj, xtx, xtl, xcr, eN, eC, eD, eT, eH, eR, tE, tN) (yms, nI lim, nI dl, ync, ysp, nI n, ylr, yls, yle, nI K, nI K, nI q, 2, nI f, 0, nK, nA, nB, nL, nR, ysk, xrt, xsj, xtx, xtl, xcr, fN, fC, fD, fS, fA, fB, fO, fP, fL, fM, tS, tG) := by
  have lf := E.2.1
  have zf := E.2.2.1
  have hif := E.2.2.2.1
  have op := E.2.2.2.2.1
  rw [hq] at op
  have fK : f + 1 ≤ K := (I.2.1 _ lf).1
  have Lf := I.2.2.1 (f + 1) (Nat.succ_pos f) lf
  rw [hq] at Lf
  have lp := Lf.2.1
  have B := I.2.1 _ lp
  have qf : q + 1 < f + 1 := Lf.1
  have qK1 : q + 1 ≤ K := B.1
  have qK : q < K := B.1
  have K256 : K < 256 := Nat.lt_of_le_of_lt (Nat.le_trans hK hlim) (by decide)
  have q250 : q < 250 := Nat.lt_of_lt_of_le qK (Nat.le_trans hK hlim)
  have q256 : q < 256 := Nat.lt_trans q250 (by decide)
  have f256 : f < 256 := Nat.lt_of_lt_of_le (Nat.lt_of_lt_of_le fK (Nat.le_trans hK hlim)) (by decide)
  have P1 : P - 1 < P := sm_k2 (d' := 0) hP
  have Z := I.2.2.2.1 _ lf zf
  have v1 := Z.2.2.2.1
  have v2 := Z.2.2.2.2.1
  have hnd := (N.2 (q + 1) (Nat.succ_pos q) qK1).1
  have hkd := (N.2 (q + 1) (Nat.succ_pos q) qK1).2.1
  have hd8 := (N.2 (q + 1) (Nat.succ_pos q) qK1).2.2
  have D := cx.2.2.1 _ hnd
  have c16 := cx.2.1
  have i32 : G 0 (q + 1) < 32 := Nat.lt_of_lt_of_le hnd cx.1
  have y1 : fN q = nI (G 0 (q + 1)) := Y.1 q qK
  have y2 : fC q = nI (G 2 (q + 1)) := Y.2.1 q qK
  have y3 : fD q = nI (G 3 (q + 1)) := Y.2.2.1 q qK
  have y5 : fA q = sm_p (G 10 (q + 1)) := Y.2.2.2.2.1 q qK
  have y6 : fB q = sm_p (G 11 (q + 1)) := Y.2.2.2.2.2.1 q qK
  have y7 : fO f = nI (G 12 (f + 1)) := Y.2.2.2.2.2.2.1 (f + 1) (Nat.succ_pos f) lf zf
  have y8 : fP q = sm_p (G 4 (q + 1)) := Y.2.2.2.2.2.2.2.1 q qK
  have hkk : nK (G 0 (q + 1)) = nI (G 1 (q + 1)) := by rw [hkd]; exact D.1
  have hx0 : xno (5 * G 0 (q + 1)) = nI (G 1 (q + 1)) := D.2.2.2.1.trans hkk
  have x1 : eN q = nI (G 0 (q + 1)) := X.1 q qK
  have x2 : eC q = nI (sm_ec G (q + 1)) := X.2.1 q qK
  rw [sm_ne10 (Nat.ne_of_gt (Nat.lt_of_lt_of_le (by decide) Lf.2.2.1))] at x2
  have x3 : eD q = nI (G 3 (q + 1)) := X.2.2.1 q qK
  have x4 : eT q = sm_p (G 6 (q + 1)) := X.2.2.2.1 q qK
  have x5 : eH q = sm_p (G 7 (q + 1)) := X.2.2.2.2.1 q qK
  have Lp := I.2.2.1 (q + 1) (Nat.succ_pos q) lp
  have pq : ∀ p, G 4 (q + 1) = p + 1 → p < 1000 := fun p hp => sm_n3 qK1 (Nat.le_trans hK hlim) Lp.1 hp
  have cm := sm_ccm (f := q + 1) I (Nat.succ_pos q) Lp
  have c2 := s0.2.1
  have c4 := s0.2.2.2.1
  rw [c2] at y5
  have t250 : G 19 (f + 1) < 250 := by
    have z3 := Z.2.2.1
    have s3 := s0.2.2.1
    have b2 := B.2.1
    omega
  obtain ⟨H, I1, E1, Y1, T1, N1, ge, go, ga, gt, gd⟩ := sm_TP (la := (f + 1)) (lb := 0) (a := (G 18 (f + 1))) (t := (G 19 (f + 1) + 1)) (fL' := upd fL q (nI f)) (fM' := fM) (tE' := upd tE (G 19 (f + 1)) (nI q)) (tN' := upd tN (G 19 (f + 1)) (nI (G 12 (f + 1)))) I E Y T N hq (Or.inl ⟨s0.1, by omega, rfl, rfl, Or.inr ⟨by omega, rfl⟩, Or.inl ⟨k0, rfl⟩⟩) (by rw [sm_ps]) (Or.inl ⟨rfl, rfl⟩) (Or.inr ⟨rfl, rfl⟩)
  have X1 : sm_X K H eN eC eD eT eH eR := sm_X_s X ge
  have bd := sm_k3 hP Lp.2.2.2.1 cm
  rw [← gd, ← ge 4 (by decide), ← ge 2 (by decide), ← go] at bd
  by_cases z : G 4 (q + 1) = 0
  · rw [z, sm_p0] at y8
    exact sm_fin_xy (P' := P - 1) (u1 := (xms, nI lim, nI dl, xnc, xsd, nI n, xlr, xls, xle, nI K, sm_p (G 18 (f + 1)), nI (G 19 (f + 1) + 1), 1, xtn, nI (G 12 (f + 1)), xtd, sm_p (G 6 (q + 1)), 3, xno, xsk, xrt, xsj, xtx, xtl, xcr, eN, eC, eD, eT, eH, eR, upd tE (G 19 (f + 1)) (nI q), upd tN (G 19 (f + 1)) (nI (G 12 (f + 1))))) (v1 := (yms, nI lim, nI dl, ync, ysp, nI n, ylr, yls, yle, nI K, nI K, nI q, 2, nI f, 1, nK, nA, nB, nL, nR, ysk, xrt, xsj, xtx, xtl, xcr, fN, fC, fD, fS, fA, fB, upd fO q (nI (G 12 (f + 1))), fP, upd fL q (nI f), fM, tS, tG)) (fun post m i hi hl => sx_go1 hi (fun Q hQ => sx_1cond q250 x1 i32 hx0 x2 x4 k0 t250 hQ) hl) (fun post m i hi hl => sy_go hi (fun Q hQ => sy_2one q256 y1 i32 hkk y2 y3 (by omega) f256 y7 (Or.inl ⟨y8, hQ⟩)) hl) (ih (P - 1) K H P1 vk ⟨rfl, hK, Or.inr ⟨rfl, rfl, I1, Y1, T1, N1, Or.inr (Or.inr (Or.inl ⟨q, E1, X1, rfl, rfl, by rw [go], by rw [ge 6 (by decide)], by rw [ga], by rw [gt], bd, Or.inl ⟨by rw [ge 4 (by decide)]; exact z, rfl⟩⟩))⟩⟩) P1
  · obtain ⟨p, hp⟩ : ∃ p, G 4 (q + 1) = p + 1 := ⟨G 4 (q + 1) - 1, (Nat.succ_pred_eq_of_ne_zero z).symm⟩
    have p9 := pq p hp
    rw [hp, sm_ps] at y8
    exact sm_fin_xy (P' := P - 1) (u1 := (xms, nI lim, nI dl, xnc, xsd, nI n, xlr, xls, xle, nI K, sm_p (G 18 (f + 1)), nI (G 19 (f + 1) + 1), 1, xtn, nI (G 12 (f + 1)), xtd, sm_p (G 6 (q + 1)), 3, xno, xsk, xrt, xsj, xtx, xtl, xcr, eN, eC, eD, eT, eH, eR, upd tE (G 19 (f + 1)) (nI q), upd tN (G 19 (f + 1)) (nI (G 12 (f + 1))))) (v1 := (yms, nI lim, nI dl, ync, ysp, nI n, ylr, yls, yle, nI K, nI K, nI p, 2, nI q, 0, nK, nA, nB, nL, nR, ysk, xrt, xsj, xtx, xtl, xcr, fN, fC, fD, fS, fA, fB, upd fO q (nI (G 12 (f + 1))), fP, upd fL q (nI f), fM, tS, tG)) (fun post m i hi hl => sx_go1 hi (fun Q hQ => sx_1cond q250 x1 i32 hx0 x2 x4 k0 t250 hQ) hl) (fun post m i hi hl => sy_go hi (fun Q hQ => sy_2one q256 y1 i32 hkk y2 y3 (by omega) f256 y7 (Or.inr ⟨p, p9, y8, hQ⟩)) hl) (ih (P - 1) K H P1 vk ⟨rfl, hK, Or.inr ⟨rfl, rfl, I1, Y1, T1, N1, Or.inr (Or.inr (Or.inl ⟨q, E1, X1, rfl, rfl, by rw [go], by rw [ge 6 (by decide)], by rw [ga], by rw [gt], bd, Or.inr ⟨p, by rw [ge 4 (by decide)]; exact hp, rfl, rfl, rfl, rfl⟩⟩))⟩⟩) P1
theorem sm_2imm (cx : sm_cx n nc kn xno xrt nK nA nB nL nR) (hlim : lim ≤ 250) (ih : sm_IH xms xnc xsd xlr xls xle yms ync ysp ylr yls yle lim dl n nc kn xno xsk xrt xsj nK nA nB nL nR ysk tS tG P) (vk : sm_vok xtx xtl)
    {f q : Nat} (hK : K ≤ lim) (I : sm_inv K n G) (Y : sm_Y K G fN fC fD fS fA fB fO fP fL fM) (T : sm_T G tE tN) (N : sm_N K nc kn G) (E : sm_e2 K G (f + 1)) (hq : G 4 (f + 1) = q + 1)
    (X : sm_X K G eN eC eD eT eH eR) (hP : (G 2 (q + 1) < G 12 (f + 1) ∧ (250 - K) * 1300 + G 20 (q + 1) + 1 ≤ P) ∨ (250 - K) * 1300 + G 20 (q + 1) + 1021 ≤ P) (k0 : G 1 (q + 1) = 15) (s0 : sm_s0 G (f + 1) (q + 1)) (sj : sm_ch xsj 16) :
    sm_fin xms xnc xsd xlr xls xle yms ync ysp ylr yls yle lim dl n nc kn xno xsk xrt xsj nK nA nB nL nR ysk tS tG P (xms, nI lim, nI dl, xnc, xsd, nI n, xlr, xls, xle, nI K, sm_p (G 18 (f + 1)), nI (G 19 (f + 1)), 1, xtn, nI (G 12 (f + 1)), xtd, nI q, 3, xno, xsk, xrt, xsj, xtx, xtl, xcr, eN, eC, eD, eT, eH, eR, tE, tN) (yms, nI lim, nI dl, ync, ysp, nI n, ylr, yls, yle, nI K, nI K, nI q, 2, nI f, 0, nK, nA, nB, nL, nR, ysk, xrt, xsj, xtx, xtl, xcr, fN, fC, fD, fS, fA, fB, fO, fP, fL, fM, tS, tG) := by
  have lf := E.2.1
  have zf := E.2.2.1
  have hif := E.2.2.2.1
  have op := E.2.2.2.2.1
  rw [hq] at op
  have fK : f + 1 ≤ K := (I.2.1 _ lf).1
  have Lf := I.2.2.1 (f + 1) (Nat.succ_pos f) lf
  rw [hq] at Lf
  have lp := Lf.2.1
  have B := I.2.1 _ lp
  have qf : q + 1 < f + 1 := Lf.1
  have qK1 : q + 1 ≤ K := B.1
  have qK : q < K := B.1
  have K256 : K < 256 := Nat.lt_of_le_of_lt (Nat.le_trans hK hlim) (by decide)
  have q250 : q < 250 := Nat.lt_of_lt_of_le qK (Nat.le_trans hK hlim)
  have q256 : q < 256 := Nat.lt_trans q250 (by decide)
  have f256 : f < 256 := Nat.lt_of_lt_of_le (Nat.lt_of_lt_of_le fK (Nat.le_trans hK hlim)) (by decide)
  have P1 : P - 1 < P := sm_k2 (d' := 0) hP
  have Z := I.2.2.2.1 _ lf zf
  have v1 := Z.2.2.2.1
  have v2 := Z.2.2.2.2.1
  have hnd := (N.2 (q + 1) (Nat.succ_pos q) qK1).1
  have hkd := (N.2 (q + 1) (Nat.succ_pos q) qK1).2.1
  have hd8 := (N.2 (q + 1) (Nat.succ_pos q) qK1).2.2
  have D := cx.2.2.1 _ hnd
  have c16 := cx.2.1
  have i32 : G 0 (q + 1) < 32 := Nat.lt_of_lt_of_le hnd cx.1
  have y1 : fN q = nI (G 0 (q + 1)) := Y.1 q qK
  have y2 : fC q = nI (G 2 (q + 1)) := Y.2.1 q qK
  have y3 : fD q = nI (G 3 (q + 1)) := Y.2.2.1 q qK
  have y5 : fA q = sm_p (G 10 (q + 1)) := Y.2.2.2.2.1 q qK
  have y6 : fB q = sm_p (G 11 (q + 1)) := Y.2.2.2.2.2.1 q qK
  have y7 : fO f = nI (G 12 (f + 1)) := Y.2.2.2.2.2.2.1 (f + 1) (Nat.succ_pos f) lf zf
  have y8 : fP q = sm_p (G 4 (q + 1)) := Y.2.2.2.2.2.2.2.1 q qK
  have hkk : nK (G 0 (q + 1)) = nI (G 1 (q + 1)) := by rw [hkd]; exact D.1
  have hx0 : xno (5 * G 0 (q + 1)) = nI (G 1 (q + 1)) := D.2.2.2.1.trans hkk
  have x1 : eN q = nI (G 0 (q + 1)) := X.1 q qK
  have x2 : eC q = nI (sm_ec G (q + 1)) := X.2.1 q qK
  rw [sm_ne10 (Nat.ne_of_gt (Nat.lt_of_lt_of_le (by decide) Lf.2.2.1))] at x2
  have x3 : eD q = nI (G 3 (q + 1)) := X.2.2.1 q qK
  have x4 : eT q = sm_p (G 6 (q + 1)) := X.2.2.2.1 q qK
  have x5 : eH q = sm_p (G 7 (q + 1)) := X.2.2.2.2.1 q qK
  have Lp := I.2.2.1 (q + 1) (Nat.succ_pos q) lp
  have pq : ∀ p, G 4 (q + 1) = p + 1 → p < 1000 := fun p hp => sm_n3 qK1 (Nat.le_trans hK hlim) Lp.1 hp
  have cm := sm_ccm (f := q + 1) I (Nat.succ_pos q) Lp
  have c2 := s0.2.1
  have c4 := s0.2.2.2.1
  rw [c2] at y5
  have kne : G 1 (q + 1) ≠ 16 := by omega
  obtain ⟨a, ha, hA⟩ := sm_nd10 D (by rw [← hkd]; omega)
  have cv : G 2 (q + 1) ≤ G 12 (f + 1) := by omega
  have v16 : G 12 (f + 1) ≤ 16 := by omega
  obtain ⟨H, I1, E1, Y1, T1, N1, ge, go, ga, gt, gd⟩ := sm_TP (la := (f + 1)) (lb := 0) (a := (G 18 (f + 1))) (t := (G 19 (f + 1))) (fL' := upd fL q (nI f)) (fM' := fM) (tE' := tE) (tN' := tN) I E Y T N hq (Or.inl ⟨s0.1, by omega, rfl, rfl, Or.inr ⟨by omega, rfl⟩, Or.inr ⟨kne, rfl⟩⟩) (by rw [sm_ps]) (Or.inl ⟨rfl, rfl⟩) (Or.inl ⟨kne, rfl, rfl⟩)
  have X1 : sm_X K H eN eC eD eT eH eR := sm_X_s X ge
  have bd := sm_k3 hP Lp.2.2.2.1 cm
  rw [← gd, ← ge 4 (by decide), ← ge 2 (by decide), ← go] at bd
  by_cases z : G 4 (q + 1) = 0
  · rw [z, sm_p0] at y8
    exact sm_fin_xy (P' := P - 1) (u1 := (xms, nI lim, nI dl, xnc, xsd, nI n, xlr, xls, xle, nI K, sm_p (G 18 (f + 1)), nI (G 19 (f + 1)), 1, xtn, nI (G 12 (f + 1)), xtd, sm_p (G 6 (q + 1)), 3, xno, xsk, xrt, xsj, sm_put xsj xtx a (G 2 (q + 1)) (G 12 (f + 1) - G 2 (q + 1)), upd xtl a (nI (G 12 (f + 1) - G 2 (q + 1))), xcr, eN, eC, eD, eT, eH, eR, tE, tN)) (v1 := (yms, nI lim, nI dl, ync, ysp, nI n, ylr, yls, yle, nI K, nI K, nI q, 2, nI f, 1, nK, nA, nB, nL, nR, ysk, xrt, xsj, sm_put xsj xtx a (G 2 (q + 1)) (G 12 (f + 1) - G 2 (q + 1)), upd xtl a (nI (G 12 (f + 1) - G 2 (q + 1))), xcr, fN, fC, fD, fS, fA, fB, upd fO q (nI (G 12 (f + 1))), fP, upd fL q (nI f), fM, tS, tG)) (fun post m i hi hl => sx_go1 hi (fun Q hQ => sx_1imm q250 x1 i32 hx0 x2 x4 k0 ha (D.2.2.2.2.1.trans hA) cv v16 hQ) hl) (fun post m i hi hl => sy_go hi (fun Q hQ => sy_2imm q256 y1 i32 hkk y2 y3 k0 f256 y7 ha hA cv v2 c16 (Or.inl ⟨y8, hQ⟩)) hl) (ih (P - 1) K H P1 (sm_put_ok sj vk ha cv v16) ⟨rfl, hK, Or.inr ⟨rfl, rfl, I1, Y1, T1, N1, Or.inr (Or.inr (Or.inl ⟨q, E1, X1, rfl, rfl, by rw [go], by rw [ge 6 (by decide)], by rw [ga], by rw [gt], bd, Or.inl ⟨by rw [ge 4 (by decide)]; exact z, rfl⟩⟩))⟩⟩) P1
  · obtain ⟨p, hp⟩ : ∃ p, G 4 (q + 1) = p + 1 := ⟨G 4 (q + 1) - 1, (Nat.succ_pred_eq_of_ne_zero z).symm⟩
    have p9 := pq p hp
    rw [hp, sm_ps] at y8
    exact sm_fin_xy (P' := P - 1) (u1 := (xms, nI lim, nI dl, xnc, xsd, nI n, xlr, xls, xle, nI K, sm_p (G 18 (f + 1)), nI (G 19 (f + 1)), 1, xtn, nI (G 12 (f + 1)), xtd, sm_p (G 6 (q + 1)), 3, xno, xsk, xrt, xsj, sm_put xsj xtx a (G 2 (q + 1)) (G 12 (f + 1) - G 2 (q + 1)), upd xtl a (nI (G 12 (f + 1) - G 2 (q + 1))), xcr, eN, eC, eD, eT, eH, eR, tE, tN)) (v1 := (yms, nI lim, nI dl, ync, ysp, nI n, ylr, yls, yle, nI K, nI K, nI p, 2, nI q, 0, nK, nA, nB, nL, nR, ysk, xrt, xsj, sm_put xsj xtx a (G 2 (q + 1)) (G 12 (f + 1) - G 2 (q + 1)), upd xtl a (nI (G 12 (f + 1) - G 2 (q + 1))), xcr, fN, fC, fD, fS, fA, fB, upd fO q (nI (G 12 (f + 1))), fP, upd fL q (nI f), fM, tS, tG)) (fun post m i hi hl => sx_go1 hi (fun Q hQ => sx_1imm q250 x1 i32 hx0 x2 x4 k0 ha (D.2.2.2.2.1.trans hA) cv v16 hQ) hl) (fun post m i hi hl => sy_go hi (fun Q hQ => sy_2imm q256 y1 i32 hkk y2 y3 k0 f256 y7 ha hA cv v2 c16 (Or.inr ⟨p, p9, y8, hQ⟩)) hl) (ih (P - 1) K H P1 (sm_put_ok sj vk ha cv v16) ⟨rfl, hK, Or.inr ⟨rfl, rfl, I1, Y1, T1, N1, Or.inr (Or.inr (Or.inl ⟨q, E1, X1, rfl, rfl, by rw [go], by rw [ge 6 (by decide)], by rw [ga], by rw [gt], bd, Or.inr ⟨p, by rw [ge 4 (by decide)]; exact hp, rfl, rfl, rfl, rfl⟩⟩))⟩⟩) P1
theorem sm_2two (cx : sm_cx n nc kn xno xrt nK nA nB nL nR) (hlim : lim ≤ 250) (ih : sm_IH xms xnc xsd xlr xls xle yms ync ysp ylr yls yle lim dl n nc kn xno xsk xrt xsj nK nA nB nL nR ysk tS tG P) (vk : sm_vok xtx xtl)
    {f q : Nat} (hK : K ≤ lim) (I : sm_inv K n G) (Y : sm_Y K G fN fC fD fS fA fB fO fP fL fM) (T : sm_T G tE tN) (N : sm_N K nc kn G) (E : sm_e2 K G (f + 1)) (hq : G 4 (f + 1) = q + 1)
    (X : sm_X K G eN eC eD eT eH eR) (hP : (G 2 (q + 1) < G 12 (f + 1) ∧ (250 - K) * 1300 + G 20 (q + 1) + 1 ≤ P) ∨ (250 - K) * 1300 + G 20 (q + 1) + 1021 ≤ P) (k0 : G 1 (q + 1) = 17 ∨ G 1 (q + 1) = 13) (s1 : sm_s1 G (f + 1) (q + 1)) :
    sm_fin xms xnc xsd xlr xls xle yms ync ysp ylr yls yle lim dl n nc kn xno xsk xrt xsj nK nA nB nL nR ysk tS tG P (xms, nI lim, nI dl, xnc, xsd, nI n, xlr, xls, xle, nI K, sm_p (G 18 (f + 1)), nI (G 19 (f + 1)), 1, xtn, nI (G 12 (f + 1)), xtd, sm_p (G 6 (q + 1)), 3, xno, xsk, xrt, xsj, xtx, xtl, xcr, eN, eC, eD, eT, eH, eR, tE, tN) (yms, nI lim, nI dl, ync, ysp, nI n, ylr, yls, yle, nI K, nI K, nI q, 2, nI f, 0, nK, nA, nB, nL, nR, ysk, xrt, xsj, xtx, xtl, xcr, fN, fC, fD, fS, fA, fB, fO, fP, fL, fM, tS, tG) := by
  have lf := E.2.1
  have zf := E.2.2.1
  have hif := E.2.2.2.1
  have op := E.2.2.2.2.1
  rw [hq] at op
  have fK : f + 1 ≤ K := (I.2.1 _ lf).1
  have Lf := I.2.2.1 (f + 1) (Nat.succ_pos f) lf
  rw [hq] at Lf
  have lp := Lf.2.1
  have B := I.2.1 _ lp
  have qf : q + 1 < f + 1 := Lf.1
  have qK1 : q + 1 ≤ K := B.1
  have qK : q < K := B.1
  have K256 : K < 256 := Nat.lt_of_le_of_lt (Nat.le_trans hK hlim) (by decide)
  have q250 : q < 250 := Nat.lt_of_lt_of_le qK (Nat.le_trans hK hlim)
  have q256 : q < 256 := Nat.lt_trans q250 (by decide)
  have f256 : f < 256 := Nat.lt_of_lt_of_le (Nat.lt_of_lt_of_le fK (Nat.le_trans hK hlim)) (by decide)
  have P1 : P - 1 < P := sm_k2 (d' := 0) hP
  have Z := I.2.2.2.1 _ lf zf
  have v1 := Z.2.2.2.1
  have v2 := Z.2.2.2.2.1
  have hnd := (N.2 (q + 1) (Nat.succ_pos q) qK1).1
  have hkd := (N.2 (q + 1) (Nat.succ_pos q) qK1).2.1
  have hd8 := (N.2 (q + 1) (Nat.succ_pos q) qK1).2.2
  have D := cx.2.2.1 _ hnd
  have c16 := cx.2.1
  have i32 : G 0 (q + 1) < 32 := Nat.lt_of_lt_of_le hnd cx.1
  have y1 : fN q = nI (G 0 (q + 1)) := Y.1 q qK
  have y2 : fC q = nI (G 2 (q + 1)) := Y.2.1 q qK
  have y3 : fD q = nI (G 3 (q + 1)) := Y.2.2.1 q qK
  have y5 : fA q = sm_p (G 10 (q + 1)) := Y.2.2.2.2.1 q qK
  have y6 : fB q = sm_p (G 11 (q + 1)) := Y.2.2.2.2.2.1 q qK
  have y7 : fO f = nI (G 12 (f + 1)) := Y.2.2.2.2.2.2.1 (f + 1) (Nat.succ_pos f) lf zf
  have y8 : fP q = sm_p (G 4 (q + 1)) := Y.2.2.2.2.2.2.2.1 q qK
  have hkk : nK (G 0 (q + 1)) = nI (G 1 (q + 1)) := by rw [hkd]; exact D.1
  have hx0 : xno (5 * G 0 (q + 1)) = nI (G 1 (q + 1)) := D.2.2.2.1.trans hkk
  have x1 : eN q = nI (G 0 (q + 1)) := X.1 q qK
  have x2 : eC q = nI (sm_ec G (q + 1)) := X.2.1 q qK
  rw [sm_ne10 (Nat.ne_of_gt (Nat.lt_of_lt_of_le (by decide) Lf.2.2.1))] at x2
  have x3 : eD q = nI (G 3 (q + 1)) := X.2.2.1 q qK
  have x4 : eT q = sm_p (G 6 (q + 1)) := X.2.2.2.1 q qK
  have x5 : eH q = sm_p (G 7 (q + 1)) := X.2.2.2.2.1 q qK
  have Lp := I.2.2.1 (q + 1) (Nat.succ_pos q) lp
  have pq : ∀ p, G 4 (q + 1) = p + 1 → p < 1000 := fun p hp => sm_n3 qK1 (Nat.le_trans hK hlim) Lp.1 hp
  have cm := sm_ccm (f := q + 1) I (Nat.succ_pos q) Lp
  obtain ⟨d1, d2, d3, d4, d5, d6, d7, d8, d9, d10, d11, d12, d13⟩ := s1
  have kne : G 1 (q + 1) ≠ 16 := by omega
  have zA := (I.2.2.2.1 _ d4 d5).1
  have ne : f + 1 ≠ G 10 (q + 1) := by omega
  have a1000 : G 10 (q + 1) < 1000 := by omega
  rw [d3] at y6
  obtain ⟨H, I1, E1, Y1, T1, N1, ge, go, ga, gt, gd⟩ := sm_TP (la := (G 10 (q + 1))) (lb := (f + 1)) (a := (G 18 (f + 1))) (t := (G 19 (f + 1))) (fL' := upd fL q (sm_p (G 10 (q + 1)))) (fM' := upd fM q (sm_p (f + 1))) (tE' := tE) (tN' := tN) I E Y T N hq (Or.inr ⟨d1, rfl, rfl, rfl, rfl⟩) rfl (Or.inr rfl) (Or.inl ⟨kne, rfl, rfl⟩)
  have X1 : sm_X K H eN eC eD eT eH eR := sm_X_s X ge
  have bd := sm_k3 hP Lp.2.2.2.1 cm
  rw [← gd, ← ge 4 (by decide), ← ge 2 (by decide), ← go] at bd
  by_cases z : G 4 (q + 1) = 0
  · rw [z, sm_p0] at y8
    exact sm_fin_y (P' := P - 1) (v1 := (yms, nI lim, nI dl, ync, ysp, nI n, ylr, yls, yle, nI K, nI K, nI q, 2, nI f, 1, nK, nA, nB, nL, nR, ysk, xrt, xsj, xtx, xtl, xcr, fN, fC, fD, fS, fA, fB, upd fO q (nI (G 12 (f + 1))), fP, upd fL q (sm_p (G 10 (q + 1))), upd fM q (sm_p (f + 1)), tS, tG)) (fun post m i hi hl => sy_go hi (fun Q hQ => sy_2two q256 y1 i32 hkk y2 y3 k0 f256 y7 y5 a1000 ne y6 (Or.inl ⟨y8, hQ⟩)) hl) (ih (P - 1) K H P1 vk ⟨rfl, hK, Or.inr ⟨rfl, rfl, I1, Y1, T1, N1, Or.inr (Or.inr (Or.inl ⟨q, E1, X1, rfl, rfl, by rw [go], by rw [ge 6 (by decide)], by rw [ga], by rw [gt], bd, Or.inl ⟨by rw [ge 4 (by decide)]; exact z, rfl⟩⟩))⟩⟩) P1
  · obtain ⟨p, hp⟩ : ∃ p, G 4 (q + 1) = p + 1 := ⟨G 4 (q + 1) - 1, (Nat.succ_pred_eq_of_ne_zero z).symm⟩
    have p9 := pq p hp
    rw [hp, sm_ps] at y8
    exact sm_fin_y (P' := P - 1) (v1 := (yms, nI lim, nI dl, ync, ysp, nI n, ylr, yls, yle, nI K, nI K, nI p, 2, nI q, 0, nK, nA, nB, nL, nR, ysk, xrt, xsj, xtx, xtl, xcr, fN, fC, fD, fS, fA, fB, upd fO q (nI (G 12 (f + 1))), fP, upd fL q (sm_p (G 10 (q + 1))), upd fM q (sm_p (f + 1)), tS, tG)) (fun post m i hi hl => sy_go hi (fun Q hQ => sy_2two q256 y1 i32 hkk y2 y3 k0 f256 y7 y5 a1000 ne y6 (Or.inr ⟨p, p9, y8, hQ⟩)) hl) (ih (P - 1) K H P1 vk ⟨rfl, hK, Or.inr ⟨rfl, rfl, I1, Y1, T1, N1, Or.inr (Or.inr (Or.inl ⟨q, E1, X1, rfl, rfl, by rw [go], by rw [ge 6 (by decide)], by rw [ga], by rw [gt], bd, Or.inr ⟨p, by rw [ge 4 (by decide)]; exact hp, rfl, rfl, rfl, rfl⟩⟩))⟩⟩) P1
theorem sm_2cat (cx : sm_cx n nc kn xno xrt nK nA nB nL nR) (hlim : lim ≤ 250) (ih : sm_IH xms xnc xsd xlr xls xle yms ync ysp ylr yls yle lim dl n nc kn xno xsk xrt xsj nK nA nB nL nR ysk tS tG P) (vk : sm_vok xtx xtl)
    {f q : Nat} (hK : K ≤ lim) (I : sm_inv K n G) (Y : sm_Y K G fN fC fD fS fA fB fO fP fL fM) (T : sm_T G tE tN) (N : sm_N K nc kn G) (E : sm_e2 K G (f + 1)) (hq : G 4 (f + 1) = q + 1)
    (X : sm_X K G eN eC eD eT eH eR) (hP : (G 2 (q + 1) < G 12 (f + 1) ∧ (250 - K) * 1300 + G 20 (q + 1) + 1 ≤ P) ∨ (250 - K) * 1300 + G 20 (q + 1) + 1021 ≤ P) (k0 : G 1 (q + 1) = 17) (s0 : sm_s0 G (f + 1) (q + 1)) :
    sm_fin xms xnc xsd xlr xls xle yms ync ysp ylr yls yle lim dl n nc kn xno xsk xrt xsj nK nA nB nL nR ysk tS tG P (xms, nI lim, nI dl, xnc, xsd, nI n, xlr, xls, xle, nI K, sm_p (G 18 (f + 1)), nI (G 19 (f + 1)), 1, xtn, nI (G 12 (f + 1)), xtd, nI q, 3, xno, xsk, xrt, xsj, xtx, xtl, xcr, eN, eC, eD, eT, eH, eR, tE, tN) (yms, nI lim, nI dl, ync, ysp, nI n, ylr, yls, yle, nI K, nI K, nI q, 2, nI f, 0, nK, nA, nB, nL, nR, ysk, xrt, xsj, xtx, xtl, xcr, fN, fC, fD, fS, fA, fB, fO, fP, fL, fM, tS, tG) := by
  have lf := E.2.1
  have zf := E.2.2.1
  have hif := E.2.2.2.1
  have op := E.2.2.2.2.1
  rw [hq] at op
  have fK : f + 1 ≤ K := (I.2.1 _ lf).1
  have Lf := I.2.2.1 (f + 1) (Nat.succ_pos f) lf
  rw [hq] at Lf
  have lp := Lf.2.1
  have B := I.2.1 _ lp
  have qf : q + 1 < f + 1 := Lf.1
  have qK1 : q + 1 ≤ K := B.1
  have qK : q < K := B.1
  have K256 : K < 256 := Nat.lt_of_le_of_lt (Nat.le_trans hK hlim) (by decide)
  have q250 : q < 250 := Nat.lt_of_lt_of_le qK (Nat.le_trans hK hlim)
  have q256 : q < 256 := Nat.lt_trans q250 (by decide)
  have f256 : f < 256 := Nat.lt_of_lt_of_le (Nat.lt_of_lt_of_le fK (Nat.le_trans hK hlim)) (by decide)
  have P1 : P - 1 < P := sm_k2 (d' := 0) hP
  have Z := I.2.2.2.1 _ lf zf
  have v1 := Z.2.2.2.1
  have v2 := Z.2.2.2.2.1
  have hnd := (N.2 (q + 1) (Nat.succ_pos q) qK1).1
  have hkd := (N.2 (q + 1) (Nat.succ_pos q) qK1).2.1
  have hd8 := (N.2 (q + 1) (Nat.succ_pos q) qK1).2.2
  have D := cx.2.2.1 _ hnd
  have c16 := cx.2.1
  have i32 : G 0 (q + 1) < 32 := Nat.lt_of_lt_of_le hnd cx.1
  have y1 : fN q = nI (G 0 (q + 1)) := Y.1 q qK
  have y2 : fC q = nI (G 2 (q + 1)) := Y.2.1 q qK
  have y3 : fD q = nI (G 3 (q + 1)) := Y.2.2.1 q qK
  have y5 : fA q = sm_p (G 10 (q + 1)) := Y.2.2.2.2.1 q qK
  have y6 : fB q = sm_p (G 11 (q + 1)) := Y.2.2.2.2.2.1 q qK
  have y7 : fO f = nI (G 12 (f + 1)) := Y.2.2.2.2.2.2.1 (f + 1) (Nat.succ_pos f) lf zf
  have y8 : fP q = sm_p (G 4 (q + 1)) := Y.2.2.2.2.2.2.2.1 q qK
  have hkk : nK (G 0 (q + 1)) = nI (G 1 (q + 1)) := by rw [hkd]; exact D.1
  have hx0 : xno (5 * G 0 (q + 1)) = nI (G 1 (q + 1)) := D.2.2.2.1.trans hkk
  have x1 : eN q = nI (G 0 (q + 1)) := X.1 q qK
  have x2 : eC q = nI (sm_ec G (q + 1)) := X.2.1 q qK
  rw [sm_ne10 (Nat.ne_of_gt (Nat.lt_of_lt_of_le (by decide) Lf.2.2.1))] at x2
  have x3 : eD q = nI (G 3 (q + 1)) := X.2.2.1 q qK
  have x4 : eT q = sm_p (G 6 (q + 1)) := X.2.2.2.1 q qK
  have x5 : eH q = sm_p (G 7 (q + 1)) := X.2.2.2.2.1 q qK
  have Lp := I.2.2.1 (q + 1) (Nat.succ_pos q) lp
  have pq : ∀ p, G 4 (q + 1) = p + 1 → p < 1000 := fun p hp => sm_n3 qK1 (Nat.le_trans hK hlim) Lp.1 hp
  have cm := sm_ccm (f := q + 1) I (Nat.succ_pos q) Lp
  have c2 := s0.2.1
  have c4 := s0.2.2.2.1
  rw [c2] at y5
  obtain ⟨l, hl1, hl2⟩ := sm_nd13 D (by rw [← hkd]; omega)
  by_cases full : K = lim
  · exact sm_fin_xy (P' := P - 1) (u1 := (xms, nI lim, nI dl, xnc, xsd, nI n, xlr, xls, xle, nI K, sm_p (G 18 (f + 1)), nI (G 19 (f + 1)), 0, nI l, nI (G 12 (f + 1)), nI (G 3 (q + 1)), sm_p (G 6 (q + 1)), 3, xno, xsk, xrt, xsj, xtx, xtl, xcr, eN, eC, eD, eT, eH, eR, tE, tN)) (v1 := (yms, nI lim, nI dl, ync, ysp, nI n, ylr, yls, yle, nI K, nI K, nI q, 2, nI f, 3, nK, nA, nB, nL, nR, ysk, xrt, xsj, xtx, xtl, xcr, fN, fC, fD, fS, fA, fB, fO, fP, fL, fM, tS, tG)) (fun post m i hi hl => sx_go1 hi (fun Q hQ => sx_1cat q250 x1 i32 hx0 x2 x4 k0 x3 (D.2.2.2.2.2.2.2.1.trans hl2) hQ) hl) (fun post m i hi hl => sy_go hi (fun Q hQ => sy_2cat q256 y1 i32 hkk y2 y3 k0 K256 (by omega) hl2 f256 y7 y5 (fun _ => hQ) (fun z => absurd full z)) hl) (ih (P - 1) K G P1 vk ⟨rfl, hK, Or.inl ⟨full, rfl, rfl, by rw [full]⟩⟩) P1
  · obtain ⟨H, I1, E1, Y1, T1, N1, gx, h0, h2, h3, h6, h7, h8⟩ := sm_TB (nd := l) (dd := G 3 (q + 1)) I E Y T N hq s0.1 (by omega) (Nat.lt_trans hl1 hnd) (cx.2.2.1 l (Nat.lt_trans hl1 hnd)).2.2.1 hd8
    exact sm_fin_xy (P' := P - 1) (u1 := (xms, nI lim, nI dl, xnc, xsd, nI n, xlr, xls, xle, nI K, sm_p (G 18 (f + 1)), nI (G 19 (f + 1)), 0, nI l, nI (G 12 (f + 1)), nI (G 3 (q + 1)), sm_p (G 6 (q + 1)), 3, xno, xsk, xrt, xsj, xtx, xtl, xcr, eN, eC, eD, eT, eH, eR, tE, tN)) (v1 := (yms, nI lim, nI dl, ync, ysp, nI n, ylr, yls, yle, nI (K + 1), nI (K + 1), nI K, 0, nI f, 0, nK, nA, nB, nL, nR, ysk, xrt, xsj, xtx, xtl, xcr, upd fN K (nI l), upd fC K (nI (G 12 (f + 1))), upd fD K (nI (G 3 (q + 1))), upd fS K 0, upd fA K (-1), upd (upd fB K (-1)) q (nI K), upd fO K (-1), upd fP K (nI q), upd fL K (-1), upd fM K (-1), tS, tG)) (fun post m i hi hl => sx_go1 hi (fun Q hQ => sx_1cat q250 x1 i32 hx0 x2 x4 k0 x3 (D.2.2.2.2.2.2.2.1.trans hl2) hQ) hl) (fun post m i hi hl => sy_go hi (fun Q hQ => sy_2cat q256 y1 i32 hkk y2 y3 k0 K256 (by omega) hl2 f256 y7 y5 (fun z => absurd z full) (fun _ => hQ)) hl) (ih (P - 1) (K + 1) H P1 vk ⟨rfl, (sm_k4 hP hK full hlim).1, Or.inr ⟨rfl, rfl, I1, Y1, T1, N1, Or.inl ⟨K, rfl, E1, rfl, rfl, rfl, gx _ _ _ _ _ _ X, rfl, rfl, by rw [h0], by rw [h2], by rw [h3], by rw [h6], by rw [h7], by rw [h8], (sm_k4 hP hK full hlim).2⟩⟩⟩) P1
theorem sm_2arbno (cx : sm_cx n nc kn xno xrt nK nA nB nL nR) (hlim : lim ≤ 250) (ih : sm_IH xms xnc xsd xlr xls xle yms ync ysp ylr yls yle lim dl n nc kn xno xsk xrt xsj nK nA nB nL nR ysk tS tG P) (vk : sm_vok xtx xtl)
    {f q : Nat} (hK : K ≤ lim) (I : sm_inv K n G) (Y : sm_Y K G fN fC fD fS fA fB fO fP fL fM) (T : sm_T G tE tN) (N : sm_N K nc kn G) (E : sm_e2 K G (f + 1)) (hq : G 4 (f + 1) = q + 1)
    (X : sm_X K G eN eC eD eT eH eR) (hP : (G 2 (q + 1) < G 12 (f + 1) ∧ (250 - K) * 1300 + G 20 (q + 1) + 1 ≤ P) ∨ (250 - K) * 1300 + G 20 (q + 1) + 1021 ≤ P) (k0 : G 1 (q + 1) = 13) (s0 : sm_s0 G (f + 1) (q + 1)) (ne : G 12 (f + 1) ≠ G 2 (q + 1)) :
    sm_fin xms xnc xsd xlr xls xle yms ync ysp ylr yls yle lim dl n nc kn xno xsk xrt xsj nK nA nB nL nR ysk tS tG P (xms, nI lim, nI dl, xnc, xsd, nI n, xlr, xls, xle, nI K, sm_p (G 18 (f + 1)), nI (G 19 (f + 1)), 1, xtn, nI (G 12 (f + 1)), xtd, nI q, 3, xno, xsk, xrt, xsj, xtx, xtl, xcr, eN, eC, eD, eT, eH, eR, tE, tN) (yms, nI lim, nI dl, ync, ysp, nI n, ylr, yls, yle, nI K, nI K, nI q, 2, nI f, 0, nK, nA, nB, nL, nR, ysk, xrt, xsj, xtx, xtl, xcr, fN, fC, fD, fS, fA, fB, fO, fP, fL, fM, tS, tG) := by
  have lf := E.2.1
  have zf := E.2.2.1
  have hif := E.2.2.2.1
  have op := E.2.2.2.2.1
  rw [hq] at op
  have fK : f + 1 ≤ K := (I.2.1 _ lf).1
  have Lf := I.2.2.1 (f + 1) (Nat.succ_pos f) lf
  rw [hq] at Lf
  have lp := Lf.2.1
  have B := I.2.1 _ lp
  have qf : q + 1 < f + 1 := Lf.1
  have qK1 : q + 1 ≤ K := B.1
  have qK : q < K := B.1
  have K256 : K < 256 := Nat.lt_of_le_of_lt (Nat.le_trans hK hlim) (by decide)
  have q250 : q < 250 := Nat.lt_of_lt_of_le qK (Nat.le_trans hK hlim)
  have q256 : q < 256 := Nat.lt_trans q250 (by decide)
  have f256 : f < 256 := Nat.lt_of_lt_of_le (Nat.lt_of_lt_of_le fK (Nat.le_trans hK hlim)) (by decide)
  have P1 : P - 1 < P := sm_k2 (d' := 0) hP
  have Z := I.2.2.2.1 _ lf zf
  have v1 := Z.2.2.2.1
  have v2 := Z.2.2.2.2.1
  have hnd := (N.2 (q + 1) (Nat.succ_pos q) qK1).1
  have hkd := (N.2 (q + 1) (Nat.succ_pos q) qK1).2.1
  have hd8 := (N.2 (q + 1) (Nat.succ_pos q) qK1).2.2
  have D := cx.2.2.1 _ hnd
  have c16 := cx.2.1
  have i32 : G 0 (q + 1) < 32 := Nat.lt_of_lt_of_le hnd cx.1
  have y1 : fN q = nI (G 0 (q + 1)) := Y.1 q qK
  have y2 : fC q = nI (G 2 (q + 1)) := Y.2.1 q qK
  have y3 : fD q = nI (G 3 (q + 1)) := Y.2.2.1 q qK
  have y5 : fA q = sm_p (G 10 (q + 1)) := Y.2.2.2.2.1 q qK
  have y6 : fB q = sm_p (G 11 (q + 1)) := Y.2.2.2.2.2.1 q qK
  have y7 : fO f = nI (G 12 (f + 1)) := Y.2.2.2.2.2.2.1 (f + 1) (Nat.succ_pos f) lf zf
  have y8 : fP q = sm_p (G 4 (q + 1)) := Y.2.2.2.2.2.2.2.1 q qK
  have hkk : nK (G 0 (q + 1)) = nI (G 1 (q + 1)) := by rw [hkd]; exact D.1
  have hx0 : xno (5 * G 0 (q + 1)) = nI (G 1 (q + 1)) := D.2.2.2.1.trans hkk
  have x1 : eN q = nI (G 0 (q + 1)) := X.1 q qK
  have x2 : eC q = nI (sm_ec G (q + 1)) := X.2.1 q qK
  rw [sm_ne10 (Nat.ne_of_gt (Nat.lt_of_lt_of_le (by decide) Lf.2.2.1))] at x2
  have x3 : eD q = nI (G 3 (q + 1)) := X.2.2.1 q qK
  have x4 : eT q = sm_p (G 6 (q + 1)) := X.2.2.2.1 q qK
  have x5 : eH q = sm_p (G 7 (q + 1)) := X.2.2.2.2.1 q qK
  have Lp := I.2.2.1 (q + 1) (Nat.succ_pos q) lp
  have pq : ∀ p, G 4 (q + 1) = p + 1 → p < 1000 := fun p hp => sm_n3 qK1 (Nat.le_trans hK hlim) Lp.1 hp
  have cm := sm_ccm (f := q + 1) I (Nat.succ_pos q) Lp
  have c2 := s0.2.1
  have c4 := s0.2.2.2.1
  rw [c2] at y5
  have nI_ne : ¬ nI (G 12 (f + 1)) = nI (G 2 (q + 1)) := sm_ne _ ne (by omega) (by omega)
  by_cases full : K = lim
  · exact sm_fin_xy (P' := P - 1) (u1 := (xms, nI lim, nI dl, xnc, xsd, nI n, xlr, xls, xle, nI K, sm_p (G 18 (f + 1)), nI (G 19 (f + 1)), 0, nI (G 0 (q + 1)), nI (G 12 (f + 1)), nI (G 3 (q + 1)), sm_p (G 6 (q + 1)), 3, xno, xsk, xrt, xsj, xtx, xtl, xcr, eN, eC, eD, eT, eH, eR, tE, tN)) (v1 := (yms, nI lim, nI dl, ync, ysp, nI n, ylr, yls, yle, nI K, nI K, nI q, 2, nI f, 3, nK, nA, nB, nL, nR, ysk, xrt, xsj, xtx, xtl, xcr, fN, fC, fD, fS, fA, fB, fO, fP, fL, fM, tS, tG)) (fun post m i hi hl => sx_go1 hi (fun Q hQ => sx_1arbno q250 x1 i32 hx0 x2 x4 k0 nI_ne x3 hQ) hl) (fun post m i hi hl => sy_go hi (fun Q hQ => sy_2arbno q256 y1 i32 hkk y2 y3 k0 K256 (by omega) f256 y7 y5 (by omega) (by omega) ne (fun _ => hQ) (fun z => absurd full z)) hl) (ih (P - 1) K G P1 vk ⟨rfl, hK, Or.inl ⟨full, rfl, rfl, by rw [full]⟩⟩) P1
  · obtain ⟨H, I1, E1, Y1, T1, N1, gx, h0, h2, h3, h6, h7, h8⟩ := sm_TB (nd := (G 0 (q + 1))) (dd := G 3 (q + 1)) I E Y T N hq s0.1 (by omega) hnd (by rw [← hkd]; omega) hd8
    exact sm_fin_xy (P' := P - 1) (u1 := (xms, nI lim, nI dl, xnc, xsd, nI n, xlr, xls, xle, nI K, sm_p (G 18 (f + 1)), nI (G 19 (f + 1)), 0, nI (G 0 (q + 1)), nI (G 12 (f + 1)), nI (G 3 (q + 1)), sm_p (G 6 (q + 1)), 3, xno, xsk, xrt, xsj, xtx, xtl, xcr, eN, eC, eD, eT, eH, eR, tE, tN)) (v1 := (yms, nI lim, nI dl, ync, ysp, nI n, ylr, yls, yle, nI (K + 1), nI (K + 1), nI K, 0, nI f, 0, nK, nA, nB, nL, nR, ysk, xrt, xsj, xtx, xtl, xcr, upd fN K (nI (G 0 (q + 1))), upd fC K (nI (G 12 (f + 1))), upd fD K (nI (G 3 (q + 1))), upd fS K 0, upd fA K (-1), upd (upd fB K (-1)) q (nI K), upd fO K (-1), upd fP K (nI q), upd fL K (-1), upd fM K (-1), tS, tG)) (fun post m i hi hl => sx_go1 hi (fun Q hQ => sx_1arbno q250 x1 i32 hx0 x2 x4 k0 nI_ne x3 hQ) hl) (fun post m i hi hl => sy_go hi (fun Q hQ => sy_2arbno q256 y1 i32 hkk y2 y3 k0 K256 (by omega) f256 y7 y5 (by omega) (by omega) ne (fun z => absurd z full) (fun _ => hQ)) hl) (ih (P - 1) (K + 1) H P1 vk ⟨rfl, (sm_k4 hP hK full hlim).1, Or.inr ⟨rfl, rfl, I1, Y1, T1, N1, Or.inl ⟨K, rfl, E1, rfl, rfl, rfl, gx _ _ _ _ _ _ X, rfl, rfl, by rw [h0], by rw [h2], by rw [h3], by rw [h6], by rw [h7], by rw [h8], (sm_k4 hP hK full hlim).2⟩⟩⟩) P1
theorem sm_2skip (cx : sm_cx n nc kn xno xrt nK nA nB nL nR) (hlim : lim ≤ 250) (ih : sm_IH xms xnc xsd xlr xls xle yms ync ysp ylr yls yle lim dl n nc kn xno xsk xrt xsj nK nA nB nL nR ysk tS tG P) (vk : sm_vok xtx xtl)
    {f q : Nat} (hK : K ≤ lim) (I : sm_inv K n G) (Y : sm_Y K G fN fC fD fS fA fB fO fP fL fM) (T : sm_T G tE tN) (N : sm_N K nc kn G) (E : sm_e2 K G (f + 1)) (hq : G 4 (f + 1) = q + 1)
    (X : sm_X K G eN eC eD eT eH eR) (hP : (G 2 (q + 1) < G 12 (f + 1) ∧ (250 - K) * 1300 + G 20 (q + 1) + 1 ≤ P) ∨ (250 - K) * 1300 + G 20 (q + 1) + 1021 ≤ P) (k0 : G 1 (q + 1) = 13) (s0 : sm_s0 G (f + 1) (q + 1)) (ev : G 12 (f + 1) = G 2 (q + 1)) :
    sm_fin xms xnc xsd xlr xls xle yms ync ysp ylr yls yle lim dl n nc kn xno xsk xrt xsj nK nA nB nL nR ysk tS tG P (xms, nI lim, nI dl, xnc, xsd, nI n, xlr, xls, xle, nI K, sm_p (G 18 (f + 1)), nI (G 19 (f + 1)), 1, xtn, nI (G 12 (f + 1)), xtd, nI q, 3, xno, xsk, xrt, xsj, xtx, xtl, xcr, eN, eC, eD, eT, eH, eR, tE, tN) (yms, nI lim, nI dl, ync, ysp, nI n, ylr, yls, yle, nI K, nI K, nI q, 2, nI f, 0, nK, nA, nB, nL, nR, ysk, xrt, xsj, xtx, xtl, xcr, fN, fC, fD, fS, fA, fB, fO, fP, fL, fM, tS, tG) := by
  have lf := E.2.1
  have zf := E.2.2.1
  have hif := E.2.2.2.1
  have op := E.2.2.2.2.1
  rw [hq] at op
  have fK : f + 1 ≤ K := (I.2.1 _ lf).1
  have Lf := I.2.2.1 (f + 1) (Nat.succ_pos f) lf
  rw [hq] at Lf
  have lp := Lf.2.1
  have B := I.2.1 _ lp
  have qf : q + 1 < f + 1 := Lf.1
  have qK1 : q + 1 ≤ K := B.1
  have qK : q < K := B.1
  have K256 : K < 256 := Nat.lt_of_le_of_lt (Nat.le_trans hK hlim) (by decide)
  have q250 : q < 250 := Nat.lt_of_lt_of_le qK (Nat.le_trans hK hlim)
  have q256 : q < 256 := Nat.lt_trans q250 (by decide)
  have f256 : f < 256 := Nat.lt_of_lt_of_le (Nat.lt_of_lt_of_le fK (Nat.le_trans hK hlim)) (by decide)
  have P1 : P - 1 < P := sm_k2 (d' := 0) hP
  have Z := I.2.2.2.1 _ lf zf
  have v1 := Z.2.2.2.1
  have v2 := Z.2.2.2.2.1
  have hnd := (N.2 (q + 1) (Nat.succ_pos q) qK1).1
  have hkd := (N.2 (q + 1) (Nat.succ_pos q) qK1).2.1
  have hd8 := (N.2 (q + 1) (Nat.succ_pos q) qK1).2.2
  have D := cx.2.2.1 _ hnd
  have c16 := cx.2.1
  have i32 : G 0 (q + 1) < 32 := Nat.lt_of_lt_of_le hnd cx.1
  have y1 : fN q = nI (G 0 (q + 1)) := Y.1 q qK
  have y2 : fC q = nI (G 2 (q + 1)) := Y.2.1 q qK
  have y3 : fD q = nI (G 3 (q + 1)) := Y.2.2.1 q qK
  have y5 : fA q = sm_p (G 10 (q + 1)) := Y.2.2.2.2.1 q qK
  have y6 : fB q = sm_p (G 11 (q + 1)) := Y.2.2.2.2.2.1 q qK
  have y7 : fO f = nI (G 12 (f + 1)) := Y.2.2.2.2.2.2.1 (f + 1) (Nat.succ_pos f) lf zf
  have y8 : fP q = sm_p (G 4 (q + 1)) := Y.2.2.2.2.2.2.2.1 q qK
  have hkk : nK (G 0 (q + 1)) = nI (G 1 (q + 1)) := by rw [hkd]; exact D.1
  have hx0 : xno (5 * G 0 (q + 1)) = nI (G 1 (q + 1)) := D.2.2.2.1.trans hkk
  have x1 : eN q = nI (G 0 (q + 1)) := X.1 q qK
  have x2 : eC q = nI (sm_ec G (q + 1)) := X.2.1 q qK
  rw [sm_ne10 (Nat.ne_of_gt (Nat.lt_of_lt_of_le (by decide) Lf.2.2.1))] at x2
  have x3 : eD q = nI (G 3 (q + 1)) := X.2.2.1 q qK
  have x4 : eT q = sm_p (G 6 (q + 1)) := X.2.2.2.1 q qK
  have x5 : eH q = sm_p (G 7 (q + 1)) := X.2.2.2.2.1 q qK
  have Lp := I.2.2.1 (q + 1) (Nat.succ_pos q) lp
  have pq : ∀ p, G 4 (q + 1) = p + 1 → p < 1000 := fun p hp => sm_n3 qK1 (Nat.le_trans hK hlim) Lp.1 hp
  have cm := sm_ccm (f := q + 1) I (Nat.succ_pos q) Lp
  have c2 := s0.2.1
  have c4 := s0.2.2.2.1
  rw [c2] at y5
  have e1 : sm_e1 G (f + 1) := ⟨Nat.succ_pos f, lf, zf, by rw [hq]; exact op, fun g lg => by have := (I.2.1 g lg).1; omega⟩
  exact sm_fin_xy (P' := P - 1) (u1 := (xms, nI lim, nI dl, xnc, xsd, nI n, xlr, xls, xle, nI K, sm_p (G 18 (f + 1)), nI (G 19 (f + 1)), 2, xtn, nI (G 12 (f + 1)), xtd, sm_p (G 6 (q + 1)), 3, xno, xsk, xrt, xsj, xtx, xtl, xcr, eN, eC, eD, eT, eH, eR, tE, tN)) (v1 := (yms, nI lim, nI dl, ync, ysp, nI n, ylr, yls, yle, nI K, nI K, nI f, 1, nI f, 0, nK, nA, nB, nL, nR, ysk, xrt, xsj, xtx, xtl, xcr, fN, fC, fD, fS, fA, fB, fO, fP, fL, fM, tS, tG)) (fun post m i hi hl => sx_go1 hi (fun Q hQ => sx_1skip q250 x1 i32 hx0 x2 x4 k0 (sm_eqI ev) hQ) hl) (fun post m i hi hl => sy_go hi (fun Q hQ => sy_2skip q256 y1 i32 hkk y2 y3 k0 f256 y7 y5 ev fK (by omega) hQ) hl) (ih (P - 1) K G P1 vk ⟨rfl, hK, Or.inr ⟨rfl, rfl, I, Y, T, N, Or.inr (Or.inl ⟨f, e1, rfl, rfl, rfl, X, rfl, rfl, rfl, sm_k5 hP ev hK hlim hif⟩)⟩⟩) P1
theorem sm_ev2 (cx : sm_cx n nc kn xno xrt nK nA nB nL nR) (hlim : lim ≤ 250) (ih : sm_IH xms xnc xsd xlr xls xle yms ync ysp ylr yls yle lim dl n nc kn xno xsk xrt xsj nK nA nB nL nR ysk tS tG P) (vk : sm_vok xtx xtl)
    {f q : Nat} (hK : K ≤ lim) (I : sm_inv K n G) (Y : sm_Y K G fN fC fD fS fA fB fO fP fL fM) (T : sm_T G tE tN) (N : sm_N K nc kn G) (E : sm_e2 K G (f + 1)) (hq : G 4 (f + 1) = q + 1)
    (X : sm_X K G eN eC eD eT eH eR) (hP : (G 2 (q + 1) < G 12 (f + 1) ∧ (250 - K) * 1300 + G 20 (q + 1) + 1 ≤ P) ∨ (250 - K) * 1300 + G 20 (q + 1) + 1021 ≤ P) (sj : sm_ch xsj 16) :
    sm_fin xms xnc xsd xlr xls xle yms ync ysp ylr yls yle lim dl n nc kn xno xsk xrt xsj nK nA nB nL nR ysk tS tG P (xms, nI lim, nI dl, xnc, xsd, nI n, xlr, xls, xle, nI K, sm_p (G 18 (f + 1)), nI (G 19 (f + 1)), 1, xtn, nI (G 12 (f + 1)), xtd, sm_p (G 6 (f + 1)), 3, xno, xsk, xrt, xsj, xtx, xtl, xcr, eN, eC, eD, eT, eH, eR, tE, tN) (yms, nI lim, nI dl, ync, ysp, nI n, ylr, yls, yle, nI K, nI K, nI q, 2, nI f, 0, nK, nA, nB, nL, nR, ysk, xrt, xsj, xtx, xtl, xcr, fN, fC, fD, fS, fA, fB, fO, fP, fL, fM, tS, tG) := by
  have L := I.2.2.1 (f + 1) (Nat.succ_pos f) E.2.1
  rw [hq] at L
  have k12 := L.2.2.1
  have k18 := (I.2.1 _ L.2.1).2.2.2.2.1
  rcases L.2.2.2.2.2.2 with s0 | s1
  · obtain ⟨c1, c2, c3, c4, c5, c6⟩ := s0
    rcases c5 with ⟨k0, t⟩ | ⟨ka, kb, t⟩
    · rw [t]
      exact sm_2pass cx hlim ih vk hK I Y T N E hq X hP k0 ⟨c1, c2, c3, c4, Or.inl ⟨k0, t⟩, c6⟩
    · have s0 : sm_s0 G (f + 1) (q + 1) := ⟨c1, c2, c3, c4, Or.inr ⟨ka, kb, t⟩, c6⟩
      rw [t, sm_ps]
      have ks : G 1 (q + 1) = 13 ∨ G 1 (q + 1) = 14 ∨ G 1 (q + 1) = 15 ∨ G 1 (q + 1) = 16 ∨ G 1 (q + 1) = 17 := by omega
      rcases ks with k0 | k0 | k0 | k0 | k0
      · by_cases ev : G 12 (f + 1) = G 2 (q + 1)
        · exact sm_2skip cx hlim ih vk hK I Y T N E hq X hP k0 s0 ev
        · exact sm_2arbno cx hlim ih vk hK I Y T N E hq X hP k0 s0 ev
      · exact sm_2fence cx hlim ih vk hK I Y T N E hq X hP k0 s0
      · exact sm_2imm cx hlim ih vk hK I Y T N E hq X hP k0 s0 sj
      · exact sm_2cond cx hlim ih vk hK I Y T N E hq X hP k0 s0
      · exact sm_2cat cx hlim ih vk hK I Y T N E hq X hP k0 s0
  · have k0 : G 1 (q + 1) = 17 ∨ G 1 (q + 1) = 13 := by have := s1.2.1; omega
    have t := s1.2.2.2.2.2.2.2.2.2.2.2.1
    rw [t]
    exact sm_2two cx hlim ih vk hK I Y T N E hq X hP k0 s1
end
