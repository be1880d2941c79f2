section
variable {xms xsl xdl xnc xsd xn xlr xls xle xst xnw xtc xtu xtn xcu xtd xtt xsr : Int32} {xno xsk xrt xsj xtx xtl xcr eN eC eD eT eH eR tE tN : Nat → Int32}
theorem sm_leafX11 {n c : Nat} {xa xb : Int32} (post : Int32 → Prop) (hp : post (nI c)) : wpX_leafEnd post (xms, xsl, xdl, xnc, xsd, nI n, xlr, xls, xle, xst, xnw, xtc, xtu, xtn, xcu, xtd, xtt, xsr, xno, xsk, xrt, xsj, xtx, xtl, xcr, eN, eC, eD, eT, eH, eR, tE, tN) 11 xa xb (nI c) :=
  br_f (by decide) (br_f (by decide) (br_f (by decide) (br_f (by decide) (br_f (by decide) (br_f (by decide) (br_f (by decide) (br_f (by decide) (br_f (by decide) (br_f (by decide) (br_f (by decide) (br_f (by decide) (br_t rfl hp))))))))))))
end
section
variable {yms ysl ydl ync ysp yn ylr yls yle yfc yst ycf yev yfr ydo : Int32} {nK nA nB nL nR ysk yrt ysj ytx ytl ycr fN fC fD fS fA fB fO fP fL fM tS tG : Nat → Int32}
theorem sm_leafY11 {i n c : Nat} (hi : i < 32) (hk : nK i = 11) (post : Int32 → Prop) (hp : post (nI c)) : wpY_leafValue post (yms, ysl, ydl, ync, ysp, nI n, ylr, yls, yle, yfc, yst, ycf, yev, yfr, ydo, nK, nA, nB, nL, nR, ysk, yrt, ysj, ytx, ytl, ycr, fN, fC, fD, fS, fA, fB, fO, fP, fL, fM, tS, tG) (nI i) (nI c) :=
  ⟨vp_in_nI hi (by omega), nm_r (sm_cg (by omega) hk) ⟨vp_in_nI hi (by omega), nm_r rfl ⟨vp_in_nI hi (by omega), nm_r rfl (br_f (by decide) (br_t rfl hp))⟩⟩⟩
end
theorem sm_nd9 {kn : Nat → Nat} {xno nK nA nB nL nR : Nat → Int32} {i : Nat} (D : sm_nd kn xno nK nA nB nL nR i) : 4 ≤ kn i → kn i ≤ 6 → ∃ a, a ≤ 16 ∧ nA i = nI a := D.2.2.2.2.2.2.2.2.1
theorem sm_nd10 {kn : Nat → Nat} {xno nK nA nB nL nR : Nat → Int32} {i : Nat} (D : sm_nd kn xno nK nA nB nL nR i) : kn i = 11 ∨ kn i = 15 ∨ kn i = 16 → ∃ a, a ≤ 7 ∧ nA i = nI a := D.2.2.2.2.2.2.2.2.2.1
theorem sm_nd11 {kn : Nat → Nat} {xno nK nA nB nL nR : Nat → Int32} {i : Nat} (D : sm_nd kn xno nK nA nB nL nR i) : kn i = 12 → ∃ a, a ≤ 3 ∧ nA i = nI a := D.2.2.2.2.2.2.2.2.2.2.1
theorem sm_nd12 {kn : Nat → Nat} {xno nK nA nB nL nR : Nat → Int32} {i : Nat} (D : sm_nd kn xno nK nA nB nL nR i) : 13 ≤ kn i → ∃ l, l < i ∧ nL i = nI l := D.2.2.2.2.2.2.2.2.2.2.2.1
theorem sm_nd13 {kn : Nat → Nat} {xno nK nA nB nL nR : Nat → Int32} {i : Nat} (D : sm_nd kn xno nK nA nB nL nR i) : 17 ≤ kn i → ∃ r, r < i ∧ nR i = nI r := D.2.2.2.2.2.2.2.2.2.2.2.2
theorem sm_n1 {k lim : Nat} (h : k + 1 ≤ lim) (h2 : lim ≤ 250) : k < 256 := by omega
theorem sm_n2 {P a : Nat} (h : a + 1280 ≤ P) : P - 1 < P := by omega
theorem sm_n3 {k lim p q : Nat} (h : k + 1 ≤ lim) (h2 : lim ≤ 250) (hp : p < k + 1) (hq : p = q + 1) : q < 1000 := by omega
theorem sm_n4 {k lim P d p : Nat} (h : k + 1 ≤ lim) (h2 : lim ≤ 250) (hP : (250 - (k + 1)) * 1300 + 1280 ≤ P) (hp : p < k + 1) (hd : d ≤ p) : (250 - (k + 1)) * 1300 + d + 1021 ≤ P - 1 := by omega
theorem sm_n5 {k lim P d : Nat} (h : k + 1 ≤ lim) (h2 : lim ≤ 250) (hP : (250 - (k + 1)) * 1300 + 1280 ≤ P) : (250 - (k + 1)) * 1300 + 260 + 3 * (k + 1) ≤ P - 1 + d := by omega
theorem sm_n6 {k lim P : Nat} (h : k + 1 ≤ lim) (hn : ¬ k + 1 = lim) (h2 : lim ≤ 250) (hP : (250 - (k + 1)) * 1300 + 1280 ≤ P) : k + 1 + 1 ≤ lim ∧ (250 - (k + 1 + 1)) * 1300 + 1280 ≤ P - 1 := by omega
theorem sm_n7 {e : Nat} {n : Nat} (h : e ≤ n) (hn : n ≤ 16) : e < 2 ^ 31 := by omega
theorem sm_ka {a : Nat} (h : a ≤ 11 ∧ a ≠ 10 ∧ a ≠ 11) : a ≤ 11 ∧ a ≠ 10 ∧ a ≠ 13 := by omega
theorem sm_kb {a : Nat} (h : a = 14 ∨ a = 15 ∨ a = 16 ∨ a = 17) : 12 ≤ a ∧ a ≠ 13 ∧ a ≠ 12 ∧ a ≠ 18 ∧ a ≠ 10 ∧ 14 ≤ a ∧ a ≤ 18 := by omega
theorem sm_kc {a b : Nat} (h : a = b) (hb : b ≠ 10) : a ≠ 10 := by omega

section
variable {xms xnc xsd xlr xls xle yms ync ysp ylr yls yle : Int32} {lim dl n nc : Nat} {kn : Nat → Nat} {xno xsk xrt xsj nK nA nB nL nR ysk tS tG : Nat → Int32}
variable {xst xnw xtc xtu xtn xcu xtd xtt xsr yfc yst ycf yev yfr ydo : Int32} {xtx xtl xcr eN eC eD eT eH eR tE tN fN fC fD fS fA fB fO fP fL fM : Nat → Int32}
variable {P : Nat} {G : Nat → Nat → Nat}

-- K_ARB
theorem sm_0arb (cx : sm_cx n nc kn xno xrt nK nA nB nL nR) (hlim : lim ≤ 250) (ih : sm_IH xms xnc xsd xlr xls xle yms ync ysp ylr yls yle lim dl n nc kn xno xsk xrt xsj nK nA nB nL nR ysk tS tG P) (vk : sm_vok xtx xtl)
    {k : Nat} (hK : k + 1 ≤ lim) (I : sm_inv (k + 1) n G) (Y : sm_Y (k + 1) G fN fC fD fS fA fB fO fP fL fM) (T : sm_T G tE tN) (N : sm_N (k + 1) nc kn G) (E : sm_e0 (k + 1) G)
    (X : sm_X k G eN eC eD eT eH eR) (hP : (250 - (k + 1)) * 1300 + 1280 ≤ P) (k0 : G 1 (k + 1) = 10) :
    sm_fin xms xnc xsd xlr xls xle yms ync ysp ylr yls yle lim dl n nc kn xno xsk xrt xsj nK nA nB nL nR ysk tS tG P (xms, nI lim, nI dl, xnc, xsd, nI n, xlr, xls, xle, nI k, sm_p (G 7 (k + 1)), nI (G 8 (k + 1)), 0, nI (G 0 (k + 1)), nI (G 2 (k + 1)), nI (G 3 (k + 1)), sm_p (G 6 (k + 1)), 3, xno, xsk, xrt, xsj, xtx, xtl, xcr, eN, eC, eD, eT, eH, eR, tE, tN) (yms, nI lim, nI dl, ync, ysp, nI n, ylr, yls, yle, nI (k + 1), nI (k + 1), nI k, 0, yfr, 0, nK, nA, nB, nL, nR, ysk, xrt, xsj, xtx, xtl, xcr, fN, fC, fD, fS, fA, fB, fO, fP, fL, fM, tS, tG) := by
  have k256 : k < 256 := sm_n1 hK hlim
  have kl : k < lim := hK
  have P1 : P - 1 < P := sm_n2 hP
  have lK := E.2.1
  have oK := E.2.2.1
  have laK := E.2.2.2.1
  have lbK := E.2.2.2.2.1
  have hnd := (N.2 (k + 1) (Nat.succ_pos k) (Nat.le_refl _)).1
  have hkd := (N.2 (k + 1) (Nat.succ_pos k) (Nat.le_refl _)).2.1
  have hd8 := (N.2 (k + 1) (Nat.succ_pos k) (Nat.le_refl _)).2.2
  have D := cx.2.2.1 _ hnd
  have i32 : G 0 (k + 1) < 32 := Nat.lt_of_lt_of_le hnd cx.1
  have y1 : fN k = nI (G 0 (k + 1)) := Y.1 k (Nat.lt_succ_self k)
  have y2 : fC k = nI (G 2 (k + 1)) := Y.2.1 k (Nat.lt_succ_self k)
  have y3 : fD k = nI (G 3 (k + 1)) := Y.2.2.1 k (Nat.lt_succ_self k)
  have y8 : fP k = sm_p (G 4 (k + 1)) := Y.2.2.2.2.2.2.2.1 k (Nat.lt_succ_self k)
  have hkk : nK (G 0 (k + 1)) = nI (G 1 (k + 1)) := by rw [hkd]; exact D.1
  have hx0 : xno (5 * G 0 (k + 1)) = nI (G 1 (k + 1)) := D.2.2.2.1.trans hkk
  have b3 := (I.2.1 _ lK).2.2.1
  have c16 := cx.2.1
  have c32 := cx.1
  have kd0 := D.2.1
  have kd1 := D.2.2.1
  have d5 := D.2.2.2.2.1
  have d6 := D.2.2.2.2.2.1
  have d7 := D.2.2.2.2.2.2.1
  have d8 := D.2.2.2.2.2.2.2.1
  have top : ∀ h, G 15 h = 1 → h ≤ k + 1 := fun h lh => (I.2.1 h lh).1
  have L := I.2.2.1 (k + 1) (Nat.succ_pos k) lK
  have op : G 16 (G 4 (k + 1)) ≠ 1 := fun z => oK (L.2.2.2.2.1 z)
  have pq : ∀ q, G 4 (k + 1) = q + 1 → q < 1000 := fun q hq => sm_n3 hK hlim L.1 hq
  have dq := (I.2.1 _ L.2.1).2.2.2.1
  obtain ⟨H, I1, E1, Y1, T1, N1, g8, g9, gs, go, ga, gt, gd⟩ := sm_T2 (v := (G 2 (k + 1))) (s := (G 2 (k + 1))) (a := (k + 1)) (fS' := upd fS k (nI (G 2 (k + 1)))) I Y T N lK oK top (Nat.le_refl _) b3 laK lbK (Or.inr rfl) (Or.inr (Or.inl ⟨k0, rfl, rfl⟩))
  have X1 := sm_X_push X g8 g9 (fun _ => gs)
  have bd : (250 - (k + 1)) * 1300 + H 20 (H 4 (k + 1)) + 1021 ≤ P - 1 := by rw [g8 4 _ (by decide), gd]; exact sm_n4 hK hlim hP L.1 dq
  by_cases q : G 4 (k + 1) = 0
  · rw [q, sm_p0] at y8
    refine sm_fin_xy (P' := P - 1) (u1 := (xms, nI lim, nI dl, xnc, xsd, nI n, xlr, xls, xle, nI (k + 1), nI k, nI (G 8 (k + 1)), 1, nI (G 0 (k + 1)), nI (G 2 (k + 1)), nI (G 3 (k + 1)), sm_p (G 6 (k + 1)), 3, xno, xsk, xrt, xsj, xtx, xtl, xcr, upd eN k (nI (G 0 (k + 1))), upd eC k (nI (G 2 (k + 1))), upd eD k (nI (G 3 (k + 1))), upd eT k (sm_p (G 6 (k + 1))), upd eH k (sm_p (G 7 (k + 1))), upd eR k (nI (G 8 (k + 1))), tE, tN)) (v1 := (yms, nI lim, nI dl, ync, ysp, nI n, ylr, yls, yle, nI (k + 1), nI (k + 1), nI k, 0, yfr, 1, nK, nA, nB, nL, nR, ysk, xrt, xsj, xtx, xtl, xcr, fN, fC, fD, upd fS k (nI (G 2 (k + 1))), fA, fB, upd fO k (nI (G 2 (k + 1))), fP, fL, fM, tS, tG)) (fun post m i hi hl => sx_go0 hi (fun Q hq => sx_0arb kl hlim i32 hx0 k0 hq) hl) (fun post m i hi hl => sy_go hi (fun Q hq => sy_0arb k256 y1 i32 hkk y2 y3 k0 (Or.inl ⟨y8, hq⟩)) hl) (ih (P - 1) (k + 1) H P1 vk ⟨rfl, hK, Or.inr ⟨rfl, rfl, I1, Y1, T1, N1, Or.inr (Or.inr (Or.inl ⟨k, E1, X1, rfl, rfl, by rw [go], by rw [g8 6 _ (by decide)], by rw [ga, sm_ps], by rw [gt], Or.inr bd, Or.inl ⟨by rw [g8 4 _ (by decide)]; exact q, rfl⟩⟩))⟩⟩) P1
  · obtain ⟨q', hq'⟩ : ∃ q', G 4 (k + 1) = q' + 1 := ⟨G 4 (k + 1) - 1, (Nat.succ_pred_eq_of_ne_zero q).symm⟩
    have q9 := pq q' hq'
    rw [hq', sm_ps] at y8
    refine sm_fin_xy (P' := P - 1) (u1 := (xms, nI lim, nI dl, xnc, xsd, nI n, xlr, xls, xle, nI (k + 1), nI k, nI (G 8 (k + 1)), 1, nI (G 0 (k + 1)), nI (G 2 (k + 1)), nI (G 3 (k + 1)), sm_p (G 6 (k + 1)), 3, xno, xsk, xrt, xsj, xtx, xtl, xcr, upd eN k (nI (G 0 (k + 1))), upd eC k (nI (G 2 (k + 1))), upd eD k (nI (G 3 (k + 1))), upd eT k (sm_p (G 6 (k + 1))), upd eH k (sm_p (G 7 (k + 1))), upd eR k (nI (G 8 (k + 1))), tE, tN)) (v1 := (yms, nI lim, nI dl, ync, ysp, nI n, ylr, yls, yle, nI (k + 1), nI (k + 1), nI q', 2, nI k, 0, nK, nA, nB, nL, nR, ysk, xrt, xsj, xtx, xtl, xcr, fN, fC, fD, upd fS k (nI (G 2 (k + 1))), fA, fB, upd fO k (nI (G 2 (k + 1))), fP, fL, fM, tS, tG)) (fun post m i hi hl => sx_go0 hi (fun Q hq => sx_0arb kl hlim i32 hx0 k0 hq) hl) (fun post m i hi hl => sy_go hi (fun Q hq => sy_0arb k256 y1 i32 hkk y2 y3 k0 (Or.inr ⟨q', q9, y8, hq⟩)) hl) (ih (P - 1) (k + 1) H P1 vk ⟨rfl, hK, Or.inr ⟨rfl, rfl, I1, Y1, T1, N1, Or.inr (Or.inr (Or.inl ⟨k, E1, X1, rfl, rfl, by rw [go], by rw [g8 6 _ (by decide)], by rw [ga, sm_ps], by rw [gt], Or.inr bd, Or.inr ⟨q', by rw [g8 4 _ (by decide)]; exact hq', rfl, rfl, rfl, rfl⟩⟩))⟩⟩) P1
theorem sm_0arbno (cx : sm_cx n nc kn xno xrt nK nA nB nL nR) (hlim : lim ≤ 250) (ih : sm_IH xms xnc xsd xlr xls xle yms ync ysp ylr yls yle lim dl n nc kn xno xsk xrt xsj nK nA nB nL nR ysk tS tG P) (vk : sm_vok xtx xtl)
    {k : Nat} (hK : k + 1 ≤ lim) (I : sm_inv (k + 1) n G) (Y : sm_Y (k + 1) G fN fC fD fS fA fB fO fP fL fM) (T : sm_T G tE tN) (N : sm_N (k + 1) nc kn G) (E : sm_e0 (k + 1) G)
    (X : sm_X k G eN eC eD eT eH eR) (hP : (250 - (k + 1)) * 1300 + 1280 ≤ P) (k0 : G 1 (k + 1) = 13) :
    sm_fin xms xnc xsd xlr xls xle yms ync ysp ylr yls yle lim dl n nc kn xno xsk xrt xsj nK nA nB nL nR ysk tS tG P (xms, nI lim, nI dl, xnc, xsd, nI n, xlr, xls, xle, nI k, sm_p (G 7 (k + 1)), nI (G 8 (k + 1)), 0, nI (G 0 (k + 1)), nI (G 2 (k + 1)), nI (G 3 (k + 1)), sm_p (G 6 (k + 1)), 3, xno, xsk, xrt, xsj, xtx, xtl, xcr, eN, eC, eD, eT, eH, eR, tE, tN) (yms, nI lim, nI dl, ync, ysp, nI n, ylr, yls, yle, nI (k + 1), nI (k + 1), nI k, 0, yfr, 0, nK, nA, nB, nL, nR, ysk, xrt, xsj, xtx, xtl, xcr, fN, fC, fD, fS, fA, fB, fO, fP, fL, fM, tS, tG) := by
  have k256 : k < 256 := sm_n1 hK hlim
  have kl : k < lim := hK
  have P1 : P - 1 < P := sm_n2 hP
  have lK := E.2.1
  have oK := E.2.2.1
  have laK := E.2.2.2.1
  have lbK := E.2.2.2.2.1
  have hnd := (N.2 (k + 1) (Nat.succ_pos k) (Nat.le_refl _)).1
  have hkd := (N.2 (k + 1) (Nat.succ_pos k) (Nat.le_refl _)).2.1
  have hd8 := (N.2 (k + 1) (Nat.succ_pos k) (Nat.le_refl _)).2.2
  have D := cx.2.2.1 _ hnd
  have i32 : G 0 (k + 1) < 32 := Nat.lt_of_lt_of_le hnd cx.1
  have y1 : fN k = nI (G 0 (k + 1)) := Y.1 k (Nat.lt_succ_self k)
  have y2 : fC k = nI (G 2 (k + 1)) := Y.2.1 k (Nat.lt_succ_self k)
  have y3 : fD k = nI (G 3 (k + 1)) := Y.2.2.1 k (Nat.lt_succ_self k)
  have y8 : fP k = sm_p (G 4 (k + 1)) := Y.2.2.2.2.2.2.2.1 k (Nat.lt_succ_self k)
  have hkk : nK (G 0 (k + 1)) = nI (G 1 (k + 1)) := by rw [hkd]; exact D.1
  have hx0 : xno (5 * G 0 (k + 1)) = nI (G 1 (k + 1)) := D.2.2.2.1.trans hkk
  have b3 := (I.2.1 _ lK).2.2.1
  have c16 := cx.2.1
  have c32 := cx.1
  have kd0 := D.2.1
  have kd1 := D.2.2.1
  have d5 := D.2.2.2.2.1
  have d6 := D.2.2.2.2.2.1
  have d7 := D.2.2.2.2.2.2.1
  have d8 := D.2.2.2.2.2.2.2.1
  have top : ∀ h, G 15 h = 1 → h ≤ k + 1 := fun h lh => (I.2.1 h lh).1
  have L := I.2.2.1 (k + 1) (Nat.succ_pos k) lK
  have op : G 16 (G 4 (k + 1)) ≠ 1 := fun z => oK (L.2.2.2.2.1 z)
  have pq : ∀ q, G 4 (k + 1) = q + 1 → q < 1000 := fun q hq => sm_n3 hK hlim L.1 hq
  have dq := (I.2.1 _ L.2.1).2.2.2.1
  obtain ⟨H, I1, E1, Y1, T1, N1, g8, g9, gs, go, ga, gt, gd⟩ := sm_T2 (v := (G 2 (k + 1))) (s := 1) (a := (k + 1)) (fS' := upd fS k 1) I Y T N lK oK top (Nat.le_refl _) b3 laK lbK (Or.inr rfl) (Or.inr (Or.inr ⟨k0, rfl, rfl⟩))
  have X1 := sm_X_push X g8 g9 (fun z => absurd z (by rw [k0]; decide))
  have bd : (250 - (k + 1)) * 1300 + H 20 (H 4 (k + 1)) + 1021 ≤ P - 1 := by rw [g8 4 _ (by decide), gd]; exact sm_n4 hK hlim hP L.1 dq
  by_cases q : G 4 (k + 1) = 0
  · rw [q, sm_p0] at y8
    refine sm_fin_xy (P' := P - 1) (u1 := (xms, nI lim, nI dl, xnc, xsd, nI n, xlr, xls, xle, nI (k + 1), nI k, nI (G 8 (k + 1)), 1, nI (G 0 (k + 1)), nI (G 2 (k + 1)), nI (G 3 (k + 1)), sm_p (G 6 (k + 1)), 3, xno, xsk, xrt, xsj, xtx, xtl, xcr, upd eN k (nI (G 0 (k + 1))), upd eC k (nI (G 2 (k + 1))), upd eD k (nI (G 3 (k + 1))), upd eT k (sm_p (G 6 (k + 1))), upd eH k (sm_p (G 7 (k + 1))), upd eR k (nI (G 8 (k + 1))), tE, tN)) (v1 := (yms, nI lim, nI dl, ync, ysp, nI n, ylr, yls, yle, nI (k + 1), nI (k + 1), nI k, 0, yfr, 1, nK, nA, nB, nL, nR, ysk, xrt, xsj, xtx, xtl, xcr, fN, fC, fD, upd fS k 1, fA, fB, upd fO k (nI (G 2 (k + 1))), fP, fL, fM, tS, tG)) (fun post m i hi hl => sx_go0 hi (fun Q hq => sx_0arbno kl hlim i32 hx0 k0 hq) hl) (fun post m i hi hl => sy_go hi (fun Q hq => sy_0arbno k256 y1 i32 hkk y2 y3 k0 (Or.inl ⟨y8, hq⟩)) hl) (ih (P - 1) (k + 1) H P1 vk ⟨rfl, hK, Or.inr ⟨rfl, rfl, I1, Y1, T1, N1, Or.inr (Or.inr (Or.inl ⟨k, E1, X1, rfl, rfl, by rw [go], by rw [g8 6 _ (by decide)], by rw [ga, sm_ps], by rw [gt], Or.inr bd, Or.inl ⟨by rw [g8 4 _ (by decide)]; exact q, rfl⟩⟩))⟩⟩) P1
  · obtain ⟨q', hq'⟩ : ∃ q', G 4 (k + 1) = q' + 1 := ⟨G 4 (k + 1) - 1, (Nat.succ_pred_eq_of_ne_zero q).symm⟩
    have q9 := pq q' hq'
    rw [hq', sm_ps] at y8
    refine sm_fin_xy (P' := P - 1) (u1 := (xms, nI lim, nI dl, xnc, xsd, nI n, xlr, xls, xle, nI (k + 1), nI k, nI (G 8 (k + 1)), 1, nI (G 0 (k + 1)), nI (G 2 (k + 1)), nI (G 3 (k + 1)), sm_p (G 6 (k + 1)), 3, xno, xsk, xrt, xsj, xtx, xtl, xcr, upd eN k (nI (G 0 (k + 1))), upd eC k (nI (G 2 (k + 1))), upd eD k (nI (G 3 (k + 1))), upd eT k (sm_p (G 6 (k + 1))), upd eH k (sm_p (G 7 (k + 1))), upd eR k (nI (G 8 (k + 1))), tE, tN)) (v1 := (yms, nI lim, nI dl, ync, ysp, nI n, ylr, yls, yle, nI (k + 1), nI (k + 1), nI q', 2, nI k, 0, nK, nA, nB, nL, nR, ysk, xrt, xsj, xtx, xtl, xcr, fN, fC, fD, upd fS k 1, fA, fB, upd fO k (nI (G 2 (k + 1))), fP, fL, fM, tS, tG)) (fun post m i hi hl => sx_go0 hi (fun Q hq => sx_0arbno kl hlim i32 hx0 k0 hq) hl) (fun post m i hi hl => sy_go hi (fun Q hq => sy_0arbno k256 y1 i32 hkk y2 y3 k0 (Or.inr ⟨q', q9, y8, hq⟩)) hl) (ih (P - 1) (k + 1) H P1 vk ⟨rfl, hK, Or.inr ⟨rfl, rfl, I1, Y1, T1, N1, Or.inr (Or.inr (Or.inl ⟨k, E1, X1, rfl, rfl, by rw [go], by rw [g8 6 _ (by decide)], by rw [ga, sm_ps], by rw [gt], Or.inr bd, Or.inr ⟨q', by rw [g8 4 _ (by decide)]; exact hq', rfl, rfl, rfl, rfl⟩⟩))⟩⟩) P1
theorem sm_0leaf (cx : sm_cx n nc kn xno xrt nK nA nB nL nR) (hlim : lim ≤ 250) (ih : sm_IH xms xnc xsd xlr xls xle yms ync ysp ylr yls yle lim dl n nc kn xno xsk xrt xsj nK nA nB nL nR ysk tS tG P) (vk : sm_vok xtx xtl)
    {k : Nat} (hK : k + 1 ≤ lim) (I : sm_inv (k + 1) n G) (Y : sm_Y (k + 1) G fN fC fD fS fA fB fO fP fL fM) (T : sm_T G tE tN) (N : sm_N (k + 1) nc kn G) (E : sm_e0 (k + 1) G)
    (X : sm_X k G eN eC eD eT eH eR) (hP : (250 - (k + 1)) * 1300 + 1280 ≤ P) (k0 : G 1 (k + 1) ≤ 11 ∧ G 1 (k + 1) ≠ 10 ∧ G 1 (k + 1) ≠ 11) :
    sm_fin xms xnc xsd xlr xls xle yms ync ysp ylr yls yle lim dl n nc kn xno xsk xrt xsj nK nA nB nL nR ysk tS tG P (xms, nI lim, nI dl, xnc, xsd, nI n, xlr, xls, xle, nI k, sm_p (G 7 (k + 1)), nI (G 8 (k + 1)), 0, nI (G 0 (k + 1)), nI (G 2 (k + 1)), nI (G 3 (k + 1)), sm_p (G 6 (k + 1)), 3, xno, xsk, xrt, xsj, xtx, xtl, xcr, eN, eC, eD, eT, eH, eR, tE, tN) (yms, nI lim, nI dl, ync, ysp, nI n, ylr, yls, yle, nI (k + 1), nI (k + 1), nI k, 0, yfr, 0, nK, nA, nB, nL, nR, ysk, xrt, xsj, xtx, xtl, xcr, fN, fC, fD, fS, fA, fB, fO, fP, fL, fM, tS, tG) := by
  have k256 : k < 256 := sm_n1 hK hlim
  have kl : k < lim := hK
  have P1 : P - 1 < P := sm_n2 hP
  have lK := E.2.1
  have oK := E.2.2.1
  have laK := E.2.2.2.1
  have lbK := E.2.2.2.2.1
  have hnd := (N.2 (k + 1) (Nat.succ_pos k) (Nat.le_refl _)).1
  have hkd := (N.2 (k + 1) (Nat.succ_pos k) (Nat.le_refl _)).2.1
  have hd8 := (N.2 (k + 1) (Nat.succ_pos k) (Nat.le_refl _)).2.2
  have D := cx.2.2.1 _ hnd
  have i32 : G 0 (k + 1) < 32 := Nat.lt_of_lt_of_le hnd cx.1
  have y1 : fN k = nI (G 0 (k + 1)) := Y.1 k (Nat.lt_succ_self k)
  have y2 : fC k = nI (G 2 (k + 1)) := Y.2.1 k (Nat.lt_succ_self k)
  have y3 : fD k = nI (G 3 (k + 1)) := Y.2.2.1 k (Nat.lt_succ_self k)
  have y8 : fP k = sm_p (G 4 (k + 1)) := Y.2.2.2.2.2.2.2.1 k (Nat.lt_succ_self k)
  have hkk : nK (G 0 (k + 1)) = nI (G 1 (k + 1)) := by rw [hkd]; exact D.1
  have hx0 : xno (5 * G 0 (k + 1)) = nI (G 1 (k + 1)) := D.2.2.2.1.trans hkk
  have b3 := (I.2.1 _ lK).2.2.1
  have c16 := cx.2.1
  have c32 := cx.1
  have kd0 := D.2.1
  have kd1 := D.2.2.1
  have d5 := D.2.2.2.2.1
  have d6 := D.2.2.2.2.2.1
  have d7 := D.2.2.2.2.2.2.1
  have d8 := D.2.2.2.2.2.2.2.1
  have top : ∀ h, G 15 h = 1 → h ≤ k + 1 := fun h lh => (I.2.1 h lh).1
  have L := I.2.2.1 (k + 1) (Nat.succ_pos k) lK
  have op : G 16 (G 4 (k + 1)) ≠ 1 := fun z => oK (L.2.2.2.2.1 z)
  have pq : ∀ q, G 4 (k + 1) = q + 1 → q < 1000 := fun q hq => sm_n3 hK hlim L.1 hq
  have dq := (I.2.1 _ L.2.1).2.2.2.1
  obtain ⟨r, hr, hx, hy⟩ := sm_leaf (xms := xms) (xsl := nI lim) (xdl := nI dl) (xnc := xnc) (xsd := xsd) (xlr := xlr) (xls := xls) (xle := xle) (xst := nI (k + 1)) (xnw := sm_p (G 7 (k + 1))) (xtc := nI (G 8 (k + 1))) (xtu := 0) (xtn := nI (G 0 (k + 1))) (xcu := nI (G 2 (k + 1))) (xtd := nI (G 3 (k + 1))) (xtt := sm_p (G 6 (k + 1))) (xsr := 3) (xno := xno) (xsk := xsk) (xrt := xrt) (xsj := xsj) (xtx := xtx) (xtl := xtl) (xcr := xcr) (eN := upd eN k (nI (G 0 (k + 1)))) (eC := upd eC k (nI (G 2 (k + 1)))) (eD := upd eD k (nI (G 3 (k + 1)))) (eT := upd eT k (sm_p (G 6 (k + 1)))) (eH := upd eH k (sm_p (G 7 (k + 1)))) (eR := upd eR k (nI (G 8 (k + 1)))) (tE := tE) (tN := tN) (yms := yms) (ysl := nI lim) (ydl := nI dl) (ync := ync) (ysp := ysp) (ylr := ylr) (yls := yls) (yle := yle) (yfc := nI (k + 1)) (yst := nI (k + 1)) (ycf := nI k) (yev := 0) (yfr := yfr) (ydo := 0) (nK := nK) (nA := nA) (nB := nB) (nL := nL) (nR := nR) (ysk := ysk) (yrt := xrt) (ytx := xtx) (ytl := xtl) (ycr := xcr) (fN := fN) (fC := fC) (fD := fD) (fS := fS) (fA := fA) (fB := fB) (fO := fO) (fP := fP) (fL := fL) (fM := fM) (tS := tS) (tG := tG) i32 c16 b3 hkk (by omega) (by omega) (by omega) (by rw [hkd]; exact sm_nd9 D)
  rcases hr with hr | ⟨e, e1', e2, hr⟩
  · have r0 : ¬ (0 : Int32) ≤ r := by rw [hr]; exact sm_m1lt
    obtain ⟨H, I1, E1, Y1, T1, N1, ge⟩ := sm_T3 I Y T N lK op
    have X1 := sm_X_push (H := H) X (fun i g hi => by rw [ge i (Nat.ne_of_lt (Nat.lt_of_le_of_lt hi (by decide)))]) (fun g hg => by rw [ge 9 (by decide)]) (fun z => absurd z (by omega))
    have bd : (250 - (k + 1)) * 1300 + 260 + 3 * (k + 1) ≤ P - 1 + H 20 (H 4 (k + 1)) := sm_n5 hK hlim hP
    by_cases q : G 4 (k + 1) = 0
    · rw [q, sm_p0] at y8
      refine sm_fin_xy (P' := P - 1) (u1 := (xms, nI lim, nI dl, xnc, xsd, nI n, xlr, xls, xle, nI (k + 1), sm_p (G 7 (k + 1)), nI (G 8 (k + 1)), 2, nI (G 0 (k + 1)), nI (G 2 (k + 1)), nI (G 3 (k + 1)), sm_p (G 6 (k + 1)), 3, xno, xsk, xrt, xsj, xtx, xtl, xcr, upd eN k (nI (G 0 (k + 1))), upd eC k (nI (G 2 (k + 1))), upd eD k (nI (G 3 (k + 1))), upd eT k (sm_p (G 6 (k + 1))), upd eH k (sm_p (G 7 (k + 1))), upd eR k (nI (G 8 (k + 1))), tE, tN)) (v1 := (yms, nI lim, nI dl, ync, ysp, nI n, ylr, yls, yle, nI (k + 1), nI (k + 1), nI k, 0, yfr, 2, nK, nA, nB, nL, nR, ysk, xrt, xsj, xtx, xtl, xcr, fN, fC, fD, fS, fA, fB, fO, fP, fL, fM, tS, tG)) (fun post m i hi hl => sx_go0 hi (fun Q hq => sx_0leafx kl hlim i32 hx0 (by omega) d5 d6 hx hr hq) hl) (fun post m i hi hl => sy_go hi (fun Q hq => sy_0leafx k256 y1 i32 hkk y2 y3 (by omega) hy r0 (Or.inl ⟨y8, hq⟩)) hl) (ih (P - 1) (k + 1) H P1 vk ⟨rfl, hK, Or.inr ⟨rfl, rfl, I1, Y1, T1, N1, Or.inr (Or.inr (Or.inr ⟨k, E1, X1, rfl, rfl, by rw [ge 7 (by decide)], bd, Or.inl ⟨by rw [ge 4 (by decide)]; exact q, rfl⟩⟩))⟩⟩) P1
    · obtain ⟨q', hq'⟩ : ∃ q', G 4 (k + 1) = q' + 1 := ⟨G 4 (k + 1) - 1, (Nat.succ_pred_eq_of_ne_zero q).symm⟩
      have q9 := pq q' hq'
      rw [hq', sm_ps] at y8
      refine sm_fin_xy (P' := P - 1) (u1 := (xms, nI lim, nI dl, xnc, xsd, nI n, xlr, xls, xle, nI (k + 1), sm_p (G 7 (k + 1)), nI (G 8 (k + 1)), 2, nI (G 0 (k + 1)), nI (G 2 (k + 1)), nI (G 3 (k + 1)), sm_p (G 6 (k + 1)), 3, xno, xsk, xrt, xsj, xtx, xtl, xcr, upd eN k (nI (G 0 (k + 1))), upd eC k (nI (G 2 (k + 1))), upd eD k (nI (G 3 (k + 1))), upd eT k (sm_p (G 6 (k + 1))), upd eH k (sm_p (G 7 (k + 1))), upd eR k (nI (G 8 (k + 1))), tE, tN)) (v1 := (yms, nI lim, nI dl, ync, ysp, nI n, ylr, yls, yle, nI (k + 1), nI (k + 1), nI q', 3, nI k, 0, nK, nA, nB, nL, nR, ysk, xrt, xsj, xtx, xtl, xcr, fN, fC, fD, fS, fA, fB, fO, fP, fL, fM, tS, tG)) (fun post m i hi hl => sx_go0 hi (fun Q hq => sx_0leafx kl hlim i32 hx0 (by omega) d5 d6 hx hr hq) hl) (fun post m i hi hl => sy_go hi (fun Q hq => sy_0leafx k256 y1 i32 hkk y2 y3 (by omega) hy r0 (Or.inr ⟨q', q9, y8, hq⟩)) hl) (ih (P - 1) (k + 1) H P1 vk ⟨rfl, hK, Or.inr ⟨rfl, rfl, I1, Y1, T1, N1, Or.inr (Or.inr (Or.inr ⟨k, E1, X1, rfl, rfl, by rw [ge 7 (by decide)], bd, Or.inr ⟨q', by rw [ge 4 (by decide)]; exact hq', rfl, rfl, rfl, rfl⟩⟩))⟩⟩) P1
  · subst hr
    have r0 : (0 : Int32) ≤ nI e := nI_pos' (by omega)
    have r1 : ¬ nI e = -1 := sm_m1ne (by omega)
    obtain ⟨H, I1, E1, Y1, T1, N1, g8, g9, gs, go, ga, gt, gd⟩ := sm_T2 (v := e) (s := (G 9 (k + 1))) (a := (G 7 (k + 1))) (fS' := fS) I Y T N lK oK top e1' e2 laK lbK (Or.inl ⟨rfl, rfl⟩) (Or.inl ⟨by omega, by omega, rfl⟩)
    have X1 := sm_X_push X g8 g9 (fun z => absurd z k0.2.1)
    have bd : (250 - (k + 1)) * 1300 + H 20 (H 4 (k + 1)) + 1021 ≤ P - 1 := by rw [g8 4 _ (by decide), gd]; exact sm_n4 hK hlim hP L.1 dq
    by_cases q : G 4 (k + 1) = 0
    · rw [q, sm_p0] at y8
      refine sm_fin_xy (P' := P - 1) (u1 := (xms, nI lim, nI dl, xnc, xsd, nI n, xlr, xls, xle, nI (k + 1), sm_p (G 7 (k + 1)), nI (G 8 (k + 1)), 1, nI (G 0 (k + 1)), nI e, nI (G 3 (k + 1)), sm_p (G 6 (k + 1)), 3, xno, xsk, xrt, xsj, xtx, xtl, xcr, upd eN k (nI (G 0 (k + 1))), upd eC k (nI (G 2 (k + 1))), upd eD k (nI (G 3 (k + 1))), upd eT k (sm_p (G 6 (k + 1))), upd eH k (sm_p (G 7 (k + 1))), upd eR k (nI (G 8 (k + 1))), tE, tN)) (v1 := (yms, nI lim, nI dl, ync, ysp, nI n, ylr, yls, yle, nI (k + 1), nI (k + 1), nI k, 0, yfr, 1, nK, nA, nB, nL, nR, ysk, xrt, xsj, xtx, xtl, xcr, fN, fC, fD, fS, fA, fB, upd fO k (nI e), fP, fL, fM, tS, tG)) (fun post m i hi hl => sx_go0 hi (fun Q hq => sx_0leaf kl hlim i32 hx0 (by omega) d5 d6 hx r1 hq) hl) (fun post m i hi hl => sy_go hi (fun Q hq => sy_0leaf k256 y1 i32 hkk y2 y3 (by omega) hy r0 (Or.inl ⟨y8, hq⟩)) hl) (ih (P - 1) (k + 1) H P1 vk ⟨rfl, hK, Or.inr ⟨rfl, rfl, I1, Y1, T1, N1, Or.inr (Or.inr (Or.inl ⟨k, E1, X1, rfl, rfl, by rw [go], by rw [g8 6 _ (by decide)], by rw [ga], by rw [gt], Or.inr bd, Or.inl ⟨by rw [g8 4 _ (by decide)]; exact q, rfl⟩⟩))⟩⟩) P1
    · obtain ⟨q', hq'⟩ : ∃ q', G 4 (k + 1) = q' + 1 := ⟨G 4 (k + 1) - 1, (Nat.succ_pred_eq_of_ne_zero q).symm⟩
      have q9 := pq q' hq'
      rw [hq', sm_ps] at y8
      refine sm_fin_xy (P' := P - 1) (u1 := (xms, nI lim, nI dl, xnc, xsd, nI n, xlr, xls, xle, nI (k + 1), sm_p (G 7 (k + 1)), nI (G 8 (k + 1)), 1, nI (G 0 (k + 1)), nI e, nI (G 3 (k + 1)), sm_p (G 6 (k + 1)), 3, xno, xsk, xrt, xsj, xtx, xtl, xcr, upd eN k (nI (G 0 (k + 1))), upd eC k (nI (G 2 (k + 1))), upd eD k (nI (G 3 (k + 1))), upd eT k (sm_p (G 6 (k + 1))), upd eH k (sm_p (G 7 (k + 1))), upd eR k (nI (G 8 (k + 1))), tE, tN)) (v1 := (yms, nI lim, nI dl, ync, ysp, nI n, ylr, yls, yle, nI (k + 1), nI (k + 1), nI q', 2, nI k, 0, nK, nA, nB, nL, nR, ysk, xrt, xsj, xtx, xtl, xcr, fN, fC, fD, fS, fA, fB, upd fO k (nI e), fP, fL, fM, tS, tG)) (fun post m i hi hl => sx_go0 hi (fun Q hq => sx_0leaf kl hlim i32 hx0 (by omega) d5 d6 hx r1 hq) hl) (fun post m i hi hl => sy_go hi (fun Q hq => sy_0leaf k256 y1 i32 hkk y2 y3 (by omega) hy r0 (Or.inr ⟨q', q9, y8, hq⟩)) hl) (ih (P - 1) (k + 1) H P1 vk ⟨rfl, hK, Or.inr ⟨rfl, rfl, I1, Y1, T1, N1, Or.inr (Or.inr (Or.inl ⟨k, E1, X1, rfl, rfl, by rw [go], by rw [g8 6 _ (by decide)], by rw [ga], by rw [gt], Or.inr bd, Or.inr ⟨q', by rw [g8 4 _ (by decide)]; exact hq', rfl, rfl, rfl, rfl⟩⟩))⟩⟩) P1
theorem sm_0cur (cx : sm_cx n nc kn xno xrt nK nA nB nL nR) (hlim : lim ≤ 250) (ih : sm_IH xms xnc xsd xlr xls xle yms ync ysp ylr yls yle lim dl n nc kn xno xsk xrt xsj nK nA nB nL nR ysk tS tG P) (vk : sm_vok xtx xtl)
    {k : Nat} (hK : k + 1 ≤ lim) (I : sm_inv (k + 1) n G) (Y : sm_Y (k + 1) G fN fC fD fS fA fB fO fP fL fM) (T : sm_T G tE tN) (N : sm_N (k + 1) nc kn G) (E : sm_e0 (k + 1) G)
    (X : sm_X k G eN eC eD eT eH eR) (hP : (250 - (k + 1)) * 1300 + 1280 ≤ P) (k0 : G 1 (k + 1) = 11) :
    sm_fin xms xnc xsd xlr xls xle yms ync ysp ylr yls yle lim dl n nc kn xno xsk xrt xsj nK nA nB nL nR ysk tS tG P (xms, nI lim, nI dl, xnc, xsd, nI n, xlr, xls, xle, nI k, sm_p (G 7 (k + 1)), nI (G 8 (k + 1)), 0, nI (G 0 (k + 1)), nI (G 2 (k + 1)), nI (G 3 (k + 1)), sm_p (G 6 (k + 1)), 3, xno, xsk, xrt, xsj, xtx, xtl, xcr, eN, eC, eD, eT, eH, eR, tE, tN) (yms, nI lim, nI dl, ync, ysp, nI n, ylr, yls, yle, nI (k + 1), nI (k + 1), nI k, 0, yfr, 0, nK, nA, nB, nL, nR, ysk, xrt, xsj, xtx, xtl, xcr, fN, fC, fD, fS, fA, fB, fO, fP, fL, fM, tS, tG) := by
  have k256 : k < 256 := sm_n1 hK hlim
  have kl : k < lim := hK
  have P1 : P - 1 < P := sm_n2 hP
  have lK := E.2.1
  have oK := E.2.2.1
  have laK := E.2.2.2.1
  have lbK := E.2.2.2.2.1
  have hnd := (N.2 (k + 1) (Nat.succ_pos k) (Nat.le_refl _)).1
  have hkd := (N.2 (k + 1) (Nat.succ_pos k) (Nat.le_refl _)).2.1
  have hd8 := (N.2 (k + 1) (Nat.succ_pos k) (Nat.le_refl _)).2.2
  have D := cx.2.2.1 _ hnd
  have i32 : G 0 (k + 1) < 32 := Nat.lt_of_lt_of_le hnd cx.1
  have y1 : fN k = nI (G 0 (k + 1)) := Y.1 k (Nat.lt_succ_self k)
  have y2 : fC k = nI (G 2 (k + 1)) := Y.2.1 k (Nat.lt_succ_self k)
  have y3 : fD k = nI (G 3 (k + 1)) := Y.2.2.1 k (Nat.lt_succ_self k)
  have y8 : fP k = sm_p (G 4 (k + 1)) := Y.2.2.2.2.2.2.2.1 k (Nat.lt_succ_self k)
  have hkk : nK (G 0 (k + 1)) = nI (G 1 (k + 1)) := by rw [hkd]; exact D.1
  have hx0 : xno (5 * G 0 (k + 1)) = nI (G 1 (k + 1)) := D.2.2.2.1.trans hkk
  have b3 := (I.2.1 _ lK).2.2.1
  have c16 := cx.2.1
  have c32 := cx.1
  have kd0 := D.2.1
  have kd1 := D.2.2.1
  have d5 := D.2.2.2.2.1
  have d6 := D.2.2.2.2.2.1
  have d7 := D.2.2.2.2.2.2.1
  have d8 := D.2.2.2.2.2.2.2.1
  have top : ∀ h, G 15 h = 1 → h ≤ k + 1 := fun h lh => (I.2.1 h lh).1
  have L := I.2.2.1 (k + 1) (Nat.succ_pos k) lK
  have op : G 16 (G 4 (k + 1)) ≠ 1 := fun z => oK (L.2.2.2.2.1 z)
  have pq : ∀ q, G 4 (k + 1) = q + 1 → q < 1000 := fun q hq => sm_n3 hK hlim L.1 hq
  have dq := (I.2.1 _ L.2.1).2.2.2.1
  obtain ⟨a, ha, hA⟩ := sm_nd10 D (by omega)
  have hx := fun post hp => (sm_leafX11 (xms := xms) (xsl := nI lim) (xdl := nI dl) (xnc := xnc) (xsd := xsd) (xlr := xlr) (xls := xls) (xle := xle) (xst := nI (k + 1)) (xnw := sm_p (G 7 (k + 1))) (xtc := nI (G 8 (k + 1))) (xtu := 0) (xtn := nI (G 0 (k + 1))) (xcu := nI (G 2 (k + 1))) (xtd := nI (G 3 (k + 1))) (xtt := sm_p (G 6 (k + 1))) (xsr := 3) (xno := xno) (xsk := xsk) (xrt := xrt) (xsj := xsj) (xtx := xtx) (xtl := xtl) (xcr := xcr) (eN := upd eN k (nI (G 0 (k + 1)))) (eC := upd eC k (nI (G 2 (k + 1)))) (eD := upd eD k (nI (G 3 (k + 1)))) (eT := upd eT k (sm_p (G 6 (k + 1)))) (eH := upd eH k (sm_p (G 7 (k + 1)))) (eR := upd eR k (nI (G 8 (k + 1)))) (tE := tE) (tN := tN) (n := n) (xa := nA (G 0 (k + 1))) (xb := nB (G 0 (k + 1))) (c := G 2 (k + 1)) post hp)
  have hy := fun post hp => (sm_leafY11 (yms := yms) (ysl := nI lim) (ydl := nI dl) (ync := ync) (ysp := ysp) (ylr := ylr) (yls := yls) (yle := yle) (yfc := nI (k + 1)) (yst := nI (k + 1)) (ycf := nI k) (yev := 0) (yfr := yfr) (ydo := 0) (nK := nK) (nA := nA) (nB := nB) (nL := nL) (nR := nR) (ysk := ysk) (yrt := xrt) (ytx := xtx) (ytl := xtl) (ycr := xcr) (fN := fN) (fC := fC) (fD := fD) (fS := fS) (fA := fA) (fB := fB) (fO := fO) (fP := fP) (fL := fL) (fM := fM) (tS := tS) (tG := tG) (n := n) (ysj := xsj) (c := G 2 (k + 1)) i32 (hkk.trans (by rw [k0]; rfl)) post hp)
  have r0 : (0 : Int32) ≤ nI (G 2 (k + 1)) := nI_pos' (by omega)
  have r1 : ¬ nI (G 2 (k + 1)) = -1 := sm_m1ne (by omega)
  have hx2 : ∀ post : Int32 → Prop, post (nI (G 2 (k + 1))) → wpX_leafEnd post (xms, nI lim, nI dl, xnc, xsd, nI n, xlr, xls, xle, nI (k + 1), sm_p (G 7 (k + 1)), nI (G 8 (k + 1)), 0, nI (G 0 (k + 1)), nI (G 2 (k + 1)), nI (G 3 (k + 1)), sm_p (G 6 (k + 1)), 3, xno, xsk, xrt, xsj, xtx, xtl, xcr, upd eN k (nI (G 0 (k + 1))), upd eC k (nI (G 2 (k + 1))), upd eD k (nI (G 3 (k + 1))), upd eT k (sm_p (G 6 (k + 1))), upd eH k (sm_p (G 7 (k + 1))), upd eR k (nI (G 8 (k + 1))), tE, tN) (nI (G 1 (k + 1))) (nA (G 0 (k + 1))) (nB (G 0 (k + 1))) (nI (G 2 (k + 1))) := by
    rw [k0]; exact hx
  obtain ⟨H, I1, E1, Y1, T1, N1, g8, g9, gs, go, ga, gt, gd⟩ := sm_T2 (v := (G 2 (k + 1))) (s := (G 9 (k + 1))) (a := (G 7 (k + 1))) (fS' := fS) I Y T N lK oK top (Nat.le_refl _) b3 laK lbK (Or.inl ⟨rfl, rfl⟩) (Or.inl ⟨by omega, by omega, rfl⟩)
  have X1 := sm_X_push X g8 g9 (fun z => absurd z (by rw [k0]; decide))
  have bd : (250 - (k + 1)) * 1300 + H 20 (H 4 (k + 1)) + 1021 ≤ P - 1 := by rw [g8 4 _ (by decide), gd]; exact sm_n4 hK hlim hP L.1 dq
  by_cases q : G 4 (k + 1) = 0
  · rw [q, sm_p0] at y8
    refine sm_fin_xy (P' := P - 1) (u1 := (xms, nI lim, nI dl, xnc, xsd, nI n, xlr, xls, xle, nI (k + 1), sm_p (G 7 (k + 1)), nI (G 8 (k + 1)), 1, nI (G 0 (k + 1)), nI (G 2 (k + 1)), nI (G 3 (k + 1)), sm_p (G 6 (k + 1)), 3, xno, xsk, xrt, xsj, xtx, xtl, upd xcr a (nI (G 2 (k + 1))), upd eN k (nI (G 0 (k + 1))), upd eC k (nI (G 2 (k + 1))), upd eD k (nI (G 3 (k + 1))), upd eT k (sm_p (G 6 (k + 1))), upd eH k (sm_p (G 7 (k + 1))), upd eR k (nI (G 8 (k + 1))), tE, tN)) (v1 := (yms, nI lim, nI dl, ync, ysp, nI n, ylr, yls, yle, nI (k + 1), nI (k + 1), nI k, 0, yfr, 1, nK, nA, nB, nL, nR, ysk, xrt, xsj, xtx, xtl, upd xcr a (nI (G 2 (k + 1))), fN, fC, fD, fS, fA, fB, upd fO k (nI (G 2 (k + 1))), fP, fL, fM, tS, tG)) (fun post m i hi hl => sx_go0 hi (fun Q hq => sx_0cur kl hlim i32 hx0 k0 d5 d6 hx2 r1 (by omega) hA hq) hl) (fun post m i hi hl => sy_go hi (fun Q hq => sy_0cur k256 y1 i32 hkk y2 y3 k0 (Nat.lt_succ_of_le ha) hA hy r0 (Or.inl ⟨y8, hq⟩)) hl) (ih (P - 1) (k + 1) H P1 vk ⟨rfl, hK, Or.inr ⟨rfl, rfl, I1, Y1, T1, N1, Or.inr (Or.inr (Or.inl ⟨k, E1, X1, rfl, rfl, by rw [go], by rw [g8 6 _ (by decide)], by rw [ga], by rw [gt], Or.inr bd, Or.inl ⟨by rw [g8 4 _ (by decide)]; exact q, rfl⟩⟩))⟩⟩) P1
  · obtain ⟨q', hq'⟩ : ∃ q', G 4 (k + 1) = q' + 1 := ⟨G 4 (k + 1) - 1, (Nat.succ_pred_eq_of_ne_zero q).symm⟩
    have q9 := pq q' hq'
    rw [hq', sm_ps] at y8
    refine sm_fin_xy (P' := P - 1) (u1 := (xms, nI lim, nI dl, xnc, xsd, nI n, xlr, xls, xle, nI (k + 1), sm_p (G 7 (k + 1)), nI (G 8 (k + 1)), 1, nI (G 0 (k + 1)), nI (G 2 (k + 1)), nI (G 3 (k + 1)), sm_p (G 6 (k + 1)), 3, xno, xsk, xrt, xsj, xtx, xtl, upd xcr a (nI (G 2 (k + 1))), upd eN k (nI (G 0 (k + 1))), upd eC k (nI (G 2 (k + 1))), upd eD k (nI (G 3 (k + 1))), upd eT k (sm_p (G 6 (k + 1))), upd eH k (sm_p (G 7 (k + 1))), upd eR k (nI (G 8 (k + 1))), tE, tN)) (v1 := (yms, nI lim, nI dl, ync, ysp, nI n, ylr, yls, yle, nI (k + 1), nI (k + 1), nI q', 2, nI k, 0, nK, nA, nB, nL, nR, ysk, xrt, xsj, xtx, xtl, upd xcr a (nI (G 2 (k + 1))), fN, fC, fD, fS, fA, fB, upd fO k (nI (G 2 (k + 1))), fP, fL, fM, tS, tG)) (fun post m i hi hl => sx_go0 hi (fun Q hq => sx_0cur kl hlim i32 hx0 k0 d5 d6 hx2 r1 (by omega) hA hq) hl) (fun post m i hi hl => sy_go hi (fun Q hq => sy_0cur k256 y1 i32 hkk y2 y3 k0 (Nat.lt_succ_of_le ha) hA hy r0 (Or.inr ⟨q', q9, y8, hq⟩)) hl) (ih (P - 1) (k + 1) H P1 vk ⟨rfl, hK, Or.inr ⟨rfl, rfl, I1, Y1, T1, N1, Or.inr (Or.inr (Or.inl ⟨k, E1, X1, rfl, rfl, by rw [go], by rw [g8 6 _ (by decide)], by rw [ga], by rw [gt], Or.inr bd, Or.inr ⟨q', by rw [g8 4 _ (by decide)]; exact hq', rfl, rfl, rfl, rfl⟩⟩))⟩⟩) P1
theorem sm_0def (cx : sm_cx n nc kn xno xrt nK nA nB nL nR) (hlim : lim ≤ 250) (ih : sm_IH xms xnc xsd xlr xls xle yms ync ysp ylr yls yle lim dl n nc kn xno xsk xrt xsj nK nA nB nL nR ysk tS tG P) (vk : sm_vok xtx xtl)
    {k : Nat} (hK : k + 1 ≤ lim) (I : sm_inv (k + 1) n G) (Y : sm_Y (k + 1) G fN fC fD fS fA fB fO fP fL fM) (T : sm_T G tE tN) (N : sm_N (k + 1) nc kn G) (E : sm_e0 (k + 1) G)
    (X : sm_X k G eN eC eD eT eH eR) (hP : (250 - (k + 1)) * 1300 + 1280 ≤ P) (k0 : G 1 (k + 1) = 12) (hdl : dl ≤ 8) :
    sm_fin xms xnc xsd xlr xls xle yms ync ysp ylr yls yle lim dl n nc kn xno xsk xrt xsj nK nA nB nL nR ysk tS tG P (xms, nI lim, nI dl, xnc, xsd, nI n, xlr, xls, xle, nI k, sm_p (G 7 (k + 1)), nI (G 8 (k + 1)), 0, nI (G 0 (k + 1)), nI (G 2 (k + 1)), nI (G 3 (k + 1)), sm_p (G 6 (k + 1)), 3, xno, xsk, xrt, xsj, xtx, xtl, xcr, eN, eC, eD, eT, eH, eR, tE, tN) (yms, nI lim, nI dl, ync, ysp, nI n, ylr, yls, yle, nI (k + 1), nI (k + 1), nI k, 0, yfr, 0, nK, nA, nB, nL, nR, ysk, xrt, xsj, xtx, xtl, xcr, fN, fC, fD, fS, fA, fB, fO, fP, fL, fM, tS, tG) := by
  have k256 : k < 256 := sm_n1 hK hlim
  have kl : k < lim := hK
  have P1 : P - 1 < P := sm_n2 hP
  have lK := E.2.1
  have oK := E.2.2.1
  have laK := E.2.2.2.1
  have lbK := E.2.2.2.2.1
  have hnd := (N.2 (k + 1) (Nat.succ_pos k) (Nat.le_refl _)).1
  have hkd := (N.2 (k + 1) (Nat.succ_pos k) (Nat.le_refl _)).2.1
  have hd8 := (N.2 (k + 1) (Nat.succ_pos k) (Nat.le_refl _)).2.2
  have D := cx.2.2.1 _ hnd
  have i32 : G 0 (k + 1) < 32 := Nat.lt_of_lt_of_le hnd cx.1
  have y1 : fN k = nI (G 0 (k + 1)) := Y.1 k (Nat.lt_succ_self k)
  have y2 : fC k = nI (G 2 (k + 1)) := Y.2.1 k (Nat.lt_succ_self k)
  have y3 : fD k = nI (G 3 (k + 1)) := Y.2.2.1 k (Nat.lt_succ_self k)
  have y8 : fP k = sm_p (G 4 (k + 1)) := Y.2.2.2.2.2.2.2.1 k (Nat.lt_succ_self k)
  have hkk : nK (G 0 (k + 1)) = nI (G 1 (k + 1)) := by rw [hkd]; exact D.1
  have hx0 : xno (5 * G 0 (k + 1)) = nI (G 1 (k + 1)) := D.2.2.2.1.trans hkk
  have b3 := (I.2.1 _ lK).2.2.1
  have c16 := cx.2.1
  have c32 := cx.1
  have kd0 := D.2.1
  have kd1 := D.2.2.1
  have d5 := D.2.2.2.2.1
  have d6 := D.2.2.2.2.2.1
  have d7 := D.2.2.2.2.2.2.1
  have d8 := D.2.2.2.2.2.2.2.1
  have top : ∀ h, G 15 h = 1 → h ≤ k + 1 := fun h lh => (I.2.1 h lh).1
  have L := I.2.2.1 (k + 1) (Nat.succ_pos k) lK
  have op : G 16 (G 4 (k + 1)) ≠ 1 := fun z => oK (L.2.2.2.2.1 z)
  have pq : ∀ q, G 4 (k + 1) = q + 1 → q < 1000 := fun q hq => sm_n3 hK hlim L.1 hq
  have dq := (I.2.1 _ L.2.1).2.2.2.1
  obtain ⟨a, ha, hA⟩ := sm_nd11 D (by omega)
  have hxa : xno (5 * G 0 (k + 1) + 1) = nI a := d5.trans hA
  by_cases hd : dl ≤ G 3 (k + 1)
  · obtain ⟨H, I1, E1, Y1, T1, N1, ge⟩ := sm_T3 I Y T N lK op
    have X1 := sm_X_push (H := H) X (fun i g hi => by rw [ge i (Nat.ne_of_lt (Nat.lt_of_le_of_lt hi (by decide)))]) (fun g hg => by rw [ge 9 (by decide)]) (fun z => absurd z (by omega))
    have bd : (250 - (k + 1)) * 1300 + 260 + 3 * (k + 1) ≤ P - 1 + H 20 (H 4 (k + 1)) := sm_n5 hK hlim hP
    by_cases q : G 4 (k + 1) = 0
    · rw [q, sm_p0] at y8
      refine sm_fin_xy (P' := P - 1) (u1 := (xms, nI lim, nI dl, xnc, xsd, nI n, xlr, xls, xle, nI (k + 1), sm_p (G 7 (k + 1)), nI (G 8 (k + 1)), 2, nI (G 0 (k + 1)), nI (G 2 (k + 1)), nI (G 3 (k + 1)), sm_p (G 6 (k + 1)), 3, xno, xsk, xrt, xsj, xtx, xtl, xcr, upd eN k (nI (G 0 (k + 1))), upd eC k (nI (G 2 (k + 1))), upd eD k (nI (G 3 (k + 1))), upd eT k (sm_p (G 6 (k + 1))), upd eH k (sm_p (G 7 (k + 1))), upd eR k (nI (G 8 (k + 1))), tE, tN)) (v1 := (yms, nI lim, nI dl, ync, ysp, nI n, ylr, yls, yle, nI (k + 1), nI (k + 1), nI k, 0, yfr, 2, nK, nA, nB, nL, nR, ysk, xrt, xsj, xtx, xtl, xcr, fN, fC, fD, fS, fA, fB, fO, fP, fL, fM, tS, tG)) (fun post m i hi hl => sx_go0 hi (fun Q hq => sx_0defx kl hlim i32 hx0 k0 (by omega) hxa hd (by omega) hq) hl) (fun post m i hi hl => sy_go hi (fun Q hq => sy_0defx k256 y1 i32 hkk y2 y3 k0 hd (by omega) (Or.inl ⟨y8, hq⟩)) hl) (ih (P - 1) (k + 1) H P1 vk ⟨rfl, hK, Or.inr ⟨rfl, rfl, I1, Y1, T1, N1, Or.inr (Or.inr (Or.inr ⟨k, E1, X1, rfl, rfl, by rw [ge 7 (by decide)], bd, Or.inl ⟨by rw [ge 4 (by decide)]; exact q, rfl⟩⟩))⟩⟩) P1
    · obtain ⟨q', hq'⟩ : ∃ q', G 4 (k + 1) = q' + 1 := ⟨G 4 (k + 1) - 1, (Nat.succ_pred_eq_of_ne_zero q).symm⟩
      have q9 := pq q' hq'
      rw [hq', sm_ps] at y8
      refine sm_fin_xy (P' := P - 1) (u1 := (xms, nI lim, nI dl, xnc, xsd, nI n, xlr, xls, xle, nI (k + 1), sm_p (G 7 (k + 1)), nI (G 8 (k + 1)), 2, nI (G 0 (k + 1)), nI (G 2 (k + 1)), nI (G 3 (k + 1)), sm_p (G 6 (k + 1)), 3, xno, xsk, xrt, xsj, xtx, xtl, xcr, upd eN k (nI (G 0 (k + 1))), upd eC k (nI (G 2 (k + 1))), upd eD k (nI (G 3 (k + 1))), upd eT k (sm_p (G 6 (k + 1))), upd eH k (sm_p (G 7 (k + 1))), upd eR k (nI (G 8 (k + 1))), tE, tN)) (v1 := (yms, nI lim, nI dl, ync, ysp, nI n, ylr, yls, yle, nI (k + 1), nI (k + 1), nI q', 3, nI k, 0, nK, nA, nB, nL, nR, ysk, xrt, xsj, xtx, xtl, xcr, fN, fC, fD, fS, fA, fB, fO, fP, fL, fM, tS, tG)) (fun post m i hi hl => sx_go0 hi (fun Q hq => sx_0defx kl hlim i32 hx0 k0 (by omega) hxa hd (by omega) hq) hl) (fun post m i hi hl => sy_go hi (fun Q hq => sy_0defx k256 y1 i32 hkk y2 y3 k0 hd (by omega) (Or.inr ⟨q', q9, y8, hq⟩)) hl) (ih (P - 1) (k + 1) H P1 vk ⟨rfl, hK, Or.inr ⟨rfl, rfl, I1, Y1, T1, N1, Or.inr (Or.inr (Or.inr ⟨k, E1, X1, rfl, rfl, by rw [ge 7 (by decide)], bd, Or.inr ⟨q', by rw [ge 4 (by decide)]; exact hq', rfl, rfl, rfl, rfl⟩⟩))⟩⟩) P1
  · rcases cx.2.2.2 a (by omega) with hr | ⟨r, hr1, hr⟩
    · obtain ⟨H, I1, E1, Y1, T1, N1, ge⟩ := sm_T3 I Y T N lK op
      have X1 := sm_X_push (H := H) X (fun i g hi => by rw [ge i (Nat.ne_of_lt (Nat.lt_of_le_of_lt hi (by decide)))]) (fun g hg => by rw [ge 9 (by decide)]) (fun z => absurd z (by omega))
      have bd : (250 - (k + 1)) * 1300 + 260 + 3 * (k + 1) ≤ P - 1 + H 20 (H 4 (k + 1)) := sm_n5 hK hlim hP
      by_cases q : G 4 (k + 1) = 0
      · rw [q, sm_p0] at y8
        refine sm_fin_xy (P' := P - 1) (u1 := (xms, nI lim, nI dl, xnc, xsd, nI n, xlr, xls, xle, nI (k + 1), sm_p (G 7 (k + 1)), nI (G 8 (k + 1)), 2, nI (G 0 (k + 1)), nI (G 2 (k + 1)), nI (G 3 (k + 1)), sm_p (G 6 (k + 1)), 3, xno, xsk, xrt, xsj, xtx, xtl, xcr, upd eN k (nI (G 0 (k + 1))), upd eC k (nI (G 2 (k + 1))), upd eD k (nI (G 3 (k + 1))), upd eT k (sm_p (G 6 (k + 1))), upd eH k (sm_p (G 7 (k + 1))), upd eR k (nI (G 8 (k + 1))), tE, tN)) (v1 := (yms, nI lim, nI dl, ync, ysp, nI n, ylr, yls, yle, nI (k + 1), nI (k + 1), nI k, 0, yfr, 2, nK, nA, nB, nL, nR, ysk, xrt, xsj, xtx, xtl, xcr, fN, fC, fD, fS, fA, fB, fO, fP, fL, fM, tS, tG)) (fun post m i hi hl => sx_go0 hi (fun Q hq => sx_0defu kl hlim i32 hx0 k0 (by omega) hxa (by omega) (by omega) hr hq) hl) (fun post m i hi hl => sy_go hi (fun Q hq => sy_0defu k256 y1 i32 hkk y2 y3 k0 (by omega) (by omega) (by omega) hA hr (Or.inl ⟨y8, hq⟩)) hl) (ih (P - 1) (k + 1) H P1 vk ⟨rfl, hK, Or.inr ⟨rfl, rfl, I1, Y1, T1, N1, Or.inr (Or.inr (Or.inr ⟨k, E1, X1, rfl, rfl, by rw [ge 7 (by decide)], bd, Or.inl ⟨by rw [ge 4 (by decide)]; exact q, rfl⟩⟩))⟩⟩) P1
      · obtain ⟨q', hq'⟩ : ∃ q', G 4 (k + 1) = q' + 1 := ⟨G 4 (k + 1) - 1, (Nat.succ_pred_eq_of_ne_zero q).symm⟩
        have q9 := pq q' hq'
        rw [hq', sm_ps] at y8
        refine sm_fin_xy (P' := P - 1) (u1 := (xms, nI lim, nI dl, xnc, xsd, nI n, xlr, xls, xle, nI (k + 1), sm_p (G 7 (k + 1)), nI (G 8 (k + 1)), 2, nI (G 0 (k + 1)), nI (G 2 (k + 1)), nI (G 3 (k + 1)), sm_p (G 6 (k + 1)), 3, xno, xsk, xrt, xsj, xtx, xtl, xcr, upd eN k (nI (G 0 (k + 1))), upd eC k (nI (G 2 (k + 1))), upd eD k (nI (G 3 (k + 1))), upd eT k (sm_p (G 6 (k + 1))), upd eH k (sm_p (G 7 (k + 1))), upd eR k (nI (G 8 (k + 1))), tE, tN)) (v1 := (yms, nI lim, nI dl, ync, ysp, nI n, ylr, yls, yle, nI (k + 1), nI (k + 1), nI q', 3, nI k, 0, nK, nA, nB, nL, nR, ysk, xrt, xsj, xtx, xtl, xcr, fN, fC, fD, fS, fA, fB, fO, fP, fL, fM, tS, tG)) (fun post m i hi hl => sx_go0 hi (fun Q hq => sx_0defu kl hlim i32 hx0 k0 (by omega) hxa (by omega) (by omega) hr hq) hl) (fun post m i hi hl => sy_go hi (fun Q hq => sy_0defu k256 y1 i32 hkk y2 y3 k0 (by omega) (by omega) (by omega) hA hr (Or.inr ⟨q', q9, y8, hq⟩)) hl) (ih (P - 1) (k + 1) H P1 vk ⟨rfl, hK, Or.inr ⟨rfl, rfl, I1, Y1, T1, N1, Or.inr (Or.inr (Or.inr ⟨k, E1, X1, rfl, rfl, by rw [ge 7 (by decide)], bd, Or.inr ⟨q', by rw [ge 4 (by decide)]; exact hq', rfl, rfl, rfl, rfl⟩⟩))⟩⟩) P1
    · by_cases full : k + 1 = lim
      · refine sm_fin_xy (P' := P - 1) (u1 := (xms, nI lim, nI dl, xnc, xsd, nI n, xlr, xls, xle, nI (k + 1), sm_p (G 7 (k + 1)), nI (G 8 (k + 1)), 0, nI r, nI (G 2 (k + 1)), nI (G 3 (k + 1) + 1), sm_p (G 6 (k + 1)), 3, xno, xsk, xrt, xsj, xtx, xtl, xcr, upd eN k (nI (G 0 (k + 1))), upd eC k (nI (G 2 (k + 1))), upd eD k (nI (G 3 (k + 1))), upd eT k (sm_p (G 6 (k + 1))), upd eH k (sm_p (G 7 (k + 1))), upd eR k (nI (G 8 (k + 1))), tE, tN)) (v1 := (yms, nI lim, nI dl, ync, ysp, nI n, ylr, yls, yle, nI (k + 1), nI (k + 1), nI k, 0, yfr, 3, nK, nA, nB, nL, nR, ysk, xrt, xsj, xtx, xtl, xcr, fN, fC, fD, fS, fA, fB, fO, fP, fL, fM, tS, tG)) (fun post m i hi hl => sx_go0 hi (fun Q hq => sx_0defg kl hlim i32 hx0 k0 (by omega) hxa (by omega) (by omega) hr (by omega) hq) hl) (fun post m i hi hl => sy_go hi (fun Q hq => sy_0defg k256 y1 i32 hkk y2 y3 k0 (by omega) (by omega) (by omega) (by omega) (by omega) hA hr (by omega) (fun _ => hq) (fun z => absurd full z)) hl) (ih (P - 1) (k + 1) G P1 vk ⟨rfl, hK, Or.inl ⟨full, rfl, rfl, by rw [full]⟩⟩) P1
      · have X0 := sm_X_push (H := G) X (fun i g hi => rfl) (fun g hg => rfl) (fun z => absurd z (by omega))
        obtain ⟨H, I1, E1, Y1, T1, N1, gx, h0, h2, h3, h6, h7, h8⟩ := sm_TA (nd := r) (dd := G 3 (k + 1) + 1) (tk := G 6 (k + 1)) (ch := G 7 (k + 1)) I Y T N lK oK top (by omega) (by omega) (fun _ => by rw [E.2.2.2.2.2]; decide) hr1 (cx.2.2.1 _ hr1).2.2.1 (by omega) (by omega) (by omega)
        refine sm_fin_xy (P' := P - 1) (u1 := (xms, nI lim, nI dl, xnc, xsd, nI n, xlr, xls, xle, nI (k + 1), sm_p (G 7 (k + 1)), nI (G 8 (k + 1)), 0, nI r, nI (G 2 (k + 1)), nI (G 3 (k + 1) + 1), sm_p (G 6 (k + 1)), 3, xno, xsk, xrt, xsj, xtx, xtl, xcr, upd eN k (nI (G 0 (k + 1))), upd eC k (nI (G 2 (k + 1))), upd eD k (nI (G 3 (k + 1))), upd eT k (sm_p (G 6 (k + 1))), upd eH k (sm_p (G 7 (k + 1))), upd eR k (nI (G 8 (k + 1))), tE, tN)) (v1 := (yms, nI lim, nI dl, ync, ysp, nI n, ylr, yls, yle, nI (k + 1 + 1), nI (k + 1 + 1), nI (k + 1), 0, yfr, 0, nK, nA, nB, nL, nR, ysk, xrt, xsj, xtx, xtl, xcr, upd fN (k + 1) (nI r), upd fC (k + 1) (nI (G 2 (k + 1))), upd fD (k + 1) (nI (G 3 (k + 1) + 1)), upd fS (k + 1) 0, upd (upd fA (k + 1) (-1)) k (nI (k + 1)), upd fB (k + 1) (-1), upd fO (k + 1) (-1), upd fP (k + 1) (nI k), upd fL (k + 1) (-1), upd fM (k + 1) (-1), tS, tG)) (fun post m i hi hl => sx_go0 hi (fun Q hq => sx_0defg kl hlim i32 hx0 k0 (by omega) hxa (by omega) (by omega) hr (by omega) hq) hl) (fun post m i hi hl => sy_go hi (fun Q hq => sy_0defg k256 y1 i32 hkk y2 y3 k0 (by omega) (by omega) (by omega) (by omega) (by omega) hA hr (by omega) (fun z => absurd z full) (fun _ => hq)) hl) (ih (P - 1) (k + 1 + 1) H P1 vk ⟨rfl, (sm_n6 hK full hlim hP).1, Or.inr ⟨rfl, rfl, I1, Y1, T1, N1, Or.inl ⟨k + 1, rfl, E1, rfl, rfl, rfl, gx _ _ _ _ _ _ X0, rfl, rfl, by rw [h0], by rw [h2], by rw [h3], by rw [h6], by rw [h7], by rw [h8], (sm_n6 hK full hlim hP).2⟩⟩⟩) P1
theorem sm_0four (cx : sm_cx n nc kn xno xrt nK nA nB nL nR) (hlim : lim ≤ 250) (ih : sm_IH xms xnc xsd xlr xls xle yms ync ysp ylr yls yle lim dl n nc kn xno xsk xrt xsj nK nA nB nL nR ysk tS tG P) (vk : sm_vok xtx xtl)
    {k : Nat} (hK : k + 1 ≤ lim) (I : sm_inv (k + 1) n G) (Y : sm_Y (k + 1) G fN fC fD fS fA fB fO fP fL fM) (T : sm_T G tE tN) (N : sm_N (k + 1) nc kn G) (E : sm_e0 (k + 1) G)
    (X : sm_X k G eN eC eD eT eH eR) (hP : (250 - (k + 1)) * 1300 + 1280 ≤ P) (k0 : G 1 (k + 1) = 14 ∨ G 1 (k + 1) = 15 ∨ G 1 (k + 1) = 16 ∨ G 1 (k + 1) = 17) :
    sm_fin xms xnc xsd xlr xls xle yms ync ysp ylr yls yle lim dl n nc kn xno xsk xrt xsj nK nA nB nL nR ysk tS tG P (xms, nI lim, nI dl, xnc, xsd, nI n, xlr, xls, xle, nI k, sm_p (G 7 (k + 1)), nI (G 8 (k + 1)), 0, nI (G 0 (k + 1)), nI (G 2 (k + 1)), nI (G 3 (k + 1)), sm_p (G 6 (k + 1)), 3, xno, xsk, xrt, xsj, xtx, xtl, xcr, eN, eC, eD, eT, eH, eR, tE, tN) (yms, nI lim, nI dl, ync, ysp, nI n, ylr, yls, yle, nI (k + 1), nI (k + 1), nI k, 0, yfr, 0, nK, nA, nB, nL, nR, ysk, xrt, xsj, xtx, xtl, xcr, fN, fC, fD, fS, fA, fB, fO, fP, fL, fM, tS, tG) := by
  have k256 : k < 256 := sm_n1 hK hlim
  have kl : k < lim := hK
  have P1 : P - 1 < P := sm_n2 hP
  have lK := E.2.1
  have oK := E.2.2.1
  have laK := E.2.2.2.1
  have lbK := E.2.2.2.2.1
  have hnd := (N.2 (k + 1) (Nat.succ_pos k) (Nat.le_refl _)).1
  have hkd := (N.2 (k + 1) (Nat.succ_pos k) (Nat.le_refl _)).2.1
  have hd8 := (N.2 (k + 1) (Nat.succ_pos k) (Nat.le_refl _)).2.2
  have D := cx.2.2.1 _ hnd
  have i32 : G 0 (k + 1) < 32 := Nat.lt_of_lt_of_le hnd cx.1
  have y1 : fN k = nI (G 0 (k + 1)) := Y.1 k (Nat.lt_succ_self k)
  have y2 : fC k = nI (G 2 (k + 1)) := Y.2.1 k (Nat.lt_succ_self k)
  have y3 : fD k = nI (G 3 (k + 1)) := Y.2.2.1 k (Nat.lt_succ_self k)
  have y8 : fP k = sm_p (G 4 (k + 1)) := Y.2.2.2.2.2.2.2.1 k (Nat.lt_succ_self k)
  have hkk : nK (G 0 (k + 1)) = nI (G 1 (k + 1)) := by rw [hkd]; exact D.1
  have hx0 : xno (5 * G 0 (k + 1)) = nI (G 1 (k + 1)) := D.2.2.2.1.trans hkk
  have b3 := (I.2.1 _ lK).2.2.1
  have c16 := cx.2.1
  have c32 := cx.1
  have kd0 := D.2.1
  have kd1 := D.2.2.1
  have d5 := D.2.2.2.2.1
  have d6 := D.2.2.2.2.2.1
  have d7 := D.2.2.2.2.2.2.1
  have d8 := D.2.2.2.2.2.2.2.1
  have top : ∀ h, G 15 h = 1 → h ≤ k + 1 := fun h lh => (I.2.1 h lh).1
  have L := I.2.2.1 (k + 1) (Nat.succ_pos k) lK
  have op : G 16 (G 4 (k + 1)) ≠ 1 := fun z => oK (L.2.2.2.2.1 z)
  have pq : ∀ q, G 4 (k + 1) = q + 1 → q < 1000 := fun q hq => sm_n3 hK hlim L.1 hq
  have dq := (I.2.1 _ L.2.1).2.2.2.1
  obtain ⟨l, hl1, hl2⟩ := sm_nd12 D (by omega)
  by_cases full : k + 1 = lim
  · refine sm_fin_xy (P' := P - 1) (u1 := (xms, nI lim, nI dl, xnc, xsd, nI n, xlr, xls, xle, nI (k + 1), sm_p (G 7 (k + 1)), nI (G 8 (k + 1)), 0, nI l, nI (G 2 (k + 1)), nI (G 3 (k + 1)), nI k, 3, xno, xsk, xrt, xsj, xtx, xtl, xcr, upd eN k (nI (G 0 (k + 1))), upd eC k (nI (G 2 (k + 1))), upd eD k (nI (G 3 (k + 1))), upd eT k (sm_p (G 6 (k + 1))), upd eH k (sm_p (G 7 (k + 1))), upd eR k (nI (G 8 (k + 1))), tE, tN)) (v1 := (yms, nI lim, nI dl, ync, ysp, nI n, ylr, yls, yle, nI (k + 1), nI (k + 1), nI k, 0, yfr, 3, nK, nA, nB, nL, nR, ysk, xrt, xsj, xtx, xtl, xcr, fN, fC, fD, fS, fA, fB, fO, fP, fL, fM, tS, tG)) (fun post m i hi hl => sx_go0 hi (fun Q hq => sx_0four kl hlim i32 hx0 k0 (d7.trans hl2) hq) hl) (fun post m i hi hl => sy_go hi (fun Q hq => sy_0des k256 y1 i32 hkk y2 y3 (by omega) (by omega) (by omega) hl2 (fun _ => hq) (fun z => absurd full z)) hl) (ih (P - 1) (k + 1) G P1 vk ⟨rfl, hK, Or.inl ⟨full, rfl, rfl, by rw [full]⟩⟩) P1
  · have X0 := sm_X_push (H := G) X (fun i g hi => rfl) (fun g hg => rfl) (fun z => absurd z (by omega))
    obtain ⟨H, I1, E1, Y1, T1, N1, gx, h0, h2, h3, h6, h7, h8⟩ := sm_TA (nd := l) (dd := G 3 (k + 1)) (tk := k + 1) (ch := G 7 (k + 1)) I Y T N lK oK top (by omega) (by omega) (fun _ => by rw [E.2.2.2.2.2]; decide) (by omega) (cx.2.2.1 l (by omega)).2.2.1 hd8 (by omega) (by omega)
    refine sm_fin_xy (P' := P - 1) (u1 := (xms, nI lim, nI dl, xnc, xsd, nI n, xlr, xls, xle, nI (k + 1), sm_p (G 7 (k + 1)), nI (G 8 (k + 1)), 0, nI l, nI (G 2 (k + 1)), nI (G 3 (k + 1)), nI k, 3, xno, xsk, xrt, xsj, xtx, xtl, xcr, upd eN k (nI (G 0 (k + 1))), upd eC k (nI (G 2 (k + 1))), upd eD k (nI (G 3 (k + 1))), upd eT k (sm_p (G 6 (k + 1))), upd eH k (sm_p (G 7 (k + 1))), upd eR k (nI (G 8 (k + 1))), tE, tN)) (v1 := (yms, nI lim, nI dl, ync, ysp, nI n, ylr, yls, yle, nI (k + 1 + 1), nI (k + 1 + 1), nI (k + 1), 0, yfr, 0, nK, nA, nB, nL, nR, ysk, xrt, xsj, xtx, xtl, xcr, upd fN (k + 1) (nI l), upd fC (k + 1) (nI (G 2 (k + 1))), upd fD (k + 1) (nI (G 3 (k + 1))), upd fS (k + 1) 0, upd (upd fA (k + 1) (-1)) k (nI (k + 1)), upd fB (k + 1) (-1), upd fO (k + 1) (-1), upd fP (k + 1) (nI k), upd fL (k + 1) (-1), upd fM (k + 1) (-1), tS, tG)) (fun post m i hi hl => sx_go0 hi (fun Q hq => sx_0four kl hlim i32 hx0 k0 (d7.trans hl2) hq) hl) (fun post m i hi hl => sy_go hi (fun Q hq => sy_0des k256 y1 i32 hkk y2 y3 (by omega) (by omega) (by omega) hl2 (fun z => absurd z full) (fun _ => hq)) hl) (ih (P - 1) (k + 1 + 1) H P1 vk ⟨rfl, (sm_n6 hK full hlim hP).1, Or.inr ⟨rfl, rfl, I1, Y1, T1, N1, Or.inl ⟨k + 1, rfl, E1, rfl, rfl, rfl, gx _ _ _ _ _ _ X0, rfl, rfl, by rw [h0], by rw [h2], by rw [h3], by rw [h6]; exact (sm_ps k).symm, by rw [h7], by rw [h8], (sm_n6 hK full hlim hP).2⟩⟩⟩) P1
theorem sm_0alt (cx : sm_cx n nc kn xno xrt nK nA nB nL nR) (hlim : lim ≤ 250) (ih : sm_IH xms xnc xsd xlr xls xle yms ync ysp ylr yls yle lim dl n nc kn xno xsk xrt xsj nK nA nB nL nR ysk tS tG P) (vk : sm_vok xtx xtl)
    {k : Nat} (hK : k + 1 ≤ lim) (I : sm_inv (k + 1) n G) (Y : sm_Y (k + 1) G fN fC fD fS fA fB fO fP fL fM) (T : sm_T G tE tN) (N : sm_N (k + 1) nc kn G) (E : sm_e0 (k + 1) G)
    (X : sm_X k G eN eC eD eT eH eR) (hP : (250 - (k + 1)) * 1300 + 1280 ≤ P) (k0 : G 1 (k + 1) = 18) :
    sm_fin xms xnc xsd xlr xls xle yms ync ysp ylr yls yle lim dl n nc kn xno xsk xrt xsj nK nA nB nL nR ysk tS tG P (xms, nI lim, nI dl, xnc, xsd, nI n, xlr, xls, xle, nI k, sm_p (G 7 (k + 1)), nI (G 8 (k + 1)), 0, nI (G 0 (k + 1)), nI (G 2 (k + 1)), nI (G 3 (k + 1)), sm_p (G 6 (k + 1)), 3, xno, xsk, xrt, xsj, xtx, xtl, xcr, eN, eC, eD, eT, eH, eR, tE, tN) (yms, nI lim, nI dl, ync, ysp, nI n, ylr, yls, yle, nI (k + 1), nI (k + 1), nI k, 0, yfr, 0, nK, nA, nB, nL, nR, ysk, xrt, xsj, xtx, xtl, xcr, fN, fC, fD, fS, fA, fB, fO, fP, fL, fM, tS, tG) := by
  have k256 : k < 256 := sm_n1 hK hlim
  have kl : k < lim := hK
  have P1 : P - 1 < P := sm_n2 hP
  have lK := E.2.1
  have oK := E.2.2.1
  have laK := E.2.2.2.1
  have lbK := E.2.2.2.2.1
  have hnd := (N.2 (k + 1) (Nat.succ_pos k) (Nat.le_refl _)).1
  have hkd := (N.2 (k + 1) (Nat.succ_pos k) (Nat.le_refl _)).2.1
  have hd8 := (N.2 (k + 1) (Nat.succ_pos k) (Nat.le_refl _)).2.2
  have D := cx.2.2.1 _ hnd
  have i32 : G 0 (k + 1) < 32 := Nat.lt_of_lt_of_le hnd cx.1
  have y1 : fN k = nI (G 0 (k + 1)) := Y.1 k (Nat.lt_succ_self k)
  have y2 : fC k = nI (G 2 (k + 1)) := Y.2.1 k (Nat.lt_succ_self k)
  have y3 : fD k = nI (G 3 (k + 1)) := Y.2.2.1 k (Nat.lt_succ_self k)
  have y8 : fP k = sm_p (G 4 (k + 1)) := Y.2.2.2.2.2.2.2.1 k (Nat.lt_succ_self k)
  have hkk : nK (G 0 (k + 1)) = nI (G 1 (k + 1)) := by rw [hkd]; exact D.1
  have hx0 : xno (5 * G 0 (k + 1)) = nI (G 1 (k + 1)) := D.2.2.2.1.trans hkk
  have b3 := (I.2.1 _ lK).2.2.1
  have c16 := cx.2.1
  have c32 := cx.1
  have kd0 := D.2.1
  have kd1 := D.2.2.1
  have d5 := D.2.2.2.2.1
  have d6 := D.2.2.2.2.2.1
  have d7 := D.2.2.2.2.2.2.1
  have d8 := D.2.2.2.2.2.2.2.1
  have top : ∀ h, G 15 h = 1 → h ≤ k + 1 := fun h lh => (I.2.1 h lh).1
  have L := I.2.2.1 (k + 1) (Nat.succ_pos k) lK
  have op : G 16 (G 4 (k + 1)) ≠ 1 := fun z => oK (L.2.2.2.2.1 z)
  have pq : ∀ q, G 4 (k + 1) = q + 1 → q < 1000 := fun q hq => sm_n3 hK hlim L.1 hq
  have dq := (I.2.1 _ L.2.1).2.2.2.1
  obtain ⟨l, hl1, hl2⟩ := sm_nd12 D (by omega)
  by_cases full : k + 1 = lim
  · refine sm_fin_xy (P' := P - 1) (u1 := (xms, nI lim, nI dl, xnc, xsd, nI n, xlr, xls, xle, nI (k + 1), nI k, nI (G 8 (k + 1)), 0, nI l, nI (G 2 (k + 1)), nI (G 3 (k + 1)), sm_p (G 6 (k + 1)), 3, xno, xsk, xrt, xsj, xtx, xtl, xcr, upd eN k (nI (G 0 (k + 1))), upd eC k (nI (G 2 (k + 1))), upd eD k (nI (G 3 (k + 1))), upd eT k (sm_p (G 6 (k + 1))), upd eH k (sm_p (G 7 (k + 1))), upd eR k (nI (G 8 (k + 1))), tE, tN)) (v1 := (yms, nI lim, nI dl, ync, ysp, nI n, ylr, yls, yle, nI (k + 1), nI (k + 1), nI k, 0, yfr, 3, nK, nA, nB, nL, nR, ysk, xrt, xsj, xtx, xtl, xcr, fN, fC, fD, fS, fA, fB, fO, fP, fL, fM, tS, tG)) (fun post m i hi hl => sx_go0 hi (fun Q hq => sx_0alt kl hlim i32 hx0 k0 (d7.trans hl2) hq) hl) (fun post m i hi hl => sy_go hi (fun Q hq => sy_0des k256 y1 i32 hkk y2 y3 (by omega) (by omega) (by omega) hl2 (fun _ => hq) (fun z => absurd full z)) hl) (ih (P - 1) (k + 1) G P1 vk ⟨rfl, hK, Or.inl ⟨full, rfl, rfl, by rw [full]⟩⟩) P1
  · have X0 := sm_X_push (H := G) X (fun i g hi => rfl) (fun g hg => rfl) (fun z => absurd z (by omega))
    obtain ⟨H, I1, E1, Y1, T1, N1, gx, h0, h2, h3, h6, h7, h8⟩ := sm_TA (nd := l) (dd := G 3 (k + 1)) (tk := G 6 (k + 1)) (ch := k + 1) I Y T N lK oK top (by omega) (by omega) (fun _ => by rw [E.2.2.2.2.2]; decide) (by omega) (cx.2.2.1 l (by omega)).2.2.1 hd8 (by omega) (Or.inl ⟨k0, E.2.2.2.2.2, rfl⟩)
    refine sm_fin_xy (P' := P - 1) (u1 := (xms, nI lim, nI dl, xnc, xsd, nI n, xlr, xls, xle, nI (k + 1), nI k, nI (G 8 (k + 1)), 0, nI l, nI (G 2 (k + 1)), nI (G 3 (k + 1)), sm_p (G 6 (k + 1)), 3, xno, xsk, xrt, xsj, xtx, xtl, xcr, upd eN k (nI (G 0 (k + 1))), upd eC k (nI (G 2 (k + 1))), upd eD k (nI (G 3 (k + 1))), upd eT k (sm_p (G 6 (k + 1))), upd eH k (sm_p (G 7 (k + 1))), upd eR k (nI (G 8 (k + 1))), tE, tN)) (v1 := (yms, nI lim, nI dl, ync, ysp, nI n, ylr, yls, yle, nI (k + 1 + 1), nI (k + 1 + 1), nI (k + 1), 0, yfr, 0, nK, nA, nB, nL, nR, ysk, xrt, xsj, xtx, xtl, xcr, upd fN (k + 1) (nI l), upd fC (k + 1) (nI (G 2 (k + 1))), upd fD (k + 1) (nI (G 3 (k + 1))), upd fS (k + 1) 0, upd (upd fA (k + 1) (-1)) k (nI (k + 1)), upd fB (k + 1) (-1), upd fO (k + 1) (-1), upd fP (k + 1) (nI k), upd fL (k + 1) (-1), upd fM (k + 1) (-1), tS, tG)) (fun post m i hi hl => sx_go0 hi (fun Q hq => sx_0alt kl hlim i32 hx0 k0 (d7.trans hl2) hq) hl) (fun post m i hi hl => sy_go hi (fun Q hq => sy_0des k256 y1 i32 hkk y2 y3 (by omega) (by omega) (by omega) hl2 (fun z => absurd z full) (fun _ => hq)) hl) (ih (P - 1) (k + 1 + 1) H P1 vk ⟨rfl, (sm_n6 hK full hlim hP).1, Or.inr ⟨rfl, rfl, I1, Y1, T1, N1, Or.inl ⟨k + 1, rfl, E1, rfl, rfl, rfl, gx _ _ _ _ _ _ X0, rfl, rfl, by rw [h0], by rw [h2], by rw [h3], by rw [h6], by rw [h7]; exact (sm_ps k).symm, by rw [h8], (sm_n6 hK full hlim hP).2⟩⟩⟩) P1
end
