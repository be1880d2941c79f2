section
variable {xms xnc xsd xlr xls xle yms ync ysp ylr yls yle : Int32} {lim dl n nc : Nat} {kn : Nat → Nat} {xno xsk xrt xsj nK nA nB nL nR ysk tS tG : Nat → Int32}
variable {xst xnw xtc xtu xtn xcu xtd xtt xsr yfc yst ycf yev yfr ydo : Int32} {xtx xtl xcr eN eC eD eT eH eR tE tN fN fC fD fS fA fB fO fP fL fM : Nat → Int32}
variable {K t : Nat} {G : Nat → Nat → Nat}
theorem sm_dfs (cx : sm_cx n nc kn xno xrt nK nA nB nL nR) (sj : sm_ch xsj 16) (hK : K ≤ 250) (I : sm_inv K n G) (X : sm_X K G eN eC eD eT eH eR) (Y : sm_Y K G fN fC fD fS fA fB fO fP fL fM) (T : sm_T G tE tN) (N : sm_N K nc kn G)
    (ht : t ≤ 250) (mt : ∀ g, G 15 g = 1 → G 16 g = 1 → G 19 g ≤ t) :
    ∀ sz f j it (tS tG xtx xtl : Nat → Int32), G 17 (f + 1) - (f + 1) ≤ sz → G 15 (f + 1) = 1 → G 16 (f + 1) = 1 → j + (G 17 (f + 1) - (f + 1)) ≤ 254 → it + 3 * (G 17 (f + 1) - (f + 1)) ≤ 1000 →
      tS j = nI f → tG j = 0 → sm_vok xtx xtl →
      ∃ k m, ∃ tS' tG' tx' tl' : Nat → Int32, m ≤ 3 * (G 17 (f + 1) - (f + 1)) ∧ sm_vok tx' tl' ∧ (∀ i, i < j → tS' i = tS i ∧ tG' i = tG i) ∧
        (∀ post w, wX_applyTriples_2 post w (nI (G 19 (f + 1))) xms (nI lim) (nI dl) xnc xsd (nI n) xlr xls xle xst xnw (nI t) xtu xtn xcu xtd xtt xsr xno xsk xrt xsj tx' tl' xcr eN eC eD eT eH eR tE tN → wX_applyTriples_2 post (w + k) (nI (G 8 (f + 1))) xms (nI lim) (nI dl) xnc xsd (nI n) xlr xls xle xst xnw (nI t) xtu xtn xcu xtd xtt xsr xno xsk xrt xsj xtx xtl xcr eN eC eD eT eH eR tE tN) ∧
        (∀ post w, wY_applyTriples_18 post w (nI j) (nI (it + m)) yms (nI lim) (nI dl) ync ysp (nI n) ylr yls yle yfc yst ycf yev yfr ydo nK nA nB nL nR ysk xrt xsj tx' tl' xcr fN fC fD fS fA fB fO fP fL fM tS' tG' → wY_applyTriples_18 post (w + m) (nI (j + 1)) (nI it) yms (nI lim) (nI dl) ync ysp (nI n) ylr yls yle yfc yst ycf yev yfr ydo nK nA nB nL nR ysk xrt xsj xtx xtl xcr fN fC fD fS fA fB fO fP fL fM tS tG) := by
  intro sz
  induction sz with
  | zero =>
    intro f j it tS tG xtx xtl hs lf zf
    have := (I.2.2.2.1 _ lf zf).1
    omega
  | succ sz ih =>
    intro f j it tS tG xtx xtl hs lf zf hj hi hS hG vk
    have F := I.2.2.2.1 _ lf zf
    have z1 := F.1
    have z2 := F.2.1
    have z4 := F.2.2.2.1
    have z5 := F.2.2.2.2.1
    have fK : f < K := (I.2.1 _ lf).1
    have f256 : f < 256 := by omega
    have c16 := cx.2.1
    have hnd := (N.2 (f + 1) (Nat.succ_pos f) fK).1
    have hkd := (N.2 (f + 1) (Nat.succ_pos f) fK).2.1
    have D := cx.2.2.1 _ hnd
    have i32 : G 0 (f + 1) < 32 := Nat.lt_of_lt_of_le hnd cx.1
    have hkk : nK (G 0 (f + 1)) = nI (G 1 (f + 1)) := by rw [hkd]; exact D.1
    have k1000 : G 1 (f + 1) < 1000 := by have := (I.2.1 _ lf).2.2.2.2.1; omega
    have y1 : fN f = nI (G 0 (f + 1)) := Y.1 f fK
    have y2 : fC f = nI (G 2 (f + 1)) := Y.2.1 f fK
    have y7 : fO f = nI (G 12 (f + 1)) := Y.2.2.2.2.2.2.1 (f + 1) (Nat.succ_pos f) lf zf
    have y9 : fL f = sm_p (G 13 (f + 1)) := Y.2.2.2.2.2.2.2.2.1 f fK
    have y10 : fM f = sm_p (G 14 (f + 1)) := Y.2.2.2.2.2.2.2.2.2 f fK
    rcases F.2.2.2.2.2 with f0 | f1 | f2
    · obtain ⟨a1, a2, a3, a4, a5, a6⟩ := f0
      rw [a2, sm_p0] at y9
      rw [a3, sm_p0] at y10
      have k16 : G 1 (f + 1) ≠ 16 := by omega
      refine ⟨0, 3, tS, upd (upd tG j 1) j 2, xtx, xtl, by omega, vk, fun i h => ⟨rfl, by rw [pk_un (by omega), pk_un (by omega)]⟩, ?_, ?_⟩
      · intro post w h
        rw [← a4]; exact h
      · intro post w h
        exact sy_t0n (m := w + 2) (by omega) (by omega) f256 hS hG y9 (sy_t1n (m := w + 1) (by omega) (by omega) f256 hS pk_us y10 (sy_t2n (m := w) (by omega) (by omega) f256 hS pk_us y1 i32 hkk k16 k1000 h))
    · obtain ⟨a1, a2, a3, a4, a5, a6, a7⟩ := f1
      obtain ⟨b1, b2, b3, b4, b5, b6⟩ := a2
      obtain ⟨c, hc⟩ : ∃ c, G 10 (f + 1) = c + 1 := ⟨G 10 (f + 1) - 1, by omega⟩
      rw [hc] at b1 b2 b3 b4 b5 b6 a4 a6
      have Lc := I.2.2.1 (c + 1) (Nat.succ_pos c) b2
      rw [b4] at Lc
      have fc := Lc.1
      have cK : c < K := (I.2.1 _ b2).1
      have zc := (I.2.2.2.1 _ b2 b3).1
      have trc : G 8 (c + 1) = G 8 (f + 1) := by
        rcases Lc.2.2.2.2.2.2 with r | r
        · exact r.2.2.1
        · have := r.2.1; omega
      rw [a4, sm_ps] at y9
      rw [a5, sm_p0] at y10
      obtain ⟨k1, m1, tS2, tG2, tx2, tl2, m1b, vk2, ag, hx, hy⟩ := ih c (j + 1) (it + 1) (upd tS (j + 1) (nI c)) (upd (upd tG j 1) (j + 1) 0) xtx xtl (by omega) b2 b3 (by omega) (by omega) pk_us pk_us vk
      have s2 : tS2 j = nI f := by rw [(ag j (by omega)).1, pk_un (by omega)]; exact hS
      have g2 : tG2 j = 1 := by rw [(ag j (by omega)).2, pk_un (by omega), pk_us]
      have low : ∀ i, i < j → tS2 i = tS i ∧ upd tG2 j 2 i = tG i := by
        intro i hi
        rw [(ag i (by omega)).1, pk_un (by omega), pk_un (by omega), (ag i (by omega)).2, pk_un (by omega), pk_un (by omega)]
        exact ⟨rfl, rfl⟩
      by_cases k16 : G 1 (f + 1) = 16
      · obtain ⟨a, ha, hA⟩ := sm_nd10 D (by rw [← hkd]; omega)
        have tt := T (f + 1) (Nat.succ_pos f) lf zf k16
        have e1 : G 19 (f + 1) = G 19 (c + 1) + 1 := by omega
        have e2 : G 19 (f + 1) - 1 = G 19 (c + 1) := by omega
        rw [e2] at tt
        have mtf := mt _ lf zf
        have x1 : eN f = nI (G 0 (f + 1)) := X.1 f fK
        have x2 : eC f = nI (sm_ec G (f + 1)) := X.2.1 f fK
        rw [sm_ne10 (by omega)] at x2
        refine ⟨1 + k1, m1 + 3, tS2, upd tG2 j 2, sm_put xsj tx2 a (G 2 (f + 1)) (G 12 (f + 1) - G 2 (f + 1)), upd tl2 a (nI (G 12 (f + 1) - G 2 (f + 1))), by omega, sm_put_ok sj vk2 ha z4 (by omega), low, ?_, ?_⟩
        · intro post w h
          have e3 : w + (1 + k1) = w + 1 + k1 := by omega
          rw [e3, ← trc]
          rw [e1] at h
          exact hx post (w + 1) (sx_t ht (by omega) tt.1 (by omega) x1 i32 (D.2.2.2.2.1.trans hA) ha x2 tt.2 z4 (by omega) h)
        · intro post w h
          have e3 : w + (m1 + 3) = w + 1 + 1 + m1 + 1 := by omega
          have e4 : it + (m1 + 3) = it + 1 + m1 + 1 + 1 := by omega
          rw [e3]
          rw [e4] at h
          exact sy_t0c (by omega) (by omega) f256 hS hG (by omega) y9 (hy post (w + 1 + 1) (sy_t1n (by omega) (by omega) f256 s2 g2 y10 (sy_t2c (by omega) (by omega) f256 s2 pk_us y1 i32 (hkk.trans (sm_eqI k16)) hA ha y2 y7 z4 z5 c16 h)))
      · have e1 : G 19 (f + 1) = G 19 (c + 1) := by omega
        refine ⟨k1, m1 + 3, tS2, upd tG2 j 2, tx2, tl2, by omega, vk2, low, ?_, ?_⟩
        · intro post w h
          rw [← trc]
          rw [e1] at h
          exact hx post w h
        · intro post w h
          have e3 : w + (m1 + 3) = w + 1 + 1 + m1 + 1 := by omega
          have e4 : it + (m1 + 3) = it + 1 + m1 + 1 + 1 := by omega
          rw [e3]
          rw [e4] at h
          exact sy_t0c (by omega) (by omega) f256 hS hG (by omega) y9 (hy post (w + 1 + 1) (sy_t1n (by omega) (by omega) f256 s2 g2 y10 (sy_t2n (by omega) (by omega) f256 s2 pk_us y1 i32 hkk k16 k1000 h)))
    · obtain ⟨a1, a2, a3, a4, a5, a6, a7⟩ := f2
      obtain ⟨b1, b2, b3, b4, b5, b6⟩ := a2
      obtain ⟨b, hb⟩ : ∃ b, G 11 (f + 1) = b + 1 := ⟨G 11 (f + 1) - 1, by omega⟩
      rw [hb] at b1 b2 b3 b4 b5 b6 a3 a5 a6
      have Lb := I.2.2.1 (b + 1) (Nat.succ_pos b) b2
      rw [b4] at Lb
      have sb : sm_s1 G (b + 1) (f + 1) := by
        rcases Lb.2.2.2.2.2.2 with r | r
        · have := r.1; omega
        · exact r
      obtain ⟨d1, d2, d3, d4, d5, d6, d7, d8, d9, d10, d11, d12, d13⟩ := sb
      obtain ⟨c, hc⟩ : ∃ c, G 10 (f + 1) = c + 1 := ⟨G 10 (f + 1) - 1, by omega⟩
      rw [hc] at d4 d5 d6 d7 d8 d9 d10 a4
      have Lc := I.2.2.1 (c + 1) (Nat.succ_pos c) d4
      rw [d8] at Lc
      have fc := Lc.1
      have bK : b < K := (I.2.1 _ b2).1
      have zb := (I.2.2.2.1 _ b2 b3).1
      have zc := (I.2.2.2.1 _ d4 d5).1
      have trc : G 8 (c + 1) = G 8 (f + 1) := by
        rcases Lc.2.2.2.2.2.2 with r | r
        · exact r.2.2.1
        · have := r.1; omega
      have k16 : G 1 (f + 1) ≠ 16 := by omega
      rw [a4, sm_ps] at y9
      rw [a5, sm_ps] at y10
      obtain ⟨k1, m1, tS2, tG2, tx2, tl2, m1b, vk2, ag, hx, hy⟩ := ih c (j + 1) (it + 1) (upd tS (j + 1) (nI c)) (upd (upd tG j 1) (j + 1) 0) xtx xtl (by omega) d4 d5 (by omega) (by omega) pk_us pk_us vk
      have s2 : tS2 j = nI f := by rw [(ag j (by omega)).1, pk_un (by omega)]; exact hS
      have g2 : tG2 j = 1 := by rw [(ag j (by omega)).2, pk_un (by omega), pk_us]
      obtain ⟨k2, m2, tS3, tG3, tx3, tl3, m2b, vk3, ag3, hx3, hy3⟩ := ih b (j + 1) (it + 1 + m1 + 1) (upd tS2 (j + 1) (nI b)) (upd (upd tG2 j 2) (j + 1) 0) tx2 tl2 (by omega) b2 b3 (by omega) (by omega) pk_us pk_us vk2
      have s3 : tS3 j = nI f := by rw [(ag3 j (by omega)).1, pk_un (by omega)]; exact s2
      have g3 : tG3 j = 2 := by rw [(ag3 j (by omega)).2, pk_un (by omega), pk_us]
      have low : ∀ i, i < j → tS3 i = tS i ∧ tG3 i = tG i := by
        intro i hi
        rw [(ag3 i (by omega)).1, (ag3 i (by omega)).2, pk_un (by omega), pk_un (by omega), pk_un (by omega), (ag i (by omega)).1, (ag i (by omega)).2, pk_un (by omega), pk_un (by omega), pk_un (by omega)]
        exact ⟨rfl, rfl⟩
      refine ⟨k2 + k1, m2 + m1 + 3, tS3, tG3, tx3, tl3, by omega, vk3, low, ?_, ?_⟩
      · intro post w h
        have e3 : w + (k2 + k1) = w + k2 + k1 := by omega
        rw [e3, ← trc]
        rw [a6] at h
        have h2 := hx3 post w h
        rw [d10] at h2
        exact hx post (w + k2) h2
      · intro post w h
        have e3 : w + (m2 + m1 + 3) = w + 1 + m2 + 1 + m1 + 1 := by omega
        have e4 : it + (m2 + m1 + 3) = it + 1 + m1 + 1 + m2 + 1 := by omega
        rw [e3]
        rw [e4] at h
        exact sy_t0c (by omega) (by omega) f256 hS hG (by omega) y9 (hy post (w + 1 + m2 + 1) (sy_t1c (by omega) (by omega) f256 s2 g2 (by omega) y10 (hy3 post (w + 1) (sy_t2n (by omega) (by omega) f256 s3 g3 y1 i32 hkk k16 k1000 h))))
/-- the triples carried out on both sides -/
theorem sm_apply (cx : sm_cx n nc kn xno xrt nK nA nB nL nR) (sj : sm_ch xsj 16) (hK : K ≤ 250) (I : sm_inv K n G) (E : sm_e2 K G 1) (X : sm_X K G eN eC eD eT eH eR) (Y : sm_Y K G fN fC fD fS fA fB fO fP fL fM) (T : sm_T G tE tN) (N : sm_N K nc kn G) (vk : sm_vok xtx xtl) :
    ∃ tS' tG' tx' tl' : Nat → Int32, sm_vok tx' tl' ∧ (∀ post : SX → Prop, post (xms, nI lim, nI dl, xnc, xsd, nI n, xlr, xls, xle, xst, xnw, nI (G 19 1), xtu, xtn, xcu, xtd, xtt, xsr, xno, xsk, xrt, xsj, tx', tl', xcr, eN, eC, eD, eT, eH, eR, tE, tN) → wpX_applyTriples post (xms, nI lim, nI dl, xnc, xsd, nI n, xlr, xls, xle, xst, xnw, nI (G 19 1), xtu, xtn, xcu, xtd, xtt, xsr, xno, xsk, xrt, xsj, xtx, xtl, xcr, eN, eC, eD, eT, eH, eR, tE, tN)) ∧
      (∀ post : SY → Prop, post (yms, nI lim, nI dl, ync, ysp, nI n, ylr, yls, yle, yfc, yst, ycf, yev, yfr, ydo, nK, nA, nB, nL, nR, ysk, xrt, xsj, tx', tl', xcr, fN, fC, fD, fS, fA, fB, fO, fP, fL, fM, tS', tG') → wpY_applyTriples post (yms, nI lim, nI dl, ync, ysp, nI n, ylr, yls, yle, yfc, yst, ycf, yev, yfr, ydo, nK, nA, nB, nL, nR, ysk, xrt, xsj, xtx, xtl, xcr, fN, fC, fD, fS, fA, fB, fO, fP, fL, fM, tS, tG)) := by
  have hi1 := E.2.2.2.1
  have F := I.2.2.2.1 1 E.2.1 E.2.2.1
  have B := I.2.1 1 E.2.1
  have t0 : G 8 1 = 0 := by have := B.2.1; omega
  have t250 : G 19 1 ≤ 250 := by have := F.2.2.1; omega
  have hi2 : G 17 (0 + 1) = K + 1 := hi1
  obtain ⟨k, m, tS', tG', tx', tl', mb, vk', _, hx, hy⟩ := sm_dfs (t := G 19 1) (xms := xms) (xnc := xnc) (xsd := xsd) (xlr := xlr) (xls := xls) (xle := xle) (yms := yms) (ync := ync) (ysp := ysp) (ylr := ylr) (yls := yls) (yle := yle) (lim := lim) (dl := dl) (xsk := xsk) (ysk := ysk) (xst := xst) (xnw := xnw) (xtu := xtu) (xtn := xtn) (xcu := xcu) (xtd := xtd) (xtt := xtt) (xsr := xsr) (yfc := yfc) (yst := yst) (ycf := ycf) (yev := yev) (yfr := yfr) (ydo := ydo) (xcr := xcr) cx sj hK I X Y T N t250 E.2.2.2.2.2.1 250 0 0 0 (upd tS 0 0) (upd tG 0 0) xtx xtl (by omega) E.2.1 E.2.2.1 (by omega) (by omega) pk_us pk_us vk
  refine ⟨tS', tG', tx', tl', vk', ?_, ?_⟩
  · intro post hp
    refine ⟨1 + k, ?_⟩
    have h := hx post 1 (sx_tend hp (Nat.lt_of_le_of_lt t250 (by decide)))
    rw [t0] at h
    exact h
  · intro post hp
    refine nm_r rfl (nm_r rfl ⟨1 + m, hy post 1 ?_⟩)
    refine br_f (nI_ge (b := 1024) (by omega) (by omega)) (br_t (by decide) hp)
end
