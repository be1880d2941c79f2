section
variable {xms xnc xsd xlr xls xle yms ync ysp ylr yls yle : Int32} {lim dl n nc : Nat} {kn : Nat → Nat} {xno xsk xrt xsj nK nA nB nL nR ysk tS tG : Nat → Int32}
variable {xst xnw xtc xtu xtn xcu xtd xtt xsr yfc yst ycf yev yfr ydo : Int32} {xtx xtl xcr eN eC eD eT eH eR tE tN fN fC fD fS fA fB fO fP fL fM : Nat → Int32}
variable {P K : Nat} {G : Nat → Nat → Nat}
/-- the step limit met -/
theorem sm_evF (hlim : lim ≤ 250) (vk : sm_vok xtx xtl) : sm_fin xms xnc xsd xlr xls xle yms ync ysp ylr yls yle lim dl n nc kn xno xsk xrt xsj nK nA nB nL nR ysk tS tG P (xms, nI lim, nI dl, xnc, xsd, nI n, xlr, xls, xle, nI lim, xnw, xtc, 0, xtn, xcu, xtd, xtt, 3, xno, xsk, xrt, xsj, xtx, xtl, xcr, eN, eC, eD, eT, eH, eR, tE, tN) (yms, nI lim, nI dl, ync, ysp, nI n, ylr, yls, yle, yfc, yst, ycf, yev, yfr, 3, nK, nA, nB, nL, nR, ysk, xrt, xsj, xtx, xtl, xcr, fN, fC, fD, fS, fA, fB, fO, fP, fL, fM, tS, tG) := by
  refine ⟨nI lim, xnw, xtc, 0, xtn, xcu, xtd, xtt, 2, yfc, yst, ycf, yev, yfr, 3, xtx, xtl, xcr, eN, eC, eD, eT, eH, eR, tE, tN, fN, fC, fD, fS, fA, fB, fO, fP, fL, fM, vk, Or.inr (Or.inl ⟨rfl, rfl⟩), ?_, ?_⟩
  · intro post m i h1 h2 hp
    obtain ⟨m, rfl⟩ : ∃ k, m = k + 2 := ⟨m - 2, by omega⟩
    exact sx_go0 (by omega) (fun Q hQ => sx_0full (Nat.le_refl lim) hlim hQ) (sx_stop (by omega) (by decide) hp)
  · intro post m i h1 h2 hp
    obtain ⟨m, rfl⟩ : ∃ k, m = k + 1 := ⟨m - 1, by omega⟩
    exact sy_stop (by omega) (by decide) hp
/-- the root exhausted -/
theorem sm_evX (vk : sm_vok xtx xtl) : sm_fin xms xnc xsd xlr xls xle yms ync ysp ylr yls yle lim dl n nc kn xno xsk xrt xsj nK nA nB nL nR ysk tS tG P (xms, nI lim, nI dl, xnc, xsd, nI n, xlr, xls, xle, xst, -1, xtc, 2, xtn, xcu, xtd, xtt, 3, xno, xsk, xrt, xsj, xtx, xtl, xcr, eN, eC, eD, eT, eH, eR, tE, tN) (yms, nI lim, nI dl, ync, ysp, nI n, ylr, yls, yle, yfc, yst, ycf, yev, yfr, 2, nK, nA, nB, nL, nR, ysk, xrt, xsj, xtx, xtl, xcr, fN, fC, fD, fS, fA, fB, fO, fP, fL, fM, tS, tG) := by
  refine ⟨xst, -1, xtc, 2, xtn, xcu, xtd, xtt, 0, yfc, yst, ycf, yev, yfr, 2, xtx, xtl, xcr, eN, eC, eD, eT, eH, eR, tE, tN, fN, fC, fD, fS, fA, fB, fO, fP, fL, fM, vk, Or.inl ⟨rfl, rfl⟩, ?_, ?_⟩
  · intro post m i h1 h2 hp
    obtain ⟨m, rfl⟩ : ∃ k, m = k + 2 := ⟨m - 2, by omega⟩
    exact sx_go2 (by omega) (fun Q hQ => sx_2none hQ) (sx_stop (by omega) (by decide) hp)
  · intro post m i h1 h2 hp
    obtain ⟨m, rfl⟩ : ∃ k, m = k + 1 := ⟨m - 1, by omega⟩
    exact sy_stop (by omega) (by decide) hp
/-- the root's outcome -/
theorem sm_evM (vk : sm_vok xtx xtl) (he : sm_end n nc kn xst xnw xtc 1 xtn xcu xtd (-1) 1 yfc yst ycf yev yfr 1 xtx xtl xcr eN eC eD eT eH eR tE tN fN fC fD fS fA fB fO fP fL fM) :
    sm_fin xms xnc xsd xlr xls xle yms ync ysp ylr yls yle lim dl n nc kn xno xsk xrt xsj nK nA nB nL nR ysk tS tG P (xms, nI lim, nI dl, xnc, xsd, nI n, xlr, xls, xle, xst, xnw, xtc, 1, xtn, xcu, xtd, -1, 3, xno, xsk, xrt, xsj, xtx, xtl, xcr, eN, eC, eD, eT, eH, eR, tE, tN) (yms, nI lim, nI dl, ync, ysp, nI n, ylr, yls, yle, yfc, yst, ycf, yev, yfr, 1, nK, nA, nB, nL, nR, ysk, xrt, xsj, xtx, xtl, xcr, fN, fC, fD, fS, fA, fB, fO, fP, fL, fM, tS, tG) := by
  refine ⟨xst, xnw, xtc, 1, xtn, xcu, xtd, -1, 1, yfc, yst, ycf, yev, yfr, 1, xtx, xtl, xcr, eN, eC, eD, eT, eH, eR, tE, tN, fN, fC, fD, fS, fA, fB, fO, fP, fL, fM, vk, he, ?_, ?_⟩
  · intro post m i h1 h2 hp
    obtain ⟨m, rfl⟩ : ∃ k, m = k + 2 := ⟨m - 2, by omega⟩
    exact sx_go1 (by omega) (fun Q hQ => sx_1none hQ) (sx_stop (by omega) (by decide) hp)
  · intro post m i h1 h2 hp
    obtain ⟨m, rfl⟩ : ∃ k, m = k + 1 := ⟨m - 1, by omega⟩
    exact sy_stop (by omega) (by decide) hp
theorem sm_root {f : Nat} (I : sm_inv K n G) (N : sm_N K nc kn G) (L : sm_lp G (f + 1) (G 4 (f + 1))) (hp : G 4 (f + 1) = 0) : f = 0 ∧ G 6 (f + 1) = 0 ∧ G 7 (f + 1) = 0 := by
  obtain ⟨a1, a2, a3, a4, a5, a6, a7, a8⟩ := I.1
  rw [hp] at L
  rcases L.2.2.2.2.2.2 with q | q
  · obtain ⟨c1, c2, c3, c4, c5, c6⟩ := q
    have := N.1
    omega
  · have := q.2.1
    omega
theorem sm_step (cx : sm_cx n nc kn xno xrt nK nA nB nL nR) (hlim : lim ≤ 250) (hdl : dl ≤ 8) (sj : sm_ch xsj 16) (ih : sm_IH xms xnc xsd xlr xls xle yms ync ysp ylr yls yle lim dl n nc kn xno xsk xrt xsj nK nA nB nL nR ysk tS tG P) (vk : sm_vok xtx xtl)
    (R : sm_rel lim n nc kn P K G xst xnw xtc xtu xtn xcu xtd xtt xsr yfc yst ycf yev yfr ydo xtx xtl xcr eN eC eD eT eH eR tE tN fN fC fD fS fA fB fO fP fL fM) : sm_fin xms xnc xsd xlr xls xle yms ync ysp ylr yls yle lim dl n nc kn xno xsk xrt xsj nK nA nB nL nR ysk tS tG P (xms, nI lim, nI dl, xnc, xsd, nI n, xlr, xls, xle, xst, xnw, xtc, xtu, xtn, xcu, xtd, xtt, xsr, xno, xsk, xrt, xsj, xtx, xtl, xcr, eN, eC, eD, eT, eH, eR, tE, tN) (yms, nI lim, nI dl, ync, ysp, nI n, ylr, yls, yle, yfc, yst, ycf, yev, yfr, ydo, nK, nA, nB, nL, nR, ysk, xrt, xsj, xtx, xtl, xcr, fN, fC, fD, fS, fA, fB, fO, fP, fL, fM, tS, tG) := by
  obtain ⟨r0, hK, R⟩ := R
  subst r0
  rcases R with ⟨r1, r2, r3, r4⟩ | ⟨r1, r2, I, Y, T, N, R⟩
  · subst r2 r3 r4
    exact sm_evF hlim vk
  · subst r1 r2
    rcases R with R | R | R | R
    · obtain ⟨k, hk, E, q1, q2, q3, X, q4, q5, q6, q7, q8, q9, q10, q11, hP⟩ := R
      subst hk q1 q2 q3 q4 q5 q6 q7 q8 q9 q10 q11
      have k1 : 1 ≤ G 1 (k + 1) := by
        rw [(N.2 (k + 1) (Nat.succ_pos k) (Nat.le_refl _)).2.1]
        exact (cx.2.2.1 _ (N.2 (k + 1) (Nat.succ_pos k) (Nat.le_refl _)).1).2.1
      have k18 := (I.2.1 _ E.2.1).2.2.2.2.1
      by_cases c1 : G 1 (k + 1) = 10
      · exact sm_0arb cx hlim ih vk hK I Y T N E X hP c1
      by_cases c2 : G 1 (k + 1) = 11
      · exact sm_0cur cx hlim ih vk hK I Y T N E X hP c2
      by_cases c3 : G 1 (k + 1) ≤ 11
      · exact sm_0leaf cx hlim ih vk hK I Y T N E X hP ⟨c3, c1, c2⟩
      by_cases c4 : G 1 (k + 1) = 12
      · exact sm_0def cx hlim ih vk hK I Y T N E X hP c4 hdl
      by_cases c5 : G 1 (k + 1) = 13
      · exact sm_0arbno cx hlim ih vk hK I Y T N E X hP c5
      by_cases c6 : G 1 (k + 1) = 18
      · exact sm_0alt cx hlim ih vk hK I Y T N E X hP c6
      exact sm_0four cx hlim ih vk hK I Y T N E X hP (by omega)
    · obtain ⟨x, E, q1, q2, q3, X, q4, q5, q6, hP⟩ := R
      subst q1 q2 q3 q4 q5 q6
      exact sm_ev1 cx hlim ih vk hK I Y T N E X hP
    · obtain ⟨f, E, X, q4, q5, q6, q7, q8, q9, hP, R⟩ := R
      subst q4 q5 q6 q7 q8 q9
      rcases R with ⟨p0, q1⟩ | ⟨q, p1, q1, q2, q3, q10⟩
      · subst q1
        have L := I.2.2.1 (f + 1) (Nat.succ_pos f) E.2.1
        obtain ⟨f0, t0, _⟩ := sm_root I N L p0
        rw [t0, sm_p0]
        subst f0
        exact sm_evM vk (Or.inr (Or.inr ⟨rfl, rfl, K, G, Nat.le_trans hK hlim, I, E, X, Y, T, N, rfl, rfl⟩))
      · subst q1 q2 q3 q10
        rw [p1] at hP
        exact sm_ev2 cx hlim ih vk hK I Y T N E p1 X hP sj
    · obtain ⟨f, E, X, q4, q5, q6, hP, R⟩ := R
      subst q4 q5 q6
      rcases R with ⟨p0, q1⟩ | ⟨q, p1, q1, q2, q3, q10⟩
      · subst q1
        obtain ⟨_, _, c0⟩ := sm_root I N E.2.2.1 p0
        rw [c0, sm_p0]
        exact sm_evX vk
      · subst q1 q2 q3 q10
        rw [p1] at hP
        exact sm_ev3 cx hlim ih vk hK I Y T N E p1 X hP
theorem sm_sim (cx : sm_cx n nc kn xno xrt nK nA nB nL nR) (hlim : lim ≤ 250) (hdl : dl ≤ 8) (sj : sm_ch xsj 16) : ∀ P, sm_IH xms xnc xsd xlr xls xle yms ync ysp ylr yls yle lim dl n nc kn xno xsk xrt xsj nK nA nB nL nR ysk tS tG P := by
  intro P
  induction P with
  | zero => intro P' K G; intros; omega
  | succ P ih =>
    intro P' K G
    intros
    rename_i h1 h2 h3
    by_cases q : P' < P
    · exact ih P' K G q h2 h3
    · have e : P' = P := by omega
      subst e
      exact sm_step cx hlim hdl sj ih h2 h3
end
