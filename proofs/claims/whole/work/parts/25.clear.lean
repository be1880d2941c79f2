def sm_fill (g : Nat → Int32) (x : Int32) : Nat → Nat → Int32
  | 0 => g
  | i + 1 => upd (sm_fill g x i) i x
theorem sm_fill_lt {g : Nat → Int32} {x : Int32} : ∀ i j, j < i → sm_fill g x i j = x := by
  intro i
  induction i with
  | zero => intro j h; omega
  | succ i ih =>
    intro j h
    unfold sm_fill
    by_cases q : j = i
    · rw [q, pk_us]
    · rw [pk_un q]; exact ih j (by omega)
section
variable {xms xsl xdl xnc xsd xn xlr xls xle xst xnw xtc xtu xtn xcu xtd xtt xsr : Int32} {xno xsk xrt xsj xtx xtl xcr eN eC eD eT eH eR tE tN : Nat → Int32}
theorem sx_empty {post : SX → Prop} : ∀ d i m, i + d = 8 → d < m → post (xms, xsl, xdl, xnc, xsd, xn, xlr, xls, xle, xst, xnw, xtc, xtu, xtn, xcu, xtd, xtt, xsr, xno, xsk, xrt, xsj, xtx, sm_fill xtl 0 8, sm_fill xcr (-1) 8, eN, eC, eD, eT, eH, eR, tE, tN) →
    wX_emptyVars_2 post xms xsl xdl xnc xsd xn xlr xls xle xst xnw xtc xtu xtn xcu xtd xtt xsr m (nI i) xno xsk xrt xsj xtx (sm_fill xtl 0 i) (sm_fill xcr (-1) i) eN eC eD eT eH eR tE tN := by
  intro d
  induction d with
  | zero =>
    intro i m h hm hp
    obtain ⟨m, rfl⟩ : ∃ k, m = k + 1 := ⟨m - 1, by omega⟩
    have e : i = 8 := by omega
    subst e
    exact br_t (nI_le (a := 8) (Nat.le_refl 8) (by omega)) hp
  | succ d ih =>
    intro i m h hm hp
    obtain ⟨m, rfl⟩ : ∃ k, m = k + 1 := ⟨m - 1, by omega⟩
    have vi : vp_in (nI i) 8 := vp_in_nI (by omega) (by omega)
    exact br_f (nI_ge (b := 8) (by omega) (by omega)) ⟨vi, nm_r (sm_up (by omega)) ⟨vi, nm_r (sm_up (by omega)) (nm_r (nI_1 i) (ih (i + 1) m (by omega) (by omega) hp))⟩⟩
theorem sx_emptyVars {post : SX → Prop} (hp : post (xms, xsl, xdl, xnc, xsd, xn, xlr, xls, xle, xst, xnw, xtc, xtu, xtn, xcu, xtd, xtt, xsr, xno, xsk, xrt, xsj, xtx, sm_fill xtl 0 8, sm_fill xcr (-1) 8, eN, eC, eD, eT, eH, eR, tE, tN)) : wpX_emptyVars post (xms, xsl, xdl, xnc, xsd, xn, xlr, xls, xle, xst, xnw, xtc, xtu, xtn, xcu, xtd, xtt, xsr, xno, xsk, xrt, xsj, xtx, xtl, xcr, eN, eC, eD, eT, eH, eR, tE, tN) :=
  ⟨9, sx_empty 8 0 9 (by omega) (by omega) hp⟩
theorem sx_roots {post : SX → Prop} : ∀ d i m, i + d = 4 → d < m → post (xms, xsl, xdl, xnc, xsd, 0, 3, -1, -1, xst, xnw, xtc, xtu, xtn, xcu, xtd, xtt, xsr, xno, xsk, sm_fill xrt (-1) 4, xsj, xtx, sm_fill xtl 0 8, sm_fill xcr (-1) 8, eN, eC, eD, eT, eH, eR, tE, tN) →
    wX_setInitialState_12 post xms xsl xdl xnc xsd xn xlr xls xle xst xnw xtc xtu xtn xcu xtd xtt xsr m (nI i) xno xsk (sm_fill xrt (-1) i) xsj xtx xtl xcr eN eC eD eT eH eR tE tN := by
  intro d
  induction d with
  | zero =>
    intro i m h hm hp
    obtain ⟨m, rfl⟩ : ∃ k, m = k + 1 := ⟨m - 1, by omega⟩
    have e : i = 4 := by omega
    subst e
    exact br_t (nI_le (a := 4) (Nat.le_refl 4) (by omega)) (sx_emptyVars hp)
  | succ d ih =>
    intro i m h hm hp
    obtain ⟨m, rfl⟩ : ∃ k, m = k + 1 := ⟨m - 1, by omega⟩
    have vi : vp_in (nI i) 4 := vp_in_nI (by omega) (by omega)
    exact br_f (nI_ge (b := 4) (by omega) (by omega)) ⟨vi, nm_r (sm_up (by omega)) (nm_r (nI_1 i) (ih (i + 1) m (by omega) (by omega) hp))⟩
theorem sx_initial {post : SX → Prop} (hp : post (xms, xsl, xdl, 0, 0, 0, 3, -1, -1, xst, xnw, xtc, xtu, xtn, xcu, xtd, xtt, xsr, xno, xsk, sm_fill xrt (-1) 4, xsj, xtx, sm_fill xtl 0 8, sm_fill xcr (-1) 8, eN, eC, eD, eT, eH, eR, tE, tN)) : wpX_setInitialState post (xms, xsl, xdl, xnc, xsd, xn, xlr, xls, xle, xst, xnw, xtc, xtu, xtn, xcu, xtd, xtt, xsr, xno, xsk, xrt, xsj, xtx, xtl, xcr, eN, eC, eD, eT, eH, eR, tE, tN) :=
  ⟨5, sx_roots 4 0 5 (by omega) (by omega) hp⟩
end
section
variable {yms ysl ydl ync ysp yn ylr yls yle yfc yst ycf yev yfr ydo : Int32} {nK nA nB nL nR ysk yrt ysj ytx ytl ycr fN fC fD fS fA fB fO fP fL fM tS tG : Nat → Int32}
theorem sy_empty {post : SY → Prop} : ∀ d i m, i + d = 8 → d < m → post (yms, ysl, ydl, ync, ysp, yn, ylr, yls, yle, yfc, yst, ycf, yev, yfr, ydo, nK, nA, nB, nL, nR, ysk, yrt, ysj, ytx, sm_fill ytl 0 8, sm_fill ycr (-1) 8, fN, fC, fD, fS, fA, fB, fO, fP, fL, fM, tS, tG) →
    wY_clearVars_2 post yms ysl ydl ync ysp yn ylr yls yle yfc yst ycf yev yfr ydo m (nI i) nK nA nB nL nR ysk yrt ysj ytx (sm_fill ytl 0 i) (sm_fill ycr (-1) i) fN fC fD fS fA fB fO fP fL fM tS tG := by
  intro d
  induction d with
  | zero =>
    intro i m h hm hp
    obtain ⟨m, rfl⟩ : ∃ k, m = k + 1 := ⟨m - 1, by omega⟩
    have e : i = 8 := by omega
    subst e
    exact br_t (nI_le (a := 8) (Nat.le_refl 8) (by omega)) hp
  | succ d ih =>
    intro i m h hm hp
    obtain ⟨m, rfl⟩ : ∃ k, m = k + 1 := ⟨m - 1, by omega⟩
    have vi : vp_in (nI i) 8 := vp_in_nI (by omega) (by omega)
    exact br_f (nI_ge (b := 8) (by omega) (by omega)) ⟨vi, nm_r (sm_up (by omega)) ⟨vi, nm_r (sm_up (by omega)) (nm_r (nI_1 i) (ih (i + 1) m (by omega) (by omega) hp))⟩⟩
theorem sy_emptyVars {post : SY → Prop} (hp : post (yms, ysl, ydl, ync, ysp, yn, ylr, yls, yle, yfc, yst, ycf, yev, yfr, ydo, nK, nA, nB, nL, nR, ysk, yrt, ysj, ytx, sm_fill ytl 0 8, sm_fill ycr (-1) 8, fN, fC, fD, fS, fA, fB, fO, fP, fL, fM, tS, tG)) : wpY_clearVars post (yms, ysl, ydl, ync, ysp, yn, ylr, yls, yle, yfc, yst, ycf, yev, yfr, ydo, nK, nA, nB, nL, nR, ysk, yrt, ysj, ytx, ytl, ycr, fN, fC, fD, fS, fA, fB, fO, fP, fL, fM, tS, tG) :=
  ⟨9, sy_empty 8 0 9 (by omega) (by omega) hp⟩
theorem sy_roots {post : SY → Prop} : ∀ d i m, i + d = 4 → d < m → post (yms, ysl, ydl, ync, ysp, 0, 3, -1, -1, yfc, yst, ycf, yev, yfr, ydo, nK, nA, nB, nL, nR, ysk, sm_fill yrt (-1) 4, ysj, ytx, sm_fill ytl 0 8, sm_fill ycr (-1) 8, fN, fC, fD, fS, fA, fB, fO, fP, fL, fM, tS, tG) →
    wY_clearAll_12 post yms ysl ydl ync ysp yn ylr yls yle yfc yst ycf yev yfr ydo m (nI i) nK nA nB nL nR ysk (sm_fill yrt (-1) i) ysj ytx ytl ycr fN fC fD fS fA fB fO fP fL fM tS tG := by
  intro d
  induction d with
  | zero =>
    intro i m h hm hp
    obtain ⟨m, rfl⟩ : ∃ k, m = k + 1 := ⟨m - 1, by omega⟩
    have e : i = 4 := by omega
    subst e
    exact br_t (nI_le (a := 4) (Nat.le_refl 4) (by omega)) (sy_emptyVars hp)
  | succ d ih =>
    intro i m h hm hp
    obtain ⟨m, rfl⟩ : ∃ k, m = k + 1 := ⟨m - 1, by omega⟩
    have vi : vp_in (nI i) 4 := vp_in_nI (by omega) (by omega)
    exact br_f (nI_ge (b := 4) (by omega) (by omega)) ⟨vi, nm_r (sm_up (by omega)) (nm_r (nI_1 i) (ih (i + 1) m (by omega) (by omega) hp))⟩
theorem sy_initial {post : SY → Prop} (hp : post (yms, ysl, ydl, 0, 0, 0, 3, -1, -1, yfc, yst, ycf, yev, yfr, ydo, nK, nA, nB, nL, nR, ysk, sm_fill yrt (-1) 4, ysj, ytx, sm_fill ytl 0 8, sm_fill ycr (-1) 8, fN, fC, fD, fS, fA, fB, fO, fP, fL, fM, tS, tG)) : wpY_clearAll post (yms, ysl, ydl, ync, ysp, yn, ylr, yls, yle, yfc, yst, ycf, yev, yfr, ydo, nK, nA, nB, nL, nR, ysk, yrt, ysj, ytx, ytl, ycr, fN, fC, fD, fS, fA, fB, fO, fP, fL, fM, tS, tG) :=
  ⟨5, sy_roots 4 0 5 (by omega) (by omega) hp⟩
end
theorem sm_vok0 {tx tl : Nat → Int32} (h : sm_ch tx 128) : sm_vok tx (sm_fill tl 0 8) := ⟨h, fun v hv => ⟨0, by omega, sm_fill_lt 8 v hv⟩⟩
section
variable {ms lim dl nc sp n : Nat} {kn : Nat → Nat} {xlr xls xle xst xnw xtc xtu xtn xcu xtd xtt xsr yfc yst ycf yev yfr ydo : Int32} {xno xsk xrt xsj nK nA nB nL nR tS tG xtx xtl xcr eN eC eD eT eH eR tE tN fN fC fD fS fA fB fO fP fL fM : Nat → Int32}
theorem sm_mk0 {k : Nat} (hm : ms ≤ 16) (hl : 1 ≤ lim) (hl2 : lim ≤ 250) (hd : dl ≤ 8) (hs : sm_ch xsj 16) (hx : sm_ch xtx 128) :
    i_Rel k (nI ms, nI lim, nI dl, 0, 0, 0, 3, -1, -1, xst, xnw, xtc, xtu, xtn, xcu, xtd, xtt, xsr, xno, xsk, sm_fill xrt (-1) 4, xsj, xtx, sm_fill xtl 0 8, sm_fill xcr (-1) 8, eN, eC, eD, eT, eH, eR, tE, tN)
      (nI ms, nI lim, nI dl, 0, 0, 0, 3, -1, -1, yfc, yst, ycf, yev, yfr, ydo, nK, nA, nB, nL, nR, xsk, sm_fill xrt (-1) 4, xsj, xtx, sm_fill xtl 0 8, sm_fill xcr (-1) 8, fN, fC, fD, fS, fA, fB, fO, fP, fL, fM, tS, tG) :=
  sm_mk (nc := 0) (sp := 0) (n := 0) (kn := fun _ => 0) ⟨hm, hl, hl2, hd, by omega, by omega, ⟨by omega, by omega, fun i hi => absurd hi (by omega), fun v hv => Or.inl (sm_fill_lt 4 v hv)⟩, fun i hi => absurd hi (by omega), hs, sm_vok0 hx⟩
end
theorem i_vc_clearAll {k : Nat} {u : SX} {v : SY} (I : i_Rel k u v) (hk : k + 4 ≤ 2051) : wpX_clearAll (fun u' => wpY_clearAll (fun v' => i_Rel (k + 4) u' v') v) u := by
  obtain ⟨ms, lim, dl, nc, sp, n, kn, xlr, xls, xle, xst, xnw, xtc, xtu, xtn, xcu, xtd, xtt, xsr, yfc, yst, ycf, yev, yfr, ydo, xno, xsk, xrt, xsj, nK, nA, nB, nL, nR, tS, tG, xtx, xtl, xcr, eN, eC, eD, eT, eH, eR, tE, tN, fN, fC, fD, fS, fA, fB, fO, fP, fL, fM, rfl, rfl, o1, o2, o3, o4, o5, o6, o7, o8, o9, o10⟩ := I
  unfold wpX_clearAll
  refine sx_initial ?_
  exact sy_initial (sm_mk0 o1 o2 o3 o4 o9 o10.1)
theorem i_vc_clearVars {k : Nat} {u : SX} {v : SY} (I : i_Rel k u v) (hk : k + 4 ≤ 2051) : wpX_clearVars (fun u' => wpY_clearVars (fun v' => i_Rel (k + 4) u' v') v) u := by
  obtain ⟨ms, lim, dl, nc, sp, n, kn, xlr, xls, xle, xst, xnw, xtc, xtu, xtn, xcu, xtd, xtt, xsr, yfc, yst, ycf, yev, yfr, ydo, xno, xsk, xrt, xsj, nK, nA, nB, nL, nR, tS, tG, xtx, xtl, xcr, eN, eC, eD, eT, eH, eR, tE, tN, fN, fC, fD, fS, fA, fB, fO, fP, fL, fM, rfl, rfl, o1, o2, o3, o4, o5, o6, o7, o8, o9, o10⟩ := I
  unfold wpX_clearVars
  refine sx_emptyVars ?_
  exact sy_emptyVars (sm_mk ⟨o1, o2, o3, o4, o5, o6, o7, o8, o9, sm_vok0 o10.1⟩)
theorem i_vc_clearSubject {k : Nat} {u : SX} {v : SY} (I : i_Rel k u v) (hk : k + 4 ≤ 2051) : wpX_clearSubject (fun u' => wpY_clearSubject (fun v' => i_Rel (k + 4) u' v') v) u := by
  obtain ⟨ms, lim, dl, nc, sp, n, kn, xlr, xls, xle, xst, xnw, xtc, xtu, xtn, xcu, xtd, xtt, xsr, yfc, yst, ycf, yev, yfr, ydo, xno, xsk, xrt, xsj, nK, nA, nB, nL, nR, tS, tG, xtx, xtl, xcr, eN, eC, eD, eT, eH, eR, tE, tN, fN, fC, fD, fS, fA, fB, fO, fP, fL, fM, rfl, rfl, o1, o2, o3, o4, o5, o6, o7, o8, o9, o10⟩ := I
  exact sm_mk (k := k + 4) (n := 0) ⟨o1, o2, o3, o4, o5, by omega, ⟨o7.1, by omega, o7.2.2⟩, o8, o9, o10⟩
theorem sm_clampv (lo hi : Nat) (hlh : lo ≤ hi) (hh : hi < 1000) (p : Int32) : ∃ a, lo ≤ a ∧ a ≤ hi ∧
    (∀ post : Int32 → Prop, post (nI a) → wpX_clamp post p (nI lo) (nI hi)) ∧ (∀ A B C : Prop, (nI a = p → A) → (nI a = nI hi → B) → (nI a = nI lo → C) → ((nI lo ≤ p → (((p ≤ nI hi → A) ∧ (¬ p ≤ nI hi → B)))) ∧ (¬ nI lo ≤ p → C))) := by
  by_cases q : nI lo ≤ p
  · by_cases r : p ≤ nI hi
    · obtain ⟨j, hj, rfl⟩ := nI_of (sm_b0 q (by omega))
      rw [nI_leI (by omega) hj] at q
      rw [nI_leI hj (by omega)] at r
      exact ⟨j, q, r, fun post hp => br_t (nI_le q hj) (br_t (nI_le r (by omega)) hp), fun A B C a b c => br_t (nI_le q hj) (br_t (nI_le r (by omega)) (a rfl))⟩
    · exact ⟨hi, hlh, Nat.le_refl _, fun post hp => br_t q (br_f r hp), fun A B C a b c => br_t q (br_f r (b rfl))⟩
  · exact ⟨lo, Nat.le_refl _, hlh, fun post hp => br_f q hp, fun A B C a b c => br_f q (c rfl)⟩
theorem i_vc0 (k0 : Int32) (k1 : Int32) (k2 : Int32) : wpX_init (fun u => wpY_init (fun v => i_Rel 3 u v) k0 k1 k2) k0 k1 k2 := by
  obtain ⟨a, a1, a2, ax, ay⟩ := sm_clampv 1 16 (by omega) (by omega) k0
  obtain ⟨b, b1, b2, bx, bY⟩ := sm_clampv 16 250 (by omega) (by omega) k1
  obtain ⟨c, c1, c2, cX, cY⟩ := sm_clampv 0 8 (by omega) (by omega) k2
  unfold wpX_init
  refine ax _ (bx _ (cX _ ?_))
  refine sx_initial ?_
  have fin : i_Rel 3 (nI a, nI b, nI c, 0, 0, 0, 3, -1, -1, 0, 0, 0, 0, 0, 0, 0, 0, 0, (fun _ => 0), (fun _ => 0), sm_fill (fun _ => 0) (-1) 4, (fun _ => 0), (fun _ => 0), sm_fill (fun _ => 0) 0 8, sm_fill (fun _ => 0) (-1) 8, (fun _ => 0), (fun _ => 0), (fun _ => 0), (fun _ => 0), (fun _ => 0), (fun _ => 0), (fun _ => 0), (fun _ => 0))
      (nI a, nI b, nI c, 0, 0, 0, 3, -1, -1, 0, 0, 0, 0, 0, 0, (fun _ => 0), (fun _ => 0), (fun _ => 0), (fun _ => 0), (fun _ => 0), (fun _ => 0), sm_fill (fun _ => 0) (-1) 4, (fun _ => 0), (fun _ => 0), sm_fill (fun _ => 0) 0 8, sm_fill (fun _ => 0) (-1) 8, (fun _ => 0), (fun _ => 0), (fun _ => 0), (fun _ => 0), (fun _ => 0), (fun _ => 0), (fun _ => 0), (fun _ => 0), (fun _ => 0), (fun _ => 0), (fun _ => 0), (fun _ => 0)) :=
    sm_mk0 (ms := a) (lim := b) (dl := c) a2 (by omega) b2 c2 (fun i hi => ⟨0, by omega, rfl⟩) (fun i hi => ⟨0, by omega, rfl⟩)
  have y3 : ∀ p q r, nI a = p → nI b = q → nI c = r → wpY_clearAll (fun v => i_Rel 3 (nI a, nI b, nI c, 0, 0, 0, 3, -1, -1, 0, 0, 0, 0, 0, 0, 0, 0, 0, (fun _ => 0), (fun _ => 0), sm_fill (fun _ => 0) (-1) 4, (fun _ => 0), (fun _ => 0), sm_fill (fun _ => 0) 0 8, sm_fill (fun _ => 0) (-1) 8, (fun _ => 0), (fun _ => 0), (fun _ => 0), (fun _ => 0), (fun _ => 0), (fun _ => 0), (fun _ => 0), (fun _ => 0)) v)
      (p, q, r, 0, 0, 0, 0, 0, 0, 0, 0, 0, 0, 0, 0, (fun _ => 0), (fun _ => 0), (fun _ => 0), (fun _ => 0), (fun _ => 0), (fun _ => 0), (fun _ => 0), (fun _ => 0), (fun _ => 0), (fun _ => 0), (fun _ => 0), (fun _ => 0), (fun _ => 0), (fun _ => 0), (fun _ => 0), (fun _ => 0), (fun _ => 0), (fun _ => 0), (fun _ => 0), (fun _ => 0), (fun _ => 0), (fun _ => 0), (fun _ => 0)) := by
    intro p q r ep eq er
    subst ep eq er
    exact sy_initial fin
  refine ay _ _ _ (fun ea => ?_) (fun ea => ?_) (fun ea => ?_)
  all_goals
    refine bY _ _ _ (fun eb => ?_) (fun eb => ?_) (fun eb => ?_)
    all_goals
      refine cY _ _ _ (fun ec => ?_) (fun ec => ?_) (fun ec => ?_)
      all_goals
        exact y3 _ _ _ ea eb ec
