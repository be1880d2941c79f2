def sm_g0 (t : Nat) : Nat → Nat → Nat := fun i g => if g = 0 then (if i = 1 then 12 else if i = 2 then t else if i = 15 then 1 else 0) else 0
theorem sm_g0n {t i g : Nat} (h : g ≠ 0) : sm_g0 t i g = 0 := by unfold sm_g0; rw [if_neg h]
theorem sm_g0i {t n : Nat} (ht : t ≤ n) : sm_inv 0 n (sm_g0 t) := by
  have only : ∀ f, sm_g0 t 15 f = 1 → f = 0 := by
    intro f hf
    by_cases q : f = 0
    · exact q
    · rw [sm_g0n q] at hf; omega
  refine ⟨⟨rfl, by show (0 : Nat) ≠ 1; omega, rfl, rfl, rfl, rfl, rfl, rfl⟩, ?_, ?_, ?_, ?_, ?_⟩
  · intro f lf
    rw [only f lf]
    exact ⟨Nat.le_refl _, Nat.zero_le _, ht, Nat.le_refl _, by show 12 ≤ 18; omega, fun _ _ => rfl, Nat.le_refl _, Or.inl rfl⟩
  · intro f hf lf
    have := only f lf
    omega
  · intro f lf zf
    rw [only f lf] at zf
    have z : (0 : Nat) = 1 := zf
    omega
  · intro g h lg lh hg
    have := only g lg
    have := only h lh
    omega
  · intro g h lg zg lh hg
    rw [only g lg] at zg
    have z : (0 : Nat) = 1 := zg
    omega
section
variable {xms xnc xsd xlr xls xle yms ync ysp ylr yls yle : Int32} {lim dl n nc : Nat} {kn : Nat → Nat} {xno xsk xrt xsj nK nA nB nL nR ysk tS tG : Nat → Int32}
variable {xst xnw xtc xtu xtn xcu xtd xtt xsr yfc yst ycf yev yfr ydo : Int32} {xtx xtl xcr eN eC eD eT eH eR tE tN fN fC fD fS fA fB fO fP fL fM : Nat → Int32}
theorem sm_start (cx : sm_cx n nc kn xno xrt nK nA nB nL nR) (hlim : lim ≤ 250) (hlim1 : 1 ≤ lim) (hdl : dl ≤ 8) (sj : sm_ch xsj 16) (vk : sm_vok xtx xtl) {r t : Nat} (hr : r < nc) (ht : t ≤ n) :
    sm_fin xms xnc xsd xlr xls xle yms ync ysp ylr yls yle lim dl n nc kn xno xsk xrt xsj nK nA nB nL nR ysk tS tG 324980 (xms, nI lim, nI dl, xnc, xsd, nI n, xlr, xls, xle, nI 0, sm_p 0, nI 0, 0, nI r, nI t, nI 0, sm_p 0, 3, xno, xsk, xrt, xsj, xtx, xtl, xcr, eN, eC, eD, eT, eH, eR, tE, tN)
      (yms, nI lim, nI dl, ync, ysp, nI n, ylr, yls, yle, nI 1, nI 1, nI 0, 0, yfr, 0, nK, nA, nB, nL, nR, ysk, xrt, xsj, xtx, xtl, xcr, upd fN 0 (nI r), upd fC 0 (nI t), upd fD 0 (nI 0), upd fS 0 (nI 0), upd fA 0 (sm_p 0), upd fB 0 (sm_p 0), upd fO 0 (-1), upd fP 0 (sm_p 0), upd fL 0 (sm_p 0), upd fM 0 (sm_p 0), tS, tG) := by
  have I0 := sm_g0i ht
  have only : ∀ f, sm_g0 t 15 f = 1 → f ≤ 0 := fun f hf => (I0.2.1 f hf).1
  obtain ⟨I1, E1⟩ := sm_des (p := 0) (nd := r) (kd := kn r) (dd := 0) (tk := 0) (ch := 0) I0 rfl (by show (0 : Nat) ≠ 1; omega) only (Nat.le_refl 12) (fun z => absurd z (by show (12 : Nat) ≠ 13; omega)) (fun z => absurd z (by show (12 : Nat) ≠ 18; omega)) (cx.2.2.1 r hr).2.2.1 (Or.inl ⟨Or.inl rfl, rfl⟩) (Or.inr ⟨Or.inl (by show (12 : Nat) ≠ 18; omega), rfl⟩)
  generalize hH : sm_nw (sm_g0 t) (0 + 1) 0 10 (sm_rw r (kn r) (sm_g0 t 2 0) 0 0 0 0 0 (sm_g0 t 8 0) (sm_g0 t 20 0 + 1)) = H at I1 E1
  have h : ∀ i, H i 1 = sm_rw r (kn r) (sm_g0 t 2 0) 0 0 0 0 0 (sm_g0 t 8 0) (sm_g0 t 20 0 + 1) i := fun i => by rw [← hH]; exact sm_nw_k
  have en : ∀ (A : Nat → Int32) (g : Nat → Nat), sm_en 1 (upd A 0 (nI (g 1))) g := by
    intro A g i hi
    have : i = 0 := by omega
    rw [this, pk_us]
  have ep : ∀ (A : Nat → Int32) (g : Nat → Nat), sm_ep 1 (upd A 0 (sm_p (g 1))) g := by
    intro A g i hi
    have : i = 0 := by omega
    rw [this, pk_us]
  have nz : ∀ f, 1 ≤ f → H 15 f = 1 → H 16 f = 1 → False := by
    intro f hf lf zf
    have := (I1.2.1 f lf).1
    have e : f = 1 := by omega
    rw [e, h] at zf
    have z : (0 : Nat) = 1 := zf
    omega
  have Y : sm_Y 1 H (upd fN 0 (nI r)) (upd fC 0 (nI t)) (upd fD 0 (nI 0)) (upd fS 0 (nI 0)) (upd fA 0 (sm_p 0)) (upd fB 0 (sm_p 0)) (upd fO 0 (-1)) (upd fP 0 (sm_p 0)) (upd fL 0 (sm_p 0)) (upd fM 0 (sm_p 0)) := by
    have a0 := en fN (H 0)
    have a2 := en fC (H 2)
    have a3 := en fD (H 3)
    have a9 := en fS (H 9)
    have a10 := ep fA (H 10)
    have a11 := ep fB (H 11)
    have a4 := ep fP (H 4)
    have a13 := ep fL (H 13)
    have a14 := ep fM (H 14)
    rw [h] at a0 a2 a3 a9 a10 a11 a4 a13 a14
    exact ⟨a0, a2, a3, a9, a10, a11, fun f hf lf zf => absurd (nz f hf lf zf) id, a4, a13, a14⟩
  have T : sm_T H tE tN := fun f hf lf zf _ => absurd (nz f hf lf zf) id
  have N : sm_N 1 nc kn H := by
    refine ⟨by rw [← hH]; exact sm_nw_p (by omega), ?_⟩
    intro f h1 h2
    have e : f = 1 := by omega
    rw [e, h, h, h]
    exact ⟨hr, rfl, Nat.zero_le _⟩
  have X : sm_X 0 H eN eC eD eT eH eR := ⟨fun i hi => absurd hi (by omega), fun i hi => absurd hi (by omega), fun i hi => absurd hi (by omega), fun i hi => absurd hi (by omega), fun i hi => absurd hi (by omega), fun i hi => absurd hi (by omega)⟩
  refine sm_sim cx hlim hdl sj 324981 324980 1 H (by omega) vk ⟨rfl, hlim1, Or.inr ⟨rfl, rfl, I1, Y, T, N, Or.inl ⟨0, rfl, E1, rfl, rfl, rfl, X, rfl, rfl, ?_, ?_, ?_, ?_, ?_, ?_, by omega⟩⟩⟩
  all_goals rw [h]; rfl
/-- one start on both sides -/
theorem sm_run (cx : sm_cx n nc kn xno xrt nK nA nB nL nR) (hlim : lim ≤ 250) (hlim1 : 1 ≤ lim) (hdl : dl ≤ 8) (sj : sm_ch xsj 16) (vk : sm_vok xtx xtl) {r t : Nat} (hr : r < nc) (ht : t ≤ n) :
    ∃ (xst' xnw' xtc' xtu' xtn' xcu' xtd' xtt' xsr' yfc' yst' ycf' yev' yfr' ydo' : Int32) (xtx' xtl' xcr' eN' eC' eD' eT' eH' eR' tE' tN' fN' fC' fD' fS' fA' fB' fO' fP' fL' fM' : Nat → Int32), sm_vok xtx' xtl' ∧ sm_end n nc kn xst' xnw' xtc' xtu' xtn' xcu' xtd' xtt' xsr' yfc' yst' ycf' yev' yfr' ydo' xtx' xtl' xcr' eN' eC' eD' eT' eH' eR' tE' tN' fN' fC' fD' fS' fA' fB' fO' fP' fL' fM' ∧
      (∀ post : Int32 → SX → Prop, post xsr' (xms, nI lim, nI dl, xnc, xsd, nI n, xlr, xls, xle, xst', xnw', xtc', xtu', xtn', xcu', xtd', xtt', xsr', xno, xsk, xrt, xsj, xtx', xtl', xcr', eN', eC', eD', eT', eH', eR', tE', tN') → wpX_searchFrom post (xms, nI lim, nI dl, xnc, xsd, nI n, xlr, xls, xle, xst, xnw, xtc, xtu, xtn, xcu, xtd, xtt, xsr, xno, xsk, xrt, xsj, xtx, xtl, xcr, eN, eC, eD, eT, eH, eR, tE, tN) (nI r) (nI t)) ∧
      (∀ post : Int32 → SY → Prop, post ydo' (yms, nI lim, nI dl, ync, ysp, nI n, ylr, yls, yle, yfc', yst', ycf', yev', yfr', ydo', nK, nA, nB, nL, nR, ysk, xrt, xsj, xtx', xtl', xcr', fN', fC', fD', fS', fA', fB', fO', fP', fL', fM', tS, tG) → wpY_runAt post (yms, nI lim, nI dl, ync, ysp, nI n, ylr, yls, yle, yfc, yst, ycf, yev, yfr, ydo, nK, nA, nB, nL, nR, ysk, xrt, xsj, xtx, xtl, xcr, fN, fC, fD, fS, fA, fB, fO, fP, fL, fM, tS, tG) (nI r) (nI t)) := by
  obtain ⟨xst', xnw', xtc', xtu', xtn', xcu', xtd', xtt', xsr', yfc', yst', ycf', yev', yfr', ydo', xtx', xtl', xcr', eN', eC', eD', eT', eH', eR', tE', tN', fN', fC', fD', fS', fA', fB', fO', fP', fL', fM', a, b, c, d⟩ := sm_start (fN := fN) (fC := fC) (fD := fD) (fS := fS) (fA := fA) (fB := fB) (fO := fO) (fP := fP) (fL := fL) (fM := fM) (eN := eN) (eC := eC) (eD := eD) (eT := eT) (eH := eH) (eR := eR) (tE := tE) (tN := tN) (xcr := xcr) (yfr := yfr) (xms := xms) (xnc := xnc) (xsd := xsd) (xlr := xlr) (xls := xls) (xle := xle) (yms := yms) (ync := ync) (ysp := ysp) (ylr := ylr) (yls := yls) (yle := yle) (xsk := xsk) (ysk := ysk) (tS := tS) (tG := tG) cx hlim hlim1 hdl sj vk hr ht
  refine ⟨xst', xnw', xtc', xtu', xtn', xcu', xtd', xtt', xsr', yfc', yst', ycf', yev', yfr', ydo', xtx', xtl', xcr', eN', eC', eD', eT', eH', eR', tE', tN', fN', fC', fD', fS', fA', fB', fO', fP', fL', fM', a, b, ?_, ?_⟩
  · intro post hp
    exact ⟨324982, c post 324982 0 (by omega) (by omega) hp⟩
  · intro post hp
    unfold wpY_runAt
    refine sy_beg0 (K := 0) (lim := lim) (by omega) (by omega) (fun z => absurd z (by omega)) (fun _ => ?_)
    exact ⟨324982, d post 324982 0 (by omega) (by omega) hp⟩
end
