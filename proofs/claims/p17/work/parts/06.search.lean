section
variable {xms xdl xsd xlr xls xle : Int32} {lim nc n t : Nat} {xno xsk xrt xsj tx0 tl0 cr0 : Nat → Int32}
theorem sp_loop {post : Int32 → St2 → Prop} (C : sp_C lim nc n xno xrt xsj) (hp : ∀ (xst xnw xtc xtu xtn xcu xtd xtt xsr : Int32) (xtx xtl xcr eN eC eD eT eH eR tE tN : Nat → Int32), sp_r xsr → sp_I nc n t xno xsj tx0 tl0 cr0 xst xnw xtc xtn xcu xtt xtx xtl xcr eN eC eT eH eR tE tN → post xsr (xms, nI lim, xdl, nI nc, xsd, nI n, xlr, xls, xle, xst, xnw, xtc, xtu, xtn, xcu, xtd, xtt, xsr, xno, xsk, xrt, xsj, xtx, xtl, xcr, eN, eC, eD, eT, eH, eR, tE, tN)) :
    ∀ d i m, i + d = 1000000 → d < m → ∀ (xst xnw xtc xtu xtn xcu xtd xtt xsr : Int32) (xtx xtl xcr eN eC eD eT eH eR tE tN : Nat → Int32), sp_r xsr → sp_I nc n t xno xsj tx0 tl0 cr0 xst xnw xtc xtn xcu xtt xtx xtl xcr eN eC eT eH eR tE tN → wX_searchFrom_30 post m (nI i) xms (nI lim) xdl (nI nc) xsd (nI n) xlr xls xle xst xnw xtc xtu xtn xcu xtd xtt xsr xno xsk xrt xsj xtx xtl xcr eN eC eD eT eH eR tE tN := by
  intro d
  induction d with
  | zero =>
    intro i m h hm xst xnw xtc xtu xtn xcu xtd xtt xsr xtx xtl xcr eN eC eD eT eH eR tE tN hr I
    obtain ⟨m, rfl⟩ : ∃ k, m = k + 1 := ⟨m - 1, by omega⟩
    exact br_t (nI_le (a := 1000000) (by omega) (by omega)) (hp _ _ _ _ _ _ _ _ _ _ _ _ _ _ _ _ _ _ _ _ hr I)
  | succ d ih =>
    intro i m h hm xst xnw xtc xtu xtn xcu xtd xtt xsr xtx xtl xcr eN eC eD eT eH eR tE tN hr I
    obtain ⟨m, rfl⟩ : ∃ k, m = k + 1 := ⟨m - 1, by omega⟩
    refine br_f (nI_ge (b := 1000000) (by omega) (by omega)) ?_
    by_cases e3 : xsr = 3
    rotate_left
    · exact br_f e3 (hp _ _ _ _ _ _ _ _ _ _ _ _ _ _ _ _ _ _ _ _ hr I)
    refine br_t e3 ?_
    by_cases e0 : xtu = 0
    · subst e0
      exact br_t rfl (sp_begin C I hr (fun xst xnw xtc xtu xtn xcu xtd xtt xsr xtx xtl xcr eN eC eD eT eH eR tE tN hr' I' => nm_r (nI_1 i) (ih (i + 1) m (by omega) (by omega) xst xnw xtc xtu xtn xcu xtd xtt xsr xtx xtl xcr eN eC eD eT eH eR tE tN hr' I')))
    by_cases e1 : xtu = 1
    · subst e1
      exact br_f e0 (br_t rfl (sp_produce C I hr (fun xst xnw xtc xtu xtn xcu xtd xtt xsr xtx xtl xcr eN eC eD eT eH eR tE tN hr' I' => nm_r (nI_1 i) (ih (i + 1) m (by omega) (by omega) xst xnw xtc xtu xtn xcu xtd xtt xsr xtx xtl xcr eN eC eD eT eH eR tE tN hr' I'))))
    · exact br_f e0 (br_f e1 (sp_backtrack C I hr (fun xst xnw xtc xtu xtn xcu xtd xtt xsr xtx xtl xcr eN eC eD eT eH eR tE tN hr' I' => nm_r (nI_1 i) (ih (i + 1) m (by omega) (by omega) xst xnw xtc xtu xtn xcu xtd xtt xsr xtx xtl xcr eN eC eD eT eH eR tE tN hr' I'))))
theorem sp_search {post : Int32 → St2 → Prop} (C : sp_C lim nc n xno xrt xsj) (hp : ∀ (xst xnw xtc xtu xtn xcu xtd xtt xsr : Int32) (xtx xtl xcr eN eC eD eT eH eR tE tN : Nat → Int32), sp_r xsr → sp_I nc n t xno xsj tx0 tl0 cr0 xst xnw xtc xtn xcu xtt xtx xtl xcr eN eC eT eH eR tE tN → post xsr (xms, nI lim, xdl, nI nc, xsd, nI n, xlr, xls, xle, xst, xnw, xtc, xtu, xtn, xcu, xtd, xtt, xsr, xno, xsk, xrt, xsj, xtx, xtl, xcr, eN, eC, eD, eT, eH, eR, tE, tN)) (xst xnw xtc xtu xtn xcu xtd xtt xsr : Int32) (xtx xtl xcr eN eC eD eT eH eR tE tN : Nat → Int32)
    (V : sp_V False nc n xno xsj tx0 tl0 cr0 xtx xtl xcr) {r : Nat} (hr : r < nc) (ht : t ≤ n) : wpX_searchFrom post (xms, nI lim, xdl, nI nc, xsd, nI n, xlr, xls, xle, xst, xnw, xtc, xtu, xtn, xcu, xtd, xtt, xsr, xno, xsk, xrt, xsj, xtx, xtl, xcr, eN, eC, eD, eT, eH, eR, tE, tN) (nI r) (nI t) := by
  unfold wpX_searchFrom
  exact ⟨1000001, sp_loop C hp 1000000 0 1000001 (by omega) (by omega) _ _ _ _ _ _ _ _ _ _ _ _ _ _ _ _ _ _ _ _ (Or.inr (Or.inr (Or.inr rfl)))
    ⟨0, 0, t, rfl, by omega, by omega, fun j hj => absurd hj (by omega), fun q hq => absurd hq (by omega), Or.inl rfl, ⟨0, by omega, rfl⟩, rfl, by omega, ht, Or.inl rfl, ⟨r, hr, rfl⟩, V⟩⟩
theorem sp_apply {post : St2 → Prop} (C : sp_C lim nc n xno xrt xsj) {K H q : Nat} (hK : K ≤ 250) (hH : H ≤ 250) (hq : q ≤ H) (xst xnw xtu xtn xcu xtd xtt xsr : Int32) (xcr eN eC eD eT eH eR tE tN : Nat → Int32) (tr : sp_tr nc n K H xno eN eC tE tN)
    (hp : ∀ xtx xtl : Nat → Int32, sp_V True nc n xno xsj tx0 tl0 cr0 xtx xtl xcr → post (xms, nI lim, xdl, nI nc, xsd, nI n, xlr, xls, xle, xst, xnw, nI q, xtu, xtn, xcu, xtd, xtt, xsr, xno, xsk, xrt, xsj, xtx, xtl, xcr, eN, eC, eD, eT, eH, eR, tE, tN)) :
    ∀ d i m, i + d = q → d < m → ∀ xtx xtl : Nat → Int32, sp_V True nc n xno xsj tx0 tl0 cr0 xtx xtl xcr → wX_applyTriples_2 post m (nI i) xms (nI lim) xdl (nI nc) xsd (nI n) xlr xls xle xst xnw (nI q) xtu xtn xcu xtd xtt xsr xno xsk xrt xsj xtx xtl xcr eN eC eD eT eH eR tE tN := by
  obtain ⟨C1, C2, C3, C4, C5, C6⟩ := C
  intro d
  induction d with
  | zero =>
    intro i m h hm xtx xtl V
    obtain ⟨m, rfl⟩ : ∃ k, m = k + 1 := ⟨m - 1, by omega⟩
    exact br_t (nI_le (by omega) (by omega)) (hp xtx xtl V)
  | succ d ih =>
    intro i m h hm xtx xtl V
    obtain ⟨m, rfl⟩ : ∃ k, m = k + 1 := ⟨m - 1, by omega⟩
    obtain ⟨j, p, a, b, g1, g2, g3, g4, g5, g6, g7, g8, g9⟩ := tr i (by omega)
    obtain ⟨k', w, k1, k18, a1, h0', h1, c12, cv, c13, c17⟩ := C4 p g4
    have ek : k' = 16 := (nI_eq (by omega) (by omega)).mp (h0'.symm.trans g5)
    have w7 := cv (by omega)
    have vi : vp_in (nI i) 250 := vp_in_nI (by omega) (by omega)
    have vj : vp_in (nI j) 250 := vp_in_nI (by omega) (by omega)
    have en : eN (nI j).toNatClampNeg = nI p := sm_cg (by omega) g3
    have ec : eC (nI j).toNatClampNeg = nI a := sm_cg (by omega) g6
    have eb : tN (nI i).toNatClampNeg = nI b := sm_cg (by omega) g7
    have v5 : vp_in (eN (nI j).toNatClampNeg * 5 + nI 1) 160 := by rw [en]; exact sm_in5 1 (by omega) (by omega)
    have e5 : xno (eN (nI j).toNatClampNeg * 5 + nI 1).toNatClampNeg = nI w := by rw [en]; exact sm_c5 1 (by omega) (by omega) h1
    refine br_f (nI_ge (by omega) (by omega)) ⟨vi, nm_r (sm_cg (by omega) g2) ⟨vj, v5, nm_r e5 ⟨vj, vi, ?_⟩⟩⟩
    rw [ec, eb]
    exact sx_setText w7 g8 (by omega) (nm_r (nI_1 i) (ih (i + 1) m (by omega) (by omega) _ _ (sp_V_put V C6 w7 g8 g9 C3 g4 (Or.inr ⟨trivial, g5⟩) h1)))
end
