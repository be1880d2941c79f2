section
variable {xms xdl xsd : Int32} {lim nc n : Nat} {xno xsk xrt xsj tx0 tl0 cr0 : Nat → Int32}
variable {post : Int32 → St2 → Prop} {g : Nat}
/-- the starts, from t on -/
theorem sp_starts (C : sp_C lim nc n xno xrt xsj) {v r : Nat} (hv : v < 4) (hr : r < nc) (er : xrt v = nI r) (hg : g ≤ n)
    (h0 : ∀ (q : Int32) (xst xnw xtc xtu xtn xcu xtd xtt xsr : Int32) (xtx xtl xcr eN eC eD eT eH eR tE tN : Nat → Int32), (q = 0 ∨ q = 2 ∨ q = 3) → sp_V False nc n xno xsj tx0 tl0 cr0 xtx xtl xcr → post q (xms, nI lim, xdl, nI nc, xsd, nI n, q, -1, -1, xst, xnw, xtc, xtu, xtn, xcu, xtd, xtt, xsr, xno, xsk, xrt, xsj, xtx, xtl, xcr, eN, eC, eD, eT, eH, eR, tE, tN))
    (h1 : ∀ (t c : Nat) (xst xnw xtc xtu xtn xcu xtd xtt xsr : Int32) (xtx xtl xcr eN eC eD eT eH eR tE tN : Nat → Int32), t ≤ c → c ≤ n → t ≤ g → sp_V True nc n xno xsj tx0 tl0 cr0 xtx xtl xcr → post 1 (xms, nI lim, xdl, nI nc, xsd, nI n, 1, nI t, nI c, xst, xnw, xtc, xtu, xtn, xcu, xtd, xtt, xsr, xno, xsk, xrt, xsj, xtx, xtl, xcr, eN, eC, eD, eT, eH, eR, tE, tN)) :
    ∀ d t m, t + d = g + 1 → d < m → ∀ (xst xnw xtc xtu xtn xcu xtd xtt xsr : Int32) (xtx xtl xcr eN eC eD eT eH eR tE tN : Nat → Int32), sp_V False nc n xno xsj tx0 tl0 cr0 xtx xtl xcr →
      wX_match_56 post (nI v) (nI g) m (nI t) xms (nI lim) xdl (nI nc) xsd (nI n) 0 (-1) (-1) xst xnw xtc xtu xtn xcu xtd xtt xsr xno xsk xrt xsj xtx xtl xcr eN eC eD eT eH eR tE tN := by
  have C3 := C.2.2.1
  have e3 : xrt (nI v).toNatClampNeg = nI r := sm_cg (by omega) er
  intro d
  induction d with
  | zero =>
    intro t m h hm xst xnw xtc xtu xtn xcu xtd xtt xsr xtx xtl xcr eN eC eD eT eH eR tE tN V
    obtain ⟨m, rfl⟩ : ∃ k, m = k + 1 := ⟨m - 1, by omega⟩
    exact br_t (nI_lt (by omega) (by omega)) (h0 0 _ _ _ _ _ _ _ _ _ _ _ _ _ _ _ _ _ _ _ _ (Or.inl rfl) V)
  | succ d ih =>
    intro t m h hm xst xnw xtc xtu xtn xcu xtd xtt xsr xtx xtl xcr eN eC eD eT eH eR tE tN V
    obtain ⟨m, rfl⟩ : ∃ k, m = k + 1 := ⟨m - 1, by omega⟩
    obtain ⟨m, rfl⟩ : ∃ k, m = k + 1 := ⟨m - 1, by omega⟩
    refine br_f (nI_nlt (by omega) (by omega)) (br_t rfl ⟨vp_in_nI hv (by omega), ?_⟩)
    rw [e3]
    refine sp_search (tx0 := tx0) (tl0 := tl0) (cr0 := cr0) C ?_ _ _ _ _ _ _ _ _ _ _ _ _ _ _ _ _ _ _ _ _ V hr (by omega)
    intro xst xnw xtc xtu xtn xcu xtd xtt xsr xtx xtl xcr eN eC eD eT eH eR tE tN hx I
    by_cases q1 : xsr = 1
    · subst q1
      obtain ⟨K, H, c, rfl, hK, hH, el, tr, co, ⟨q, hq, rfl⟩, rfl, tc, cn, tk, ⟨p, hpn, rfl⟩, V'⟩ := I
      refine br_t rfl ⟨q + 1, sp_apply (tx0 := tx0) (tl0 := tl0) (cr0 := cr0) C hK hH hq _ _ _ _ _ _ _ _ _ _ _ _ _ _ _ _ _ tr ?_ q 0 (q + 1) (by omega) (by omega) _ _ (sp_V_cd V')⟩
      intro xtx xtl V2
      refine nm_r (nI_1 t) ?_
      by_cases z : g < t + 1
      · exact br_t (nI_lt z (by omega)) (h1 t c _ _ _ _ _ _ _ _ _ _ _ _ _ _ _ _ _ _ _ _ tc cn (by omega) V2)
      · exact br_f (nI_nlt (by omega) (by omega)) (br_f (by decide) (h1 t c _ _ _ _ _ _ _ _ _ _ _ _ _ _ _ _ _ _ _ _ tc cn (by omega) V2))
    · refine br_f q1 (nm_r (nI_1 t) ?_)
      have V' : sp_V False nc n xno xsj tx0 tl0 cr0 xtx xtl xcr := by
        obtain ⟨K, H, c, a1, a2, a3, a4, a5, a6, a7, a8, a9, a10, a11, a12, a13⟩ := I
        exact a13
      by_cases q0 : xsr = 0
      · subst q0
        exact ih (t + 1) (m + 1) (by omega) (by omega) _ _ _ _ _ _ _ _ _ _ _ _ _ _ _ _ _ _ _ _ V'
      · have q23 : xsr = 0 ∨ xsr = 2 ∨ xsr = 3 := by
          rcases hx with z | z | z | z
          · exact absurd z q0
          · exact absurd z q1
          · exact Or.inr (Or.inl z)
          · exact Or.inr (Or.inr z)
        by_cases z : g < t + 1
        · exact br_t (nI_lt z (by omega)) (h0 xsr _ _ _ _ _ _ _ _ _ _ _ _ _ _ _ _ _ _ _ _ q23 V')
        · exact br_f (nI_nlt (by omega) (by omega)) (br_f q0 (h0 xsr _ _ _ _ _ _ _ _ _ _ _ _ _ _ _ _ _ _ _ _ q23 V'))
theorem sp_match {xlr xls xle : Int32} (xst xnw xtc xtu xtn xcu xtd xtt xsr : Int32) (xtx xtl xcr eN eC eD eT eH eR tE tN : Nat → Int32) (C : sp_C lim nc n xno xrt xsj) {v : Nat} (hv : v < 4) {p1 : Int32}
    (V : sp_V False nc n xno xsj tx0 tl0 cr0 xtx xtl xcr) (hn : post (-6) (xms, nI lim, xdl, nI nc, xsd, nI n, xlr, xls, xle, xst, xnw, xtc, xtu, xtn, xcu, xtd, xtt, xsr, xno, xsk, xrt, xsj, xtx, xtl, xcr, eN, eC, eD, eT, eH, eR, tE, tN))
    (h0 : ∀ (q : Int32) (xst xnw xtc xtu xtn xcu xtd xtt xsr : Int32) (xtx xtl xcr eN eC eD eT eH eR tE tN : Nat → Int32), (q = 0 ∨ q = 2 ∨ q = 3) → sp_V False nc n xno xsj tx0 tl0 cr0 xtx xtl xcr → post q (xms, nI lim, xdl, nI nc, xsd, nI n, q, -1, -1, xst, xnw, xtc, xtu, xtn, xcu, xtd, xtt, xsr, xno, xsk, xrt, xsj, xtx, xtl, xcr, eN, eC, eD, eT, eH, eR, tE, tN))
    (h1 : ∀ (t c : Nat) (xst xnw xtc xtu xtn xcu xtd xtt xsr : Int32) (xtx xtl xcr eN eC eD eT eH eR tE tN : Nat → Int32), t ≤ c → c ≤ n → (¬ p1 = 0 → t = 0) → sp_V True nc n xno xsj tx0 tl0 cr0 xtx xtl xcr → post 1 (xms, nI lim, xdl, nI nc, xsd, nI n, 1, nI t, nI c, xst, xnw, xtc, xtu, xtn, xcu, xtd, xtt, xsr, xno, xsk, xrt, xsj, xtx, xtl, xcr, eN, eC, eD, eT, eH, eR, tE, tN)) :
    wpX_match post (xms, nI lim, xdl, nI nc, xsd, nI n, xlr, xls, xle, xst, xnw, xtc, xtu, xtn, xcu, xtd, xtt, xsr, xno, xsk, xrt, xsj, xtx, xtl, xcr, eN, eC, eD, eT, eH, eR, tE, tN) (nI v) p1 := by
  refine br_f (nI_pos (by omega)) (br_t (sm_lt 4 hv (by omega)) ⟨vp_in_nI hv (by omega), ?_⟩)
  have ec : xrt (nI v).toNatClampNeg = xrt v := sm_cg (by omega) rfl
  rw [ec]
  rcases C.2.2.2.2.1 v hv with e | ⟨r, hr, e⟩
  · exact br_t e hn
  · have nm : ¬ xrt v = -1 := by rw [e]; have := C.1; exact sm_m1ne (by omega)
    refine br_f nm ?_
    by_cases q : p1 = 0
    · exact br_t q ⟨n + 2, sp_starts (g := n) C hv hr e (Nat.le_refl _) h0 (fun t c xst xnw xtc xtu xtn xcu xtd xtt xsr xtx xtl xcr eN eC eD eT eH eR tE tN a1 a2 a3 V' => h1 t c _ _ _ _ _ _ _ _ _ _ _ _ _ _ _ _ _ _ _ _ a1 a2 (fun z => absurd q z) V') (n + 1) 0 (n + 2) (by omega) (by omega) _ _ _ _ _ _ _ _ _ _ _ _ _ _ _ _ _ _ _ _ V⟩
    · exact br_f q ⟨2, sp_starts (g := 0) C hv hr e (by omega) h0 (fun t c xst xnw xtc xtu xtn xcu xtd xtt xsr xtx xtl xcr eN eC eD eT eH eR tE tN a1 a2 a3 V' => h1 t c _ _ _ _ _ _ _ _ _ _ _ _ _ _ _ _ _ _ _ _ a1 a2 (fun z => by omega) V') 1 0 2 (by omega) (by omega) _ _ _ _ _ _ _ _ _ _ _ _ _ _ _ _ _ _ _ _ V⟩
end
