theorem sp_ke {k k' : Nat} (h : nI k' = nI k) (h1 : k' ≤ 18) (h2 : k ≤ 18) : k' = k := (nI_eq (by omega) (by omega)).mp h
/-- what does not change in a search -/
def sp_C (lim nc n : Nat) (xno xrt xsj : Nat → Int32) : Prop :=
  nc ≤ 32 ∧ lim ≤ 250 ∧ n ≤ 16 ∧ (∀ i, i < nc → sp_nd nc xno i) ∧ (∀ v, v < 4 → xrt v = -1 ∨ ∃ r, r < nc ∧ xrt v = nI r) ∧ sp_ch xsj 16
def sp_r (x : Int32) : Prop := x = 0 ∨ x = 1 ∨ x = 2 ∨ x = 3
def sp_P (xms xdl xsd xlr xls xle : Int32) (lim nc n t : Nat) (xno xsk xrt xsj tx0 tl0 cr0 : Nat → Int32) (post : St2 → Prop) : Prop := ∀ (xst xnw xtc xtu xtn xcu xtd xtt xsr : Int32) (xtx xtl xcr eN eC eD eT eH eR tE tN : Nat → Int32), sp_r xsr → sp_I nc n t xno xsj tx0 tl0 cr0 xst xnw xtc xtn xcu xtt xtx xtl xcr eN eC eT eH eR tE tN → post (xms, nI lim, xdl, nI nc, xsd, nI n, xlr, xls, xle, xst, xnw, xtc, xtu, xtn, xcu, xtd, xtt, xsr, xno, xsk, xrt, xsj, xtx, xtl, xcr, eN, eC, eD, eT, eH, eR, tE, tN)
section
variable {xms xdl xsd xlr xls xle : Int32} {lim nc n t : Nat} {xno xsk xrt xsj tx0 tl0 cr0 : Nat → Int32}
variable {xst xnw xtc xtu xtn xcu xtd xtt xsr : Int32} {xtx xtl xcr eN eC eD eT eH eR tE tN : Nat → Int32}
variable {post : St2 → Prop}
theorem sp_begin (C : sp_C lim nc n xno xrt xsj) (I : sp_I nc n t xno xsj tx0 tl0 cr0 xst xnw xtc xtn xcu xtt xtx xtl xcr eN eC eT eH eR tE tN) (hr : sp_r xsr) (hp : sp_P xms xdl xsd xlr xls xle lim nc n t xno xsk xrt xsj tx0 tl0 cr0 post) : wpX_begin post (xms, nI lim, xdl, nI nc, xsd, nI n, xlr, xls, xle, xst, xnw, xtc, 0, xtn, xcu, xtd, xtt, xsr, xno, xsk, xrt, xsj, xtx, xtl, xcr, eN, eC, eD, eT, eH, eR, tE, tN) := by
  obtain ⟨C1, C2, C3, C4, C5, C6⟩ := C
  obtain ⟨K, H, c, rfl, hK, hH, el, tr, co, ⟨q, hq, rfl⟩, rfl, tc, cn, tk, ⟨i, hi, rfl⟩, V⟩ := I
  by_cases hl : K < lim
  rotate_left
  · exact sx_0full (by omega) hK (hp _ _ _ _ _ _ _ _ _ _ _ _ _ _ _ _ _ _ _ _ (Or.inr (Or.inr (Or.inl rfl))) ⟨K, H, c, rfl, hK, hH, el, tr, co, ⟨q, hq, rfl⟩, rfl, tc, cn, tk, ⟨i, hi, rfl⟩, V⟩)
  obtain ⟨k, a, k1, k18, a1, h0, h1, c12, cv, c13, c17⟩ := C4 i hi
  have el' := sp_el_n el hi tc cn tk co hq
  have tr' := sp_tr_n (x := nI i) (y := nI c) tr
  have tk' := sp_tk_n (x := nI i) (y := nI c) tk
  have co' := sp_co_n (x := nI i) co
  by_cases z10 : k = 10
  · exact sx_0arb hl C2 (by omega) h0 z10 (hp _ _ _ _ _ _ _ _ _ _ _ _ _ _ _ _ _ _ _ _ hr ⟨K + 1, H, c, rfl, by omega, hH, el', tr', Or.inr ⟨K, i, k, by omega, rfl, pk_us, hi, h0, by omega⟩, ⟨q, hq, rfl⟩, rfl, tc, cn, tk', ⟨i, hi, rfl⟩, V⟩)
  by_cases z13 : k = 13
  · exact sx_0arbno hl C2 (by omega) h0 z13 (hp _ _ _ _ _ _ _ _ _ _ _ _ _ _ _ _ _ _ _ _ hr ⟨K + 1, H, c, rfl, by omega, hH, el', tr', Or.inr ⟨K, i, k, by omega, rfl, pk_us, hi, h0, by omega⟩, ⟨q, hq, rfl⟩, rfl, tc, cn, tk', ⟨i, hi, rfl⟩, V⟩)
  by_cases z18 : k = 18
  · obtain ⟨l, hl3, h3⟩ := c13 (by omega)
    exact sx_0alt hl C2 (by omega) h0 z18 h3 (hp _ _ _ _ _ _ _ _ _ _ _ _ _ _ _ _ _ _ _ _ hr ⟨K + 1, H, c, rfl, by omega, hH, el', tr', Or.inr ⟨K, i, k, by omega, rfl, pk_us, hi, h0, by omega⟩, ⟨q, hq, rfl⟩, rfl, tc, cn, tk', ⟨l, hl3, rfl⟩, V⟩)
  by_cases z4 : 14 ≤ k
  · obtain ⟨l, hl3, h3⟩ := c13 (by omega)
    exact sx_0four hl C2 (by omega) h0 (by omega) h3 (hp _ _ _ _ _ _ _ _ _ _ _ _ _ _ _ _ _ _ _ _ hr ⟨K + 1, H, c, rfl, by omega, hH, el', tr', co', ⟨q, hq, rfl⟩, rfl, tc, cn, Or.inr ⟨K, i, k, c, by omega, rfl, pk_us, hi, h0, by omega, by omega, pk_us, Nat.le_refl _⟩, ⟨l, hl3, rfl⟩, V⟩)
  by_cases z12 : k = 12
  · have a3 := c12 z12
    refine sx_0def hl C2 (by omega) h0 z12 (by omega) h1 (hp _ _ _ _ _ _ _ _ _ _ _ _ _ _ _ _ _ _ _ _ hr ⟨K + 1, H, c, rfl, by omega, hH, el', tr', co', ⟨q, hq, rfl⟩, rfl, tc, cn, tk', ⟨i, hi, rfl⟩, V⟩) (fun nr => ?_)
    rcases C5 a (by omega) with e | ⟨r, hr5, e⟩
    · exact absurd e nr
    · exact hp _ _ _ _ _ _ _ _ _ _ _ _ _ _ _ _ _ _ _ _ hr ⟨K + 1, H, c, rfl, by omega, hH, el', tr', co', ⟨q, hq, rfl⟩, rfl, tc, cn, tk', ⟨r, hr5, e⟩, V⟩
  · refine sx_0leaf hl C2 (by omega) h0 (by omega) h1 a1 (fun z => by have := cv (Or.inl z); omega) C3 cn ?_ (fun _ v v1 v2 => ?_) (fun z v v1 v2 => ?_)
    · exact hp _ _ _ _ _ _ _ _ _ _ _ _ _ _ _ _ _ _ _ _ hr ⟨K + 1, H, c, rfl, by omega, hH, el', tr', co', ⟨q, hq, rfl⟩, rfl, tc, cn, tk', ⟨i, hi, rfl⟩, V⟩
    · exact hp _ _ _ _ _ _ _ _ _ _ _ _ _ _ _ _ _ _ _ _ hr ⟨K + 1, H, v, rfl, by omega, hH, el', tr', co', ⟨q, hq, rfl⟩, rfl, by omega, v2, sp_tk_up tk' v1, ⟨i, hi, rfl⟩, V⟩
    · exact hp _ _ _ _ _ _ _ _ _ _ _ _ _ _ _ _ _ _ _ _ hr ⟨K + 1, H, v, rfl, by omega, hH, el', tr', co', ⟨q, hq, rfl⟩, rfl, by omega, v2, sp_tk_up tk' v1, ⟨i, hi, rfl⟩, sp_V_cur V hi (by rw [h0, z]) h1 v2⟩
theorem sp_produce (C : sp_C lim nc n xno xrt xsj) (I : sp_I nc n t xno xsj tx0 tl0 cr0 xst xnw xtc xtn xcu xtt xtx xtl xcr eN eC eT eH eR tE tN) (hr : sp_r xsr) (hp : sp_P xms xdl xsd xlr xls xle lim nc n t xno xsk xrt xsj tx0 tl0 cr0 post) : wpX_produce post (xms, nI lim, xdl, nI nc, xsd, nI n, xlr, xls, xle, xst, xnw, xtc, 1, xtn, xcu, xtd, xtt, xsr, xno, xsk, xrt, xsj, xtx, xtl, xcr, eN, eC, eD, eT, eH, eR, tE, tN) := by
  obtain ⟨C1, C2, C3, C4, C5, C6⟩ := C
  obtain ⟨K, H, c, rfl, hK, hH, el, tr, co, ⟨q, hq, rfl⟩, rfl, tc, cn, tk, ⟨p, hpn, rfl⟩, V⟩ := I
  rcases tk with rfl | ⟨j, i, k, a, hj, rfl, eNj, hi, h0, k13, k17, eCj, ac⟩
  · exact sx_1none (hp _ _ _ _ _ _ _ _ _ _ _ _ _ _ _ _ _ _ _ _ (Or.inr (Or.inl rfl)) ⟨K, H, c, rfl, hK, hH, el, tr, co, ⟨q, hq, rfl⟩, rfl, tc, cn, Or.inl rfl, ⟨p, hpn, rfl⟩, V⟩)
  obtain ⟨i2, c2, r2, e1, e2, e3, e4, e5, e6, e7, e8, e9⟩ := el j hj
  have ea : c2 = a := (nI_eq (by omega) (by omega)).mp (e3.symm.trans eCj)
  have tk' := sp_tk_up e6 (show c2 ≤ c by omega)
  have kb : k ≤ 18 := by omega
  obtain ⟨k', b, k1, k18, a1, h0', h1, c12, cv, c13, c17⟩ := C4 i hi
  have ek : k' = k := sp_ke (h0'.symm.trans h0) k18 kb
  subst ek
  by_cases z13 : k' = 13
  · by_cases e : c = a
    · exact sx_1skip (by omega) eNj (by omega) h0 eCj z13 (by rw [e]) (hp _ _ _ _ _ _ _ _ _ _ _ _ _ _ _ _ _ _ _ _ hr ⟨K, H, c, rfl, hK, hH, el, tr, co, ⟨q, hq, rfl⟩, rfl, tc, cn, tk', ⟨p, hpn, rfl⟩, V⟩)
    · exact sx_1arbno (by omega) eNj (by omega) h0 eCj z13 (fun z => e ((nI_eq (by omega) (by omega)).mp z)) (hp _ _ _ _ _ _ _ _ _ _ _ _ _ _ _ _ _ _ _ _ hr ⟨K, H, c, rfl, hK, hH, el, tr, co, ⟨q, hq, rfl⟩, rfl, tc, cn, tk', ⟨i, hi, rfl⟩, V⟩)
  by_cases z14 : k' = 14
  · exact sx_1fence (by omega) eNj (by omega) h0 eCj z14 (hp _ _ _ _ _ _ _ _ _ _ _ _ _ _ _ _ _ _ _ _ hr ⟨K, H, c, rfl, hK, hH, el, tr, e7, ⟨q, hq, rfl⟩, rfl, tc, cn, tk', ⟨p, hpn, rfl⟩, V⟩)
  by_cases z15 : k' = 15
  · have b7 := cv (by omega)
    exact sx_1imm (by omega) eNj (by omega) h0 eCj z15 b7 h1 ac (by omega) (hp _ _ _ _ _ _ _ _ _ _ _ _ _ _ _ _ _ _ _ _ hr ⟨K, H, c, rfl, hK, hH, el, tr, co, ⟨q, hq, rfl⟩, rfl, tc, cn, tk', ⟨p, hpn, rfl⟩, sp_V_put V C6 b7 ac cn C3 hi (Or.inl (by rw [h0, z15])) h1⟩)
  by_cases z16 : k' = 16
  · by_cases q250 : q < 250
    · obtain ⟨H', g1, g2, g3, g4, tr'⟩ := sp_tr_t tr hq hj eNj hi (by rw [h0, z16]) eCj ac cn
      exact sx_1cond (by omega) eNj (by omega) h0 eCj z16 q250 (hp _ _ _ _ _ _ _ _ _ _ _ _ _ _ _ _ _ _ _ _ hr ⟨K, H', c, rfl, hK, by omega, sp_el_h el g1, tr', co, ⟨q + 1, g3, rfl⟩, rfl, tc, cn, tk', ⟨p, hpn, rfl⟩, V⟩)
    · exact sx_1full (by omega) eNj (by omega) h0 eCj z16 (by omega) (by omega) (hp _ _ _ _ _ _ _ _ _ _ _ _ _ _ _ _ _ _ _ _ hr ⟨K, H, c, rfl, hK, hH, el, tr, co, ⟨q, hq, rfl⟩, rfl, tc, cn, tk', ⟨p, hpn, rfl⟩, V⟩)
  · obtain ⟨l, hl, h4⟩ := c17 (by omega)
    exact sx_1cat (by omega) eNj (by omega) h0 eCj (by omega) h4 (hp _ _ _ _ _ _ _ _ _ _ _ _ _ _ _ _ _ _ _ _ hr ⟨K, H, c, rfl, hK, hH, el, tr, co, ⟨q, hq, rfl⟩, rfl, tc, cn, tk', ⟨l, hl, rfl⟩, V⟩)
theorem sp_backtrack (C : sp_C lim nc n xno xrt xsj) (I : sp_I nc n t xno xsj tx0 tl0 cr0 xst xnw xtc xtn xcu xtt xtx xtl xcr eN eC eT eH eR tE tN) (hr : sp_r xsr) (hp : sp_P xms xdl xsd xlr xls xle lim nc n t xno xsk xrt xsj tx0 tl0 cr0 post) : wpX_backtrack post (xms, nI lim, xdl, nI nc, xsd, nI n, xlr, xls, xle, xst, xnw, xtc, xtu, xtn, xcu, xtd, xtt, xsr, xno, xsk, xrt, xsj, xtx, xtl, xcr, eN, eC, eD, eT, eH, eR, tE, tN) := by
  obtain ⟨C1, C2, C3, C4, C5, C6⟩ := C
  obtain ⟨K, H, c, rfl, hK, hH, el, tr, co, ⟨q, hq, rfl⟩, rfl, tc, cn, tk, ⟨p, hpn, rfl⟩, V⟩ := I
  rcases co with rfl | ⟨j, i, k, hj, rfl, eNj, hi, h0, ks⟩
  · exact sx_2none (hp _ _ _ _ _ _ _ _ _ _ _ _ _ _ _ _ _ _ _ _ (Or.inl rfl) ⟨K, H, c, rfl, hK, hH, el, tr, Or.inl rfl, ⟨q, hq, rfl⟩, rfl, tc, cn, tk, ⟨p, hpn, rfl⟩, V⟩)
  have cj : sp_co nc K xno eN (nI j) := Or.inr ⟨j, i, k, hj, rfl, eNj, hi, h0, ks⟩
  obtain ⟨i2, c2, r2, e1, e2, e3, e4, e5, e6, e7, e8, e9⟩ := el j hj
  have kb : k ≤ 18 := by omega
  obtain ⟨k', b, k1, k18, a1, h0', h1, c12, cv, c13, c17⟩ := C4 i hi
  have ek : k' = k := sp_ke (h0'.symm.trans h0) k18 kb
  subst ek
  rcases ks with z | z | z
  · by_cases g : c2 < n
    · exact sx_2arby (by omega) eNj (by omega) h0 e3 z g (by omega) (hp _ _ _ _ _ _ _ _ _ _ _ _ _ _ _ _ _ _ _ _ hr ⟨K, H, c2 + 1, rfl, hK, hH, sp_el_a C1 el eNj hi (by rw [h0, z]) e3 C3 g, sp_tr_a C1 tr eNj hi (by rw [h0, z]), cj, ⟨r2, e9, e8⟩, rfl, by omega, by omega, sp_tk_a C1 (sp_tk_up e6 (by omega)) eNj hi (by rw [h0, z]), ⟨p, hpn, rfl⟩, V⟩)
    · exact sx_2arbx (by omega) eNj (by omega) h0 e3 z (by omega) (by omega) (hp _ _ _ _ _ _ _ _ _ _ _ _ _ _ _ _ _ _ _ _ hr ⟨K, H, c, rfl, hK, hH, el, tr, e7, ⟨r2, e9, e8⟩, rfl, tc, cn, tk, ⟨p, hpn, rfl⟩, V⟩)
  · obtain ⟨l, hl, h3⟩ := c13 (by omega)
    exact sx_2arbno (by omega) eNj (by omega) h0 e3 z h3 (hp _ _ _ _ _ _ _ _ _ _ _ _ _ _ _ _ _ _ _ _ hr ⟨K, H, c2, rfl, hK, hH, el, tr, e7, ⟨r2, e9, e8⟩, rfl, e4, e5, Or.inr ⟨j, i, k', c2, hj, rfl, eNj, hi, h0, by omega, by omega, e3, Nat.le_refl _⟩, ⟨l, hl, rfl⟩, V⟩)
  · obtain ⟨l, hl, h4⟩ := c17 (by omega)
    exact sx_2alt (by omega) eNj (by omega) h0 e3 z h4 (hp _ _ _ _ _ _ _ _ _ _ _ _ _ _ _ _ _ _ _ _ hr ⟨K, H, c2, rfl, hK, hH, el, tr, e7, ⟨r2, e9, e8⟩, rfl, e4, e5, e6, ⟨l, hl, rfl⟩, V⟩)
end
