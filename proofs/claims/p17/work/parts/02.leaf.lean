section
variable {xms xsl xdl xnc xsd xn xlr xls xle xst xnw xtc xtu xtn xcu xtd xtt xsr : Int32} {xno xsk xrt xsj xtx xtl xcr eN eC eD eT eH eR tE tN : Nat → Int32}
theorem sx_span {post : Int32 → Prop} {n c : Nat} {a b : Int32} (hn : n ≤ 16) (hc : c ≤ n) (h0 : post (-1)) (h1 : ∀ v, c ≤ v → v ≤ n → post (nI v)) : ∀ d e m, e + d = n → c ≤ e → d < m →
    wX_spanEnd_3 post a b (nI c) xms xsl xdl xnc xsd (nI n) xlr xls xle xst xnw xtc xtu xtn xcu xtd xtt xsr xno xsk xrt xsj xtx xtl xcr eN eC eD eT eH eR tE tN m (nI e) := by
  intro d
  induction d with
  | zero =>
    intro e m he hce hm
    obtain ⟨m, rfl⟩ : ∃ k, m = k + 1 := ⟨m - 1, by omega⟩
    exact br_t (nI_le (by omega) (by omega)) (br_c (fun _ => h0) (fun _ => h1 e hce (by omega)))
  | succ d ih =>
    intro e m he hce hm
    obtain ⟨m, rfl⟩ : ∃ k, m = k + 1 := ⟨m - 1, by omega⟩
    have vi : vp_in (nI e) 16 := vp_in_nI (by omega) (by omega)
    exact br_f (nI_ge (by omega) (by omega)) ⟨vi, br_c (fun _ => br_c (fun _ => h0) (fun _ => h1 e hce (by omega))) (fun _ => ⟨vi, br_c (fun _ => br_c (fun _ => h0) (fun _ => h1 e hce (by omega))) (fun _ => nm_r (nI_1 e) (ih (e + 1) m (by omega) (by omega) (by omega)))⟩)⟩
theorem sx_break {post : Int32 → Prop} {n c : Nat} {a b : Int32} (hn : n ≤ 16) (hc : c ≤ n) (h0 : post (-1)) (h1 : ∀ v, c ≤ v → v ≤ n → post (nI v)) : ∀ d e m, e + d = n → c ≤ e → d < m →
    wX_breakEnd_3 post a b xms xsl xdl xnc xsd (nI n) xlr xls xle xst xnw xtc xtu xtn xcu xtd xtt xsr xno xsk xrt xsj xtx xtl xcr eN eC eD eT eH eR tE tN m (nI e) := by
  intro d
  induction d with
  | zero =>
    intro e m he hce hm
    obtain ⟨m, rfl⟩ : ∃ k, m = k + 1 := ⟨m - 1, by omega⟩
    exact br_t (nI_le (by omega) (by omega)) h0
  | succ d ih =>
    intro e m he hce hm
    obtain ⟨m, rfl⟩ : ∃ k, m = k + 1 := ⟨m - 1, by omega⟩
    have vi : vp_in (nI e) 16 := vp_in_nI (by omega) (by omega)
    have nx := ih (e + 1) m (by omega) (by omega) (by omega)
    exact br_f (nI_ge (by omega) (by omega)) ⟨vi, br_c (fun _ => nm_r (nI_1 e) nx) (fun _ => ⟨vi, br_c (fun _ => nm_r (nI_1 e) nx) (fun _ => h1 e hce (by omega))⟩)⟩
theorem sx_within {post : Int32 → Prop} {n c : Nat} {a b : Int32} (hn : n ≤ 16) (h0 : post 0) (h1 : c < n → post 1) (hc : c ≤ n) : wpX_charWithin post (xms, xsl, xdl, xnc, xsd, nI n, xlr, xls, xle, xst, xnw, xtc, xtu, xtn, xcu, xtd, xtt, xsr, xno, xsk, xrt, xsj, xtx, xtl, xcr, eN, eC, eD, eT, eH, eR, tE, tN) (nI c) a b := by
  by_cases q : n ≤ c
  · exact br_t (nI_le q (by omega)) h0
  · have vi : vp_in (nI c) 16 := vp_in_nI (by omega) (by omega)
    exact br_f (nI_ge (by omega) (by omega)) ⟨vi, br_c (fun _ => h0) (fun _ => ⟨vi, br_c (fun _ => h0) (fun _ => h1 (by omega))⟩)⟩
/-- a leaf answers none, or an end between its cursor and the subject's end -/
theorem sx_leafEnd {post : Int32 → Prop} {n c a k : Nat} {b : Int32} (hn : n ≤ 16) (hc : c ≤ n) (ha : a < 65536) (k1 : 1 ≤ k) (k2 : k ≤ 11) (h0 : post (-1)) (h1 : ∀ v, c ≤ v → v ≤ n → post (nI v)) :
    wpX_leafEnd post (xms, xsl, xdl, xnc, xsd, nI n, xlr, xls, xle, xst, xnw, xtc, xtu, xtn, xcu, xtd, xtt, xsr, xno, xsk, xrt, xsj, xtx, xtl, xcr, eN, eC, eD, eT, eH, eR, tE, tN) (nI k) (nI a) b (nI c) := by
  have w : ∀ b : Int32, wpX_charWithin (fun r => (r = 0 → post (-1)) ∧ (¬ r = 0 → post (nI c + 1))) (xms, xsl, xdl, xnc, xsd, nI n, xlr, xls, xle, xst, xnw, xtc, xtu, xtn, xcu, xtd, xtt, xsr, xno, xsk, xrt, xsj, xtx, xtl, xcr, eN, eC, eD, eT, eH, eR, tE, tN) (nI c) (nI a) b := fun b =>
    sx_within hn (br_t rfl h0) (fun q => br_f (by decide) (by rw [nI_1]; exact h1 (c + 1) (by omega) (by omega))) hc
  have g1 : ¬ nI k < 1 := nI_nlt (b := 1) k1 (by omega)
  have g2 : ¬ (11 : Int32) < nI k := sm_ngt 11 k2 (by omega)
  have ks : k = 1 ∨ k = 2 ∨ k = 3 ∨ k = 4 ∨ k = 5 ∨ k = 6 ∨ k = 7 ∨ k = 8 ∨ k = 9 ∨ k = 10 ∨ k = 11 := by omega
  rcases ks with rfl | rfl | rfl | rfl | rfl | rfl | rfl | rfl | rfl | rfl | rfl
  · exact br_f g1 (br_f g2 (br_t rfl (w _)))
  · exact br_f g1 (br_f g2 (br_f (by decide) (br_t rfl (h1 c (by omega) hc))))
  · exact br_f g1 (br_f g2 (br_f (by decide) (br_f (by decide) (br_t rfl h0))))
  · refine br_f g1 (br_f g2 (br_f (by decide) (br_f (by decide) (br_f (by decide) (br_t rfl ?_)))))
    rw [nI_add]
    by_cases q : c + a ≤ n
    · exact br_f (nI_nlt q (by omega)) (h1 _ (by omega) q)
    · exact br_t (nI_lt (by omega) (by omega)) h0
  · exact br_f g1 (br_f g2 (br_f (by decide) (br_f (by decide) (br_f (by decide) (br_f (by decide) (br_t rfl (br_c (fun _ => h1 c (by omega) hc) (fun _ => h0))))))))
  · exact br_f g1 (br_f g2 (br_f (by decide) (br_f (by decide) (br_f (by decide) (br_f (by decide) (br_f (by decide) (br_t rfl (br_c (fun _ => h1 c (by omega) hc) (fun _ => h0)))))))))
  · exact br_f g1 (br_f g2 (br_f (by decide) (br_f (by decide) (br_f (by decide) (br_f (by decide) (br_f (by decide) (br_f (by decide) (br_t rfl (w _)))))))))
  · exact br_f g1 (br_f g2 (br_f (by decide) (br_f (by decide) (br_f (by decide) (br_f (by decide) (br_f (by decide) (br_f (by decide) (br_f (by decide) (br_t rfl ⟨n - c + 1, sx_span hn hc h0 h1 (n - c) c _ (by omega) (by omega) (by omega)⟩)))))))))
  · exact br_f g1 (br_f g2 (br_f (by decide) (br_f (by decide) (br_f (by decide) (br_f (by decide) (br_f (by decide) (br_f (by decide) (br_f (by decide) (br_f (by decide) (br_t rfl ⟨n - c + 1, sx_break hn hc h0 h1 (n - c) c _ (by omega) (by omega) (by omega)⟩))))))))))
  · exact br_f g1 (br_f g2 (br_f (by decide) (br_f (by decide) (br_f (by decide) (br_f (by decide) (br_f (by decide) (br_f (by decide) (br_f (by decide) (br_f (by decide) (br_f (by decide) (br_t rfl h0)))))))))))
  · exact br_f g1 (br_f g2 (br_f (by decide) (br_f (by decide) (br_f (by decide) (br_f (by decide) (br_f (by decide) (br_f (by decide) (br_f (by decide) (br_f (by decide) (br_f (by decide) (br_f (by decide) (br_t rfl (h1 c (by omega) hc))))))))))))) 
end
