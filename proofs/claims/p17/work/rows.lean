section
theorem sm_z0 : (0 : Int32).toInt = 0 := by decide
theorem sm_m1 : (-1 : Int32).toInt = -1 := by decide
theorem sm_16 : (16 : Int32) = nI 16 := rfl
theorem sm_5 : (5 : Int32) = nI 5 := rfl
theorem sm_ix5 (a f : Nat) : nI a * 5 + nI f = nI (5 * a + f) := by
  rw [sm_5, pk_mul, nI_add, Nat.mul_comm]
theorem sm_cl {a : Nat} (h : a < 2 ^ 31) : (nI a).toNatClampNeg = a := nI_clamp h
theorem sm_m1ne {e : Nat} (h : e < 2 ^ 31) : ¬ nI e = -1 := by
  intro z
  have := congrArg Int32.toInt z
  rw [nI_toInt h, sm_m1] at this
  omega
theorem sm_ne {a : Nat} (b : Nat) (h : a ≠ b) (ha : a < 1000) (hb : b < 1000) : ¬ nI a = nI b := fun z => h ((nI_eq (by omega) (by omega)).mp z)
theorem sm_eqI {a b : Nat} (h : a = b) : nI a = nI b := by rw [h]
theorem sm_lt {a : Nat} (b : Nat) (h : a < b) (hb : b < 1000) : nI a < nI b := nI_lt h (by omega)
theorem sm_ngt {b : Nat} (a : Nat) (h : b ≤ a) (ha : a < 1000) : ¬ nI a < nI b := nI_nlt h (by omega)
theorem sm_nlt {a : Nat} (b : Nat) (h : b ≤ a) (ha : a < 1000) : ¬ nI a < nI b := nI_nlt h (by omega)
theorem sm_cg {α : Sort _} {f : Nat → α} {j : Nat} (hj : j < 1000) {x : α} (h : f j = x) : f (nI j).toNatClampNeg = x := by rw [sm_cl (by omega)]; exact h
theorem sm_up {f : Nat → Int32} {j : Nat} (hj : j < 1000) {x : Int32} : upd f (nI j).toNatClampNeg x = upd f j x := by rw [sm_cl (by omega)]
theorem sm_bl {x : Int32} {b : Nat} (h : nI b ≤ x) : ¬ x < nI b := Int32.not_lt.mpr h
theorem sm_b0 {x : Int32} {b : Nat} (h : nI b ≤ x) (hb : b < 2 ^ 31) : ¬ x < 0 := by
  rw [Int32.lt_iff_toInt_lt, sm_z0]
  rw [Int32.le_iff_toInt_le, nI_toInt hb] at h
  omega
theorem sm_in5 {i : Nat} (f : Nat) (hi : i < 32) (hf : f < 5) : vp_in (nI i * 5 + nI f) 160 := by rw [sm_ix5]; exact vp_in_nI (by omega) (by omega)
theorem sm_c5 {g : Nat → Int32} {i : Nat} (f : Nat) (hi : i < 32) (hf : f < 5) {x : Int32} (h : g (5 * i + f) = x) : g (nI i * 5 + nI f).toNatClampNeg = x := by
  rw [sm_ix5, sm_cl (by omega)]; exact h
/-- the text of v after j characters of the subject from a on -/
def sm_put (sj tx : Nat → Int32) (v a : Nat) : Nat → Nat → Int32
  | 0 => tx
  | j + 1 => upd (sm_put sj tx v a j) (v * 16 + j) (vp_nar .char (sj (a + j)))
theorem sm_nc {q : Nat} (hq : q < 65536) : vp_nar .char (nI q) = nI q := by
  unfold vp_nar
  rw [(pk_charN hq).1]
theorem sm_put_o {sj tx : Nat → Int32} {v a : Nat} : ∀ d i, (i < v * 16 ∨ v * 16 + d ≤ i) → sm_put sj tx v a d i = tx i := by
  intro d
  induction d with
  | zero => intro i _; rfl
  | succ d ih =>
    intro i h
    unfold sm_put
    rw [pk_un (by omega)]
    exact ih i (by omega)
theorem sm_put_i {sj tx : Nat → Int32} {v a : Nat} (hc : ∀ i, i < 16 → ∃ q, q < 65536 ∧ sj i = nI q) : ∀ d j, j < d → a + d ≤ 16 → sm_put sj tx v a d (v * 16 + j) = sj (a + j) := by
  intro d
  induction d with
  | zero => intro j h; omega
  | succ d ih =>
    intro j h hd
    unfold sm_put
    by_cases q : j = d
    · subst q
      obtain ⟨c, hc, e⟩ := hc (a + j) (by omega)
      rw [pk_us, e]
      exact sm_nc hc
    · rw [pk_un (by omega)]
      exact ih j (by omega) (by omega)
section
variable {xms xsl xdl xnc xsd xn xlr xls xle xst xnw xtc xtu xtn xcu xtd xtt xsr : Int32} {xno xsk xrt xsj xtx xtl xcr eN eC eD eT eH eR tE tN : Nat → Int32}
theorem sx_text {post : St2 → Prop} {v a b : Nat} (hv : v ≤ 7) (hb : b ≤ 16) :
    ∀ d j n, a + j + d = b → d < n →
    post (xms, xsl, xdl, xnc, xsd, xn, xlr, xls, xle, xst, xnw, xtc, xtu, xtn, xcu, xtd, xtt, xsr, xno, xsk, xrt, xsj, sm_put xsj xtx v a (b - a), upd xtl v (nI (b - a)), xcr, eN, eC, eD, eT, eH, eR, tE, tN) →
    wX_setText_3 post (nI v) (nI a) (nI b) xms xsl xdl xnc xsd xn xlr xls xle xst xnw xtc xtu xtn xcu xtd xtt xsr n (nI (a + j)) xno xsk xrt xsj (sm_put xsj xtx v a j) xtl xcr eN eC eD eT eH eR tE tN := by
  intro d
  induction d with
  | zero =>
    intro j n h hn hp
    obtain ⟨n, rfl⟩ : ∃ m, n = m + 1 := ⟨n - 1, by omega⟩
    have e : b - a = j := by omega
    rw [e] at hp
    refine br_t (nI_le (by omega) (by omega)) ⟨vp_in_nI (by omega) (by omega), nm_r ?_ hp⟩
    rw [pk_sub (by omega), sm_cl (by omega), e]
  | succ d ih =>
    intro j n h hn hp
    obtain ⟨n, rfl⟩ : ∃ m, n = m + 1 := ⟨n - 1, by omega⟩
    have ei : nI v * 16 + nI (a + j) - nI a = nI (v * 16 + j) := by
      rw [sm_16, pk_mul, nI_add, pk_sub (by omega)]
      congr 1
      omega
    refine br_f (nI_ge (by omega) (by omega)) ⟨vp_in_nI (by omega) (by omega), ?_, nm_r ?_ (nm_r (nI_1 _) (ih (j + 1) n (by omega) (by omega) hp))⟩
    · rw [ei]; exact vp_in_nI (by omega) (by omega)
    · rw [ei, sm_cl (by omega), sm_cl (by omega)]
      rfl
theorem sx_setText {post : St2 → Prop} {v a b : Nat} (hv : v ≤ 7) (ha : a ≤ b) (hb : b ≤ 16)
    (hp : post (xms, xsl, xdl, xnc, xsd, xn, xlr, xls, xle, xst, xnw, xtc, xtu, xtn, xcu, xtd, xtt, xsr, xno, xsk, xrt, xsj, sm_put xsj xtx v a (b - a), upd xtl v (nI (b - a)), xcr, eN, eC, eD, eT, eH, eR, tE, tN)) :
    wpX_setText post (xms, xsl, xdl, xnc, xsd, xn, xlr, xls, xle, xst, xnw, xtc, xtu, xtn, xcu, xtd, xtt, xsr, xno, xsk, xrt, xsj, xtx, xtl, xcr, eN, eC, eD, eT, eH, eR, tE, tN) (nI v) (nI a) (nI b) :=
  ⟨b - a + 1, sx_text hv hb (b - a) 0 (b - a + 1) (by omega) (by omega) hp⟩
end
end
section
section
variable {xms xsl xdl xnc xsd xn xlr xls xle xst xnw xtc xtu xtn xcu xtd xtt xsr : Int32} {xno xsk xrt xsj xtx xtl xcr eN eC eD eT eH eR tE tN : Nat → Int32}
theorem sx_span {post : Int32 → Prop} {n c : Nat} {a b : Int32} (hn : n ≤ 16) (hc : c ≤ n) (h0 : post (-1)) (h1 : ∀ v, c ≤ v → v ≤ n → post (nI v)) : ∀ d e m, e + d = n → c ≤ e → d < m →
    wX_spanEnd_3 post a b (nI c) xms xsl xdl xnc xsd (nI n) xlr xls xle xst xnw xtc xtu xtn xcu xtd xtt xsr xno xsk xrt xsj xtx xtl xcr eN eC eD eT eH eR tE tN m (nI e) := by
  intro d
  induction d with
  | zero =>
    intro e m he hce hm
    obtain ⟨m, rfl⟩ : ∃ k, m = k + 1 := ⟨m - 1, by omega⟩
    exact br_t (nI_le (by omega) (by omega)) (br_c (fun _ => h0) (fun _ => h1 e hce (by omega)))
  | succ d ih =>
    intro e m he hce hm
    obtain ⟨m, rfl⟩ : ∃ k, m = k + 1 := ⟨m - 1, by omega⟩
    have vi : vp_in (nI e) 16 := vp_in_nI (by omega) (by omega)
    exact br_f (nI_ge (by omega) (by omega)) ⟨vi, br_c (fun _ => br_c (fun _ => h0) (fun _ => h1 e hce (by omega))) (fun _ => ⟨vi, br_c (fun _ => br_c (fun _ => h0) (fun _ => h1 e hce (by omega))) (fun _ => nm_r (nI_1 e) (ih (e + 1) m (by omega) (by omega) (by omega)))⟩)⟩
theorem sx_break {post : Int32 → Prop} {n c : Nat} {a b : Int32} (hn : n ≤ 16) (hc : c ≤ n) (h0 : post (-1)) (h1 : ∀ v, c ≤ v → v ≤ n → post (nI v)) : ∀ d e m, e + d = n → c ≤ e → d < m →
    wX_breakEnd_3 post a b xms xsl xdl xnc xsd (nI n) xlr xls xle xst xnw xtc xtu xtn xcu xtd xtt xsr xno xsk xrt xsj xtx xtl xcr eN eC eD eT eH eR tE tN m (nI e) := by
  intro d
  induction d with
  | zero =>
    intro e m he hce hm
    obtain ⟨m, rfl⟩ : ∃ k, m = k + 1 := ⟨m - 1, by omega⟩
    exact br_t (nI_le (by omega) (by omega)) h0
  | succ d ih =>
    intro e m he hce hm
    obtain ⟨m, rfl⟩ : ∃ k, m = k + 1 := ⟨m - 1, by omega⟩
    have vi : vp_in (nI e) 16 := vp_in_nI (by omega) (by omega)
    have nx := ih (e + 1) m (by omega) (by omega) (by omega)
    exact br_f (nI_ge (by omega) (by omega)) ⟨vi, br_c (fun _ => nm_r (nI_1 e) nx) (fun _ => ⟨vi, br_c (fun _ => nm_r (nI_1 e) nx) (fun _ => h1 e hce (by omega))⟩)⟩
theorem sx_within {post : Int32 → Prop} {n c : Nat} {a b : Int32} (hn : n ≤ 16) (h0 : post 0) (h1 : c < n → post 1) (hc : c ≤ n) : wpX_charWithin post (xms, xsl, xdl, xnc, xsd, nI n, xlr, xls, xle, xst, xnw, xtc, xtu, xtn, xcu, xtd, xtt, xsr, xno, xsk, xrt, xsj, xtx, xtl, xcr, eN, eC, eD, eT, eH, eR, tE, tN) (nI c) a b := by
  by_cases q : n ≤ c
  · exact br_t (nI_le q (by omega)) h0
  · have vi : vp_in (nI c) 16 := vp_in_nI (by omega) (by omega)
    exact br_f (nI_ge (by omega) (by omega)) ⟨vi, br_c (fun _ => h0) (fun _ => ⟨vi, br_c (fun _ => h0) (fun _ => h1 (by omega))⟩)⟩
/-- a leaf answers none, or an end between its cursor and the subject's end -/
theorem sx_leafEnd {post : Int32 → Prop} {n c a k : Nat} {b : Int32} (hn : n ≤ 16) (hc : c ≤ n) (ha : a < 65536) (k1 : 1 ≤ k) (k2 : k ≤ 11) (h0 : post (-1)) (h1 : ∀ v, c ≤ v → v ≤ n → post (nI v)) :
    wpX_leafEnd post (xms, xsl, xdl, xnc, xsd, nI n, xlr, xls, xle, xst, xnw, xtc, xtu, xtn, xcu, xtd, xtt, xsr, xno, xsk, xrt, xsj, xtx, xtl, xcr, eN, eC, eD, eT, eH, eR, tE, tN) (nI k) (nI a) b (nI c) := by
  have w : ∀ b : Int32, wpX_charWithin (fun r => (r = 0 → post (-1)) ∧ (¬ r = 0 → post (nI c + 1))) (xms, xsl, xdl, xnc, xsd, nI n, xlr, xls, xle, xst, xnw, xtc, xtu, xtn, xcu, xtd, xtt, xsr, xno, xsk, xrt, xsj, xtx, xtl, xcr, eN, eC, eD, eT, eH, eR, tE, tN) (nI c) (nI a) b := fun b =>
    sx_within hn (br_t rfl h0) (fun q => br_f (by decide) (by rw [nI_1]; exact h1 (c + 1) (by omega) (by omega))) hc
  have g1 : ¬ nI k < 1 := nI_nlt (b := 1) k1 (by omega)
  have g2 : ¬ (11 : Int32) < nI k := sm_ngt 11 k2 (by omega)
  have ks : k = 1 ∨ k = 2 ∨ k = 3 ∨ k = 4 ∨ k = 5 ∨ k = 6 ∨ k = 7 ∨ k = 8 ∨ k = 9 ∨ k = 10 ∨ k = 11 := by omega
  rcases ks with rfl | rfl | rfl | rfl | rfl | rfl | rfl | rfl | rfl | rfl | rfl
  · exact br_f g1 (br_f g2 (br_t rfl (w _)))
  · exact br_f g1 (br_f g2 (br_f (by decide) (br_t rfl (h1 c (by omega) hc))))
  · exact br_f g1 (br_f g2 (br_f (by decide) (br_f (by decide) (br_t rfl h0))))
  · refine br_f g1 (br_f g2 (br_f (by decide) (br_f (by decide) (br_f (by decide) (br_t rfl ?_)))))
    rw [nI_add]
    by_cases q : c + a ≤ n
    · exact br_f (nI_nlt q (by omega)) (h1 _ (by omega) q)
    · exact br_t (nI_lt (by omega) (by omega)) h0
  · exact br_f g1 (br_f g2 (br_f (by decide) (br_f (by decide) (br_f (by decide) (br_f (by decide) (br_t rfl (br_c (fun _ => h1 c (by omega) hc) (fun _ => h0))))))))
  · exact br_f g1 (br_f g2 (br_f (by decide) (br_f (by decide) (br_f (by decide) (br_f (by decide) (br_f (by decide) (br_t rfl (br_c (fun _ => h1 c (by omega) hc) (fun _ => h0)))))))))
  · exact br_f g1 (br_f g2 (br_f (by decide) (br_f (by decide) (br_f (by decide) (br_f (by decide) (br_f (by decide) (br_f (by decide) (br_t rfl (w _)))))))))
  · exact br_f g1 (br_f g2 (br_f (by decide) (br_f (by decide) (br_f (by decide) (br_f (by decide) (br_f (by decide) (br_f (by decide) (br_f (by decide) (br_t rfl ⟨n - c + 1, sx_span hn hc h0 h1 (n - c) c _ (by omega) (by omega) (by omega)⟩)))))))))
  · exact br_f g1 (br_f g2 (br_f (by decide) (br_f (by decide) (br_f (by decide) (br_f (by decide) (br_f (by decide) (br_f (by decide) (br_f (by decide) (br_f (by decide) (br_t rfl ⟨n - c + 1, sx_break hn hc h0 h1 (n - c) c _ (by omega) (by omega) (by omega)⟩))))))))))
  · exact br_f g1 (br_f g2 (br_f (by decide) (br_f (by decide) (br_f (by decide) (br_f (by decide) (br_f (by decide) (br_f (by decide) (br_f (by decide) (br_f (by decide) (br_f (by decide) (br_t rfl h0)))))))))))
  · exact br_f g1 (br_f g2 (br_f (by decide) (br_f (by decide) (br_f (by decide) (br_f (by decide) (br_f (by decide) (br_f (by decide) (br_f (by decide) (br_f (by decide) (br_f (by decide) (br_f (by decide) (br_t rfl (h1 c (by omega) hc))))))))))))) 
end
end
section
section
variable {xms xsl xdl xnc xsd xn xlr xls xle xst xnw xtc xtu xtn xcu xtd xtt xsr : Int32} {xno xsk xrt xsj xtx xtl xcr eN eC eD eT eH eR tE tN : Nat → Int32}
variable {post : St2 → Prop}
theorem sx_0arb {K lim i k c : Nat} (hK : K < lim) (hl : lim ≤ 250) (hi : i < 32) (h0 : xno (5 * i) = nI k) (k0 : k = 10)
    (h : post (xms, nI lim, xdl, xnc, xsd, xn, xlr, xls, xle, nI (K + 1), nI K, xtc, 1, nI i, nI c, xtd, xtt, xsr, xno, xsk, xrt, xsj, xtx, xtl, xcr, upd eN K (nI i), upd eC K (nI c), upd eD K xtd, upd eT K xtt, upd eH K xnw, upd eR K xtc, tE, tN)) : wpX_begin post (xms, nI lim, xdl, xnc, xsd, xn, xlr, xls, xle, nI K, xnw, xtc, 0, nI i, nI c, xtd, xtt, xsr, xno, xsk, xrt, xsj, xtx, xtl, xcr, eN, eC, eD, eT, eH, eR, tE, tN) :=
  br_t (nI_lt hK (by omega)) (nm_r (nI_1 K) ⟨vp_in_nI (by omega) (by omega), nm_r (sm_up (by omega)) ⟨vp_in_nI (by omega) (by omega), nm_r (sm_up (by omega)) ⟨vp_in_nI (by omega) (by omega), nm_r (sm_up (by omega)) ⟨vp_in_nI (by omega) (by omega), nm_r (sm_up (by omega)) ⟨vp_in_nI (by omega) (by omega), nm_r (sm_up (by omega)) ⟨vp_in_nI (by omega) (by omega), nm_r (sm_up (by omega)) ⟨sm_in5 3 hi (by omega), nm_r (sm_c5 3 hi (by omega) rfl) ⟨sm_in5 0 hi (by omega), nm_r (sm_c5 0 hi (by omega) h0) (br_f (sm_nlt 10 (by omega) (by omega)) (br_f (sm_ngt 18 (by omega) (by omega)) (br_t (sm_eqI (b := 10) (by omega)) (h))))⟩⟩⟩⟩⟩⟩⟩⟩)
theorem sx_0arbno {K lim i k c : Nat} (hK : K < lim) (hl : lim ≤ 250) (hi : i < 32) (h0 : xno (5 * i) = nI k) (k0 : k = 13)
    (h : post (xms, nI lim, xdl, xnc, xsd, xn, xlr, xls, xle, nI (K + 1), nI K, xtc, 1, nI i, nI c, xtd, xtt, xsr, xno, xsk, xrt, xsj, xtx, xtl, xcr, upd eN K (nI i), upd eC K (nI c), upd eD K xtd, upd eT K xtt, upd eH K xnw, upd eR K xtc, tE, tN)) : wpX_begin post (xms, nI lim, xdl, xnc, xsd, xn, xlr, xls, xle, nI K, xnw, xtc, 0, nI i, nI c, xtd, xtt, xsr, xno, xsk, xrt, xsj, xtx, xtl, xcr, eN, eC, eD, eT, eH, eR, tE, tN) :=
  br_t (nI_lt hK (by omega)) (nm_r (nI_1 K) ⟨vp_in_nI (by omega) (by omega), nm_r (sm_up (by omega)) ⟨vp_in_nI (by omega) (by omega), nm_r (sm_up (by omega)) ⟨vp_in_nI (by omega) (by omega), nm_r (sm_up (by omega)) ⟨vp_in_nI (by omega) (by omega), nm_r (sm_up (by omega)) ⟨vp_in_nI (by omega) (by omega), nm_r (sm_up (by omega)) ⟨vp_in_nI (by omega) (by omega), nm_r (sm_up (by omega)) ⟨sm_in5 3 hi (by omega), nm_r (sm_c5 3 hi (by omega) rfl) ⟨sm_in5 0 hi (by omega), nm_r (sm_c5 0 hi (by omega) h0) (br_f (sm_nlt 10 (by omega) (by omega)) (br_f (sm_ngt 18 (by omega) (by omega)) (br_f (sm_ne 10 (by omega) (by omega) (by omega)) (br_f (sm_ne 11 (by omega) (by omega) (by omega)) (br_f (sm_ne 12 (by omega) (by omega) (by omega)) (br_t (sm_eqI (b := 13) (by omega)) (h)))))))⟩⟩⟩⟩⟩⟩⟩⟩)
theorem sx_0alt {K lim i k c l : Nat} (hK : K < lim) (hl : lim ≤ 250) (hi : i < 32) (h0 : xno (5 * i) = nI k) (k0 : k = 18) (h3 : xno (5 * i + 3) = nI l)
    (h : post (xms, nI lim, xdl, xnc, xsd, xn, xlr, xls, xle, nI (K + 1), nI K, xtc, 0, nI l, nI c, xtd, xtt, xsr, xno, xsk, xrt, xsj, xtx, xtl, xcr, upd eN K (nI i), upd eC K (nI c), upd eD K xtd, upd eT K xtt, upd eH K xnw, upd eR K xtc, tE, tN)) : wpX_begin post (xms, nI lim, xdl, xnc, xsd, xn, xlr, xls, xle, nI K, xnw, xtc, 0, nI i, nI c, xtd, xtt, xsr, xno, xsk, xrt, xsj, xtx, xtl, xcr, eN, eC, eD, eT, eH, eR, tE, tN) :=
  br_t (nI_lt hK (by omega)) (nm_r (nI_1 K) ⟨vp_in_nI (by omega) (by omega), nm_r (sm_up (by omega)) ⟨vp_in_nI (by omega) (by omega), nm_r (sm_up (by omega)) ⟨vp_in_nI (by omega) (by omega), nm_r (sm_up (by omega)) ⟨vp_in_nI (by omega) (by omega), nm_r (sm_up (by omega)) ⟨vp_in_nI (by omega) (by omega), nm_r (sm_up (by omega)) ⟨vp_in_nI (by omega) (by omega), nm_r (sm_up (by omega)) ⟨sm_in5 3 hi (by omega), nm_r (sm_c5 3 hi (by omega) h3) ⟨sm_in5 0 hi (by omega), nm_r (sm_c5 0 hi (by omega) h0) (br_f (sm_nlt 10 (by omega) (by omega)) (br_f (sm_ngt 18 (by omega) (by omega)) (br_f (sm_ne 10 (by omega) (by omega) (by omega)) (br_f (sm_ne 11 (by omega) (by omega) (by omega)) (br_f (sm_ne 12 (by omega) (by omega) (by omega)) (br_f (sm_ne 13 (by omega) (by omega) (by omega)) (br_f (sm_ne 14 (by omega) (by omega) (by omega)) (br_f (sm_ne 15 (by omega) (by omega) (by omega)) (br_f (sm_ne 16 (by omega) (by omega) (by omega)) (br_f (sm_ne 17 (by omega) (by omega) (by omega)) (br_t (sm_eqI (b := 18) (by omega)) (h))))))))))))⟩⟩⟩⟩⟩⟩⟩⟩)
theorem sx_0four {K lim i k c l : Nat} (hK : K < lim) (hl : lim ≤ 250) (hi : i < 32) (h0 : xno (5 * i) = nI k) (k0 : k = 14 ∨ k = 15 ∨ k = 16 ∨ k = 17) (h3 : xno (5 * i + 3) = nI l)
    (h : post (xms, nI lim, xdl, xnc, xsd, xn, xlr, xls, xle, nI (K + 1), xnw, xtc, 0, nI l, nI c, xtd, nI K, xsr, xno, xsk, xrt, xsj, xtx, xtl, xcr, upd eN K (nI i), upd eC K (nI c), upd eD K xtd, upd eT K xtt, upd eH K xnw, upd eR K xtc, tE, tN)) : wpX_begin post (xms, nI lim, xdl, xnc, xsd, xn, xlr, xls, xle, nI K, xnw, xtc, 0, nI i, nI c, xtd, xtt, xsr, xno, xsk, xrt, xsj, xtx, xtl, xcr, eN, eC, eD, eT, eH, eR, tE, tN) := by
  rcases k0 with k0 | k0 | k0 | k0
  · exact br_t (nI_lt hK (by omega)) (nm_r (nI_1 K) ⟨vp_in_nI (by omega) (by omega), nm_r (sm_up (by omega)) ⟨vp_in_nI (by omega) (by omega), nm_r (sm_up (by omega)) ⟨vp_in_nI (by omega) (by omega), nm_r (sm_up (by omega)) ⟨vp_in_nI (by omega) (by omega), nm_r (sm_up (by omega)) ⟨vp_in_nI (by omega) (by omega), nm_r (sm_up (by omega)) ⟨vp_in_nI (by omega) (by omega), nm_r (sm_up (by omega)) ⟨sm_in5 3 hi (by omega), nm_r (sm_c5 3 hi (by omega) h3) ⟨sm_in5 0 hi (by omega), nm_r (sm_c5 0 hi (by omega) h0) (br_f (sm_nlt 10 (by omega) (by omega)) (br_f (sm_ngt 18 (by omega) (by omega)) (br_f (sm_ne 10 (by omega) (by omega) (by omega)) (br_f (sm_ne 11 (by omega) (by omega) (by omega)) (br_f (sm_ne 12 (by omega) (by omega) (by omega)) (br_f (sm_ne 13 (by omega) (by omega) (by omega)) (br_t (sm_eqI (b := 14) (by omega)) (h))))))))⟩⟩⟩⟩⟩⟩⟩⟩)
  · exact br_t (nI_lt hK (by omega)) (nm_r (nI_1 K) ⟨vp_in_nI (by omega) (by omega), nm_r (sm_up (by omega)) ⟨vp_in_nI (by omega) (by omega), nm_r (sm_up (by omega)) ⟨vp_in_nI (by omega) (by omega), nm_r (sm_up (by omega)) ⟨vp_in_nI (by omega) (by omega), nm_r (sm_up (by omega)) ⟨vp_in_nI (by omega) (by omega), nm_r (sm_up (by omega)) ⟨vp_in_nI (by omega) (by omega), nm_r (sm_up (by omega)) ⟨sm_in5 3 hi (by omega), nm_r (sm_c5 3 hi (by omega) h3) ⟨sm_in5 0 hi (by omega), nm_r (sm_c5 0 hi (by omega) h0) (br_f (sm_nlt 10 (by omega) (by omega)) (br_f (sm_ngt 18 (by omega) (by omega)) (br_f (sm_ne 10 (by omega) (by omega) (by omega)) (br_f (sm_ne 11 (by omega) (by omega) (by omega)) (br_f (sm_ne 12 (by omega) (by omega) (by omega)) (br_f (sm_ne 13 (by omega) (by omega) (by omega)) (br_f (sm_ne 14 (by omega) (by omega) (by omega)) (br_t (sm_eqI (b := 15) (by omega)) (h)))))))))⟩⟩⟩⟩⟩⟩⟩⟩)
  · exact br_t (nI_lt hK (by omega)) (nm_r (nI_1 K) ⟨vp_in_nI (by omega) (by omega), nm_r (sm_up (by omega)) ⟨vp_in_nI (by omega) (by omega), nm_r (sm_up (by omega)) ⟨vp_in_nI (by omega) (by omega), nm_r (sm_up (by omega)) ⟨vp_in_nI (by omega) (by omega), nm_r (sm_up (by omega)) ⟨vp_in_nI (by omega) (by omega), nm_r (sm_up (by omega)) ⟨vp_in_nI (by omega) (by omega), nm_r (sm_up (by omega)) ⟨sm_in5 3 hi (by omega), nm_r (sm_c5 3 hi (by omega) h3) ⟨sm_in5 0 hi (by omega), nm_r (sm_c5 0 hi (by omega) h0) (br_f (sm_nlt 10 (by omega) (by omega)) (br_f (sm_ngt 18 (by omega) (by omega)) (br_f (sm_ne 10 (by omega) (by omega) (by omega)) (br_f (sm_ne 11 (by omega) (by omega) (by omega)) (br_f (sm_ne 12 (by omega) (by omega) (by omega)) (br_f (sm_ne 13 (by omega) (by omega) (by omega)) (br_f (sm_ne 14 (by omega) (by omega) (by omega)) (br_f (sm_ne 15 (by omega) (by omega) (by omega)) (br_t (sm_eqI (b := 16) (by omega)) (h))))))))))⟩⟩⟩⟩⟩⟩⟩⟩)
  · exact br_t (nI_lt hK (by omega)) (nm_r (nI_1 K) ⟨vp_in_nI (by omega) (by omega), nm_r (sm_up (by omega)) ⟨vp_in_nI (by omega) (by omega), nm_r (sm_up (by omega)) ⟨vp_in_nI (by omega) (by omega), nm_r (sm_up (by omega)) ⟨vp_in_nI (by omega) (by omega), nm_r (sm_up (by omega)) ⟨vp_in_nI (by omega) (by omega), nm_r (sm_up (by omega)) ⟨vp_in_nI (by omega) (by omega), nm_r (sm_up (by omega)) ⟨sm_in5 3 hi (by omega), nm_r (sm_c5 3 hi (by omega) h3) ⟨sm_in5 0 hi (by omega), nm_r (sm_c5 0 hi (by omega) h0) (br_f (sm_nlt 10 (by omega) (by omega)) (br_f (sm_ngt 18 (by omega) (by omega)) (br_f (sm_ne 10 (by omega) (by omega) (by omega)) (br_f (sm_ne 11 (by omega) (by omega) (by omega)) (br_f (sm_ne 12 (by omega) (by omega) (by omega)) (br_f (sm_ne 13 (by omega) (by omega) (by omega)) (br_f (sm_ne 14 (by omega) (by omega) (by omega)) (br_f (sm_ne 15 (by omega) (by omega) (by omega)) (br_f (sm_ne 16 (by omega) (by omega) (by omega)) (br_t (sm_eqI (b := 17) (by omega)) (h)))))))))))⟩⟩⟩⟩⟩⟩⟩⟩)
theorem sx_0full {K lim : Nat} (hK : lim ≤ K) (hl : K ≤ 250) (h : post (xms, nI lim, xdl, xnc, xsd, xn, xlr, xls, xle, nI K, xnw, xtc, 0, xtn, xcu, xtd, xtt, 2, xno, xsk, xrt, xsj, xtx, xtl, xcr, eN, eC, eD, eT, eH, eR, tE, tN)) : wpX_begin post (xms, nI lim, xdl, xnc, xsd, xn, xlr, xls, xle, nI K, xnw, xtc, 0, xtn, xcu, xtd, xtt, xsr, xno, xsk, xrt, xsj, xtx, xtl, xcr, eN, eC, eD, eT, eH, eR, tE, tN) :=
  br_f (nI_nlt hK (by omega)) h
theorem sx_0def {K lim i k c a : Nat} (hK : K < lim) (hl : lim ≤ 250) (hi : i < 32) (h0 : xno (5 * i) = nI k) (k0 : k = 12) (ha : a < 4) (h1 : xno (5 * i + 1) = nI a)
    (hx : post (xms, nI lim, xdl, xnc, xsd, xn, xlr, xls, xle, nI (K + 1), xnw, xtc, 2, nI i, nI c, xtd, xtt, xsr, xno, xsk, xrt, xsj, xtx, xtl, xcr, upd eN K (nI i), upd eC K (nI c), upd eD K xtd, upd eT K xtt, upd eH K xnw, upd eR K xtc, tE, tN)) (h : ¬ xrt a = -1 → post (xms, nI lim, xdl, xnc, xsd, xn, xlr, xls, xle, nI (K + 1), xnw, xtc, 0, xrt a, nI c, xtd + 1, xtt, xsr, xno, xsk, xrt, xsj, xtx, xtl, xcr, upd eN K (nI i), upd eC K (nI c), upd eD K xtd, upd eT K xtt, upd eH K xnw, upd eR K xtc, tE, tN)) : wpX_begin post (xms, nI lim, xdl, xnc, xsd, xn, xlr, xls, xle, nI K, xnw, xtc, 0, nI i, nI c, xtd, xtt, xsr, xno, xsk, xrt, xsj, xtx, xtl, xcr, eN, eC, eD, eT, eH, eR, tE, tN) := by
  have e : xno (nI i * 5 + nI 1).toNatClampNeg = nI a := sm_c5 1 hi (by omega) h1
  have v4 : vp_in (xno (nI i * 5 + nI 1).toNatClampNeg) 4 := by rw [e]; exact vp_in_nI ha (by omega)
  have er : xrt (xno (nI i * 5 + nI 1).toNatClampNeg).toNatClampNeg = xrt a := by rw [e]; exact sm_cg (by omega) rfl
  exact br_t (nI_lt hK (by omega)) (nm_r (nI_1 K) ⟨vp_in_nI (by omega) (by omega), nm_r (sm_up (by omega)) ⟨vp_in_nI (by omega) (by omega), nm_r (sm_up (by omega)) ⟨vp_in_nI (by omega) (by omega), nm_r (sm_up (by omega)) ⟨vp_in_nI (by omega) (by omega), nm_r (sm_up (by omega)) ⟨vp_in_nI (by omega) (by omega), nm_r (sm_up (by omega)) ⟨vp_in_nI (by omega) (by omega), nm_r (sm_up (by omega)) ⟨sm_in5 3 hi (by omega), nm_r (sm_c5 3 hi (by omega) rfl) ⟨sm_in5 0 hi (by omega), nm_r (sm_c5 0 hi (by omega) h0) (br_f (sm_nlt 10 (by omega) (by omega)) (br_f (sm_ngt 18 (by omega) (by omega)) (br_f (sm_ne 10 (by omega) (by omega) (by omega)) (br_f (sm_ne 11 (by omega) (by omega) (by omega)) (br_t (sm_eqI (b := 12) (by omega)) (⟨sm_in5 1 hi (by omega), v4, nm_r er (br_c (fun _ => hx) (fun _ => br_c (fun _ => hx) (fun q => h q)))⟩))))))⟩⟩⟩⟩⟩⟩⟩⟩)
theorem sx_0leaf {K lim i k c a n : Nat} (hK : K < lim) (hl : lim ≤ 250) (hi : i < 32) (h0 : xno (5 * i) = nI k) (k0 : 1 ≤ k ∧ k ≤ 11 ∧ k ≠ 10) (h1 : xno (5 * i + 1) = nI a) (ha : a < 65536) (ha2 : k = 11 → a < 8) (hn : n ≤ 16) (hc : c ≤ n)
    (hx : post (xms, nI lim, xdl, xnc, xsd, nI n, xlr, xls, xle, nI (K + 1), xnw, xtc, 2, nI i, nI c, xtd, xtt, xsr, xno, xsk, xrt, xsj, xtx, xtl, xcr, upd eN K (nI i), upd eC K (nI c), upd eD K xtd, upd eT K xtt, upd eH K xnw, upd eR K xtc, tE, tN)) (h : k ≠ 11 → ∀ v, c ≤ v → v ≤ n → post (xms, nI lim, xdl, xnc, xsd, nI n, xlr, xls, xle, nI (K + 1), xnw, xtc, 1, nI i, nI v, xtd, xtt, xsr, xno, xsk, xrt, xsj, xtx, xtl, xcr, upd eN K (nI i), upd eC K (nI c), upd eD K xtd, upd eT K xtt, upd eH K xnw, upd eR K xtc, tE, tN))
    (hz : k = 11 → ∀ v, c ≤ v → v ≤ n → post (xms, nI lim, xdl, xnc, xsd, nI n, xlr, xls, xle, nI (K + 1), xnw, xtc, 1, nI i, nI v, xtd, xtt, xsr, xno, xsk, xrt, xsj, xtx, xtl, upd xcr a (nI v), upd eN K (nI i), upd eC K (nI c), upd eD K xtd, upd eT K xtt, upd eH K xnw, upd eR K xtc, tE, tN)) : wpX_begin post (xms, nI lim, xdl, xnc, xsd, nI n, xlr, xls, xle, nI K, xnw, xtc, 0, nI i, nI c, xtd, xtt, xsr, xno, xsk, xrt, xsj, xtx, xtl, xcr, eN, eC, eD, eT, eH, eR, tE, tN) := by
  have t : wX_begin_237 post xms (nI lim) xdl xnc xsd (nI n) xlr xls xle (nI (K + 1)) xnw xtc 0 (nI i) (nI c) xtd xtt xsr xno xsk xrt xsj xtx xtl xcr (upd eN K (nI i)) (upd eC K (nI c)) (upd eD K xtd) (upd eT K xtt) (upd eH K xnw) (upd eR K xtc) tE tN := by
    refine nm_e ⟨sm_in5 0 hi (by omega), nm_r (sm_c5 0 hi (by omega) h0) ⟨sm_in5 1 hi (by omega), nm_r (sm_c5 1 hi (by omega) h1) ⟨sm_in5 2 hi (by omega), ?_⟩⟩⟩
    refine sx_leafEnd hn hc ha k0.1 k0.2.1 (br_t rfl hx) (fun v v1 v2 => br_f (sm_m1ne (by omega)) ?_)
    by_cases q : k = 11
    · exact br_t (sm_eqI (b := 11) (by omega)) ⟨vp_in_nI (ha2 q) (by omega), nm_r (sm_up (by omega)) (hz q v v1 v2)⟩
    · exact br_f (sm_ne 11 (by omega) (by omega) (by omega)) (h q v v1 v2)
  by_cases q : k = 11
  · exact br_t (nI_lt hK (by omega)) (nm_r (nI_1 K) ⟨vp_in_nI (by omega) (by omega), nm_r (sm_up (by omega)) ⟨vp_in_nI (by omega) (by omega), nm_r (sm_up (by omega)) ⟨vp_in_nI (by omega) (by omega), nm_r (sm_up (by omega)) ⟨vp_in_nI (by omega) (by omega), nm_r (sm_up (by omega)) ⟨vp_in_nI (by omega) (by omega), nm_r (sm_up (by omega)) ⟨vp_in_nI (by omega) (by omega), nm_r (sm_up (by omega)) ⟨sm_in5 3 hi (by omega), nm_r (sm_c5 3 hi (by omega) rfl) ⟨sm_in5 0 hi (by omega), nm_r (sm_c5 0 hi (by omega) h0) (br_f (sm_nlt 10 (by omega) (by omega)) (br_f (sm_ngt 18 (by omega) (by omega)) (br_f (sm_ne 10 (by omega) (by omega) (by omega)) (br_t (sm_eqI (b := 11) (by omega)) (t)))))⟩⟩⟩⟩⟩⟩⟩⟩)
  · exact br_t (nI_lt hK (by omega)) (nm_r (nI_1 K) ⟨vp_in_nI (by omega) (by omega), nm_r (sm_up (by omega)) ⟨vp_in_nI (by omega) (by omega), nm_r (sm_up (by omega)) ⟨vp_in_nI (by omega) (by omega), nm_r (sm_up (by omega)) ⟨vp_in_nI (by omega) (by omega), nm_r (sm_up (by omega)) ⟨vp_in_nI (by omega) (by omega), nm_r (sm_up (by omega)) ⟨vp_in_nI (by omega) (by omega), nm_r (sm_up (by omega)) ⟨sm_in5 3 hi (by omega), nm_r (sm_c5 3 hi (by omega) rfl) ⟨sm_in5 0 hi (by omega), nm_r (sm_c5 0 hi (by omega) h0) (br_t (sm_lt 10 (by omega) (by omega)) t)⟩⟩⟩⟩⟩⟩⟩⟩)
theorem sx_1none (h : post (xms, xsl, xdl, xnc, xsd, xn, xlr, xls, xle, xst, xnw, xtc, 1, xtn, xcu, xtd, -1, 1, xno, xsk, xrt, xsj, xtx, xtl, xcr, eN, eC, eD, eT, eH, eR, tE, tN)) : wpX_produce post (xms, xsl, xdl, xnc, xsd, xn, xlr, xls, xle, xst, xnw, xtc, 1, xtn, xcu, xtd, -1, xsr, xno, xsk, xrt, xsj, xtx, xtl, xcr, eN, eC, eD, eT, eH, eR, tE, tN) := br_t rfl h
theorem sx_1cat {i j k c l : Nat} (hj : j < 250) (hN : eN j = nI i) (hi : i < 32) (h0 : xno (5 * i) = nI k) (hC : eC j = nI c) (k0 : k = 17) (h4 : xno (5 * i + 4) = nI l)
    (h : post (xms, xsl, xdl, xnc, xsd, xn, xlr, xls, xle, xst, xnw, xtc, 0, nI l, xcu, eD j, eT j, xsr, xno, xsk, xrt, xsj, xtx, xtl, xcr, eN, eC, eD, eT, eH, eR, tE, tN)) : wpX_produce post (xms, xsl, xdl, xnc, xsd, xn, xlr, xls, xle, xst, xnw, xtc, 1, xtn, xcu, xtd, nI j, xsr, xno, xsk, xrt, xsj, xtx, xtl, xcr, eN, eC, eD, eT, eH, eR, tE, tN) := by
  have e4 : xno (nI i * 5 + nI 4).toNatClampNeg = nI l := sm_c5 4 hi (by omega) h4
  have ed : eD (nI j).toNatClampNeg = eD j := sm_cg (by omega) rfl
  refine br_f (sm_m1ne (by omega)) ⟨vp_in_nI hj (by omega), nm_r (sm_cg (by omega) hN) ⟨vp_in_nI hj (by omega), nm_r (sm_cg (by omega) hC) ⟨vp_in_nI hj (by omega), nm_r (sm_cg (by omega) rfl) ⟨sm_in5 0 hi (by omega), nm_r (sm_c5 0 hi (by omega) h0) (br_f (sm_nlt 13 (by omega) (by omega)) (br_f (sm_ngt 17 (by omega) (by omega)) (br_f (sm_ne 13 (by omega) (by omega) (by omega)) (br_f (sm_ne 14 (by omega) (by omega) (by omega)) (br_f (sm_ne 15 (by omega) (by omega) (by omega)) (br_f (sm_ne 16 (by omega) (by omega) (by omega)) (br_t (sm_eqI (b := 17) (by omega)) (⟨sm_in5 4 hi (by omega), vp_in_nI hj (by omega), ?_⟩))))))))⟩⟩⟩⟩
  show wpX_planBegin _ _ (xno (nI i * 5 + nI 4).toNatClampNeg) _ _ _
  rw [e4, ed]
  exact h
theorem sx_1skip {i j k c : Nat} (hj : j < 250) (hN : eN j = nI i) (hi : i < 32) (h0 : xno (5 * i) = nI k) (hC : eC j = nI c) (k0 : k = 13) (e : xcu = nI c)
    (h : post (xms, xsl, xdl, xnc, xsd, xn, xlr, xls, xle, xst, xnw, xtc, 2, xtn, xcu, xtd, eT j, xsr, xno, xsk, xrt, xsj, xtx, xtl, xcr, eN, eC, eD, eT, eH, eR, tE, tN)) : wpX_produce post (xms, xsl, xdl, xnc, xsd, xn, xlr, xls, xle, xst, xnw, xtc, 1, xtn, xcu, xtd, nI j, xsr, xno, xsk, xrt, xsj, xtx, xtl, xcr, eN, eC, eD, eT, eH, eR, tE, tN) :=
  br_f (sm_m1ne (by omega)) ⟨vp_in_nI hj (by omega), nm_r (sm_cg (by omega) hN) ⟨vp_in_nI hj (by omega), nm_r (sm_cg (by omega) hC) ⟨vp_in_nI hj (by omega), nm_r (sm_cg (by omega) rfl) ⟨sm_in5 0 hi (by omega), nm_r (sm_c5 0 hi (by omega) h0) (br_f (sm_nlt 13 (by omega) (by omega)) (br_f (sm_ngt 17 (by omega) (by omega)) (br_t (sm_eqI (b := 13) (by omega)) (br_t e h))))⟩⟩⟩⟩
theorem sx_1arbno {i j k c : Nat} (hj : j < 250) (hN : eN j = nI i) (hi : i < 32) (h0 : xno (5 * i) = nI k) (hC : eC j = nI c) (k0 : k = 13) (e : ¬ xcu = nI c)
    (h : post (xms, xsl, xdl, xnc, xsd, xn, xlr, xls, xle, xst, xnw, xtc, 0, nI i, xcu, eD j, eT j, xsr, xno, xsk, xrt, xsj, xtx, xtl, xcr, eN, eC, eD, eT, eH, eR, tE, tN)) : wpX_produce post (xms, xsl, xdl, xnc, xsd, xn, xlr, xls, xle, xst, xnw, xtc, 1, xtn, xcu, xtd, nI j, xsr, xno, xsk, xrt, xsj, xtx, xtl, xcr, eN, eC, eD, eT, eH, eR, tE, tN) := by
  have ed : eD (nI j).toNatClampNeg = eD j := sm_cg (by omega) rfl
  refine br_f (sm_m1ne (by omega)) ⟨vp_in_nI hj (by omega), nm_r (sm_cg (by omega) hN) ⟨vp_in_nI hj (by omega), nm_r (sm_cg (by omega) hC) ⟨vp_in_nI hj (by omega), nm_r (sm_cg (by omega) rfl) ⟨sm_in5 0 hi (by omega), nm_r (sm_c5 0 hi (by omega) h0) (br_f (sm_nlt 13 (by omega) (by omega)) (br_f (sm_ngt 17 (by omega) (by omega)) (br_t (sm_eqI (b := 13) (by omega)) (br_f e ⟨vp_in_nI hj (by omega), ?_⟩))))⟩⟩⟩⟩
  rw [ed]
  exact h
theorem sx_1fence {i j k c : Nat} (hj : j < 250) (hN : eN j = nI i) (hi : i < 32) (h0 : xno (5 * i) = nI k) (hC : eC j = nI c) (k0 : k = 14)
    (h : post (xms, xsl, xdl, xnc, xsd, xn, xlr, xls, xle, xst, eH j, xtc, 1, xtn, xcu, xtd, eT j, xsr, xno, xsk, xrt, xsj, xtx, xtl, xcr, eN, eC, eD, eT, eH, eR, tE, tN)) : wpX_produce post (xms, xsl, xdl, xnc, xsd, xn, xlr, xls, xle, xst, xnw, xtc, 1, xtn, xcu, xtd, nI j, xsr, xno, xsk, xrt, xsj, xtx, xtl, xcr, eN, eC, eD, eT, eH, eR, tE, tN) :=
  br_f (sm_m1ne (by omega)) ⟨vp_in_nI hj (by omega), nm_r (sm_cg (by omega) hN) ⟨vp_in_nI hj (by omega), nm_r (sm_cg (by omega) hC) ⟨vp_in_nI hj (by omega), nm_r (sm_cg (by omega) rfl) ⟨sm_in5 0 hi (by omega), nm_r (sm_c5 0 hi (by omega) h0) (br_f (sm_nlt 13 (by omega) (by omega)) (br_f (sm_ngt 17 (by omega) (by omega)) (br_f (sm_ne 13 (by omega) (by omega) (by omega)) (br_t (sm_eqI (b := 14) (by omega)) (⟨vp_in_nI hj (by omega), nm_r (sm_cg (by omega) rfl) h⟩)))))⟩⟩⟩⟩
theorem sx_1imm {i j k c a v : Nat} (hj : j < 250) (hN : eN j = nI i) (hi : i < 32) (h0 : xno (5 * i) = nI k) (hC : eC j = nI c) (k0 : k = 15) (ha : a ≤ 7) (h1 : xno (5 * i + 1) = nI a) (cv : c ≤ v) (v16 : v ≤ 16)
    (h : post (xms, xsl, xdl, xnc, xsd, xn, xlr, xls, xle, xst, xnw, xtc, 1, xtn, nI v, xtd, eT j, xsr, xno, xsk, xrt, xsj, sm_put xsj xtx a c (v - c), upd xtl a (nI (v - c)), xcr, eN, eC, eD, eT, eH, eR, tE, tN)) : wpX_produce post (xms, xsl, xdl, xnc, xsd, xn, xlr, xls, xle, xst, xnw, xtc, 1, xtn, nI v, xtd, nI j, xsr, xno, xsk, xrt, xsj, xtx, xtl, xcr, eN, eC, eD, eT, eH, eR, tE, tN) := by
  have e1 : xno (nI i * 5 + nI 1).toNatClampNeg = nI a := sm_c5 1 hi (by omega) h1
  refine br_f (sm_m1ne (by omega)) ⟨vp_in_nI hj (by omega), nm_r (sm_cg (by omega) hN) ⟨vp_in_nI hj (by omega), nm_r (sm_cg (by omega) hC) ⟨vp_in_nI hj (by omega), nm_r (sm_cg (by omega) rfl) ⟨sm_in5 0 hi (by omega), nm_r (sm_c5 0 hi (by omega) h0) (br_f (sm_nlt 13 (by omega) (by omega)) (br_f (sm_ngt 17 (by omega) (by omega)) (br_f (sm_ne 13 (by omega) (by omega) (by omega)) (br_f (sm_ne 14 (by omega) (by omega) (by omega)) (br_t (sm_eqI (b := 15) (by omega)) (⟨sm_in5 1 hi (by omega), ?_⟩))))))⟩⟩⟩⟩
  show wpX_setText _ _ (xno (nI i * 5 + nI 1).toNatClampNeg) _ _
  rw [e1]
  exact sx_setText ha cv v16 h
theorem sx_1cond {i j k c t : Nat} (hj : j < 250) (hN : eN j = nI i) (hi : i < 32) (h0 : xno (5 * i) = nI k) (hC : eC j = nI c) (k0 : k = 16) (ht : t < 250)
    (h : post (xms, xsl, xdl, xnc, xsd, xn, xlr, xls, xle, xst, xnw, nI (t + 1), 1, xtn, xcu, xtd, eT j, xsr, xno, xsk, xrt, xsj, xtx, xtl, xcr, eN, eC, eD, eT, eH, eR, upd tE t (nI j), upd tN t xcu)) : wpX_produce post (xms, xsl, xdl, xnc, xsd, xn, xlr, xls, xle, xst, xnw, nI t, 1, xtn, xcu, xtd, nI j, xsr, xno, xsk, xrt, xsj, xtx, xtl, xcr, eN, eC, eD, eT, eH, eR, tE, tN) :=
  br_f (sm_m1ne (by omega)) ⟨vp_in_nI hj (by omega), nm_r (sm_cg (by omega) hN) ⟨vp_in_nI hj (by omega), nm_r (sm_cg (by omega) hC) ⟨vp_in_nI hj (by omega), nm_r (sm_cg (by omega) rfl) ⟨sm_in5 0 hi (by omega), nm_r (sm_c5 0 hi (by omega) h0) (br_f (sm_nlt 13 (by omega) (by omega)) (br_f (sm_ngt 17 (by omega) (by omega)) (br_f (sm_ne 13 (by omega) (by omega) (by omega)) (br_f (sm_ne 14 (by omega) (by omega) (by omega)) (br_f (sm_ne 15 (by omega) (by omega) (by omega)) (br_t (sm_eqI (b := 16) (by omega)) (br_f (nI_ge (b := 250) (by omega) (by omega)) ⟨vp_in_nI ht (by omega), nm_r (sm_up (by omega)) ⟨vp_in_nI ht (by omega), nm_r (sm_up (by omega)) (nm_r (nI_1 t) h)⟩⟩)))))))⟩⟩⟩⟩
theorem sx_1full {i j k c t : Nat} (hj : j < 250) (hN : eN j = nI i) (hi : i < 32) (h0 : xno (5 * i) = nI k) (hC : eC j = nI c) (k0 : k = 16) (ht : 250 ≤ t) (ht2 : t < 1000)
    (h : post (xms, xsl, xdl, xnc, xsd, xn, xlr, xls, xle, xst, xnw, nI t, 1, xtn, xcu, xtd, eT j, xsr, xno, xsk, xrt, xsj, xtx, xtl, xcr, eN, eC, eD, eT, eH, eR, tE, tN)) : wpX_produce post (xms, xsl, xdl, xnc, xsd, xn, xlr, xls, xle, xst, xnw, nI t, 1, xtn, xcu, xtd, nI j, xsr, xno, xsk, xrt, xsj, xtx, xtl, xcr, eN, eC, eD, eT, eH, eR, tE, tN) :=
  br_f (sm_m1ne (by omega)) ⟨vp_in_nI hj (by omega), nm_r (sm_cg (by omega) hN) ⟨vp_in_nI hj (by omega), nm_r (sm_cg (by omega) hC) ⟨vp_in_nI hj (by omega), nm_r (sm_cg (by omega) rfl) ⟨sm_in5 0 hi (by omega), nm_r (sm_c5 0 hi (by omega) h0) (br_f (sm_nlt 13 (by omega) (by omega)) (br_f (sm_ngt 17 (by omega) (by omega)) (br_f (sm_ne 13 (by omega) (by omega) (by omega)) (br_f (sm_ne 14 (by omega) (by omega) (by omega)) (br_f (sm_ne 15 (by omega) (by omega) (by omega)) (br_t (sm_eqI (b := 16) (by omega)) (br_t (nI_le (a := 250) ht (by omega)) h)))))))⟩⟩⟩⟩
theorem sx_2none (h : post (xms, xsl, xdl, xnc, xsd, xn, xlr, xls, xle, xst, -1, xtc, xtu, xtn, xcu, xtd, xtt, 0, xno, xsk, xrt, xsj, xtx, xtl, xcr, eN, eC, eD, eT, eH, eR, tE, tN)) : wpX_backtrack post (xms, xsl, xdl, xnc, xsd, xn, xlr, xls, xle, xst, -1, xtc, xtu, xtn, xcu, xtd, xtt, xsr, xno, xsk, xrt, xsj, xtx, xtl, xcr, eN, eC, eD, eT, eH, eR, tE, tN) := br_t rfl h
theorem sx_2arbno {i j k c l : Nat} (hj : j < 250) (hN : eN j = nI i) (hi : i < 32) (h0 : xno (5 * i) = nI k) (hC : eC j = nI c) (k0 : k = 13) (h3 : xno (5 * i + 3) = nI l)
    (h : post (xms, xsl, xdl, xnc, xsd, xn, xlr, xls, xle, xst, eH j, eR j, 0, nI l, nI c, eD j, nI j, xsr, xno, xsk, xrt, xsj, xtx, xtl, xcr, eN, eC, eD, eT, eH, eR, tE, tN)) : wpX_backtrack post (xms, xsl, xdl, xnc, xsd, xn, xlr, xls, xle, xst, nI j, xtc, xtu, xtn, xcu, xtd, xtt, xsr, xno, xsk, xrt, xsj, xtx, xtl, xcr, eN, eC, eD, eT, eH, eR, tE, tN) := by
  have e3 : xno (nI i * 5 + nI 3).toNatClampNeg = nI l := sm_c5 3 hi (by omega) h3
  have ed : eD (nI j).toNatClampNeg = eD j := sm_cg (by omega) rfl
  refine br_f (sm_m1ne (by omega)) ⟨vp_in_nI hj (by omega), nm_r (congrArg (· * 5) (sm_cg (f := eN) (by omega) hN)) ⟨vp_in_nI hj (by omega), nm_r (sm_cg (by omega) hC) ⟨vp_in_nI hj (by omega), nm_r (sm_cg (by omega) rfl) ⟨vp_in_nI hj (by omega), nm_r (sm_cg (by omega) rfl) ⟨sm_in5 0 hi (by omega), nm_r (sm_c5 0 hi (by omega) h0) (br_t (sm_eqI (b := 13) (by omega)) ⟨sm_in5 3 hi (by omega), vp_in_nI hj (by omega), ?_⟩)⟩⟩⟩⟩⟩
  show wpX_planBegin _ _ (xno (nI i * 5 + nI 3).toNatClampNeg) _ _ _
  rw [e3, ed]
  exact h
theorem sx_2alt {i j k c l : Nat} (hj : j < 250) (hN : eN j = nI i) (hi : i < 32) (h0 : xno (5 * i) = nI k) (hC : eC j = nI c) (k0 : k = 18) (h4 : xno (5 * i + 4) = nI l)
    (h : post (xms, xsl, xdl, xnc, xsd, xn, xlr, xls, xle, xst, eH j, eR j, 0, nI l, nI c, eD j, eT j, xsr, xno, xsk, xrt, xsj, xtx, xtl, xcr, eN, eC, eD, eT, eH, eR, tE, tN)) : wpX_backtrack post (xms, xsl, xdl, xnc, xsd, xn, xlr, xls, xle, xst, nI j, xtc, xtu, xtn, xcu, xtd, xtt, xsr, xno, xsk, xrt, xsj, xtx, xtl, xcr, eN, eC, eD, eT, eH, eR, tE, tN) := by
  have e4 : xno (nI i * 5 + nI 4).toNatClampNeg = nI l := sm_c5 4 hi (by omega) h4
  have ed : eD (nI j).toNatClampNeg = eD j := sm_cg (by omega) rfl
  have et : eT (nI j).toNatClampNeg = eT j := sm_cg (by omega) rfl
  refine br_f (sm_m1ne (by omega)) ⟨vp_in_nI hj (by omega), nm_r (congrArg (· * 5) (sm_cg (f := eN) (by omega) hN)) ⟨vp_in_nI hj (by omega), nm_r (sm_cg (by omega) hC) ⟨vp_in_nI hj (by omega), nm_r (sm_cg (by omega) rfl) ⟨vp_in_nI hj (by omega), nm_r (sm_cg (by omega) rfl) ⟨sm_in5 0 hi (by omega), nm_r (sm_c5 0 hi (by omega) h0) (br_f (sm_ne 13 (by omega) (by omega) (by omega)) (br_t (sm_eqI (b := 18) (by omega)) ⟨sm_in5 4 hi (by omega), vp_in_nI hj (by omega), vp_in_nI hj (by omega), ?_⟩))⟩⟩⟩⟩⟩
  show wpX_planBegin _ _ (xno (nI i * 5 + nI 4).toNatClampNeg) _ _ _
  rw [e4, ed, et]
  exact h
theorem sx_2arby {i j k c n : Nat} (hj : j < 250) (hN : eN j = nI i) (hi : i < 32) (h0 : xno (5 * i) = nI k) (hC : eC j = nI c) (k0 : k = 10) (hc : c < n) (hn : n < 1000)
    (h : post (xms, xsl, xdl, xnc, xsd, nI n, xlr, xls, xle, xst, nI j, eR j, 1, xtn, nI (c + 1), xtd, eT j, xsr, xno, xsk, xrt, xsj, xtx, xtl, xcr, eN, upd eC j (nI (c + 1)), eD, eT, eH, eR, tE, tN)) : wpX_backtrack post (xms, xsl, xdl, xnc, xsd, nI n, xlr, xls, xle, xst, nI j, xtc, xtu, xtn, xcu, xtd, xtt, xsr, xno, xsk, xrt, xsj, xtx, xtl, xcr, eN, eC, eD, eT, eH, eR, tE, tN) := by
  have ec : eC (nI j).toNatClampNeg = nI c := sm_cg (by omega) hC
  have et : eT (nI j).toNatClampNeg = eT j := sm_cg (by omega) rfl
  have l : eC (nI j).toNatClampNeg < nI n := by rw [ec]; exact nI_lt hc (by omega)
  have e2 : upd eC (nI j).toNatClampNeg (eC (nI j).toNatClampNeg + 1) = upd eC j (nI (c + 1)) := by rw [ec, nI_1, sm_up (by omega)]
  have e3 : upd eC j (nI (c + 1)) (nI j).toNatClampNeg = nI (c + 1) := sm_cg (by omega) pk_us
  refine br_f (sm_m1ne (by omega)) ⟨vp_in_nI hj (by omega), nm_r (congrArg (· * 5) (sm_cg (f := eN) (by omega) hN)) ⟨vp_in_nI hj (by omega), nm_r (sm_cg (by omega) hC) ⟨vp_in_nI hj (by omega), nm_r (sm_cg (by omega) rfl) ⟨vp_in_nI hj (by omega), nm_r (sm_cg (by omega) rfl) ⟨sm_in5 0 hi (by omega), nm_r (sm_c5 0 hi (by omega) h0) (br_f (sm_ne 13 (by omega) (by omega) (by omega)) (br_f (sm_ne 18 (by omega) (by omega) (by omega)) ⟨vp_in_nI hj (by omega), br_t l ⟨vp_in_nI hj (by omega), vp_in_nI hj (by omega), nm_r e2 ⟨vp_in_nI hj (by omega), vp_in_nI hj (by omega), ?_⟩⟩⟩))⟩⟩⟩⟩⟩
  rw [e3, et]
  exact h
theorem sx_2arbx {i j k c n : Nat} (hj : j < 250) (hN : eN j = nI i) (hi : i < 32) (h0 : xno (5 * i) = nI k) (hC : eC j = nI c) (k0 : k = 10) (hc : n ≤ c) (hc2 : c < 1000)
    (h : post (xms, xsl, xdl, xnc, xsd, nI n, xlr, xls, xle, xst, eH j, eR j, 2, xtn, xcu, xtd, xtt, xsr, xno, xsk, xrt, xsj, xtx, xtl, xcr, eN, eC, eD, eT, eH, eR, tE, tN)) : wpX_backtrack post (xms, xsl, xdl, xnc, xsd, nI n, xlr, xls, xle, xst, nI j, xtc, xtu, xtn, xcu, xtd, xtt, xsr, xno, xsk, xrt, xsj, xtx, xtl, xcr, eN, eC, eD, eT, eH, eR, tE, tN) := by
  have ec : eC (nI j).toNatClampNeg = nI c := sm_cg (by omega) hC
  have l : ¬ eC (nI j).toNatClampNeg < nI n := by rw [ec]; exact nI_nlt hc (by omega)
  exact br_f (sm_m1ne (by omega)) ⟨vp_in_nI hj (by omega), nm_r (congrArg (· * 5) (sm_cg (f := eN) (by omega) hN)) ⟨vp_in_nI hj (by omega), nm_r (sm_cg (by omega) hC) ⟨vp_in_nI hj (by omega), nm_r (sm_cg (by omega) rfl) ⟨vp_in_nI hj (by omega), nm_r (sm_cg (by omega) rfl) ⟨sm_in5 0 hi (by omega), nm_r (sm_c5 0 hi (by omega) h0) (br_f (sm_ne 13 (by omega) (by omega) (by omega)) (br_f (sm_ne 18 (by omega) (by omega) (by omega)) ⟨vp_in_nI hj (by omega), br_f l h⟩))⟩⟩⟩⟩⟩
end
end
section
/-- what a node holds -/
def sp_nd (nc : Nat) (xno : Nat → Int32) (i : Nat) : Prop :=
  ∃ k a, 1 ≤ k ∧ k ≤ 18 ∧ a < 65536 ∧ xno (5 * i) = nI k ∧ xno (5 * i + 1) = nI a ∧ (k = 12 → a ≤ 3) ∧ (k = 11 ∨ k = 15 ∨ k = 16 → a ≤ 7) ∧
    (13 ≤ k → ∃ l, l < nc ∧ xno (5 * i + 3) = nI l) ∧ (17 ≤ k → ∃ l, l < nc ∧ xno (5 * i + 4) = nI l)
def sp_ch (g : Nat → Int32) (m : Nat) : Prop := ∀ i, i < m → ∃ q, q < 65536 ∧ g i = nI q
/-- who takes an outcome at c: none, or an element of a kind that takes, begun at c or before -/
def sp_tk (nc K c : Nat) (xno eN eC : Nat → Int32) (e : Int32) : Prop :=
  e = -1 ∨ ∃ j i k a, j < K ∧ e = nI j ∧ eN j = nI i ∧ i < nc ∧ xno (5 * i) = nI k ∧ 13 ≤ k ∧ k ≤ 17 ∧ eC j = nI a ∧ a ≤ c
/-- a choice: none, or an element of a kind that may be asked again -/
def sp_co (nc K : Nat) (xno eN : Nat → Int32) (e : Int32) : Prop :=
  e = -1 ∨ ∃ j i k, j < K ∧ e = nI j ∧ eN j = nI i ∧ i < nc ∧ xno (5 * i) = nI k ∧ (k = 10 ∨ k = 13 ∨ k = 18)
def sp_el (nc n t K H : Nat) (xno eN eC eT eH eR : Nat → Int32) : Prop :=
  ∀ j, j < K → ∃ i c r, eN j = nI i ∧ i < nc ∧ eC j = nI c ∧ t ≤ c ∧ c ≤ n ∧ sp_tk nc K c xno eN eC (eT j) ∧ sp_co nc K xno eN (eH j) ∧ eR j = nI r ∧ r ≤ H
def sp_tr (nc n K H : Nat) (xno eN eC tE tN : Nat → Int32) : Prop :=
  ∀ q, q < H → ∃ j i a b, j < K ∧ tE q = nI j ∧ eN j = nI i ∧ i < nc ∧ xno (5 * i) = nI 16 ∧ eC j = nI a ∧ tN q = nI b ∧ a ≤ b ∧ b ≤ n
/-- a variable's text is as it was, or a node names it and it is a part of the subject -/
def sp_row (cd : Prop) (nc n : Nat) (xno xsj tx0 tl0 xtx xtl : Nat → Int32) (w : Nat) : Prop :=
  (xtl w = tl0 w ∧ ∀ i, i < 16 → xtx (w * 16 + i) = tx0 (w * 16 + i)) ∨
  ((∃ i, i < nc ∧ (xno (5 * i) = nI 15 ∨ (cd ∧ xno (5 * i) = nI 16)) ∧ xno (5 * i + 1) = nI w) ∧ ∃ x l, x + l ≤ n ∧ xtl w = nI l ∧ ∀ j, j < l → xtx (w * 16 + j) = xsj (x + j))
def sp_cu (nc n : Nat) (xno cr0 xcr : Nat → Int32) (w : Nat) : Prop :=
  xcr w = cr0 w ∨ ((∃ i, i < nc ∧ xno (5 * i) = nI 11 ∧ xno (5 * i + 1) = nI w) ∧ ∃ c, c ≤ n ∧ xcr w = nI c)
def sp_V (cd : Prop) (nc n : Nat) (xno xsj tx0 tl0 cr0 xtx xtl xcr : Nat → Int32) : Prop :=
  sp_ch xtx 128 ∧ (∀ w, w < 8 → ∃ l, l ≤ 16 ∧ xtl w = nI l) ∧ (∀ w, w < 8 → sp_row cd nc n xno xsj tx0 tl0 xtx xtl w) ∧ (∀ w, w < 8 → sp_cu nc n xno cr0 xcr w)
theorem sp_V_cd {cd : Prop} {nc n : Nat} {xno xsj tx0 tl0 cr0 xtx xtl xcr : Nat → Int32} (h : sp_V False nc n xno xsj tx0 tl0 cr0 xtx xtl xcr) : sp_V cd nc n xno xsj tx0 tl0 cr0 xtx xtl xcr := by
  refine ⟨h.1, h.2.1, fun w hw => ?_, h.2.2.2⟩
  rcases h.2.2.1 w hw with z | ⟨⟨i, hi, z, y⟩, x⟩
  · exact Or.inl z
  · rcases z with z | z
    · exact Or.inr ⟨⟨i, hi, Or.inl z, y⟩, x⟩
    · exact absurd z.1 id
/-- a text is written -/
theorem sp_V_put {cd : Prop} {nc n v a b i : Nat} {xno xsj tx0 tl0 cr0 xtx xtl xcr : Nat → Int32} (h : sp_V cd nc n xno xsj tx0 tl0 cr0 xtx xtl xcr) (hs : sp_ch xsj 16) (hv : v ≤ 7) (hab : a ≤ b) (hb : b ≤ n) (hn : n ≤ 16)
    (hi : i < nc) (hk : xno (5 * i) = nI 15 ∨ (cd ∧ xno (5 * i) = nI 16)) (ha : xno (5 * i + 1) = nI v) :
    sp_V cd nc n xno xsj tx0 tl0 cr0 (sm_put xsj xtx v a (b - a)) (upd xtl v (nI (b - a))) xcr := by
  obtain ⟨h1, h2, h3, h4⟩ := h
  refine ⟨?_, ?_, ?_, h4⟩
  · intro x hx
    by_cases q : v * 16 ≤ x ∧ x < v * 16 + (b - a)
    · obtain ⟨j, rfl⟩ : ∃ j, x = v * 16 + j := ⟨x - v * 16, by omega⟩
      rw [sm_put_i hs _ _ (by omega) (by omega)]
      exact hs _ (by omega)
    · rw [sm_put_o _ _ (by omega)]
      exact h1 x hx
  · intro w hw
    by_cases q : w = v
    · exact ⟨b - a, by omega, by rw [q, pk_us]⟩
    · rw [pk_un q]; exact h2 w hw
  · intro w hw
    by_cases q : w = v
    · subst q
      exact Or.inr ⟨⟨i, hi, hk, ha⟩, a, b - a, by omega, pk_us, fun j hj => sm_put_i hs _ _ hj (by omega)⟩
    · have e : ∀ j, j < 16 → sm_put xsj xtx v a (b - a) (w * 16 + j) = xtx (w * 16 + j) := fun j hj => sm_put_o _ _ (by omega)
      rcases h3 w hw with z | ⟨z, x, l, y1, y2, y3⟩
      · exact Or.inl ⟨by rw [pk_un q]; exact z.1, fun j hj => by rw [e j hj]; exact z.2 j hj⟩
      · refine Or.inr ⟨z, x, l, y1, by rw [pk_un q]; exact y2, fun j hj => ?_⟩
        rw [e j (by omega)]
        exact y3 j hj
theorem sp_V_cur {cd : Prop} {nc n v c i : Nat} {xno xsj tx0 tl0 cr0 xtx xtl xcr : Nat → Int32} (h : sp_V cd nc n xno xsj tx0 tl0 cr0 xtx xtl xcr)
    (hi : i < nc) (hk : xno (5 * i) = nI 11) (ha : xno (5 * i + 1) = nI v) (hc : c ≤ n) :
    sp_V cd nc n xno xsj tx0 tl0 cr0 xtx xtl (upd xcr v (nI c)) := by
  refine ⟨h.1, h.2.1, h.2.2.1, fun w hw => ?_⟩
  by_cases q : w = v
  · subst q
    exact Or.inr ⟨⟨i, hi, hk, ha⟩, c, hc, pk_us⟩
  · unfold sp_cu
    rw [pk_un q]
    exact h.2.2.2 w hw
/-- the invariant of a start -/
def sp_I (nc n t : Nat) (xno xsj tx0 tl0 cr0 : Nat → Int32) (xst xnw xtc xtn xcu xtt : Int32) (xtx xtl xcr eN eC eT eH eR tE tN : Nat → Int32) : Prop :=
  ∃ K H c, xst = nI K ∧ K ≤ 250 ∧ H ≤ 250 ∧ sp_el nc n t K H xno eN eC eT eH eR ∧ sp_tr nc n K H xno eN eC tE tN ∧ sp_co nc K xno eN xnw ∧ (∃ q, q ≤ H ∧ xtc = nI q) ∧
    xcu = nI c ∧ t ≤ c ∧ c ≤ n ∧ sp_tk nc K c xno eN eC xtt ∧ (∃ r, r < nc ∧ xtn = nI r) ∧ sp_V False nc n xno xsj tx0 tl0 cr0 xtx xtl xcr
theorem sp_tk_up {nc K c c' : Nat} {xno eN eC : Nat → Int32} {e : Int32} (h : sp_tk nc K c xno eN eC e) (hc : c ≤ c') : sp_tk nc K c' xno eN eC e := by
  rcases h with z | ⟨j, i, k, a, h1, h2, h3, h4, h5, h6, h7, h8, h9⟩
  · exact Or.inl z
  · exact Or.inr ⟨j, i, k, a, h1, h2, h3, h4, h5, h6, h7, h8, by omega⟩
theorem sp_tk_n {nc K c : Nat} {xno eN eC : Nat → Int32} {e x y : Int32} (h : sp_tk nc K c xno eN eC e) : sp_tk nc (K + 1) c xno (upd eN K x) (upd eC K y) e := by
  rcases h with z | ⟨j, i, k, a, h1, h2, h3, h4, h5, h6, h7, h8, h9⟩
  · exact Or.inl z
  · exact Or.inr ⟨j, i, k, a, by omega, h2, by rw [pk_un (by omega)]; exact h3, h4, h5, h6, h7, by rw [pk_un (by omega)]; exact h8, h9⟩
theorem sp_co_n {nc K : Nat} {xno eN : Nat → Int32} {e x : Int32} (h : sp_co nc K xno eN e) : sp_co nc (K + 1) xno (upd eN K x) e := by
  rcases h with z | ⟨j, i, k, h1, h2, h3, h4, h5, h6⟩
  · exact Or.inl z
  · exact Or.inr ⟨j, i, k, by omega, h2, by rw [pk_un (by omega)]; exact h3, h4, h5, h6⟩
theorem sp_tr_n {nc n K H : Nat} {xno eN eC tE tN : Nat → Int32} {x y : Int32} (h : sp_tr nc n K H xno eN eC tE tN) : sp_tr nc n (K + 1) H xno (upd eN K x) (upd eC K y) tE tN := by
  intro q hq
  obtain ⟨j, i, a, b, h1, h2, h3, h4, h5, h6, h7, h8, h9⟩ := h q hq
  exact ⟨j, i, a, b, by omega, h2, by rw [pk_un (by omega)]; exact h3, h4, h5, by rw [pk_un (by omega)]; exact h6, h7, h8, h9⟩
theorem sp_el_n {nc n t K H i c q : Nat} {xno eN eC eT eH eR : Nat → Int32} {xt xh : Int32} (h : sp_el nc n t K H xno eN eC eT eH eR) (hi : i < nc) (tc : t ≤ c) (cn : c ≤ n) (ht : sp_tk nc K c xno eN eC xt) (hh : sp_co nc K xno eN xh) (hq : q ≤ H) :
    sp_el nc n t (K + 1) H xno (upd eN K (nI i)) (upd eC K (nI c)) (upd eT K xt) (upd eH K xh) (upd eR K (nI q)) := by
  intro j hj
  by_cases e : j = K
  · subst e
    exact ⟨i, c, q, pk_us, hi, pk_us, tc, cn, by rw [pk_us]; exact sp_tk_n ht, by rw [pk_us]; exact sp_co_n hh, pk_us, hq⟩
  · obtain ⟨i', c', r', h1, h2, h3, h4, h5, h6, h7, h8, h9⟩ := h j (by omega)
    exact ⟨i', c', r', by rw [pk_un e]; exact h1, h2, by rw [pk_un e]; exact h3, h4, h5, by rw [pk_un e]; exact sp_tk_n h6, by rw [pk_un e]; exact sp_co_n h7, by rw [pk_un e]; exact h8, h9⟩
/-- an ARB's cursor moves on -/
theorem sp_ne {j j0 i i0 k k0 : Nat} {xno eN : Nat → Int32} (e1 : eN j = nI i) (e0 : eN j0 = nI i0) (hi : i < 1000) (hi0 : i0 < 1000) (x1 : xno (5 * i) = nI k) (x0 : xno (5 * i0) = nI k0) (hk : k < 1000) (hk0 : k0 < 1000) (d : k ≠ k0) : j ≠ j0 := by
  intro z
  subst z
  rw [e1, nI_eq (by omega) (by omega)] at e0
  subst e0
  rw [x1, nI_eq (by omega) (by omega)] at x0
  exact d x0
theorem sp_tk_a {nc K c j0 i0 : Nat} {xno eN eC : Nat → Int32} {e y : Int32} (h32 : nc ≤ 32) (h : sp_tk nc K c xno eN eC e) (e0 : eN j0 = nI i0) (hi0 : i0 < nc) (x0 : xno (5 * i0) = nI 10) : sp_tk nc K c xno eN (upd eC j0 y) e := by
  rcases h with z | ⟨j, i, k, a, h1, h2, h3, h4, h5, h6, h7, h8, h9⟩
  · exact Or.inl z
  · refine Or.inr ⟨j, i, k, a, h1, h2, h3, h4, h5, h6, h7, ?_, h9⟩
    rw [pk_un (sp_ne h3 e0 (by omega) (by omega) h5 x0 (by omega) (by omega) (by omega))]
    exact h8
theorem sp_tr_a {nc n K H j0 i0 : Nat} {xno eN eC tE tN : Nat → Int32} {y : Int32} (h32 : nc ≤ 32) (h : sp_tr nc n K H xno eN eC tE tN) (e0 : eN j0 = nI i0) (hi0 : i0 < nc) (x0 : xno (5 * i0) = nI 10) : sp_tr nc n K H xno eN (upd eC j0 y) tE tN := by
  intro q hq
  obtain ⟨j, i, a, b, h1, h2, h3, h4, h5, h6, h7, h8, h9⟩ := h q hq
  refine ⟨j, i, a, b, h1, h2, h3, h4, h5, ?_, h7, h8, h9⟩
  rw [pk_un (sp_ne h3 e0 (by omega) (by omega) h5 x0 (by omega) (by omega) (by omega))]
  exact h6
theorem sp_el_a {nc n t K H j0 i0 c0 : Nat} {xno eN eC eT eH eR : Nat → Int32} (h32 : nc ≤ 32) (h : sp_el nc n t K H xno eN eC eT eH eR) (e0 : eN j0 = nI i0) (hi0 : i0 < nc) (x0 : xno (5 * i0) = nI 10) (ec : eC j0 = nI c0) (c16 : n ≤ 16) (h0 : c0 < n) :
    sp_el nc n t K H xno eN (upd eC j0 (nI (c0 + 1))) eT eH eR := by
  intro j hj
  obtain ⟨i, c, r, h1, h2, h3, h4, h5, h6, h7, h8, h9⟩ := h j hj
  by_cases q : j = j0
  · subst q
    have e : c = c0 := (nI_eq (by omega) (by omega)).mp (h3.symm.trans ec)
    subst e
    exact ⟨i, c + 1, r, h1, h2, pk_us, by omega, by omega, sp_tk_a h32 (sp_tk_up h6 (by omega)) e0 hi0 x0, h7, h8, h9⟩
  · exact ⟨i, c, r, h1, h2, by rw [pk_un q]; exact h3, h4, h5, sp_tk_a h32 h6 e0 hi0 x0, h7, h8, h9⟩
/-- a triple is added -/
theorem sp_tr_t {nc n K H q j i a b : Nat} {xno eN eC tE tN : Nat → Int32} (h : sp_tr nc n K H xno eN eC tE tN) (hq : q ≤ H) (hj : j < K) (h3 : eN j = nI i) (h4 : i < nc) (h5 : xno (5 * i) = nI 16) (h6 : eC j = nI a) (h8 : a ≤ b) (h9 : b ≤ n) :
    ∃ H', H ≤ H' ∧ H' ≤ H + 1 ∧ q + 1 ≤ H' ∧ (H' ≤ q + 1 ∨ H' ≤ H) ∧ sp_tr nc n K H' xno eN eC (upd tE q (nI j)) (upd tN q (nI b)) := by
  have m : ∀ x, x < H → ∃ j' i' a' b', j' < K ∧ upd tE q (nI j) x = nI j' ∧ eN j' = nI i' ∧ i' < nc ∧ xno (5 * i') = nI 16 ∧ eC j' = nI a' ∧ upd tN q (nI b) x = nI b' ∧ a' ≤ b' ∧ b' ≤ n := by
    intro x hx
    by_cases e : x = q
    · subst e
      exact ⟨j, i, a, b, hj, pk_us, h3, h4, h5, h6, pk_us, h8, h9⟩
    · rw [pk_un e, pk_un e]
      exact h x hx
  by_cases e : q < H
  · exact ⟨H, Nat.le_refl _, by omega, e, Or.inr (Nat.le_refl _), m⟩
  · have e : q = H := by omega
    subst e
    refine ⟨q + 1, by omega, Nat.le_refl _, Nat.le_refl _, Or.inl (Nat.le_refl _), ?_⟩
    intro x hx
    by_cases e : x = q
    · subst e
      exact ⟨j, i, a, b, hj, pk_us, h3, h4, h5, h6, pk_us, h8, h9⟩
    · exact m x (by omega)
theorem sp_el_h {nc n t K H H' : Nat} {xno eN eC eT eH eR : Nat → Int32} (h : sp_el nc n t K H xno eN eC eT eH eR) (hh : H ≤ H') : sp_el nc n t K H' xno eN eC eT eH eR := by
  intro j hj
  obtain ⟨i, c, r, h1, h2, h3, h4, h5, h6, h7, h8, h9⟩ := h j hj
  exact ⟨i, c, r, h1, h2, h3, h4, h5, h6, h7, h8, by omega⟩
end
section
theorem sp_ke {k k' : Nat} (h : nI k' = nI k) (h1 : k' ≤ 18) (h2 : k ≤ 18) : k' = k := (nI_eq (by omega) (by omega)).mp h
/-- what does not change in a search -/
def sp_C (lim nc n : Nat) (xno xrt xsj : Nat → Int32) : Prop :=
  nc ≤ 32 ∧ lim ≤ 250 ∧ n ≤ 16 ∧ (∀ i, i < nc → sp_nd nc xno i) ∧ (∀ v, v < 4 → xrt v = -1 ∨ ∃ r, r < nc ∧ xrt v = nI r) ∧ sp_ch xsj 16
def sp_r (x : Int32) : Prop := x = 0 ∨ x = 1 ∨ x = 2 ∨ x = 3
def sp_P (xms xdl xsd xlr xls xle : Int32) (lim nc n t : Nat) (xno xsk xrt xsj tx0 tl0 cr0 : Nat → Int32) (post : St2 → Prop) : Prop := ∀ (xst xnw xtc xtu xtn xcu xtd xtt xsr : Int32) (xtx xtl xcr eN eC eD eT eH eR tE tN : Nat → Int32), sp_r xsr → sp_I nc n t xno xsj tx0 tl0 cr0 xst xnw xtc xtn xcu xtt xtx xtl xcr eN eC eT eH eR tE tN → post (xms, nI lim, xdl, nI nc, xsd, nI n, xlr, xls, xle, xst, xnw, xtc, xtu, xtn, xcu, xtd, xtt, xsr, xno, xsk, xrt, xsj, xtx, xtl, xcr, eN, eC, eD, eT, eH, eR, tE, tN)
section
variable {xms xdl xsd xlr xls xle : Int32} {lim nc n t : Nat} {xno xsk xrt xsj tx0 tl0 cr0 : Nat → Int32}
variable {xst xnw xtc xtu xtn xcu xtd xtt xsr : Int32} {xtx xtl xcr eN eC eD eT eH eR tE tN : Nat → Int32}
variable {post : St2 → Prop}
theorem sp_begin (C : sp_C lim nc n xno xrt xsj) (I : sp_I nc n t xno xsj tx0 tl0 cr0 xst xnw xtc xtn xcu xtt xtx xtl xcr eN eC eT eH eR tE tN) (hr : sp_r xsr) (hp : sp_P xms xdl xsd xlr xls xle lim nc n t xno xsk xrt xsj tx0 tl0 cr0 post) : wpX_begin post (xms, nI lim, xdl, nI nc, xsd, nI n, xlr, xls, xle, xst, xnw, xtc, 0, xtn, xcu, xtd, xtt, xsr, xno, xsk, xrt, xsj, xtx, xtl, xcr, eN, eC, eD, eT, eH, eR, tE, tN) := by
  obtain ⟨C1, C2, C3, C4, C5, C6⟩ := C
  obtain ⟨K, H, c, rfl, hK, hH, el, tr, co, ⟨q, hq, rfl⟩, rfl, tc, cn, tk, ⟨i, hi, rfl⟩, V⟩ := I
  by_cases hl : K < lim
  rotate_left
  · exact sx_0full (by omega) hK (hp _ _ _ _ _ _ _ _ _ _ _ _ _ _ _ _ _ _ _ _ (Or.inr (Or.inr (Or.inl rfl))) ⟨K, H, c, rfl, hK, hH, el, tr, co, ⟨q, hq, rfl⟩, rfl, tc, cn, tk, ⟨i, hi, rfl⟩, V⟩)
  obtain ⟨k, a, k1, k18, a1, h0, h1, c12, cv, c13, c17⟩ := C4 i hi
  have el' := sp_el_n el hi tc cn tk co hq
  have tr' := sp_tr_n (x := nI i) (y := nI c) tr
  have tk' := sp_tk_n (x := nI i) (y := nI c) tk
  have co' := sp_co_n (x := nI i) co
  by_cases z10 : k = 10
  · exact sx_0arb hl C2 (by omega) h0 z10 (hp _ _ _ _ _ _ _ _ _ _ _ _ _ _ _ _ _ _ _ _ hr ⟨K + 1, H, c, rfl, by omega, hH, el', tr', Or.inr ⟨K, i, k, by omega, rfl, pk_us, hi, h0, by omega⟩, ⟨q, hq, rfl⟩, rfl, tc, cn, tk', ⟨i, hi, rfl⟩, V⟩)
  by_cases z13 : k = 13
  · exact sx_0arbno hl C2 (by omega) h0 z13 (hp _ _ _ _ _ _ _ _ _ _ _ _ _ _ _ _ _ _ _ _ hr ⟨K + 1, H, c, rfl, by omega, hH, el', tr', Or.inr ⟨K, i, k, by omega, rfl, pk_us, hi, h0, by omega⟩, ⟨q, hq, rfl⟩, rfl, tc, cn, tk', ⟨i, hi, rfl⟩, V⟩)
  by_cases z18 : k = 18
  · obtain ⟨l, hl3, h3⟩ := c13 (by omega)
    exact sx_0alt hl C2 (by omega) h0 z18 h3 (hp _ _ _ _ _ _ _ _ _ _ _ _ _ _ _ _ _ _ _ _ hr ⟨K + 1, H, c, rfl, by omega, hH, el', tr', Or.inr ⟨K, i, k, by omega, rfl, pk_us, hi, h0, by omega⟩, ⟨q, hq, rfl⟩, rfl, tc, cn, tk', ⟨l, hl3, rfl⟩, V⟩)
  by_cases z4 : 14 ≤ k
  · obtain ⟨l, hl3, h3⟩ := c13 (by omega)
    exact sx_0four hl C2 (by omega) h0 (by omega) h3 (hp _ _ _ _ _ _ _ _ _ _ _ _ _ _ _ _ _ _ _ _ hr ⟨K + 1, H, c, rfl, by omega, hH, el', tr', co', ⟨q, hq, rfl⟩, rfl, tc, cn, Or.inr ⟨K, i, k, c, by omega, rfl, pk_us, hi, h0, by omega, by omega, pk_us, Nat.le_refl _⟩, ⟨l, hl3, rfl⟩, V⟩)
  by_cases z12 : k = 12
  · have a3 := c12 z12
    refine sx_0def hl C2 (by omega) h0 z12 (by omega) h1 (hp _ _ _ _ _ _ _ _ _ _ _ _ _ _ _ _ _ _ _ _ hr ⟨K + 1, H, c, rfl, by omega, hH, el', tr', co', ⟨q, hq, rfl⟩, rfl, tc, cn, tk', ⟨i, hi, rfl⟩, V⟩) (fun nr => ?_)
    rcases C5 a (by omega) with e | ⟨r, hr5, e⟩
    · exact absurd e nr
    · exact hp _ _ _ _ _ _ _ _ _ _ _ _ _ _ _ _ _ _ _ _ hr ⟨K + 1, H, c, rfl, by omega, hH, el', tr', co', ⟨q, hq, rfl⟩, rfl, tc, cn, tk', ⟨r, hr5, e⟩, V⟩
  · refine sx_0leaf hl C2 (by omega) h0 (by omega) h1 a1 (fun z => by have := cv (Or.inl z); omega) C3 cn ?_ (fun _ v v1 v2 => ?_) (fun z v v1 v2 => ?_)
    · exact hp _ _ _ _ _ _ _ _ _ _ _ _ _ _ _ _ _ _ _ _ hr ⟨K + 1, H, c, rfl, by omega, hH, el', tr', co', ⟨q, hq, rfl⟩, rfl, tc, cn, tk', ⟨i, hi, rfl⟩, V⟩
    · exact hp _ _ _ _ _ _ _ _ _ _ _ _ _ _ _ _ _ _ _ _ hr ⟨K + 1, H, v, rfl, by omega, hH, el', tr', co', ⟨q, hq, rfl⟩, rfl, by omega, v2, sp_tk_up tk' v1, ⟨i, hi, rfl⟩, V⟩
    · exact hp _ _ _ _ _ _ _ _ _ _ _ _ _ _ _ _ _ _ _ _ hr ⟨K + 1, H, v, rfl, by omega, hH, el', tr', co', ⟨q, hq, rfl⟩, rfl, by omega, v2, sp_tk_up tk' v1, ⟨i, hi, rfl⟩, sp_V_cur V hi (by rw [h0, z]) h1 v2⟩
theorem sp_produce (C : sp_C lim nc n xno xrt xsj) (I : sp_I nc n t xno xsj tx0 tl0 cr0 xst xnw xtc xtn xcu xtt xtx xtl xcr eN eC eT eH eR tE tN) (hr : sp_r xsr) (hp : sp_P xms xdl xsd xlr xls xle lim nc n t xno xsk xrt xsj tx0 tl0 cr0 post) : wpX_produce post (xms, nI lim, xdl, nI nc, xsd, nI n, xlr, xls, xle, xst, xnw, xtc, 1, xtn, xcu, xtd, xtt, xsr, xno, xsk, xrt, xsj, xtx, xtl, xcr, eN, eC, eD, eT, eH, eR, tE, tN) := by
  obtain ⟨C1, C2, C3, C4, C5, C6⟩ := C
  obtain ⟨K, H, c, rfl, hK, hH, el, tr, co, ⟨q, hq, rfl⟩, rfl, tc, cn, tk, ⟨p, hpn, rfl⟩, V⟩ := I
  rcases tk with rfl | ⟨j, i, k, a, hj, rfl, eNj, hi, h0, k13, k17, eCj, ac⟩
  · exact sx_1none (hp _ _ _ _ _ _ _ _ _ _ _ _ _ _ _ _ _ _ _ _ (Or.inr (Or.inl rfl)) ⟨K, H, c, rfl, hK, hH, el, tr, co, ⟨q, hq, rfl⟩, rfl, tc, cn, Or.inl rfl, ⟨p, hpn, rfl⟩, V⟩)
  obtain ⟨i2, c2, r2, e1, e2, e3, e4, e5, e6, e7, e8, e9⟩ := el j hj
  have ea : c2 = a := (nI_eq (by omega) (by omega)).mp (e3.symm.trans eCj)
  have tk' := sp_tk_up e6 (show c2 ≤ c by omega)
  have kb : k ≤ 18 := by omega
  obtain ⟨k', b, k1, k18, a1, h0', h1, c12, cv, c13, c17⟩ := C4 i hi
  have ek : k' = k := sp_ke (h0'.symm.trans h0) k18 kb
  subst ek
  by_cases z13 : k' = 13
  · by_cases e : c = a
    · exact sx_1skip (by omega) eNj (by omega) h0 eCj z13 (by rw [e]) (hp _ _ _ _ _ _ _ _ _ _ _ _ _ _ _ _ _ _ _ _ hr ⟨K, H, c, rfl, hK, hH, el, tr, co, ⟨q, hq, rfl⟩, rfl, tc, cn, tk', ⟨p, hpn, rfl⟩, V⟩)
    · exact sx_1arbno (by omega) eNj (by omega) h0 eCj z13 (fun z => e ((nI_eq (by omega) (by omega)).mp z)) (hp _ _ _ _ _ _ _ _ _ _ _ _ _ _ _ _ _ _ _ _ hr ⟨K, H, c, rfl, hK, hH, el, tr, co, ⟨q, hq, rfl⟩, rfl, tc, cn, tk', ⟨i, hi, rfl⟩, V⟩)
  by_cases z14 : k' = 14
  · exact sx_1fence (by omega) eNj (by omega) h0 eCj z14 (hp _ _ _ _ _ _ _ _ _ _ _ _ _ _ _ _ _ _ _ _ hr ⟨K, H, c, rfl, hK, hH, el, tr, e7, ⟨q, hq, rfl⟩, rfl, tc, cn, tk', ⟨p, hpn, rfl⟩, V⟩)
  by_cases z15 : k' = 15
  · have b7 := cv (by omega)
    exact sx_1imm (by omega) eNj (by omega) h0 eCj z15 b7 h1 ac (by omega) (hp _ _ _ _ _ _ _ _ _ _ _ _ _ _ _ _ _ _ _ _ hr ⟨K, H, c, rfl, hK, hH, el, tr, co, ⟨q, hq, rfl⟩, rfl, tc, cn, tk', ⟨p, hpn, rfl⟩, sp_V_put V C6 b7 ac cn C3 hi (Or.inl (by rw [h0, z15])) h1⟩)
  by_cases z16 : k' = 16
  · by_cases q250 : q < 250
    · obtain ⟨H', g1, g2, g3, g4, tr'⟩ := sp_tr_t tr hq hj eNj hi (by rw [h0, z16]) eCj ac cn
      exact sx_1cond (by omega) eNj (by omega) h0 eCj z16 q250 (hp _ _ _ _ _ _ _ _ _ _ _ _ _ _ _ _ _ _ _ _ hr ⟨K, H', c, rfl, hK, by omega, sp_el_h el g1, tr', co, ⟨q + 1, g3, rfl⟩, rfl, tc, cn, tk', ⟨p, hpn, rfl⟩, V⟩)
    · exact sx_1full (by omega) eNj (by omega) h0 eCj z16 (by omega) (by omega) (hp _ _ _ _ _ _ _ _ _ _ _ _ _ _ _ _ _ _ _ _ hr ⟨K, H, c, rfl, hK, hH, el, tr, co, ⟨q, hq, rfl⟩, rfl, tc, cn, tk', ⟨p, hpn, rfl⟩, V⟩)
  · obtain ⟨l, hl, h4⟩ := c17 (by omega)
    exact sx_1cat (by omega) eNj (by omega) h0 eCj (by omega) h4 (hp _ _ _ _ _ _ _ _ _ _ _ _ _ _ _ _ _ _ _ _ hr ⟨K, H, c, rfl, hK, hH, el, tr, co, ⟨q, hq, rfl⟩, rfl, tc, cn, tk', ⟨l, hl, rfl⟩, V⟩)
theorem sp_backtrack (C : sp_C lim nc n xno xrt xsj) (I : sp_I nc n t xno xsj tx0 tl0 cr0 xst xnw xtc xtn xcu xtt xtx xtl xcr eN eC eT eH eR tE tN) (hr : sp_r xsr) (hp : sp_P xms xdl xsd xlr xls xle lim nc n t xno xsk xrt xsj tx0 tl0 cr0 post) : wpX_backtrack post (xms, nI lim, xdl, nI nc, xsd, nI n, xlr, xls, xle, xst, xnw, xtc, xtu, xtn, xcu, xtd, xtt, xsr, xno, xsk, xrt, xsj, xtx, xtl, xcr, eN, eC, eD, eT, eH, eR, tE, tN) := by
  obtain ⟨C1, C2, C3, C4, C5, C6⟩ := C
  obtain ⟨K, H, c, rfl, hK, hH, el, tr, co, ⟨q, hq, rfl⟩, rfl, tc, cn, tk, ⟨p, hpn, rfl⟩, V⟩ := I
  rcases co with rfl | ⟨j, i, k, hj, rfl, eNj, hi, h0, ks⟩
  · exact sx_2none (hp _ _ _ _ _ _ _ _ _ _ _ _ _ _ _ _ _ _ _ _ (Or.inl rfl) ⟨K, H, c, rfl, hK, hH, el, tr, Or.inl rfl, ⟨q, hq, rfl⟩, rfl, tc, cn, tk, ⟨p, hpn, rfl⟩, V⟩)
  have cj : sp_co nc K xno eN (nI j) := Or.inr ⟨j, i, k, hj, rfl, eNj, hi, h0, ks⟩
  obtain ⟨i2, c2, r2, e1, e2, e3, e4, e5, e6, e7, e8, e9⟩ := el j hj
  have kb : k ≤ 18 := by omega
  obtain ⟨k', b, k1, k18, a1, h0', h1, c12, cv, c13, c17⟩ := C4 i hi
  have ek : k' = k := sp_ke (h0'.symm.trans h0) k18 kb
  subst ek
  rcases ks with z | z | z
  · by_cases g : c2 < n
    · exact sx_2arby (by omega) eNj (by omega) h0 e3 z g (by omega) (hp _ _ _ _ _ _ _ _ _ _ _ _ _ _ _ _ _ _ _ _ hr ⟨K, H, c2 + 1, rfl, hK, hH, sp_el_a C1 el eNj hi (by rw [h0, z]) e3 C3 g, sp_tr_a C1 tr eNj hi (by rw [h0, z]), cj, ⟨r2, e9, e8⟩, rfl, by omega, by omega, sp_tk_a C1 (sp_tk_up e6 (by omega)) eNj hi (by rw [h0, z]), ⟨p, hpn, rfl⟩, V⟩)
    · exact sx_2arbx (by omega) eNj (by omega) h0 e3 z (by omega) (by omega) (hp _ _ _ _ _ _ _ _ _ _ _ _ _ _ _ _ _ _ _ _ hr ⟨K, H, c, rfl, hK, hH, el, tr, e7, ⟨r2, e9, e8⟩, rfl, tc, cn, tk, ⟨p, hpn, rfl⟩, V⟩)
  · obtain ⟨l, hl, h3⟩ := c13 (by omega)
    exact sx_2arbno (by omega) eNj (by omega) h0 e3 z h3 (hp _ _ _ _ _ _ _ _ _ _ _ _ _ _ _ _ _ _ _ _ hr ⟨K, H, c2, rfl, hK, hH, el, tr, e7, ⟨r2, e9, e8⟩, rfl, e4, e5, Or.inr ⟨j, i, k', c2, hj, rfl, eNj, hi, h0, by omega, by omega, e3, Nat.le_refl _⟩, ⟨l, hl, rfl⟩, V⟩)
  · obtain ⟨l, hl, h4⟩ := c17 (by omega)
    exact sx_2alt (by omega) eNj (by omega) h0 e3 z h4 (hp _ _ _ _ _ _ _ _ _ _ _ _ _ _ _ _ _ _ _ _ hr ⟨K, H, c2, rfl, hK, hH, el, tr, e7, ⟨r2, e9, e8⟩, rfl, e4, e5, e6, ⟨l, hl, rfl⟩, V⟩)
end
end
section
section
variable {xms xdl xsd xlr xls xle : Int32} {lim nc n t : Nat} {xno xsk xrt xsj tx0 tl0 cr0 : Nat → Int32}
theorem sp_loop {post : Int32 → St2 → Prop} (C : sp_C lim nc n xno xrt xsj) (hp : ∀ (xst xnw xtc xtu xtn xcu xtd xtt xsr : Int32) (xtx xtl xcr eN eC eD eT eH eR tE tN : Nat → Int32), sp_r xsr → sp_I nc n t xno xsj tx0 tl0 cr0 xst xnw xtc xtn xcu xtt xtx xtl xcr eN eC eT eH eR tE tN → post xsr (xms, nI lim, xdl, nI nc, xsd, nI n, xlr, xls, xle, xst, xnw, xtc, xtu, xtn, xcu, xtd, xtt, xsr, xno, xsk, xrt, xsj, xtx, xtl, xcr, eN, eC, eD, eT, eH, eR, tE, tN)) :
    ∀ d i m, i + d = 1000000 → d < m → ∀ (xst xnw xtc xtu xtn xcu xtd xtt xsr : Int32) (xtx xtl xcr eN eC eD eT eH eR tE tN : Nat → Int32), sp_r xsr → sp_I nc n t xno xsj tx0 tl0 cr0 xst xnw xtc xtn xcu xtt xtx xtl xcr eN eC eT eH eR tE tN → wX_searchFrom_30 post m (nI i) xms (nI lim) xdl (nI nc) xsd (nI n) xlr xls xle xst xnw xtc xtu xtn xcu xtd xtt xsr xno xsk xrt xsj xtx xtl xcr eN eC eD eT eH eR tE tN := by
  intro d
  induction d with
  | zero =>
    intro i m h hm xst xnw xtc xtu xtn xcu xtd xtt xsr xtx xtl xcr eN eC eD eT eH eR tE tN hr I
    obtain ⟨m, rfl⟩ : ∃ k, m = k + 1 := ⟨m - 1, by omega⟩
    exact br_t (nI_le (a := 1000000) (by omega) (by omega)) (hp _ _ _ _ _ _ _ _ _ _ _ _ _ _ _ _ _ _ _ _ hr I)
  | succ d ih =>
    intro i m h hm xst xnw xtc xtu xtn xcu xtd xtt xsr xtx xtl xcr eN eC eD eT eH eR tE tN hr I
    obtain ⟨m, rfl⟩ : ∃ k, m = k + 1 := ⟨m - 1, by omega⟩
    refine br_f (nI_ge (b := 1000000) (by omega) (by omega)) ?_
    by_cases e3 : xsr = 3
    rotate_left
    · exact br_f e3 (hp _ _ _ _ _ _ _ _ _ _ _ _ _ _ _ _ _ _ _ _ hr I)
    refine br_t e3 ?_
    by_cases e0 : xtu = 0
    · subst e0
      exact br_t rfl (sp_begin C I hr (fun xst xnw xtc xtu xtn xcu xtd xtt xsr xtx xtl xcr eN eC eD eT eH eR tE tN hr' I' => nm_r (nI_1 i) (ih (i + 1) m (by omega) (by omega) xst xnw xtc xtu xtn xcu xtd xtt xsr xtx xtl xcr eN eC eD eT eH eR tE tN hr' I')))
    by_cases e1 : xtu = 1
    · subst e1
      exact br_f e0 (br_t rfl (sp_produce C I hr (fun xst xnw xtc xtu xtn xcu xtd xtt xsr xtx xtl xcr eN eC eD eT eH eR tE tN hr' I' => nm_r (nI_1 i) (ih (i + 1) m (by omega) (by omega) xst xnw xtc xtu xtn xcu xtd xtt xsr xtx xtl xcr eN eC eD eT eH eR tE tN hr' I'))))
    · exact br_f e0 (br_f e1 (sp_backtrack C I hr (fun xst xnw xtc xtu xtn xcu xtd xtt xsr xtx xtl xcr eN eC eD eT eH eR tE tN hr' I' => nm_r (nI_1 i) (ih (i + 1) m (by omega) (by omega) xst xnw xtc xtu xtn xcu xtd xtt xsr xtx xtl xcr eN eC eD eT eH eR tE tN hr' I'))))
theorem sp_search {post : Int32 → St2 → Prop} (C : sp_C lim nc n xno xrt xsj) (hp : ∀ (xst xnw xtc xtu xtn xcu xtd xtt xsr : Int32) (xtx xtl xcr eN eC eD eT eH eR tE tN : Nat → Int32), sp_r xsr → sp_I nc n t xno xsj tx0 tl0 cr0 xst xnw xtc xtn xcu xtt xtx xtl xcr eN eC eT eH eR tE tN → post xsr (xms, nI lim, xdl, nI nc, xsd, nI n, xlr, xls, xle, xst, xnw, xtc, xtu, xtn, xcu, xtd, xtt, xsr, xno, xsk, xrt, xsj, xtx, xtl, xcr, eN, eC, eD, eT, eH, eR, tE, tN)) (xst xnw xtc xtu xtn xcu xtd xtt xsr : Int32) (xtx xtl xcr eN eC eD eT eH eR tE tN : Nat → Int32)
    (V : sp_V False nc n xno xsj tx0 tl0 cr0 xtx xtl xcr) {r : Nat} (hr : r < nc) (ht : t ≤ n) : wpX_searchFrom post (xms, nI lim, xdl, nI nc, xsd, nI n, xlr, xls, xle, xst, xnw, xtc, xtu, xtn, xcu, xtd, xtt, xsr, xno, xsk, xrt, xsj, xtx, xtl, xcr, eN, eC, eD, eT, eH, eR, tE, tN) (nI r) (nI t) := by
  unfold wpX_searchFrom
  exact ⟨1000001, sp_loop C hp 1000000 0 1000001 (by omega) (by omega) _ _ _ _ _ _ _ _ _ _ _ _ _ _ _ _ _ _ _ _ (Or.inr (Or.inr (Or.inr rfl)))
    ⟨0, 0, t, rfl, by omega, by omega, fun j hj => absurd hj (by omega), fun q hq => absurd hq (by omega), Or.inl rfl, ⟨0, by omega, rfl⟩, rfl, by omega, ht, Or.inl rfl, ⟨r, hr, rfl⟩, V⟩⟩
theorem sp_apply {post : St2 → Prop} (C : sp_C lim nc n xno xrt xsj) {K H q : Nat} (hK : K ≤ 250) (hH : H ≤ 250) (hq : q ≤ H) (xst xnw xtu xtn xcu xtd xtt xsr : Int32) (xcr eN eC eD eT eH eR tE tN : Nat → Int32) (tr : sp_tr nc n K H xno eN eC tE tN)
    (hp : ∀ xtx xtl : Nat → Int32, sp_V True nc n xno xsj tx0 tl0 cr0 xtx xtl xcr → post (xms, nI lim, xdl, nI nc, xsd, nI n, xlr, xls, xle, xst, xnw, nI q, xtu, xtn, xcu, xtd, xtt, xsr, xno, xsk, xrt, xsj, xtx, xtl, xcr, eN, eC, eD, eT, eH, eR, tE, tN)) :
    ∀ d i m, i + d = q → d < m → ∀ xtx xtl : Nat → Int32, sp_V True nc n xno xsj tx0 tl0 cr0 xtx xtl xcr → wX_applyTriples_2 post m (nI i) xms (nI lim) xdl (nI nc) xsd (nI n) xlr xls xle xst xnw (nI q) xtu xtn xcu xtd xtt xsr xno xsk xrt xsj xtx xtl xcr eN eC eD eT eH eR tE tN := by
  obtain ⟨C1, C2, C3, C4, C5, C6⟩ := C
  intro d
  induction d with
  | zero =>
    intro i m h hm xtx xtl V
    obtain ⟨m, rfl⟩ : ∃ k, m = k + 1 := ⟨m - 1, by omega⟩
    exact br_t (nI_le (by omega) (by omega)) (hp xtx xtl V)
  | succ d ih =>
    intro i m h hm xtx xtl V
    obtain ⟨m, rfl⟩ : ∃ k, m = k + 1 := ⟨m - 1, by omega⟩
    obtain ⟨j, p, a, b, g1, g2, g3, g4, g5, g6, g7, g8, g9⟩ := tr i (by omega)
    obtain ⟨k', w, k1, k18, a1, h0', h1, c12, cv, c13, c17⟩ := C4 p g4
    have ek : k' = 16 := (nI_eq (by omega) (by omega)).mp (h0'.symm.trans g5)
    have w7 := cv (by omega)
    have vi : vp_in (nI i) 250 := vp_in_nI (by omega) (by omega)
    have vj : vp_in (nI j) 250 := vp_in_nI (by omega) (by omega)
    have en : eN (nI j).toNatClampNeg = nI p := sm_cg (by omega) g3
    have ec : eC (nI j).toNatClampNeg = nI a := sm_cg (by omega) g6
    have eb : tN (nI i).toNatClampNeg = nI b := sm_cg (by omega) g7
    have v5 : vp_in (eN (nI j).toNatClampNeg * 5 + nI 1) 160 := by rw [en]; exact sm_in5 1 (by omega) (by omega)
    have e5 : xno (eN (nI j).toNatClampNeg * 5 + nI 1).toNatClampNeg = nI w := by rw [en]; exact sm_c5 1 (by omega) (by omega) h1
    refine br_f (nI_ge (by omega) (by omega)) ⟨vi, nm_r (sm_cg (by omega) g2) ⟨vj, v5, nm_r e5 ⟨vj, vi, ?_⟩⟩⟩
    rw [ec, eb]
    exact sx_setText w7 g8 (by omega) (nm_r (nI_1 i) (ih (i + 1) m (by omega) (by omega) _ _ (sp_V_put V C6 w7 g8 g9 C3 g4 (Or.inr ⟨trivial, g5⟩) h1)))
end
end
section
section
variable {xms xdl xsd : Int32} {lim nc n : Nat} {xno xsk xrt xsj tx0 tl0 cr0 : Nat → Int32}
variable {post : Int32 → St2 → Prop} {g : Nat}
/-- the starts, from t on -/
theorem sp_starts (C : sp_C lim nc n xno xrt xsj) {v r : Nat} (hv : v < 4) (hr : r < nc) (er : xrt v = nI r) (hg : g ≤ n)
    (h0 : ∀ (q : Int32) (xst xnw xtc xtu xtn xcu xtd xtt xsr : Int32) (xtx xtl xcr eN eC eD eT eH eR tE tN : Nat → Int32), (q = 0 ∨ q = 2 ∨ q = 3) → sp_V False nc n xno xsj tx0 tl0 cr0 xtx xtl xcr → post q (xms, nI lim, xdl, nI nc, xsd, nI n, q, -1, -1, xst, xnw, xtc, xtu, xtn, xcu, xtd, xtt, xsr, xno, xsk, xrt, xsj, xtx, xtl, xcr, eN, eC, eD, eT, eH, eR, tE, tN))
    (h1 : ∀ (t c : Nat) (xst xnw xtc xtu xtn xcu xtd xtt xsr : Int32) (xtx xtl xcr eN eC eD eT eH eR tE tN : Nat → Int32), t ≤ c → c ≤ n → t ≤ g → sp_V True nc n xno xsj tx0 tl0 cr0 xtx xtl xcr → post 1 (xms, nI lim, xdl, nI nc, xsd, nI n, 1, nI t, nI c, xst, xnw, xtc, xtu, xtn, xcu, xtd, xtt, xsr, xno, xsk, xrt, xsj, xtx, xtl, xcr, eN, eC, eD, eT, eH, eR, tE, tN)) :
    ∀ d t m, t + d = g + 1 → d < m → ∀ (xst xnw xtc xtu xtn xcu xtd xtt xsr : Int32) (xtx xtl xcr eN eC eD eT eH eR tE tN : Nat → Int32), sp_V False nc n xno xsj tx0 tl0 cr0 xtx xtl xcr →
      wX_match_56 post (nI v) (nI g) m (nI t) xms (nI lim) xdl (nI nc) xsd (nI n) 0 (-1) (-1) xst xnw xtc xtu xtn xcu xtd xtt xsr xno xsk xrt xsj xtx xtl xcr eN eC eD eT eH eR tE tN := by
  have C3 := C.2.2.1
  have e3 : xrt (nI v).toNatClampNeg = nI r := sm_cg (by omega) er
  intro d
  induction d with
  | zero =>
    intro t m h hm xst xnw xtc xtu xtn xcu xtd xtt xsr xtx xtl xcr eN eC eD eT eH eR tE tN V
    obtain ⟨m, rfl⟩ : ∃ k, m = k + 1 := ⟨m - 1, by omega⟩
    exact br_t (nI_lt (by omega) (by omega)) (h0 0 _ _ _ _ _ _ _ _ _ _ _ _ _ _ _ _ _ _ _ _ (Or.inl rfl) V)
  | succ d ih =>
    intro t m h hm xst xnw xtc xtu xtn xcu xtd xtt xsr xtx xtl xcr eN eC eD eT eH eR tE tN V
    obtain ⟨m, rfl⟩ : ∃ k, m = k + 1 := ⟨m - 1, by omega⟩
    obtain ⟨m, rfl⟩ : ∃ k, m = k + 1 := ⟨m - 1, by omega⟩
    refine br_f (nI_nlt (by omega) (by omega)) (br_t rfl ⟨vp_in_nI hv (by omega), ?_⟩)
    rw [e3]
    refine sp_search (tx0 := tx0) (tl0 := tl0) (cr0 := cr0) C ?_ _ _ _ _ _ _ _ _ _ _ _ _ _ _ _ _ _ _ _ _ V hr (by omega)
    intro xst xnw xtc xtu xtn xcu xtd xtt xsr xtx xtl xcr eN eC eD eT eH eR tE tN hx I
    by_cases q1 : xsr = 1
    · subst q1
      obtain ⟨K, H, c, rfl, hK, hH, el, tr, co, ⟨q, hq, rfl⟩, rfl, tc, cn, tk, ⟨p, hpn, rfl⟩, V'⟩ := I
      refine br_t rfl ⟨q + 1, sp_apply (tx0 := tx0) (tl0 := tl0) (cr0 := cr0) C hK hH hq _ _ _ _ _ _ _ _ _ _ _ _ _ _ _ _ _ tr ?_ q 0 (q + 1) (by omega) (by omega) _ _ (sp_V_cd V')⟩
      intro xtx xtl V2
      refine nm_r (nI_1 t) ?_
      by_cases z : g < t + 1
      · exact br_t (nI_lt z (by omega)) (h1 t c _ _ _ _ _ _ _ _ _ _ _ _ _ _ _ _ _ _ _ _ tc cn (by omega) V2)
      · exact br_f (nI_nlt (by omega) (by omega)) (br_f (by decide) (h1 t c _ _ _ _ _ _ _ _ _ _ _ _ _ _ _ _ _ _ _ _ tc cn (by omega) V2))
    · refine br_f q1 (nm_r (nI_1 t) ?_)
      have V' : sp_V False nc n xno xsj tx0 tl0 cr0 xtx xtl xcr := by
        obtain ⟨K, H, c, a1, a2, a3, a4, a5, a6, a7, a8, a9, a10, a11, a12, a13⟩ := I
        exact a13
      by_cases q0 : xsr = 0
      · subst q0
        exact ih (t + 1) (m + 1) (by omega) (by omega) _ _ _ _ _ _ _ _ _ _ _ _ _ _ _ _ _ _ _ _ V'
      · have q23 : xsr = 0 ∨ xsr = 2 ∨ xsr = 3 := by
          rcases hx with z | z | z | z
          · exact absurd z q0
          · exact absurd z q1
          · exact Or.inr (Or.inl z)
          · exact Or.inr (Or.inr z)
        by_cases z : g < t + 1
        · exact br_t (nI_lt z (by omega)) (h0 xsr _ _ _ _ _ _ _ _ _ _ _ _ _ _ _ _ _ _ _ _ q23 V')
        · exact br_f (nI_nlt (by omega) (by omega)) (br_f q0 (h0 xsr _ _ _ _ _ _ _ _ _ _ _ _ _ _ _ _ _ _ _ _ q23 V'))
theorem sp_match {xlr xls xle : Int32} (xst xnw xtc xtu xtn xcu xtd xtt xsr : Int32) (xtx xtl xcr eN eC eD eT eH eR tE tN : Nat → Int32) (C : sp_C lim nc n xno xrt xsj) {v : Nat} (hv : v < 4) {p1 : Int32}
    (V : sp_V False nc n xno xsj tx0 tl0 cr0 xtx xtl xcr) (hn : post (-6) (xms, nI lim, xdl, nI nc, xsd, nI n, xlr, xls, xle, xst, xnw, xtc, xtu, xtn, xcu, xtd, xtt, xsr, xno, xsk, xrt, xsj, xtx, xtl, xcr, eN, eC, eD, eT, eH, eR, tE, tN))
    (h0 : ∀ (q : Int32) (xst xnw xtc xtu xtn xcu xtd xtt xsr : Int32) (xtx xtl xcr eN eC eD eT eH eR tE tN : Nat → Int32), (q = 0 ∨ q = 2 ∨ q = 3) → sp_V False nc n xno xsj tx0 tl0 cr0 xtx xtl xcr → post q (xms, nI lim, xdl, nI nc, xsd, nI n, q, -1, -1, xst, xnw, xtc, xtu, xtn, xcu, xtd, xtt, xsr, xno, xsk, xrt, xsj, xtx, xtl, xcr, eN, eC, eD, eT, eH, eR, tE, tN))
    (h1 : ∀ (t c : Nat) (xst xnw xtc xtu xtn xcu xtd xtt xsr : Int32) (xtx xtl xcr eN eC eD eT eH eR tE tN : Nat → Int32), t ≤ c → c ≤ n → (¬ p1 = 0 → t = 0) → sp_V True nc n xno xsj tx0 tl0 cr0 xtx xtl xcr → post 1 (xms, nI lim, xdl, nI nc, xsd, nI n, 1, nI t, nI c, xst, xnw, xtc, xtu, xtn, xcu, xtd, xtt, xsr, xno, xsk, xrt, xsj, xtx, xtl, xcr, eN, eC, eD, eT, eH, eR, tE, tN)) :
    wpX_match post (xms, nI lim, xdl, nI nc, xsd, nI n, xlr, xls, xle, xst, xnw, xtc, xtu, xtn, xcu, xtd, xtt, xsr, xno, xsk, xrt, xsj, xtx, xtl, xcr, eN, eC, eD, eT, eH, eR, tE, tN) (nI v) p1 := by
  refine br_f (nI_pos (by omega)) (br_t (sm_lt 4 hv (by omega)) ⟨vp_in_nI hv (by omega), ?_⟩)
  have ec : xrt (nI v).toNatClampNeg = xrt v := sm_cg (by omega) rfl
  rw [ec]
  rcases C.2.2.2.2.1 v hv with e | ⟨r, hr, e⟩
  · exact br_t e hn
  · have nm : ¬ xrt v = -1 := by rw [e]; have := C.1; exact sm_m1ne (by omega)
    refine br_f nm ?_
    by_cases q : p1 = 0
    · exact br_t q ⟨n + 2, sp_starts (g := n) C hv hr e (Nat.le_refl _) h0 (fun t c xst xnw xtc xtu xtn xcu xtd xtt xsr xtx xtl xcr eN eC eD eT eH eR tE tN a1 a2 a3 V' => h1 t c _ _ _ _ _ _ _ _ _ _ _ _ _ _ _ _ _ _ _ _ a1 a2 (fun z => absurd q z) V') (n + 1) 0 (n + 2) (by omega) (by omega) _ _ _ _ _ _ _ _ _ _ _ _ _ _ _ _ _ _ _ _ V⟩
    · exact br_f q ⟨2, sp_starts (g := 0) C hv hr e (by omega) h0 (fun t c xst xnw xtc xtu xtn xcu xtd xtt xsr xtx xtl xcr eN eC eD eT eH eR tE tN a1 a2 a3 V' => h1 t c _ _ _ _ _ _ _ _ _ _ _ _ _ _ _ _ _ _ _ _ a1 a2 (fun z => by omega) V') 1 0 2 (by omega) (by omega) _ _ _ _ _ _ _ _ _ _ _ _ _ _ _ _ _ _ _ _ V⟩
end
end
section
/-- the invariant between calls -/
def sp_ok (xms xsl xnc xsd xn : Int32) (xno xsk xrt xsj xtx xtl : Nat → Int32) : Prop :=
  ∃ ms lim nc sp n, xms = nI ms ∧ ms ≤ 16 ∧ xsl = nI lim ∧ xnc = nI nc ∧ xsd = nI sp ∧ sp ≤ 16 ∧ xn = nI n ∧ n ≤ ms ∧ sp_C lim nc n xno xrt xsj ∧
    (∀ i, i < sp → ∃ q, q < nc ∧ xsk i = nI q) ∧ sp_ch xtx 128 ∧ (∀ w, w < 8 → ∃ l, l ≤ 16 ∧ xtl w = nI l)
/-- an entry of the stack -/
def sp_se (xsd : Int32) (xsk : Nat → Int32) (p : Int32) : Int32 := if p < 0 then -1 else if p < xsd then xsk p.toNatClampNeg else -1
/-- a character of the subject -/
def sp_sc (n : Nat) (xsj : Nat → Int32) (i : Nat) : Int32 := if i < n then xsj i else 0
section
variable {xms xsl xdl xnc xsd xn xlr xls xle xst xnw xtc xtu xtn xcu xtd xtt xsr : Int32} {xno xsk xrt xsj xtx xtl xcr eN eC eD eT eH eR tE tN : Nat → Int32}
variable {post : Int32 → Prop}
theorem sx_st1 (h : post xls) : wpX_status post (xms, xsl, xdl, xnc, xsd, xn, xlr, xls, xle, xst, xnw, xtc, xtu, xtn, xcu, xtd, xtt, xsr, xno, xsk, xrt, xsj, xtx, xtl, xcr, eN, eC, eD, eT, eH, eR, tE, tN) 1 := br_f (by decide) (br_f (by decide) (br_f (by decide) (br_t rfl h)))
theorem sx_st2 (h : post xle) : wpX_status post (xms, xsl, xdl, xnc, xsd, xn, xlr, xls, xle, xst, xnw, xtc, xtu, xtn, xcu, xtd, xtt, xsr, xno, xsk, xrt, xsj, xtx, xtl, xcr, eN, eC, eD, eT, eH, eR, tE, tN) 2 := br_f (by decide) (br_f (by decide) (br_f (by decide) (br_f (by decide) (br_t rfl h))))
theorem sx_st3 (h : post xnc) : wpX_status post (xms, xsl, xdl, xnc, xsd, xn, xlr, xls, xle, xst, xnw, xtc, xtu, xtn, xcu, xtd, xtt, xsr, xno, xsk, xrt, xsj, xtx, xtl, xcr, eN, eC, eD, eT, eH, eR, tE, tN) 3 := br_f (by decide) (br_f (by decide) (br_f (by decide) (br_f (by decide) (br_f (by decide) (br_t rfl h)))))
theorem sx_st4 (h : post xsd) : wpX_status post (xms, xsl, xdl, xnc, xsd, xn, xlr, xls, xle, xst, xnw, xtc, xtu, xtn, xcu, xtd, xtt, xsr, xno, xsk, xrt, xsj, xtx, xtl, xcr, eN, eC, eD, eT, eH, eR, tE, tN) 4 := br_f (by decide) (br_f (by decide) (br_f (by decide) (br_f (by decide) (br_f (by decide) (br_f (by decide) (br_t rfl h))))))
theorem sx_st5 (h : post xn) : wpX_status post (xms, xsl, xdl, xnc, xsd, xn, xlr, xls, xle, xst, xnw, xtc, xtu, xtn, xcu, xtd, xtt, xsr, xno, xsk, xrt, xsj, xtx, xtl, xcr, eN, eC, eD, eT, eH, eR, tE, tN) 5 := br_f (by decide) (br_f (by decide) (br_f (by decide) (br_f (by decide) (br_f (by decide) (br_f (by decide) (br_f (by decide) (br_t rfl h)))))))
theorem sx_se {p : Int32} {sp : Nat} (hs : sp ≤ 16) (h : post (sp_se (nI sp) xsk p)) : wpX_stackEntry post (xms, xsl, xdl, xnc, nI sp, xn, xlr, xls, xle, xst, xnw, xtc, xtu, xtn, xcu, xtd, xtt, xsr, xno, xsk, xrt, xsj, xtx, xtl, xcr, eN, eC, eD, eT, eH, eR, tE, tN) p := by
  unfold sp_se at h
  by_cases a : p < 0
  · rw [if_pos a] at h; exact br_t a h
  · rw [if_neg a] at h
    by_cases b : p < nI sp
    · rw [if_pos b] at h
      obtain ⟨j, hj, rfl⟩ := nI_of a
      rw [nI_ltI hj (by omega)] at b
      exact br_f a (br_t (nI_lt b (by omega)) ⟨vp_in_nI (by omega) (by omega), h⟩)
    · rw [if_neg b] at h; exact br_f a (br_f b h)
theorem sx_pr {q : Nat} (hq : q < 4) (h : post (xrt q)) : wpX_patternRoot post (xms, xsl, xdl, xnc, xsd, xn, xlr, xls, xle, xst, xnw, xtc, xtu, xtn, xcu, xtd, xtt, xsr, xno, xsk, xrt, xsj, xtx, xtl, xcr, eN, eC, eD, eT, eH, eR, tE, tN) (nI q) :=
  br_f (nI_pos (by omega)) (br_t (sm_lt 4 hq (by omega)) ⟨vp_in_nI hq (by omega), by rw [sm_cl (by omega)]; exact h⟩)
theorem sx_vl {q : Nat} (hq : q < 8) (h : post (xtl q)) : wpX_varLength post (xms, xsl, xdl, xnc, xsd, xn, xlr, xls, xle, xst, xnw, xtc, xtu, xtn, xcu, xtd, xtt, xsr, xno, xsk, xrt, xsj, xtx, xtl, xcr, eN, eC, eD, eT, eH, eR, tE, tN) (nI q) :=
  br_f (nI_pos (by omega)) (br_t (sm_lt 8 hq (by omega)) ⟨vp_in_nI hq (by omega), by rw [sm_cl (by omega)]; exact h⟩)
theorem sx_cv {q : Nat} (hq : q < 8) (h : post (xcr q)) : wpX_cursorVar post (xms, xsl, xdl, xnc, xsd, xn, xlr, xls, xle, xst, xnw, xtc, xtu, xtn, xcu, xtd, xtt, xsr, xno, xsk, xrt, xsj, xtx, xtl, xcr, eN, eC, eD, eT, eH, eR, tE, tN) (nI q) :=
  br_f (nI_pos (by omega)) (br_t (sm_lt 8 hq (by omega)) ⟨vp_in_nI hq (by omega), by rw [sm_cl (by omega)]; exact h⟩)
theorem sx_sc {i n : Nat} (hn : n ≤ 16) (hi : i < 1000) (hc : sp_ch xsj 16) (h : post (sp_sc n xsj i)) : wpX_subjectChar post (xms, xsl, xdl, xnc, xsd, nI n, xlr, xls, xle, xst, xnw, xtc, xtu, xtn, xcu, xtd, xtt, xsr, xno, xsk, xrt, xsj, xtx, xtl, xcr, eN, eC, eD, eT, eH, eR, tE, tN) (nI i) := by
  unfold sp_sc at h
  by_cases a : i < n
  · rw [if_pos a] at h
    obtain ⟨q, hq, e⟩ := hc i (by omega)
    refine br_f (nI_pos (by omega)) (br_t (nI_lt a (by omega)) ⟨vp_in_nI (by omega) (by omega), ?_⟩)
    rw [sm_cl (by omega)]
    exact ⟨by rw [e]; exact (pk_charN hq).1, h⟩
  · rw [if_neg a] at h
    exact br_f (nI_pos (by omega)) (br_f (nI_nlt (by omega) (by omega)) h)
theorem sx_vc {w i l : Nat} (hw : w < 8) (el : xtl w = nI l) (hl : l ≤ 16) (hi : i < l) (hc : sp_ch xtx 128) (h : post (xtx (w * 16 + i))) : wpX_varChar post (xms, xsl, xdl, xnc, xsd, xn, xlr, xls, xle, xst, xnw, xtc, xtu, xtn, xcu, xtd, xtt, xsr, xno, xsk, xrt, xsj, xtx, xtl, xcr, eN, eC, eD, eT, eH, eR, tE, tN) (nI w) (nI i) := by
  have g : nI i < xtl (nI w).toNatClampNeg := by rw [sm_cl (by omega), el]; exact nI_lt hi (by omega)
  have ei : nI w * 16 + nI i = nI (w * 16 + i) := by rw [sm_16, pk_mul, nI_add]
  obtain ⟨q, hq, e⟩ := hc (w * 16 + i) (by omega)
  refine br_f (nI_pos (by omega)) (br_f (nI_ge (b := 8) hw (by omega)) (br_f (nI_pos (by omega)) ⟨vp_in_nI hw (by omega), br_t g ?_⟩))
  rw [ei, sm_cl (by omega)]
  exact ⟨vp_in_nI (by omega) (by omega), by rw [e]; exact (pk_charN hq).1, h⟩
theorem sx_nf {i f nc : Nat} (hi : i < 1000) (hf : f < 5) (hn : nc ≤ 32) (h1 : i < nc → post (xno (5 * i + f))) (h0 : nc ≤ i → post (-1)) : wpX_nodeField post (xms, xsl, xdl, nI nc, xsd, xn, xlr, xls, xle, xst, xnw, xtc, xtu, xtn, xcu, xtd, xtt, xsr, xno, xsk, xrt, xsj, xtx, xtl, xcr, eN, eC, eD, eT, eH, eR, tE, tN) (nI i) (nI f) := by
  by_cases a : nc ≤ i
  · exact br_f (nI_pos (by omega)) (br_t (nI_le a (by omega)) (h0 a))
  · refine br_f (nI_pos (by omega)) (br_f (nI_ge (by omega) (by omega)) (br_f (nI_pos (by omega)) (br_t (sm_lt 5 hf (by omega)) ?_)))
    exact ⟨sm_in5 f (by omega) hf, by rw [sm_ix5, sm_cl (by omega)]; exact h1 (by omega)⟩
end
def sm_fill (g : Nat → Int32) (x : Int32) : Nat → Nat → Int32
  | 0 => g
  | i + 1 => upd (sm_fill g x i) i x
theorem sm_fill_lt {g : Nat → Int32} {x : Int32} : ∀ i j, j < i → sm_fill g x i j = x := by
  intro i
  induction i with
  | zero => intro j h; omega
  | succ i ih =>
    intro j h
    unfold sm_fill
    by_cases q : j = i
    · rw [q, pk_us]
    · rw [pk_un q]; exact ih j (by omega)
section
variable {xms xsl xdl xnc xsd xn xlr xls xle xst xnw xtc xtu xtn xcu xtd xtt xsr : Int32} {xno xsk xrt xsj xtx xtl xcr eN eC eD eT eH eR tE tN : Nat → Int32}
theorem sx_empty {post : St2 → Prop} : ∀ d i m, i + d = 8 → d < m → post (xms, xsl, xdl, xnc, xsd, xn, xlr, xls, xle, xst, xnw, xtc, xtu, xtn, xcu, xtd, xtt, xsr, xno, xsk, xrt, xsj, xtx, sm_fill xtl 0 8, sm_fill xcr (-1) 8, eN, eC, eD, eT, eH, eR, tE, tN) →
    wX_emptyVars_2 post xms xsl xdl xnc xsd xn xlr xls xle xst xnw xtc xtu xtn xcu xtd xtt xsr m (nI i) xno xsk xrt xsj xtx (sm_fill xtl 0 i) (sm_fill xcr (-1) i) eN eC eD eT eH eR tE tN := by
  intro d
  induction d with
  | zero =>
    intro i m h hm hp
    obtain ⟨m, rfl⟩ : ∃ k, m = k + 1 := ⟨m - 1, by omega⟩
    have e : i = 8 := by omega
    subst e
    exact br_t (nI_le (a := 8) (Nat.le_refl 8) (by omega)) hp
  | succ d ih =>
    intro i m h hm hp
    obtain ⟨m, rfl⟩ : ∃ k, m = k + 1 := ⟨m - 1, by omega⟩
    have vi : vp_in (nI i) 8 := vp_in_nI (by omega) (by omega)
    exact br_f (nI_ge (b := 8) (by omega) (by omega)) ⟨vi, nm_r (sm_up (by omega)) ⟨vi, nm_r (sm_up (by omega)) (nm_r (nI_1 i) (ih (i + 1) m (by omega) (by omega) hp))⟩⟩
theorem sx_emptyVars {post : St2 → Prop} (hp : post (xms, xsl, xdl, xnc, xsd, xn, xlr, xls, xle, xst, xnw, xtc, xtu, xtn, xcu, xtd, xtt, xsr, xno, xsk, xrt, xsj, xtx, sm_fill xtl 0 8, sm_fill xcr (-1) 8, eN, eC, eD, eT, eH, eR, tE, tN)) : wpX_emptyVars post (xms, xsl, xdl, xnc, xsd, xn, xlr, xls, xle, xst, xnw, xtc, xtu, xtn, xcu, xtd, xtt, xsr, xno, xsk, xrt, xsj, xtx, xtl, xcr, eN, eC, eD, eT, eH, eR, tE, tN) :=
  ⟨9, sx_empty 8 0 9 (by omega) (by omega) hp⟩
theorem sx_roots {post : St2 → Prop} : ∀ d i m, i + d = 4 → d < m → post (xms, xsl, xdl, xnc, xsd, 0, 3, -1, -1, xst, xnw, xtc, xtu, xtn, xcu, xtd, xtt, xsr, xno, xsk, sm_fill xrt (-1) 4, xsj, xtx, sm_fill xtl 0 8, sm_fill xcr (-1) 8, eN, eC, eD, eT, eH, eR, tE, tN) →
    wX_setInitialState_12 post xms xsl xdl xnc xsd xn xlr xls xle xst xnw xtc xtu xtn xcu xtd xtt xsr m (nI i) xno xsk (sm_fill xrt (-1) i) xsj xtx xtl xcr eN eC eD eT eH eR tE tN := by
  intro d
  induction d with
  | zero =>
    intro i m h hm hp
    obtain ⟨m, rfl⟩ : ∃ k, m = k + 1 := ⟨m - 1, by omega⟩
    have e : i = 4 := by omega
    subst e
    exact br_t (nI_le (a := 4) (Nat.le_refl 4) (by omega)) (sx_emptyVars hp)
  | succ d ih =>
    intro i m h hm hp
    obtain ⟨m, rfl⟩ : ∃ k, m = k + 1 := ⟨m - 1, by omega⟩
    have vi : vp_in (nI i) 4 := vp_in_nI (by omega) (by omega)
    exact br_f (nI_ge (b := 4) (by omega) (by omega)) ⟨vi, nm_r (sm_up (by omega)) (nm_r (nI_1 i) (ih (i + 1) m (by omega) (by omega) hp))⟩
theorem sx_initial {post : St2 → Prop} (hp : post (xms, xsl, xdl, 0, 0, 0, 3, -1, -1, xst, xnw, xtc, xtu, xtn, xcu, xtd, xtt, xsr, xno, xsk, sm_fill xrt (-1) 4, xsj, xtx, sm_fill xtl 0 8, sm_fill xcr (-1) 8, eN, eC, eD, eT, eH, eR, tE, tN)) : wpX_setInitialState post (xms, xsl, xdl, xnc, xsd, xn, xlr, xls, xle, xst, xnw, xtc, xtu, xtn, xcu, xtd, xtt, xsr, xno, xsk, xrt, xsj, xtx, xtl, xcr, eN, eC, eD, eT, eH, eR, tE, tN) :=
  ⟨5, sx_roots 4 0 5 (by omega) (by omega) hp⟩
theorem sp_ok0 {ms lim : Nat} (hm : ms ≤ 16) (hl : lim ≤ 250) (hs : sp_ch xsj 16) (hx : sp_ch xtx 128) : sp_ok (nI ms) (nI lim) 0 0 0 xno xsk (sm_fill xrt (-1) 4) xsj xtx (sm_fill xtl 0 8) :=
  ⟨ms, lim, 0, 0, 0, rfl, hm, rfl, rfl, rfl, by omega, rfl, by omega, ⟨by omega, hl, by omega, fun i hi => absurd hi (by omega), fun v hv => Or.inl (sm_fill_lt 4 v hv), hs⟩, fun i hi => absurd hi (by omega), hx, fun w hw => ⟨0, by omega, sm_fill_lt 8 w hw⟩⟩
variable {post : St2 → Prop}
theorem sp_clearAll (O : sp_ok xms xsl xnc xsd xn xno xsk xrt xsj xtx xtl) (hp : ∀ (xms xsl xdl xnc xsd xn xlr xls xle xst xnw xtc xtu xtn xcu xtd xtt xsr : Int32) (xno xsk xrt xsj xtx xtl xcr eN eC eD eT eH eR tE tN : Nat → Int32), sp_ok xms xsl xnc xsd xn xno xsk xrt xsj xtx xtl → post (xms, xsl, xdl, xnc, xsd, xn, xlr, xls, xle, xst, xnw, xtc, xtu, xtn, xcu, xtd, xtt, xsr, xno, xsk, xrt, xsj, xtx, xtl, xcr, eN, eC, eD, eT, eH, eR, tE, tN)) : wpX_clearAll post (xms, xsl, xdl, xnc, xsd, xn, xlr, xls, xle, xst, xnw, xtc, xtu, xtn, xcu, xtd, xtt, xsr, xno, xsk, xrt, xsj, xtx, xtl, xcr, eN, eC, eD, eT, eH, eR, tE, tN) := by
  obtain ⟨ms, lim, nc, sp, n, rfl, o1, rfl, rfl, rfl, o2, rfl, o3, C, o4, o5, o6⟩ := O
  unfold wpX_clearAll
  refine sx_initial ?_
  exact hp _ _ _ _ _ _ _ _ _ _ _ _ _ _ _ _ _ _ _ _ _ _ _ _ _ _ _ _ _ _ _ _ _ (sp_ok0 o1 C.2.1 C.2.2.2.2.2 o5)
theorem sp_clearVars (O : sp_ok xms xsl xnc xsd xn xno xsk xrt xsj xtx xtl) (hp : ∀ (xms xsl xdl xnc xsd xn xlr xls xle xst xnw xtc xtu xtn xcu xtd xtt xsr : Int32) (xno xsk xrt xsj xtx xtl xcr eN eC eD eT eH eR tE tN : Nat → Int32), sp_ok xms xsl xnc xsd xn xno xsk xrt xsj xtx xtl → post (xms, xsl, xdl, xnc, xsd, xn, xlr, xls, xle, xst, xnw, xtc, xtu, xtn, xcu, xtd, xtt, xsr, xno, xsk, xrt, xsj, xtx, xtl, xcr, eN, eC, eD, eT, eH, eR, tE, tN)) : wpX_clearVars post (xms, xsl, xdl, xnc, xsd, xn, xlr, xls, xle, xst, xnw, xtc, xtu, xtn, xcu, xtd, xtt, xsr, xno, xsk, xrt, xsj, xtx, xtl, xcr, eN, eC, eD, eT, eH, eR, tE, tN) := by
  obtain ⟨ms, lim, nc, sp, n, rfl, o1, rfl, rfl, rfl, o2, rfl, o3, C, o4, o5, o6⟩ := O
  unfold wpX_clearVars
  refine sx_emptyVars ?_
  exact hp _ _ _ _ _ _ _ _ _ _ _ _ _ _ _ _ _ _ _ _ _ _ _ _ _ _ _ _ _ _ _ _ _ ⟨ms, lim, nc, sp, n, rfl, o1, rfl, rfl, rfl, o2, rfl, o3, C, o4, o5, fun w hw => ⟨0, by omega, sm_fill_lt 8 w hw⟩⟩
theorem sp_clearSubject (O : sp_ok xms xsl xnc xsd xn xno xsk xrt xsj xtx xtl) (hp : ∀ (xms xsl xdl xnc xsd xn xlr xls xle xst xnw xtc xtu xtn xcu xtd xtt xsr : Int32) (xno xsk xrt xsj xtx xtl xcr eN eC eD eT eH eR tE tN : Nat → Int32), sp_ok xms xsl xnc xsd xn xno xsk xrt xsj xtx xtl → post (xms, xsl, xdl, xnc, xsd, xn, xlr, xls, xle, xst, xnw, xtc, xtu, xtn, xcu, xtd, xtt, xsr, xno, xsk, xrt, xsj, xtx, xtl, xcr, eN, eC, eD, eT, eH, eR, tE, tN)) : wpX_clearSubject post (xms, xsl, xdl, xnc, xsd, xn, xlr, xls, xle, xst, xnw, xtc, xtu, xtn, xcu, xtd, xtt, xsr, xno, xsk, xrt, xsj, xtx, xtl, xcr, eN, eC, eD, eT, eH, eR, tE, tN) := by
  obtain ⟨ms, lim, nc, sp, n, rfl, o1, rfl, rfl, rfl, o2, rfl, o3, C, o4, o5, o6⟩ := O
  exact hp _ _ _ _ _ _ _ _ _ _ _ _ _ _ _ _ _ _ _ _ _ _ _ _ _ _ _ _ _ _ _ _ _ ⟨ms, lim, nc, sp, 0, rfl, o1, rfl, rfl, rfl, o2, rfl, by omega, ⟨C.1, C.2.1, by omega, C.2.2.2⟩, o4, o5, o6⟩
end
section
variable {xms xsl xdl xnc xsd xn xlr xls xle xst xnw xtc xtu xtn xcu xtd xtt xsr : Int32} {xno xsk xrt xsj xtx xtl xcr eN eC eD eT eH eR tE tN : Nat → Int32}
variable {post : Int32 → St2 → Prop}
theorem sp_define {p : Int32} (O : sp_ok xms xsl xnc xsd xn xno xsk xrt xsj xtx xtl) (hp : ∀ (r : Int32) (xms xsl xdl xnc xsd xn xlr xls xle xst xnw xtc xtu xtn xcu xtd xtt xsr : Int32) (xno xsk xrt xsj xtx xtl xcr eN eC eD eT eH eR tE tN : Nat → Int32), sp_ok xms xsl xnc xsd xn xno xsk xrt xsj xtx xtl → post r (xms, xsl, xdl, xnc, xsd, xn, xlr, xls, xle, xst, xnw, xtc, xtu, xtn, xcu, xtd, xtt, xsr, xno, xsk, xrt, xsj, xtx, xtl, xcr, eN, eC, eD, eT, eH, eR, tE, tN)) : wpX_define post (xms, xsl, xdl, xnc, xsd, xn, xlr, xls, xle, xst, xnw, xtc, xtu, xtn, xcu, xtd, xtt, xsr, xno, xsk, xrt, xsj, xtx, xtl, xcr, eN, eC, eD, eT, eH, eR, tE, tN) p := by
  have O' := O
  obtain ⟨ms, lim, nc, sp, n, rfl, o1, rfl, rfl, rfl, o2, rfl, o3, C, o4, o5, o6⟩ := O
  rcases pk_ix p (n := 4) (by omega) with h | h | ⟨v, hv, rfl⟩
  · exact br_t h (hp _ _ _ _ _ _ _ _ _ _ _ _ _ _ _ _ _ _ _ _ _ _ _ _ _ _ _ _ _ _ _ _ _ _ O')
  · exact br_f (sm_b0 h (by omega)) (br_f (sm_bl h) (hp _ _ _ _ _ _ _ _ _ _ _ _ _ _ _ _ _ _ _ _ _ _ _ _ _ _ _ _ _ _ _ _ _ _ O'))
  · by_cases s0 : sp = 0
    · subst s0
      exact br_f (nI_pos (by omega)) (br_t (sm_lt 4 hv (by omega)) (br_t rfl (hp _ _ _ _ _ _ _ _ _ _ _ _ _ _ _ _ _ _ _ _ _ _ _ _ _ _ _ _ _ _ _ _ _ _ O')))
    · obtain ⟨s, rfl⟩ : ∃ s, sp = s + 1 := ⟨sp - 1, by omega⟩
      obtain ⟨l, hl, el⟩ := o4 s (by omega)
      have vv : vp_in (nI v) 4 := vp_in_nI hv (by omega)
      refine br_f (nI_pos (by omega)) (br_t (sm_lt 4 hv (by omega)) (br_f (nI_ne0 (by omega) (by omega)) (nm_r (nI_pred s) ⟨vp_in_nI (by omega) (by omega), vv, nm_r (sm_up (by omega)) ⟨vv, ?_⟩⟩)))
      refine hp _ _ _ _ _ _ _ _ _ _ _ _ _ _ _ _ _ _ _ _ _ _ _ _ _ _ _ _ _ _ _ _ _ _ ⟨ms, lim, nc, s, n, rfl, o1, rfl, rfl, rfl, by omega, rfl, o3, ⟨C.1, C.2.1, C.2.2.1, C.2.2.2.1, ?_, C.2.2.2.2.2⟩, fun i hi => o4 i (by omega), o5, o6⟩
      intro w hw
      by_cases q : w = v
      · rw [q, pk_us]; exact Or.inr ⟨l, hl, sm_cg (by omega) el⟩
      · rw [pk_un q]; exact C.2.2.2.2.1 w hw
theorem sp_addc {p : Int32} (O : sp_ok xms xsl xnc xsd xn xno xsk xrt xsj xtx xtl) (hp : ∀ (r : Int32) (xms xsl xdl xnc xsd xn xlr xls xle xst xnw xtc xtu xtn xcu xtd xtt xsr : Int32) (xno xsk xrt xsj xtx xtl xcr eN eC eD eT eH eR tE tN : Nat → Int32), sp_ok xms xsl xnc xsd xn xno xsk xrt xsj xtx xtl → post r (xms, xsl, xdl, xnc, xsd, xn, xlr, xls, xle, xst, xnw, xtc, xtu, xtn, xcu, xtd, xtt, xsr, xno, xsk, xrt, xsj, xtx, xtl, xcr, eN, eC, eD, eT, eH, eR, tE, tN)) : wpX_addSubjectChar post (xms, xsl, xdl, xnc, xsd, xn, xlr, xls, xle, xst, xnw, xtc, xtu, xtn, xcu, xtd, xtt, xsr, xno, xsk, xrt, xsj, xtx, xtl, xcr, eN, eC, eD, eT, eH, eR, tE, tN) p := by
  have O' := O
  obtain ⟨ms, lim, nc, sp, n, rfl, o1, rfl, rfl, rfl, o2, rfl, o3, C, o4, o5, o6⟩ := O
  refine br_c (fun _ => hp _ _ _ _ _ _ _ _ _ _ _ _ _ _ _ _ _ _ _ _ _ _ _ _ _ _ _ _ _ _ _ _ _ _ O') (fun _ => br_c (fun _ => ?_) (fun _ => hp _ _ _ _ _ _ _ _ _ _ _ _ _ _ _ _ _ _ _ _ _ _ _ _ _ _ _ _ _ _ _ _ _ _ O'))
  by_cases q : n < ms
  · refine br_t (nI_lt q (by omega)) ⟨vp_in_nI (by omega) (by omega), nm_r (sm_up (by omega)) (nm_r (nI_1 n) ?_)⟩
    refine hp _ _ _ _ _ _ _ _ _ _ _ _ _ _ _ _ _ _ _ _ _ _ _ _ _ _ _ _ _ _ _ _ _ _ ⟨ms, lim, nc, sp, n + 1, rfl, o1, rfl, rfl, rfl, o2, rfl, q, ⟨C.1, C.2.1, by omega, C.2.2.2.1, C.2.2.2.2.1, ?_⟩, o4, o5, o6⟩
    intro i hi
    by_cases z : i = n
    · rw [z, pk_us]; exact ⟨_, Nat.mod_lt _ (by omega), pk_char p⟩
    · rw [pk_un z]; exact C.2.2.2.2.2 i hi
  · exact br_f (nI_nlt (by omega) (by omega)) (hp _ _ _ _ _ _ _ _ _ _ _ _ _ _ _ _ _ _ _ _ _ _ _ _ _ _ _ _ _ _ _ _ _ _ O')
end
theorem sm_u5 {g : Nat → Int32} {i : Nat} (f : Nat) {x y : Int32} (h : x = y) : upd g (nI i * 5 + nI f).toNatClampNeg x = upd g ((nI i * 5 + nI f).toNatClampNeg) y := by rw [h]
theorem sm_i5 {i : Nat} (f : Nat) (hi : i < 32) (hf : f < 5) : (nI i * 5 + nI f).toNatClampNeg = 5 * i + f := by rw [sm_ix5, sm_cl (by omega)]
/-- the five cells of node i written -/
def sm_five (g : Nat → Int32) (i : Nat) (x0 x1 x2 x3 x4 : Int32) : Nat → Int32 :=
  upd (upd (upd (upd (upd g (nI i * 5 + nI 0).toNatClampNeg x0) (nI i * 5 + nI 1).toNatClampNeg x1) (nI i * 5 + nI 2).toNatClampNeg x2) (nI i * 5 + nI 3).toNatClampNeg x3) (nI i * 5 + nI 4).toNatClampNeg x4
theorem sm_five_o {g : Nat → Int32} {i j : Nat} {x0 x1 x2 x3 x4 : Int32} (hi : i < 32) (h : j < 5 * i) : sm_five g i x0 x1 x2 x3 x4 j = g j := by
  unfold sm_five
  rw [sm_i5 0 hi (by omega), sm_i5 1 hi (by omega), sm_i5 2 hi (by omega), sm_i5 3 hi (by omega), sm_i5 4 hi (by omega), pk_un (by omega), pk_un (by omega), pk_un (by omega), pk_un (by omega), pk_un (by omega)]
theorem sm_five_n {g : Nat → Int32} {i : Nat} {x0 x1 x2 x3 x4 : Int32} (hi : i < 32) : sm_five g i x0 x1 x2 x3 x4 (5 * i) = x0 ∧ sm_five g i x0 x1 x2 x3 x4 (5 * i + 1) = x1 ∧ sm_five g i x0 x1 x2 x3 x4 (5 * i + 2) = x2 ∧ sm_five g i x0 x1 x2 x3 x4 (5 * i + 3) = x3 ∧ sm_five g i x0 x1 x2 x3 x4 (5 * i + 4) = x4 := by
  unfold sm_five
  rw [sm_i5 0 hi (by omega), sm_i5 1 hi (by omega), sm_i5 2 hi (by omega), sm_i5 3 hi (by omega), sm_i5 4 hi (by omega)]
  refine ⟨?_, ?_, ?_, ?_, ?_⟩
  · rw [pk_un (by omega), pk_un (by omega), pk_un (by omega), pk_un (by omega)]; exact pk_us
  · rw [pk_un (by omega), pk_un (by omega), pk_un (by omega), pk_us]
  · rw [pk_un (by omega), pk_un (by omega), pk_us]
  · rw [pk_un (by omega), pk_us]
  · rw [pk_us]
def sp_gv : Nat → Int32
  | 1 => 65535
  | 4 => 16
  | 5 => 16
  | 6 => 16
  | 7 => 65535
  | 8 => 65535
  | 9 => 65535
  | 11 => 7
  | 12 => 3
  | 15 => 7
  | 16 => 7
  | _ => -1
theorem sp_k18 {P : Nat → Prop} (h1 : P 1) (h2 : P 2) (h3 : P 3) (h4 : P 4) (h5 : P 5) (h6 : P 6) (h7 : P 7) (h8 : P 8) (h9 : P 9) (h10 : P 10) (h11 : P 11) (h12 : P 12) (h13 : P 13) (h14 : P 14) (h15 : P 15) (h16 : P 16) (h17 : P 17) (h18 : P 18) {k : Nat} (k1 : 1 ≤ k) (k18 : k ≤ 18) : P k := by
  have ks : k = 1 ∨ k = 2 ∨ k = 3 ∨ k = 4 ∨ k = 5 ∨ k = 6 ∨ k = 7 ∨ k = 8 ∨ k = 9 ∨ k = 10 ∨ k = 11 ∨ k = 12 ∨ k = 13 ∨ k = 14 ∨ k = 15 ∨ k = 16 ∨ k = 17 ∨ k = 18 := by omega
  rcases ks with rfl | rfl | rfl | rfl | rfl | rfl | rfl | rfl | rfl | rfl | rfl | rfl | rfl | rfl | rfl | rfl | rfl | rfl
  · exact h1
  · exact h2
  · exact h3
  · exact h4
  · exact h5
  · exact h6
  · exact h7
  · exact h8
  · exact h9
  · exact h10
  · exact h11
  · exact h12
  · exact h13
  · exact h14
  · exact h15
  · exact h16
  · exact h17
  · exact h18
theorem sx_ga {post : Int32 → Prop} {k : Nat} (k1 : 1 ≤ k) (k18 : k ≤ 18) : post (sp_gv k) → wpX_greatestA post () (nI k) :=
  sp_k18 (P := fun k => post (sp_gv k) → wpX_greatestA post () (nI k))
    (fun h => br_f (by decide) (br_f (by decide) (br_t rfl (h))))
    (fun h => br_f (by decide) (br_f (by decide) (br_f (by decide) (br_t rfl (h)))))
    (fun h => br_f (by decide) (br_f (by decide) (br_f (by decide) (br_f (by decide) (br_t rfl (h))))))
    (fun h => br_f (by decide) (br_f (by decide) (br_f (by decide) (br_f (by decide) (br_f (by decide) (br_t rfl (h)))))))
    (fun h => br_f (by decide) (br_f (by decide) (br_f (by decide) (br_f (by decide) (br_f (by decide) (br_f (by decide) (br_t rfl (h))))))))
    (fun h => br_f (by decide) (br_f (by decide) (br_f (by decide) (br_f (by decide) (br_f (by decide) (br_f (by decide) (br_f (by decide) (br_t rfl (h)))))))))
    (fun h => br_f (by decide) (br_f (by decide) (br_f (by decide) (br_f (by decide) (br_f (by decide) (br_f (by decide) (br_f (by decide) (br_f (by decide) (br_t rfl (h))))))))))
    (fun h => br_f (by decide) (br_f (by decide) (br_f (by decide) (br_f (by decide) (br_f (by decide) (br_f (by decide) (br_f (by decide) (br_f (by decide) (br_f (by decide) (br_t rfl (h)))))))))))
    (fun h => br_f (by decide) (br_f (by decide) (br_f (by decide) (br_f (by decide) (br_f (by decide) (br_f (by decide) (br_f (by decide) (br_f (by decide) (br_f (by decide) (br_f (by decide) (br_t rfl (h))))))))))))
    (fun h => br_f (by decide) (br_f (by decide) (br_f (by decide) (br_f (by decide) (br_f (by decide) (br_f (by decide) (br_f (by decide) (br_f (by decide) (br_f (by decide) (br_f (by decide) (br_f (by decide) (br_t rfl (h)))))))))))))
    (fun h => br_f (by decide) (br_f (by decide) (br_f (by decide) (br_f (by decide) (br_f (by decide) (br_f (by decide) (br_f (by decide) (br_f (by decide) (br_f (by decide) (br_f (by decide) (br_f (by decide) (br_f (by decide) (br_t rfl (h))))))))))))))
    (fun h => br_f (by decide) (br_f (by decide) (br_f (by decide) (br_f (by decide) (br_f (by decide) (br_f (by decide) (br_f (by decide) (br_f (by decide) (br_f (by decide) (br_f (by decide) (br_f (by decide) (br_f (by decide) (br_f (by decide) (br_t rfl (h)))))))))))))))
    (fun h => br_f (by decide) (br_f (by decide) (br_f (by decide) (br_f (by decide) (br_f (by decide) (br_f (by decide) (br_f (by decide) (br_f (by decide) (br_f (by decide) (br_f (by decide) (br_f (by decide) (br_f (by decide) (br_f (by decide) (br_f (by decide) (br_t rfl (h))))))))))))))))
    (fun h => br_f (by decide) (br_f (by decide) (br_f (by decide) (br_f (by decide) (br_f (by decide) (br_f (by decide) (br_f (by decide) (br_f (by decide) (br_f (by decide) (br_f (by decide) (br_f (by decide) (br_f (by decide) (br_f (by decide) (br_f (by decide) (br_f (by decide) (br_t rfl (h)))))))))))))))))
    (fun h => br_f (by decide) (br_f (by decide) (br_f (by decide) (br_f (by decide) (br_f (by decide) (br_f (by decide) (br_f (by decide) (br_f (by decide) (br_f (by decide) (br_f (by decide) (br_f (by decide) (br_f (by decide) (br_f (by decide) (br_f (by decide) (br_f (by decide) (br_f (by decide) (br_t rfl (h))))))))))))))))))
    (fun h => br_f (by decide) (br_f (by decide) (br_f (by decide) (br_f (by decide) (br_f (by decide) (br_f (by decide) (br_f (by decide) (br_f (by decide) (br_f (by decide) (br_f (by decide) (br_f (by decide) (br_f (by decide) (br_f (by decide) (br_f (by decide) (br_f (by decide) (br_f (by decide) (br_f (by decide) (br_t rfl (h)))))))))))))))))))
    (fun h => br_f (by decide) (br_t (by decide) (h)))
    (fun h => br_f (by decide) (br_t (by decide) (h)))
    k1 k18
theorem sx_hr {post : Int32 → Prop} {p : Int32} (h0 : post 0) (h1 : post 1) : wpX_hasRange post () p :=
  br_c (fun _ => h1) (fun _ => br_c (fun _ => h1) (fun _ => br_c (fun _ => h1) (fun _ => h0)))
/-- what the arguments hold if they fit -/
def sp_fit (k : Nat) (p1 : Int32) : Prop := sp_gv k = -1 ∨ ∃ a, a < 65536 ∧ p1 = nI a ∧ (k = 12 → a ≤ 3) ∧ (k = 11 ∨ k = 15 ∨ k = 16 → a ≤ 7)
theorem sp_fits {k : Nat} (k1 : 1 ≤ k) (k18 : k ≤ 18) {p1 : Int32} (c0 : ¬ p1 < 0) : p1 ≤ sp_gv k → sp_fit k p1 :=
  sp_k18 (P := fun k => p1 ≤ sp_gv k → sp_fit k p1)
    (fun c1 => by obtain ⟨a, ha, e⟩ := nI_of2 (M := 65535) (n := 65535) (by decide) c0 c1; exact Or.inr ⟨a, by omega, e, fun _ => by omega, fun _ => by omega⟩)
    (fun _ => Or.inl rfl)
    (fun _ => Or.inl rfl)
    (fun c1 => by obtain ⟨a, ha, e⟩ := nI_of2 (M := 16) (n := 16) (by decide) c0 c1; exact Or.inr ⟨a, by omega, e, fun _ => by omega, fun _ => by omega⟩)
    (fun c1 => by obtain ⟨a, ha, e⟩ := nI_of2 (M := 16) (n := 16) (by decide) c0 c1; exact Or.inr ⟨a, by omega, e, fun _ => by omega, fun _ => by omega⟩)
    (fun c1 => by obtain ⟨a, ha, e⟩ := nI_of2 (M := 16) (n := 16) (by decide) c0 c1; exact Or.inr ⟨a, by omega, e, fun _ => by omega, fun _ => by omega⟩)
    (fun c1 => by obtain ⟨a, ha, e⟩ := nI_of2 (M := 65535) (n := 65535) (by decide) c0 c1; exact Or.inr ⟨a, by omega, e, fun _ => by omega, fun _ => by omega⟩)
    (fun c1 => by obtain ⟨a, ha, e⟩ := nI_of2 (M := 65535) (n := 65535) (by decide) c0 c1; exact Or.inr ⟨a, by omega, e, fun _ => by omega, fun _ => by omega⟩)
    (fun c1 => by obtain ⟨a, ha, e⟩ := nI_of2 (M := 65535) (n := 65535) (by decide) c0 c1; exact Or.inr ⟨a, by omega, e, fun _ => by omega, fun _ => by omega⟩)
    (fun _ => Or.inl rfl)
    (fun c1 => by obtain ⟨a, ha, e⟩ := nI_of2 (M := 7) (n := 7) (by decide) c0 c1; exact Or.inr ⟨a, by omega, e, fun _ => by omega, fun _ => by omega⟩)
    (fun c1 => by obtain ⟨a, ha, e⟩ := nI_of2 (M := 3) (n := 3) (by decide) c0 c1; exact Or.inr ⟨a, by omega, e, fun _ => by omega, fun _ => by omega⟩)
    (fun _ => Or.inl rfl)
    (fun _ => Or.inl rfl)
    (fun c1 => by obtain ⟨a, ha, e⟩ := nI_of2 (M := 7) (n := 7) (by decide) c0 c1; exact Or.inr ⟨a, by omega, e, fun _ => by omega, fun _ => by omega⟩)
    (fun c1 => by obtain ⟨a, ha, e⟩ := nI_of2 (M := 7) (n := 7) (by decide) c0 c1; exact Or.inr ⟨a, by omega, e, fun _ => by omega, fun _ => by omega⟩)
    (fun _ => Or.inl rfl)
    (fun _ => Or.inl rfl)
    k1 k18
theorem sx_fit {post : Int32 → Prop} {k : Nat} (k1 : 1 ≤ k) (k18 : k ≤ 18) {p1 p2 : Int32} (h0 : post 0) (h1 : sp_fit k p1 → post 1) : wpX_argumentsFit post () (nI k) p1 p2 := by
  unfold wpX_argumentsFit
  refine sx_ga k1 k18 (br_c (fun q => h1 (Or.inl q)) (fun _ => br_c (fun _ => h0) (fun c0 => br_c (fun c1 => ?_) (fun _ => h0))))
  have f := h1 (sp_fits k1 k18 c0 c1)
  exact sx_hr (br_t rfl f) (br_f (by decide) (br_c (fun _ => h0) (fun _ => br_c (fun _ => h0) (fun _ => f))))
section
variable {xms xsl xdl xnc xsd xn xlr xls xle xst xnw xtc xtu xtn xcu xtd xtt xsr : Int32} {xno xsk xrt xsj xtx xtl xcr eN eC eD eT eH eR tE tN : Nat → Int32}
variable {post : Int32 → St2 → Prop}
theorem sp_tail {k nc s : Nat} {p1 p2 xr xl : Int32} (k1 : 1 ≤ k) (k18 : k ≤ 18) (n32 : nc < 32) (hs : s < 16)
    (h : ∀ xa xb : Int32, ((sp_gv k = -1 ∧ xa = 0) ∨ (¬ sp_gv k = -1 ∧ xa = p1)) → post (nI nc) (xms, xsl, xdl, nI (nc + 1), nI (s + 1), xn, xlr, xls, xle, xst, xnw, xtc, xtu, xtn, xcu, xtd, xtt, xsr, sm_five xno nc (nI k) xa xb xl xr, upd xsk s (nI nc), xrt, xsj, xtx, xtl, xcr, eN, eC, eD, eT, eH, eR, tE, tN)) :
    wX_push_102 post (nI k) p1 p2 xr xl xms xsl xdl (nI nc) (nI s) xn xlr xls xle xst xnw xtc xtu xtn xcu xtd xtt xsr xno xsk xrt xsj xtx xtl xcr eN eC eD eT eH eR tE tN := by
  have vs : vp_in (nI s) 16 := vp_in_nI hs (by omega)
  have T : ∀ xa xb : Int32, ((sp_gv k = -1 ∧ xa = 0) ∨ (¬ sp_gv k = -1 ∧ xa = p1)) → wX_push_168 post xr xl (nI nc) (nI nc * 5) xb (nI nc * 5 + 2) xms xsl xdl (nI nc) (nI s) xn xlr xls xle xst xnw xtc xtu xtn xcu xtd xtt xsr (upd (upd xno (nI nc * 5 + nI 0).toNatClampNeg (nI k)) (nI nc * 5 + nI 1).toNatClampNeg xa) xsk xrt xsj xtx xtl xcr eN eC eD eT eH eR tE tN := fun xa xb q =>
    ⟨sm_in5 2 n32 (by omega), nm_r (sm_u5 2 rfl) ⟨sm_in5 3 n32 (by omega), nm_r (sm_u5 3 rfl) ⟨sm_in5 4 n32 (by omega), nm_r (sm_u5 4 rfl) (nm_r (nI_1 nc) ⟨vs, nm_r (sm_up (by omega)) (nm_r (nI_1 s) (h xa xb q))⟩)⟩⟩⟩
  refine nm_e ⟨sm_in5 0 n32 (by omega), nm_r (sm_u5 0 rfl) (sx_ga k1 k18 (br_c (fun q => ?_) (fun q => ?_)))⟩
  · exact ⟨sm_in5 1 n32 (by omega), nm_r (sm_u5 1 rfl) (sx_hr (br_t rfl (T 0 0 (Or.inl ⟨q, rfl⟩))) (br_f (by decide) (T 0 p2 (Or.inl ⟨q, rfl⟩))))⟩
  · exact ⟨sm_in5 1 n32 (by omega), nm_r (sm_u5 1 rfl) (sx_hr (br_t rfl (T p1 0 (Or.inr ⟨q, rfl⟩))) (br_f (by decide) (T p1 p2 (Or.inr ⟨q, rfl⟩))))⟩
end
theorem sp_5 {i nc f : Nat} (h : i < nc + 1) (q : ¬ i = nc) (hf : f < 5) : 5 * i + f < 5 * nc := by omega
theorem sp_Cn {lim nc n k : Nat} {xno xrt xsj : Nat → Int32} {xa xb xl xr p1 : Int32} (C : sp_C lim nc n xno xrt xsj) (n32 : nc < 32) (k1 : 1 ≤ k) (k18 : k ≤ 18) (f : sp_fit k p1)
    (ha : (sp_gv k = -1 ∧ xa = 0) ∨ (¬ sp_gv k = -1 ∧ xa = p1)) (c3 : 13 ≤ k → ∃ l, l < nc ∧ xl = nI l) (c4 : 17 ≤ k → ∃ l, l < nc ∧ xr = nI l) :
    sp_C lim (nc + 1) n (sm_five xno nc (nI k) xa xb xl xr) xrt xsj := by
  obtain ⟨C1, C2, C3, C4, C5, C6⟩ := C
  refine ⟨by omega, C2, C3, ?_, ?_, C6⟩
  · intro i hi
    by_cases q : i = nc
    · subst q
      obtain ⟨f0, f1, f2, f3, f4⟩ := sm_five_n (g := xno) (x0 := nI k) (x1 := xa) (x2 := xb) (x3 := xl) (x4 := xr) n32
      have fa : ∃ a, a < 65536 ∧ xa = nI a ∧ (k = 12 → a ≤ 3) ∧ (k = 11 ∨ k = 15 ∨ k = 16 → a ≤ 7) := by
        rcases ha with ⟨_, e⟩ | ⟨g, e⟩
        · exact ⟨0, by omega, e, fun _ => by omega, fun _ => by omega⟩
        · rcases f with z | z
          · exact absurd z g
          · rw [e]; exact z
      obtain ⟨a, a1, a2, a3, a4⟩ := fa
      refine ⟨k, a, k1, k18, a1, f0, by rw [f1]; exact a2, a3, a4, fun z => ?_, fun z => ?_⟩
      · obtain ⟨l, hl, e⟩ := c3 z
        exact ⟨l, by omega, by rw [f3]; exact e⟩
      · obtain ⟨l, hl, e⟩ := c4 z
        exact ⟨l, by omega, by rw [f4]; exact e⟩
    · obtain ⟨k', a, g1, g2, g3, g4, g5, g6, g7, g8, g9⟩ := C4 i (by omega)
      refine ⟨k', a, g1, g2, g3, by rw [sm_five_o n32 (show 5 * i < 5 * nc from sp_5 (f := 0) hi q (by decide))]; exact g4, by rw [sm_five_o n32 (sp_5 (f := 1) hi q (by decide))]; exact g5, g6, g7, fun z => ?_, fun z => ?_⟩
      · obtain ⟨l, hl, e⟩ := g8 z
        exact ⟨l, Nat.lt_succ_of_lt hl, by rw [sm_five_o n32 (sp_5 (f := 3) hi q (by decide))]; exact e⟩
      · obtain ⟨l, hl, e⟩ := g9 z
        exact ⟨l, Nat.lt_succ_of_lt hl, by rw [sm_five_o n32 (sp_5 (f := 4) hi q (by decide))]; exact e⟩
  · intro w hw
    rcases C5 w hw with z | ⟨r, hr, z⟩
    · exact Or.inl z
    · exact Or.inr ⟨r, by omega, z⟩
theorem sm_stk {g : Nat → Int32} {s sp nc : Nat} (h : ∀ i, i < sp → ∃ c, c < nc ∧ g i = nI c) (hs : s ≤ sp) : ∀ i, i < s + 1 → ∃ c, c < nc + 1 ∧ upd g s (nI nc) i = nI c := by
  intro i hi
  by_cases q : i = s
  · exact ⟨nc, by omega, by rw [q, pk_us]⟩
  · obtain ⟨c, hc, e⟩ := h i (by omega)
    exact ⟨c, by omega, by rw [pk_un q]; exact e⟩
section
variable {xms xsl xdl xnc xsd xn xlr xls xle xst xnw xtc xtu xtn xcu xtd xtt xsr : Int32} {xno xsk xrt xsj xtx xtl xcr eN eC eD eT eH eR tE tN : Nat → Int32}
variable {post : Int32 → St2 → Prop}
theorem sp_push {p0 p1 p2 : Int32} (O : sp_ok xms xsl xnc xsd xn xno xsk xrt xsj xtx xtl) (hp : ∀ (r : Int32) (xms xsl xdl xnc xsd xn xlr xls xle xst xnw xtc xtu xtn xcu xtd xtt xsr : Int32) (xno xsk xrt xsj xtx xtl xcr eN eC eD eT eH eR tE tN : Nat → Int32), sp_ok xms xsl xnc xsd xn xno xsk xrt xsj xtx xtl → post r (xms, xsl, xdl, xnc, xsd, xn, xlr, xls, xle, xst, xnw, xtc, xtu, xtn, xcu, xtd, xtt, xsr, xno, xsk, xrt, xsj, xtx, xtl, xcr, eN, eC, eD, eT, eH, eR, tE, tN)) : wpX_push post (xms, xsl, xdl, xnc, xsd, xn, xlr, xls, xle, xst, xnw, xtc, xtu, xtn, xcu, xtd, xtt, xsr, xno, xsk, xrt, xsj, xtx, xtl, xcr, eN, eC, eD, eT, eH, eR, tE, tN) p0 p1 p2 := by
  have nop : ∀ r, post r (xms, xsl, xdl, xnc, xsd, xn, xlr, xls, xle, xst, xnw, xtc, xtu, xtn, xcu, xtd, xtt, xsr, xno, xsk, xrt, xsj, xtx, xtl, xcr, eN, eC, eD, eT, eH, eR, tE, tN) := fun r => hp r _ _ _ _ _ _ _ _ _ _ _ _ _ _ _ _ _ _ _ _ _ _ _ _ _ _ _ _ _ _ _ _ _ O
  obtain ⟨ms, lim, nc, sp, n, rfl, o1, rfl, rfl, rfl, o2, rfl, o3, C, o4, o5, o6⟩ := O
  by_cases a1 : p0 < 1
  · exact br_t a1 (nop _)
  by_cases a2 : p0 ≤ 18
  rotate_left
  · exact br_f a1 (br_f a2 (nop _))
  obtain ⟨k, hk, rfl⟩ : ∃ k, k < 2 ^ 31 ∧ p0 = nI k := nI_of (fun z => a1 (Int32.lt_trans z (by decide)))
  have k1 : 1 ≤ k := by
    rcases Nat.lt_or_ge k 1 with z | z
    · exact absurd (nI_lt (b := 1) z (by omega)) a1
    · exact z
  have k18 : k ≤ 18 := (nI_leI (b := 18) hk (by omega)).mp a2
  refine br_f a1 (br_t a2 (sx_fit k1 k18 (br_t rfl (nop _)) (fun f => br_f (by decide) ?_)))
  by_cases k13 : k < 13
  · refine br_f (nI_ge (b := 13) k13 (by omega)) (br_c (fun _ => br_c (fun q32 => br_t rfl (br_c (fun q16 => ?_) (fun _ => nop _))) (fun _ => nop _)) (fun _ => nop _))
    have n32 : nc < 32 := (nI_ltI (b := 32) (by have := C.1; omega) (by omega)).mp q32
    have s16 : sp < 16 := (nI_ltI (b := 16) (by omega) (by omega)).mp q16
    refine br_f (by decide) (br_t (by decide) (sp_tail k1 k18 n32 s16 (fun xa xb ha => ?_)))
    exact hp _ _ _ _ _ _ _ _ _ _ _ _ _ _ _ _ _ _ _ _ _ _ _ _ _ _ _ _ _ _ _ _ _ _ ⟨ms, lim, nc + 1, sp + 1, n, rfl, o1, rfl, rfl, rfl, by omega, rfl, o3, sp_Cn C n32 k1 k18 f ha (fun z => absurd z (by omega)) (fun z => absurd z (by omega)), sm_stk o4 (Nat.le_refl _), o5, o6⟩
  by_cases k17 : k < 17
  · refine br_t (nI_le (a := 13) (by omega) (by omega)) (br_f (nI_ge (b := 17) k17 (by omega)) (br_c (fun q1 => br_c (fun q32 => br_f (by decide) ?_) (fun _ => nop _)) (fun _ => nop _)))
    have n32 : nc < 32 := (nI_ltI (b := 32) (by have := C.1; omega) (by omega)).mp q32
    have s1 : 1 ≤ sp := (nI_leI (a := 1) (by omega) (by omega)).mp q1
    obtain ⟨s, rfl⟩ : ∃ s, sp = s + 1 := ⟨sp - 1, by omega⟩
    obtain ⟨l, hl, el⟩ := o4 s (by omega)
    refine br_f (by decide) (br_f (by decide) (nm_r (nI_pred s) ⟨vp_in_nI (by omega) (by omega), sp_tail k1 k18 n32 (by omega) (fun xa xb ha => ?_)⟩))
    exact hp _ _ _ _ _ _ _ _ _ _ _ _ _ _ _ _ _ _ _ _ _ _ _ _ _ _ _ _ _ _ _ _ _ _ ⟨ms, lim, nc + 1, s + 1, n, rfl, o1, rfl, rfl, rfl, by omega, rfl, o3, sp_Cn C n32 k1 k18 f ha (fun z => ⟨l, hl, sm_cg (by omega) el⟩) (fun z => absurd z (by omega)), sm_stk o4 (by omega), o5, o6⟩
  · refine br_t (nI_le (a := 13) (by omega) (by omega)) (br_t (nI_le (a := 17) (by omega) (by omega)) (br_c (fun q1 => br_c (fun q32 => br_f (by decide) ?_) (fun _ => nop _)) (fun _ => nop _)))
    have n32 : nc < 32 := (nI_ltI (b := 32) (by have := C.1; omega) (by omega)).mp q32
    have s1 : 2 ≤ sp := (nI_leI (a := 2) (by omega) (by omega)).mp q1
    obtain ⟨s, rfl⟩ : ∃ s, sp = s + 1 + 1 := ⟨sp - 2, by omega⟩
    obtain ⟨l, hl, el⟩ := o4 s (by omega)
    obtain ⟨r, hr, er⟩ := o4 (s + 1) (by omega)
    refine br_t rfl (nm_r (nI_pred (s + 1)) ⟨vp_in_nI (by omega) (by omega), br_f (by decide) (nm_r (nI_pred s) ⟨vp_in_nI (by omega) (by omega), sp_tail k1 k18 n32 (by omega) (fun xa xb ha => ?_)⟩)⟩)
    exact hp _ _ _ _ _ _ _ _ _ _ _ _ _ _ _ _ _ _ _ _ _ _ _ _ _ _ _ _ _ _ _ _ _ _ ⟨ms, lim, nc + 1, s + 1, n, rfl, o1, rfl, rfl, rfl, by omega, rfl, o3, sp_Cn C n32 k1 k18 f ha (fun z => ⟨l, hl, sm_cg (by omega) el⟩) (fun z => ⟨r, hr, sm_cg (by omega) er⟩), sm_stk o4 (by omega), o5, o6⟩
end
end
section
def bt (x : Int32) (i : Nat) : Bool := x.toBitVec.getLsbD i
theorem b_or (x y : Int32) (i : Nat) : bt (x ||| y) i = (bt x i || bt y i) := by unfold bt; rw [Int32.toBitVec_or, BitVec.getLsbD_or]
theorem b_and (x y : Int32) (i : Nat) : bt (x &&& y) i = (bt x i && bt y i) := by unfold bt; rw [Int32.toBitVec_and, BitVec.getLsbD_and]
theorem b_0 (i : Nat) : bt 0 i = false := BitVec.getLsbD_zero
theorem s_l : ∀ n, n < 32 → ((nI n &&& 31).toBitVec.smod 32).toNat = n := by decide +kernel
theorem s_u : ∀ n, n < 32 → (((nI n).toUInt32 &&& Int32.toUInt32 31).toBitVec % 32).toNat = n := by decide +kernel
theorem b_shl (n : Nat) (hn : n < 32) (x : Int32) {i : Nat} (hi : i < 32) : bt (x <<< (nI n &&& 31)) i = (decide (n ≤ i) && bt x (i - n)) := by
  unfold bt
  rw [Int32.toBitVec_shiftLeft]
  show (x.toBitVec <<< ((nI n &&& 31).toBitVec.smod 32).toNat).getLsbD i = _
  rw [s_l n hn, BitVec.getLsbD_shiftLeft]
  rcases Nat.lt_or_ge i n with h | h
  · simp [h, Nat.not_le.mpr h]
  · simp [hi, h, Nat.not_lt.mpr h]
theorem b_ushr (n : Nat) (hn : n < 32) (x : Int32) (i : Nat) : bt ((x.toUInt32 >>> ((nI n).toUInt32 &&& Int32.toUInt32 31)).toInt32) i = bt x (n + i) := by
  show (x.toUInt32 >>> ((nI n).toUInt32 &&& Int32.toUInt32 31)).toBitVec.getLsbD i = x.toUInt32.toBitVec.getLsbD (n + i)
  rw [UInt32.toBitVec_shiftRight]
  show (x.toUInt32.toBitVec >>> (((nI n).toUInt32 &&& Int32.toUInt32 31).toBitVec % 32).toNat).getLsbD i = _
  rw [s_u n hn, BitVec.getLsbD_ushiftRight]
theorem wb_tb (n : Nat) : (lN n).toBitVec = BitVec.ofNat 64 n := rfl
theorem wb_inj {a b : Int64} (h : a.toBitVec = b.toBitVec) : a = b := Int64.toBitVec_inj.mp h
theorem wb_tn {n : Nat} (h : n < 2 ^ 64) : (lN n).toBitVec.toNat = n := by rw [wb_tb, BitVec.toNat_ofNat, Nat.mod_eq_of_lt h]
theorem wb_c : ∀ k, k < 64 → ((nI k).toInt64 &&& 63) = lN k := by decide +kernel
theorem wb_cu : ∀ k, k < 64 → ((nI k).toInt64.toUInt64 &&& Int64.toUInt64 63) = UInt64.ofNat k := by decide +kernel
theorem wb_sm : ∀ k, k < 64 → (BitVec.ofNat 64 k).smod 64 = BitVec.ofNat 64 k := by decide +kernel
theorem wb_lt2 {a b : Nat} (h : a < b) : 2 ^ a < 2 ^ b := Nat.pow_lt_pow_right (by decide) h
theorem wb_shr {n k : Nat} (hn : n < 2 ^ 64) (hk : k < 64) : ((lN n).toUInt64 >>> ((nI k).toInt64.toUInt64 &&& Int64.toUInt64 63)).toInt64 = lN (n / 2 ^ k) := by
  rw [wb_cu k hk]
  apply wb_inj
  apply BitVec.eq_of_toNat_eq
  show ((lN n).toUInt64 >>> UInt64.ofNat k).toNat = (BitVec.ofNat 64 _).toNat
  have h1 : (UInt64.ofNat k).toNat = k := by
    show (BitVec.ofNat 64 k).toNat = k
    rw [BitVec.toNat_ofNat, Nat.mod_eq_of_lt (by omega)]
  have h2 : (lN n).toUInt64.toNat = n := wb_tn hn
  rw [UInt64.toNat_shiftRight, h1, h2, Nat.mod_eq_of_lt hk, Nat.shiftRight_eq_div_pow, BitVec.toNat_ofNat, Nat.mod_eq_of_lt (Nat.lt_of_le_of_lt (Nat.div_le_self _ _) hn)]
theorem wb_shl (n : Nat) {k : Nat} (hk : k < 64) : lN n <<< ((nI k).toInt64 &&& 63) = lN (n * 2 ^ k) := by
  rw [wb_c k hk]
  apply wb_inj
  rw [Int64.toBitVec_shiftLeft, wb_tb, wb_tb, wb_tb, wb_sm k hk]
  apply BitVec.eq_of_toNat_eq
  rw [BitVec.shiftLeft_eq', BitVec.toNat_shiftLeft, BitVec.toNat_ofNat, BitVec.toNat_ofNat, BitVec.toNat_ofNat, Nat.mod_eq_of_lt (show k < 2 ^ 64 by omega), Nat.shiftLeft_eq, Nat.mul_mod, Nat.mod_mod, ← Nat.mul_mod]
theorem wb_and {a b : Nat} (ha : a < 2 ^ 64) (hb : b < 2 ^ 64) : lN a &&& lN b = lN (a &&& b) := by
  apply wb_inj
  rw [Int64.toBitVec_and, wb_tb, wb_tb, wb_tb]
  apply BitVec.eq_of_toNat_eq
  rw [BitVec.toNat_and, BitVec.toNat_ofNat, BitVec.toNat_ofNat, BitVec.toNat_ofNat, Nat.mod_eq_of_lt ha, Nat.mod_eq_of_lt hb, Nat.mod_eq_of_lt (Nat.and_lt_two_pow _ hb)]
theorem wb_or {a b : Nat} (ha : a < 2 ^ 64) (hb : b < 2 ^ 64) : lN a ||| lN b = lN (a ||| b) := by
  apply wb_inj
  rw [Int64.toBitVec_or, wb_tb, wb_tb, wb_tb]
  apply BitVec.eq_of_toNat_eq
  rw [BitVec.toNat_or, BitVec.toNat_ofNat, BitVec.toNat_ofNat, BitVec.toNat_ofNat, Nat.mod_eq_of_lt ha, Nat.mod_eq_of_lt hb, Nat.mod_eq_of_lt (Nat.or_lt_two_pow ha hb)]
theorem wb_mask {n k : Nat} (hn : n < 2 ^ 64) (hk : k < 64) : lN n &&& lN (2 ^ k - 1) = lN (n % 2 ^ k) := by
  rw [wb_and hn (by have := wb_lt2 hk; omega), Nat.and_two_pow_sub_one_eq_mod]
theorem u_tn {n : Nat} (h : n < 2 ^ 64) : (UInt64.ofNat n).toNat = n := Nat.mod_eq_of_lt h
theorem g_or {k p a b : Nat} (hp : 2 ^ k = p) (ha : a < p) (h : b * p + a < 2 ^ 64) : lN (b * p) ||| lN a = lN (b * p + a) := by
  subst hp
  have h1 : b * 2 ^ k ||| a = b * 2 ^ k + a := by rw [← Nat.shiftLeft_eq, Nat.shiftLeft_add_eq_or_of_lt ha]
  have h3 : UInt64.ofNat (b * 2 ^ k) ||| UInt64.ofNat a = UInt64.ofNat (b * 2 ^ k + a) := UInt64.toNat_inj.mp (by rw [UInt64.toNat_or, u_tn (by omega), u_tn (by omega), u_tn h, h1])
  have h2 := congrArg UInt64.toInt64 h3
  exact h2
theorem g_or' {k p a b : Nat} (hp : 2 ^ k = p) (ha : a < p) (h : a + b * p < 2 ^ 64) : lN a ||| lN (b * p) = lN (a + b * p) := by
  rw [Int64.or_comm, g_or hp ha (by omega), Nat.add_comm]
theorem sp_bit {x : Int32} {w : Nat} (hw : w < 32) (h : bt x w = true) : ¬ (((x.toUInt32 >>> ((nI w).toUInt32 &&& Int32.toUInt32 31)).toInt32) &&& 1) = 0 := by
  intro z
  have e : bt (((x.toUInt32 >>> ((nI w).toUInt32 &&& Int32.toUInt32 31)).toInt32) &&& 1) 0 = bt 0 0 := by rw [z]
  rw [b_and, b_ushr w hw, Nat.add_zero, h, b_0] at e
  exact absurd e (by decide)
theorem sp_or1 {x y : Int32} {w : Nat} (h : bt x w = true) : bt (x ||| y) w = true := by rw [b_or, h]; rfl
theorem sp_or2 {x y : Int32} {w : Nat} (h : bt y w = true) : bt (x ||| y) w = true := by rw [b_or, h, Bool.or_true]
theorem sp_one {a : Nat} (ha : a < 32) : bt ((1 : Int32) <<< (nI a &&& 31)) a = true := by
  rw [b_shl a ha _ ha, Nat.sub_self, decide_eq_true (Nat.le_refl a)]
  decide
/-- fields of b bits -/
def sp_S (b : Nat) (c : Nat → Nat) : Nat → Nat
  | 0 => 0
  | k + 1 => sp_S b c k + c k * 2 ^ (b * k)
theorem sp_S_lt {b : Nat} {c : Nat → Nat} : ∀ k, (∀ i, i < k → c i < 2 ^ b) → sp_S b c k < 2 ^ (b * k) := by
  intro k
  induction k with
  | zero => intro _; exact Nat.pow_pos (by decide)
  | succ k ih =>
    intro h
    have a := ih (fun i hi => h i (by omega))
    have m : (c k + 1) * 2 ^ (b * k) ≤ 2 ^ b * 2 ^ (b * k) := Nat.mul_le_mul_right _ (h k (by omega))
    rw [Nat.add_mul, Nat.one_mul] at m
    have e : 2 ^ (b * (k + 1)) = 2 ^ b * 2 ^ (b * k) := by rw [← Nat.pow_add, Nat.mul_succ, Nat.add_comm]
    rw [e]
    show sp_S b c k + c k * 2 ^ (b * k) < _
    omega
theorem sp_S_get {b : Nat} {c : Nat → Nat} : ∀ k i, i < k → (∀ j, j < k → c j < 2 ^ b) → sp_S b c k / 2 ^ (b * i) % 2 ^ b = c i := by
  intro k
  induction k with
  | zero => intro i hi; omega
  | succ k ih =>
    intro i hi h
    have pos : 0 < 2 ^ (b * i) := Nat.pow_pos (by decide)
    show (sp_S b c k + c k * 2 ^ (b * k)) / 2 ^ (b * i) % 2 ^ b = c i
    by_cases q : i = k
    · subst q
      rw [Nat.add_mul_div_right _ _ pos, Nat.div_eq_of_lt (sp_S_lt i (fun j hj => h j (by omega))), Nat.zero_add, Nat.mod_eq_of_lt (h i (by omega))]
    · obtain ⟨r, hr⟩ : ∃ r, k = i + 1 + r := ⟨k - i - 1, by omega⟩
      have e : 2 ^ (b * k) = 2 ^ b * 2 ^ (b * r) * 2 ^ (b * i) := by
        rw [← Nat.pow_add, ← Nat.pow_add]
        congr 1
        rw [hr, Nat.mul_add, Nat.mul_add, Nat.mul_one]
        omega
      have e2 : c k * 2 ^ (b * k) = (c k * 2 ^ (b * r) * 2 ^ b) * 2 ^ (b * i) := by
        rw [e]
        simp only [Nat.mul_assoc, Nat.mul_left_comm, Nat.mul_comm]
      rw [e2, Nat.add_mul_div_right _ _ pos, Nat.add_mul_mod_self_right]
      exact ih i (by omega) (fun j hj => h j (by omega))
theorem sp_pack {b k v : Nat} {c : Nat → Nat} {s : Int32} (hs : s = nI (b * k)) (h : ∀ i, i < k + 1 → c i < 2 ^ b) (hb : b * (k + 1) < 64) (e : v = c k) :
    lN (sp_S b c k) ||| (lN v <<< (s.toInt64 &&& 63)) = lN (sp_S b c (k + 1)) := by
  subst hs e
  have l : b * k < 64 := by rw [Nat.mul_succ] at hb; omega
  have t := sp_S_lt (k + 1) h
  have t2 : 2 ^ (b * (k + 1)) < 2 ^ 64 := wb_lt2 hb
  rw [wb_shl _ l]
  exact g_or' (k := b * k) rfl (sp_S_lt k (fun i hi => h i (by omega))) (Nat.lt_trans t t2)
theorem sp_take {b k i : Nat} {c : Nat → Nat} {s : Int32} {m : Int64} (hs : s = nI (b * i)) (hm : m = lN (2 ^ b - 1)) (hi : i < k) (h : ∀ j, j < k → c j < 2 ^ b) (hb : b * k < 64) (b64 : b < 64) :
    (((lN (sp_S b c k)).toUInt64 >>> (s.toInt64.toUInt64 &&& Int64.toUInt64 63)).toInt64) &&& m = lN (c i) := by
  subst hs hm
  have l : b * i < 64 := Nat.lt_of_le_of_lt (Nat.mul_le_mul_left b (by omega)) hb
  have t : sp_S b c k < 2 ^ 64 := Nat.lt_trans (sp_S_lt k h) (wb_lt2 hb)
  rw [wb_shr t l, wb_mask (Nat.lt_of_le_of_lt (Nat.div_le_self _ _) t) b64, sp_S_get k i hi h]
theorem sp_lpb {q i a : Nat} (z : q ≤ 3) (ha : a < 2 ^ (4 + 2 * i)) : a ||| q * 2 ^ (4 + 2 * i) < 2 ^ (4 + 2 * (i + 1)) := by
  have e : 2 ^ (4 + 2 * (i + 1)) = 4 * 2 ^ (4 + 2 * i) := by
    rw [show 4 + 2 * (i + 1) = 2 + (4 + 2 * i) by omega, Nat.pow_add]
  have m : q * 2 ^ (4 + 2 * i) ≤ 3 * 2 ^ (4 + 2 * i) := Nat.mul_le_mul_right _ z
  exact Nat.or_lt_two_pow (by omega) (by omega)
theorem sp_42 (i : Nat) : (4 : Int32) + 2 * nI i = nI (4 + 2 * i) := by
  have e : (2 : Int32) * nI i = nI (2 * i) := pk_mul 2 i
  rw [e]
  exact nI_add 4 (2 * i)
theorem sp_lpo {q i a : Nat} {s : Int32} (z : q ≤ 3) (hi : i < 8) (ha : a < 2 ^ (4 + 2 * i)) (hs : s = nI (4 + 2 * i)) : lN a ||| ((nI q).toInt64 <<< (s.toInt64 &&& 63)) = lN (a ||| q * 2 ^ (4 + 2 * i)) := by
  subst hs
  have p : 2 ^ (4 + 2 * i) ≤ 2 ^ 18 := Nat.pow_le_pow_right (by decide) (by omega)
  have m : q * 2 ^ (4 + 2 * i) ≤ 3 * 2 ^ (4 + 2 * i) := Nat.mul_le_mul_right _ z
  rw [nI_l (by omega), wb_shl q (by omega), wb_or (by omega) (by omega)]
/-- the code of a text: what the law's loop makes of the characters from i on -/
def sp_lp (f : Nat → Nat) : Nat → Nat → Nat → Nat
  | 0, _, a => a
  | d + 1, i, a => if f i ≤ 3 then sp_lp f d (i + 1) (a ||| f i * 2 ^ (4 + 2 * i)) else 2 ^ 20
theorem sp_lp_lt {f : Nat → Nat} : ∀ d i a, i + d ≤ 8 → a < 2 ^ (4 + 2 * i) → sp_lp f d i a < 2 ^ 21 := by
  intro d
  induction d with
  | zero =>
    intro i a h ha
    exact Nat.lt_of_lt_of_le ha (Nat.pow_le_pow_right (by decide) (by omega))
  | succ d ih =>
    intro i a h ha
    unfold sp_lp
    by_cases q : f i ≤ 3
    · rw [if_pos q]
      refine ih (i + 1) _ (by omega) ?_
      have e : 2 ^ (4 + 2 * (i + 1)) = 4 * 2 ^ (4 + 2 * i) := by
        rw [show 4 + 2 * (i + 1) = 2 + (4 + 2 * i) by omega, Nat.pow_add]
      have m : f i * 2 ^ (4 + 2 * i) ≤ 3 * 2 ^ (4 + 2 * i) := Nat.mul_le_mul_right _ q
      exact Nat.or_lt_two_pow (by omega) (by omega)
    · rw [if_neg q]
      decide
theorem sp_lp_c {f g : Nat → Nat} : ∀ d i a, (∀ j, i ≤ j → j < i + d → f j = g j) → sp_lp f d i a = sp_lp g d i a := by
  intro d
  induction d with
  | zero => intro i a h; rfl
  | succ d ih =>
    intro i a h
    unfold sp_lp
    rw [h i (by omega) (by omega), ih (i + 1) _ (fun j h1 h2 => h j (by omega) (by omega))]
def sp_fn (xtx : Nat → Int32) (w i : Nat) : Nat := (xtx (w * 16 + i)).toNatClampNeg
def sp_code (xtl xtx : Nat → Int32) (w : Nat) : Nat := if (xtl w).toNatClampNeg ≤ 8 then sp_lp (sp_fn xtx w) (xtl w).toNatClampNeg 0 (xtl w).toNatClampNeg else 2 ^ 20
theorem sp_code_lt (xtl xtx : Nat → Int32) (w : Nat) : sp_code xtl xtx w < 2 ^ 21 := by
  unfold sp_code
  by_cases q : (xtl w).toNatClampNeg ≤ 8
  · rw [if_pos q]
    exact sp_lp_lt _ _ _ (by omega) (by omega)
  · rw [if_neg q]; decide
theorem sp_code_c {xtl xtx xtl' xtx' : Nat → Int32} {w : Nat} (h1 : xtl' w = xtl w) (h2 : ∀ i, i < 16 → xtx' (w * 16 + i) = xtx (w * 16 + i)) : sp_code xtl' xtx' w = sp_code xtl xtx w := by
  unfold sp_code
  rw [h1]
  by_cases q : (xtl w).toNatClampNeg ≤ 8
  · rw [if_pos q, if_pos q]
    refine sp_lp_c _ _ _ (fun j _ hj => ?_)
    unfold sp_fn
    rw [h2 j (by omega)]
  · rw [if_neg q, if_neg q]
def sp_c5 (x : Int32) : Int64 := if x < -1 then 31 else if 29 < x then 31 else (x + 1).toInt64
theorem sx_c5 {post : Int64 → Prop} {x : Int32} (h : post (sp_c5 x)) : wpL_cur5 post () x := by
  unfold sp_c5 at h
  by_cases a : x < -1
  · rw [if_pos a] at h; exact br_t a h
  · rw [if_neg a] at h
    by_cases b : 29 < x
    · rw [if_pos b] at h; exact br_f a (br_t b h)
    · rw [if_neg b] at h; exact br_f a (br_f b h)
theorem sp_m1of {x : Int32} (a : ¬ x < -1) : x = -1 ∨ ∃ j, j < 2 ^ 31 ∧ x = nI j := by
  by_cases b : x < 0
  · refine Or.inl (Int32.toInt_inj.mp ?_)
    rw [Int32.lt_iff_toInt_lt, sm_m1] at a
    rw [Int32.lt_iff_toInt_lt, sm_z0] at b
    rw [sm_m1]
    omega
  · exact Or.inr (nI_of b)
theorem sp_c5v (x : Int32) : ∃ m, m < 2 ^ 5 ∧ sp_c5 x = lN m := by
  unfold sp_c5
  by_cases a : x < -1
  · rw [if_pos a]; exact ⟨31, by decide, rfl⟩
  · rw [if_neg a]
    by_cases b : 29 < x
    · rw [if_pos b]; exact ⟨31, by decide, rfl⟩
    · rw [if_neg b]
      rcases sp_m1of a with rfl | ⟨j, hj, rfl⟩
      · exact ⟨0, by decide, by decide⟩
      · have j29 : j ≤ 29 := by
          rcases Nat.lt_or_ge 29 j with z | z
          · exact absurd (nI_lt (a := 29) z hj) b
          · exact z
        exact ⟨j + 1, by omega, by rw [nI_1, nI_l (by omega)]⟩
def sp_u (xcr : Nat → Int32) (w : Nat) : Nat := (sp_c5 (xcr w)).toBitVec.toNat
theorem sp_u_ok (xcr : Nat → Int32) (w : Nat) : sp_u xcr w < 2 ^ 5 ∧ sp_c5 (xcr w) = lN (sp_u xcr w) := by
  obtain ⟨m, hm, e⟩ := sp_c5v (xcr w)
  unfold sp_u
  rw [e, wb_tn (by omega)]
  exact ⟨hm, rfl⟩
end
section
/-- a mask holds the numbers that nodes of kind k name -/
def sp_mk (nc : Nat) (xno : Nat → Int32) (k m : Nat) (x : Int32) : Prop := ∀ i w, i < m → i < nc → w ≤ 7 → xno (5 * i) = nI k → xno (5 * i + 1) = nI w → bt x w = true
/-- a bit of a mask -/
theorem sx_bit {post : Int32 → Prop} {x : Int32} {w : Nat} (hw : w < 32) (h : bt x w = true) (hp : post 1) : wpL_bit post () x (nI w) := br_f (sp_bit hw h) hp
section
variable {post : Int32 → Prop} {L : Nat} {xs : Nat → Int32} {J43 : Int32 → Int32 → Int32 → Int32 → Int32 → Int32 → Int32 → Int32 → Int32 → Int32 → Int32 → Int32 → Int32 → Int32 → Int32 → Int32 → Int32 → Int32 → Int32 → (Nat → Int32) → (Nat → Int32) → (Nat → Int32) → (Nat → Int32) → (Nat → Int32) → (Nat → Int32) → (Nat → Int32) → (Nat → Int32) → (Nat → Int32) → (Nat → Int32) → (Nat → Int32) → (Nat → Int32) → (Nat → Int32) → (Nat → Int32) → (Nat → Int32) → Prop} {J1126 : Int32 → Prop} {x4 x9 x26 x34 x35 x36 x37 x38 : Int32} {x10 x12 x14 x16 : Int64} {kc ks : Nat}
variable {xms xsl xdl xsd xlr xls xle : Int32} {nc n w l : Nat} {xno xsk xrt xsj tx0 tl0 cr0 : Nat → Int32} {cd : Prop}
variable {xst xnw xtc xtu xtn xcu xtd xtt xsr : Int32} {xtx xtl xcr eN eC eD eT eH eR tE tN : Nat → Int32}
theorem sl_1365 (hw : w < 8) (hn : n ≤ 16) (hnc : nc ≤ 32) (h16 : (((x16.toUInt64 >>> ((5 * nI w).toInt64.toUInt64 &&& Int64.toUInt64 63)).toInt64) &&& 31) = sp_c5 (cr0 w))
    (hc : sp_cu nc n xno cr0 xcr w) (hm : sp_mk nc xno 11 32 x38) (hJ : J1126 (nI (w + 1))) :
    wL_law_1365 post L xs J43 J1126 x4 x10 x12 x14 x16 (nI n) x34 x35 x36 x37 x38 (nI w) kc ks xms xsl xdl (nI nc) xsd (nI n) xlr xls xle xst xnw xtc xtu xtn xcu xtd xtt xsr xno xsk xrt xsj xtx xtl xcr eN eC eD eT eH eR tE tN := by
  unfold wL_law_1365
  refine sx_cv hw (sx_c5 ?_)
  rw [h16]
  rcases hc with e | ⟨⟨i, hi, e1, e2⟩, c, hcn, e⟩
  · exact br_t (by rw [e]) (nm_r (nI_1 w) hJ)
  · rw [e]
    by_cases q : sp_c5 (nI c) = sp_c5 (cr0 w)
    · exact br_t q (nm_r (nI_1 w) hJ)
    · exact br_f q (br_f (nI_pos (by omega)) (br_f (nI_nlt hcn (by omega)) (sx_bit (by omega) (hm i w (by omega) hi (by omega) e1 e2) (br_f (by decide) (nm_r (nI_1 w) hJ)))))
/-- the search for the text in the subject: one place -/
theorem sl_1307 {J1281 : Int32 → Int32 → Prop} {x44 : Nat} {p : Nat} (hw : w < 8) (hn : n ≤ 16) (hs : sp_ch xsj 16) (hx : sp_ch xtx 128) (el : xtl w = nI l) (hl : l ≤ 16) (hp : p + l ≤ n) (hx44 : x44 + l ≤ n)
    (eq : ∀ j, j < l → xtx (w * 16 + j) = xsj (p + j)) (h1 : J1281 1 (nI (x44 + 1))) (h0 : x44 ≠ p → J1281 0 (nI (x44 + 1))) :
    ∀ d i m, i + d = l → d < m → (wL_law_1307 post L xs J43 J1126 J1281 x4 x10 x12 x14 x16 (nI n) x34 x35 x36 x37 x38 (nI w) (nI l) (nI x44) kc ks xms xsl xdl (nI nc) xsd (nI n) xlr xls xle xst xnw xtc xtu xtn xcu xtd xtt xsr xno xsk xrt xsj xtx xtl xcr eN eC eD eT eH eR tE tN m 1 (nI i) ∧
      (x44 ≠ p → wL_law_1307 post L xs J43 J1126 J1281 x4 x10 x12 x14 x16 (nI n) x34 x35 x36 x37 x38 (nI w) (nI l) (nI x44) kc ks xms xsl xdl (nI nc) xsd (nI n) xlr xls xle xst xnw xtc xtu xtn xcu xtd xtt xsr xno xsk xrt xsj xtx xtl xcr eN eC eD eT eH eR tE tN m 0 (nI i))) := by
  intro d
  induction d with
  | zero =>
    intro i m h hm
    obtain ⟨m, rfl⟩ : ∃ k, m = k + 1 := ⟨m - 1, by omega⟩
    exact ⟨br_t (nI_le (by omega) (by omega)) (nm_r (nI_1 x44) h1), fun q => br_t (nI_le (by omega) (by omega)) (nm_r (nI_1 x44) (h0 q))⟩
  | succ d ih =>
    intro i m h hm
    obtain ⟨m, rfl⟩ : ∃ k, m = k + 1 := ⟨m - 1, by omega⟩
    obtain ⟨t1, t0⟩ := ih (i + 1) m (by omega) (by omega)
    refine ⟨br_f (nI_ge (by omega) (by omega)) (br_f (by decide) ?_), fun q => br_f (nI_ge (by omega) (by omega)) (br_t rfl (nm_r (nI_1 x44) (h0 q)))⟩
    refine sx_vc hw el hl (by omega) hx ?_
    show wpX_subjectChar _ _ (nI x44 + nI i)
    rw [nI_add]
    refine sx_sc hn (by omega) hs ?_
    unfold sp_sc
    rw [if_pos (by omega)]
    by_cases q : x44 = p
    · subst q
      exact br_t (eq i (by omega)) (nm_r (nI_1 i) t1)
    · exact br_c (fun _ => nm_r (nI_1 i) t1) (fun _ => nm_r (nI_1 i) (t0 q))
theorem sl_1281 {p : Nat} (hw : w < 8) (hn : n ≤ 16) (hs : sp_ch xsj 16) (hx : sp_ch xtx 128) (el : xtl w = nI l) (hl : l ≤ 16) (hp : p + l ≤ n)
    (eq : ∀ j, j < l → xtx (w * 16 + j) = xsj (p + j)) (hJ : wL_law_1365 post L xs J43 J1126 x4 x10 x12 x14 x16 (nI n) x34 x35 x36 x37 x38 (nI w) kc ks xms xsl xdl (nI nc) xsd (nI n) xlr xls xle xst xnw xtc xtu xtn xcu xtd xtt xsr xno xsk xrt xsj xtx xtl xcr eN eC eD eT eH eR tE tN) :
    ∀ d i m, i + d = p → d + 1 < m → wL_law_1281 post L xs J43 J1126 x4 x10 x12 x14 x16 (nI n) x34 x35 x36 x37 x38 (nI w) (nI l) kc ks xms xsl xdl (nI nc) xsd (nI n) xlr xls xle xst xnw xtc xtu xtn xcu xtd xtt xsr xno xsk xrt xsj xtx xtl xcr eN eC eD eT eH eR tE tN m 0 (nI i) := by
  have fin : ∀ i m, wL_law_1281 post L xs J43 J1126 x4 x10 x12 x14 x16 (nI n) x34 x35 x36 x37 x38 (nI w) (nI l) kc ks xms xsl xdl (nI nc) xsd (nI n) xlr xls xle xst xnw xtc xtu xtn xcu xtd xtt xsr xno xsk xrt xsj xtx xtl xcr eN eC eD eT eH eR tE tN (m + 1) 1 (nI i) := fun i m =>
    br_f (nI_pos (by omega)) (br_c (fun _ => br_f (by decide) hJ) (fun _ => br_f (by decide) (br_f (by decide) hJ)))
  intro d
  induction d with
  | zero =>
    intro i m h hm
    obtain ⟨m, rfl⟩ : ∃ k, m = k + 1 + 1 := ⟨m - 2, by omega⟩
    have e : i = p := by omega
    subst e
    refine br_f (nI_pos (by omega)) ?_
    rw [nI_add]
    refine br_f (nI_nlt (by omega) (by omega)) (br_t rfl ⟨l + 1, (sl_1307 hw hn hs hx el hl hp hp eq (fin (i + 1) m) (fun q => absurd rfl q) l 0 (l + 1) (by omega) (by omega)).1⟩)
  | succ d ih =>
    intro i m h hm
    obtain ⟨m, rfl⟩ : ∃ k, m = k + 1 + 1 := ⟨m - 2, by omega⟩
    refine br_f (nI_pos (by omega)) ?_
    rw [nI_add]
    refine br_f (nI_nlt (by omega) (by omega)) (br_t rfl ⟨l + 1, (sl_1307 hw hn hs hx el hl hp (by omega) eq (fin (i + 1) m) (fun q => ih (i + 1) (m + 1) (by omega) (by omega)) l 0 (l + 1) (by omega) (by omega)).1⟩)
theorem sl_1255 (hw : w < 8) (hn : n ≤ 16) (hs : sp_ch xsj 16) (hx : sp_ch xtx 128) (el : xtl w = nI l) (hl : l ≤ 16)
    (hJ : wL_law_1365 post L xs J43 J1126 x4 x10 x12 x14 x16 (nI n) x34 x35 x36 x37 x38 (nI w) kc ks xms xsl xdl (nI nc) xsd (nI n) xlr xls xle xst xnw xtc xtu xtn xcu xtd xtt xsr xno xsk xrt xsj xtx xtl xcr eN eC eD eT eH eR tE tN)
    (hb : bt (x36 ||| x37) w = true) (hr : ∃ x l, x + l ≤ n ∧ xtl w = nI l ∧ ∀ j, j < l → xtx (w * 16 + j) = xsj (x + j)) :
    wL_law_1255 post L xs J43 J1126 x4 x10 x12 x14 x16 (nI n) x34 x35 x36 x37 x38 (nI w) (nI l) kc ks xms xsl xdl (nI nc) xsd (nI n) xlr xls xle xst xnw xtc xtu xtn xcu xtd xtt xsr xno xsk xrt xsj xtx xtl xcr eN eC eD eT eH eR tE tN := by
  obtain ⟨p, l', h1, h2, h3⟩ := hr
  have e : l' = l := (nI_eq (by omega) (by omega)).mp (h2.symm.trans el)
  subst e
  exact br_c (fun _ => hJ) (fun _ => sx_bit (by omega) hb (br_f (by decide) ⟨p + 2, sl_1281 hw hn hs hx el hl h1 h3 hJ p 0 (p + 2) (by omega) (by omega)⟩))
theorem sl_1221 (hw : w < 8) (hn : n ≤ 16) (hnc : nc ≤ 32) (hs : sp_ch xsj 16) (hx : sp_ch xtx 128) (el : xtl w = nI l) (hl : l ≤ 16)
    (hpk : ∀ P : Int64 → Prop, P (lN (sp_code tl0 tx0 w)) → wpL_pick P () x10 x12 x14 (nI w))
    (hJ : wL_law_1365 post L xs J43 J1126 x4 x10 x12 x14 x16 (nI n) x34 x35 x36 x37 x38 (nI w) kc ks xms xsl xdl (nI nc) xsd (nI n) xlr xls xle xst xnw xtc xtu xtn xcu xtd xtt xsr xno xsk xrt xsj xtx xtl xcr eN eC eD eT eH eR tE tN)
    (hr : sp_row cd nc n xno xsj tx0 tl0 xtx xtl w) (hf : ¬ x34 = 0 → ¬ cd) (hm : sp_mk nc xno 15 32 x36) (hm2 : sp_mk nc xno 16 32 x37) :
    wL_law_1221 post L xs J43 J1126 x4 x10 x12 x14 x16 (nI n) x34 x35 x36 x37 x38 (nI w) (nI l) (lN (sp_code xtl xtx w)) kc ks xms xsl xdl (nI nc) xsd (nI n) xlr xls xle xst xnw xtc xtu xtn xcu xtd xtt xsr xno xsk xrt xsj xtx xtl xcr eN eC eD eT eH eR tE tN := by
  unfold wL_law_1221
  refine hpk _ ?_
  rcases hr with ⟨e1, e2⟩ | ⟨⟨i, hi, k, e⟩, r⟩
  · exact br_t (by rw [sp_code_c e1 e2]) hJ
  · have b : bt (x36 ||| x37) w = true := by
      rcases k with k | k
      · exact sp_or1 (hm i w (by omega) hi (by omega) k e)
      · exact sp_or2 (hm2 i w (by omega) hi (by omega) k.2 e)
    have t := sl_1255 (post := post) (L := L) (xs := xs) (J43 := J43) (x34 := x34) (x35 := x35) hw hn hs hx el hl hJ b r
    refine br_c (fun _ => hJ) (fun _ => br_c (fun _ => t) (fun f => ?_))
    have k15 : xno (5 * i) = nI 15 := by
      rcases k with k | k
      · exact k
      · exact absurd k.1 (hf f)
    exact sx_bit (by omega) (hm i w (by omega) hi (by omega) k15 e) (br_f (by decide) t)
theorem sl_1169 (hw : w < 8) (hx : sp_ch xtx 128) (el : xtl w = nI l) (hl : l ≤ 8) {a0 : Nat}
    (h : wL_law_1221 post L xs J43 J1126 x4 x10 x12 x14 x16 (nI n) x34 x35 x36 x37 x38 (nI w) (nI l) (lN a0) kc ks xms xsl xdl (nI nc) xsd (nI n) xlr xls xle xst xnw xtc xtu xtn xcu xtd xtt xsr xno xsk xrt xsj xtx xtl xcr eN eC eD eT eH eR tE tN) :
    ∀ d i m a, i + d = l → d < m → a < 2 ^ (4 + 2 * i) → sp_lp (sp_fn xtx w) d i a = a0 →
      wL_law_1169 post L xs J43 J1126 x4 x10 x12 x14 x16 (nI n) x34 x35 x36 x37 x38 (nI w) (nI l) kc ks xms xsl xdl (nI nc) xsd (nI n) xlr xls xle xst xnw xtc xtu xtn xcu xtd xtt xsr xno xsk xrt xsj xtx xtl xcr eN eC eD eT eH eR tE tN m (lN a) (nI i) := by
  intro d
  induction d with
  | zero =>
    intro i m a hi hm ha e
    obtain ⟨m, rfl⟩ : ∃ k, m = k + 1 := ⟨m - 1, by omega⟩
    have e : a = a0 := e
    subst e
    exact br_t (nI_le (by omega) (by omega)) h
  | succ d ih =>
    intro i m a hi hm ha e
    obtain ⟨m, rfl⟩ : ∃ k, m = k + 1 := ⟨m - 1, by omega⟩
    obtain ⟨q, hq, ex⟩ := hx (w * 16 + i) (by omega)
    have ef : sp_fn xtx w i = q := by unfold sp_fn; rw [ex]; exact sm_cl (by omega)
    unfold sp_lp at e
    rw [ef] at e
    refine br_f (nI_ge (by omega) (by omega)) (sx_vc hw el (by omega) (by omega) hx ?_)
    rw [ex]
    by_cases z : q ≤ 3
    · rw [if_pos z] at e
      refine br_t (nI_le (b := 3) z (by omega)) (nm_r (sp_lpo (s := 4 + 2 * nI i) z (by omega) ha (sp_42 i)) (nm_r (nI_1 i) (ih (i + 1) m _ (by omega) (by omega) (sp_lpb z ha) e)))
    · rw [if_neg z] at e
      subst e
      exact br_f (nI_ge (b := q) (a := 3) (by omega) (by omega)) h
end
end
section
def sp_r6 (x : Int32) : Int64 := if x < -1 then 63 else if 61 < x then 63 else (x + 1).toInt64
theorem sx_r6 {post : Int64 → Prop} {x : Int32} (h : post (sp_r6 x)) : wpL_r6 post () x := by
  unfold sp_r6 at h
  by_cases a : x < -1
  · rw [if_pos a] at h; exact br_t a h
  · rw [if_neg a] at h
    by_cases b : 61 < x
    · rw [if_pos b] at h; exact br_f a (br_t b h)
    · rw [if_neg b] at h; exact br_f a (br_f b h)
def sp_e3 (x : Int32) : Int64 := if x < 0 then 7 else if 6 < x then 7 else x.toInt64
theorem sx_e3 {post : Int64 → Prop} {x : Int32} (h : post (sp_e3 x)) : wpL_enc3 post () x := by
  unfold sp_e3 at h
  by_cases a : x < 0
  · rw [if_pos a] at h; exact br_t a h
  · rw [if_neg a] at h
    by_cases b : 6 < x
    · rw [if_pos b] at h; exact br_f a (br_t b h)
    · rw [if_neg b] at h; exact br_f a (br_f b h)
/-- the roots, packed -/
def sp_rt (xrt : Nat → Int32) : Nat → Int64
  | 0 => 0
  | k + 1 => sp_rt xrt k ||| (sp_r6 (xrt k) <<< ((6 * nI k).toInt64 &&& 63))
/-- the subject, packed -/
def sp_sb (n : Nat) (xsj : Nat → Int32) : Nat → Int64
  | 0 => 0
  | k + 1 => sp_sb n xsj k ||| (sp_e3 (sp_sc n xsj k) <<< ((3 * nI k).toInt64 &&& 63))
theorem sp_wa {w a : Nat} (hw : w ≤ 7) (ha : a < 65536) (h : nI w = nI a) : w = a := (nI_eq (by omega) (by omega)).mp h
theorem sp_mk_s {nc k i : Nat} {xno : Nat → Int32} {x x' : Int32} (h : sp_mk nc xno k i x) (mono : ∀ w, bt x w = true → bt x' w = true) (hit : i < nc → ∀ w, w ≤ 7 → xno (5 * i) = nI k → xno (5 * i + 1) = nI w → bt x' w = true) : sp_mk nc xno k (i + 1) x' := by
  intro j w h1 h2 h3 h4 h5
  by_cases q : j = i
  · subst q; exact hit h2 w h3 h4 h5
  · exact mono w (h j w (by omega) h2 h3 h4 h5)
section
variable {post : Int32 → Prop} {L : Nat} {xs : Nat → Int32} {J43 : Int32 → Int32 → Int32 → Int32 → Int32 → Int32 → Int32 → Int32 → Int32 → Int32 → Int32 → Int32 → Int32 → Int32 → Int32 → Int32 → Int32 → Int32 → Int32 → (Nat → Int32) → (Nat → Int32) → (Nat → Int32) → (Nat → Int32) → (Nat → Int32) → (Nat → Int32) → (Nat → Int32) → (Nat → Int32) → (Nat → Int32) → (Nat → Int32) → (Nat → Int32) → (Nat → Int32) → (Nat → Int32) → (Nat → Int32) → (Nat → Int32) → Prop} {x4 x9 x26 x34 x35 : Int32} {x10 x12 x14 x16 : Int64} {kc ks : Nat}
variable {xms xsl xdl xsd xlr xls xle : Int32} {nc n : Nat} {xno xsk xrt xsj tx0 tl0 cr0 : Nat → Int32} {cd : Prop}
variable {xst xnw xtc xtu xtn xcu xtd xtt xsr : Int32} {xtx xtl xcr eN eC eD eT eH eR tE tN : Nat → Int32}
/-- the law's check of the eight variables -/
theorem sl_1126 {x36 x37 x38 : Int32} (hn : n ≤ 16) (hnc : nc ≤ 32) (hs : sp_ch xsj 16) (V : sp_V cd nc n xno xsj tx0 tl0 cr0 xtx xtl xcr)
    (hpk : ∀ w, w < 8 → ∀ P : Int64 → Prop, P (lN (sp_code tl0 tx0 w)) → wpL_pick P () x10 x12 x14 (nI w))
    (h16 : ∀ w, w < 8 → (((x16.toUInt64 >>> ((5 * nI w).toInt64.toUInt64 &&& Int64.toUInt64 63)).toInt64) &&& 31) = sp_c5 (cr0 w))
    (hf : ¬ x34 = 0 → ¬ cd) (m1 : sp_mk nc xno 15 32 x36) (m2 : sp_mk nc xno 16 32 x37) (m3 : sp_mk nc xno 11 32 x38) (hJ : J43 x4 xms xsl xdl (nI nc) xsd (nI n) xlr xls xle xst xnw xtc xtu xtn xcu xtd xtt xsr xno xsk xrt xsj xtx xtl xcr eN eC eD eT eH eR tE tN) :
    ∀ d w m, w + d = 8 → d < m → wL_law_1126 post L xs J43 x4 x10 x12 x14 x16 (nI n) x34 x35 x36 x37 x38 kc ks xms xsl xdl (nI nc) xsd (nI n) xlr xls xle xst xnw xtc xtu xtn xcu xtd xtt xsr xno xsk xrt xsj xtx xtl xcr eN eC eD eT eH eR tE tN m (nI w) := by
  intro d
  induction d with
  | zero =>
    intro w m h hm
    obtain ⟨m, rfl⟩ : ∃ k, m = k + 1 := ⟨m - 1, by omega⟩
    exact br_t (nI_le (a := 8) (by omega) (by omega)) hJ
  | succ d ih =>
    intro w m h hm
    obtain ⟨m, rfl⟩ : ∃ k, m = k + 1 := ⟨m - 1, by omega⟩
    have hw : w < 8 := by omega
    obtain ⟨l, hl, el⟩ := V.2.1 w hw
    have nx := ih (w + 1) m (by omega) (by omega)
    have t5 := sl_1365 (post := post) (L := L) (xs := xs) (J43 := J43) (x4 := x4) (x10 := x10) (x12 := x12) (x14 := x14) (x34 := x34) (x35 := x35) (x36 := x36) (x37 := x37) (kc := kc) (ks := ks) (xms := xms) (xsl := xsl) (xdl := xdl) (xsd := xsd) (xlr := xlr) (xls := xls) (xle := xle) (xst := xst) (xnw := xnw) (xtc := xtc) (xtu := xtu) (xtn := xtn) (xcu := xcu) (xtd := xtd) (xtt := xtt) (xsr := xsr) (xsk := xsk) (xrt := xrt) (xsj := xsj) (xtx := xtx) (xtl := xtl) (eN := eN) (eC := eC) (eD := eD) (eT := eT) (eH := eH) (eR := eR) (tE := tE) (tN := tN) hw hn hnc (h16 w hw) (V.2.2.2 w hw) m3 nx
    have t1 := sl_1221 hw hn hnc hs V.1 el hl (hpk w hw) t5 (V.2.2.1 w hw) hf m1 m2
    have ec : (xtl w).toNatClampNeg = l := by rw [el]; exact sm_cl (by omega)
    refine br_f (nI_ge (b := 8) hw (by omega)) (sx_vl hw ?_)
    rw [el]
    refine br_f (nI_pos (by omega)) ?_
    by_cases q : l ≤ 8
    · have e0 : sp_lp (sp_fn xtx w) l 0 l = sp_code xtl xtx w := by
        unfold sp_code
        rw [ec, if_pos q]
      rw [nI_l (by omega)]
      exact br_t (nI_le (b := 8) q (by omega)) ⟨l + 1, sl_1169 hw V.1 el q t1 l 0 (l + 1) l (by omega) (by omega) (by omega) e0⟩
    · have e0 : sp_code xtl xtx w = 2 ^ 20 := by
        unfold sp_code
        rw [ec, if_neg q]
      rw [e0] at t1
      exact br_f (nI_ge (a := 8) (by omega) (by omega)) t1
/-- the masks -/
theorem sl_1029 (hnc : nc ≤ 32) (hnd : ∀ i, i < nc → sp_nd nc xno i)
    (hJ : ∀ x36 x37 x38 : Int32, sp_mk nc xno 15 32 x36 → sp_mk nc xno 16 32 x37 → sp_mk nc xno 11 32 x38 → ∃ fu, wL_law_1126 post L xs J43 x4 x10 x12 x14 x16 (nI n) x34 x35 x36 x37 x38 kc ks xms xsl xdl (nI nc) xsd (nI n) xlr xls xle xst xnw xtc xtu xtn xcu xtd xtt xsr xno xsk xrt xsj xtx xtl xcr eN eC eD eT eH eR tE tN fu 0) :
    ∀ d i m, i + d = 32 → d < m → ∀ x36 x37 x38 : Int32, sp_mk nc xno 15 i x36 → sp_mk nc xno 16 i x37 → sp_mk nc xno 11 i x38 →
      wL_law_1029 post L xs J43 x4 x10 x12 x14 x16 (nI n) x34 x35 kc ks xms xsl xdl (nI nc) xsd (nI n) xlr xls xle xst xnw xtc xtu xtn xcu xtd xtt xsr xno xsk xrt xsj xtx xtl xcr eN eC eD eT eH eR tE tN m x36 x37 x38 (nI i) := by
  intro d
  induction d with
  | zero =>
    intro i m h hm x36 x37 x38 m1 m2 m3
    obtain ⟨m, rfl⟩ : ∃ k, m = k + 1 := ⟨m - 1, by omega⟩
    have e : i = 32 := by omega
    subst e
    exact br_t (nI_le (a := 32) (Nat.le_refl _) (by omega)) (hJ x36 x37 x38 m1 m2 m3)
  | succ d ih =>
    intro i m h hm x36 x37 x38 m1 m2 m3
    obtain ⟨m, rfl⟩ : ∃ k, m = k + 1 := ⟨m - 1, by omega⟩
    have nx := ih (i + 1) m (by omega) (by omega)
    refine br_f (nI_ge (b := 32) (by omega) (by omega)) (sx_nf (f := 0) (by omega) (by omega) hnc (fun hi => ?_) (fun hi => ?_))
    rotate_left
    · refine sx_nf (f := 1) (by omega) (by omega) hnc (fun z => absurd z (by omega)) (fun _ => br_t (by decide) (nm_r (nI_1 i) ?_))
      exact nx x36 x37 x38 (sp_mk_s m1 (fun _ z => z) (fun z => absurd z (by omega))) (sp_mk_s m2 (fun _ z => z) (fun z => absurd z (by omega))) (sp_mk_s m3 (fun _ z => z) (fun z => absurd z (by omega)))
    · refine sx_nf (f := 1) (by omega) (by omega) hnc (fun _ => ?_) (fun z => absurd z (by omega))
      obtain ⟨k, a, k1, k18, a1, h0, h1, c12, cv, c13, c17⟩ := hnd i hi
      have g0 : xno (5 * i + 0) = nI k := h0
      rw [g0, h1]
      have ia : ∀ w, w ≤ 7 → xno (5 * i + 1) = nI w → w = a := fun w hw e => (sp_wa hw a1 (e.symm.trans h1))
      have ik : ∀ k', k' ≤ 18 → xno (5 * i) = nI k' → k = k' := fun k' hk e => sp_ke (h0.symm.trans e) k18 hk
      refine br_f (nI_pos (Nat.lt_trans a1 (by decide))) ?_
      by_cases a7 : a ≤ 7
      rotate_left
      · refine br_f (nI_ge (a := 7) (Nat.not_le.mp a7) (Nat.lt_trans a1 (by decide))) (nm_r (nI_1 i) ?_)
        have no : ∀ w, w ≤ 7 → xno (5 * i + 1) = nI w → False := fun w hw e => a7 (ia w hw e ▸ hw)
        exact nx x36 x37 x38 (sp_mk_s m1 (fun _ z => z) (fun _ w hw _ e => absurd (no w hw e) id)) (sp_mk_s m2 (fun _ z => z) (fun _ w hw _ e => absurd (no w hw e) id)) (sp_mk_s m3 (fun _ z => z) (fun _ w hw _ e => absurd (no w hw e) id))
      · have one : ∀ (x : Int32) w, w ≤ 7 → xno (5 * i + 1) = nI w → bt (x ||| ((1 : Int32) <<< (nI a &&& 31))) w = true := by
          intro x w hw e
          rw [ia w hw e]
          exact sp_or2 (sp_one (Nat.lt_of_le_of_lt a7 (by decide)))
        have up : ∀ (x : Int32) w, bt x w = true → bt (x ||| ((1 : Int32) <<< (nI a &&& 31))) w = true := fun x w z => sp_or1 z
        have keep : ∀ (k' : Nat) (x : Int32), k' ≤ 18 → k ≠ k' → sp_mk nc xno k' i x → sp_mk nc xno k' (i + 1) x := fun k' x hk ne z => sp_mk_s z (fun _ z => z) (fun _ w _ e _ => absurd (ik k' hk e) ne)
        have put : ∀ (k' : Nat) (x : Int32), sp_mk nc xno k' i x → sp_mk nc xno k' (i + 1) (x ||| ((1 : Int32) <<< (nI a &&& 31))) := fun k' x z => sp_mk_s z (up x) (fun _ w hw _ e => one x w hw e)
        refine br_t (nI_le (b := 7) a7 (by decide)) ?_
        by_cases z15 : k = 15
        · subst z15
          exact br_t rfl (nm_e (br_f (by decide) (br_f (by decide) (nm_r (nI_1 i) (nx _ x37 x38 (put 15 x36 m1) (keep 16 x37 (by decide) (by decide) m2) (keep 11 x38 (by decide) (by decide) m3))))))
        refine br_f (fun z => z15 (sp_ke (k := 15) z k18 (by decide))) ?_
        by_cases z16 : k = 16
        · subst z16
          exact br_t rfl (nm_e (br_f (by decide) (nm_r (nI_1 i) (nx x36 _ x38 (keep 15 x36 (by decide) (by decide) m1) (put 16 x37 m2) (keep 11 x38 (by decide) (by decide) m3)))))
        refine br_f (fun z => z16 (sp_ke (k := 16) z k18 (by decide))) ?_
        by_cases z11 : k = 11
        · subst z11
          exact br_t rfl (nm_e (nm_r (nI_1 i) (nx x36 x37 _ (keep 15 x36 (by decide) (by decide) m1) (keep 16 x37 (by decide) (by decide) m2) (put 11 x38 m3))))
        · exact br_f (fun z => z11 (sp_ke (k := 11) z k18 (by decide))) (nm_r (nI_1 i) (nx x36 x37 x38 (keep 15 x36 (by decide) z15 m1) (keep 16 x37 (by decide) z16 m2) (keep 11 x38 (by decide) z11 m3)))
theorem sl_1017 {lim : Nat} (C : sp_C lim nc n xno xrt xsj) (V : sp_V cd nc n xno xsj tx0 tl0 cr0 xtx xtl xcr)
    (hpk : ∀ w, w < 8 → ∀ P : Int64 → Prop, P (lN (sp_code tl0 tx0 w)) → wpL_pick P () x10 x12 x14 (nI w))
    (h16 : ∀ w, w < 8 → (((x16.toUInt64 >>> ((5 * nI w).toInt64.toUInt64 &&& Int64.toUInt64 63)).toInt64) &&& 31) = sp_c5 (cr0 w))
    (hf : ¬ x34 = 0 → ¬ cd) (hJ : J43 x4 xms xsl xdl (nI nc) xsd (nI n) xlr xls xle xst xnw xtc xtu xtn xcu xtd xtt xsr xno xsk xrt xsj xtx xtl xcr eN eC eD eT eH eR tE tN) :
    wL_law_1017 post L xs J43 x4 x10 x12 x14 x16 (nI n) x34 x35 kc ks xms xsl xdl (nI nc) xsd (nI n) xlr xls xle xst xnw xtc xtu xtn xcu xtd xtt xsr xno xsk xrt xsj xtx xtl xcr eN eC eD eT eH eR tE tN :=
  ⟨33, sl_1029 C.1 C.2.2.2.1 (fun x36 x37 x38 m1 m2 m3 => ⟨9, sl_1126 C.2.2.1 C.1 C.2.2.2.2.2 V hpk h16 hf m1 m2 m3 hJ 8 0 9 (by omega) (by omega)⟩) 32 0 33 (by omega) (by omega) 0 0 0 (fun i w z => absurd z (by omega)) (fun i w z => absurd z (by omega)) (fun i w z => absurd z (by omega))⟩
end
end
section
section
variable {post : Int32 → Prop} {L : Nat} {xs : Nat → Int32} {J43 : Int32 → Int32 → Int32 → Int32 → Int32 → Int32 → Int32 → Int32 → Int32 → Int32 → Int32 → Int32 → Int32 → Int32 → Int32 → Int32 → Int32 → Int32 → Int32 → (Nat → Int32) → (Nat → Int32) → (Nat → Int32) → (Nat → Int32) → (Nat → Int32) → (Nat → Int32) → (Nat → Int32) → (Nat → Int32) → (Nat → Int32) → (Nat → Int32) → (Nat → Int32) → (Nat → Int32) → (Nat → Int32) → (Nat → Int32) → (Nat → Int32) → Prop} {x4 x9 x26 : Int32} {x10 x12 x14 x16 : Int64} {kc ks : Nat}
variable {xms xsl xdl xlr xls xle : Int32} {nc n sp : Nat} {xno xsk xrt xsj : Nat → Int32}
variable {xst xnw xtc xtu xtn xcu xtd xtt xsr : Int32} {xtx xtl xcr eN eC eD eT eH eR tE tN : Nat → Int32}
/-- behind the match: the checks of what does not change -/
theorem sl_808 (hs : sp ≤ 16) (hn : n ≤ 16) (hc : sp_ch xsj 16)
    (hE : (x26 = 0 → wL_law_934 post L xs J43 x4 x9 x10 x12 x14 x16 x26 (nI n) xls xle kc ks xms xsl xdl (nI nc) (nI sp) (nI n) xlr xls xle xst xnw xtc xtu xtn xcu xtd xtt xsr xno xsk xrt xsj xtx xtl xcr eN eC eD eT eH eR tE tN) ∧
      (¬ x26 = 0 → ((x26 = 2 → wL_law_934 post L xs J43 x4 x9 x10 x12 x14 x16 x26 (nI n) xls xle kc ks xms xsl xdl (nI nc) (nI sp) (nI n) xlr xls xle xst xnw xtc xtu xtn xcu xtd xtt xsr xno xsk xrt xsj xtx xtl xcr eN eC eD eT eH eR tE tN) ∧
        (¬ x26 = 2 → wL_law_939 post L xs J43 x4 x9 x10 x12 x14 x16 x26 (nI n) xls xle 0 kc ks xms xsl xdl (nI nc) (nI sp) (nI n) xlr xls xle xst xnw xtc xtu xtn xcu xtd xtt xsr xno xsk xrt xsj xtx xtl xcr eN eC eD eT eH eR tE tN)))) :
    ∀ d i m, i + d = 16 → d < m → wL_law_808 post L xs J43 x4 x9 x10 x12 x14 x16 (sp_rt xrt 4) (sp_sb n xsj 16) (nI nc) (nI sp) (nI n) (sp_se (nI sp) xsk (nI sp - 1)) x26 (sp_rt xrt 4) kc ks xms xsl xdl (nI nc) (nI sp) (nI n) xlr xls xle xst xnw xtc xtu xtn xcu xtd xtt xsr xno xsk xrt xsj xtx xtl xcr eN eC eD eT eH eR tE tN m (sp_sb n xsj i) (nI i) := by
  intro d
  induction d with
  | zero =>
    intro i m h hm
    obtain ⟨m, rfl⟩ : ∃ k, m = k + 1 := ⟨m - 1, by omega⟩
    have e : i = 16 := by omega
    subst e
    exact br_t (nI_le (a := 16) (Nat.le_refl _) (by omega)) (br_t rfl (br_t rfl (sx_st3 (br_t rfl (sx_st4 (br_t rfl (sx_st5 (br_t rfl (sx_se hs (br_t rfl (sx_st1 (sx_st2 hE))))))))))))
  | succ d ih =>
    intro i m h hm
    obtain ⟨m, rfl⟩ : ∃ k, m = k + 1 := ⟨m - 1, by omega⟩
    exact br_f (nI_ge (b := 16) (by omega) (by omega)) (sx_sc hn (by omega) hc (sx_e3 (nm_r (e' := sp_sb n xsj (i + 1)) rfl (nm_r (nI_1 i) (ih (i + 1) m (by omega) (by omega))))))
theorem sl_773 (h : wL_law_808 post L xs J43 x4 x9 x10 x12 x14 x16 (sp_rt xrt 4) (sp_sb n xsj 16) (nI nc) (nI sp) (nI n) (sp_se (nI sp) xsk (nI sp - 1)) x26 (sp_rt xrt 4) kc ks xms xsl xdl (nI nc) (nI sp) (nI n) xlr xls xle xst xnw xtc xtu xtn xcu xtd xtt xsr xno xsk xrt xsj xtx xtl xcr eN eC eD eT eH eR tE tN 17 0 0) :
    ∀ d i m, i + d = 4 → d < m → wL_law_773 post L xs J43 x4 x9 x10 x12 x14 x16 (sp_rt xrt 4) (sp_sb n xsj 16) (nI nc) (nI sp) (nI n) (sp_se (nI sp) xsk (nI sp - 1)) x26 0 kc ks xms xsl xdl (nI nc) (nI sp) (nI n) xlr xls xle xst xnw xtc xtu xtn xcu xtd xtt xsr xno xsk xrt xsj xtx xtl xcr eN eC eD eT eH eR tE tN m (sp_rt xrt i) (nI i) := by
  intro d
  induction d with
  | zero =>
    intro i m hd hm
    obtain ⟨m, rfl⟩ : ∃ k, m = k + 1 := ⟨m - 1, by omega⟩
    have e : i = 4 := by omega
    subst e
    exact br_t (nI_le (a := 4) (Nat.le_refl _) (by omega)) ⟨17, h⟩
  | succ d ih =>
    intro i m hd hm
    obtain ⟨m, rfl⟩ : ∃ k, m = k + 1 := ⟨m - 1, by omega⟩
    exact br_f (nI_ge (b := 4) (by omega) (by omega)) (sx_pr (by omega) (sx_r6 (nm_r (e' := sp_rt xrt (i + 1)) rfl (nm_r (nI_1 i) (ih (i + 1) m (by omega) (by omega))))))
/-- behind the match, whole -/
theorem sl_after0 (hs : sp ≤ 16) (hn : n ≤ 16) (hc : sp_ch xsj 16) (hq : x26 = 0 ∨ x26 = 2 ∨ x26 = 3)
    (h : ∀ x34 : Int32, wL_law_1017 post L xs J43 x4 x10 x12 x14 x16 (nI n) x34 0 kc ks xms xsl xdl (nI nc) (nI sp) (nI n) xlr (-1) (-1) xst xnw xtc xtu xtn xcu xtd xtt xsr xno xsk xrt xsj xtx xtl xcr eN eC eD eT eH eR tE tN) :
    wL_law_773 post L xs J43 x4 x9 x10 x12 x14 x16 (sp_rt xrt 4) (sp_sb n xsj 16) (nI nc) (nI sp) (nI n) (sp_se (nI sp) xsk (nI sp - 1)) x26 0 kc ks xms xsl xdl (nI nc) (nI sp) (nI n) xlr (-1) (-1) xst xnw xtc xtu xtn xcu xtd xtt xsr xno xsk xrt xsj xtx xtl xcr eN eC eD eT eH eR tE tN 5 0 0 := by
  refine sl_773 (sl_808 hs hn hc ?_ 16 0 17 (by omega) (by omega)) 4 0 5 (by omega) (by omega)
  rcases hq with e | e | e
  · subst e
    exact br_t rfl (br_f (by decide) (br_f (by decide) (br_t rfl (br_t rfl (br_t rfl (br_t rfl (h 1)))))))
  · subst e
    exact br_f (by decide) (br_t rfl (br_f (by decide) (br_f (by decide) (br_t rfl (br_t rfl (br_t rfl (br_t rfl (h 1))))))))
  · subst e
    exact br_f (by decide) (br_f (by decide) (br_f (by decide) (br_t rfl (br_t rfl (br_t rfl (h 0))))))
theorem sl_after1 {t c : Nat} (hs : sp ≤ 16) (hn : n ≤ 16) (hc : sp_ch xsj 16) (tc : t ≤ c) (cn : c ≤ n) (ha : ¬ x9 = 0 → t = 0)
    (h : wL_law_1017 post L xs J43 x4 x10 x12 x14 x16 (nI n) 0 1 kc ks xms xsl xdl (nI nc) (nI sp) (nI n) xlr (nI t) (nI c) xst xnw xtc xtu xtn xcu xtd xtt xsr xno xsk xrt xsj xtx xtl xcr eN eC eD eT eH eR tE tN) :
    wL_law_773 post L xs J43 x4 x9 x10 x12 x14 x16 (sp_rt xrt 4) (sp_sb n xsj 16) (nI nc) (nI sp) (nI n) (sp_se (nI sp) xsk (nI sp - 1)) 1 0 kc ks xms xsl xdl (nI nc) (nI sp) (nI n) xlr (nI t) (nI c) xst xnw xtc xtu xtn xcu xtd xtt xsr xno xsk xrt xsj xtx xtl xcr eN eC eD eT eH eR tE tN 5 0 0 := by
  refine sl_773 (sl_808 hs hn hc ?_ 16 0 17 (by omega) (by omega)) 4 0 5 (by omega) (by omega)
  refine br_f (by decide) (br_f (by decide) (br_t rfl (br_t rfl (br_f (by decide) (br_f (nI_pos (by omega)) (br_f (nI_nlt tc (by omega)) (br_t (nI_le cn (by omega)) (br_f (by decide) (br_c (fun _ => h) (fun q => br_t ?_ h))))))))))
  rw [ha q]
  rfl
end
/-- the packed codes when w of them are in -/
def sp_p0 (c : Nat → Nat) (w : Nat) : Int64 := lN (sp_S 21 c (Nat.min w 3))
def sp_p1 (c : Nat → Nat) (w : Nat) : Int64 := lN (sp_S 21 (fun i => c (i + 3)) (Nat.min (w - 3) 3))
def sp_p2 (c : Nat → Nat) (w : Nat) : Int64 := lN (sp_S 21 (fun i => c (i + 6)) (w - 6))
theorem sp_21 (w : Nat) : (21 : Int32) * nI w = nI (21 * w) := pk_mul 21 w
theorem sx_pick {post : Int64 → Prop} {c : Nat → Nat} {w : Nat} (hw : w < 8) (hc : ∀ i, c i < 2 ^ 21) (h : post (lN (c w))) : wpL_pick post () (sp_p0 c 8) (sp_p1 c 8) (sp_p2 c 8) (nI w) := by
  have r3 : nI w - nI w / 3 * 3 = nI (w % 3) := pk_rem (a := w) (d := 3) (by omega) (by omega) (by omega)
  have hm : (2097151 : Int64) = lN (2 ^ 21 - 1) := rfl
  by_cases q : w < 3
  · refine br_f (nI_ge (b := 3) q (by omega)) ⟨by decide, ?_⟩
    rw [r3]
    have e := sp_take (b := 21) (k := 3) (i := w % 3) (c := c) (sp_21 (w % 3)) hm (by omega) (fun j _ => hc j) (by omega) (by omega)
    have ew : w % 3 = w := by omega
    rw [ew] at e ⊢
    show post (((lN (sp_S 21 c 3)).toUInt64 >>> _).toInt64 &&& _)
    rw [e]
    exact h
  by_cases q2 : w < 6
  · refine br_t (nI_le (a := 3) (by omega) (by omega)) (br_f (nI_ge (b := 6) q2 (by omega)) ⟨by decide, ?_⟩)
    rw [r3]
    have ew : w % 3 + 3 = w := by omega
    have e' : lN ((fun i => c (i + 3)) (w % 3)) = lN (c w) := by show lN (c (w % 3 + 3)) = lN (c w); rw [ew]
    have e := (sp_take (b := 21) (k := 3) (i := w % 3) (c := fun i => c (i + 3)) (sp_21 (w % 3)) hm (by omega) (fun j _ => hc (j + 3)) (by omega) (by omega)).trans e'
    show post (((lN (sp_S 21 (fun i => c (i + 3)) 3)).toUInt64 >>> _).toInt64 &&& _)
    rw [e]
    exact h
  · refine br_t (nI_le (a := 3) (by omega) (by omega)) (br_t (nI_le (a := 6) (by omega) (by omega)) ⟨by decide, ?_⟩)
    rw [r3]
    have ew : w % 3 + 6 = w := by omega
    have e' : lN ((fun i => c (i + 6)) (w % 3)) = lN (c w) := by show lN (c (w % 3 + 6)) = lN (c w); rw [ew]
    have e := (sp_take (b := 21) (k := 2) (i := w % 3) (c := fun i => c (i + 6)) (sp_21 (w % 3)) hm (by omega) (fun j _ => hc (j + 6)) (by omega) (by omega)).trans e'
    show post (((lN (sp_S 21 (fun i => c (i + 6)) 2)).toUInt64 >>> _).toInt64 &&& _)
    rw [e]
    exact h
theorem sp_f16 {xcr : Nat → Int32} {w : Nat} (hw : w < 8) : ((((lN (sp_S 5 (sp_u xcr) 8)).toUInt64 >>> ((5 * nI w).toInt64.toUInt64 &&& Int64.toUInt64 63)).toInt64) &&& 31) = sp_c5 (xcr w) := by
  rw [(sp_u_ok xcr w).2]
  exact sp_take (b := 5) (k := 8) (i := w) (c := sp_u xcr) (pk_mul 5 w) rfl hw (fun j _ => (sp_u_ok xcr j).1) (by omega) (by omega)
section
variable {post : Int32 → Prop} {L : Nat} {xs : Nat → Int32} {J43 : Int32 → Int32 → Int32 → Int32 → Int32 → Int32 → Int32 → Int32 → Int32 → Int32 → Int32 → Int32 → Int32 → Int32 → Int32 → Int32 → Int32 → Int32 → Int32 → (Nat → Int32) → (Nat → Int32) → (Nat → Int32) → (Nat → Int32) → (Nat → Int32) → (Nat → Int32) → (Nat → Int32) → (Nat → Int32) → (Nat → Int32) → (Nat → Int32) → (Nat → Int32) → (Nat → Int32) → (Nat → Int32) → (Nat → Int32) → (Nat → Int32) → Prop} {x4 x9 : Int32} {kc ks : Nat}
variable {xlr xls xle xdl : Int32} {ms lim nc n sp v : Nat} {xno xsk xrt xsj : Nat → Int32}
variable {xst xnw xtc xtu xtn xcu xtd xtt xsr : Int32} {xtx xtl xcr eN eC eD eT eH eR tE tN : Nat → Int32}
/-- the match and what stands behind it -/
theorem sl_683 (o1 : ms ≤ 16) (o2 : sp ≤ 16) (o3 : n ≤ ms) (C : sp_C lim nc n xno xrt xsj) (o4 : ∀ i, i < sp → ∃ q, q < nc ∧ xsk i = nI q) (o5 : sp_ch xtx 128) (o6 : ∀ w, w < 8 → ∃ l, l ≤ 16 ∧ xtl w = nI l) (hv : v < 4)
    (hJ : ∀ (xms xsl xdl xnc xsd xn xlr xls xle xst xnw xtc xtu xtn xcu xtd xtt xsr : Int32) (xno xsk xrt xsj xtx xtl xcr eN eC eD eT eH eR tE tN : Nat → Int32), sp_ok xms xsl xnc xsd xn xno xsk xrt xsj xtx xtl → J43 x4 xms xsl xdl xnc xsd xn xlr xls xle xst xnw xtc xtu xtn xcu xtd xtt xsr xno xsk xrt xsj xtx xtl xcr eN eC eD eT eH eR tE tN) :
    ∀ d i m, i + d = 16 → d < m → wL_law_683 post L xs J43 x4 (nI v) x9 (sp_p0 (sp_code xtl xtx) 8) (sp_p1 (sp_code xtl xtx) 8) (sp_p2 (sp_code xtl xtx) 8) (lN (sp_S 5 (sp_u xcr) 8)) (sp_rt xrt 4) kc ks (nI ms) (nI lim) xdl (nI nc) (nI sp) (nI n) xlr xls xle xst xnw xtc xtu xtn xcu xtd xtt xsr xno xsk xrt xsj xtx xtl xcr eN eC eD eT eH eR tE tN m (sp_sb n xsj i) (nI i) := by
  have hpk : ∀ w, w < 8 → ∀ P : Int64 → Prop, P (lN (sp_code xtl xtx w)) → wpL_pick P () (sp_p0 (sp_code xtl xtx) 8) (sp_p1 (sp_code xtl xtx) 8) (sp_p2 (sp_code xtl xtx) 8) (nI w) := fun w hw P h => sx_pick hw (sp_code_lt xtl xtx) h
  intro d
  induction d with
  | zero =>
    intro i m h hm
    obtain ⟨m, rfl⟩ : ∃ k, m = k + 1 := ⟨m - 1, by omega⟩
    have e : i = 16 := by omega
    subst e
    refine br_t (nI_le (a := 16) (Nat.le_refl _) (by omega)) (sx_st3 (sx_st4 (sx_st5 (sx_se o2 ?_))))
    refine sp_match (tx0 := xtx) (tl0 := xtl) (cr0 := xcr) _ _ _ _ _ _ _ _ _ _ _ _ _ _ _ _ _ _ _ _ C hv ⟨o5, o6, fun w hw => Or.inl ⟨rfl, fun _ _ => rfl⟩, fun w hw => Or.inl rfl⟩ ?_ ?_ ?_
    · exact br_f (by decide) (hJ _ _ _ _ _ _ _ _ _ _ _ _ _ _ _ _ _ _ _ _ _ _ _ _ _ _ _ _ _ _ _ _ _ ⟨ms, lim, nc, sp, n, rfl, o1, rfl, rfl, rfl, o2, rfl, o3, C, o4, o5, o6⟩)
    · intro q xst' xnw' xtc' xtu' xtn' xcu' xtd' xtt' xsr' xtx' xtl' xcr' eN' eC' eD' eT' eH' eR' tE' tN' hq V
      have hq0 : (0 : Int32) ≤ q := by
        rcases hq with e | e | e
        · subst e; decide
        · subst e; decide
        · subst e; decide
      refine br_t hq0 ⟨5, sl_after0 o2 C.2.2.1 C.2.2.2.2.2 hq (fun x34 => ?_)⟩
      exact sl_1017 C V hpk (fun w hw => sp_f16 hw) (fun _ z => z) (hJ _ _ _ _ _ _ _ _ _ _ _ _ _ _ _ _ _ _ _ _ _ _ _ _ _ _ _ _ _ _ _ _ _ ⟨ms, lim, nc, sp, n, rfl, o1, rfl, rfl, rfl, o2, rfl, o3, C, o4, V.1, V.2.1⟩)
    · intro t c xst' xnw' xtc' xtu' xtn' xcu' xtd' xtt' xsr' xtx' xtl' xcr' eN' eC' eD' eT' eH' eR' tE' tN' tc cn ha V
      refine br_t (by decide) ⟨5, sl_after1 o2 C.2.2.1 C.2.2.2.2.2 tc cn ha ?_⟩
      exact sl_1017 C V hpk (fun w hw => sp_f16 hw) (fun z => absurd rfl z) (hJ _ _ _ _ _ _ _ _ _ _ _ _ _ _ _ _ _ _ _ _ _ _ _ _ _ _ _ _ _ _ _ _ _ ⟨ms, lim, nc, sp, n, rfl, o1, rfl, rfl, rfl, o2, rfl, o3, C, o4, V.1, V.2.1⟩)
  | succ d ih =>
    intro i m h hm
    obtain ⟨m, rfl⟩ : ∃ k, m = k + 1 := ⟨m - 1, by omega⟩
    exact br_f (nI_ge (b := 16) (by omega) (by omega)) (sx_sc C.2.2.1 (by omega) C.2.2.2.2.2 (sx_e3 (nm_r (e' := sp_sb n xsj (i + 1)) rfl (nm_r (nI_1 i) (ih (i + 1) m (by omega) (by omega))))))
theorem sl_648 {x10 x12 x14 x16 : Int64} (h : wL_law_683 post L xs J43 x4 (nI v) x9 x10 x12 x14 x16 (sp_rt xrt 4) kc ks (nI ms) (nI lim) xdl (nI nc) (nI sp) (nI n) xlr xls xle xst xnw xtc xtu xtn xcu xtd xtt xsr xno xsk xrt xsj xtx xtl xcr eN eC eD eT eH eR tE tN 17 0 0) :
    ∀ d i m, i + d = 4 → d < m → wL_law_648 post L xs J43 x4 (nI v) x9 x10 x12 x14 x16 0 kc ks (nI ms) (nI lim) xdl (nI nc) (nI sp) (nI n) xlr xls xle xst xnw xtc xtu xtn xcu xtd xtt xsr xno xsk xrt xsj xtx xtl xcr eN eC eD eT eH eR tE tN m (sp_rt xrt i) (nI i) := by
  intro d
  induction d with
  | zero =>
    intro i m hd hm
    obtain ⟨m, rfl⟩ : ∃ k, m = k + 1 := ⟨m - 1, by omega⟩
    have e : i = 4 := by omega
    subst e
    exact br_t (nI_le (a := 4) (Nat.le_refl _) (by omega)) ⟨17, h⟩
  | succ d ih =>
    intro i m hd hm
    obtain ⟨m, rfl⟩ : ∃ k, m = k + 1 := ⟨m - 1, by omega⟩
    exact br_f (nI_ge (b := 4) (by omega) (by omega)) (sx_pr (by omega) (sx_r6 (nm_r (e' := sp_rt xrt (i + 1)) rfl (nm_r (nI_1 i) (ih (i + 1) m (by omega) (by omega))))))
variable {J462 : Int64 → Int64 → Int64 → Int64 → Int32 → Prop} {x18 x20 : Int64} {w : Nat}
theorem sl_620 {x10 x12 x14 : Int64} (hw : w < 8) (hJ : J462 x10 x12 x14 (lN (sp_S 5 (sp_u xcr) (w + 1))) (nI (w + 1))) :
    wL_law_620 post L xs J43 J462 x4 (nI v) x9 x10 x12 x14 (lN (sp_S 5 (sp_u xcr) w)) x18 x20 (nI w) kc ks (nI ms) (nI lim) xdl (nI nc) (nI sp) (nI n) xlr xls xle xst xnw xtc xtu xtn xcu xtd xtt xsr xno xsk xrt xsj xtx xtl xcr eN eC eD eT eH eR tE tN := by
  unfold wL_law_620
  refine sx_cv hw (sx_c5 ?_)
  rw [(sp_u_ok xcr w).2]
  exact nm_r (sp_pack (pk_mul 5 w) (fun i _ => (sp_u_ok xcr i).1) (by omega) rfl) (nm_r (nI_1 w) hJ)
theorem sl_557 {c : Nat → Nat} (hw : w < 8) (hc : ∀ i, c i < 2 ^ 21) (hJ : J462 (sp_p0 c (w + 1)) (sp_p1 c (w + 1)) (sp_p2 c (w + 1)) (lN (sp_S 5 (sp_u xcr) (w + 1))) (nI (w + 1))) :
    wL_law_557 post L xs J43 J462 x4 (nI v) x9 (sp_p0 c w) (sp_p1 c w) (sp_p2 c w) (lN (sp_S 5 (sp_u xcr) w)) x18 x20 (nI w) (lN (c w)) kc ks (nI ms) (nI lim) xdl (nI nc) (nI sp) (nI n) xlr xls xle xst xnw xtc xtu xtn xcu xtd xtt xsr xno xsk xrt xsj xtx xtl xcr eN eC eD eT eH eR tE tN := by
  by_cases q : w < 3
  · have a1 : sp_p1 c (w + 1) = sp_p1 c w := by
      unfold sp_p1
      rw [show w + 1 - 3 = w - 3 by omega]
    have a2 : sp_p2 c (w + 1) = sp_p2 c w := by
      unfold sp_p2
      rw [show w + 1 - 6 = w - 6 by omega]
    have a0 : sp_p0 c w ||| (lN (c w) <<< ((21 * nI w).toInt64 &&& 63)) = sp_p0 c (w + 1) := by
      unfold sp_p0
      rw [show Nat.min w 3 = w from Nat.min_eq_left (by omega), show Nat.min (w + 1) 3 = w + 1 from Nat.min_eq_left (by omega)]
      exact sp_pack (sp_21 w) (fun i _ => hc i) (by omega) rfl
    rw [a1, a2] at hJ
    exact br_f (nI_ge (b := 3) q (by omega)) (nm_r a0 (sl_620 hw hJ))
  by_cases q2 : w < 6
  · have a0 : sp_p0 c (w + 1) = sp_p0 c w := by
      unfold sp_p0
      rw [show Nat.min w 3 = 3 from Nat.min_eq_right (by omega), show Nat.min (w + 1) 3 = 3 from Nat.min_eq_right (by omega)]
    have a2 : sp_p2 c (w + 1) = sp_p2 c w := by
      unfold sp_p2
      rw [show w + 1 - 6 = w - 6 by omega]
    have a1 : sp_p1 c w ||| (lN (c w) <<< ((21 * (nI w - 3)).toInt64 &&& 63)) = sp_p1 c (w + 1) := by
      unfold sp_p1
      rw [show Nat.min (w - 3) 3 = w - 3 from Nat.min_eq_left (by omega), show Nat.min (w + 1 - 3) 3 = (w - 3) + 1 from by rw [show w + 1 - 3 = (w - 3) + 1 by omega]; exact Nat.min_eq_left (by omega)]
      have e3 : nI w - 3 = nI (w - 3) := pk_sub (a := w) (b := 3) (by omega)
      rw [e3]
      exact sp_pack (b := 21) (k := w - 3) (c := fun i => c (i + 3)) (sp_21 (w - 3)) (fun i _ => hc (i + 3)) (by omega) (by show c w = c (w - 3 + 3); rw [show w - 3 + 3 = w by omega])
    rw [a0, a2] at hJ
    exact br_t (nI_le (a := 3) (by omega) (by omega)) (br_f (nI_ge (b := 6) q2 (by omega)) (nm_r a1 (sl_620 hw hJ)))
  · have a0 : sp_p0 c (w + 1) = sp_p0 c w := by
      unfold sp_p0
      rw [show Nat.min w 3 = 3 from Nat.min_eq_right (by omega), show Nat.min (w + 1) 3 = 3 from Nat.min_eq_right (by omega)]
    have a1 : sp_p1 c (w + 1) = sp_p1 c w := by
      unfold sp_p1
      rw [show Nat.min (w - 3) 3 = 3 from Nat.min_eq_right (by omega), show Nat.min (w + 1 - 3) 3 = 3 from Nat.min_eq_right (by omega)]
    have a2 : sp_p2 c w ||| (lN (c w) <<< ((21 * (nI w - 6)).toInt64 &&& 63)) = sp_p2 c (w + 1) := by
      unfold sp_p2
      rw [show w + 1 - 6 = (w - 6) + 1 by omega]
      have e3 : nI w - 6 = nI (w - 6) := pk_sub (a := w) (b := 6) (by omega)
      rw [e3]
      exact sp_pack (b := 21) (k := w - 6) (c := fun i => c (i + 6)) (sp_21 (w - 6)) (fun i _ => hc (i + 6)) (by omega) (by show c w = c (w - 6 + 6); rw [show w - 6 + 6 = w by omega])
    rw [a0, a1] at hJ
    exact br_t (nI_le (a := 3) (by omega) (by omega)) (br_t (nI_le (a := 6) (by omega) (by omega)) (nm_r a2 (sl_620 hw hJ)))
theorem sl_505 {l : Nat} {x10 x12 x14 x16 : Int64} (hw : w < 8) (hx : sp_ch xtx 128) (el : xtl w = nI l) (hl : l ≤ 8) {a0 : Nat}
    (h : wL_law_557 post L xs J43 J462 x4 (nI v) x9 x10 x12 x14 x16 x18 x20 (nI w) (lN a0) kc ks (nI ms) (nI lim) xdl (nI nc) (nI sp) (nI n) xlr xls xle xst xnw xtc xtu xtn xcu xtd xtt xsr xno xsk xrt xsj xtx xtl xcr eN eC eD eT eH eR tE tN) :
    ∀ d i m a, i + d = l → d < m → a < 2 ^ (4 + 2 * i) → sp_lp (sp_fn xtx w) d i a = a0 →
      wL_law_505 post L xs J43 J462 x4 (nI v) x9 x10 x12 x14 x16 x18 x20 (nI w) (nI l) kc ks (nI ms) (nI lim) xdl (nI nc) (nI sp) (nI n) xlr xls xle xst xnw xtc xtu xtn xcu xtd xtt xsr xno xsk xrt xsj xtx xtl xcr eN eC eD eT eH eR tE tN m (lN a) (nI i) := by
  intro d
  induction d with
  | zero =>
    intro i m a hi hm ha e
    obtain ⟨m, rfl⟩ : ∃ k, m = k + 1 := ⟨m - 1, by omega⟩
    have e : a = a0 := e
    subst e
    exact br_t (nI_le (by omega) (by omega)) h
  | succ d ih =>
    intro i m a hi hm ha e
    obtain ⟨m, rfl⟩ : ∃ k, m = k + 1 := ⟨m - 1, by omega⟩
    obtain ⟨q, hq, ex⟩ := hx (w * 16 + i) (by omega)
    have ef : sp_fn xtx w i = q := by unfold sp_fn; rw [ex]; exact sm_cl (by omega)
    unfold sp_lp at e
    rw [ef] at e
    refine br_f (nI_ge (by omega) (by omega)) (sx_vc hw el (by omega) (by omega) hx ?_)
    rw [ex]
    by_cases z : q ≤ 3
    · rw [if_pos z] at e
      refine br_t (nI_le (b := 3) z (by omega)) (nm_r (sp_lpo (s := 4 + 2 * nI i) z (by omega) ha (sp_42 i)) (nm_r (nI_1 i) (ih (i + 1) m _ (by omega) (by omega) (sp_lpb z ha) e)))
    · rw [if_neg z] at e
      subst e
      exact br_f (nI_ge (b := q) (a := 3) (by omega) (by omega)) h
theorem sl_462 (o5 : sp_ch xtx 128) (o6 : ∀ w, w < 8 → ∃ l, l ≤ 16 ∧ xtl w = nI l)
    (h : ∃ fu, wL_law_648 post L xs J43 x4 (nI v) x9 (sp_p0 (sp_code xtl xtx) 8) (sp_p1 (sp_code xtl xtx) 8) (sp_p2 (sp_code xtl xtx) 8) (lN (sp_S 5 (sp_u xcr) 8)) 0 kc ks (nI ms) (nI lim) xdl (nI nc) (nI sp) (nI n) xlr xls xle xst xnw xtc xtu xtn xcu xtd xtt xsr xno xsk xrt xsj xtx xtl xcr eN eC eD eT eH eR tE tN fu 0 0) :
    ∀ d w m, w + d = 8 → d < m → wL_law_462 post L xs J43 x4 (nI v) x9 0 0 kc ks (nI ms) (nI lim) xdl (nI nc) (nI sp) (nI n) xlr xls xle xst xnw xtc xtu xtn xcu xtd xtt xsr xno xsk xrt xsj xtx xtl xcr eN eC eD eT eH eR tE tN m (sp_p0 (sp_code xtl xtx) w) (sp_p1 (sp_code xtl xtx) w) (sp_p2 (sp_code xtl xtx) w) (lN (sp_S 5 (sp_u xcr) w)) (nI w) := by
  intro d
  induction d with
  | zero =>
    intro w m hd hm
    obtain ⟨m, rfl⟩ : ∃ k, m = k + 1 := ⟨m - 1, by omega⟩
    have e : w = 8 := by omega
    subst e
    exact br_t (nI_le (a := 8) (Nat.le_refl _) (by omega)) h
  | succ d ih =>
    intro w m hd hm
    obtain ⟨m, rfl⟩ : ∃ k, m = k + 1 := ⟨m - 1, by omega⟩
    have hw : w < 8 := by omega
    obtain ⟨l, hl, el⟩ := o6 w hw
    have nx := ih (w + 1) m (by omega) (by omega)
    have t1 := sl_557 (post := post) (L := L) (xs := xs) (J43 := J43) (x4 := x4) (x9 := x9) (x18 := 0) (x20 := 0) (kc := kc) (ks := ks) (xdl := xdl) (xlr := xlr) (xls := xls) (xle := xle) (xst := xst) (xnw := xnw) (xtc := xtc) (xtu := xtu) (xtn := xtn) (xcu := xcu) (xtd := xtd) (xtt := xtt) (xsr := xsr) (xno := xno) (xsk := xsk) (xrt := xrt) (xsj := xsj) (xtx := xtx) (xtl := xtl) (eN := eN) (eC := eC) (eD := eD) (eT := eT) (eH := eH) (eR := eR) (tE := tE) (tN := tN) (ms := ms) (lim := lim) (nc := nc) (n := n) (sp := sp) (v := v) hw (sp_code_lt xtl xtx) nx
    have ec : (xtl w).toNatClampNeg = l := by rw [el]; exact sm_cl (by omega)
    refine br_f (nI_ge (b := 8) hw (by omega)) (sx_vl hw ?_)
    rw [el]
    refine br_f (nI_pos (by omega)) ?_
    by_cases q : l ≤ 8
    · have e0 : sp_lp (sp_fn xtx w) l 0 l = sp_code xtl xtx w := by
        unfold sp_code
        rw [ec, if_pos q]
      rw [nI_l (by omega)]
      exact br_t (nI_le (b := 8) q (by omega)) ⟨l + 1, sl_505 hw o5 el q t1 l 0 (l + 1) l (by omega) (by omega) (by omega) e0⟩
    · have e0 : sp_code xtl xtx w = 2 ^ 20 := by
        unfold sp_code
        rw [ec, if_neg q]
      rw [e0] at t1
      exact br_f (nI_ge (a := 8) (by omega) (by omega)) t1
end
section
variable {xms xsl xdl xnc xsd xn xlr xls xle xst xnw xtc xtu xtn xcu xtd xtt xsr : Int32} {xno xsk xrt xsj xtx xtl xcr eN eC eD eT eH eR tE tN : Nat → Int32}
variable {post : Int32 → Prop} {L : Nat} {xs : Nat → Int32} {J43 : Int32 → Int32 → Int32 → Int32 → Int32 → Int32 → Int32 → Int32 → Int32 → Int32 → Int32 → Int32 → Int32 → Int32 → Int32 → Int32 → Int32 → Int32 → Int32 → (Nat → Int32) → (Nat → Int32) → (Nat → Int32) → (Nat → Int32) → (Nat → Int32) → (Nat → Int32) → (Nat → Int32) → (Nat → Int32) → (Nat → Int32) → (Nat → Int32) → (Nat → Int32) → (Nat → Int32) → (Nat → Int32) → (Nat → Int32) → (Nat → Int32) → Prop} {x4 x9 : Int32} {kc ks : Nat}
theorem sl_439 {v : Nat} (O : sp_ok xms xsl xnc xsd xn xno xsk xrt xsj xtx xtl) (hv : v < 4) (hJ : ∀ (xms xsl xdl xnc xsd xn xlr xls xle xst xnw xtc xtu xtn xcu xtd xtt xsr : Int32) (xno xsk xrt xsj xtx xtl xcr eN eC eD eT eH eR tE tN : Nat → Int32), sp_ok xms xsl xnc xsd xn xno xsk xrt xsj xtx xtl → J43 x4 xms xsl xdl xnc xsd xn xlr xls xle xst xnw xtc xtu xtn xcu xtd xtt xsr xno xsk xrt xsj xtx xtl xcr eN eC eD eT eH eR tE tN) : wL_law_439 post L xs J43 x4 (nI v) x9 kc ks xms xsl xdl xnc xsd xn xlr xls xle xst xnw xtc xtu xtn xcu xtd xtt xsr xno xsk xrt xsj xtx xtl xcr eN eC eD eT eH eR tE tN := by
  obtain ⟨ms, lim, nc, sp, n, rfl, o1, rfl, rfl, rfl, o2, rfl, o3, C, o4, o5, o6⟩ := O
  exact ⟨9, sl_462 o5 o6 ⟨5, sl_648 (sl_683 o1 o2 o3 C o4 o5 o6 hv hJ 16 0 17 (by omega) (by omega)) 4 0 5 (by omega) (by omega)⟩ 8 0 9 (by omega) (by omega)⟩
end
end
section
theorem sx_cell {post : Int32 → Prop} {L j : Nat} {xs : Nat → Int32} {x : Int32} (hx : x = nI j) (hj : j < 2 ^ 31) (hL : L ≤ 260) (h : ∀ r, post r) : wpL_cell post L xs () x := by
  subst hx
  refine br_c (fun _ => h _) (fun q => ?_)
  have jl : j < L := by
    rcases Nat.lt_or_ge j L with z | z
    · exact z
    · exact absurd (nI_le z hj) q
  exact ⟨vp_in_nI jl (by omega), h _⟩
theorem sx_clamp {post : Int32 → Prop} {p : Int32} (lo hi : Nat) (hlh : lo ≤ hi) (hh : hi < 1000) (h : ∀ a, lo ≤ a → a ≤ hi → post (nI a)) : wpX_clamp post () p (nI lo) (nI hi) := by
  by_cases q : nI lo ≤ p
  · by_cases r : p ≤ nI hi
    · obtain ⟨j, hj, rfl⟩ := nI_of (sm_b0 q (by omega))
      refine br_t q (br_t r ?_)
      rw [nI_leI (by omega) hj] at q
      rw [nI_leI hj (by omega)] at r
      exact h j q r
    · exact br_t q (br_f r (h hi hlh (Nat.le_refl _)))
  · exact br_f q (h lo (Nat.le_refl _) hlh)
section
variable {xms xsl xdl xnc xsd xn xlr xls xle xst xnw xtc xtu xtn xcu xtd xtt xsr : Int32} {xno xsk xrt xsj xtx xtl xcr eN eC eD eT eH eR tE tN : Nat → Int32}
variable {post : Int32 → Prop} {L : Nat} {xs : Nat → Int32} {J43 : Int32 → Int32 → Int32 → Int32 → Int32 → Int32 → Int32 → Int32 → Int32 → Int32 → Int32 → Int32 → Int32 → Int32 → Int32 → Int32 → Int32 → Int32 → Int32 → (Nat → Int32) → (Nat → Int32) → (Nat → Int32) → (Nat → Int32) → (Nat → Int32) → (Nat → Int32) → (Nat → Int32) → (Nat → Int32) → (Nat → Int32) → (Nat → Int32) → (Nat → Int32) → (Nat → Int32) → (Nat → Int32) → (Nat → Int32) → (Nat → Int32) → Prop} {x4 x6 x8 x9 : Int32} {kc ks : Nat}
theorem sl_146 (O : sp_ok xms xsl xnc xsd xn xno xsk xrt xsj xtx xtl) (hJ : ∀ (xms xsl xdl xnc xsd xn xlr xls xle xst xnw xtc xtu xtn xcu xtd xtt xsr : Int32) (xno xsk xrt xsj xtx xtl xcr eN eC eD eT eH eR tE tN : Nat → Int32), sp_ok xms xsl xnc xsd xn xno xsk xrt xsj xtx xtl → J43 x4 xms xsl xdl xnc xsd xn xlr xls xle xst xnw xtc xtu xtn xcu xtd xtt xsr xno xsk xrt xsj xtx xtl xcr eN eC eD eT eH eR tE tN) : wL_law_146 post L xs J43 x4 x6 x8 x9 kc ks xms xsl xdl xnc xsd xn xlr xls xle xst xnw xtc xtu xtn xcu xtd xtt xsr xno xsk xrt xsj xtx xtl xcr eN eC eD eT eH eR tE tN := by
  unfold wL_law_146
  exact sp_push O (fun _ xms xsl xdl xnc xsd xn xlr xls xle xst xnw xtc xtu xtn xcu xtd xtt xsr xno xsk xrt xsj xtx xtl xcr eN eC eD eT eH eR tE tN O' => hJ xms xsl xdl xnc xsd xn xlr xls xle xst xnw xtc xtu xtn xcu xtd xtt xsr xno xsk xrt xsj xtx xtl xcr eN eC eD eT eH eR tE tN O')
theorem sl_140 (O : sp_ok xms xsl xnc xsd xn xno xsk xrt xsj xtx xtl) (hJ : ∀ (xms xsl xdl xnc xsd xn xlr xls xle xst xnw xtc xtu xtn xcu xtd xtt xsr : Int32) (xno xsk xrt xsj xtx xtl xcr eN eC eD eT eH eR tE tN : Nat → Int32), sp_ok xms xsl xnc xsd xn xno xsk xrt xsj xtx xtl → J43 x4 xms xsl xdl xnc xsd xn xlr xls xle xst xnw xtc xtu xtn xcu xtd xtt xsr xno xsk xrt xsj xtx xtl xcr eN eC eD eT eH eR tE tN) : wL_law_140 post L xs J43 x4 x6 x8 x9 kc ks xms xsl xdl xnc xsd xn xlr xls xle xst xnw xtc xtu xtn xcu xtd xtt xsr xno xsk xrt xsj xtx xtl xcr eN eC eD eT eH eR tE tN :=
  nm_e (sl_146 O hJ)
end
section
variable {post : Int32 → Prop} {L : Nat} {xs : Nat → Int32} {kc ks : Nat}
/-- the law's loop -/
theorem sl_43 (hL : L ≤ 260) (h1 : post 1) : ∀ m k, k ≤ 300 → L ≤ k + m → ∀ (xms xsl xdl xnc xsd xn xlr xls xle xst xnw xtc xtu xtn xcu xtd xtt xsr : Int32) (xno xsk xrt xsj xtx xtl xcr eN eC eD eT eH eR tE tN : Nat → Int32), sp_ok xms xsl xnc xsd xn xno xsk xrt xsj xtx xtl → wL_law_43 post L xs kc ks (m + 1) (nI k) xms xsl xdl xnc xsd xn xlr xls xle xst xnw xtc xtu xtn xcu xtd xtt xsr xno xsk xrt xsj xtx xtl xcr eN eC eD eT eH eR tE tN := by
  intro m
  induction m with
  | zero =>
    intro k hk hm xms xsl xdl xnc xsd xn xlr xls xle xst xnw xtc xtu xtn xcu xtd xtt xsr xno xsk xrt xsj xtx xtl xcr eN eC eD eT eH eR tE tN O
    exact br_t (nI_le (a := L) (by omega) (by omega)) h1
  | succ m ih =>
    intro k hk hm xms xsl xdl xnc xsd xn xlr xls xle xst xnw xtc xtu xtn xcu xtd xtt xsr xno xsk xrt xsj xtx xtl xcr eN eC eD eT eH eR tE tN O
    by_cases q : L ≤ k
    · exact br_t (nI_le (a := L) q (by omega)) h1
    have K2 := ih (k + 2) (by omega) (by omega)
    have K3 := ih (k + 2 + 1) (by omega) (by omega)
    have P2 : ∀ (p0 p1 p2 : Int32), wpX_push (fun _ u => match u with | (xms, xsl, xdl, xnc, xsd, xn, xlr, xls, xle, xst, xnw, xtc, xtu, xtn, xcu, xtd, xtt, xsr, xno, xsk, xrt, xsj, xtx, xtl, xcr, eN, eC, eD, eT, eH, eR, tE, tN) => wL_law_43 post L xs kc ks (m + 1) (nI (k + 2)) xms xsl xdl xnc xsd xn xlr xls xle xst xnw xtc xtu xtn xcu xtd xtt xsr xno xsk xrt xsj xtx xtl xcr eN eC eD eT eH eR tE tN) (xms, xsl, xdl, xnc, xsd, xn, xlr, xls, xle, xst, xnw, xtc, xtu, xtn, xcu, xtd, xtt, xsr, xno, xsk, xrt, xsj, xtx, xtl, xcr, eN, eC, eD, eT, eH, eR, tE, tN) p0 p1 p2 := fun p0 p1 p2 => sp_push O (fun _ xms xsl xdl xnc xsd xn xlr xls xle xst xnw xtc xtu xtn xcu xtd xtt xsr xno xsk xrt xsj xtx xtl xcr eN eC eD eT eH eR tE tN O' => K2 xms xsl xdl xnc xsd xn xlr xls xle xst xnw xtc xtu xtn xcu xtd xtt xsr xno xsk xrt xsj xtx xtl xcr eN eC eD eT eH eR tE tN O')
    refine br_f (nI_ge (by omega) (by omega)) (sx_cell rfl (by omega) hL (fun r73 => nm_e (sx_cell (nI_1 k) (by omega) hL (fun r75 => sx_cell (nI_add k 2) (by omega) hL (fun r76 => nm_r (nI_add k 2) ?_)))))
    refine br_c (fun _ => br_c (fun _ => br_c (fun _ => ?_) (fun _ => P2 _ _ _)) (fun _ => P2 _ _ _)) (fun _ => ?_)
    · refine br_c (fun _ => sp_define O (fun _ xms xsl xdl xnc xsd xn xlr xls xle xst xnw xtc xtu xtn xcu xtd xtt xsr xno xsk xrt xsj xtx xtl xcr eN eC eD eT eH eR tE tN O' => K2 xms xsl xdl xnc xsd xn xlr xls xle xst xnw xtc xtu xtn xcu xtd xtt xsr xno xsk xrt xsj xtx xtl xcr eN eC eD eT eH eR tE tN O')) (fun _ => ?_)
      refine br_c (fun _ => sp_addc O (fun _ xms xsl xdl xnc xsd xn xlr xls xle xst xnw xtc xtu xtn xcu xtd xtt xsr xno xsk xrt xsj xtx xtl xcr eN eC eD eT eH eR tE tN O' => K2 xms xsl xdl xnc xsd xn xlr xls xle xst xnw xtc xtu xtn xcu xtd xtt xsr xno xsk xrt xsj xtx xtl xcr eN eC eD eT eH eR tE tN O')) (fun _ => ?_)
      refine br_c (fun _ => br_c (fun _ => sp_clearSubject O (fun xms xsl xdl xnc xsd xn xlr xls xle xst xnw xtc xtu xtn xcu xtd xtt xsr xno xsk xrt xsj xtx xtl xcr eN eC eD eT eH eR tE tN O' => K2 xms xsl xdl xnc xsd xn xlr xls xle xst xnw xtc xtu xtn xcu xtd xtt xsr xno xsk xrt xsj xtx xtl xcr eN eC eD eT eH eR tE tN O')) (fun _ => sp_addc O (fun _ xms xsl xdl xnc xsd xn xlr xls xle xst xnw xtc xtu xtn xcu xtd xtt xsr xno xsk xrt xsj xtx xtl xcr eN eC eD eT eH eR tE tN O' => K2 xms xsl xdl xnc xsd xn xlr xls xle xst xnw xtc xtu xtn xcu xtd xtt xsr xno xsk xrt xsj xtx xtl xcr eN eC eD eT eH eR tE tN O'))) (fun _ => ?_)
      refine br_c (fun _ => br_c (fun _ => sp_clearVars O (fun xms xsl xdl xnc xsd xn xlr xls xle xst xnw xtc xtu xtn xcu xtd xtt xsr xno xsk xrt xsj xtx xtl xcr eN eC eD eT eH eR tE tN O' => K2 xms xsl xdl xnc xsd xn xlr xls xle xst xnw xtc xtu xtn xcu xtd xtt xsr xno xsk xrt xsj xtx xtl xcr eN eC eD eT eH eR tE tN O')) (fun _ => sp_define O (fun _ xms xsl xdl xnc xsd xn xlr xls xle xst xnw xtc xtu xtn xcu xtd xtt xsr xno xsk xrt xsj xtx xtl xcr eN eC eD eT eH eR tE tN O' => K2 xms xsl xdl xnc xsd xn xlr xls xle xst xnw xtc xtu xtn xcu xtd xtt xsr xno xsk xrt xsj xtx xtl xcr eN eC eD eT eH eR tE tN O'))) (fun _ => ?_)
      refine br_c (fun _ => ⟨by decide, nm_e ⟨by decide, nm_e (sp_push O (fun _ xms xsl xdl xnc xsd xn xlr xls xle xst xnw xtc xtu xtn xcu xtd xtt xsr xno xsk xrt xsj xtx xtl xcr eN eC eD eT eH eR tE tN O' => nm_r (nI_1 (k + 2)) (K3 xms xsl xdl xnc xsd xn xlr xls xle xst xnw xtc xtu xtn xcu xtd xtt xsr xno xsk xrt xsj xtx xtl xcr eN eC eD eT eH eR tE tN O')))⟩⟩) (fun _ => ?_)
      refine br_c (fun _ => br_c (fun _ => sp_clearAll O (fun xms xsl xdl xnc xsd xn xlr xls xle xst xnw xtc xtu xtn xcu xtd xtt xsr xno xsk xrt xsj xtx xtl xcr eN eC eD eT eH eR tE tN O' => K2 xms xsl xdl xnc xsd xn xlr xls xle xst xnw xtc xtu xtn xcu xtd xtt xsr xno xsk xrt xsj xtx xtl xcr eN eC eD eT eH eR tE tN O')) (fun _ => P2 _ _ _)) (fun _ => ?_)
      obtain ⟨v, hv, e⟩ := pk_andE r75 (m := 3) 2 (by decide)
      exact nm_r e (br_c (fun _ => sl_439 O hv (fun xms xsl xdl xnc xsd xn xlr xls xle xst xnw xtc xtu xtn xcu xtd xtt xsr xno xsk xrt xsj xtx xtl xcr eN eC eD eT eH eR tE tN O' => K2 xms xsl xdl xnc xsd xn xlr xls xle xst xnw xtc xtu xtn xcu xtd xtt xsr xno xsk xrt xsj xtx xtl xcr eN eC eD eT eH eR tE tN O')) (fun _ => sl_439 O hv (fun xms xsl xdl xnc xsd xn xlr xls xle xst xnw xtc xtu xtn xcu xtd xtt xsr xno xsk xrt xsj xtx xtl xcr eN eC eD eT eH eR tE tN O' => K2 xms xsl xdl xnc xsd xn xlr xls xle xst xnw xtc xtu xtn xcu xtd xtt xsr xno xsk xrt xsj xtx xtl xcr eN eC eD eT eH eR tE tN O')))
    · exact ⟨by decide, nm_e (nm_e (br_c (fun _ => sl_140 O (fun xms xsl xdl xnc xsd xn xlr xls xle xst xnw xtc xtu xtn xcu xtd xtt xsr xno xsk xrt xsj xtx xtl xcr eN eC eD eT eH eR tE tN O' => K2 xms xsl xdl xnc xsd xn xlr xls xle xst xnw xtc xtu xtn xcu xtd xtt xsr xno xsk xrt xsj xtx xtl xcr eN eC eD eT eH eR tE tN O')) (fun _ => br_c (fun _ => sl_140 O (fun xms xsl xdl xnc xsd xn xlr xls xle xst xnw xtc xtu xtn xcu xtd xtt xsr xno xsk xrt xsj xtx xtl xcr eN eC eD eT eH eR tE tN O' => K2 xms xsl xdl xnc xsd xn xlr xls xle xst xnw xtc xtu xtn xcu xtd xtt xsr xno xsk xrt xsj xtx xtl xcr eN eC eD eT eH eR tE tN O')) (fun _ => br_c (fun _ => sl_146 O (fun xms xsl xdl xnc xsd xn xlr xls xle xst xnw xtc xtu xtn xcu xtd xtt xsr xno xsk xrt xsj xtx xtl xcr eN eC eD eT eH eR tE tN O' => K2 xms xsl xdl xnc xsd xn xlr xls xle xst xnw xtc xtu xtn xcu xtd xtt xsr xno xsk xrt xsj xtx xtl xcr eN eC eD eT eH eR tE tN O')) (fun _ => br_c (fun _ => sl_146 O (fun xms xsl xdl xnc xsd xn xlr xls xle xst xnw xtc xtu xtn xcu xtd xtt xsr xno xsk xrt xsj xtx xtl xcr eN eC eD eT eH eR tE tN O' => K2 xms xsl xdl xnc xsd xn xlr xls xle xst xnw xtc xtu xtn xcu xtd xtt xsr xno xsk xrt xsj xtx xtl xcr eN eC eD eT eH eR tE tN O')) (fun _ => sl_140 O (fun xms xsl xdl xnc xsd xn xlr xls xle xst xnw xtc xtu xtn xcu xtd xtt xsr xno xsk xrt xsj xtx xtl xcr eN eC eD eT eH eR tE tN O' => K2 xms xsl xdl xnc xsd xn xlr xls xle xst xnw xtc xtu xtn xcu xtd xtt xsr xno xsk xrt xsj xtx xtl xcr eN eC eD eT eH eR tE tN O')))))))⟩
end
end
section
theorem i_vc (xs : Nat → Int32) (L : Nat) (hL : L ≤ 260) : wpL_law (fun r => r = 1) L xs := by
  unfold wpL_law
  refine sx_cell (j := 0) rfl (by omega) hL (fun r1 => sx_cell (j := 1) rfl (by omega) hL (fun r2 => ⟨15, 2340, by omega, by omega, ?_⟩))
  unfold wpX_init
  refine ⟨by decide, by decide, by decide, by decide, by decide, by decide, by decide, by decide, by decide, by decide, by decide, by decide, by decide, by decide, by decide, by decide, by decide, by decide, by decide, by decide, by decide, by decide, by decide, by decide, by decide, by decide, by decide, by decide, by decide, by decide, ?_⟩
  refine sx_clamp 1 16 (by omega) (by omega) (fun a a1 a2 => sx_clamp 16 250 (by omega) (by omega) (fun b b1 b2 => sx_clamp 0 8 (by omega) (by omega) (fun c c1 c2 => sx_initial ?_)))
  refine ⟨L + 1, sl_43 (post := fun r => r = 1) hL rfl L 2 (by omega) (by omega) _ _ _ _ _ _ _ _ _ _ _ _ _ _ _ _ _ _ _ _ _ _ _ _ _ _ _ _ _ _ _ _ _ ?_⟩
  exact sp_ok0 a2 b2 (fun i hi => ⟨0, by omega, rfl⟩) (fun i hi => ⟨0, by omega, rfl⟩)
end
