theorem sx_cell {post : Int32 → Prop} {L j : Nat} {xs : Nat → Int32} {x : Int32} (hx : x = nI j) (hj : j < 2 ^ 31) (hL : L ≤ 260) (h : ∀ r, post r) : wpL_cell post L xs () x := by
  subst hx
  refine br_c (fun _ => h _) (fun q => ?_)
  have jl : j < L := by
    rcases Nat.lt_or_ge j L with z | z
    · exact z
    · exact absurd (nI_le z hj) q
  exact ⟨vp_in_nI jl (by omega), h _⟩
theorem sx_clamp {post : Int32 → Prop} {p : Int32} (lo hi : Nat) (hlh : lo ≤ hi) (hh : hi < 1000) (h : ∀ a, lo ≤ a → a ≤ hi → post (nI a)) : wpX_clamp post () p (nI lo) (nI hi) := by
  by_cases q : nI lo ≤ p
  · by_cases r : p ≤ nI hi
    · obtain ⟨j, hj, rfl⟩ := nI_of (sm_b0 q (by omega))
      refine br_t q (br_t r ?_)
      rw [nI_leI (by omega) hj] at q
      rw [nI_leI hj (by omega)] at r
      exact h j q r
    · exact br_t q (br_f r (h hi hlh (Nat.le_refl _)))
  · exact br_f q (h lo (Nat.le_refl _) hlh)
section
variable {xms xsl xdl xnc xsd xn xlr xls xle xst xnw xtc xtu xtn xcu xtd xtt xsr : Int32} {xno xsk xrt xsj xtx xtl xcr eN eC eD eT eH eR tE tN : Nat → Int32}
variable {post : Int32 → Prop} {L : Nat} {xs : Nat → Int32} {J43 : Int32 → Int32 → Int32 → Int32 → Int32 → Int32 → Int32 → Int32 → Int32 → Int32 → Int32 → Int32 → Int32 → Int32 → Int32 → Int32 → Int32 → Int32 → Int32 → (Nat → Int32) → (Nat → Int32) → (Nat → Int32) → (Nat → Int32) → (Nat → Int32) → (Nat → Int32) → (Nat → Int32) → (Nat → Int32) → (Nat → Int32) → (Nat → Int32) → (Nat → Int32) → (Nat → Int32) → (Nat → Int32) → (Nat → Int32) → (Nat → Int32) → Prop} {x4 x6 x8 x9 : Int32} {kc ks : Nat}
theorem sl_146 (O : sp_ok xms xsl xnc xsd xn xno xsk xrt xsj xtx xtl) (hJ : ∀ (xms xsl xdl xnc xsd xn xlr xls xle xst xnw xtc xtu xtn xcu xtd xtt xsr : Int32) (xno xsk xrt xsj xtx xtl xcr eN eC eD eT eH eR tE tN : Nat → Int32), sp_ok xms xsl xnc xsd xn xno xsk xrt xsj xtx xtl → J43 x4 xms xsl xdl xnc xsd xn xlr xls xle xst xnw xtc xtu xtn xcu xtd xtt xsr xno xsk xrt xsj xtx xtl xcr eN eC eD eT eH eR tE tN) : wL_law_146 post L xs J43 x4 x6 x8 x9 kc ks xms xsl xdl xnc xsd xn xlr xls xle xst xnw xtc xtu xtn xcu xtd xtt xsr xno xsk xrt xsj xtx xtl xcr eN eC eD eT eH eR tE tN := by
  unfold wL_law_146
  exact sp_push O (fun _ xms xsl xdl xnc xsd xn xlr xls xle xst xnw xtc xtu xtn xcu xtd xtt xsr xno xsk xrt xsj xtx xtl xcr eN eC eD eT eH eR tE tN O' => hJ xms xsl xdl xnc xsd xn xlr xls xle xst xnw xtc xtu xtn xcu xtd xtt xsr xno xsk xrt xsj xtx xtl xcr eN eC eD eT eH eR tE tN O')
theorem sl_140 (O : sp_ok xms xsl xnc xsd xn xno xsk xrt xsj xtx xtl) (hJ : ∀ (xms xsl xdl xnc xsd xn xlr xls xle xst xnw xtc xtu xtn xcu xtd xtt xsr : Int32) (xno xsk xrt xsj xtx xtl xcr eN eC eD eT eH eR tE tN : Nat → Int32), sp_ok xms xsl xnc xsd xn xno xsk xrt xsj xtx xtl → J43 x4 xms xsl xdl xnc xsd xn xlr xls xle xst xnw xtc xtu xtn xcu xtd xtt xsr xno xsk xrt xsj xtx xtl xcr eN eC eD eT eH eR tE tN) : wL_law_140 post L xs J43 x4 x6 x8 x9 kc ks xms xsl xdl xnc xsd xn xlr xls xle xst xnw xtc xtu xtn xcu xtd xtt xsr xno xsk xrt xsj xtx xtl xcr eN eC eD eT eH eR tE tN :=
  nm_e (sl_146 O hJ)
end
section
variable {post : Int32 → Prop} {L : Nat} {xs : Nat → Int32} {kc ks : Nat}
/-- the law's loop -/
theorem sl_43 (hL : L ≤ 260) (h1 : post 1) : ∀ m k, k ≤ 300 → L ≤ k + m → ∀ (xms xsl xdl xnc xsd xn xlr xls xle xst xnw xtc xtu xtn xcu xtd xtt xsr : Int32) (xno xsk xrt xsj xtx xtl xcr eN eC eD eT eH eR tE tN : Nat → Int32), sp_ok xms xsl xnc xsd xn xno xsk xrt xsj xtx xtl → wL_law_43 post L xs kc ks (m + 1) (nI k) xms xsl xdl xnc xsd xn xlr xls xle xst xnw xtc xtu xtn xcu xtd xtt xsr xno xsk xrt xsj xtx xtl xcr eN eC eD eT eH eR tE tN := by
  intro m
  induction m with
  | zero =>
    intro k hk hm xms xsl xdl xnc xsd xn xlr xls xle xst xnw xtc xtu xtn xcu xtd xtt xsr xno xsk xrt xsj xtx xtl xcr eN eC eD eT eH eR tE tN O
    exact br_t (nI_le (a := L) (by omega) (by omega)) h1
  | succ m ih =>
    intro k hk hm xms xsl xdl xnc xsd xn xlr xls xle xst xnw xtc xtu xtn xcu xtd xtt xsr xno xsk xrt xsj xtx xtl xcr eN eC eD eT eH eR tE tN O
    by_cases q : L ≤ k
    · exact br_t (nI_le (a := L) q (by omega)) h1
    have K2 := ih (k + 2) (by omega) (by omega)
    have K3 := ih (k + 2 + 1) (by omega) (by omega)
    have P2 : ∀ (p0 p1 p2 : Int32), wpX_push (fun _ u => match u with | (xms, xsl, xdl, xnc, xsd, xn, xlr, xls, xle, xst, xnw, xtc, xtu, xtn, xcu, xtd, xtt, xsr, xno, xsk, xrt, xsj, xtx, xtl, xcr, eN, eC, eD, eT, eH, eR, tE, tN) => wL_law_43 post L xs kc ks (m + 1) (nI (k + 2)) xms xsl xdl xnc xsd xn xlr xls xle xst xnw xtc xtu xtn xcu xtd xtt xsr xno xsk xrt xsj xtx xtl xcr eN eC eD eT eH eR tE tN) (xms, xsl, xdl, xnc, xsd, xn, xlr, xls, xle, xst, xnw, xtc, xtu, xtn, xcu, xtd, xtt, xsr, xno, xsk, xrt, xsj, xtx, xtl, xcr, eN, eC, eD, eT, eH, eR, tE, tN) p0 p1 p2 := fun p0 p1 p2 => sp_push O (fun _ xms xsl xdl xnc xsd xn xlr xls xle xst xnw xtc xtu xtn xcu xtd xtt xsr xno xsk xrt xsj xtx xtl xcr eN eC eD eT eH eR tE tN O' => K2 xms xsl xdl xnc xsd xn xlr xls xle xst xnw xtc xtu xtn xcu xtd xtt xsr xno xsk xrt xsj xtx xtl xcr eN eC eD eT eH eR tE tN O')
    refine br_f (nI_ge (by omega) (by omega)) (sx_cell rfl (by omega) hL (fun r73 => nm_e (sx_cell (nI_1 k) (by omega) hL (fun r75 => sx_cell (nI_add k 2) (by omega) hL (fun r76 => nm_r (nI_add k 2) ?_)))))
    refine br_c (fun _ => br_c (fun _ => br_c (fun _ => ?_) (fun _ => P2 _ _ _)) (fun _ => P2 _ _ _)) (fun _ => ?_)
    · refine br_c (fun _ => sp_define O (fun _ xms xsl xdl xnc xsd xn xlr xls xle xst xnw xtc xtu xtn xcu xtd xtt xsr xno xsk xrt xsj xtx xtl xcr eN eC eD eT eH eR tE tN O' => K2 xms xsl xdl xnc xsd xn xlr xls xle xst xnw xtc xtu xtn xcu xtd xtt xsr xno xsk xrt xsj xtx xtl xcr eN eC eD eT eH eR tE tN O')) (fun _ => ?_)
      refine br_c (fun _ => sp_addc O (fun _ xms xsl xdl xnc xsd xn xlr xls xle xst xnw xtc xtu xtn xcu xtd xtt xsr xno xsk xrt xsj xtx xtl xcr eN eC eD eT eH eR tE tN O' => K2 xms xsl xdl xnc xsd xn xlr xls xle xst xnw xtc xtu xtn xcu xtd xtt xsr xno xsk xrt xsj xtx xtl xcr eN eC eD eT eH eR tE tN O')) (fun _ => ?_)
      refine br_c (fun _ => br_c (fun _ => sp_clearSubject O (fun xms xsl xdl xnc xsd xn xlr xls xle xst xnw xtc xtu xtn xcu xtd xtt xsr xno xsk xrt xsj xtx xtl xcr eN eC eD eT eH eR tE tN O' => K2 xms xsl xdl xnc xsd xn xlr xls xle xst xnw xtc xtu xtn xcu xtd xtt xsr xno xsk xrt xsj xtx xtl xcr eN eC eD eT eH eR tE tN O')) (fun _ => sp_addc O (fun _ xms xsl xdl xnc xsd xn xlr xls xle xst xnw xtc xtu xtn xcu xtd xtt xsr xno xsk xrt xsj xtx xtl xcr eN eC eD eT eH eR tE tN O' => K2 xms xsl xdl xnc xsd xn xlr xls xle xst xnw xtc xtu xtn xcu xtd xtt xsr xno xsk xrt xsj xtx xtl xcr eN eC eD eT eH eR tE tN O'))) (fun _ => ?_)
      refine br_c (fun _ => br_c (fun _ => sp_clearVars O (fun xms xsl xdl xnc xsd xn xlr xls xle xst xnw xtc xtu xtn xcu xtd xtt xsr xno xsk xrt xsj xtx xtl xcr eN eC eD eT eH eR tE tN O' => K2 xms xsl xdl xnc xsd xn xlr xls xle xst xnw xtc xtu xtn xcu xtd xtt xsr xno xsk xrt xsj xtx xtl xcr eN eC eD eT eH eR tE tN O')) (fun _ => sp_define O (fun _ xms xsl xdl xnc xsd xn xlr xls xle xst xnw xtc xtu xtn xcu xtd xtt xsr xno xsk xrt xsj xtx xtl xcr eN eC eD eT eH eR tE tN O' => K2 xms xsl xdl xnc xsd xn xlr xls xle xst xnw xtc xtu xtn xcu xtd xtt xsr xno xsk xrt xsj xtx xtl xcr eN eC eD eT eH eR tE tN O'))) (fun _ => ?_)
      refine br_c (fun _ => ⟨by decide, nm_e ⟨by decide, nm_e (sp_push O (fun _ xms xsl xdl xnc xsd xn xlr xls xle xst xnw xtc xtu xtn xcu xtd xtt xsr xno xsk xrt xsj xtx xtl xcr eN eC eD eT eH eR tE tN O' => nm_r (nI_1 (k + 2)) (K3 xms xsl xdl xnc xsd xn xlr xls xle xst xnw xtc xtu xtn xcu xtd xtt xsr xno xsk xrt xsj xtx xtl xcr eN eC eD eT eH eR tE tN O')))⟩⟩) (fun _ => ?_)
      refine br_c (fun _ => br_c (fun _ => sp_clearAll O (fun xms xsl xdl xnc xsd xn xlr xls xle xst xnw xtc xtu xtn xcu xtd xtt xsr xno xsk xrt xsj xtx xtl xcr eN eC eD eT eH eR tE tN O' => K2 xms xsl xdl xnc xsd xn xlr xls xle xst xnw xtc xtu xtn xcu xtd xtt xsr xno xsk xrt xsj xtx xtl xcr eN eC eD eT eH eR tE tN O')) (fun _ => P2 _ _ _)) (fun _ => ?_)
      obtain ⟨v, hv, e⟩ := pk_andE r75 (m := 3) 2 (by decide)
      exact nm_r e (br_c (fun _ => sl_439 O hv (fun xms xsl xdl xnc xsd xn xlr xls xle xst xnw xtc xtu xtn xcu xtd xtt xsr xno xsk xrt xsj xtx xtl xcr eN eC eD eT eH eR tE tN O' => K2 xms xsl xdl xnc xsd xn xlr xls xle xst xnw xtc xtu xtn xcu xtd xtt xsr xno xsk xrt xsj xtx xtl xcr eN eC eD eT eH eR tE tN O')) (fun _ => sl_439 O hv (fun xms xsl xdl xnc xsd xn xlr xls xle xst xnw xtc xtu xtn xcu xtd xtt xsr xno xsk xrt xsj xtx xtl xcr eN eC eD eT eH eR tE tN O' => K2 xms xsl xdl xnc xsd xn xlr xls xle xst xnw xtc xtu xtn xcu xtd xtt xsr xno xsk xrt xsj xtx xtl xcr eN eC eD eT eH eR tE tN O')))
    · exact ⟨by decide, nm_e (nm_e (br_c (fun _ => sl_140 O (fun xms xsl xdl xnc xsd xn xlr xls xle xst xnw xtc xtu xtn xcu xtd xtt xsr xno xsk xrt xsj xtx xtl xcr eN eC eD eT eH eR tE tN O' => K2 xms xsl xdl xnc xsd xn xlr xls xle xst xnw xtc xtu xtn xcu xtd xtt xsr xno xsk xrt xsj xtx xtl xcr eN eC eD eT eH eR tE tN O')) (fun _ => br_c (fun _ => sl_140 O (fun xms xsl xdl xnc xsd xn xlr xls xle xst xnw xtc xtu xtn xcu xtd xtt xsr xno xsk xrt xsj xtx xtl xcr eN eC eD eT eH eR tE tN O' => K2 xms xsl xdl xnc xsd xn xlr xls xle xst xnw xtc xtu xtn xcu xtd xtt xsr xno xsk xrt xsj xtx xtl xcr eN eC eD eT eH eR tE tN O')) (fun _ => br_c (fun _ => sl_146 O (fun xms xsl xdl xnc xsd xn xlr xls xle xst xnw xtc xtu xtn xcu xtd xtt xsr xno xsk xrt xsj xtx xtl xcr eN eC eD eT eH eR tE tN O' => K2 xms xsl xdl xnc xsd xn xlr xls xle xst xnw xtc xtu xtn xcu xtd xtt xsr xno xsk xrt xsj xtx xtl xcr eN eC eD eT eH eR tE tN O')) (fun _ => br_c (fun _ => sl_146 O (fun xms xsl xdl xnc xsd xn xlr xls xle xst xnw xtc xtu xtn xcu xtd xtt xsr xno xsk xrt xsj xtx xtl xcr eN eC eD eT eH eR tE tN O' => K2 xms xsl xdl xnc xsd xn xlr xls xle xst xnw xtc xtu xtn xcu xtd xtt xsr xno xsk xrt xsj xtx xtl xcr eN eC eD eT eH eR tE tN O')) (fun _ => sl_140 O (fun xms xsl xdl xnc xsd xn xlr xls xle xst xnw xtc xtu xtn xcu xtd xtt xsr xno xsk xrt xsj xtx xtl xcr eN eC eD eT eH eR tE tN O' => K2 xms xsl xdl xnc xsd xn xlr xls xle xst xnw xtc xtu xtn xcu xtd xtt xsr xno xsk xrt xsj xtx xtl xcr eN eC eD eT eH eR tE tN O')))))))⟩
end
