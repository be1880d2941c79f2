/-- the invariant between calls -/
def sp_ok (xms xsl xnc xsd xn : Int32) (xno xsk xrt xsj xtx xtl : Nat → Int32) : Prop :=
  ∃ ms lim nc sp n, xms = nI ms ∧ ms ≤ 16 ∧ xsl = nI lim ∧ xnc = nI nc ∧ xsd = nI sp ∧ sp ≤ 16 ∧ xn = nI n ∧ n ≤ ms ∧ sp_C lim nc n xno xrt xsj ∧
    (∀ i, i < sp → ∃ q, q < nc ∧ xsk i = nI q) ∧ sp_ch xtx 128 ∧ (∀ w, w < 8 → ∃ l, l ≤ 16 ∧ xtl w = nI l)
/-- an entry of the stack -/
def sp_se (xsd : Int32) (xsk : Nat → Int32) (p : Int32) : Int32 := if p < 0 then -1 else if p < xsd then xsk p.toNatClampNeg else -1
/-- a character of the subject -/
def sp_sc (n : Nat) (xsj : Nat → Int32) (i : Nat) : Int32 := if i < n then xsj i else 0
section
variable {xms xsl xdl xnc xsd xn xlr xls xle xst xnw xtc xtu xtn xcu xtd xtt xsr : Int32} {xno xsk xrt xsj xtx xtl xcr eN eC eD eT eH eR tE tN : Nat → Int32}
variable {post : Int32 → Prop}
theorem sx_st1 (h : post xls) : wpX_status post (xms, xsl, xdl, xnc, xsd, xn, xlr, xls, xle, xst, xnw, xtc, xtu, xtn, xcu, xtd, xtt, xsr, xno, xsk, xrt, xsj, xtx, xtl, xcr, eN, eC, eD, eT, eH, eR, tE, tN) 1 := br_f (by decide) (br_f (by decide) (br_f (by decide) (br_t rfl h)))
theorem sx_st2 (h : post xle) : wpX_status post (xms, xsl, xdl, xnc, xsd, xn, xlr, xls, xle, xst, xnw, xtc, xtu, xtn, xcu, xtd, xtt, xsr, xno, xsk, xrt, xsj, xtx, xtl, xcr, eN, eC, eD, eT, eH, eR, tE, tN) 2 := br_f (by decide) (br_f (by decide) (br_f (by decide) (br_f (by decide) (br_t rfl h))))
theorem sx_st3 (h : post xnc) : wpX_status post (xms, xsl, xdl, xnc, xsd, xn, xlr, xls, xle, xst, xnw, xtc, xtu, xtn, xcu, xtd, xtt, xsr, xno, xsk, xrt, xsj, xtx, xtl, xcr, eN, eC, eD, eT, eH, eR, tE, tN) 3 := br_f (by decide) (br_f (by decide) (br_f (by decide) (br_f (by decide) (br_f (by decide) (br_t rfl h)))))
theorem sx_st4 (h : post xsd) : wpX_status post (xms, xsl, xdl, xnc, xsd, xn, xlr, xls, xle, xst, xnw, xtc, xtu, xtn, xcu, xtd, xtt, xsr, xno, xsk, xrt, xsj, xtx, xtl, xcr, eN, eC, eD, eT, eH, eR, tE, tN) 4 := br_f (by decide) (br_f (by decide) (br_f (by decide) (br_f (by decide) (br_f (by decide) (br_f (by decide) (br_t rfl h))))))
theorem sx_st5 (h : post xn) : wpX_status post (xms, xsl, xdl, xnc, xsd, xn, xlr, xls, xle, xst, xnw, xtc, xtu, xtn, xcu, xtd, xtt, xsr, xno, xsk, xrt, xsj, xtx, xtl, xcr, eN, eC, eD, eT, eH, eR, tE, tN) 5 := br_f (by decide) (br_f (by decide) (br_f (by decide) (br_f (by decide) (br_f (by decide) (br_f (by decide) (br_f (by decide) (br_t rfl h)))))))
theorem sx_se {p : Int32} {sp : Nat} (hs : sp ≤ 16) (h : post (sp_se (nI sp) xsk p)) : wpX_stackEntry post (xms, xsl, xdl, xnc, nI sp, xn, xlr, xls, xle, xst, xnw, xtc, xtu, xtn, xcu, xtd, xtt, xsr, xno, xsk, xrt, xsj, xtx, xtl, xcr, eN, eC, eD, eT, eH, eR, tE, tN) p := by
  unfold sp_se at h
  by_cases a : p < 0
  · rw [if_pos a] at h; exact br_t a h
  · rw [if_neg a] at h
    by_cases b : p < nI sp
    · rw [if_pos b] at h
      obtain ⟨j, hj, rfl⟩ := nI_of a
      rw [nI_ltI hj (by omega)] at b
      exact br_f a (br_t (nI_lt b (by omega)) ⟨vp_in_nI (by omega) (by omega), h⟩)
    · rw [if_neg b] at h; exact br_f a (br_f b h)
theorem sx_pr {q : Nat} (hq : q < 4) (h : post (xrt q)) : wpX_patternRoot post (xms, xsl, xdl, xnc, xsd, xn, xlr, xls, xle, xst, xnw, xtc, xtu, xtn, xcu, xtd, xtt, xsr, xno, xsk, xrt, xsj, xtx, xtl, xcr, eN, eC, eD, eT, eH, eR, tE, tN) (nI q) :=
  br_f (nI_pos (by omega)) (br_t (sm_lt 4 hq (by omega)) ⟨vp_in_nI hq (by omega), by rw [sm_cl (by omega)]; exact h⟩)
theorem sx_vl {q : Nat} (hq : q < 8) (h : post (xtl q)) : wpX_varLength post (xms, xsl, xdl, xnc, xsd, xn, xlr, xls, xle, xst, xnw, xtc, xtu, xtn, xcu, xtd, xtt, xsr, xno, xsk, xrt, xsj, xtx, xtl, xcr, eN, eC, eD, eT, eH, eR, tE, tN) (nI q) :=
  br_f (nI_pos (by omega)) (br_t (sm_lt 8 hq (by omega)) ⟨vp_in_nI hq (by omega), by rw [sm_cl (by omega)]; exact h⟩)
theorem sx_cv {q : Nat} (hq : q < 8) (h : post (xcr q)) : wpX_cursorVar post (xms, xsl, xdl, xnc, xsd, xn, xlr, xls, xle, xst, xnw, xtc, xtu, xtn, xcu, xtd, xtt, xsr, xno, xsk, xrt, xsj, xtx, xtl, xcr, eN, eC, eD, eT, eH, eR, tE, tN) (nI q) :=
  br_f (nI_pos (by omega)) (br_t (sm_lt 8 hq (by omega)) ⟨vp_in_nI hq (by omega), by rw [sm_cl (by omega)]; exact h⟩)
theorem sx_sc {i n : Nat} (hn : n ≤ 16) (hi : i < 1000) (hc : sp_ch xsj 16) (h : post (sp_sc n xsj i)) : wpX_subjectChar post (xms, xsl, xdl, xnc, xsd, nI n, xlr, xls, xle, xst, xnw, xtc, xtu, xtn, xcu, xtd, xtt, xsr, xno, xsk, xrt, xsj, xtx, xtl, xcr, eN, eC, eD, eT, eH, eR, tE, tN) (nI i) := by
  unfold sp_sc at h
  by_cases a : i < n
  · rw [if_pos a] at h
    obtain ⟨q, hq, e⟩ := hc i (by omega)
    refine br_f (nI_pos (by omega)) (br_t (nI_lt a (by omega)) ⟨vp_in_nI (by omega) (by omega), ?_⟩)
    rw [sm_cl (by omega)]
    exact ⟨by rw [e]; exact (pk_charN hq).1, h⟩
  · rw [if_neg a] at h
    exact br_f (nI_pos (by omega)) (br_f (nI_nlt (by omega) (by omega)) h)
theorem sx_vc {w i l : Nat} (hw : w < 8) (el : xtl w = nI l) (hl : l ≤ 16) (hi : i < l) (hc : sp_ch xtx 128) (h : post (xtx (w * 16 + i))) : wpX_varChar post (xms, xsl, xdl, xnc, xsd, xn, xlr, xls, xle, xst, xnw, xtc, xtu, xtn, xcu, xtd, xtt, xsr, xno, xsk, xrt, xsj, xtx, xtl, xcr, eN, eC, eD, eT, eH, eR, tE, tN) (nI w) (nI i) := by
  have g : nI i < xtl (nI w).toNatClampNeg := by rw [sm_cl (by omega), el]; exact nI_lt hi (by omega)
  have ei : nI w * 16 + nI i = nI (w * 16 + i) := by rw [sm_16, pk_mul, nI_add]
  obtain ⟨q, hq, e⟩ := hc (w * 16 + i) (by omega)
  refine br_f (nI_pos (by omega)) (br_f (nI_ge (b := 8) hw (by omega)) (br_f (nI_pos (by omega)) ⟨vp_in_nI hw (by omega), br_t g ?_⟩))
  rw [ei, sm_cl (by omega)]
  exact ⟨vp_in_nI (by omega) (by omega), by rw [e]; exact (pk_charN hq).1, h⟩
theorem sx_nf {i f nc : Nat} (hi : i < 1000) (hf : f < 5) (hn : nc ≤ 32) (h1 : i < nc → post (xno (5 * i + f))) (h0 : nc ≤ i → post (-1)) : wpX_nodeField post (xms, xsl, xdl, nI nc, xsd, xn, xlr, xls, xle, xst, xnw, xtc, xtu, xtn, xcu, xtd, xtt, xsr, xno, xsk, xrt, xsj, xtx, xtl, xcr, eN, eC, eD, eT, eH, eR, tE, tN) (nI i) (nI f) := by
  by_cases a : nc ≤ i
  · exact br_f (nI_pos (by omega)) (br_t (nI_le a (by omega)) (h0 a))
  · refine br_f (nI_pos (by omega)) (br_f (nI_ge (by omega) (by omega)) (br_f (nI_pos (by omega)) (br_t (sm_lt 5 hf (by omega)) ?_)))
    exact ⟨sm_in5 f (by omega) hf, by rw [sm_ix5, sm_cl (by omega)]; exact h1 (by omega)⟩
end
def sm_fill (g : Nat → Int32) (x : Int32) : Nat → Nat → Int32
  | 0 => g
  | i + 1 => upd (sm_fill g x i) i x
theorem sm_fill_lt {g : Nat → Int32} {x : Int32} : ∀ i j, j < i → sm_fill g x i j = x := by
  intro i
  induction i with
  | zero => intro j h; omega
  | succ i ih =>
    intro j h
    unfold sm_fill
    by_cases q : j = i
    · rw [q, pk_us]
    · rw [pk_un q]; exact ih j (by omega)
section
variable {xms xsl xdl xnc xsd xn xlr xls xle xst xnw xtc xtu xtn xcu xtd xtt xsr : Int32} {xno xsk xrt xsj xtx xtl xcr eN eC eD eT eH eR tE tN : Nat → Int32}
theorem sx_empty {post : St2 → Prop} : ∀ d i m, i + d = 8 → d < m → post (xms, xsl, xdl, xnc, xsd, xn, xlr, xls, xle, xst, xnw, xtc, xtu, xtn, xcu, xtd, xtt, xsr, xno, xsk, xrt, xsj, xtx, sm_fill xtl 0 8, sm_fill xcr (-1) 8, eN, eC, eD, eT, eH, eR, tE, tN) →
    wX_emptyVars_2 post xms xsl xdl xnc xsd xn xlr xls xle xst xnw xtc xtu xtn xcu xtd xtt xsr m (nI i) xno xsk xrt xsj xtx (sm_fill xtl 0 i) (sm_fill xcr (-1) i) eN eC eD eT eH eR tE tN := by
  intro d
  induction d with
  | zero =>
    intro i m h hm hp
    obtain ⟨m, rfl⟩ : ∃ k, m = k + 1 := ⟨m - 1, by omega⟩
    have e : i = 8 := by omega
    subst e
    exact br_t (nI_le (a := 8) (Nat.le_refl 8) (by omega)) hp
  | succ d ih =>
    intro i m h hm hp
    obtain ⟨m, rfl⟩ : ∃ k, m = k + 1 := ⟨m - 1, by omega⟩
    have vi : vp_in (nI i) 8 := vp_in_nI (by omega) (by omega)
    exact br_f (nI_ge (b := 8) (by omega) (by omega)) ⟨vi, nm_r (sm_up (by omega)) ⟨vi, nm_r (sm_up (by omega)) (nm_r (nI_1 i) (ih (i + 1) m (by omega) (by omega) hp))⟩⟩
theorem sx_emptyVars {post : St2 → Prop} (hp : post (xms, xsl, xdl, xnc, xsd, xn, xlr, xls, xle, xst, xnw, xtc, xtu, xtn, xcu, xtd, xtt, xsr, xno, xsk, xrt, xsj, xtx, sm_fill xtl 0 8, sm_fill xcr (-1) 8, eN, eC, eD, eT, eH, eR, tE, tN)) : wpX_emptyVars post (xms, xsl, xdl, xnc, xsd, xn, xlr, xls, xle, xst, xnw, xtc, xtu, xtn, xcu, xtd, xtt, xsr, xno, xsk, xrt, xsj, xtx, xtl, xcr, eN, eC, eD, eT, eH, eR, tE, tN) :=
  ⟨9, sx_empty 8 0 9 (by omega) (by omega) hp⟩
theorem sx_roots {post : St2 → Prop} : ∀ d i m, i + d = 4 → d < m → post (xms, xsl, xdl, xnc, xsd, 0, 3, -1, -1, xst, xnw, xtc, xtu, xtn, xcu, xtd, xtt, xsr, xno, xsk, sm_fill xrt (-1) 4, xsj, xtx, sm_fill xtl 0 8, sm_fill xcr (-1) 8, eN, eC, eD, eT, eH, eR, tE, tN) →
    wX_setInitialState_12 post xms xsl xdl xnc xsd xn xlr xls xle xst xnw xtc xtu xtn xcu xtd xtt xsr m (nI i) xno xsk (sm_fill xrt (-1) i) xsj xtx xtl xcr eN eC eD eT eH eR tE tN := by
  intro d
  induction d with
  | zero =>
    intro i m h hm hp
    obtain ⟨m, rfl⟩ : ∃ k, m = k + 1 := ⟨m - 1, by omega⟩
    have e : i = 4 := by omega
    subst e
    exact br_t (nI_le (a := 4) (Nat.le_refl 4) (by omega)) (sx_emptyVars hp)
  | succ d ih =>
    intro i m h hm hp
    obtain ⟨m, rfl⟩ : ∃ k, m = k + 1 := ⟨m - 1, by omega⟩
    have vi : vp_in (nI i) 4 := vp_in_nI (by omega) (by omega)
    exact br_f (nI_ge (b := 4) (by omega) (by omega)) ⟨vi, nm_r (sm_up (by omega)) (nm_r (nI_1 i) (ih (i + 1) m (by omega) (by omega) hp))⟩
theorem sx_initial {post : St2 → Prop} (hp : post (xms, xsl, xdl, 0, 0, 0, 3, -1, -1, xst, xnw, xtc, xtu, xtn, xcu, xtd, xtt, xsr, xno, xsk, sm_fill xrt (-1) 4, xsj, xtx, sm_fill xtl 0 8, sm_fill xcr (-1) 8, eN, eC, eD, eT, eH, eR, tE, tN)) : wpX_setInitialState post (xms, xsl, xdl, xnc, xsd, xn, xlr, xls, xle, xst, xnw, xtc, xtu, xtn, xcu, xtd, xtt, xsr, xno, xsk, xrt, xsj, xtx, xtl, xcr, eN, eC, eD, eT, eH, eR, tE, tN) :=
  ⟨5, sx_roots 4 0 5 (by omega) (by omega) hp⟩
theorem sp_ok0 {ms lim : Nat} (hm : ms ≤ 16) (hl : lim ≤ 250) (hs : sp_ch xsj 16) (hx : sp_ch xtx 128) : sp_ok (nI ms) (nI lim) 0 0 0 xno xsk (sm_fill xrt (-1) 4) xsj xtx (sm_fill xtl 0 8) :=
  ⟨ms, lim, 0, 0, 0, rfl, hm, rfl, rfl, rfl, by omega, rfl, by omega, ⟨by omega, hl, by omega, fun i hi => absurd hi (by omega), fun v hv => Or.inl (sm_fill_lt 4 v hv), hs⟩, fun i hi => absurd hi (by omega), hx, fun w hw => ⟨0, by omega, sm_fill_lt 8 w hw⟩⟩
variable {post : St2 → Prop}
theorem sp_clearAll (O : sp_ok xms xsl xnc xsd xn xno xsk xrt xsj xtx xtl) (hp : ∀ (xms xsl xdl xnc xsd xn xlr xls xle xst xnw xtc xtu xtn xcu xtd xtt xsr : Int32) (xno xsk xrt xsj xtx xtl xcr eN eC eD eT eH eR tE tN : Nat → Int32), sp_ok xms xsl xnc xsd xn xno xsk xrt xsj xtx xtl → post (xms, xsl, xdl, xnc, xsd, xn, xlr, xls, xle, xst, xnw, xtc, xtu, xtn, xcu, xtd, xtt, xsr, xno, xsk, xrt, xsj, xtx, xtl, xcr, eN, eC, eD, eT, eH, eR, tE, tN)) : wpX_clearAll post (xms, xsl, xdl, xnc, xsd, xn, xlr, xls, xle, xst, xnw, xtc, xtu, xtn, xcu, xtd, xtt, xsr, xno, xsk, xrt, xsj, xtx, xtl, xcr, eN, eC, eD, eT, eH, eR, tE, tN) := by
  obtain ⟨ms, lim, nc, sp, n, rfl, o1, rfl, rfl, rfl, o2, rfl, o3, C, o4, o5, o6⟩ := O
  unfold wpX_clearAll
  refine sx_initial ?_
  exact hp _ _ _ _ _ _ _ _ _ _ _ _ _ _ _ _ _ _ _ _ _ _ _ _ _ _ _ _ _ _ _ _ _ (sp_ok0 o1 C.2.1 C.2.2.2.2.2 o5)
theorem sp_clearVars (O : sp_ok xms xsl xnc xsd xn xno xsk xrt xsj xtx xtl) (hp : ∀ (xms xsl xdl xnc xsd xn xlr xls xle xst xnw xtc xtu xtn xcu xtd xtt xsr : Int32) (xno xsk xrt xsj xtx xtl xcr eN eC eD eT eH eR tE tN : Nat → Int32), sp_ok xms xsl xnc xsd xn xno xsk xrt xsj xtx xtl → post (xms, xsl, xdl, xnc, xsd, xn, xlr, xls, xle, xst, xnw, xtc, xtu, xtn, xcu, xtd, xtt, xsr, xno, xsk, xrt, xsj, xtx, xtl, xcr, eN, eC, eD, eT, eH, eR, tE, tN)) : wpX_clearVars post (xms, xsl, xdl, xnc, xsd, xn, xlr, xls, xle, xst, xnw, xtc, xtu, xtn, xcu, xtd, xtt, xsr, xno, xsk, xrt, xsj, xtx, xtl, xcr, eN, eC, eD, eT, eH, eR, tE, tN) := by
  obtain ⟨ms, lim, nc, sp, n, rfl, o1, rfl, rfl, rfl, o2, rfl, o3, C, o4, o5, o6⟩ := O
  unfold wpX_clearVars
  refine sx_emptyVars ?_
  exact hp _ _ _ _ _ _ _ _ _ _ _ _ _ _ _ _ _ _ _ _ _ _ _ _ _ _ _ _ _ _ _ _ _ ⟨ms, lim, nc, sp, n, rfl, o1, rfl, rfl, rfl, o2, rfl, o3, C, o4, o5, fun w hw => ⟨0, by omega, sm_fill_lt 8 w hw⟩⟩
theorem sp_clearSubject (O : sp_ok xms xsl xnc xsd xn xno xsk xrt xsj xtx xtl) (hp : ∀ (xms xsl xdl xnc xsd xn xlr xls xle xst xnw xtc xtu xtn xcu xtd xtt xsr : Int32) (xno xsk xrt xsj xtx xtl xcr eN eC eD eT eH eR tE tN : Nat → Int32), sp_ok xms xsl xnc xsd xn xno xsk xrt xsj xtx xtl → post (xms, xsl, xdl, xnc, xsd, xn, xlr, xls, xle, xst, xnw, xtc, xtu, xtn, xcu, xtd, xtt, xsr, xno, xsk, xrt, xsj, xtx, xtl, xcr, eN, eC, eD, eT, eH, eR, tE, tN)) : wpX_clearSubject post (xms, xsl, xdl, xnc, xsd, xn, xlr, xls, xle, xst, xnw, xtc, xtu, xtn, xcu, xtd, xtt, xsr, xno, xsk, xrt, xsj, xtx, xtl, xcr, eN, eC, eD, eT, eH, eR, tE, tN) := by
  obtain ⟨ms, lim, nc, sp, n, rfl, o1, rfl, rfl, rfl, o2, rfl, o3, C, o4, o5, o6⟩ := O
  exact hp _ _ _ _ _ _ _ _ _ _ _ _ _ _ _ _ _ _ _ _ _ _ _ _ _ _ _ _ _ _ _ _ _ ⟨ms, lim, nc, sp, 0, rfl, o1, rfl, rfl, rfl, o2, rfl, by omega, ⟨C.1, C.2.1, by omega, C.2.2.2⟩, o4, o5, o6⟩
end
section
variable {xms xsl xdl xnc xsd xn xlr xls xle xst xnw xtc xtu xtn xcu xtd xtt xsr : Int32} {xno xsk xrt xsj xtx xtl xcr eN eC eD eT eH eR tE tN : Nat → Int32}
variable {post : Int32 → St2 → Prop}
theorem sp_define {p : Int32} (O : sp_ok xms xsl xnc xsd xn xno xsk xrt xsj xtx xtl) (hp : ∀ (r : Int32) (xms xsl xdl xnc xsd xn xlr xls xle xst xnw xtc xtu xtn xcu xtd xtt xsr : Int32) (xno xsk xrt xsj xtx xtl xcr eN eC eD eT eH eR tE tN : Nat → Int32), sp_ok xms xsl xnc xsd xn xno xsk xrt xsj xtx xtl → post r (xms, xsl, xdl, xnc, xsd, xn, xlr, xls, xle, xst, xnw, xtc, xtu, xtn, xcu, xtd, xtt, xsr, xno, xsk, xrt, xsj, xtx, xtl, xcr, eN, eC, eD, eT, eH, eR, tE, tN)) : wpX_define post (xms, xsl, xdl, xnc, xsd, xn, xlr, xls, xle, xst, xnw, xtc, xtu, xtn, xcu, xtd, xtt, xsr, xno, xsk, xrt, xsj, xtx, xtl, xcr, eN, eC, eD, eT, eH, eR, tE, tN) p := by
  have O' := O
  obtain ⟨ms, lim, nc, sp, n, rfl, o1, rfl, rfl, rfl, o2, rfl, o3, C, o4, o5, o6⟩ := O
  rcases pk_ix p (n := 4) (by omega) with h | h | ⟨v, hv, rfl⟩
  · exact br_t h (hp _ _ _ _ _ _ _ _ _ _ _ _ _ _ _ _ _ _ _ _ _ _ _ _ _ _ _ _ _ _ _ _ _ _ O')
  · exact br_f (sm_b0 h (by omega)) (br_f (sm_bl h) (hp _ _ _ _ _ _ _ _ _ _ _ _ _ _ _ _ _ _ _ _ _ _ _ _ _ _ _ _ _ _ _ _ _ _ O'))
  · by_cases s0 : sp = 0
    · subst s0
      exact br_f (nI_pos (by omega)) (br_t (sm_lt 4 hv (by omega)) (br_t rfl (hp _ _ _ _ _ _ _ _ _ _ _ _ _ _ _ _ _ _ _ _ _ _ _ _ _ _ _ _ _ _ _ _ _ _ O')))
    · obtain ⟨s, rfl⟩ : ∃ s, sp = s + 1 := ⟨sp - 1, by omega⟩
      obtain ⟨l, hl, el⟩ := o4 s (by omega)
      have vv : vp_in (nI v) 4 := vp_in_nI hv (by omega)
      refine br_f (nI_pos (by omega)) (br_t (sm_lt 4 hv (by omega)) (br_f (nI_ne0 (by omega) (by omega)) (nm_r (nI_pred s) ⟨vp_in_nI (by omega) (by omega), vv, nm_r (sm_up (by omega)) ⟨vv, ?_⟩⟩)))
      refine hp _ _ _ _ _ _ _ _ _ _ _ _ _ _ _ _ _ _ _ _ _ _ _ _ _ _ _ _ _ _ _ _ _ _ ⟨ms, lim, nc, s, n, rfl, o1, rfl, rfl, rfl, by omega, rfl, o3, ⟨C.1, C.2.1, C.2.2.1, C.2.2.2.1, ?_, C.2.2.2.2.2⟩, fun i hi => o4 i (by omega), o5, o6⟩
      intro w hw
      by_cases q : w = v
      · rw [q, pk_us]; exact Or.inr ⟨l, hl, sm_cg (by omega) el⟩
      · rw [pk_un q]; exact C.2.2.2.2.1 w hw
theorem sp_addc {p : Int32} (O : sp_ok xms xsl xnc xsd xn xno xsk xrt xsj xtx xtl) (hp : ∀ (r : Int32) (xms xsl xdl xnc xsd xn xlr xls xle xst xnw xtc xtu xtn xcu xtd xtt xsr : Int32) (xno xsk xrt xsj xtx xtl xcr eN eC eD eT eH eR tE tN : Nat → Int32), sp_ok xms xsl xnc xsd xn xno xsk xrt xsj xtx xtl → post r (xms, xsl, xdl, xnc, xsd, xn, xlr, xls, xle, xst, xnw, xtc, xtu, xtn, xcu, xtd, xtt, xsr, xno, xsk, xrt, xsj, xtx, xtl, xcr, eN, eC, eD, eT, eH, eR, tE, tN)) : wpX_addSubjectChar post (xms, xsl, xdl, xnc, xsd, xn, xlr, xls, xle, xst, xnw, xtc, xtu, xtn, xcu, xtd, xtt, xsr, xno, xsk, xrt, xsj, xtx, xtl, xcr, eN, eC, eD, eT, eH, eR, tE, tN) p := by
  have O' := O
  obtain ⟨ms, lim, nc, sp, n, rfl, o1, rfl, rfl, rfl, o2, rfl, o3, C, o4, o5, o6⟩ := O
  refine br_c (fun _ => hp _ _ _ _ _ _ _ _ _ _ _ _ _ _ _ _ _ _ _ _ _ _ _ _ _ _ _ _ _ _ _ _ _ _ O') (fun _ => br_c (fun _ => ?_) (fun _ => hp _ _ _ _ _ _ _ _ _ _ _ _ _ _ _ _ _ _ _ _ _ _ _ _ _ _ _ _ _ _ _ _ _ _ O'))
  by_cases q : n < ms
  · refine br_t (nI_lt q (by omega)) ⟨vp_in_nI (by omega) (by omega), nm_r (sm_up (by omega)) (nm_r (nI_1 n) ?_)⟩
    refine hp _ _ _ _ _ _ _ _ _ _ _ _ _ _ _ _ _ _ _ _ _ _ _ _ _ _ _ _ _ _ _ _ _ _ ⟨ms, lim, nc, sp, n + 1, rfl, o1, rfl, rfl, rfl, o2, rfl, q, ⟨C.1, C.2.1, by omega, C.2.2.2.1, C.2.2.2.2.1, ?_⟩, o4, o5, o6⟩
    intro i hi
    by_cases z : i = n
    · rw [z, pk_us]; exact ⟨_, Nat.mod_lt _ (by omega), pk_char p⟩
    · rw [pk_un z]; exact C.2.2.2.2.2 i hi
  · exact br_f (nI_nlt (by omega) (by omega)) (hp _ _ _ _ _ _ _ _ _ _ _ _ _ _ _ _ _ _ _ _ _ _ _ _ _ _ _ _ _ _ _ _ _ _ O')
end
theorem sm_u5 {g : Nat → Int32} {i : Nat} (f : Nat) {x y : Int32} (h : x = y) : upd g (nI i * 5 + nI f).toNatClampNeg x = upd g ((nI i * 5 + nI f).toNatClampNeg) y := by rw [h]
theorem sm_i5 {i : Nat} (f : Nat) (hi : i < 32) (hf : f < 5) : (nI i * 5 + nI f).toNatClampNeg = 5 * i + f := by rw [sm_ix5, sm_cl (by omega)]
/-- the five cells of node i written -/
def sm_five (g : Nat → Int32) (i : Nat) (x0 x1 x2 x3 x4 : Int32) : Nat → Int32 :=
  upd (upd (upd (upd (upd g (nI i * 5 + nI 0).toNatClampNeg x0) (nI i * 5 + nI 1).toNatClampNeg x1) (nI i * 5 + nI 2).toNatClampNeg x2) (nI i * 5 + nI 3).toNatClampNeg x3) (nI i * 5 + nI 4).toNatClampNeg x4
theorem sm_five_o {g : Nat → Int32} {i j : Nat} {x0 x1 x2 x3 x4 : Int32} (hi : i < 32) (h : j < 5 * i) : sm_five g i x0 x1 x2 x3 x4 j = g j := by
  unfold sm_five
  rw [sm_i5 0 hi (by omega), sm_i5 1 hi (by omega), sm_i5 2 hi (by omega), sm_i5 3 hi (by omega), sm_i5 4 hi (by omega), pk_un (by omega), pk_un (by omega), pk_un (by omega), pk_un (by omega), pk_un (by omega)]
theorem sm_five_n {g : Nat → Int32} {i : Nat} {x0 x1 x2 x3 x4 : Int32} (hi : i < 32) : sm_five g i x0 x1 x2 x3 x4 (5 * i) = x0 ∧ sm_five g i x0 x1 x2 x3 x4 (5 * i + 1) = x1 ∧ sm_five g i x0 x1 x2 x3 x4 (5 * i + 2) = x2 ∧ sm_five g i x0 x1 x2 x3 x4 (5 * i + 3) = x3 ∧ sm_five g i x0 x1 x2 x3 x4 (5 * i + 4) = x4 := by
  unfold sm_five
  rw [sm_i5 0 hi (by omega), sm_i5 1 hi (by omega), sm_i5 2 hi (by omega), sm_i5 3 hi (by omega), sm_i5 4 hi (by omega)]
  refine ⟨?_, ?_, ?_, ?_, ?_⟩
  · rw [pk_un (by omega), pk_un (by omega), pk_un (by omega), pk_un (by omega)]; exact pk_us
  · rw [pk_un (by omega), pk_un (by omega), pk_un (by omega), pk_us]
  · rw [pk_un (by omega), pk_un (by omega), pk_us]
  · rw [pk_un (by omega), pk_us]
  · rw [pk_us]
def sp_gv : Nat → Int32
  | 1 => 65535
  | 4 => 16
  | 5 => 16
  | 6 => 16
  | 7 => 65535
  | 8 => 65535
  | 9 => 65535
  | 11 => 7
  | 12 => 3
  | 15 => 7
  | 16 => 7
  | _ => -1
theorem sp_k18 {P : Nat → Prop} (h1 : P 1) (h2 : P 2) (h3 : P 3) (h4 : P 4) (h5 : P 5) (h6 : P 6) (h7 : P 7) (h8 : P 8) (h9 : P 9) (h10 : P 10) (h11 : P 11) (h12 : P 12) (h13 : P 13) (h14 : P 14) (h15 : P 15) (h16 : P 16) (h17 : P 17) (h18 : P 18) {k : Nat} (k1 : 1 ≤ k) (k18 : k ≤ 18) : P k := by
  have ks : k = 1 ∨ k = 2 ∨ k = 3 ∨ k = 4 ∨ k = 5 ∨ k = 6 ∨ k = 7 ∨ k = 8 ∨ k = 9 ∨ k = 10 ∨ k = 11 ∨ k = 12 ∨ k = 13 ∨ k = 14 ∨ k = 15 ∨ k = 16 ∨ k = 17 ∨ k = 18 := by omega
  rcases ks with rfl | rfl | rfl | rfl | rfl | rfl | rfl | rfl | rfl | rfl | rfl | rfl | rfl | rfl | rfl | rfl | rfl | rfl
  · exact h1
  · exact h2
  · exact h3
  · exact h4
  · exact h5
  · exact h6
  · exact h7
  · exact h8
  · exact h9
  · exact h10
  · exact h11
  · exact h12
  · exact h13
  · exact h14
  · exact h15
  · exact h16
  · exact h17
  · exact h18
theorem sx_ga {post : Int32 → Prop} {k : Nat} (k1 : 1 ≤ k) (k18 : k ≤ 18) : post (sp_gv k) → wpX_greatestA post () (nI k) :=
  sp_k18 (P := fun k => post (sp_gv k) → wpX_greatestA post () (nI k))
    (fun h => br_f (by decide) (br_f (by decide) (br_t rfl (h))))
    (fun h => br_f (by decide) (br_f (by decide) (br_f (by decide) (br_t rfl (h)))))
    (fun h => br_f (by decide) (br_f (by decide) (br_f (by decide) (br_f (by decide) (br_t rfl (h))))))
    (fun h => br_f (by decide) (br_f (by decide) (br_f (by decide) (br_f (by decide) (br_f (by decide) (br_t rfl (h)))))))
    (fun h => br_f (by decide) (br_f (by decide) (br_f (by decide) (br_f (by decide) (br_f (by decide) (br_f (by decide) (br_t rfl (h))))))))
    (fun h => br_f (by decide) (br_f (by decide) (br_f (by decide) (br_f (by decide) (br_f (by decide) (br_f (by decide) (br_f (by decide) (br_t rfl (h)))))))))
    (fun h => br_f (by decide) (br_f (by decide) (br_f (by decide) (br_f (by decide) (br_f (by decide) (br_f (by decide) (br_f (by decide) (br_f (by decide) (br_t rfl (h))))))))))
    (fun h => br_f (by decide) (br_f (by decide) (br_f (by decide) (br_f (by decide) (br_f (by decide) (br_f (by decide) (br_f (by decide) (br_f (by decide) (br_f (by decide) (br_t rfl (h)))))))))))
    (fun h => br_f (by decide) (br_f (by decide) (br_f (by decide) (br_f (by decide) (br_f (by decide) (br_f (by decide) (br_f (by decide) (br_f (by decide) (br_f (by decide) (br_f (by decide) (br_t rfl (h))))))))))))
    (fun h => br_f (by decide) (br_f (by decide) (br_f (by decide) (br_f (by decide) (br_f (by decide) (br_f (by decide) (br_f (by decide) (br_f (by decide) (br_f (by decide) (br_f (by decide) (br_f (by decide) (br_t rfl (h)))))))))))))
    (fun h => br_f (by decide) (br_f (by decide) (br_f (by decide) (br_f (by decide) (br_f (by decide) (br_f (by decide) (br_f (by decide) (br_f (by decide) (br_f (by decide) (br_f (by decide) (br_f (by decide) (br_f (by decide) (br_t rfl (h))))))))))))))
    (fun h => br_f (by decide) (br_f (by decide) (br_f (by decide) (br_f (by decide) (br_f (by decide) (br_f (by decide) (br_f (by decide) (br_f (by decide) (br_f (by decide) (br_f (by decide) (br_f (by decide) (br_f (by decide) (br_f (by decide) (br_t rfl (h)))))))))))))))
    (fun h => br_f (by decide) (br_f (by decide) (br_f (by decide) (br_f (by decide) (br_f (by decide) (br_f (by decide) (br_f (by decide) (br_f (by decide) (br_f (by decide) (br_f (by decide) (br_f (by decide) (br_f (by decide) (br_f (by decide) (br_f (by decide) (br_t rfl (h))))))))))))))))
    (fun h => br_f (by decide) (br_f (by decide) (br_f (by decide) (br_f (by decide) (br_f (by decide) (br_f (by decide) (br_f (by decide) (br_f (by decide) (br_f (by decide) (br_f (by decide) (br_f (by decide) (br_f (by decide) (br_f (by decide) (br_f (by decide) (br_f (by decide) (br_t rfl (h)))))))))))))))))
    (fun h => br_f (by decide) (br_f (by decide) (br_f (by decide) (br_f (by decide) (br_f (by decide) (br_f (by decide) (br_f (by decide) (br_f (by decide) (br_f (by decide) (br_f (by decide) (br_f (by decide) (br_f (by decide) (br_f (by decide) (br_f (by decide) (br_f (by decide) (br_f (by decide) (br_t rfl (h))))))))))))))))))
    (fun h => br_f (by decide) (br_f (by decide) (br_f (by decide) (br_f (by decide) (br_f (by decide) (br_f (by decide) (br_f (by decide) (br_f (by decide) (br_f (by decide) (br_f (by decide) (br_f (by decide) (br_f (by decide) (br_f (by decide) (br_f (by decide) (br_f (by decide) (br_f (by decide) (br_f (by decide) (br_t rfl (h)))))))))))))))))))
    (fun h => br_f (by decide) (br_t (by decide) (h)))
    (fun h => br_f (by decide) (br_t (by decide) (h)))
    k1 k18
theorem sx_hr {post : Int32 → Prop} {p : Int32} (h0 : post 0) (h1 : post 1) : wpX_hasRange post () p :=
  br_c (fun _ => h1) (fun _ => br_c (fun _ => h1) (fun _ => br_c (fun _ => h1) (fun _ => h0)))
/-- what the arguments hold if they fit -/
def sp_fit (k : Nat) (p1 : Int32) : Prop := sp_gv k = -1 ∨ ∃ a, a < 65536 ∧ p1 = nI a ∧ (k = 12 → a ≤ 3) ∧ (k = 11 ∨ k = 15 ∨ k = 16 → a ≤ 7)
theorem sp_fits {k : Nat} (k1 : 1 ≤ k) (k18 : k ≤ 18) {p1 : Int32} (c0 : ¬ p1 < 0) : p1 ≤ sp_gv k → sp_fit k p1 :=
  sp_k18 (P := fun k => p1 ≤ sp_gv k → sp_fit k p1)
    (fun c1 => by obtain ⟨a, ha, e⟩ := nI_of2 (M := 65535) (n := 65535) (by decide) c0 c1; exact Or.inr ⟨a, by omega, e, fun _ => by omega, fun _ => by omega⟩)
    (fun _ => Or.inl rfl)
    (fun _ => Or.inl rfl)
    (fun c1 => by obtain ⟨a, ha, e⟩ := nI_of2 (M := 16) (n := 16) (by decide) c0 c1; exact Or.inr ⟨a, by omega, e, fun _ => by omega, fun _ => by omega⟩)
    (fun c1 => by obtain ⟨a, ha, e⟩ := nI_of2 (M := 16) (n := 16) (by decide) c0 c1; exact Or.inr ⟨a, by omega, e, fun _ => by omega, fun _ => by omega⟩)
    (fun c1 => by obtain ⟨a, ha, e⟩ := nI_of2 (M := 16) (n := 16) (by decide) c0 c1; exact Or.inr ⟨a, by omega, e, fun _ => by omega, fun _ => by omega⟩)
    (fun c1 => by obtain ⟨a, ha, e⟩ := nI_of2 (M := 65535) (n := 65535) (by decide) c0 c1; exact Or.inr ⟨a, by omega, e, fun _ => by omega, fun _ => by omega⟩)
    (fun c1 => by obtain ⟨a, ha, e⟩ := nI_of2 (M := 65535) (n := 65535) (by decide) c0 c1; exact Or.inr ⟨a, by omega, e, fun _ => by omega, fun _ => by omega⟩)
    (fun c1 => by obtain ⟨a, ha, e⟩ := nI_of2 (M := 65535) (n := 65535) (by decide) c0 c1; exact Or.inr ⟨a, by omega, e, fun _ => by omega, fun _ => by omega⟩)
    (fun _ => Or.inl rfl)
    (fun c1 => by obtain ⟨a, ha, e⟩ := nI_of2 (M := 7) (n := 7) (by decide) c0 c1; exact Or.inr ⟨a, by omega, e, fun _ => by omega, fun _ => by omega⟩)
    (fun c1 => by obtain ⟨a, ha, e⟩ := nI_of2 (M := 3) (n := 3) (by decide) c0 c1; exact Or.inr ⟨a, by omega, e, fun _ => by omega, fun _ => by omega⟩)
    (fun _ => Or.inl rfl)
    (fun _ => Or.inl rfl)
    (fun c1 => by obtain ⟨a, ha, e⟩ := nI_of2 (M := 7) (n := 7) (by decide) c0 c1; exact Or.inr ⟨a, by omega, e, fun _ => by omega, fun _ => by omega⟩)
    (fun c1 => by obtain ⟨a, ha, e⟩ := nI_of2 (M := 7) (n := 7) (by decide) c0 c1; exact Or.inr ⟨a, by omega, e, fun _ => by omega, fun _ => by omega⟩)
    (fun _ => Or.inl rfl)
    (fun _ => Or.inl rfl)
    k1 k18
theorem sx_fit {post : Int32 → Prop} {k : Nat} (k1 : 1 ≤ k) (k18 : k ≤ 18) {p1 p2 : Int32} (h0 : post 0) (h1 : sp_fit k p1 → post 1) : wpX_argumentsFit post () (nI k) p1 p2 := by
  unfold wpX_argumentsFit
  refine sx_ga k1 k18 (br_c (fun q => h1 (Or.inl q)) (fun _ => br_c (fun _ => h0) (fun c0 => br_c (fun c1 => ?_) (fun _ => h0))))
  have f := h1 (sp_fits k1 k18 c0 c1)
  exact sx_hr (br_t rfl f) (br_f (by decide) (br_c (fun _ => h0) (fun _ => br_c (fun _ => h0) (fun _ => f))))
section
variable {xms xsl xdl xnc xsd xn xlr xls xle xst xnw xtc xtu xtn xcu xtd xtt xsr : Int32} {xno xsk xrt xsj xtx xtl xcr eN eC eD eT eH eR tE tN : Nat → Int32}
variable {post : Int32 → St2 → Prop}
theorem sp_tail {k nc s : Nat} {p1 p2 xr xl : Int32} (k1 : 1 ≤ k) (k18 : k ≤ 18) (n32 : nc < 32) (hs : s < 16)
    (h : ∀ xa xb : Int32, ((sp_gv k = -1 ∧ xa = 0) ∨ (¬ sp_gv k = -1 ∧ xa = p1)) → post (nI nc) (xms, xsl, xdl, nI (nc + 1), nI (s + 1), xn, xlr, xls, xle, xst, xnw, xtc, xtu, xtn, xcu, xtd, xtt, xsr, sm_five xno nc (nI k) xa xb xl xr, upd xsk s (nI nc), xrt, xsj, xtx, xtl, xcr, eN, eC, eD, eT, eH, eR, tE, tN)) :
    wX_push_102 post (nI k) p1 p2 xr xl xms xsl xdl (nI nc) (nI s) xn xlr xls xle xst xnw xtc xtu xtn xcu xtd xtt xsr xno xsk xrt xsj xtx xtl xcr eN eC eD eT eH eR tE tN := by
  have vs : vp_in (nI s) 16 := vp_in_nI hs (by omega)
  have T : ∀ xa xb : Int32, ((sp_gv k = -1 ∧ xa = 0) ∨ (¬ sp_gv k = -1 ∧ xa = p1)) → wX_push_168 post xr xl (nI nc) (nI nc * 5) xb (nI nc * 5 + 2) xms xsl xdl (nI nc) (nI s) xn xlr xls xle xst xnw xtc xtu xtn xcu xtd xtt xsr (upd (upd xno (nI nc * 5 + nI 0).toNatClampNeg (nI k)) (nI nc * 5 + nI 1).toNatClampNeg xa) xsk xrt xsj xtx xtl xcr eN eC eD eT eH eR tE tN := fun xa xb q =>
    ⟨sm_in5 2 n32 (by omega), nm_r (sm_u5 2 rfl) ⟨sm_in5 3 n32 (by omega), nm_r (sm_u5 3 rfl) ⟨sm_in5 4 n32 (by omega), nm_r (sm_u5 4 rfl) (nm_r (nI_1 nc) ⟨vs, nm_r (sm_up (by omega)) (nm_r (nI_1 s) (h xa xb q))⟩)⟩⟩⟩
  refine nm_e ⟨sm_in5 0 n32 (by omega), nm_r (sm_u5 0 rfl) (sx_ga k1 k18 (br_c (fun q => ?_) (fun q => ?_)))⟩
  · exact ⟨sm_in5 1 n32 (by omega), nm_r (sm_u5 1 rfl) (sx_hr (br_t rfl (T 0 0 (Or.inl ⟨q, rfl⟩))) (br_f (by decide) (T 0 p2 (Or.inl ⟨q, rfl⟩))))⟩
  · exact ⟨sm_in5 1 n32 (by omega), nm_r (sm_u5 1 rfl) (sx_hr (br_t rfl (T p1 0 (Or.inr ⟨q, rfl⟩))) (br_f (by decide) (T p1 p2 (Or.inr ⟨q, rfl⟩))))⟩
end
theorem sp_5 {i nc f : Nat} (h : i < nc + 1) (q : ¬ i = nc) (hf : f < 5) : 5 * i + f < 5 * nc := by omega
theorem sp_Cn {lim nc n k : Nat} {xno xrt xsj : Nat → Int32} {xa xb xl xr p1 : Int32} (C : sp_C lim nc n xno xrt xsj) (n32 : nc < 32) (k1 : 1 ≤ k) (k18 : k ≤ 18) (f : sp_fit k p1)
    (ha : (sp_gv k = -1 ∧ xa = 0) ∨ (¬ sp_gv k = -1 ∧ xa = p1)) (c3 : 13 ≤ k → ∃ l, l < nc ∧ xl = nI l) (c4 : 17 ≤ k → ∃ l, l < nc ∧ xr = nI l) :
    sp_C lim (nc + 1) n (sm_five xno nc (nI k) xa xb xl xr) xrt xsj := by
  obtain ⟨C1, C2, C3, C4, C5, C6⟩ := C
  refine ⟨by omega, C2, C3, ?_, ?_, C6⟩
  · intro i hi
    by_cases q : i = nc
    · subst q
      obtain ⟨f0, f1, f2, f3, f4⟩ := sm_five_n (g := xno) (x0 := nI k) (x1 := xa) (x2 := xb) (x3 := xl) (x4 := xr) n32
      have fa : ∃ a, a < 65536 ∧ xa = nI a ∧ (k = 12 → a ≤ 3) ∧ (k = 11 ∨ k = 15 ∨ k = 16 → a ≤ 7) := by
        rcases ha with ⟨_, e⟩ | ⟨g, e⟩
        · exact ⟨0, by omega, e, fun _ => by omega, fun _ => by omega⟩
        · rcases f with z | z
          · exact absurd z g
          · rw [e]; exact z
      obtain ⟨a, a1, a2, a3, a4⟩ := fa
      refine ⟨k, a, k1, k18, a1, f0, by rw [f1]; exact a2, a3, a4, fun z => ?_, fun z => ?_⟩
      · obtain ⟨l, hl, e⟩ := c3 z
        exact ⟨l, by omega, by rw [f3]; exact e⟩
      · obtain ⟨l, hl, e⟩ := c4 z
        exact ⟨l, by omega, by rw [f4]; exact e⟩
    · obtain ⟨k', a, g1, g2, g3, g4, g5, g6, g7, g8, g9⟩ := C4 i (by omega)
      refine ⟨k', a, g1, g2, g3, by rw [sm_five_o n32 (show 5 * i < 5 * nc from sp_5 (f := 0) hi q (by decide))]; exact g4, by rw [sm_five_o n32 (sp_5 (f := 1) hi q (by decide))]; exact g5, g6, g7, fun z => ?_, fun z => ?_⟩
      · obtain ⟨l, hl, e⟩ := g8 z
        exact ⟨l, Nat.lt_succ_of_lt hl, by rw [sm_five_o n32 (sp_5 (f := 3) hi q (by decide))]; exact e⟩
      · obtain ⟨l, hl, e⟩ := g9 z
        exact ⟨l, Nat.lt_succ_of_lt hl, by rw [sm_five_o n32 (sp_5 (f := 4) hi q (by decide))]; exact e⟩
  · intro w hw
    rcases C5 w hw with z | ⟨r, hr, z⟩
    · exact Or.inl z
    · exact Or.inr ⟨r, by omega, z⟩
theorem sm_stk {g : Nat → Int32} {s sp nc : Nat} (h : ∀ i, i < sp → ∃ c, c < nc ∧ g i = nI c) (hs : s ≤ sp) : ∀ i, i < s + 1 → ∃ c, c < nc + 1 ∧ upd g s (nI nc) i = nI c := by
  intro i hi
  by_cases q : i = s
  · exact ⟨nc, by omega, by rw [q, pk_us]⟩
  · obtain ⟨c, hc, e⟩ := h i (by omega)
    exact ⟨c, by omega, by rw [pk_un q]; exact e⟩
section
variable {xms xsl xdl xnc xsd xn xlr xls xle xst xnw xtc xtu xtn xcu xtd xtt xsr : Int32} {xno xsk xrt xsj xtx xtl xcr eN eC eD eT eH eR tE tN : Nat → Int32}
variable {post : Int32 → St2 → Prop}
theorem sp_push {p0 p1 p2 : Int32} (O : sp_ok xms xsl xnc xsd xn xno xsk xrt xsj xtx xtl) (hp : ∀ (r : Int32) (xms xsl xdl xnc xsd xn xlr xls xle xst xnw xtc xtu xtn xcu xtd xtt xsr : Int32) (xno xsk xrt xsj xtx xtl xcr eN eC eD eT eH eR tE tN : Nat → Int32), sp_ok xms xsl xnc xsd xn xno xsk xrt xsj xtx xtl → post r (xms, xsl, xdl, xnc, xsd, xn, xlr, xls, xle, xst, xnw, xtc, xtu, xtn, xcu, xtd, xtt, xsr, xno, xsk, xrt, xsj, xtx, xtl, xcr, eN, eC, eD, eT, eH, eR, tE, tN)) : wpX_push post (xms, xsl, xdl, xnc, xsd, xn, xlr, xls, xle, xst, xnw, xtc, xtu, xtn, xcu, xtd, xtt, xsr, xno, xsk, xrt, xsj, xtx, xtl, xcr, eN, eC, eD, eT, eH, eR, tE, tN) p0 p1 p2 := by
  have nop : ∀ r, post r (xms, xsl, xdl, xnc, xsd, xn, xlr, xls, xle, xst, xnw, xtc, xtu, xtn, xcu, xtd, xtt, xsr, xno, xsk, xrt, xsj, xtx, xtl, xcr, eN, eC, eD, eT, eH, eR, tE, tN) := fun r => hp r _ _ _ _ _ _ _ _ _ _ _ _ _ _ _ _ _ _ _ _ _ _ _ _ _ _ _ _ _ _ _ _ _ O
  obtain ⟨ms, lim, nc, sp, n, rfl, o1, rfl, rfl, rfl, o2, rfl, o3, C, o4, o5, o6⟩ := O
  by_cases a1 : p0 < 1
  · exact br_t a1 (nop _)
  by_cases a2 : p0 ≤ 18
  rotate_left
  · exact br_f a1 (br_f a2 (nop _))
  obtain ⟨k, hk, rfl⟩ : ∃ k, k < 2 ^ 31 ∧ p0 = nI k := nI_of (fun z => a1 (Int32.lt_trans z (by decide)))
  have k1 : 1 ≤ k := by
    rcases Nat.lt_or_ge k 1 with z | z
    · exact absurd (nI_lt (b := 1) z (by omega)) a1
    · exact z
  have k18 : k ≤ 18 := (nI_leI (b := 18) hk (by omega)).mp a2
  refine br_f a1 (br_t a2 (sx_fit k1 k18 (br_t rfl (nop _)) (fun f => br_f (by decide) ?_)))
  by_cases k13 : k < 13
  · refine br_f (nI_ge (b := 13) k13 (by omega)) (br_c (fun _ => br_c (fun q32 => br_t rfl (br_c (fun q16 => ?_) (fun _ => nop _))) (fun _ => nop _)) (fun _ => nop _))
    have n32 : nc < 32 := (nI_ltI (b := 32) (by have := C.1; omega) (by omega)).mp q32
    have s16 : sp < 16 := (nI_ltI (b := 16) (by omega) (by omega)).mp q16
    refine br_f (by decide) (br_t (by decide) (sp_tail k1 k18 n32 s16 (fun xa xb ha => ?_)))
    exact hp _ _ _ _ _ _ _ _ _ _ _ _ _ _ _ _ _ _ _ _ _ _ _ _ _ _ _ _ _ _ _ _ _ _ ⟨ms, lim, nc + 1, sp + 1, n, rfl, o1, rfl, rfl, rfl, by omega, rfl, o3, sp_Cn C n32 k1 k18 f ha (fun z => absurd z (by omega)) (fun z => absurd z (by omega)), sm_stk o4 (Nat.le_refl _), o5, o6⟩
  by_cases k17 : k < 17
  · refine br_t (nI_le (a := 13) (by omega) (by omega)) (br_f (nI_ge (b := 17) k17 (by omega)) (br_c (fun q1 => br_c (fun q32 => br_f (by decide) ?_) (fun _ => nop _)) (fun _ => nop _)))
    have n32 : nc < 32 := (nI_ltI (b := 32) (by have := C.1; omega) (by omega)).mp q32
    have s1 : 1 ≤ sp := (nI_leI (a := 1) (by omega) (by omega)).mp q1
    obtain ⟨s, rfl⟩ : ∃ s, sp = s + 1 := ⟨sp - 1, by omega⟩
    obtain ⟨l, hl, el⟩ := o4 s (by omega)
    refine br_f (by decide) (br_f (by decide) (nm_r (nI_pred s) ⟨vp_in_nI (by omega) (by omega), sp_tail k1 k18 n32 (by omega) (fun xa xb ha => ?_)⟩))
    exact hp _ _ _ _ _ _ _ _ _ _ _ _ _ _ _ _ _ _ _ _ _ _ _ _ _ _ _ _ _ _ _ _ _ _ ⟨ms, lim, nc + 1, s + 1, n, rfl, o1, rfl, rfl, rfl, by omega, rfl, o3, sp_Cn C n32 k1 k18 f ha (fun z => ⟨l, hl, sm_cg (by omega) el⟩) (fun z => absurd z (by omega)), sm_stk o4 (by omega), o5, o6⟩
  · refine br_t (nI_le (a := 13) (by omega) (by omega)) (br_t (nI_le (a := 17) (by omega) (by omega)) (br_c (fun q1 => br_c (fun q32 => br_f (by decide) ?_) (fun _ => nop _)) (fun _ => nop _)))
    have n32 : nc < 32 := (nI_ltI (b := 32) (by have := C.1; omega) (by omega)).mp q32
    have s1 : 2 ≤ sp := (nI_leI (a := 2) (by omega) (by omega)).mp q1
    obtain ⟨s, rfl⟩ : ∃ s, sp = s + 1 + 1 := ⟨sp - 2, by omega⟩
    obtain ⟨l, hl, el⟩ := o4 s (by omega)
    obtain ⟨r, hr, er⟩ := o4 (s + 1) (by omega)
    refine br_t rfl (nm_r (nI_pred (s + 1)) ⟨vp_in_nI (by omega) (by omega), br_f (by decide) (nm_r (nI_pred s) ⟨vp_in_nI (by omega) (by omega), sp_tail k1 k18 n32 (by omega) (fun xa xb ha => ?_)⟩)⟩)
    exact hp _ _ _ _ _ _ _ _ _ _ _ _ _ _ _ _ _ _ _ _ _ _ _ _ _ _ _ _ _ _ _ _ _ _ ⟨ms, lim, nc + 1, s + 1, n, rfl, o1, rfl, rfl, rfl, by omega, rfl, o3, sp_Cn C n32 k1 k18 f ha (fun z => ⟨l, hl, sm_cg (by omega) el⟩) (fun z => ⟨r, hr, sm_cg (by omega) er⟩), sm_stk o4 (by omega), o5, o6⟩
end
