section
variable {post : Int32 → Prop} {L : Nat} {xs : Nat → Int32} {J43 : Int32 → Int32 → Int32 → Int32 → Int32 → Int32 → Int32 → Int32 → Int32 → Int32 → Int32 → Int32 → Int32 → Int32 → Int32 → Int32 → Int32 → Int32 → Int32 → (Nat → Int32) → (Nat → Int32) → (Nat → Int32) → (Nat → Int32) → (Nat → Int32) → (Nat → Int32) → (Nat → Int32) → (Nat → Int32) → (Nat → Int32) → (Nat → Int32) → (Nat → Int32) → (Nat → Int32) → (Nat → Int32) → (Nat → Int32) → (Nat → Int32) → Prop} {x4 x9 x26 : Int32} {x10 x12 x14 x16 : Int64} {kc ks : Nat}
variable {xms xsl xdl xlr xls xle : Int32} {nc n sp : Nat} {xno xsk xrt xsj : Nat → Int32}
variable {xst xnw xtc xtu xtn xcu xtd xtt xsr : Int32} {xtx xtl xcr eN eC eD eT eH eR tE tN : Nat → Int32}
/-- behind the match: the checks of what does not change -/
theorem sl_808 (hs : sp ≤ 16) (hn : n ≤ 16) (hc : sp_ch xsj 16)
    (hE : (x26 = 0 → wL_law_934 post L xs J43 x4 x9 x10 x12 x14 x16 x26 (nI n) xls xle kc ks xms xsl xdl (nI nc) (nI sp) (nI n) xlr xls xle xst xnw xtc xtu xtn xcu xtd xtt xsr xno xsk xrt xsj xtx xtl xcr eN eC eD eT eH eR tE tN) ∧
      (¬ x26 = 0 → ((x26 = 2 → wL_law_934 post L xs J43 x4 x9 x10 x12 x14 x16 x26 (nI n) xls xle kc ks xms xsl xdl (nI nc) (nI sp) (nI n) xlr xls xle xst xnw xtc xtu xtn xcu xtd xtt xsr xno xsk xrt xsj xtx xtl xcr eN eC eD eT eH eR tE tN) ∧
        (¬ x26 = 2 → wL_law_939 post L xs J43 x4 x9 x10 x12 x14 x16 x26 (nI n) xls xle 0 kc ks xms xsl xdl (nI nc) (nI sp) (nI n) xlr xls xle xst xnw xtc xtu xtn xcu xtd xtt xsr xno xsk xrt xsj xtx xtl xcr eN eC eD eT eH eR tE tN)))) :
    ∀ d i m, i + d = 16 → d < m → wL_law_808 post L xs J43 x4 x9 x10 x12 x14 x16 (sp_rt xrt 4) (sp_sb n xsj 16) (nI nc) (nI sp) (nI n) (sp_se (nI sp) xsk (nI sp - 1)) x26 (sp_rt xrt 4) kc ks xms xsl xdl (nI nc) (nI sp) (nI n) xlr xls xle xst xnw xtc xtu xtn xcu xtd xtt xsr xno xsk xrt xsj xtx xtl xcr eN eC eD eT eH eR tE tN m (sp_sb n xsj i) (nI i) := by
  intro d
  induction d with
  | zero =>
    intro i m h hm
    obtain ⟨m, rfl⟩ : ∃ k, m = k + 1 := ⟨m - 1, by omega⟩
    have e : i = 16 := by omega
    subst e
    exact br_t (nI_le (a := 16) (Nat.le_refl _) (by omega)) (br_t rfl (br_t rfl (sx_st3 (br_t rfl (sx_st4 (br_t rfl (sx_st5 (br_t rfl (sx_se hs (br_t rfl (sx_st1 (sx_st2 hE))))))))))))
  | succ d ih =>
    intro i m h hm
    obtain ⟨m, rfl⟩ : ∃ k, m = k + 1 := ⟨m - 1, by omega⟩
    exact br_f (nI_ge (b := 16) (by omega) (by omega)) (sx_sc hn (by omega) hc (sx_e3 (nm_r (e' := sp_sb n xsj (i + 1)) rfl (nm_r (nI_1 i) (ih (i + 1) m (by omega) (by omega))))))
theorem sl_773 (h : wL_law_808 post L xs J43 x4 x9 x10 x12 x14 x16 (sp_rt xrt 4) (sp_sb n xsj 16) (nI nc) (nI sp) (nI n) (sp_se (nI sp) xsk (nI sp - 1)) x26 (sp_rt xrt 4) kc ks xms xsl xdl (nI nc) (nI sp) (nI n) xlr xls xle xst xnw xtc xtu xtn xcu xtd xtt xsr xno xsk xrt xsj xtx xtl xcr eN eC eD eT eH eR tE tN 17 0 0) :
    ∀ d i m, i + d = 4 → d < m → wL_law_773 post L xs J43 x4 x9 x10 x12 x14 x16 (sp_rt xrt 4) (sp_sb n xsj 16) (nI nc) (nI sp) (nI n) (sp_se (nI sp) xsk (nI sp - 1)) x26 0 kc ks xms xsl xdl (nI nc) (nI sp) (nI n) xlr xls xle xst xnw xtc xtu xtn xcu xtd xtt xsr xno xsk xrt xsj xtx xtl xcr eN eC eD eT eH eR tE tN m (sp_rt xrt i) (nI i) := by
  intro d
  induction d with
  | zero =>
    intro i m hd hm
    obtain ⟨m, rfl⟩ : ∃ k, m = k + 1 := ⟨m - 1, by omega⟩
    have e : i = 4 := by omega
    subst e
    exact br_t (nI_le (a := 4) (Nat.le_refl _) (by omega)) ⟨17, h⟩
  | succ d ih =>
    intro i m hd hm
    obtain ⟨m, rfl⟩ : ∃ k, m = k + 1 := ⟨m - 1, by omega⟩
    exact br_f (nI_ge (b := 4) (by omega) (by omega)) (sx_pr (by omega) (sx_r6 (nm_r (e' := sp_rt xrt (i + 1)) rfl (nm_r (nI_1 i) (ih (i + 1) m (by omega) (by omega))))))
/-- behind the match, whole -/
theorem sl_after0 (hs : sp ≤ 16) (hn : n ≤ 16) (hc : sp_ch xsj 16) (hq : x26 = 0 ∨ x26 = 2 ∨ x26 = 3)
    (h : ∀ x34 : Int32, wL_law_1017 post L xs J43 x4 x10 x12 x14 x16 (nI n) x34 0 kc ks xms xsl xdl (nI nc) (nI sp) (nI n) xlr (-1) (-1) xst xnw xtc xtu xtn xcu xtd xtt xsr xno xsk xrt xsj xtx xtl xcr eN eC eD eT eH eR tE tN) :
    wL_law_773 post L xs J43 x4 x9 x10 x12 x14 x16 (sp_rt xrt 4) (sp_sb n xsj 16) (nI nc) (nI sp) (nI n) (sp_se (nI sp) xsk (nI sp - 1)) x26 0 kc ks xms xsl xdl (nI nc) (nI sp) (nI n) xlr (-1) (-1) xst xnw xtc xtu xtn xcu xtd xtt xsr xno xsk xrt xsj xtx xtl xcr eN eC eD eT eH eR tE tN 5 0 0 := by
  refine sl_773 (sl_808 hs hn hc ?_ 16 0 17 (by omega) (by omega)) 4 0 5 (by omega) (by omega)
  rcases hq with e | e | e
  · subst e
    exact br_t rfl (br_f (by decide) (br_f (by decide) (br_t rfl (br_t rfl (br_t rfl (br_t rfl (h 1)))))))
  · subst e
    exact br_f (by decide) (br_t rfl (br_f (by decide) (br_f (by decide) (br_t rfl (br_t rfl (br_t rfl (br_t rfl (h 1))))))))
  · subst e
    exact br_f (by decide) (br_f (by decide) (br_f (by decide) (br_t rfl (br_t rfl (br_t rfl (h 0))))))
theorem sl_after1 {t c : Nat} (hs : sp ≤ 16) (hn : n ≤ 16) (hc : sp_ch xsj 16) (tc : t ≤ c) (cn : c ≤ n) (ha : ¬ x9 = 0 → t = 0)
    (h : wL_law_1017 post L xs J43 x4 x10 x12 x14 x16 (nI n) 0 1 kc ks xms xsl xdl (nI nc) (nI sp) (nI n) xlr (nI t) (nI c) xst xnw xtc xtu xtn xcu xtd xtt xsr xno xsk xrt xsj xtx xtl xcr eN eC eD eT eH eR tE tN) :
    wL_law_773 post L xs J43 x4 x9 x10 x12 x14 x16 (sp_rt xrt 4) (sp_sb n xsj 16) (nI nc) (nI sp) (nI n) (sp_se (nI sp) xsk (nI sp - 1)) 1 0 kc ks xms xsl xdl (nI nc) (nI sp) (nI n) xlr (nI t) (nI c) xst xnw xtc xtu xtn xcu xtd xtt xsr xno xsk xrt xsj xtx xtl xcr eN eC eD eT eH eR tE tN 5 0 0 := by
  refine sl_773 (sl_808 hs hn hc ?_ 16 0 17 (by omega) (by omega)) 4 0 5 (by omega) (by omega)
  refine br_f (by decide) (br_f (by decide) (br_t rfl (br_t rfl (br_f (by decide) (br_f (nI_pos (by omega)) (br_f (nI_nlt tc (by omega)) (br_t (nI_le cn (by omega)) (br_f (by decide) (br_c (fun _ => h) (fun q => br_t ?_ h))))))))))
  rw [ha q]
  rfl
end
/-- the packed codes when w of them are in -/
def sp_p0 (c : Nat → Nat) (w : Nat) : Int64 := lN (sp_S 21 c (Nat.min w 3))
def sp_p1 (c : Nat → Nat) (w : Nat) : Int64 := lN (sp_S 21 (fun i => c (i + 3)) (Nat.min (w - 3) 3))
def sp_p2 (c : Nat → Nat) (w : Nat) : Int64 := lN (sp_S 21 (fun i => c (i + 6)) (w - 6))
theorem sp_21 (w : Nat) : (21 : Int32) * nI w = nI (21 * w) := pk_mul 21 w
theorem sx_pick {post : Int64 → Prop} {c : Nat → Nat} {w : Nat} (hw : w < 8) (hc : ∀ i, c i < 2 ^ 21) (h : post (lN (c w))) : wpL_pick post () (sp_p0 c 8) (sp_p1 c 8) (sp_p2 c 8) (nI w) := by
  have r3 : nI w - nI w / 3 * 3 = nI (w % 3) := pk_rem (a := w) (d := 3) (by omega) (by omega) (by omega)
  have hm : (2097151 : Int64) = lN (2 ^ 21 - 1) := rfl
  by_cases q : w < 3
  · refine br_f (nI_ge (b := 3) q (by omega)) ⟨by decide, ?_⟩
    rw [r3]
    have e := sp_take (b := 21) (k := 3) (i := w % 3) (c := c) (sp_21 (w % 3)) hm (by omega) (fun j _ => hc j) (by omega) (by omega)
    have ew : w % 3 = w := by omega
    rw [ew] at e ⊢
    show post (((lN (sp_S 21 c 3)).toUInt64 >>> _).toInt64 &&& _)
    rw [e]
    exact h
  by_cases q2 : w < 6
  · refine br_t (nI_le (a := 3) (by omega) (by omega)) (br_f (nI_ge (b := 6) q2 (by omega)) ⟨by decide, ?_⟩)
    rw [r3]
    have ew : w % 3 + 3 = w := by omega
    have e' : lN ((fun i => c (i + 3)) (w % 3)) = lN (c w) := by show lN (c (w % 3 + 3)) = lN (c w); rw [ew]
    have e := (sp_take (b := 21) (k := 3) (i := w % 3) (c := fun i => c (i + 3)) (sp_21 (w % 3)) hm (by omega) (fun j _ => hc (j + 3)) (by omega) (by omega)).trans e'
    show post (((lN (sp_S 21 (fun i => c (i + 3)) 3)).toUInt64 >>> _).toInt64 &&& _)
    rw [e]
    exact h
  · refine br_t (nI_le (a := 3) (by omega) (by omega)) (br_t (nI_le (a := 6) (by omega) (by omega)) ⟨by decide, ?_⟩)
    rw [r3]
    have ew : w % 3 + 6 = w := by omega
    have e' : lN ((fun i => c (i + 6)) (w % 3)) = lN (c w) := by show lN (c (w % 3 + 6)) = lN (c w); rw [ew]
    have e := (sp_take (b := 21) (k := 2) (i := w % 3) (c := fun i => c (i + 6)) (sp_21 (w % 3)) hm (by omega) (fun j _ => hc (j + 6)) (by omega) (by omega)).trans e'
    show post (((lN (sp_S 21 (fun i => c (i + 6)) 2)).toUInt64 >>> _).toInt64 &&& _)
    rw [e]
    exact h
theorem sp_f16 {xcr : Nat → Int32} {w : Nat} (hw : w < 8) : ((((lN (sp_S 5 (sp_u xcr) 8)).toUInt64 >>> ((5 * nI w).toInt64.toUInt64 &&& Int64.toUInt64 63)).toInt64) &&& 31) = sp_c5 (xcr w) := by
  rw [(sp_u_ok xcr w).2]
  exact sp_take (b := 5) (k := 8) (i := w) (c := sp_u xcr) (pk_mul 5 w) rfl hw (fun j _ => (sp_u_ok xcr j).1) (by omega) (by omega)
section
variable {post : Int32 → Prop} {L : Nat} {xs : Nat → Int32} {J43 : Int32 → Int32 → Int32 → Int32 → Int32 → Int32 → Int32 → Int32 → Int32 → Int32 → Int32 → Int32 → Int32 → Int32 → Int32 → Int32 → Int32 → Int32 → Int32 → (Nat → Int32) → (Nat → Int32) → (Nat → Int32) → (Nat → Int32) → (Nat → Int32) → (Nat → Int32) → (Nat → Int32) → (Nat → Int32) → (Nat → Int32) → (Nat → Int32) → (Nat → Int32) → (Nat → Int32) → (Nat → Int32) → (Nat → Int32) → (Nat → Int32) → Prop} {x4 x9 : Int32} {kc ks : Nat}
variable {xlr xls xle xdl : Int32} {ms lim nc n sp v : Nat} {xno xsk xrt xsj : Nat → Int32}
variable {xst xnw xtc xtu xtn xcu xtd xtt xsr : Int32} {xtx xtl xcr eN eC eD eT eH eR tE tN : Nat → Int32}
/-- the match and what stands behind it -/
theorem sl_683 (o1 : ms ≤ 16) (o2 : sp ≤ 16) (o3 : n ≤ ms) (C : sp_C lim nc n xno xrt xsj) (o4 : ∀ i, i < sp → ∃ q, q < nc ∧ xsk i = nI q) (o5 : sp_ch xtx 128) (o6 : ∀ w, w < 8 → ∃ l, l ≤ 16 ∧ xtl w = nI l) (hv : v < 4)
    (hJ : ∀ (xms xsl xdl xnc xsd xn xlr xls xle xst xnw xtc xtu xtn xcu xtd xtt xsr : Int32) (xno xsk xrt xsj xtx xtl xcr eN eC eD eT eH eR tE tN : Nat → Int32), sp_ok xms xsl xnc xsd xn xno xsk xrt xsj xtx xtl → J43 x4 xms xsl xdl xnc xsd xn xlr xls xle xst xnw xtc xtu xtn xcu xtd xtt xsr xno xsk xrt xsj xtx xtl xcr eN eC eD eT eH eR tE tN) :
    ∀ d i m, i + d = 16 → d < m → wL_law_683 post L xs J43 x4 (nI v) x9 (sp_p0 (sp_code xtl xtx) 8) (sp_p1 (sp_code xtl xtx) 8) (sp_p2 (sp_code xtl xtx) 8) (lN (sp_S 5 (sp_u xcr) 8)) (sp_rt xrt 4) kc ks (nI ms) (nI lim) xdl (nI nc) (nI sp) (nI n) xlr xls xle xst xnw xtc xtu xtn xcu xtd xtt xsr xno xsk xrt xsj xtx xtl xcr eN eC eD eT eH eR tE tN m (sp_sb n xsj i) (nI i) := by
  have hpk : ∀ w, w < 8 → ∀ P : Int64 → Prop, P (lN (sp_code xtl xtx w)) → wpL_pick P () (sp_p0 (sp_code xtl xtx) 8) (sp_p1 (sp_code xtl xtx) 8) (sp_p2 (sp_code xtl xtx) 8) (nI w) := fun w hw P h => sx_pick hw (sp_code_lt xtl xtx) h
  intro d
  induction d with
  | zero =>
    intro i m h hm
    obtain ⟨m, rfl⟩ : ∃ k, m = k + 1 := ⟨m - 1, by omega⟩
    have e : i = 16 := by omega
    subst e
    refine br_t (nI_le (a := 16) (Nat.le_refl _) (by omega)) (sx_st3 (sx_st4 (sx_st5 (sx_se o2 ?_))))
    refine sp_match (tx0 := xtx) (tl0 := xtl) (cr0 := xcr) _ _ _ _ _ _ _ _ _ _ _ _ _ _ _ _ _ _ _ _ C hv ⟨o5, o6, fun w hw => Or.inl ⟨rfl, fun _ _ => rfl⟩, fun w hw => Or.inl rfl⟩ ?_ ?_ ?_
    · exact br_f (by decide) (hJ _ _ _ _ _ _ _ _ _ _ _ _ _ _ _ _ _ _ _ _ _ _ _ _ _ _ _ _ _ _ _ _ _ ⟨ms, lim, nc, sp, n, rfl, o1, rfl, rfl, rfl, o2, rfl, o3, C, o4, o5, o6⟩)
    · intro q xst' xnw' xtc' xtu' xtn' xcu' xtd' xtt' xsr' xtx' xtl' xcr' eN' eC' eD' eT' eH' eR' tE' tN' hq V
      have hq0 : (0 : Int32) ≤ q := by
        rcases hq with e | e | e
        · subst e; decide
        · subst e; decide
        · subst e; decide
      refine br_t hq0 ⟨5, sl_after0 o2 C.2.2.1 C.2.2.2.2.2 hq (fun x34 => ?_)⟩
      exact sl_1017 C V hpk (fun w hw => sp_f16 hw) (fun _ z => z) (hJ _ _ _ _ _ _ _ _ _ _ _ _ _ _ _ _ _ _ _ _ _ _ _ _ _ _ _ _ _ _ _ _ _ ⟨ms, lim, nc, sp, n, rfl, o1, rfl, rfl, rfl, o2, rfl, o3, C, o4, V.1, V.2.1⟩)
    · intro t c xst' xnw' xtc' xtu' xtn' xcu' xtd' xtt' xsr' xtx' xtl' xcr' eN' eC' eD' eT' eH' eR' tE' tN' tc cn ha V
      refine br_t (by decide) ⟨5, sl_after1 o2 C.2.2.1 C.2.2.2.2.2 tc cn ha ?_⟩
      exact sl_1017 C V hpk (fun w hw => sp_f16 hw) (fun z => absurd rfl z) (hJ _ _ _ _ _ _ _ _ _ _ _ _ _ _ _ _ _ _ _ _ _ _ _ _ _ _ _ _ _ _ _ _ _ ⟨ms, lim, nc, sp, n, rfl, o1, rfl, rfl, rfl, o2, rfl, o3, C, o4, V.1, V.2.1⟩)
  | succ d ih =>
    intro i m h hm
    obtain ⟨m, rfl⟩ : ∃ k, m = k + 1 := ⟨m - 1, by omega⟩
    exact br_f (nI_ge (b := 16) (by omega) (by omega)) (sx_sc C.2.2.1 (by omega) C.2.2.2.2.2 (sx_e3 (nm_r (e' := sp_sb n xsj (i + 1)) rfl (nm_r (nI_1 i) (ih (i + 1) m (by omega) (by omega))))))
theorem sl_648 {x10 x12 x14 x16 : Int64} (h : wL_law_683 post L xs J43 x4 (nI v) x9 x10 x12 x14 x16 (sp_rt xrt 4) kc ks (nI ms) (nI lim) xdl (nI nc) (nI sp) (nI n) xlr xls xle xst xnw xtc xtu xtn xcu xtd xtt xsr xno xsk xrt xsj xtx xtl xcr eN eC eD eT eH eR tE tN 17 0 0) :
    ∀ d i m, i + d = 4 → d < m → wL_law_648 post L xs J43 x4 (nI v) x9 x10 x12 x14 x16 0 kc ks (nI ms) (nI lim) xdl (nI nc) (nI sp) (nI n) xlr xls xle xst xnw xtc xtu xtn xcu xtd xtt xsr xno xsk xrt xsj xtx xtl xcr eN eC eD eT eH eR tE tN m (sp_rt xrt i) (nI i) := by
  intro d
  induction d with
  | zero =>
    intro i m hd hm
    obtain ⟨m, rfl⟩ : ∃ k, m = k + 1 := ⟨m - 1, by omega⟩
    have e : i = 4 := by omega
    subst e
    exact br_t (nI_le (a := 4) (Nat.le_refl _) (by omega)) ⟨17, h⟩
  | succ d ih =>
    intro i m hd hm
    obtain ⟨m, rfl⟩ : ∃ k, m = k + 1 := ⟨m - 1, by omega⟩
    exact br_f (nI_ge (b := 4) (by omega) (by omega)) (sx_pr (by omega) (sx_r6 (nm_r (e' := sp_rt xrt (i + 1)) rfl (nm_r (nI_1 i) (ih (i + 1) m (by omega) (by omega))))))
variable {J462 : Int64 → Int64 → Int64 → Int64 → Int32 → Prop} {x18 x20 : Int64} {w : Nat}
theorem sl_620 {x10 x12 x14 : Int64} (hw : w < 8) (hJ : J462 x10 x12 x14 (lN (sp_S 5 (sp_u xcr) (w + 1))) (nI (w + 1))) :
    wL_law_620 post L xs J43 J462 x4 (nI v) x9 x10 x12 x14 (lN (sp_S 5 (sp_u xcr) w)) x18 x20 (nI w) kc ks (nI ms) (nI lim) xdl (nI nc) (nI sp) (nI n) xlr xls xle xst xnw xtc xtu xtn xcu xtd xtt xsr xno xsk xrt xsj xtx xtl xcr eN eC eD eT eH eR tE tN := by
  unfold wL_law_620
  refine sx_cv hw (sx_c5 ?_)
  rw [(sp_u_ok xcr w).2]
  exact nm_r (sp_pack (pk_mul 5 w) (fun i _ => (sp_u_ok xcr i).1) (by omega) rfl) (nm_r (nI_1 w) hJ)
theorem sl_557 {c : Nat → Nat} (hw : w < 8) (hc : ∀ i, c i < 2 ^ 21) (hJ : J462 (sp_p0 c (w + 1)) (sp_p1 c (w + 1)) (sp_p2 c (w + 1)) (lN (sp_S 5 (sp_u xcr) (w + 1))) (nI (w + 1))) :
    wL_law_557 post L xs J43 J462 x4 (nI v) x9 (sp_p0 c w) (sp_p1 c w) (sp_p2 c w) (lN (sp_S 5 (sp_u xcr) w)) x18 x20 (nI w) (lN (c w)) kc ks (nI ms) (nI lim) xdl (nI nc) (nI sp) (nI n) xlr xls xle xst xnw xtc xtu xtn xcu xtd xtt xsr xno xsk xrt xsj xtx xtl xcr eN eC eD eT eH eR tE tN := by
  by_cases q : w < 3
  · have a1 : sp_p1 c (w + 1) = sp_p1 c w := by
      unfold sp_p1
      rw [show w + 1 - 3 = w - 3 by omega]
    have a2 : sp_p2 c (w + 1) = sp_p2 c w := by
      unfold sp_p2
      rw [show w + 1 - 6 = w - 6 by omega]
    have a0 : sp_p0 c w ||| (lN (c w) <<< ((21 * nI w).toInt64 &&& 63)) = sp_p0 c (w + 1) := by
      unfold sp_p0
      rw [show Nat.min w 3 = w from Nat.min_eq_left (by omega), show Nat.min (w + 1) 3 = w + 1 from Nat.min_eq_left (by omega)]
      exact sp_pack (sp_21 w) (fun i _ => hc i) (by omega) rfl
    rw [a1, a2] at hJ
    exact br_f (nI_ge (b := 3) q (by omega)) (nm_r a0 (sl_620 hw hJ))
  by_cases q2 : w < 6
  · have a0 : sp_p0 c (w + 1) = sp_p0 c w := by
      unfold sp_p0
      rw [show Nat.min w 3 = 3 from Nat.min_eq_right (by omega), show Nat.min (w + 1) 3 = 3 from Nat.min_eq_right (by omega)]
    have a2 : sp_p2 c (w + 1) = sp_p2 c w := by
      unfold sp_p2
      rw [show w + 1 - 6 = w - 6 by omega]
    have a1 : sp_p1 c w ||| (lN (c w) <<< ((21 * (nI w - 3)).toInt64 &&& 63)) = sp_p1 c (w + 1) := by
      unfold sp_p1
      rw [show Nat.min (w - 3) 3 = w - 3 from Nat.min_eq_left (by omega), show Nat.min (w + 1 - 3) 3 = (w - 3) + 1 from by rw [show w + 1 - 3 = (w - 3) + 1 by omega]; exact Nat.min_eq_left (by omega)]
      have e3 : nI w - 3 = nI (w - 3) := pk_sub (a := w) (b := 3) (by omega)
      rw [e3]
      exact sp_pack (b := 21) (k := w - 3) (c := fun i => c (i + 3)) (sp_21 (w - 3)) (fun i _ => hc (i + 3)) (by omega) (by show c w = c (w - 3 + 3); rw [show w - 3 + 3 = w by omega])
    rw [a0, a2] at hJ
    exact br_t (nI_le (a := 3) (by omega) (by omega)) (br_f (nI_ge (b := 6) q2 (by omega)) (nm_r a1 (sl_620 hw hJ)))
  · have a0 : sp_p0 c (w + 1) = sp_p0 c w := by
      unfold sp_p0
      rw [show Nat.min w 3 = 3 from Nat.min_eq_right (by omega), show Nat.min (w + 1) 3 = 3 from Nat.min_eq_right (by omega)]
    have a1 : sp_p1 c (w + 1) = sp_p1 c w := by
      unfold sp_p1
      rw [show Nat.min (w - 3) 3 = 3 from Nat.min_eq_right (by omega), show Nat.min (w + 1 - 3) 3 = 3 from Nat.min_eq_right (by omega)]
    have a2 : sp_p2 c w ||| (lN (c w) <<< ((21 * (nI w - 6)).toInt64 &&& 63)) = sp_p2 c (w + 1) := by
      unfold sp_p2
      rw [show w + 1 - 6 = (w - 6) + 1 by omega]
      have e3 : nI w - 6 = nI (w - 6) := pk_sub (a := w) (b := 6) (by omega)
      rw [e3]
      exact sp_pack (b := 21) (k := w - 6) (c := fun i => c (i + 6)) (sp_21 (w - 6)) (fun i _ => hc (i + 6)) (by omega) (by show c w = c (w - 6 + 6); rw [show w - 6 + 6 = w by omega])
    rw [a0, a1] at hJ
    exact br_t (nI_le (a := 3) (by omega) (by omega)) (br_t (nI_le (a := 6) (by omega) (by omega)) (nm_r a2 (sl_620 hw hJ)))
theorem sl_505 {l : Nat} {x10 x12 x14 x16 : Int64} (hw : w < 8) (hx : sp_ch xtx 128) (el : xtl w = nI l) (hl : l ≤ 8) {a0 : Nat}
    (h : wL_law_557 post L xs J43 J462 x4 (nI v) x9 x10 x12 x14 x16 x18 x20 (nI w) (lN a0) kc ks (nI ms) (nI lim) xdl (nI nc) (nI sp) (nI n) xlr xls xle xst xnw xtc xtu xtn xcu xtd xtt xsr xno xsk xrt xsj xtx xtl xcr eN eC eD eT eH eR tE tN) :
    ∀ d i m a, i + d = l → d < m → a < 2 ^ (4 + 2 * i) → sp_lp (sp_fn xtx w) d i a = a0 →
      wL_law_505 post L xs J43 J462 x4 (nI v) x9 x10 x12 x14 x16 x18 x20 (nI w) (nI l) kc ks (nI ms) (nI lim) xdl (nI nc) (nI sp) (nI n) xlr xls xle xst xnw xtc xtu xtn xcu xtd xtt xsr xno xsk xrt xsj xtx xtl xcr eN eC eD eT eH eR tE tN m (lN a) (nI i) := by
  intro d
  induction d with
  | zero =>
    intro i m a hi hm ha e
    obtain ⟨m, rfl⟩ : ∃ k, m = k + 1 := ⟨m - 1, by omega⟩
    have e : a = a0 := e
    subst e
    exact br_t (nI_le (by omega) (by omega)) h
  | succ d ih =>
    intro i m a hi hm ha e
    obtain ⟨m, rfl⟩ : ∃ k, m = k + 1 := ⟨m - 1, by omega⟩
    obtain ⟨q, hq, ex⟩ := hx (w * 16 + i) (by omega)
    have ef : sp_fn xtx w i = q := by unfold sp_fn; rw [ex]; exact sm_cl (by omega)
    unfold sp_lp at e
    rw [ef] at e
    refine br_f (nI_ge (by omega) (by omega)) (sx_vc hw el (by omega) (by omega) hx ?_)
    rw [ex]
    by_cases z : q ≤ 3
    · rw [if_pos z] at e
      refine br_t (nI_le (b := 3) z (by omega)) (nm_r (sp_lpo (s := 4 + 2 * nI i) z (by omega) ha (sp_42 i)) (nm_r (nI_1 i) (ih (i + 1) m _ (by omega) (by omega) (sp_lpb z ha) e)))
    · rw [if_neg z] at e
      subst e
      exact br_f (nI_ge (b := q) (a := 3) (by omega) (by omega)) h
theorem sl_462 (o5 : sp_ch xtx 128) (o6 : ∀ w, w < 8 → ∃ l, l ≤ 16 ∧ xtl w = nI l)
    (h : ∃ fu, wL_law_648 post L xs J43 x4 (nI v) x9 (sp_p0 (sp_code xtl xtx) 8) (sp_p1 (sp_code xtl xtx) 8) (sp_p2 (sp_code xtl xtx) 8) (lN (sp_S 5 (sp_u xcr) 8)) 0 kc ks (nI ms) (nI lim) xdl (nI nc) (nI sp) (nI n) xlr xls xle xst xnw xtc xtu xtn xcu xtd xtt xsr xno xsk xrt xsj xtx xtl xcr eN eC eD eT eH eR tE tN fu 0 0) :
    ∀ d w m, w + d = 8 → d < m → wL_law_462 post L xs J43 x4 (nI v) x9 0 0 kc ks (nI ms) (nI lim) xdl (nI nc) (nI sp) (nI n) xlr xls xle xst xnw xtc xtu xtn xcu xtd xtt xsr xno xsk xrt xsj xtx xtl xcr eN eC eD eT eH eR tE tN m (sp_p0 (sp_code xtl xtx) w) (sp_p1 (sp_code xtl xtx) w) (sp_p2 (sp_code xtl xtx) w) (lN (sp_S 5 (sp_u xcr) w)) (nI w) := by
  intro d
  induction d with
  | zero =>
    intro w m hd hm
    obtain ⟨m, rfl⟩ : ∃ k, m = k + 1 := ⟨m - 1, by omega⟩
    have e : w = 8 := by omega
    subst e
    exact br_t (nI_le (a := 8) (Nat.le_refl _) (by omega)) h
  | succ d ih =>
    intro w m hd hm
    obtain ⟨m, rfl⟩ : ∃ k, m = k + 1 := ⟨m - 1, by omega⟩
    have hw : w < 8 := by omega
    obtain ⟨l, hl, el⟩ := o6 w hw
    have nx := ih (w + 1) m (by omega) (by omega)
    have t1 := sl_557 (post := post) (L := L) (xs := xs) (J43 := J43) (x4 := x4) (x9 := x9) (x18 := 0) (x20 := 0) (kc := kc) (ks := ks) (xdl := xdl) (xlr := xlr) (xls := xls) (xle := xle) (xst := xst) (xnw := xnw) (xtc := xtc) (xtu := xtu) (xtn := xtn) (xcu := xcu) (xtd := xtd) (xtt := xtt) (xsr := xsr) (xno := xno) (xsk := xsk) (xrt := xrt) (xsj := xsj) (xtx := xtx) (xtl := xtl) (eN := eN) (eC := eC) (eD := eD) (eT := eT) (eH := eH) (eR := eR) (tE := tE) (tN := tN) (ms := ms) (lim := lim) (nc := nc) (n := n) (sp := sp) (v := v) hw (sp_code_lt xtl xtx) nx
    have ec : (xtl w).toNatClampNeg = l := by rw [el]; exact sm_cl (by omega)
    refine br_f (nI_ge (b := 8) hw (by omega)) (sx_vl hw ?_)
    rw [el]
    refine br_f (nI_pos (by omega)) ?_
    by_cases q : l ≤ 8
    · have e0 : sp_lp (sp_fn xtx w) l 0 l = sp_code xtl xtx w := by
        unfold sp_code
        rw [ec, if_pos q]
      rw [nI_l (by omega)]
      exact br_t (nI_le (b := 8) q (by omega)) ⟨l + 1, sl_505 hw o5 el q t1 l 0 (l + 1) l (by omega) (by omega) (by omega) e0⟩
    · have e0 : sp_code xtl xtx w = 2 ^ 20 := by
        unfold sp_code
        rw [ec, if_neg q]
      rw [e0] at t1
      exact br_f (nI_ge (a := 8) (by omega) (by omega)) t1
end
section
variable {xms xsl xdl xnc xsd xn xlr xls xle xst xnw xtc xtu xtn xcu xtd xtt xsr : Int32} {xno xsk xrt xsj xtx xtl xcr eN eC eD eT eH eR tE tN : Nat → Int32}
variable {post : Int32 → Prop} {L : Nat} {xs : Nat → Int32} {J43 : Int32 → Int32 → Int32 → Int32 → Int32 → Int32 → Int32 → Int32 → Int32 → Int32 → Int32 → Int32 → Int32 → Int32 → Int32 → Int32 → Int32 → Int32 → Int32 → (Nat → Int32) → (Nat → Int32) → (Nat → Int32) → (Nat → Int32) → (Nat → Int32) → (Nat → Int32) → (Nat → Int32) → (Nat → Int32) → (Nat → Int32) → (Nat → Int32) → (Nat → Int32) → (Nat → Int32) → (Nat → Int32) → (Nat → Int32) → (Nat → Int32) → Prop} {x4 x9 : Int32} {kc ks : Nat}
theorem sl_439 {v : Nat} (O : sp_ok xms xsl xnc xsd xn xno xsk xrt xsj xtx xtl) (hv : v < 4) (hJ : ∀ (xms xsl xdl xnc xsd xn xlr xls xle xst xnw xtc xtu xtn xcu xtd xtt xsr : Int32) (xno xsk xrt xsj xtx xtl xcr eN eC eD eT eH eR tE tN : Nat → Int32), sp_ok xms xsl xnc xsd xn xno xsk xrt xsj xtx xtl → J43 x4 xms xsl xdl xnc xsd xn xlr xls xle xst xnw xtc xtu xtn xcu xtd xtt xsr xno xsk xrt xsj xtx xtl xcr eN eC eD eT eH eR tE tN) : wL_law_439 post L xs J43 x4 (nI v) x9 kc ks xms xsl xdl xnc xsd xn xlr xls xle xst xnw xtc xtu xtn xcu xtd xtt xsr xno xsk xrt xsj xtx xtl xcr eN eC eD eT eH eR tE tN := by
  obtain ⟨ms, lim, nc, sp, n, rfl, o1, rfl, rfl, rfl, o2, rfl, o3, C, o4, o5, o6⟩ := O
  exact ⟨9, sl_462 o5 o6 ⟨5, sl_648 (sl_683 o1 o2 o3 C o4 o5 o6 hv hJ 16 0 17 (by omega) (by omega)) 4 0 5 (by omega) (by omega)⟩ 8 0 9 (by omega) (by omega)⟩
end
