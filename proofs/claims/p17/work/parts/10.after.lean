/-- a mask holds the numbers that nodes of kind k name -/
def sp_mk (nc : Nat) (xno : Nat → Int32) (k m : Nat) (x : Int32) : Prop := ∀ i w, i < m → i < nc → w ≤ 7 → xno (5 * i) = nI k → xno (5 * i + 1) = nI w → bt x w = true
/-- a bit of a mask -/
theorem sx_bit {post : Int32 → Prop} {x : Int32} {w : Nat} (hw : w < 32) (h : bt x w = true) (hp : post 1) : wpL_bit post () x (nI w) := br_f (sp_bit hw h) hp
section
variable {post : Int32 → Prop} {L : Nat} {xs : Nat → Int32} {J43 : Int32 → Int32 → Int32 → Int32 → Int32 → Int32 → Int32 → Int32 → Int32 → Int32 → Int32 → Int32 → Int32 → Int32 → Int32 → Int32 → Int32 → Int32 → Int32 → (Nat → Int32) → (Nat → Int32) → (Nat → Int32) → (Nat → Int32) → (Nat → Int32) → (Nat → Int32) → (Nat → Int32) → (Nat → Int32) → (Nat → Int32) → (Nat → Int32) → (Nat → Int32) → (Nat → Int32) → (Nat → Int32) → (Nat → Int32) → (Nat → Int32) → Prop} {J1126 : Int32 → Prop} {x4 x9 x26 x34 x35 x36 x37 x38 : Int32} {x10 x12 x14 x16 : Int64} {kc ks : Nat}
variable {xms xsl xdl xsd xlr xls xle : Int32} {nc n w l : Nat} {xno xsk xrt xsj tx0 tl0 cr0 : Nat → Int32} {cd : Prop}
variable {xst xnw xtc xtu xtn xcu xtd xtt xsr : Int32} {xtx xtl xcr eN eC eD eT eH eR tE tN : Nat → Int32}
theorem sl_1365 (hw : w < 8) (hn : n ≤ 16) (hnc : nc ≤ 32) (h16 : (((x16.toUInt64 >>> ((5 * nI w).toInt64.toUInt64 &&& Int64.toUInt64 63)).toInt64) &&& 31) = sp_c5 (cr0 w))
    (hc : sp_cu nc n xno cr0 xcr w) (hm : sp_mk nc xno 11 32 x38) (hJ : J1126 (nI (w + 1))) :
    wL_law_1365 post L xs J43 J1126 x4 x10 x12 x14 x16 (nI n) x34 x35 x36 x37 x38 (nI w) kc ks xms xsl xdl (nI nc) xsd (nI n) xlr xls xle xst xnw xtc xtu xtn xcu xtd xtt xsr xno xsk xrt xsj xtx xtl xcr eN eC eD eT eH eR tE tN := by
  unfold wL_law_1365
  refine sx_cv hw (sx_c5 ?_)
  rw [h16]
  rcases hc with e | ⟨⟨i, hi, e1, e2⟩, c, hcn, e⟩
  · exact br_t (by rw [e]) (nm_r (nI_1 w) hJ)
  · rw [e]
    by_cases q : sp_c5 (nI c) = sp_c5 (cr0 w)
    · exact br_t q (nm_r (nI_1 w) hJ)
    · exact br_f q (br_f (nI_pos (by omega)) (br_f (nI_nlt hcn (by omega)) (sx_bit (by omega) (hm i w (by omega) hi (by omega) e1 e2) (br_f (by decide) (nm_r (nI_1 w) hJ)))))
/-- the search for the text in the subject: one place -/
theorem sl_1307 {J1281 : Int32 → Int32 → Prop} {x44 : Nat} {p : Nat} (hw : w < 8) (hn : n ≤ 16) (hs : sp_ch xsj 16) (hx : sp_ch xtx 128) (el : xtl w = nI l) (hl : l ≤ 16) (hp : p + l ≤ n) (hx44 : x44 + l ≤ n)
    (eq : ∀ j, j < l → xtx (w * 16 + j) = xsj (p + j)) (h1 : J1281 1 (nI (x44 + 1))) (h0 : x44 ≠ p → J1281 0 (nI (x44 + 1))) :
    ∀ d i m, i + d = l → d < m → (wL_law_1307 post L xs J43 J1126 J1281 x4 x10 x12 x14 x16 (nI n) x34 x35 x36 x37 x38 (nI w) (nI l) (nI x44) kc ks xms xsl xdl (nI nc) xsd (nI n) xlr xls xle xst xnw xtc xtu xtn xcu xtd xtt xsr xno xsk xrt xsj xtx xtl xcr eN eC eD eT eH eR tE tN m 1 (nI i) ∧
      (x44 ≠ p → wL_law_1307 post L xs J43 J1126 J1281 x4 x10 x12 x14 x16 (nI n) x34 x35 x36 x37 x38 (nI w) (nI l) (nI x44) kc ks xms xsl xdl (nI nc) xsd (nI n) xlr xls xle xst xnw xtc xtu xtn xcu xtd xtt xsr xno xsk xrt xsj xtx xtl xcr eN eC eD eT eH eR tE tN m 0 (nI i))) := by
  intro d
  induction d with
  | zero =>
    intro i m h hm
    obtain ⟨m, rfl⟩ : ∃ k, m = k + 1 := ⟨m - 1, by omega⟩
    exact ⟨br_t (nI_le (by omega) (by omega)) (nm_r (nI_1 x44) h1), fun q => br_t (nI_le (by omega) (by omega)) (nm_r (nI_1 x44) (h0 q))⟩
  | succ d ih =>
    intro i m h hm
    obtain ⟨m, rfl⟩ : ∃ k, m = k + 1 := ⟨m - 1, by omega⟩
    obtain ⟨t1, t0⟩ := ih (i + 1) m (by omega) (by omega)
    refine ⟨br_f (nI_ge (by omega) (by omega)) (br_f (by decide) ?_), fun q => br_f (nI_ge (by omega) (by omega)) (br_t rfl (nm_r (nI_1 x44) (h0 q)))⟩
    refine sx_vc hw el hl (by omega) hx ?_
    show wpX_subjectChar _ _ (nI x44 + nI i)
    rw [nI_add]
    refine sx_sc hn (by omega) hs ?_
    unfold sp_sc
    rw [if_pos (by omega)]
    by_cases q : x44 = p
    · subst q
      exact br_t (eq i (by omega)) (nm_r (nI_1 i) t1)
    · exact br_c (fun _ => nm_r (nI_1 i) t1) (fun _ => nm_r (nI_1 i) (t0 q))
theorem sl_1281 {p : Nat} (hw : w < 8) (hn : n ≤ 16) (hs : sp_ch xsj 16) (hx : sp_ch xtx 128) (el : xtl w = nI l) (hl : l ≤ 16) (hp : p + l ≤ n)
    (eq : ∀ j, j < l → xtx (w * 16 + j) = xsj (p + j)) (hJ : wL_law_1365 post L xs J43 J1126 x4 x10 x12 x14 x16 (nI n) x34 x35 x36 x37 x38 (nI w) kc ks xms xsl xdl (nI nc) xsd (nI n) xlr xls xle xst xnw xtc xtu xtn xcu xtd xtt xsr xno xsk xrt xsj xtx xtl xcr eN eC eD eT eH eR tE tN) :
    ∀ d i m, i + d = p → d + 1 < m → wL_law_1281 post L xs J43 J1126 x4 x10 x12 x14 x16 (nI n) x34 x35 x36 x37 x38 (nI w) (nI l) kc ks xms xsl xdl (nI nc) xsd (nI n) xlr xls xle xst xnw xtc xtu xtn xcu xtd xtt xsr xno xsk xrt xsj xtx xtl xcr eN eC eD eT eH eR tE tN m 0 (nI i) := by
  have fin : ∀ i m, wL_law_1281 post L xs J43 J1126 x4 x10 x12 x14 x16 (nI n) x34 x35 x36 x37 x38 (nI w) (nI l) kc ks xms xsl xdl (nI nc) xsd (nI n) xlr xls xle xst xnw xtc xtu xtn xcu xtd xtt xsr xno xsk xrt xsj xtx xtl xcr eN eC eD eT eH eR tE tN (m + 1) 1 (nI i) := fun i m =>
    br_f (nI_pos (by omega)) (br_c (fun _ => br_f (by decide) hJ) (fun _ => br_f (by decide) (br_f (by decide) hJ)))
  intro d
  induction d with
  | zero =>
    intro i m h hm
    obtain ⟨m, rfl⟩ : ∃ k, m = k + 1 + 1 := ⟨m - 2, by omega⟩
    have e : i = p := by omega
    subst e
    refine br_f (nI_pos (by omega)) ?_
    rw [nI_add]
    refine br_f (nI_nlt (by omega) (by omega)) (br_t rfl ⟨l + 1, (sl_1307 hw hn hs hx el hl hp hp eq (fin (i + 1) m) (fun q => absurd rfl q) l 0 (l + 1) (by omega) (by omega)).1⟩)
  | succ d ih =>
    intro i m h hm
    obtain ⟨m, rfl⟩ : ∃ k, m = k + 1 + 1 := ⟨m - 2, by omega⟩
    refine br_f (nI_pos (by omega)) ?_
    rw [nI_add]
    refine br_f (nI_nlt (by omega) (by omega)) (br_t rfl ⟨l + 1, (sl_1307 hw hn hs hx el hl hp (by omega) eq (fin (i + 1) m) (fun q => ih (i + 1) (m + 1) (by omega) (by omega)) l 0 (l + 1) (by omega) (by omega)).1⟩)
theorem sl_1255 (hw : w < 8) (hn : n ≤ 16) (hs : sp_ch xsj 16) (hx : sp_ch xtx 128) (el : xtl w = nI l) (hl : l ≤ 16)
    (hJ : wL_law_1365 post L xs J43 J1126 x4 x10 x12 x14 x16 (nI n) x34 x35 x36 x37 x38 (nI w) kc ks xms xsl xdl (nI nc) xsd (nI n) xlr xls xle xst xnw xtc xtu xtn xcu xtd xtt xsr xno xsk xrt xsj xtx xtl xcr eN eC eD eT eH eR tE tN)
    (hb : bt (x36 ||| x37) w = true) (hr : ∃ x l, x + l ≤ n ∧ xtl w = nI l ∧ ∀ j, j < l → xtx (w * 16 + j) = xsj (x + j)) :
    wL_law_1255 post L xs J43 J1126 x4 x10 x12 x14 x16 (nI n) x34 x35 x36 x37 x38 (nI w) (nI l) kc ks xms xsl xdl (nI nc) xsd (nI n) xlr xls xle xst xnw xtc xtu xtn xcu xtd xtt xsr xno xsk xrt xsj xtx xtl xcr eN eC eD eT eH eR tE tN := by
  obtain ⟨p, l', h1, h2, h3⟩ := hr
  have e : l' = l := (nI_eq (by omega) (by omega)).mp (h2.symm.trans el)
  subst e
  exact br_c (fun _ => hJ) (fun _ => sx_bit (by omega) hb (br_f (by decide) ⟨p + 2, sl_1281 hw hn hs hx el hl h1 h3 hJ p 0 (p + 2) (by omega) (by omega)⟩))
theorem sl_1221 (hw : w < 8) (hn : n ≤ 16) (hnc : nc ≤ 32) (hs : sp_ch xsj 16) (hx : sp_ch xtx 128) (el : xtl w = nI l) (hl : l ≤ 16)
    (hpk : ∀ P : Int64 → Prop, P (lN (sp_code tl0 tx0 w)) → wpL_pick P () x10 x12 x14 (nI w))
    (hJ : wL_law_1365 post L xs J43 J1126 x4 x10 x12 x14 x16 (nI n) x34 x35 x36 x37 x38 (nI w) kc ks xms xsl xdl (nI nc) xsd (nI n) xlr xls xle xst xnw xtc xtu xtn xcu xtd xtt xsr xno xsk xrt xsj xtx xtl xcr eN eC eD eT eH eR tE tN)
    (hr : sp_row cd nc n xno xsj tx0 tl0 xtx xtl w) (hf : ¬ x34 = 0 → ¬ cd) (hm : sp_mk nc xno 15 32 x36) (hm2 : sp_mk nc xno 16 32 x37) :
    wL_law_1221 post L xs J43 J1126 x4 x10 x12 x14 x16 (nI n) x34 x35 x36 x37 x38 (nI w) (nI l) (lN (sp_code xtl xtx w)) kc ks xms xsl xdl (nI nc) xsd (nI n) xlr xls xle xst xnw xtc xtu xtn xcu xtd xtt xsr xno xsk xrt xsj xtx xtl xcr eN eC eD eT eH eR tE tN := by
  unfold wL_law_1221
  refine hpk _ ?_
  rcases hr with ⟨e1, e2⟩ | ⟨⟨i, hi, k, e⟩, r⟩
  · exact br_t (by rw [sp_code_c e1 e2]) hJ
  · have b : bt (x36 ||| x37) w = true := by
      rcases k with k | k
      · exact sp_or1 (hm i w (by omega) hi (by omega) k e)
      · exact sp_or2 (hm2 i w (by omega) hi (by omega) k.2 e)
    have t := sl_1255 (post := post) (L := L) (xs := xs) (J43 := J43) (x34 := x34) (x35 := x35) hw hn hs hx el hl hJ b r
    refine br_c (fun _ => hJ) (fun _ => br_c (fun _ => t) (fun f => ?_))
    have k15 : xno (5 * i) = nI 15 := by
      rcases k with k | k
      · exact k
      · exact absurd k.1 (hf f)
    exact sx_bit (by omega) (hm i w (by omega) hi (by omega) k15 e) (br_f (by decide) t)
theorem sl_1169 (hw : w < 8) (hx : sp_ch xtx 128) (el : xtl w = nI l) (hl : l ≤ 8) {a0 : Nat}
    (h : wL_law_1221 post L xs J43 J1126 x4 x10 x12 x14 x16 (nI n) x34 x35 x36 x37 x38 (nI w) (nI l) (lN a0) kc ks xms xsl xdl (nI nc) xsd (nI n) xlr xls xle xst xnw xtc xtu xtn xcu xtd xtt xsr xno xsk xrt xsj xtx xtl xcr eN eC eD eT eH eR tE tN) :
    ∀ d i m a, i + d = l → d < m → a < 2 ^ (4 + 2 * i) → sp_lp (sp_fn xtx w) d i a = a0 →
      wL_law_1169 post L xs J43 J1126 x4 x10 x12 x14 x16 (nI n) x34 x35 x36 x37 x38 (nI w) (nI l) kc ks xms xsl xdl (nI nc) xsd (nI n) xlr xls xle xst xnw xtc xtu xtn xcu xtd xtt xsr xno xsk xrt xsj xtx xtl xcr eN eC eD eT eH eR tE tN m (lN a) (nI i) := by
  intro d
  induction d with
  | zero =>
    intro i m a hi hm ha e
    obtain ⟨m, rfl⟩ : ∃ k, m = k + 1 := ⟨m - 1, by omega⟩
    have e : a = a0 := e
    subst e
    exact br_t (nI_le (by omega) (by omega)) h
  | succ d ih =>
    intro i m a hi hm ha e
    obtain ⟨m, rfl⟩ : ∃ k, m = k + 1 := ⟨m - 1, by omega⟩
    obtain ⟨q, hq, ex⟩ := hx (w * 16 + i) (by omega)
    have ef : sp_fn xtx w i = q := by unfold sp_fn; rw [ex]; exact sm_cl (by omega)
    unfold sp_lp at e
    rw [ef] at e
    refine br_f (nI_ge (by omega) (by omega)) (sx_vc hw el (by omega) (by omega) hx ?_)
    rw [ex]
    by_cases z : q ≤ 3
    · rw [if_pos z] at e
      refine br_t (nI_le (b := 3) z (by omega)) (nm_r (sp_lpo (s := 4 + 2 * nI i) z (by omega) ha (sp_42 i)) (nm_r (nI_1 i) (ih (i + 1) m _ (by omega) (by omega) (sp_lpb z ha) e)))
    · rw [if_neg z] at e
      subst e
      exact br_f (nI_ge (b := q) (a := 3) (by omega) (by omega)) h
end
