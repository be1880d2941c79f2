def sp_r6 (x : Int32) : Int64 := if x < -1 then 63 else if 61 < x then 63 else (x + 1).toInt64
theorem sx_r6 {post : Int64 → Prop} {x : Int32} (h : post (sp_r6 x)) : wpL_r6 post () x := by
  unfold sp_r6 at h
  by_cases a : x < -1
  · rw [if_pos a] at h; exact br_t a h
  · rw [if_neg a] at h
    by_cases b : 61 < x
    · rw [if_pos b] at h; exact br_f a (br_t b h)
    · rw [if_neg b] at h; exact br_f a (br_f b h)
def sp_e3 (x : Int32) : Int64 := if x < 0 then 7 else if 6 < x then 7 else x.toInt64
theorem sx_e3 {post : Int64 → Prop} {x : Int32} (h : post (sp_e3 x)) : wpL_enc3 post () x := by
  unfold sp_e3 at h
  by_cases a : x < 0
  · rw [if_pos a] at h; exact br_t a h
  · rw [if_neg a] at h
    by_cases b : 6 < x
    · rw [if_pos b] at h; exact br_f a (br_t b h)
    · rw [if_neg b] at h; exact br_f a (br_f b h)
/-- the roots, packed -/
def sp_rt (xrt : Nat → Int32) : Nat → Int64
  | 0 => 0
  | k + 1 => sp_rt xrt k ||| (sp_r6 (xrt k) <<< ((6 * nI k).toInt64 &&& 63))
/-- the subject, packed -/
def sp_sb (n : Nat) (xsj : Nat → Int32) : Nat → Int64
  | 0 => 0
  | k + 1 => sp_sb n xsj k ||| (sp_e3 (sp_sc n xsj k) <<< ((3 * nI k).toInt64 &&& 63))
theorem sp_wa {w a : Nat} (hw : w ≤ 7) (ha : a < 65536) (h : nI w = nI a) : w = a := (nI_eq (by omega) (by omega)).mp h
theorem sp_mk_s {nc k i : Nat} {xno : Nat → Int32} {x x' : Int32} (h : sp_mk nc xno k i x) (mono : ∀ w, bt x w = true → bt x' w = true) (hit : i < nc → ∀ w, w ≤ 7 → xno (5 * i) = nI k → xno (5 * i + 1) = nI w → bt x' w = true) : sp_mk nc xno k (i + 1) x' := by
  intro j w h1 h2 h3 h4 h5
  by_cases q : j = i
  · subst q; exact hit h2 w h3 h4 h5
  · exact mono w (h j w (by omega) h2 h3 h4 h5)
section
variable {post : Int32 → Prop} {L : Nat} {xs : Nat → Int32} {J43 : Int32 → Int32 → Int32 → Int32 → Int32 → Int32 → Int32 → Int32 → Int32 → Int32 → Int32 → Int32 → Int32 → Int32 → Int32 → Int32 → Int32 → Int32 → Int32 → (Nat → Int32) → (Nat → Int32) → (Nat → Int32) → (Nat → Int32) → (Nat → Int32) → (Nat → Int32) → (Nat → Int32) → (Nat → Int32) → (Nat → Int32) → (Nat → Int32) → (Nat → Int32) → (Nat → Int32) → (Nat → Int32) → (Nat → Int32) → (Nat → Int32) → Prop} {x4 x9 x26 x34 x35 : Int32} {x10 x12 x14 x16 : Int64} {kc ks : Nat}
variable {xms xsl xdl xsd xlr xls xle : Int32} {nc n : Nat} {xno xsk xrt xsj tx0 tl0 cr0 : Nat → Int32} {cd : Prop}
variable {xst xnw xtc xtu xtn xcu xtd xtt xsr : Int32} {xtx xtl xcr eN eC eD eT eH eR tE tN : Nat → Int32}
/-- the law's check of the eight variables -/
theorem sl_1126 {x36 x37 x38 : Int32} (hn : n ≤ 16) (hnc : nc ≤ 32) (hs : sp_ch xsj 16) (V : sp_V cd nc n xno xsj tx0 tl0 cr0 xtx xtl xcr)
    (hpk : ∀ w, w < 8 → ∀ P : Int64 → Prop, P (lN (sp_code tl0 tx0 w)) → wpL_pick P () x10 x12 x14 (nI w))
    (h16 : ∀ w, w < 8 → (((x16.toUInt64 >>> ((5 * nI w).toInt64.toUInt64 &&& Int64.toUInt64 63)).toInt64) &&& 31) = sp_c5 (cr0 w))
    (hf : ¬ x34 = 0 → ¬ cd) (m1 : sp_mk nc xno 15 32 x36) (m2 : sp_mk nc xno 16 32 x37) (m3 : sp_mk nc xno 11 32 x38) (hJ : J43 x4 xms xsl xdl (nI nc) xsd (nI n) xlr xls xle xst xnw xtc xtu xtn xcu xtd xtt xsr xno xsk xrt xsj xtx xtl xcr eN eC eD eT eH eR tE tN) :
    ∀ d w m, w + d = 8 → d < m → wL_law_1126 post L xs J43 x4 x10 x12 x14 x16 (nI n) x34 x35 x36 x37 x38 kc ks xms xsl xdl (nI nc) xsd (nI n) xlr xls xle xst xnw xtc xtu xtn xcu xtd xtt xsr xno xsk xrt xsj xtx xtl xcr eN eC eD eT eH eR tE tN m (nI w) := by
  intro d
  induction d with
  | zero =>
    intro w m h hm
    obtain ⟨m, rfl⟩ : ∃ k, m = k + 1 := ⟨m - 1, by omega⟩
    exact br_t (nI_le (a := 8) (by omega) (by omega)) hJ
  | succ d ih =>
    intro w m h hm
    obtain ⟨m, rfl⟩ : ∃ k, m = k + 1 := ⟨m - 1, by omega⟩
    have hw : w < 8 := by omega
    obtain ⟨l, hl, el⟩ := V.2.1 w hw
    have nx := ih (w + 1) m (by omega) (by omega)
    have t5 := sl_1365 (post := post) (L := L) (xs := xs) (J43 := J43) (x4 := x4) (x10 := x10) (x12 := x12) (x14 := x14) (x34 := x34) (x35 := x35) (x36 := x36) (x37 := x37) (kc := kc) (ks := ks) (xms := xms) (xsl := xsl) (xdl := xdl) (xsd := xsd) (xlr := xlr) (xls := xls) (xle := xle) (xst := xst) (xnw := xnw) (xtc := xtc) (xtu := xtu) (xtn := xtn) (xcu := xcu) (xtd := xtd) (xtt := xtt) (xsr := xsr) (xsk := xsk) (xrt := xrt) (xsj := xsj) (xtx := xtx) (xtl := xtl) (eN := eN) (eC := eC) (eD := eD) (eT := eT) (eH := eH) (eR := eR) (tE := tE) (tN := tN) hw hn hnc (h16 w hw) (V.2.2.2 w hw) m3 nx
    have t1 := sl_1221 hw hn hnc hs V.1 el hl (hpk w hw) t5 (V.2.2.1 w hw) hf m1 m2
    have ec : (xtl w).toNatClampNeg = l := by rw [el]; exact sm_cl (by omega)
    refine br_f (nI_ge (b := 8) hw (by omega)) (sx_vl hw ?_)
    rw [el]
    refine br_f (nI_pos (by omega)) ?_
    by_cases q : l ≤ 8
    · have e0 : sp_lp (sp_fn xtx w) l 0 l = sp_code xtl xtx w := by
        unfold sp_code
        rw [ec, if_pos q]
      rw [nI_l (by omega)]
      exact br_t (nI_le (b := 8) q (by omega)) ⟨l + 1, sl_1169 hw V.1 el q t1 l 0 (l + 1) l (by omega) (by omega) (by omega) e0⟩
    · have e0 : sp_code xtl xtx w = 2 ^ 20 := by
        unfold sp_code
        rw [ec, if_neg q]
      rw [e0] at t1
      exact br_f (nI_ge (a := 8) (by omega) (by omega)) t1
/-- the masks -/
theorem sl_1029 (hnc : nc ≤ 32) (hnd : ∀ i, i < nc → sp_nd nc xno i)
    (hJ : ∀ x36 x37 x38 : Int32, sp_mk nc xno 15 32 x36 → sp_mk nc xno 16 32 x37 → sp_mk nc xno 11 32 x38 → ∃ fu, wL_law_1126 post L xs J43 x4 x10 x12 x14 x16 (nI n) x34 x35 x36 x37 x38 kc ks xms xsl xdl (nI nc) xsd (nI n) xlr xls xle xst xnw xtc xtu xtn xcu xtd xtt xsr xno xsk xrt xsj xtx xtl xcr eN eC eD eT eH eR tE tN fu 0) :
    ∀ d i m, i + d = 32 → d < m → ∀ x36 x37 x38 : Int32, sp_mk nc xno 15 i x36 → sp_mk nc xno 16 i x37 → sp_mk nc xno 11 i x38 →
      wL_law_1029 post L xs J43 x4 x10 x12 x14 x16 (nI n) x34 x35 kc ks xms xsl xdl (nI nc) xsd (nI n) xlr xls xle xst xnw xtc xtu xtn xcu xtd xtt xsr xno xsk xrt xsj xtx xtl xcr eN eC eD eT eH eR tE tN m x36 x37 x38 (nI i) := by
  intro d
  induction d with
  | zero =>
    intro i m h hm x36 x37 x38 m1 m2 m3
    obtain ⟨m, rfl⟩ : ∃ k, m = k + 1 := ⟨m - 1, by omega⟩
    have e : i = 32 := by omega
    subst e
    exact br_t (nI_le (a := 32) (Nat.le_refl _) (by omega)) (hJ x36 x37 x38 m1 m2 m3)
  | succ d ih =>
    intro i m h hm x36 x37 x38 m1 m2 m3
    obtain ⟨m, rfl⟩ : ∃ k, m = k + 1 := ⟨m - 1, by omega⟩
    have nx := ih (i + 1) m (by omega) (by omega)
    refine br_f (nI_ge (b := 32) (by omega) (by omega)) (sx_nf (f := 0) (by omega) (by omega) hnc (fun hi => ?_) (fun hi => ?_))
    rotate_left
    · refine sx_nf (f := 1) (by omega) (by omega) hnc (fun z => absurd z (by omega)) (fun _ => br_t (by decide) (nm_r (nI_1 i) ?_))
      exact nx x36 x37 x38 (sp_mk_s m1 (fun _ z => z) (fun z => absurd z (by omega))) (sp_mk_s m2 (fun _ z => z) (fun z => absurd z (by omega))) (sp_mk_s m3 (fun _ z => z) (fun z => absurd z (by omega)))
    · refine sx_nf (f := 1) (by omega) (by omega) hnc (fun _ => ?_) (fun z => absurd z (by omega))
      obtain ⟨k, a, k1, k18, a1, h0, h1, c12, cv, c13, c17⟩ := hnd i hi
      have g0 : xno (5 * i + 0) = nI k := h0
      rw [g0, h1]
      have ia : ∀ w, w ≤ 7 → xno (5 * i + 1) = nI w → w = a := fun w hw e => (sp_wa hw a1 (e.symm.trans h1))
      have ik : ∀ k', k' ≤ 18 → xno (5 * i) = nI k' → k = k' := fun k' hk e => sp_ke (h0.symm.trans e) k18 hk
      refine br_f (nI_pos (Nat.lt_trans a1 (by decide))) ?_
      by_cases a7 : a ≤ 7
      rotate_left
      · refine br_f (nI_ge (a := 7) (Nat.not_le.mp a7) (Nat.lt_trans a1 (by decide))) (nm_r (nI_1 i) ?_)
        have no : ∀ w, w ≤ 7 → xno (5 * i + 1) = nI w → False := fun w hw e => a7 (ia w hw e ▸ hw)
        exact nx x36 x37 x38 (sp_mk_s m1 (fun _ z => z) (fun _ w hw _ e => absurd (no w hw e) id)) (sp_mk_s m2 (fun _ z => z) (fun _ w hw _ e => absurd (no w hw e) id)) (sp_mk_s m3 (fun _ z => z) (fun _ w hw _ e => absurd (no w hw e) id))
      · have one : ∀ (x : Int32) w, w ≤ 7 → xno (5 * i + 1) = nI w → bt (x ||| ((1 : Int32) <<< (nI a &&& 31))) w = true := by
          intro x w hw e
          rw [ia w hw e]
          exact sp_or2 (sp_one (Nat.lt_of_le_of_lt a7 (by decide)))
        have up : ∀ (x : Int32) w, bt x w = true → bt (x ||| ((1 : Int32) <<< (nI a &&& 31))) w = true := fun x w z => sp_or1 z
        have keep : ∀ (k' : Nat) (x : Int32), k' ≤ 18 → k ≠ k' → sp_mk nc xno k' i x → sp_mk nc xno k' (i + 1) x := fun k' x hk ne z => sp_mk_s z (fun _ z => z) (fun _ w _ e _ => absurd (ik k' hk e) ne)
        have put : ∀ (k' : Nat) (x : Int32), sp_mk nc xno k' i x → sp_mk nc xno k' (i + 1) (x ||| ((1 : Int32) <<< (nI a &&& 31))) := fun k' x z => sp_mk_s z (up x) (fun _ w hw _ e => one x w hw e)
        refine br_t (nI_le (b := 7) a7 (by decide)) ?_
        by_cases z15 : k = 15
        · subst z15
          exact br_t rfl (nm_e (br_f (by decide) (br_f (by decide) (nm_r (nI_1 i) (nx _ x37 x38 (put 15 x36 m1) (keep 16 x37 (by decide) (by decide) m2) (keep 11 x38 (by decide) (by decide) m3))))))
        refine br_f (fun z => z15 (sp_ke (k := 15) z k18 (by decide))) ?_
        by_cases z16 : k = 16
        · subst z16
          exact br_t rfl (nm_e (br_f (by decide) (nm_r (nI_1 i) (nx x36 _ x38 (keep 15 x36 (by decide) (by decide) m1) (put 16 x37 m2) (keep 11 x38 (by decide) (by decide) m3)))))
        refine br_f (fun z => z16 (sp_ke (k := 16) z k18 (by decide))) ?_
        by_cases z11 : k = 11
        · subst z11
          exact br_t rfl (nm_e (nm_r (nI_1 i) (nx x36 x37 _ (keep 15 x36 (by decide) (by decide) m1) (keep 16 x37 (by decide) (by decide) m2) (put 11 x38 m3))))
        · exact br_f (fun z => z11 (sp_ke (k := 11) z k18 (by decide))) (nm_r (nI_1 i) (nx x36 x37 x38 (keep 15 x36 (by decide) z15 m1) (keep 16 x37 (by decide) z16 m2) (keep 11 x38 (by decide) z11 m3)))
theorem sl_1017 {lim : Nat} (C : sp_C lim nc n xno xrt xsj) (V : sp_V cd nc n xno xsj tx0 tl0 cr0 xtx xtl xcr)
    (hpk : ∀ w, w < 8 → ∀ P : Int64 → Prop, P (lN (sp_code tl0 tx0 w)) → wpL_pick P () x10 x12 x14 (nI w))
    (h16 : ∀ w, w < 8 → (((x16.toUInt64 >>> ((5 * nI w).toInt64.toUInt64 &&& Int64.toUInt64 63)).toInt64) &&& 31) = sp_c5 (cr0 w))
    (hf : ¬ x34 = 0 → ¬ cd) (hJ : J43 x4 xms xsl xdl (nI nc) xsd (nI n) xlr xls xle xst xnw xtc xtu xtn xcu xtd xtt xsr xno xsk xrt xsj xtx xtl xcr eN eC eD eT eH eR tE tN) :
    wL_law_1017 post L xs J43 x4 x10 x12 x14 x16 (nI n) x34 x35 kc ks xms xsl xdl (nI nc) xsd (nI n) xlr xls xle xst xnw xtc xtu xtn xcu xtd xtt xsr xno xsk xrt xsj xtx xtl xcr eN eC eD eT eH eR tE tN :=
  ⟨33, sl_1029 C.1 C.2.2.2.1 (fun x36 x37 x38 m1 m2 m3 => ⟨9, sl_1126 C.2.2.1 C.1 C.2.2.2.2.2 V hpk h16 hf m1 m2 m3 hJ 8 0 9 (by omega) (by omega)⟩) 32 0 33 (by omega) (by omega) 0 0 0 (fun i w z => absurd z (by omega)) (fun i w z => absurd z (by omega)) (fun i w z => absurd z (by omega))⟩
end
