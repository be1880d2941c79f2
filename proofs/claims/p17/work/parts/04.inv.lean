/-- what a node holds -/
def sp_nd (nc : Nat) (xno : Nat → Int32) (i : Nat) : Prop :=
  ∃ k a, 1 ≤ k ∧ k ≤ 18 ∧ a < 65536 ∧ xno (5 * i) = nI k ∧ xno (5 * i + 1) = nI a ∧ (k = 12 → a ≤ 3) ∧ (k = 11 ∨ k = 15 ∨ k = 16 → a ≤ 7) ∧
    (13 ≤ k → ∃ l, l < nc ∧ xno (5 * i + 3) = nI l) ∧ (17 ≤ k → ∃ l, l < nc ∧ xno (5 * i + 4) = nI l)
def sp_ch (g : Nat → Int32) (m : Nat) : Prop := ∀ i, i < m → ∃ q, q < 65536 ∧ g i = nI q
/-- who takes an outcome at c: none, or an element of a kind that takes, begun at c or before -/
def sp_tk (nc K c : Nat) (xno eN eC : Nat → Int32) (e : Int32) : Prop :=
  e = -1 ∨ ∃ j i k a, j < K ∧ e = nI j ∧ eN j = nI i ∧ i < nc ∧ xno (5 * i) = nI k ∧ 13 ≤ k ∧ k ≤ 17 ∧ eC j = nI a ∧ a ≤ c
/-- a choice: none, or an element of a kind that may be asked again -/
def sp_co (nc K : Nat) (xno eN : Nat → Int32) (e : Int32) : Prop :=
  e = -1 ∨ ∃ j i k, j < K ∧ e = nI j ∧ eN j = nI i ∧ i < nc ∧ xno (5 * i) = nI k ∧ (k = 10 ∨ k = 13 ∨ k = 18)
def sp_el (nc n t K H : Nat) (xno eN eC eT eH eR : Nat → Int32) : Prop :=
  ∀ j, j < K → ∃ i c r, eN j = nI i ∧ i < nc ∧ eC j = nI c ∧ t ≤ c ∧ c ≤ n ∧ sp_tk nc K c xno eN eC (eT j) ∧ sp_co nc K xno eN (eH j) ∧ eR j = nI r ∧ r ≤ H
def sp_tr (nc n K H : Nat) (xno eN eC tE tN : Nat → Int32) : Prop :=
  ∀ q, q < H → ∃ j i a b, j < K ∧ tE q = nI j ∧ eN j = nI i ∧ i < nc ∧ xno (5 * i) = nI 16 ∧ eC j = nI a ∧ tN q = nI b ∧ a ≤ b ∧ b ≤ n
/-- a variable's text is as it was, or a node names it and it is a part of the subject -/
def sp_row (cd : Prop) (nc n : Nat) (xno xsj tx0 tl0 xtx xtl : Nat → Int32) (w : Nat) : Prop :=
  (xtl w = tl0 w ∧ ∀ i, i < 16 → xtx (w * 16 + i) = tx0 (w * 16 + i)) ∨
  ((∃ i, i < nc ∧ (xno (5 * i) = nI 15 ∨ (cd ∧ xno (5 * i) = nI 16)) ∧ xno (5 * i + 1) = nI w) ∧ ∃ x l, x + l ≤ n ∧ xtl w = nI l ∧ ∀ j, j < l → xtx (w * 16 + j) = xsj (x + j))
def sp_cu (nc n : Nat) (xno cr0 xcr : Nat → Int32) (w : Nat) : Prop :=
  xcr w = cr0 w ∨ ((∃ i, i < nc ∧ xno (5 * i) = nI 11 ∧ xno (5 * i + 1) = nI w) ∧ ∃ c, c ≤ n ∧ xcr w = nI c)
def sp_V (cd : Prop) (nc n : Nat) (xno xsj tx0 tl0 cr0 xtx xtl xcr : Nat → Int32) : Prop :=
  sp_ch xtx 128 ∧ (∀ w, w < 8 → ∃ l, l ≤ 16 ∧ xtl w = nI l) ∧ (∀ w, w < 8 → sp_row cd nc n xno xsj tx0 tl0 xtx xtl w) ∧ (∀ w, w < 8 → sp_cu nc n xno cr0 xcr w)
theorem sp_V_cd {cd : Prop} {nc n : Nat} {xno xsj tx0 tl0 cr0 xtx xtl xcr : Nat → Int32} (h : sp_V False nc n xno xsj tx0 tl0 cr0 xtx xtl xcr) : sp_V cd nc n xno xsj tx0 tl0 cr0 xtx xtl xcr := by
  refine ⟨h.1, h.2.1, fun w hw => ?_, h.2.2.2⟩
  rcases h.2.2.1 w hw with z | ⟨⟨i, hi, z, y⟩, x⟩
  · exact Or.inl z
  · rcases z with z | z
    · exact Or.inr ⟨⟨i, hi, Or.inl z, y⟩, x⟩
    · exact absurd z.1 id
/-- a text is written -/
theorem sp_V_put {cd : Prop} {nc n v a b i : Nat} {xno xsj tx0 tl0 cr0 xtx xtl xcr : Nat → Int32} (h : sp_V cd nc n xno xsj tx0 tl0 cr0 xtx xtl xcr) (hs : sp_ch xsj 16) (hv : v ≤ 7) (hab : a ≤ b) (hb : b ≤ n) (hn : n ≤ 16)
    (hi : i < nc) (hk : xno (5 * i) = nI 15 ∨ (cd ∧ xno (5 * i) = nI 16)) (ha : xno (5 * i + 1) = nI v) :
    sp_V cd nc n xno xsj tx0 tl0 cr0 (sm_put xsj xtx v a (b - a)) (upd xtl v (nI (b - a))) xcr := by
  obtain ⟨h1, h2, h3, h4⟩ := h
  refine ⟨?_, ?_, ?_, h4⟩
  · intro x hx
    by_cases q : v * 16 ≤ x ∧ x < v * 16 + (b - a)
    · obtain ⟨j, rfl⟩ : ∃ j, x = v * 16 + j := ⟨x - v * 16, by omega⟩
      rw [sm_put_i hs _ _ (by omega) (by omega)]
      exact hs _ (by omega)
    · rw [sm_put_o _ _ (by omega)]
      exact h1 x hx
  · intro w hw
    by_cases q : w = v
    · exact ⟨b - a, by omega, by rw [q, pk_us]⟩
    · rw [pk_un q]; exact h2 w hw
  · intro w hw
    by_cases q : w = v
    · subst q
      exact Or.inr ⟨⟨i, hi, hk, ha⟩, a, b - a, by omega, pk_us, fun j hj => sm_put_i hs _ _ hj (by omega)⟩
    · have e : ∀ j, j < 16 → sm_put xsj xtx v a (b - a) (w * 16 + j) = xtx (w * 16 + j) := fun j hj => sm_put_o _ _ (by omega)
      rcases h3 w hw with z | ⟨z, x, l, y1, y2, y3⟩
      · exact Or.inl ⟨by rw [pk_un q]; exact z.1, fun j hj => by rw [e j hj]; exact z.2 j hj⟩
      · refine Or.inr ⟨z, x, l, y1, by rw [pk_un q]; exact y2, fun j hj => ?_⟩
        rw [e j (by omega)]
        exact y3 j hj
theorem sp_V_cur {cd : Prop} {nc n v c i : Nat} {xno xsj tx0 tl0 cr0 xtx xtl xcr : Nat → Int32} (h : sp_V cd nc n xno xsj tx0 tl0 cr0 xtx xtl xcr)
    (hi : i < nc) (hk : xno (5 * i) = nI 11) (ha : xno (5 * i + 1) = nI v) (hc : c ≤ n) :
    sp_V cd nc n xno xsj tx0 tl0 cr0 xtx xtl (upd xcr v (nI c)) := by
  refine ⟨h.1, h.2.1, h.2.2.1, fun w hw => ?_⟩
  by_cases q : w = v
  · subst q
    exact Or.inr ⟨⟨i, hi, hk, ha⟩, c, hc, pk_us⟩
  · unfold sp_cu
    rw [pk_un q]
    exact h.2.2.2 w hw
/-- the invariant of a start -/
def sp_I (nc n t : Nat) (xno xsj tx0 tl0 cr0 : Nat → Int32) (xst xnw xtc xtn xcu xtt : Int32) (xtx xtl xcr eN eC eT eH eR tE tN : Nat → Int32) : Prop :=
  ∃ K H c, xst = nI K ∧ K ≤ 250 ∧ H ≤ 250 ∧ sp_el nc n t K H xno eN eC eT eH eR ∧ sp_tr nc n K H xno eN eC tE tN ∧ sp_co nc K xno eN xnw ∧ (∃ q, q ≤ H ∧ xtc = nI q) ∧
    xcu = nI c ∧ t ≤ c ∧ c ≤ n ∧ sp_tk nc K c xno eN eC xtt ∧ (∃ r, r < nc ∧ xtn = nI r) ∧ sp_V False nc n xno xsj tx0 tl0 cr0 xtx xtl xcr
theorem sp_tk_up {nc K c c' : Nat} {xno eN eC : Nat → Int32} {e : Int32} (h : sp_tk nc K c xno eN eC e) (hc : c ≤ c') : sp_tk nc K c' xno eN eC e := by
  rcases h with z | ⟨j, i, k, a, h1, h2, h3, h4, h5, h6, h7, h8, h9⟩
  · exact Or.inl z
  · exact Or.inr ⟨j, i, k, a, h1, h2, h3, h4, h5, h6, h7, h8, by omega⟩
theorem sp_tk_n {nc K c : Nat} {xno eN eC : Nat → Int32} {e x y : Int32} (h : sp_tk nc K c xno eN eC e) : sp_tk nc (K + 1) c xno (upd eN K x) (upd eC K y) e := by
  rcases h with z | ⟨j, i, k, a, h1, h2, h3, h4, h5, h6, h7, h8, h9⟩
  · exact Or.inl z
  · exact Or.inr ⟨j, i, k, a, by omega, h2, by rw [pk_un (by omega)]; exact h3, h4, h5, h6, h7, by rw [pk_un (by omega)]; exact h8, h9⟩
theorem sp_co_n {nc K : Nat} {xno eN : Nat → Int32} {e x : Int32} (h : sp_co nc K xno eN e) : sp_co nc (K + 1) xno (upd eN K x) e := by
  rcases h with z | ⟨j, i, k, h1, h2, h3, h4, h5, h6⟩
  · exact Or.inl z
  · exact Or.inr ⟨j, i, k, by omega, h2, by rw [pk_un (by omega)]; exact h3, h4, h5, h6⟩
theorem sp_tr_n {nc n K H : Nat} {xno eN eC tE tN : Nat → Int32} {x y : Int32} (h : sp_tr nc n K H xno eN eC tE tN) : sp_tr nc n (K + 1) H xno (upd eN K x) (upd eC K y) tE tN := by
  intro q hq
  obtain ⟨j, i, a, b, h1, h2, h3, h4, h5, h6, h7, h8, h9⟩ := h q hq
  exact ⟨j, i, a, b, by omega, h2, by rw [pk_un (by omega)]; exact h3, h4, h5, by rw [pk_un (by omega)]; exact h6, h7, h8, h9⟩
theorem sp_el_n {nc n t K H i c q : Nat} {xno eN eC eT eH eR : Nat → Int32} {xt xh : Int32} (h : sp_el nc n t K H xno eN eC eT eH eR) (hi : i < nc) (tc : t ≤ c) (cn : c ≤ n) (ht : sp_tk nc K c xno eN eC xt) (hh : sp_co nc K xno eN xh) (hq : q ≤ H) :
    sp_el nc n t (K + 1) H xno (upd eN K (nI i)) (upd eC K (nI c)) (upd eT K xt) (upd eH K xh) (upd eR K (nI q)) := by
  intro j hj
  by_cases e : j = K
  · subst e
    exact ⟨i, c, q, pk_us, hi, pk_us, tc, cn, by rw [pk_us]; exact sp_tk_n ht, by rw [pk_us]; exact sp_co_n hh, pk_us, hq⟩
  · obtain ⟨i', c', r', h1, h2, h3, h4, h5, h6, h7, h8, h9⟩ := h j (by omega)
    exact ⟨i', c', r', by rw [pk_un e]; exact h1, h2, by rw [pk_un e]; exact h3, h4, h5, by rw [pk_un e]; exact sp_tk_n h6, by rw [pk_un e]; exact sp_co_n h7, by rw [pk_un e]; exact h8, h9⟩
/-- an ARB's cursor moves on -/
theorem sp_ne {j j0 i i0 k k0 : Nat} {xno eN : Nat → Int32} (e1 : eN j = nI i) (e0 : eN j0 = nI i0) (hi : i < 1000) (hi0 : i0 < 1000) (x1 : xno (5 * i) = nI k) (x0 : xno (5 * i0) = nI k0) (hk : k < 1000) (hk0 : k0 < 1000) (d : k ≠ k0) : j ≠ j0 := by
  intro z
  subst z
  rw [e1, nI_eq (by omega) (by omega)] at e0
  subst e0
  rw [x1, nI_eq (by omega) (by omega)] at x0
  exact d x0
theorem sp_tk_a {nc K c j0 i0 : Nat} {xno eN eC : Nat → Int32} {e y : Int32} (h32 : nc ≤ 32) (h : sp_tk nc K c xno eN eC e) (e0 : eN j0 = nI i0) (hi0 : i0 < nc) (x0 : xno (5 * i0) = nI 10) : sp_tk nc K c xno eN (upd eC j0 y) e := by
  rcases h with z | ⟨j, i, k, a, h1, h2, h3, h4, h5, h6, h7, h8, h9⟩
  · exact Or.inl z
  · refine Or.inr ⟨j, i, k, a, h1, h2, h3, h4, h5, h6, h7, ?_, h9⟩
    rw [pk_un (sp_ne h3 e0 (by omega) (by omega) h5 x0 (by omega) (by omega) (by omega))]
    exact h8
theorem sp_tr_a {nc n K H j0 i0 : Nat} {xno eN eC tE tN : Nat → Int32} {y : Int32} (h32 : nc ≤ 32) (h : sp_tr nc n K H xno eN eC tE tN) (e0 : eN j0 = nI i0) (hi0 : i0 < nc) (x0 : xno (5 * i0) = nI 10) : sp_tr nc n K H xno eN (upd eC j0 y) tE tN := by
  intro q hq
  obtain ⟨j, i, a, b, h1, h2, h3, h4, h5, h6, h7, h8, h9⟩ := h q hq
  refine ⟨j, i, a, b, h1, h2, h3, h4, h5, ?_, h7, h8, h9⟩
  rw [pk_un (sp_ne h3 e0 (by omega) (by omega) h5 x0 (by omega) (by omega) (by omega))]
  exact h6
theorem sp_el_a {nc n t K H j0 i0 c0 : Nat} {xno eN eC eT eH eR : Nat → Int32} (h32 : nc ≤ 32) (h : sp_el nc n t K H xno eN eC eT eH eR) (e0 : eN j0 = nI i0) (hi0 : i0 < nc) (x0 : xno (5 * i0) = nI 10) (ec : eC j0 = nI c0) (c16 : n ≤ 16) (h0 : c0 < n) :
    sp_el nc n t K H xno eN (upd eC j0 (nI (c0 + 1))) eT eH eR := by
  intro j hj
  obtain ⟨i, c, r, h1, h2, h3, h4, h5, h6, h7, h8, h9⟩ := h j hj
  by_cases q : j = j0
  · subst q
    have e : c = c0 := (nI_eq (by omega) (by omega)).mp (h3.symm.trans ec)
    subst e
    exact ⟨i, c + 1, r, h1, h2, pk_us, by omega, by omega, sp_tk_a h32 (sp_tk_up h6 (by omega)) e0 hi0 x0, h7, h8, h9⟩
  · exact ⟨i, c, r, h1, h2, by rw [pk_un q]; exact h3, h4, h5, sp_tk_a h32 h6 e0 hi0 x0, h7, h8, h9⟩
/-- a triple is added -/
theorem sp_tr_t {nc n K H q j i a b : Nat} {xno eN eC tE tN : Nat → Int32} (h : sp_tr nc n K H xno eN eC tE tN) (hq : q ≤ H) (hj : j < K) (h3 : eN j = nI i) (h4 : i < nc) (h5 : xno (5 * i) = nI 16) (h6 : eC j = nI a) (h8 : a ≤ b) (h9 : b ≤ n) :
    ∃ H', H ≤ H' ∧ H' ≤ H + 1 ∧ q + 1 ≤ H' ∧ (H' ≤ q + 1 ∨ H' ≤ H) ∧ sp_tr nc n K H' xno eN eC (upd tE q (nI j)) (upd tN q (nI b)) := by
  have m : ∀ x, x < H → ∃ j' i' a' b', j' < K ∧ upd tE q (nI j) x = nI j' ∧ eN j' = nI i' ∧ i' < nc ∧ xno (5 * i') = nI 16 ∧ eC j' = nI a' ∧ upd tN q (nI b) x = nI b' ∧ a' ≤ b' ∧ b' ≤ n := by
    intro x hx
    by_cases e : x = q
    · subst e
      exact ⟨j, i, a, b, hj, pk_us, h3, h4, h5, h6, pk_us, h8, h9⟩
    · rw [pk_un e, pk_un e]
      exact h x hx
  by_cases e : q < H
  · exact ⟨H, Nat.le_refl _, by omega, e, Or.inr (Nat.le_refl _), m⟩
  · have e : q = H := by omega
    subst e
    refine ⟨q + 1, by omega, Nat.le_refl _, Nat.le_refl _, Or.inl (Nat.le_refl _), ?_⟩
    intro x hx
    by_cases e : x = q
    · subst e
      exact ⟨j, i, a, b, hj, pk_us, h3, h4, h5, h6, pk_us, h8, h9⟩
    · exact m x (by omega)
theorem sp_el_h {nc n t K H H' : Nat} {xno eN eC eT eH eR : Nat → Int32} (h : sp_el nc n t K H xno eN eC eT eH eR) (hh : H ≤ H') : sp_el nc n t K H' xno eN eC eT eH eR := by
  intro j hj
  obtain ⟨i, c, r, h1, h2, h3, h4, h5, h6, h7, h8, h9⟩ := h j hj
  exact ⟨i, c, r, h1, h2, h3, h4, h5, h6, h7, h8, by omega⟩
