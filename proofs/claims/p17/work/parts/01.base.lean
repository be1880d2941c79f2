theorem sm_z0 : (0 : Int32).toInt = 0 := by decide
theorem sm_m1 : (-1 : Int32).toInt = -1 := by decide
theorem sm_16 : (16 : Int32) = nI 16 := rfl
theorem sm_5 : (5 : Int32) = nI 5 := rfl
theorem sm_ix5 (a f : Nat) : nI a * 5 + nI f = nI (5 * a + f) := by
  rw [sm_5, pk_mul, nI_add, Nat.mul_comm]
theorem sm_cl {a : Nat} (h : a < 2 ^ 31) : (nI a).toNatClampNeg = a := nI_clamp h
theorem sm_m1ne {e : Nat} (h : e < 2 ^ 31) : ¬ nI e = -1 := by
  intro z
  have := congrArg Int32.toInt z
  rw [nI_toInt h, sm_m1] at this
  omega
theorem sm_ne {a : Nat} (b : Nat) (h : a ≠ b) (ha : a < 1000) (hb : b < 1000) : ¬ nI a = nI b := fun z => h ((nI_eq (by omega) (by omega)).mp z)
theorem sm_eqI {a b : Nat} (h : a = b) : nI a = nI b := by rw [h]
theorem sm_lt {a : Nat} (b : Nat) (h : a < b) (hb : b < 1000) : nI a < nI b := nI_lt h (by omega)
theorem sm_ngt {b : Nat} (a : Nat) (h : b ≤ a) (ha : a < 1000) : ¬ nI a < nI b := nI_nlt h (by omega)
theorem sm_nlt {a : Nat} (b : Nat) (h : b ≤ a) (ha : a < 1000) : ¬ nI a < nI b := nI_nlt h (by omega)
theorem sm_cg {α : Sort _} {f : Nat → α} {j : Nat} (hj : j < 1000) {x : α} (h : f j = x) : f (nI j).toNatClampNeg = x := by rw [sm_cl (by omega)]; exact h
theorem sm_up {f : Nat → Int32} {j : Nat} (hj : j < 1000) {x : Int32} : upd f (nI j).toNatClampNeg x = upd f j x := by rw [sm_cl (by omega)]
theorem sm_bl {x : Int32} {b : Nat} (h : nI b ≤ x) : ¬ x < nI b := Int32.not_lt.mpr h
theorem sm_b0 {x : Int32} {b : Nat} (h : nI b ≤ x) (hb : b < 2 ^ 31) : ¬ x < 0 := by
  rw [Int32.lt_iff_toInt_lt, sm_z0]
  rw [Int32.le_iff_toInt_le, nI_toInt hb] at h
  omega
theorem sm_in5 {i : Nat} (f : Nat) (hi : i < 32) (hf : f < 5) : vp_in (nI i * 5 + nI f) 160 := by rw [sm_ix5]; exact vp_in_nI (by omega) (by omega)
theorem sm_c5 {g : Nat → Int32} {i : Nat} (f : Nat) (hi : i < 32) (hf : f < 5) {x : Int32} (h : g (5 * i + f) = x) : g (nI i * 5 + nI f).toNatClampNeg = x := by
  rw [sm_ix5, sm_cl (by omega)]; exact h
/-- the text of v after j characters of the subject from a on -/
def sm_put (sj tx : Nat → Int32) (v a : Nat) : Nat → Nat → Int32
  | 0 => tx
  | j + 1 => upd (sm_put sj tx v a j) (v * 16 + j) (vp_nar .char (sj (a + j)))
theorem sm_nc {q : Nat} (hq : q < 65536) : vp_nar .char (nI q) = nI q := by
  unfold vp_nar
  rw [(pk_charN hq).1]
theorem sm_put_o {sj tx : Nat → Int32} {v a : Nat} : ∀ d i, (i < v * 16 ∨ v * 16 + d ≤ i) → sm_put sj tx v a d i = tx i := by
  intro d
  induction d with
  | zero => intro i _; rfl
  | succ d ih =>
    intro i h
    unfold sm_put
    rw [pk_un (by omega)]
    exact ih i (by omega)
theorem sm_put_i {sj tx : Nat → Int32} {v a : Nat} (hc : ∀ i, i < 16 → ∃ q, q < 65536 ∧ sj i = nI q) : ∀ d j, j < d → a + d ≤ 16 → sm_put sj tx v a d (v * 16 + j) = sj (a + j) := by
  intro d
  induction d with
  | zero => intro j h; omega
  | succ d ih =>
    intro j h hd
    unfold sm_put
    by_cases q : j = d
    · subst q
      obtain ⟨c, hc, e⟩ := hc (a + j) (by omega)
      rw [pk_us, e]
      exact sm_nc hc
    · rw [pk_un (by omega)]
      exact ih j (by omega) (by omega)
section
variable {xms xsl xdl xnc xsd xn xlr xls xle xst xnw xtc xtu xtn xcu xtd xtt xsr : Int32} {xno xsk xrt xsj xtx xtl xcr eN eC eD eT eH eR tE tN : Nat → Int32}
theorem sx_text {post : St2 → Prop} {v a b : Nat} (hv : v ≤ 7) (hb : b ≤ 16) :
    ∀ d j n, a + j + d = b → d < n →
    post (xms, xsl, xdl, xnc, xsd, xn, xlr, xls, xle, xst, xnw, xtc, xtu, xtn, xcu, xtd, xtt, xsr, xno, xsk, xrt, xsj, sm_put xsj xtx v a (b - a), upd xtl v (nI (b - a)), xcr, eN, eC, eD, eT, eH, eR, tE, tN) →
    wX_setText_3 post (nI v) (nI a) (nI b) xms xsl xdl xnc xsd xn xlr xls xle xst xnw xtc xtu xtn xcu xtd xtt xsr n (nI (a + j)) xno xsk xrt xsj (sm_put xsj xtx v a j) xtl xcr eN eC eD eT eH eR tE tN := by
  intro d
  induction d with
  | zero =>
    intro j n h hn hp
    obtain ⟨n, rfl⟩ : ∃ m, n = m + 1 := ⟨n - 1, by omega⟩
    have e : b - a = j := by omega
    rw [e] at hp
    refine br_t (nI_le (by omega) (by omega)) ⟨vp_in_nI (by omega) (by omega), nm_r ?_ hp⟩
    rw [pk_sub (by omega), sm_cl (by omega), e]
  | succ d ih =>
    intro j n h hn hp
    obtain ⟨n, rfl⟩ : ∃ m, n = m + 1 := ⟨n - 1, by omega⟩
    have ei : nI v * 16 + nI (a + j) - nI a = nI (v * 16 + j) := by
      rw [sm_16, pk_mul, nI_add, pk_sub (by omega)]
      congr 1
      omega
    refine br_f (nI_ge (by omega) (by omega)) ⟨vp_in_nI (by omega) (by omega), ?_, nm_r ?_ (nm_r (nI_1 _) (ih (j + 1) n (by omega) (by omega) hp))⟩
    · rw [ei]; exact vp_in_nI (by omega) (by omega)
    · rw [ei, sm_cl (by omega), sm_cl (by omega)]
      rfl
theorem sx_setText {post : St2 → Prop} {v a b : Nat} (hv : v ≤ 7) (ha : a ≤ b) (hb : b ≤ 16)
    (hp : post (xms, xsl, xdl, xnc, xsd, xn, xlr, xls, xle, xst, xnw, xtc, xtu, xtn, xcu, xtd, xtt, xsr, xno, xsk, xrt, xsj, sm_put xsj xtx v a (b - a), upd xtl v (nI (b - a)), xcr, eN, eC, eD, eT, eH, eR, tE, tN)) :
    wpX_setText post (xms, xsl, xdl, xnc, xsd, xn, xlr, xls, xle, xst, xnw, xtc, xtu, xtn, xcu, xtd, xtt, xsr, xno, xsk, xrt, xsj, xtx, xtl, xcr, eN, eC, eD, eT, eH, eR, tE, tN) (nI v) (nI a) (nI b) :=
  ⟨b - a + 1, sx_text hv hb (b - a) 0 (b - a + 1) (by omega) (by omega) hp⟩
end
