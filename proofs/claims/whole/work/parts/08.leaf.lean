/-- an answer of a leaf -/
def sm_an (c n : Nat) (r : Int32) : Prop := r = -1 ∨ ∃ e, c ≤ e ∧ e ≤ n ∧ r = nI e
theorem sm_m1lt : ¬ (0 : Int32) ≤ -1 := by decide
theorem sm_m1ne {e : Nat} (h : e < 2 ^ 31) : ¬ nI e = -1 := by
  intro z
  have := congrArg Int32.toInt z
  rw [nI_toInt h, sm_m1] at this
  omega
section
variable {xms xsl xdl xnc xsd xn xlr xls xle xst xnw xtc xtu xtn xcu xtd xtt xsr : Int32} {xno xsk xrt xsj xtx xtl xcr eN eC eD eT eH eR tE tN : Nat → Int32}
variable {yms ysl ydl ync ysp yn ylr yls yle yfc yst ycf yev yfr ydo : Int32} {nK nA nB nL nR ysk yrt ysj ytx ytl ycr fN fC fD fS fA fB fO fP fL fM tS tG : Nat → Int32}
theorem sm_span {n c : Nat} {a b : Int32} (hn : n ≤ 16) (hc : c ≤ n) : ∀ d e, e + d = n → c ≤ e →
    ∃ r, sm_an c n r ∧ (∀ post m, d < m → post r → wX_spanEnd_3 post a b (nI c) xms xsl xdl xnc xsd (nI n) xlr xls xle xst xnw xtc xtu xtn xcu xtd xtt xsr xno xsk xrt xsj xtx xtl xcr eN eC eD eT eH eR tE tN m (nI e)) ∧
      (∀ post m, d < m → post r → wY_leafValue_189 post (nI c) a b yms ysl ydl ync ysp (nI n) ylr yls yle yfc yst ycf yev yfr ydo nK nA nB nL nR ysk yrt xsj ytx ytl ycr fN fC fD fS fA fB fO fP fL fM tS tG m (nI e) (nI (e - c))) := by
  intro d
  induction d with
  | zero =>
    intro e he hce
    by_cases q : e ≤ c
    · refine ⟨-1, Or.inl rfl, ?_, ?_⟩
      · intro post m hm hp
        obtain ⟨m, rfl⟩ : ∃ k, m = k + 1 := ⟨m - 1, by omega⟩
        exact br_t (nI_le (by omega) (by omega)) (br_t (nI_le (by omega) (by omega)) hp)
      · intro post m hm hp
        obtain ⟨m, rfl⟩ : ∃ k, m = k + 1 := ⟨m - 1, by omega⟩
        exact br_f (nI_ge (b := 17) (by omega) (by omega)) (br_t (nI_le (by omega) (by omega)) (br_t (nI_le (by omega) (by omega)) hp))
    · refine ⟨nI e, Or.inr ⟨e, by omega, by omega, rfl⟩, ?_, ?_⟩
      · intro post m hm hp
        obtain ⟨m, rfl⟩ : ∃ k, m = k + 1 := ⟨m - 1, by omega⟩
        exact br_t (nI_le (by omega) (by omega)) (br_f (nI_ge (by omega) (by omega)) hp)
      · intro post m hm hp
        obtain ⟨m, rfl⟩ : ∃ k, m = k + 1 := ⟨m - 1, by omega⟩
        exact br_f (nI_ge (b := 17) (by omega) (by omega)) (br_t (nI_le (by omega) (by omega)) (br_f (nI_ge (by omega) (by omega)) hp))
  | succ d ih =>
    intro e he hce
    have vi : vp_in (nI e) 16 := vp_in_nI (by omega) (by omega)
    have stop : (xsj (nI e).toNatClampNeg < a ∨ b < xsj (nI e).toNatClampNeg) → ∃ r, sm_an c n r ∧ (∀ post m, d + 1 < m → post r → wX_spanEnd_3 post a b (nI c) xms xsl xdl xnc xsd (nI n) xlr xls xle xst xnw xtc xtu xtn xcu xtd xtt xsr xno xsk xrt xsj xtx xtl xcr eN eC eD eT eH eR tE tN m (nI e)) ∧
      (∀ post m, d + 1 < m → post r → wY_leafValue_189 post (nI c) a b yms ysl ydl ync ysp (nI n) ylr yls yle yfc yst ycf yev yfr ydo nK nA nB nL nR ysk yrt xsj ytx ytl ycr fN fC fD fS fA fB fO fP fL fM tS tG m (nI e) (nI (e - c))) := by
      intro st
      have fin : ∃ r, sm_an c n r ∧ (∀ post : Int32 → Prop, post r → wX_spanEnd_40 post (nI c) (nI e) xms xsl xdl xnc xsd (nI n) xlr xls xle xst xnw xtc xtu xtn xcu xtd xtt xsr xno xsk xrt xsj xtx xtl xcr eN eC eD eT eH eR tE tN) ∧ (∀ post : Int32 → Prop, post r → wY_leafValue_238 post (nI c) (nI e) yms ysl ydl ync ysp (nI n) ylr yls yle yfc yst ycf yev yfr ydo nK nA nB nL nR ysk yrt xsj ytx ytl ycr fN fC fD fS fA fB fO fP fL fM tS tG) := by
        by_cases q : e ≤ c
        · exact ⟨-1, Or.inl rfl, fun post hp => br_t (nI_le (by omega) (by omega)) hp, fun post hp => br_t (nI_le (by omega) (by omega)) hp⟩
        · exact ⟨nI e, Or.inr ⟨e, by omega, by omega, rfl⟩, fun post hp => br_f (nI_ge (by omega) (by omega)) hp, fun post hp => br_f (nI_ge (by omega) (by omega)) hp⟩
      obtain ⟨r, hr, fx, fy⟩ := fin
      refine ⟨r, hr, ?_, ?_⟩
      · intro post m hm hp
        obtain ⟨m, rfl⟩ : ∃ k, m = k + 1 := ⟨m - 1, by omega⟩
        refine br_f (nI_ge (by omega) (by omega)) ⟨vi, ?_⟩
        by_cases q : xsj (nI e).toNatClampNeg < a
        · exact br_t q (fx post hp)
        · rcases st with s | s
          · exact absurd s q
          · exact br_f q ⟨vi, br_t s (fx post hp)⟩
      · intro post m hm hp
        obtain ⟨m, rfl⟩ : ∃ k, m = k + 1 := ⟨m - 1, by omega⟩
        refine br_f (nI_ge (b := 17) (by omega) (by omega)) (br_f (nI_ge (by omega) (by omega)) ⟨vi, ?_⟩)
        by_cases q : xsj (nI e).toNatClampNeg < a
        · exact br_t q (fy post hp)
        · rcases st with s | s
          · exact absurd s q
          · exact br_f q ⟨vi, br_t s (fy post hp)⟩
    by_cases q : xsj (nI e).toNatClampNeg < a
    · exact stop (Or.inl q)
    · by_cases s : b < xsj (nI e).toNatClampNeg
      · exact stop (Or.inr s)
      · obtain ⟨r, hr, ix, iy⟩ := ih (e + 1) (by omega) (by omega)
        refine ⟨r, hr, ?_, ?_⟩
        · intro post m hm hp
          obtain ⟨m, rfl⟩ : ∃ k, m = k + 1 := ⟨m - 1, by omega⟩
          exact br_f (nI_ge (by omega) (by omega)) ⟨vi, br_f q ⟨vi, br_f s (nm_r (nI_1 e) (ix post m (by omega) hp))⟩⟩
        · intro post m hm hp
          obtain ⟨m, rfl⟩ : ∃ k, m = k + 1 := ⟨m - 1, by omega⟩
          have e2 : nI (e - c) + 1 = nI (e + 1 - c) := by rw [nI_1]; congr 1; omega
          exact br_f (nI_ge (b := 17) (by omega) (by omega)) (br_f (nI_ge (by omega) (by omega)) ⟨vi, br_f q ⟨vi, br_f s (nm_r (nI_1 e) (nm_r e2 (iy post m (by omega) hp)))⟩⟩)
theorem sm_break {n c : Nat} {a b : Int32} (hn : n ≤ 16) : ∀ d e, e + d = n → c ≤ e →
    ∃ r, sm_an c n r ∧ (∀ post m, d < m → post r → wX_breakEnd_3 post a b xms xsl xdl xnc xsd (nI n) xlr xls xle xst xnw xtc xtu xtn xcu xtd xtt xsr xno xsk xrt xsj xtx xtl xcr eN eC eD eT eH eR tE tN m (nI e)) ∧
      (∀ post m, d < m → post r → wY_leafValue_260 post a b yms ysl ydl ync ysp (nI n) ylr yls yle yfc yst ycf yev yfr ydo nK nA nB nL nR ysk yrt xsj ytx ytl ycr fN fC fD fS fA fB fO fP fL fM tS tG m (nI e)) := by
  intro d
  induction d with
  | zero =>
    intro e he hce
    refine ⟨-1, Or.inl rfl, ?_, ?_⟩
    · intro post m hm hp
      obtain ⟨m, rfl⟩ : ∃ k, m = k + 1 := ⟨m - 1, by omega⟩
      exact br_t (nI_le (by omega) (by omega)) hp
    · intro post m hm hp
      obtain ⟨m, rfl⟩ : ∃ k, m = k + 1 := ⟨m - 1, by omega⟩
      exact br_t (nI_le (by omega) (by omega)) hp
  | succ d ih =>
    intro e he hce
    have vi : vp_in (nI e) 16 := vp_in_nI (by omega) (by omega)
    by_cases st : xsj (nI e).toNatClampNeg < a ∨ b < xsj (nI e).toNatClampNeg
    · obtain ⟨r, hr, ix, iy⟩ := ih (e + 1) (by omega) (by omega)
      refine ⟨r, hr, ?_, ?_⟩
      · intro post m hm hp
        obtain ⟨m, rfl⟩ : ∃ k, m = k + 1 := ⟨m - 1, by omega⟩
        refine br_f (nI_ge (by omega) (by omega)) ⟨vi, ?_⟩
        by_cases q : xsj (nI e).toNatClampNeg < a
        · exact br_t q (nm_r (nI_1 e) (ix post m (by omega) hp))
        · rcases st with s | s
          · exact absurd s q
          · exact br_f q ⟨vi, br_t s (nm_r (nI_1 e) (ix post m (by omega) hp))⟩
      · intro post m hm hp
        obtain ⟨m, rfl⟩ : ∃ k, m = k + 1 := ⟨m - 1, by omega⟩
        refine br_f (nI_ge (by omega) (by omega)) ⟨vi, ?_⟩
        by_cases q : xsj (nI e).toNatClampNeg < a
        · exact br_t q (nm_r (nI_1 e) (iy post m (by omega) hp))
        · rcases st with s | s
          · exact absurd s q
          · exact br_f q ⟨vi, br_t s (nm_r (nI_1 e) (iy post m (by omega) hp))⟩
    · have q : ¬ xsj (nI e).toNatClampNeg < a := fun z => st (Or.inl z)
      have s : ¬ b < xsj (nI e).toNatClampNeg := fun z => st (Or.inr z)
      refine ⟨nI e, Or.inr ⟨e, by omega, by omega, rfl⟩, ?_, ?_⟩
      · intro post m hm hp
        obtain ⟨m, rfl⟩ : ∃ k, m = k + 1 := ⟨m - 1, by omega⟩
        exact br_f (nI_ge (by omega) (by omega)) ⟨vi, br_f q ⟨vi, br_f s hp⟩⟩
      · intro post m hm hp
        obtain ⟨m, rfl⟩ : ∃ k, m = k + 1 := ⟨m - 1, by omega⟩
        exact br_f (nI_ge (by omega) (by omega)) ⟨vi, br_f q ⟨vi, br_f s hp⟩⟩
end
