theorem pk_charN {q : Nat} (hq : q < 65536) : narrow .char (.int (nI q)) = .int (nI q) ∧ fits .char (.int (nI q)) = true := by
  constructor
  · have e : (nI q).toUInt32.toUInt16.toUInt32.toInt32 = nI q := by
      apply Int32.toBitVec_inj.mp
      apply BitVec.eq_of_toNat_eq
      show (nI q).toUInt32.toUInt16.toUInt32.toNat = q % 2 ^ 32
      rw [UInt16.toNat_toUInt32, UInt32.toNat_toUInt16, show (nI q).toUInt32.toNat = q % 2 ^ 32 from rfl]
      omega
    exact congrArg Value.int e
  · have a : (0 : Int32) ≤ nI q := nI_pos' (by omega)
    have b : nI q ≤ 65535 := nI_le (b := 65535) (by omega) (by decide)
    show (decide ((0 : Int32) ≤ nI q) && decide (nI q ≤ 65535)) = true
    rw [decide_eq_true a, decide_eq_true b]
    rfl
theorem sm_16 : (16 : Int32) = nI 16 := rfl
theorem sm_5 : (5 : Int32) = nI 5 := rfl
theorem pk_sub {a b : Nat} (h : b ≤ a) : nI a - nI b = nI (a - b) := by
  have e : nI a = nI (a - b) + nI b := by rw [nI_add]; congr 1; omega
  rw [e]
  grind
theorem pk_mul (a b : Nat) : nI a * nI b = nI (a * b) := by
  unfold nI
  rw [Int32.ofNat_mul]
theorem sm_ix5 (a f : Nat) : nI a * 5 + nI f = nI (5 * a + f) := by
  rw [sm_5, pk_mul, nI_add, Nat.mul_comm]
theorem sm_cl {a : Nat} (h : a < 2 ^ 31) : (nI a).toNatClampNeg = a := nI_clamp h

/-- the text of v after j characters of the subject from a on -/
def sm_put (sj tx : Nat → Int32) (v a : Nat) : Nat → Nat → Int32
  | 0 => tx
  | j + 1 => upd (sm_put sj tx v a j) (v * 16 + j) (vp_nar .char (sj (a + j)))
section
variable {xms xsl xdl xnc xsd xn xlr xls xle xst xnw xtc xtu xtn xcu xtd xtt xsr : Int32} {xno xsk xrt xsj xtx xtl xcr eN eC eD eT eH eR tE tN : Nat → Int32}
variable {yms ysl ydl ync ysp yn ylr yls yle yfc yst ycf yev yfr ydo : Int32} {nK nA nB nL nR ysk yrt ysj ytx ytl ycr fN fC fD fS fA fB fO fP fL fM tS tG : Nat → Int32}
theorem sx_text {post : SX → Prop} {v a b : Nat} (hv : v ≤ 7) (hb : b ≤ 16) :
    ∀ d j n, a + j + d = b → d < n →
    post (xms, xsl, xdl, xnc, xsd, xn, xlr, xls, xle, xst, xnw, xtc, xtu, xtn, xcu, xtd, xtt, xsr, xno, xsk, xrt, xsj, sm_put xsj xtx v a (b - a), upd xtl v (nI (b - a)), xcr, eN, eC, eD, eT, eH, eR, tE, tN) →
    wX_setText_3 post (nI v) (nI a) (nI b) xms xsl xdl xnc xsd xn xlr xls xle xst xnw xtc xtu xtn xcu xtd xtt xsr n (nI (a + j)) xno xsk xrt xsj (sm_put xsj xtx v a j) xtl xcr eN eC eD eT eH eR tE tN := by
  intro d
  induction d with
  | zero =>
    intro j n h hn hp
    obtain ⟨n, rfl⟩ : ∃ m, n = m + 1 := ⟨n - 1, by omega⟩
    have e : b - a = j := by omega
    rw [e] at hp
    refine br_t (nI_le (by omega) (by omega)) ⟨vp_in_nI (by omega) (by omega), nm_r ?_ hp⟩
    rw [pk_sub (by omega), sm_cl (by omega), e]
  | succ d ih =>
    intro j n h hn hp
    obtain ⟨n, rfl⟩ : ∃ m, n = m + 1 := ⟨n - 1, by omega⟩
    have ei : nI v * 16 + nI (a + j) - nI a = nI (v * 16 + j) := by
      rw [sm_16, pk_mul, nI_add, pk_sub (by omega)]
      congr 1
      omega
    refine br_f (nI_ge (by omega) (by omega)) ⟨vp_in_nI (by omega) (by omega), ?_, nm_r ?_ (nm_r (nI_1 _) (ih (j + 1) n (by omega) (by omega) hp))⟩
    · rw [ei]; exact vp_in_nI (by omega) (by omega)
    · rw [ei, sm_cl (by omega), sm_cl (by omega)]
      rfl
theorem sx_setText {post : SX → Prop} {v a b : Nat} (hv : v ≤ 7) (ha : a ≤ b) (hb : b ≤ 16)
    (hp : post (xms, xsl, xdl, xnc, xsd, xn, xlr, xls, xle, xst, xnw, xtc, xtu, xtn, xcu, xtd, xtt, xsr, xno, xsk, xrt, xsj, sm_put xsj xtx v a (b - a), upd xtl v (nI (b - a)), xcr, eN, eC, eD, eT, eH, eR, tE, tN)) :
    wpX_setText post (xms, xsl, xdl, xnc, xsd, xn, xlr, xls, xle, xst, xnw, xtc, xtu, xtn, xcu, xtd, xtt, xsr, xno, xsk, xrt, xsj, xtx, xtl, xcr, eN, eC, eD, eT, eH, eR, tE, tN) (nI v) (nI a) (nI b) :=
  ⟨b - a + 1, sx_text hv hb (b - a) 0 (b - a + 1) (by omega) (by omega) hp⟩
theorem sy_text {post : SY → Prop} {v a b : Nat} (hv : v ≤ 7) (ha : a ≤ b) (hb : b ≤ 16) :
    ∀ d j n, a + j + d = b → d < n →
    post (yms, ysl, ydl, ync, ysp, yn, ylr, yls, yle, yfc, yst, ycf, yev, yfr, ydo, nK, nA, nB, nL, nR, ysk, yrt, ysj, sm_put ysj ytx v a (b - a), upd ytl v (nI (b - a)), ycr, fN, fC, fD, fS, fA, fB, fO, fP, fL, fM, tS, tG) →
    wY_setVar_36 post (nI v) (nI a) (nI (b - a)) yms ysl ydl ync ysp yn ylr yls yle yfc yst ycf yev yfr ydo n (nI j) nK nA nB nL nR ysk yrt ysj (sm_put ysj ytx v a j) ytl ycr fN fC fD fS fA fB fO fP fL fM tS tG := by
  intro d
  induction d with
  | zero =>
    intro j n h hn hp
    obtain ⟨n, rfl⟩ : ∃ m, n = m + 1 := ⟨n - 1, by omega⟩
    have e : b - a = j := by omega
    rw [e] at hp ⊢
    refine br_t (nI_le (by omega) (by omega)) ⟨vp_in_nI (by omega) (by omega), nm_r ?_ hp⟩
    rw [sm_cl (by omega)]
  | succ d ih =>
    intro j n h hn hp
    obtain ⟨n, rfl⟩ : ∃ m, n = m + 1 := ⟨n - 1, by omega⟩
    have ei : nI v * 16 + nI j = nI (v * 16 + j) := by
      rw [sm_16, pk_mul, nI_add]
    refine br_f (nI_ge (by omega) (by omega)) (br_f (nI_ge (b := 16) (by omega) (by omega)) ⟨?_, ?_, nm_r ?_ (nm_r (nI_1 _) (ih (j + 1) n (by omega) (by omega) hp))⟩)
    · rw [nI_add]; exact vp_in_nI (by omega) (by omega)
    · rw [ei]; exact vp_in_nI (by omega) (by omega)
    · rw [ei, nI_add, sm_cl (by omega), sm_cl (by omega)]
      rfl
theorem sy_setVar {post : SY → Prop} {v a b n : Nat} (hv : v ≤ 7) (ha : a ≤ b) (hb : b ≤ n) (hn : n ≤ 16)
    (hp : post (yms, ysl, ydl, ync, ysp, nI n, ylr, yls, yle, yfc, yst, ycf, yev, yfr, ydo, nK, nA, nB, nL, nR, ysk, yrt, ysj, sm_put ysj ytx v a (b - a), upd ytl v (nI (b - a)), ycr, fN, fC, fD, fS, fA, fB, fO, fP, fL, fM, tS, tG)) :
    wpY_setVar post (yms, ysl, ydl, ync, ysp, nI n, ylr, yls, yle, yfc, yst, ycf, yev, yfr, ydo, nK, nA, nB, nL, nR, ysk, yrt, ysj, ytx, ytl, ycr, fN, fC, fD, fS, fA, fB, fO, fP, fL, fM, tS, tG) (nI v) (nI a) (nI b) := by
  refine br_f (nI_pos (by omega)) (br_f (nI_nlt (a := 7) (b := v) ?_ ?_) (br_f (nI_pos (by omega)) (br_f (nI_nlt (by omega) (by omega)) (br_t (nI_le (by omega) (by omega)) (nm_r (pk_sub ha) ⟨b - a + 1, ?_⟩)))))
  · omega
  · omega
  · exact sy_text hv ha (by omega) (b - a) 0 (b - a + 1) (by omega) (by omega) hp
end
