def bt (x : Int32) (i : Nat) : Bool := x.toBitVec.getLsbD i
theorem b_or (x y : Int32) (i : Nat) : bt (x ||| y) i = (bt x i || bt y i) := by unfold bt; rw [Int32.toBitVec_or, BitVec.getLsbD_or]
theorem b_and (x y : Int32) (i : Nat) : bt (x &&& y) i = (bt x i && bt y i) := by unfold bt; rw [Int32.toBitVec_and, BitVec.getLsbD_and]
theorem b_0 (i : Nat) : bt 0 i = false := BitVec.getLsbD_zero
theorem s_l : ∀ n, n < 32 → ((nI n &&& 31).toBitVec.smod 32).toNat = n := by decide +kernel
theorem s_u : ∀ n, n < 32 → (((nI n).toUInt32 &&& Int32.toUInt32 31).toBitVec % 32).toNat = n := by decide +kernel
theorem b_shl (n : Nat) (hn : n < 32) (x : Int32) {i : Nat} (hi : i < 32) : bt (x <<< (nI n &&& 31)) i = (decide (n ≤ i) && bt x (i - n)) := by
  unfold bt
  rw [Int32.toBitVec_shiftLeft]
  show (x.toBitVec <<< ((nI n &&& 31).toBitVec.smod 32).toNat).getLsbD i = _
  rw [s_l n hn, BitVec.getLsbD_shiftLeft]
  rcases Nat.lt_or_ge i n with h | h
  · simp [h, Nat.not_le.mpr h]
  · simp [hi, h, Nat.not_lt.mpr h]
theorem b_ushr (n : Nat) (hn : n < 32) (x : Int32) (i : Nat) : bt ((x.toUInt32 >>> ((nI n).toUInt32 &&& Int32.toUInt32 31)).toInt32) i = bt x (n + i) := by
  show (x.toUInt32 >>> ((nI n).toUInt32 &&& Int32.toUInt32 31)).toBitVec.getLsbD i = x.toUInt32.toBitVec.getLsbD (n + i)
  rw [UInt32.toBitVec_shiftRight]
  show (x.toUInt32.toBitVec >>> (((nI n).toUInt32 &&& Int32.toUInt32 31).toBitVec % 32).toNat).getLsbD i = _
  rw [s_u n hn, BitVec.getLsbD_ushiftRight]
theorem wb_tb (n : Nat) : (lN n).toBitVec = BitVec.ofNat 64 n := rfl
theorem wb_inj {a b : Int64} (h : a.toBitVec = b.toBitVec) : a = b := Int64.toBitVec_inj.mp h
theorem wb_tn {n : Nat} (h : n < 2 ^ 64) : (lN n).toBitVec.toNat = n := by rw [wb_tb, BitVec.toNat_ofNat, Nat.mod_eq_of_lt h]
theorem wb_c : ∀ k, k < 64 → ((nI k).toInt64 &&& 63) = lN k := by decide +kernel
theorem wb_cu : ∀ k, k < 64 → ((nI k).toInt64.toUInt64 &&& Int64.toUInt64 63) = UInt64.ofNat k := by decide +kernel
theorem wb_sm : ∀ k, k < 64 → (BitVec.ofNat 64 k).smod 64 = BitVec.ofNat 64 k := by decide +kernel
theorem wb_lt2 {a b : Nat} (h : a < b) : 2 ^ a < 2 ^ b := Nat.pow_lt_pow_right (by decide) h
theorem wb_shr {n k : Nat} (hn : n < 2 ^ 64) (hk : k < 64) : ((lN n).toUInt64 >>> ((nI k).toInt64.toUInt64 &&& Int64.toUInt64 63)).toInt64 = lN (n / 2 ^ k) := by
  rw [wb_cu k hk]
  apply wb_inj
  apply BitVec.eq_of_toNat_eq
  show ((lN n).toUInt64 >>> UInt64.ofNat k).toNat = (BitVec.ofNat 64 _).toNat
  have h1 : (UInt64.ofNat k).toNat = k := by
    show (BitVec.ofNat 64 k).toNat = k
    rw [BitVec.toNat_ofNat, Nat.mod_eq_of_lt (by omega)]
  have h2 : (lN n).toUInt64.toNat = n := wb_tn hn
  rw [UInt64.toNat_shiftRight, h1, h2, Nat.mod_eq_of_lt hk, Nat.shiftRight_eq_div_pow, BitVec.toNat_ofNat, Nat.mod_eq_of_lt (Nat.lt_of_le_of_lt (Nat.div_le_self _ _) hn)]
theorem wb_shl (n : Nat) {k : Nat} (hk : k < 64) : lN n <<< ((nI k).toInt64 &&& 63) = lN (n * 2 ^ k) := by
  rw [wb_c k hk]
  apply wb_inj
  rw [Int64.toBitVec_shiftLeft, wb_tb, wb_tb, wb_tb, wb_sm k hk]
  apply BitVec.eq_of_toNat_eq
  rw [BitVec.shiftLeft_eq', BitVec.toNat_shiftLeft, BitVec.toNat_ofNat, BitVec.toNat_ofNat, BitVec.toNat_ofNat, Nat.mod_eq_of_lt (show k < 2 ^ 64 by omega), Nat.shiftLeft_eq, Nat.mul_mod, Nat.mod_mod, ← Nat.mul_mod]
theorem wb_and {a b : Nat} (ha : a < 2 ^ 64) (hb : b < 2 ^ 64) : lN a &&& lN b = lN (a &&& b) := by
  apply wb_inj
  rw [Int64.toBitVec_and, wb_tb, wb_tb, wb_tb]
  apply BitVec.eq_of_toNat_eq
  rw [BitVec.toNat_and, BitVec.toNat_ofNat, BitVec.toNat_ofNat, BitVec.toNat_ofNat, Nat.mod_eq_of_lt ha, Nat.mod_eq_of_lt hb, Nat.mod_eq_of_lt (Nat.and_lt_two_pow _ hb)]
theorem wb_or {a b : Nat} (ha : a < 2 ^ 64) (hb : b < 2 ^ 64) : lN a ||| lN b = lN (a ||| b) := by
  apply wb_inj
  rw [Int64.toBitVec_or, wb_tb, wb_tb, wb_tb]
  apply BitVec.eq_of_toNat_eq
  rw [BitVec.toNat_or, BitVec.toNat_ofNat, BitVec.toNat_ofNat, BitVec.toNat_ofNat, Nat.mod_eq_of_lt ha, Nat.mod_eq_of_lt hb, Nat.mod_eq_of_lt (Nat.or_lt_two_pow ha hb)]
theorem wb_mask {n k : Nat} (hn : n < 2 ^ 64) (hk : k < 64) : lN n &&& lN (2 ^ k - 1) = lN (n % 2 ^ k) := by
  rw [wb_and hn (by have := wb_lt2 hk; omega), Nat.and_two_pow_sub_one_eq_mod]
theorem u_tn {n : Nat} (h : n < 2 ^ 64) : (UInt64.ofNat n).toNat = n := Nat.mod_eq_of_lt h
theorem g_or {k p a b : Nat} (hp : 2 ^ k = p) (ha : a < p) (h : b * p + a < 2 ^ 64) : lN (b * p) ||| lN a = lN (b * p + a) := by
  subst hp
  have h1 : b * 2 ^ k ||| a = b * 2 ^ k + a := by rw [← Nat.shiftLeft_eq, Nat.shiftLeft_add_eq_or_of_lt ha]
  have h3 : UInt64.ofNat (b * 2 ^ k) ||| UInt64.ofNat a = UInt64.ofNat (b * 2 ^ k + a) := UInt64.toNat_inj.mp (by rw [UInt64.toNat_or, u_tn (by omega), u_tn (by omega), u_tn h, h1])
  have h2 := congrArg UInt64.toInt64 h3
  exact h2
theorem g_or' {k p a b : Nat} (hp : 2 ^ k = p) (ha : a < p) (h : a + b * p < 2 ^ 64) : lN a ||| lN (b * p) = lN (a + b * p) := by
  rw [Int64.or_comm, g_or hp ha (by omega), Nat.add_comm]
theorem sp_bit {x : Int32} {w : Nat} (hw : w < 32) (h : bt x w = true) : ¬ (((x.toUInt32 >>> ((nI w).toUInt32 &&& Int32.toUInt32 31)).toInt32) &&& 1) = 0 := by
  intro z
  have e : bt (((x.toUInt32 >>> ((nI w).toUInt32 &&& Int32.toUInt32 31)).toInt32) &&& 1) 0 = bt 0 0 := by rw [z]
  rw [b_and, b_ushr w hw, Nat.add_zero, h, b_0] at e
  exact absurd e (by decide)
theorem sp_or1 {x y : Int32} {w : Nat} (h : bt x w = true) : bt (x ||| y) w = true := by rw [b_or, h]; rfl
theorem sp_or2 {x y : Int32} {w : Nat} (h : bt y w = true) : bt (x ||| y) w = true := by rw [b_or, h, Bool.or_true]
theorem sp_one {a : Nat} (ha : a < 32) : bt ((1 : Int32) <<< (nI a &&& 31)) a = true := by
  rw [b_shl a ha _ ha, Nat.sub_self, decide_eq_true (Nat.le_refl a)]
  decide
/-- fields of b bits -/
def sp_S (b : Nat) (c : Nat → Nat) : Nat → Nat
  | 0 => 0
  | k + 1 => sp_S b c k + c k * 2 ^ (b * k)
theorem sp_S_lt {b : Nat} {c : Nat → Nat} : ∀ k, (∀ i, i < k → c i < 2 ^ b) → sp_S b c k < 2 ^ (b * k) := by
  intro k
  induction k with
  | zero => intro _; exact Nat.pow_pos (by decide)
  | succ k ih =>
    intro h
    have a := ih (fun i hi => h i (by omega))
    have m : (c k + 1) * 2 ^ (b * k) ≤ 2 ^ b * 2 ^ (b * k) := Nat.mul_le_mul_right _ (h k (by omega))
    rw [Nat.add_mul, Nat.one_mul] at m
    have e : 2 ^ (b * (k + 1)) = 2 ^ b * 2 ^ (b * k) := by rw [← Nat.pow_add, Nat.mul_succ, Nat.add_comm]
    rw [e]
    show sp_S b c k + c k * 2 ^ (b * k) < _
    omega
theorem sp_S_get {b : Nat} {c : Nat → Nat} : ∀ k i, i < k → (∀ j, j < k → c j < 2 ^ b) → sp_S b c k / 2 ^ (b * i) % 2 ^ b = c i := by
  intro k
  induction k with
  | zero => intro i hi; omega
  | succ k ih =>
    intro i hi h
    have pos : 0 < 2 ^ (b * i) := Nat.pow_pos (by decide)
    show (sp_S b c k + c k * 2 ^ (b * k)) / 2 ^ (b * i) % 2 ^ b = c i
    by_cases q : i = k
    · subst q
      rw [Nat.add_mul_div_right _ _ pos, Nat.div_eq_of_lt (sp_S_lt i (fun j hj => h j (by omega))), Nat.zero_add, Nat.mod_eq_of_lt (h i (by omega))]
    · obtain ⟨r, hr⟩ : ∃ r, k = i + 1 + r := ⟨k - i - 1, by omega⟩
      have e : 2 ^ (b * k) = 2 ^ b * 2 ^ (b * r) * 2 ^ (b * i) := by
        rw [← Nat.pow_add, ← Nat.pow_add]
        congr 1
        rw [hr, Nat.mul_add, Nat.mul_add, Nat.mul_one]
        omega
      have e2 : c k * 2 ^ (b * k) = (c k * 2 ^ (b * r) * 2 ^ b) * 2 ^ (b * i) := by
        rw [e]
        simp only [Nat.mul_assoc, Nat.mul_left_comm, Nat.mul_comm]
      rw [e2, Nat.add_mul_div_right _ _ pos, Nat.add_mul_mod_self_right]
      exact ih i (by omega) (fun j hj => h j (by omega))
theorem sp_pack {b k v : Nat} {c : Nat → Nat} {s : Int32} (hs : s = nI (b * k)) (h : ∀ i, i < k + 1 → c i < 2 ^ b) (hb : b * (k + 1) < 64) (e : v = c k) :
    lN (sp_S b c k) ||| (lN v <<< (s.toInt64 &&& 63)) = lN (sp_S b c (k + 1)) := by
  subst hs e
  have l : b * k < 64 := by rw [Nat.mul_succ] at hb; omega
  have t := sp_S_lt (k + 1) h
  have t2 : 2 ^ (b * (k + 1)) < 2 ^ 64 := wb_lt2 hb
  rw [wb_shl _ l]
  exact g_or' (k := b * k) rfl (sp_S_lt k (fun i hi => h i (by omega))) (Nat.lt_trans t t2)
theorem sp_take {b k i : Nat} {c : Nat → Nat} {s : Int32} {m : Int64} (hs : s = nI (b * i)) (hm : m = lN (2 ^ b - 1)) (hi : i < k) (h : ∀ j, j < k → c j < 2 ^ b) (hb : b * k < 64) (b64 : b < 64) :
    (((lN (sp_S b c k)).toUInt64 >>> (s.toInt64.toUInt64 &&& Int64.toUInt64 63)).toInt64) &&& m = lN (c i) := by
  subst hs hm
  have l : b * i < 64 := Nat.lt_of_le_of_lt (Nat.mul_le_mul_left b (by omega)) hb
  have t : sp_S b c k < 2 ^ 64 := Nat.lt_trans (sp_S_lt k h) (wb_lt2 hb)
  rw [wb_shr t l, wb_mask (Nat.lt_of_le_of_lt (Nat.div_le_self _ _) t) b64, sp_S_get k i hi h]
theorem sp_lpb {q i a : Nat} (z : q ≤ 3) (ha : a < 2 ^ (4 + 2 * i)) : a ||| q * 2 ^ (4 + 2 * i) < 2 ^ (4 + 2 * (i + 1)) := by
  have e : 2 ^ (4 + 2 * (i + 1)) = 4 * 2 ^ (4 + 2 * i) := by
    rw [show 4 + 2 * (i + 1) = 2 + (4 + 2 * i) by omega, Nat.pow_add]
  have m : q * 2 ^ (4 + 2 * i) ≤ 3 * 2 ^ (4 + 2 * i) := Nat.mul_le_mul_right _ z
  exact Nat.or_lt_two_pow (by omega) (by omega)
theorem sp_42 (i : Nat) : (4 : Int32) + 2 * nI i = nI (4 + 2 * i) := by
  have e : (2 : Int32) * nI i = nI (2 * i) := pk_mul 2 i
  rw [e]
  exact nI_add 4 (2 * i)
theorem sp_lpo {q i a : Nat} {s : Int32} (z : q ≤ 3) (hi : i < 8) (ha : a < 2 ^ (4 + 2 * i)) (hs : s = nI (4 + 2 * i)) : lN a ||| ((nI q).toInt64 <<< (s.toInt64 &&& 63)) = lN (a ||| q * 2 ^ (4 + 2 * i)) := by
  subst hs
  have p : 2 ^ (4 + 2 * i) ≤ 2 ^ 18 := Nat.pow_le_pow_right (by decide) (by omega)
  have m : q * 2 ^ (4 + 2 * i) ≤ 3 * 2 ^ (4 + 2 * i) := Nat.mul_le_mul_right _ z
  rw [nI_l (by omega), wb_shl q (by omega), wb_or (by omega) (by omega)]
/-- the code of a text: what the law's loop makes of the characters from i on -/
def sp_lp (f : Nat → Nat) : Nat → Nat → Nat → Nat
  | 0, _, a => a
  | d + 1, i, a => if f i ≤ 3 then sp_lp f d (i + 1) (a ||| f i * 2 ^ (4 + 2 * i)) else 2 ^ 20
theorem sp_lp_lt {f : Nat → Nat} : ∀ d i a, i + d ≤ 8 → a < 2 ^ (4 + 2 * i) → sp_lp f d i a < 2 ^ 21 := by
  intro d
  induction d with
  | zero =>
    intro i a h ha
    exact Nat.lt_of_lt_of_le ha (Nat.pow_le_pow_right (by decide) (by omega))
  | succ d ih =>
    intro i a h ha
    unfold sp_lp
    by_cases q : f i ≤ 3
    · rw [if_pos q]
      refine ih (i + 1) _ (by omega) ?_
      have e : 2 ^ (4 + 2 * (i + 1)) = 4 * 2 ^ (4 + 2 * i) := by
        rw [show 4 + 2 * (i + 1) = 2 + (4 + 2 * i) by omega, Nat.pow_add]
      have m : f i * 2 ^ (4 + 2 * i) ≤ 3 * 2 ^ (4 + 2 * i) := Nat.mul_le_mul_right _ q
      exact Nat.or_lt_two_pow (by omega) (by omega)
    · rw [if_neg q]
      decide
theorem sp_lp_c {f g : Nat → Nat} : ∀ d i a, (∀ j, i ≤ j → j < i + d → f j = g j) → sp_lp f d i a = sp_lp g d i a := by
  intro d
  induction d with
  | zero => intro i a h; rfl
  | succ d ih =>
    intro i a h
    unfold sp_lp
    rw [h i (by omega) (by omega), ih (i + 1) _ (fun j h1 h2 => h j (by omega) (by omega))]
def sp_fn (xtx : Nat → Int32) (w i : Nat) : Nat := (xtx (w * 16 + i)).toNatClampNeg
def sp_code (xtl xtx : Nat → Int32) (w : Nat) : Nat := if (xtl w).toNatClampNeg ≤ 8 then sp_lp (sp_fn xtx w) (xtl w).toNatClampNeg 0 (xtl w).toNatClampNeg else 2 ^ 20
theorem sp_code_lt (xtl xtx : Nat → Int32) (w : Nat) : sp_code xtl xtx w < 2 ^ 21 := by
  unfold sp_code
  by_cases q : (xtl w).toNatClampNeg ≤ 8
  · rw [if_pos q]
    exact sp_lp_lt _ _ _ (by omega) (by omega)
  · rw [if_neg q]; decide
theorem sp_code_c {xtl xtx xtl' xtx' : Nat → Int32} {w : Nat} (h1 : xtl' w = xtl w) (h2 : ∀ i, i < 16 → xtx' (w * 16 + i) = xtx (w * 16 + i)) : sp_code xtl' xtx' w = sp_code xtl xtx w := by
  unfold sp_code
  rw [h1]
  by_cases q : (xtl w).toNatClampNeg ≤ 8
  · rw [if_pos q, if_pos q]
    refine sp_lp_c _ _ _ (fun j _ hj => ?_)
    unfold sp_fn
    rw [h2 j (by omega)]
  · rw [if_neg q, if_neg q]
def sp_c5 (x : Int32) : Int64 := if x < -1 then 31 else if 29 < x then 31 else (x + 1).toInt64
theorem sx_c5 {post : Int64 → Prop} {x : Int32} (h : post (sp_c5 x)) : wpL_cur5 post () x := by
  unfold sp_c5 at h
  by_cases a : x < -1
  · rw [if_pos a] at h; exact br_t a h
  · rw [if_neg a] at h
    by_cases b : 29 < x
    · rw [if_pos b] at h; exact br_f a (br_t b h)
    · rw [if_neg b] at h; exact br_f a (br_f b h)
theorem sp_m1of {x : Int32} (a : ¬ x < -1) : x = -1 ∨ ∃ j, j < 2 ^ 31 ∧ x = nI j := by
  by_cases b : x < 0
  · refine Or.inl (Int32.toInt_inj.mp ?_)
    rw [Int32.lt_iff_toInt_lt, sm_m1] at a
    rw [Int32.lt_iff_toInt_lt, sm_z0] at b
    rw [sm_m1]
    omega
  · exact Or.inr (nI_of b)
theorem sp_c5v (x : Int32) : ∃ m, m < 2 ^ 5 ∧ sp_c5 x = lN m := by
  unfold sp_c5
  by_cases a : x < -1
  · rw [if_pos a]; exact ⟨31, by decide, rfl⟩
  · rw [if_neg a]
    by_cases b : 29 < x
    · rw [if_pos b]; exact ⟨31, by decide, rfl⟩
    · rw [if_neg b]
      rcases sp_m1of a with rfl | ⟨j, hj, rfl⟩
      · exact ⟨0, by decide, by decide⟩
      · have j29 : j ≤ 29 := by
          rcases Nat.lt_or_ge 29 j with z | z
          · exact absurd (nI_lt (a := 29) z hj) b
          · exact z
        exact ⟨j + 1, by omega, by rw [nI_1, nI_l (by omega)]⟩
def sp_u (xcr : Nat → Int32) (w : Nat) : Nat := (sp_c5 (xcr w)).toBitVec.toNat
theorem sp_u_ok (xcr : Nat → Int32) (w : Nat) : sp_u xcr w < 2 ^ 5 ∧ sp_c5 (xcr w) = lN (sp_u xcr w) := by
  obtain ⟨m, hm, e⟩ := sp_c5v (xcr w)
  unfold sp_u
  rw [e, wb_tn (by omega)]
  exact ⟨hm, rfl⟩
