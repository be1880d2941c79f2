section
theorem pk_us {f : Nat → Int32} {k : Nat} {x : Int32} : upd f k x k = x := by unfold upd; rw [if_pos rfl]
theorem pk_un {f : Nat → Int32} {k j : Nat} {x : Int32} (h : j ≠ k) : upd f k x j = f j := by unfold upd; rw [if_neg h]
/-- pointers: the code 0 is none, the code c + 1 is c -/
def sm_p (c : Nat) : Int32 := if c = 0 then -1 else nI (c - 1)
theorem sm_p0 : sm_p 0 = -1 := rfl
theorem sm_ps (c : Nat) : sm_p (c + 1) = nI c := by unfold sm_p; rw [if_neg (by omega)]; rfl
theorem sm_p1 {c : Nat} (h : 1 ≤ c) : sm_p c = nI (c - 1) := by unfold sm_p; rw [if_neg (by omega)]
theorem sm_z0 : (0 : Int32).toInt = 0 := by decide
theorem sm_m1 : (-1 : Int32).toInt = -1 := by decide
theorem sm_toInt {c : Nat} (h : c < 2 ^ 31) : (sm_p c).toInt = (c : Int) - 1 := by
  unfold sm_p
  by_cases q : c = 0
  · rw [if_pos q, sm_m1, q]; rfl
  · rw [if_neg q, nI_toInt (by omega)]; omega
theorem sm_peq {a b : Nat} (ha : a < 2 ^ 31) (hb : b < 2 ^ 31) : sm_p a = sm_p b ↔ a = b := by
  rw [← Int32.toInt_inj, sm_toInt ha, sm_toInt hb]; omega
theorem sm_plt {c : Nat} (h : c < 2 ^ 31) : sm_p c < 0 ↔ c = 0 := by
  rw [Int32.lt_iff_toInt_lt, sm_toInt h, sm_z0]
  omega
theorem sm_peq1 {c : Nat} (h : c < 2 ^ 31) : sm_p c = -1 ↔ c = 0 := by
  rw [← sm_p0, sm_peq h (by omega)]
def sm_en (K : Nat) (A : Nat → Int32) (g : Nat → Nat) : Prop := ∀ i, i < K → A i = nI (g (i + 1))
def sm_ep (K : Nat) (A : Nat → Int32) (g : Nat → Nat) : Prop := ∀ i, i < K → A i = sm_p (g (i + 1))
theorem sm_en_g {K f : Nat} {A : Nat → Int32} {g : Nat → Nat} (h : sm_en K A g) (h1 : 1 ≤ f) (h2 : f ≤ K) : A (f - 1) = nI (g f) := by
  have := h (f - 1) (by omega)
  rw [this]
  congr 2
  omega
theorem sm_ep_g {K f : Nat} {A : Nat → Int32} {g : Nat → Nat} (h : sm_ep K A g) (h1 : 1 ≤ f) (h2 : f ≤ K) : A (f - 1) = sm_p (g f) := by
  have := h (f - 1) (by omega)
  rw [this]
  congr 2
  omega
/-- one cell changes -/
theorem sm_en_u {K f : Nat} {A : Nat → Int32} {g g' : Nat → Nat} (h : sm_en K A g) (h1 : 1 ≤ f) (e : ∀ j, j ≠ f → g' j = g j) {v : Int32} (hv : v = nI (g' f)) : sm_en K (upd A (f - 1) v) g' := by
  intro i hi
  by_cases q : i = f - 1
  · rw [q, pk_us, hv]
    congr 2
    omega
  · rw [pk_un q, h i hi, e (i + 1) (by omega)]
theorem sm_ep_u {K f : Nat} {A : Nat → Int32} {g g' : Nat → Nat} (h : sm_ep K A g) (h1 : 1 ≤ f) (e : ∀ j, j ≠ f → g' j = g j) {v : Int32} (hv : v = sm_p (g' f)) : sm_ep K (upd A (f - 1) v) g' := by
  intro i hi
  by_cases q : i = f - 1
  · rw [q, pk_us, hv]
    congr 2
    omega
  · rw [pk_un q, h i hi, e (i + 1) (by omega)]
theorem sm_en_c {K : Nat} {A : Nat → Int32} {g g' : Nat → Nat} (h : sm_en K A g) (e : ∀ j, 1 ≤ j → j ≤ K → g' j = g j) : sm_en K A g' := by
  intro i hi
  rw [h i hi, e (i + 1) (by omega) (by omega)]
theorem sm_ep_c {K : Nat} {A : Nat → Int32} {g g' : Nat → Nat} (h : sm_ep K A g) (e : ∀ j, 1 ≤ j → j ≤ K → g' j = g j) : sm_ep K A g' := by
  intro i hi
  rw [h i hi, e (i + 1) (by omega) (by omega)]
/-- one cell more -/
theorem sm_en_n {K : Nat} {A : Nat → Int32} {g g' : Nat → Nat} (h : sm_en K A g) (e : ∀ j, 1 ≤ j → j ≤ K → g' j = g j) {v : Int32} (hv : v = nI (g' (K + 1))) : sm_en (K + 1) (upd A K v) g' := by
  intro i hi
  by_cases q : i = K
  · rw [q, pk_us, hv]
  · rw [pk_un q, h i (by omega), e (i + 1) (by omega) (by omega)]
theorem sm_ep_n {K : Nat} {A : Nat → Int32} {g g' : Nat → Nat} (h : sm_ep K A g) (e : ∀ j, 1 ≤ j → j ≤ K → g' j = g j) {v : Int32} (hv : v = sm_p (g' (K + 1))) : sm_ep (K + 1) (upd A K v) g' := by
  intro i hi
  by_cases q : i = K
  · rw [q, pk_us, hv]
  · rw [pk_un q, h i (by omega), e (i + 1) (by omega) (by omega)]
end
section
/-- the slot 0 child f of p -/
def sm_s0 (G : Nat → Nat → Nat) (f p : Nat) : Prop :=
  G 5 f = 0 ∧ G 10 p = f ∧ G 8 f = G 8 p ∧ G 2 f = G 2 p ∧
  (((G 1 p = 12 ∨ G 1 p = 18) ∧ G 6 f = G 6 p) ∨ (G 1 p ≠ 12 ∧ G 1 p ≠ 18 ∧ G 6 f = p)) ∧
  ((G 1 p = 18 ∧ G 9 p = 0 ∧ G 7 f = p) ∨ ((G 1 p ≠ 18 ∨ G 9 p ≠ 0) ∧ G 7 f = G 7 p))
/-- the slot 1 child f of p -/
def sm_s1 (G : Nat → Nat → Nat) (f p : Nat) : Prop :=
  G 5 f = 1 ∧ (G 1 p = 13 ∨ G 1 p = 17) ∧ G 11 p = f ∧
  G 15 (G 10 p) = 1 ∧ G 16 (G 10 p) = 1 ∧ G 17 (G 10 p) = f ∧ G 5 (G 10 p) = 0 ∧ G 4 (G 10 p) = p ∧ 1 ≤ G 10 p ∧
  G 8 f = G 19 (G 10 p) ∧ G 2 f = G 12 (G 10 p) ∧ G 6 f = G 6 p ∧ G 7 f = G 18 (G 10 p)
def sm_lp (G : Nat → Nat → Nat) (f p : Nat) : Prop :=
  p < f ∧ G 15 p = 1 ∧ 12 ≤ G 1 p ∧ G 20 f = G 20 p + 1 ∧ (G 16 p = 1 → G 16 f = 1) ∧
  ((G 1 p = 13 → G 9 p = 2) ∧ (G 1 p = 18 → G 9 p ≤ 1)) ∧ (sm_s0 G f p ∨ sm_s1 G f p)
/-- a frozen frame without children -/
def sm_f0 (G : Nat → Nat → Nat) (f : Nat) : Prop :=
  (G 1 f ≤ 11 ∨ (G 1 f = 13 ∧ G 9 f = 1)) ∧ G 13 f = 0 ∧ G 14 f = 0 ∧ G 19 f = G 8 f ∧
  (((G 1 f = 10 ∨ G 1 f = 13) ∧ G 18 f = f) ∨ (G 1 f ≠ 10 ∧ G 1 f ≠ 13 ∧ G 18 f = G 7 f)) ∧
  (G 1 f = 10 → G 9 f = G 12 f)
def sm_ck (G : Nat → Nat → Nat) (f c : Nat) : Prop :=
  1 ≤ c ∧ G 15 c = 1 ∧ G 16 c = 1 ∧ G 4 c = f ∧ G 17 c = G 17 f ∧ G 12 c = G 12 f
def sm_f1 (G : Nat → Nat → Nat) (f : Nat) : Prop :=
  (G 1 f = 12 ∨ G 1 f = 14 ∨ G 1 f = 15 ∨ G 1 f = 16 ∨ G 1 f = 18) ∧ sm_ck G f (G 10 f) ∧
  G 5 (G 10 f) = 0 ∧ G 13 f = G 10 f ∧ G 14 f = 0 ∧
  ((G 1 f = 16 ∧ G 19 f = G 19 (G 10 f) + 1) ∨ (G 1 f ≠ 16 ∧ G 19 f = G 19 (G 10 f))) ∧
  ((G 1 f = 14 ∧ G 18 f = G 7 f) ∨ (G 1 f ≠ 14 ∧ G 18 f = G 18 (G 10 f)))
def sm_f2 (G : Nat → Nat → Nat) (f : Nat) : Prop :=
  (G 1 f = 17 ∨ (G 1 f = 13 ∧ G 9 f = 2)) ∧ sm_ck G f (G 11 f) ∧
  G 5 (G 11 f) = 1 ∧ G 13 f = G 10 f ∧ G 14 f = G 11 f ∧ G 19 f = G 19 (G 11 f) ∧ G 18 f = G 18 (G 11 f)
def sm_fzn (K n : Nat) (G : Nat → Nat → Nat) (f : Nat) : Prop :=
  f < G 17 f ∧ G 17 f ≤ K + 1 ∧ G 19 f + f ≤ G 8 f + G 17 f ∧ G 2 f ≤ G 12 f ∧ G 12 f ≤ n ∧
  (sm_f0 G f ∨ sm_f1 G f ∨ sm_f2 G f)
def sm_i0 (G : Nat → Nat → Nat) : Prop :=
  G 15 0 = 1 ∧ G 16 0 ≠ 1 ∧ G 1 0 = 12 ∧ G 4 0 = 0 ∧ G 6 0 = 0 ∧ G 7 0 = 0 ∧ G 8 0 = 0 ∧ G 20 0 = 0
def sm_b (K n : Nat) (G : Nat → Nat → Nat) (f : Nat) : Prop :=
  f ≤ K ∧ G 8 f ≤ f - 1 ∧ G 2 f ≤ n ∧ G 20 f ≤ f ∧ G 1 f ≤ 18 ∧ (G 1 f ≠ 13 → G 1 f ≠ 17 → G 14 f = 0) ∧
  G 11 f ≤ K ∧ (G 11 f = 0 ∨ G 5 (G 11 f) = 1)
def sm_inv (K n : Nat) (G : Nat → Nat → Nat) : Prop :=
  sm_i0 G ∧ (∀ f, G 15 f = 1 → sm_b K n G f) ∧ (∀ f, 1 ≤ f → G 15 f = 1 → sm_lp G f (G 4 f)) ∧
  (∀ f, G 15 f = 1 → G 16 f = 1 → sm_fzn K n G f) ∧
  (∀ g h, G 15 g = 1 → G 15 h = 1 → g < h → g ≤ G 4 h ∨ (G 16 g = 1 ∧ G 17 g ≤ h)) ∧
  (∀ g h, G 15 g = 1 → G 16 g = 1 → G 15 h = 1 → G 17 g ≤ h → G 19 g ≤ G 8 h)
def sm_e0 (K : Nat) (G : Nat → Nat → Nat) : Prop :=
  1 ≤ K ∧ G 15 K = 1 ∧ G 16 K ≠ 1 ∧ G 13 K = 0 ∧ G 14 K = 0 ∧ G 9 K = 0
def sm_e1 (G : Nat → Nat → Nat) (x : Nat) : Prop :=
  1 ≤ x ∧ G 15 x = 1 ∧ G 16 x = 1 ∧ G 16 (G 4 x) ≠ 1 ∧ ∀ g, G 15 g = 1 → g < G 17 x
def sm_e2 (K : Nat) (G : Nat → Nat → Nat) (f : Nat) : Prop :=
  1 ≤ f ∧ G 15 f = 1 ∧ G 16 f = 1 ∧ G 17 f = K + 1 ∧ G 16 (G 4 f) ≠ 1 ∧
  (∀ g, G 15 g = 1 → G 16 g = 1 → G 19 g ≤ G 19 f) ∧ (∀ g, G 15 g = 1 → G 16 g ≠ 1 → g ≤ G 4 f)
def sm_e3 (K : Nat) (G : Nat → Nat → Nat) (f : Nat) : Prop :=
  1 ≤ f ∧ f ≤ K ∧ sm_lp G f (G 4 f) ∧ G 16 (G 4 f) ≠ 1 ∧ ∀ g, G 15 g = 1 → g < f

theorem sm_lp_c {G H : Nat → Nat → Nat} {f p : Nat} (L : sm_lp G f p)
    (hf : ∀ i, i ≤ 8 ∨ i = 20 → H i f = G i f) (hp : ∀ i, i ≤ 11 ∨ i = 20 → H i p = G i p)
    (lp : H 15 p = 1) (zz : H 16 p = 1 → H 16 f = 1)
    (ha : G 5 f = 1 → (∀ i, i ≤ 12 ∨ 17 ≤ i → H i (G 10 p) = G i (G 10 p)) ∧ H 15 (G 10 p) = 1 ∧ H 16 (G 10 p) = 1) :
    sm_lp H f p := by
  obtain ⟨h1, h2, h3, h4, h5, h6, h7⟩ := L
  have f2 := hf 2 (by omega)
  have f5 := hf 5 (by omega)
  have f6 := hf 6 (by omega)
  have f7 := hf 7 (by omega)
  have f8 := hf 8 (by omega)
  have f20 := hf 20 (by omega)
  have p1 := hp 1 (by omega)
  have p2 := hp 2 (by omega)
  have p6 := hp 6 (by omega)
  have p7 := hp 7 (by omega)
  have p8 := hp 8 (by omega)
  have p9 := hp 9 (by omega)
  have p10 := hp 10 (by omega)
  have p11 := hp 11 (by omega)
  have p20 := hp 20 (by omega)
  obtain ⟨h6a, h6b⟩ := h6
  refine ⟨h1, lp, by omega, by omega, zz, ⟨by omega, by omega⟩, ?_⟩
  rcases h7 with h7 | h7
  · left
    unfold sm_s0 at h7 ⊢
    rw [f2, f5, f6, f7, f8, p1, p2, p6, p7, p8, p9, p10]
    exact h7
  · right
    obtain ⟨a1, a2, a3, a4, a5, a6, a7, a8, a9, a10, a11, a12, a13⟩ := h7
    obtain ⟨q, ql, qz⟩ := ha a1
    have q4 := q 4 (by omega)
    have q5 := q 5 (by omega)
    have q12 := q 12 (by omega)
    have q17 := q 17 (by omega)
    have q18 := q 18 (by omega)
    have q19 := q 19 (by omega)
    unfold sm_s1
    rw [p10]
    refine ⟨by omega, by omega, by omega, ql, qz, by omega, by omega, by omega, a9, by omega, by omega, by omega, by omega⟩

theorem sm_fz_c {K K' n f : Nat} {G H : Nat → Nat → Nat} (F : sm_fzn K n G f) (hK : K ≤ K')
    (hf : ∀ i, i ≠ 15 → i ≠ 16 → H i f = G i f)
    (hc : ∀ c, sm_ck G f c → (∀ i, i ≠ 15 → i ≠ 16 → H i c = G i c) ∧ H 15 c = 1 ∧ H 16 c = 1) :
    sm_fzn K' n H f := by
  obtain ⟨h1, h2, h3, h4, h5, h6⟩ := F
  have f1 := hf 1 (by omega) (by omega)
  have f2 := hf 2 (by omega) (by omega)
  have f7 := hf 7 (by omega) (by omega)
  have f8 := hf 8 (by omega) (by omega)
  have f9 := hf 9 (by omega) (by omega)
  have f10 := hf 10 (by omega) (by omega)
  have f11 := hf 11 (by omega) (by omega)
  have f12 := hf 12 (by omega) (by omega)
  have f13 := hf 13 (by omega) (by omega)
  have f14 := hf 14 (by omega) (by omega)
  have f17 := hf 17 (by omega) (by omega)
  have f18 := hf 18 (by omega) (by omega)
  have f19 := hf 19 (by omega) (by omega)
  refine ⟨by omega, by omega, by omega, by omega, by omega, ?_⟩
  rcases h6 with h6 | h6 | h6
  · left
    unfold sm_f0 at h6 ⊢
    rw [f1, f7, f8, f9, f12, f13, f14, f18, f19]
    exact h6
  · right; left
    obtain ⟨a1, a2, a3, a4, a5, a6, a7⟩ := h6
    obtain ⟨q, ql, qz⟩ := hc _ a2
    obtain ⟨b1, b2, b3, b4, b5, b6⟩ := a2
    have q4 := q 4 (by omega) (by omega)
    have q5 := q 5 (by omega) (by omega)
    have q12 := q 12 (by omega) (by omega)
    have q17 := q 17 (by omega) (by omega)
    have q18 := q 18 (by omega) (by omega)
    have q19 := q 19 (by omega) (by omega)
    unfold sm_f1 sm_ck
    rw [f10]
    refine ⟨by omega, ⟨b1, ql, qz, by omega, by omega, by omega⟩, by omega, by omega, by omega, by omega, by omega⟩
  · right; right
    obtain ⟨a1, a2, a3, a4, a5, a6, a7⟩ := h6
    obtain ⟨q, ql, qz⟩ := hc _ a2
    obtain ⟨b1, b2, b3, b4, b5, b6⟩ := a2
    have q4 := q 4 (by omega) (by omega)
    have q5 := q 5 (by omega) (by omega)
    have q12 := q 12 (by omega) (by omega)
    have q17 := q 17 (by omega) (by omega)
    have q18 := q 18 (by omega) (by omega)
    have q19 := q 19 (by omega) (by omega)
    unfold sm_f2 sm_ck
    rw [f11]
    refine ⟨by omega, ⟨b1, ql, qz, by omega, by omega, by omega⟩, by omega, by omega, by omega, by omega, by omega⟩

/-- what stands frozen ahead of an unfrozen frame ended ahead of it -/
theorem sm_out {K n : Nat} {G : Nat → Nat → Nat} (I : sm_inv K n G) : ∀ b h, h ≤ b → G 15 h = 1 → G 16 h ≠ 1 →
    ∀ g, G 15 g = 1 → G 16 g = 1 → g < h → G 17 g ≤ h := by
  intro b
  induction b with
  | zero => intro h hb _ _ g _ _ hg; omega
  | succ b ih =>
    intro h hb lh oh g lg zg hg
    obtain ⟨i0, ib, il, iz, iN, iM⟩ := I
    rcases iN g h lg lh hg with q | q
    · obtain ⟨h1, h2, h3, h4, h5, h6, h7⟩ := il h (by omega) lh
      have op : G 16 (G 4 h) ≠ 1 := fun z => oh (h5 z)
      have ne : g ≠ G 4 h := fun z => op (z ▸ zg)
      have := ih (G 4 h) (by omega) h2 op g lg zg (by omega)
      omega
    · exact q.2
theorem sm_outx {K n x : Nat} {G : Nat → Nat → Nat} (I : sm_inv K n G) (hx : 1 ≤ x) (lx : G 15 x = 1) (px : G 16 (G 4 x) ≠ 1) :
    ∀ g, G 15 g = 1 → G 16 g = 1 → g < x → G 17 g ≤ x := by
  intro g lg zg hg
  have I' := I
  obtain ⟨i0, ib, il, iz, iN, iM⟩ := I'
  rcases iN g x lg lx hg with q | q
  · obtain ⟨h1, h2, h3, h4, h5, h6, h7⟩ := il x (by omega) lx
    have ne : g ≠ G 4 x := fun z => px (z ▸ zg)
    have := sm_out I (G 4 x) (G 4 x) (by omega) h2 px g lg zg (by omega)
    omega
  · exact q.2
end
section
theorem sm_open {K n x : Nat} {G H : Nat → Nat → Nat} (I : sm_inv K n G) (X : sm_e1 G x)
    (e : ∀ i, i ≠ 16 → H i = G i) (ez : ∀ g, g ≠ x → H 16 g = G 16 g) (ex : H 16 x ≠ 1) : sm_inv K n H := by
  obtain ⟨hx, lx, fx, px, bx⟩ := X
  obtain ⟨i0, ib, il, iz, iN, iM⟩ := I
  have e1 := e 1 (by omega)
  have e2 := e 2 (by omega)
  have e4 := e 4 (by omega)
  have e5 := e 5 (by omega)
  have e11 := e 11 (by omega)
  have e6 := e 6 (by omega)
  have e7 := e 7 (by omega)
  have e8 := e 8 (by omega)
  have e14 := e 14 (by omega)
  have e15 := e 15 (by omega)
  have e17 := e 17 (by omega)
  have e19 := e 19 (by omega)
  have e20 := e 20 (by omega)
  have fr : ∀ g, H 16 g = 1 → g ≠ x ∧ G 16 g = 1 := by
    intro g hg
    have q : g ≠ x := fun q => ex (q ▸ hg)
    exact ⟨q, by rw [← ez g q]; exact hg⟩
  refine ⟨?_, ?_, ?_, ?_, ?_, ?_⟩
  · unfold sm_i0 at i0 ⊢
    rw [e15, ez 0 (by omega), e1, e4, e6, e7, e8, e20]
    exact i0
  · intro f lf
    rw [e15] at lf
    have := ib f lf
    unfold sm_b at this ⊢
    rw [e1, e2, e5, e8, e11, e14, e20]
    exact this
  · intro f hf lf
    rw [e15] at lf
    have L := il f hf lf
    rw [e4]
    refine sm_lp_c L (fun i hi => by rw [e i (by omega)]) (fun i hi => by rw [e i (by omega)]) (by rw [e15]; exact L.2.1) ?_ ?_
    · intro hp
      obtain ⟨q, hp⟩ := fr _ hp
      have hz := L.2.2.2.2.1 hp
      have r : f ≠ x := fun r => px (r ▸ hp)
      rw [ez _ r]; exact hz
    · intro s
      obtain ⟨h1, h2, h3, h4, h5, h6, h7⟩ := L
      rcases h7 with h7 | h7
      · have := h7.1; omega
      · obtain ⟨a1, a2, a3, a4, a5, a6, a7, a8, a9, a10, a11, a12, a13⟩ := h7
        have q : G 10 (G 4 f) ≠ x := by
          intro q
          have := bx f lf
          rw [← q] at this
          omega
        exact ⟨fun i hi => by rw [e i (by omega)], by rw [e15]; exact a4, by rw [ez _ q]; exact a5⟩
  · intro f lf zf
    rw [e15] at lf
    obtain ⟨q, zf⟩ := fr _ zf
    refine sm_fz_c (iz f lf zf) (Nat.le_refl K) (fun i h5 h6 => by rw [e i h6]) ?_
    intro c hc
    obtain ⟨b1, b2, b3, b4, b5, b6⟩ := hc
    have r : c ≠ x := by
      intro r
      rw [← r, b4] at px
      exact px zf
    exact ⟨fun i h5 h6 => by rw [e i h6], by rw [e15]; exact b2, by rw [ez _ r]; exact b3⟩
  · intro g h lg lh hg
    rw [e15] at lg lh
    rw [e4, e17]
    rcases iN g h lg lh hg with q | q
    · exact Or.inl q
    · by_cases r : g = x
      · have := bx h lh
        rw [r] at q
        omega
      · right
        rw [ez _ r]
        exact q
  · intro g h lg zg lh hg
    rw [e15] at lg lh
    rw [e17] at hg
    rw [e19, e8]
    exact iM g h lg (fr g zg).2 lh hg

theorem sm_cutlp {K n b f : Nat} {G H : Nat → Nat → Nat} (I : sm_inv K n G) (fb : f ≤ b) (L : sm_lp G f (G 4 f))
    (e : ∀ i, i ≠ 15 → H i = G i) (el : ∀ g, H 15 g = 1 ↔ (G 15 g = 1 ∧ g < b)) : sm_lp H f (H 4 f) := by
  obtain ⟨i0, ib, il, iz, iN, iM⟩ := I
  rw [e 4 (by omega)]
  have h1 := L.1
  refine sm_lp_c L (fun i hi => by rw [e i (by omega)]) (fun i hi => by rw [e i (by omega)]) ?_ ?_ ?_
  · rw [el]; exact ⟨L.2.1, by omega⟩
  · rw [e 16 (by omega)]; exact L.2.2.2.2.1
  · intro s
    obtain ⟨h1, h2, h3, h4, h5, h6, h7⟩ := L
    rcases h7 with h7 | h7
    · have := h7.1; omega
    · obtain ⟨a1, a2, a3, a4, a5, a6, a7, a8, a9, a10, a11, a12, a13⟩ := h7
      have := (iz _ a4 a5).1
      exact ⟨fun i hi => by rw [e i (by omega)], by rw [el]; exact ⟨a4, by omega⟩, by rw [e 16 (by omega)]; exact a5⟩
theorem sm_cut {K n b : Nat} {G H : Nat → Nat → Nat} (I : sm_inv K n G) (hb : 1 ≤ b)
    (ho : ∀ g, G 15 g = 1 → G 16 g = 1 → g < b → G 17 g ≤ b)
    (e : ∀ i, i ≠ 15 → H i = G i) (el : ∀ g, H 15 g = 1 ↔ (G 15 g = 1 ∧ g < b)) : sm_inv K n H := by
  have I' := I
  obtain ⟨i0, ib, il, iz, iN, iM⟩ := I'
  have e1 := e 1 (by omega)
  have e2 := e 2 (by omega)
  have e4 := e 4 (by omega)
  have e5 := e 5 (by omega)
  have e11 := e 11 (by omega)
  have e6 := e 6 (by omega)
  have e7 := e 7 (by omega)
  have e8 := e 8 (by omega)
  have e14 := e 14 (by omega)
  have e16 := e 16 (by omega)
  have e17 := e 17 (by omega)
  have e19 := e 19 (by omega)
  have e20 := e 20 (by omega)
  refine ⟨?_, ?_, ?_, ?_, ?_, ?_⟩
  · unfold sm_i0 at i0 ⊢
    rw [el, e16, e1, e4, e6, e7, e8, e20]
    exact ⟨⟨i0.1, by omega⟩, i0.2⟩
  · intro f lf
    rw [el] at lf
    have := ib f lf.1
    unfold sm_b at this ⊢
    rw [e1, e2, e5, e8, e11, e14, e20]
    exact this
  · intro f hf lf
    rw [el] at lf
    exact sm_cutlp I (by omega) (il f hf lf.1) e el
  · intro f lf zf
    rw [el] at lf
    rw [e16] at zf
    refine sm_fz_c (iz f lf.1 zf) (Nat.le_refl K) (fun i h5 h6 => by rw [e i h5]) ?_
    intro c hc
    obtain ⟨b1, b2, b3, b4, b5, b6⟩ := hc
    have h1 := ho f lf.1 zf lf.2
    have h2 := (iz c b2 b3).1
    exact ⟨fun i h5 h6 => by rw [e i h5], by rw [el]; exact ⟨b2, by omega⟩, by rw [e16]; exact b3⟩
  · intro g h lg lh hg
    rw [el] at lg lh
    rw [e4, e16, e17]
    exact iN g h lg.1 lh.1 hg
  · intro g h lg zg lh hg
    rw [el] at lg lh
    rw [e16] at zg
    rw [e17] at hg
    rw [e19, e8]
    exact iM g h lg.1 zg lh.1 hg

theorem sm_setst {K n p : Nat} {G H : Nat → Nat → Nat} (I : sm_inv K n G) (op : G 16 p ≠ 1)
    (top : ∀ h, G 15 h = 1 → h ≤ p) (e : ∀ i, i ≠ 9 → H i = G i) (es : ∀ g, g ≠ p → H 9 g = G 9 g) : sm_inv K n H := by
  obtain ⟨i0, ib, il, iz, iN, iM⟩ := I
  have e1 := e 1 (by omega)
  have e2 := e 2 (by omega)
  have e4 := e 4 (by omega)
  have e5 := e 5 (by omega)
  have e11 := e 11 (by omega)
  have e6 := e 6 (by omega)
  have e7 := e 7 (by omega)
  have e8 := e 8 (by omega)
  have e14 := e 14 (by omega)
  have e15 := e 15 (by omega)
  have e16 := e 16 (by omega)
  have e17 := e 17 (by omega)
  have e19 := e 19 (by omega)
  have e20 := e 20 (by omega)
  have ea : ∀ i g, g ≠ p → H i g = G i g := by
    intro i g hg
    by_cases q : i = 9
    · rw [q]; exact es g hg
    · rw [e i q]
  refine ⟨?_, ?_, ?_, ?_, ?_, ?_⟩
  · unfold sm_i0 at i0 ⊢
    rw [e15, e16, e1, e4, e6, e7, e8, e20]
    exact i0
  · intro f lf
    rw [e15] at lf
    have := ib f lf
    unfold sm_b at this ⊢
    rw [e1, e2, e5, e8, e11, e14, e20]
    exact this
  · intro f hf lf
    rw [e15] at lf
    have L := il f hf lf
    rw [e4]
    have h1 := L.1
    have h2 := top f lf
    refine sm_lp_c L (fun i hi => by rw [e i (by omega)]) (fun i hi => ea i _ (by omega)) (by rw [e15]; exact L.2.1) (by rw [e16]; exact L.2.2.2.2.1) ?_
    intro s
    obtain ⟨h1, h2, h3, h4, h5, h6, h7⟩ := L
    rcases h7 with h7 | h7
    · have := h7.1; omega
    · obtain ⟨a1, a2, a3, a4, a5, a6, a7, a8, a9, a10, a11, a12, a13⟩ := h7
      have q : G 10 (G 4 f) ≠ p := fun q => op (q ▸ a5)
      exact ⟨fun i hi => ea i _ q, by rw [e15]; exact a4, by rw [e16]; exact a5⟩
  · intro f lf zf
    rw [e15] at lf
    rw [e16] at zf
    have q : f ≠ p := fun q => op (q ▸ zf)
    refine sm_fz_c (iz f lf zf) (Nat.le_refl K) (fun i h5 h6 => ea i _ q) ?_
    intro c hc
    obtain ⟨b1, b2, b3, b4, b5, b6⟩ := hc
    have r : c ≠ p := fun q => op (q ▸ b3)
    exact ⟨fun i h5 h6 => ea i _ r, by rw [e15]; exact b2, by rw [e16]; exact b3⟩
  · intro g h lg lh hg
    rw [e15] at lg lh
    rw [e4, e16, e17]
    exact iN g h lg lh hg
  · intro g h lg zg lh hg
    rw [e15] at lg lh
    rw [e16] at zg
    rw [e17] at hg
    rw [e19, e8]
    exact iM g h lg zg lh hg

/-- a new frame under p; a slot's cell of p is the only other change -/
theorem sm_new {K n p : Nat} {G H : Nat → Nat → Nat} (I : sm_inv K n G) (lp : G 15 p = 1) (op : G 16 p ≠ 1)
    (nol : ∀ h, G 15 h = 1 → 1 ≤ h → G 4 h = p → H 10 p = G 10 p ∧ G 5 h = 0)
    (e : ∀ i g, g ≤ K → g ≠ p → H i g = G i g) (ep : ∀ i, i ≠ 10 → i ≠ 11 → H i p = G i p)
    (nlv : H 15 (K + 1) = 1) (nup : ∀ g, K + 1 < g → H 15 g ≠ 1) (nfz : H 16 (K + 1) ≠ 1) (npr : H 4 (K + 1) = p)
    (nb : H 8 (K + 1) ≤ K + 1 - 1 ∧ H 2 (K + 1) ≤ n ∧ H 20 (K + 1) ≤ K + 1 ∧ H 1 (K + 1) ≤ 18 ∧ H 14 (K + 1) = 0)
    (nfb : H 11 (K + 1) = 0 ∧ (H 11 p = G 11 p ∨ (H 11 p = K + 1 ∧ H 5 (K + 1) = 1)))
    (nl : sm_lp H (K + 1) p) (nN : ∀ g, G 15 g = 1 → p < g → G 16 g = 1)
    (nM : ∀ g, G 15 g = 1 → G 16 g = 1 → G 19 g ≤ H 8 (K + 1)) : sm_inv (K + 1) n H := by
  obtain ⟨i0, ib, il, iz, iN, iM⟩ := I
  have pK : p ≤ K := (ib p lp).1
  have lo : ∀ g, H 15 g = 1 → g ≤ K → G 15 g = 1 := by
    intro g hg hk
    by_cases q : g = p
    · rw [q]; exact lp
    · rw [← e 15 g hk q]; exact hg
  have em : ∀ i g, i ≠ 10 → i ≠ 11 → g ≤ K → H i g = G i g := by
    intro i g h1 h2 hk
    by_cases q : g = p
    · rw [q]; exact ep i h1 h2
    · exact e i g hk q
  have cas : ∀ g, H 15 g = 1 → g = K + 1 ∨ (g ≤ K ∧ G 15 g = 1) := by
    intro g hg
    by_cases q : g = K + 1
    · exact Or.inl q
    · have : g ≤ K := by
        by_cases r : K + 1 < g
        · exact absurd hg (nup g r)
        · omega
      exact Or.inr ⟨this, lo g hg this⟩
  refine ⟨?_, ?_, ?_, ?_, ?_, ?_⟩
  · unfold sm_i0 at i0 ⊢
    rw [em 15 0 (by omega) (by omega) (by omega), em 16 0 (by omega) (by omega) (by omega), em 1 0 (by omega) (by omega) (by omega), em 4 0 (by omega) (by omega) (by omega), em 6 0 (by omega) (by omega) (by omega), em 7 0 (by omega) (by omega) (by omega), em 8 0 (by omega) (by omega) (by omega), em 20 0 (by omega) (by omega) (by omega)]
    exact i0
  · intro f lf
    rcases cas f lf with q | ⟨q, lf⟩
    · rw [q]
      obtain ⟨n1, n2, n3, n4, n5⟩ := nb
      exact ⟨by omega, n1, n2, n3, n4, fun _ _ => n5, by omega, Or.inl nfb.1⟩
    · obtain ⟨b1, b2, b3, b4, b5, b6, b7, b8⟩ := ib f lf
      have b9 : H 11 f ≤ K + 1 ∧ (H 11 f = 0 ∨ H 5 (H 11 f) = 1) := by
        by_cases r : f = p
        · rcases nfb.2 with s | ⟨s, s'⟩
          · rw [r] at b7 b8 ⊢
            rw [s, em 5 _ (by omega) (by omega) b7]
            exact ⟨by omega, b8⟩
          · rw [r, s]
            exact ⟨by omega, Or.inr s'⟩
        · rw [e 11 f q r, em 5 _ (by omega) (by omega) b7]
          exact ⟨by omega, b8⟩
      unfold sm_b
      rw [em 8 f (by omega) (by omega) q, em 2 f (by omega) (by omega) q, em 20 f (by omega) (by omega) q, em 1 f (by omega) (by omega) q, em 14 f (by omega) (by omega) q]
      exact ⟨by omega, b2, b3, b4, b5, b6, b9⟩
  · intro f hf lf
    rcases cas f lf with q | ⟨q, lf⟩
    · rw [q, npr]; exact nl
    · have L := il f hf lf
      have h1 := L.1
      rw [em 4 f (by omega) (by omega) q]
      have ha : G 5 f = 1 → (∀ i, i ≤ 12 ∨ 17 ≤ i → H i (G 10 (G 4 f)) = G i (G 10 (G 4 f))) ∧ H 15 (G 10 (G 4 f)) = 1 ∧ H 16 (G 10 (G 4 f)) = 1 := by
        intro s
        obtain ⟨h1, h2, h3, h4, h5, h6, h7⟩ := L
        rcases h7 with h7 | h7
        · have := h7.1; omega
        · obtain ⟨a1, a2, a3, a4, a5, a6, a7, a8, a9, a10, a11, a12, a13⟩ := h7
          have r : G 10 (G 4 f) ≠ p := fun r => op (r ▸ a5)
          have := (ib _ a4).1
          exact ⟨fun i hi => e i _ this r, by rw [e 15 _ this r]; exact a4, by rw [e 16 _ this r]; exact a5⟩
      have zz : H 16 (G 4 f) = 1 → H 16 f = 1 := by
        rw [em 16 _ (by omega) (by omega) (by omega), em 16 f (by omega) (by omega) (by omega)]
        exact L.2.2.2.2.1
      by_cases r : G 4 f = p
      · obtain ⟨n1, n2⟩ := nol f lf hf r
        obtain ⟨h1, h2, h3, h4, h5, h6, h7⟩ := L
        rcases h7 with h7 | h7
        · refine ⟨h1, by rw [em 15 _ (by omega) (by omega) (by omega)]; exact h2, by rw [em 1 _ (by omega) (by omega) (by omega)]; exact h3, by rw [em 20 f (by omega) (by omega) (by omega), em 20 _ (by omega) (by omega) (by omega)]; exact h4, zz, by rw [em 1 _ (by omega) (by omega) (by omega), em 9 _ (by omega) (by omega) (by omega)]; exact h6, Or.inl ?_⟩
          unfold sm_s0 at h7 ⊢
          rw [em 5 f (by omega) (by omega) (by omega), em 8 f (by omega) (by omega) (by omega), em 2 f (by omega) (by omega) (by omega), em 6 f (by omega) (by omega) (by omega), em 7 f (by omega) (by omega) (by omega)]
          rw [r] at h7 ⊢
          rw [n1, ep 1 (by omega) (by omega), ep 2 (by omega) (by omega), ep 6 (by omega) (by omega), ep 7 (by omega) (by omega), ep 8 (by omega) (by omega), ep 9 (by omega) (by omega)]
          exact h7
        · have := h7.1; omega
      · exact sm_lp_c L (fun i hi => em i f (by omega) (by omega) q) (fun i hi => e i _ (by omega) r) (by rw [e 15 _ (by omega) r]; exact L.2.1) zz ha
  · intro f lf zf
    rcases cas f lf with q | ⟨q, lf⟩
    · rw [q] at zf; exact absurd zf nfz
    · rw [em 16 f (by omega) (by omega) q] at zf
      have r : f ≠ p := fun r => op (r ▸ zf)
      refine sm_fz_c (iz f lf zf) (by omega) (fun i h5 h6 => e i f q r) ?_
      intro c hc
      obtain ⟨b1, b2, b3, b4, b5, b6⟩ := hc
      have r : c ≠ p := fun r => op (r ▸ b3)
      have s := (ib c b2).1
      exact ⟨fun i h5 h6 => e i c s r, by rw [e 15 c s r]; exact b2, by rw [e 16 c s r]; exact b3⟩
  · intro g h lg lh hg
    rcases cas h lh with q | ⟨q, lh⟩
    · rcases cas g lg with r | ⟨r, lg⟩
      · omega
      · rw [q, npr, em 16 g (by omega) (by omega) r, em 17 g (by omega) (by omega) r]
        by_cases s : g ≤ p
        · exact Or.inl s
        · have z := nN g lg (by omega)
          exact Or.inr ⟨z, (iz g lg z).2.1⟩
    · rcases cas g lg with r | ⟨r, lg⟩
      · omega
      · rw [em 4 h (by omega) (by omega) q, em 16 g (by omega) (by omega) r, em 17 g (by omega) (by omega) r]
        exact iN g h lg lh hg
  · intro g h lg zg lh hg
    rcases cas g lg with r | ⟨r, lg⟩
    · rw [r] at zg; exact absurd zg nfz
    · rw [em 16 g (by omega) (by omega) r] at zg
      rw [em 17 g (by omega) (by omega) r] at hg
      rw [em 19 g (by omega) (by omega) r]
      rcases cas h lh with q | ⟨q, lh⟩
      · rw [q]; exact nM g lg zg
      · rw [em 8 h (by omega) (by omega) q]
        exact iM g h lg zg lh hg

theorem sm_frz {K n p : Nat} {G H : Nat → Nat → Nat} (I : sm_inv K n G) (hp : 1 ≤ p) (lp : G 15 p = 1) (op : G 16 p ≠ 1)
    (top : ∀ g, G 15 g = 1 → G 16 g ≠ 1 → g ≤ p) (e : ∀ i g, g ≠ p → H i g = G i g)
    (ep : ∀ i, i ≤ 11 ∨ i = 15 ∨ i = 20 → H i p = G i p) (hh : H 17 p = K + 1)
    (hl : G 1 p ≠ 13 → G 1 p ≠ 17 → H 14 p = 0) (F : sm_fzn K n H p) : sm_inv K n H := by
  obtain ⟨i0, ib, il, iz, iN, iM⟩ := I
  have eq : ∀ i g, i ≤ 11 ∨ i = 15 ∨ i = 20 → H i g = G i g := by
    intro i g hi
    by_cases q : g = p
    · rw [q]; exact ep i hi
    · exact e i g q
  have el : ∀ g, H 15 g = G 15 g := fun g => eq 15 g (by omega)
  refine ⟨?_, ?_, ?_, ?_, ?_, ?_⟩
  · unfold sm_i0 at i0 ⊢
    rw [eq 15 0 (by omega), e 16 0 (by omega), eq 1 0 (by omega), eq 4 0 (by omega), eq 6 0 (by omega), eq 7 0 (by omega), eq 8 0 (by omega), eq 20 0 (by omega)]
    exact i0
  · intro f lf
    rw [el] at lf
    obtain ⟨b1, b2, b3, b4, b5, b6, b7⟩ := ib f lf
    unfold sm_b
    rw [eq 1 f (by omega), eq 2 f (by omega), eq 8 f (by omega), eq 20 f (by omega), eq 11 f (by omega), eq 5 _ (by omega)]
    refine ⟨b1, b2, b3, b4, b5, fun h1 h2 => ?_, b7⟩
    by_cases q : f = p
    · rw [q] at h1 h2 ⊢; exact hl h1 h2
    · rw [e 14 f q]; exact b6 h1 h2
  · intro f hf lf
    rw [el] at lf
    have L := il f hf lf
    rw [eq 4 f (by omega)]
    refine sm_lp_c L (fun i hi => eq i f (by omega)) (fun i hi => eq i _ (by omega)) (by rw [el]; exact L.2.1) ?_ ?_
    · intro hz
      by_cases q : G 4 f = p
      · have h1 := L.1
        have r : f ≠ p := by omega
        rw [e 16 f r]
        by_cases s : G 16 f = 1
        · exact s
        · have := top f lf s
          omega
      · rw [e 16 _ q] at hz
        have hz := L.2.2.2.2.1 hz
        by_cases r : f = p
        · rw [r] at hz; exact absurd hz op
        · rw [e 16 _ r]; exact hz
    · intro s
      obtain ⟨h1, h2, h3, h4, h5, h6, h7⟩ := L
      rcases h7 with h7 | h7
      · have := h7.1; omega
      · obtain ⟨a1, a2, a3, a4, a5, a6, a7, a8, a9, a10, a11, a12, a13⟩ := h7
        have r : G 10 (G 4 f) ≠ p := fun r => op (r ▸ a5)
        exact ⟨fun i hi => e i _ r, by rw [el]; exact a4, by rw [e 16 _ r]; exact a5⟩
  · intro f lf zf
    by_cases q : f = p
    · rw [q]; exact F
    · rw [el] at lf
      rw [e 16 f q] at zf
      refine sm_fz_c (iz f lf zf) (Nat.le_refl K) (fun i h5 h6 => e i f q) ?_
      intro c hc
      obtain ⟨b1, b2, b3, b4, b5, b6⟩ := hc
      have r : c ≠ p := fun r => op (r ▸ b3)
      exact ⟨fun i h5 h6 => e i c r, by rw [el]; exact b2, by rw [e 16 c r]; exact b3⟩
  · intro g h lg lh hg
    rw [el] at lg lh
    rw [eq 4 h (by omega)]
    rcases iN g h lg lh hg with q | q
    · exact Or.inl q
    · have r : g ≠ p := fun r => op (r ▸ q.1)
      rw [e 16 g r, e 17 g r]
      exact Or.inr q
  · intro g h lg zg lh hg
    rw [el] at lg lh
    rw [eq 8 h (by omega)]
    by_cases q : g = p
    · rw [q, hh] at hg
      have := (ib h lh).1
      omega
    · rw [e 16 g q] at zg
      rw [e 17 g q] at hg
      rw [e 19 g q]
      exact iM g h lg zg lh hg
end
section
def sm_st (G : Nat → Nat → Nat) (p s : Nat) : Nat → Nat → Nat := fun i g => if i = 9 then (if g = p then s else G 9 g) else G i g
def sm_op (G : Nat → Nat → Nat) (x : Nat) : Nat → Nat → Nat := fun i g => if i = 16 then (if g = x then 0 else G 16 g) else G i g
def sm_ct (G : Nat → Nat → Nat) (b : Nat) : Nat → Nat → Nat := fun i g => if i = 15 then (if g < b then G 15 g else 0) else G i g
def sm_fr (G : Nat → Nat → Nat) (p v la lb k a t : Nat) : Nat → Nat → Nat := fun i g =>
  if g = p then (if i = 12 then v else if i = 13 then la else if i = 14 then lb else if i = 16 then 1 else if i = 17 then k else if i = 18 then a else if i = 19 then t else G i p) else G i g
def sm_nw (G : Nat → Nat → Nat) (k p q : Nat) (r : Nat → Nat) : Nat → Nat → Nat := fun i g =>
  if g = k then r i else if g = p ∧ i = q then k else G i g
def sm_rw (nd kd cc dd p sl tk ch tr dp : Nat) : Nat → Nat := fun i =>
  if i = 0 then nd else if i = 1 then kd else if i = 2 then cc else if i = 3 then dd else if i = 4 then p else if i = 5 then sl
  else if i = 6 then tk else if i = 7 then ch else if i = 8 then tr else if i = 15 then 1 else if i = 20 then dp else 0

theorem sm_st_o {G : Nat → Nat → Nat} {p s i : Nat} (h : i ≠ 9) : sm_st G p s i = G i := by funext g; exact if_neg h
theorem sm_st_n {G : Nat → Nat → Nat} {p s g : Nat} (h : g ≠ p) : sm_st G p s 9 g = G 9 g := by
  unfold sm_st; rw [if_pos rfl, if_neg h]
theorem sm_st_e {G : Nat → Nat → Nat} {p s : Nat} : sm_st G p s 9 p = s := by
  unfold sm_st; rw [if_pos rfl, if_pos rfl]
theorem sm_op_o {G : Nat → Nat → Nat} {x i : Nat} (h : i ≠ 16) : sm_op G x i = G i := by funext g; exact if_neg h
theorem sm_op_n {G : Nat → Nat → Nat} {x g : Nat} (h : g ≠ x) : sm_op G x 16 g = G 16 g := by
  unfold sm_op; rw [if_pos rfl, if_neg h]
theorem sm_op_e {G : Nat → Nat → Nat} {x : Nat} : sm_op G x 16 x = 0 := by
  unfold sm_op; rw [if_pos rfl, if_pos rfl]
theorem sm_ct_o {G : Nat → Nat → Nat} {b i : Nat} (h : i ≠ 15) : sm_ct G b i = G i := by funext g; exact if_neg h
theorem sm_ct_l {G : Nat → Nat → Nat} {b g : Nat} : sm_ct G b 15 g = 1 ↔ (G 15 g = 1 ∧ g < b) := by
  unfold sm_ct
  rw [if_pos rfl]
  by_cases h : g < b
  · rw [if_pos h]; exact ⟨fun z => ⟨z, h⟩, fun z => z.1⟩
  · rw [if_neg h]; exact ⟨fun z => by omega, fun z => absurd z.2 h⟩
theorem sm_fr_n {G : Nat → Nat → Nat} {p v la lb k a t i g : Nat} (h : g ≠ p) : sm_fr G p v la lb k a t i g = G i g := by
  unfold sm_fr; rw [if_neg h]
theorem sm_fr_o {G : Nat → Nat → Nat} {p v la lb k a t i : Nat} (h : i ≤ 11 ∨ i = 15 ∨ i = 20) : sm_fr G p v la lb k a t i = G i := by
  funext g
  unfold sm_fr
  by_cases q : g = p
  · rw [if_pos q, if_neg (by omega), if_neg (by omega), if_neg (by omega), if_neg (by omega), if_neg (by omega), if_neg (by omega), if_neg (by omega), q]
  · rw [if_neg q]
theorem sm_fr_12 {G : Nat → Nat → Nat} {p v la lb k a t : Nat} : sm_fr G p v la lb k a t 12 p = v := by
  unfold sm_fr; rw [if_pos rfl, if_pos rfl]
theorem sm_fr_13 {G : Nat → Nat → Nat} {p v la lb k a t : Nat} : sm_fr G p v la lb k a t 13 p = la := by
  unfold sm_fr; rw [if_pos rfl, if_neg (by omega), if_pos rfl]
theorem sm_fr_14 {G : Nat → Nat → Nat} {p v la lb k a t : Nat} : sm_fr G p v la lb k a t 14 p = lb := by
  unfold sm_fr; rw [if_pos rfl, if_neg (by omega), if_neg (by omega), if_pos rfl]
theorem sm_fr_16 {G : Nat → Nat → Nat} {p v la lb k a t : Nat} : sm_fr G p v la lb k a t 16 p = 1 := by
  unfold sm_fr; rw [if_pos rfl, if_neg (by omega), if_neg (by omega), if_neg (by omega), if_pos rfl]
theorem sm_fr_17 {G : Nat → Nat → Nat} {p v la lb k a t : Nat} : sm_fr G p v la lb k a t 17 p = k := by
  unfold sm_fr; rw [if_pos rfl, if_neg (by omega), if_neg (by omega), if_neg (by omega), if_neg (by omega), if_pos rfl]
theorem sm_fr_18 {G : Nat → Nat → Nat} {p v la lb k a t : Nat} : sm_fr G p v la lb k a t 18 p = a := by
  unfold sm_fr; rw [if_pos rfl, if_neg (by omega), if_neg (by omega), if_neg (by omega), if_neg (by omega), if_neg (by omega), if_pos rfl]
theorem sm_fr_19 {G : Nat → Nat → Nat} {p v la lb k a t : Nat} : sm_fr G p v la lb k a t 19 p = t := by
  unfold sm_fr; rw [if_pos rfl, if_neg (by omega), if_neg (by omega), if_neg (by omega), if_neg (by omega), if_neg (by omega), if_neg (by omega), if_pos rfl]
theorem sm_nw_k {G : Nat → Nat → Nat} {k p q i : Nat} {r : Nat → Nat} : sm_nw G k p q r i k = r i := by
  unfold sm_nw; rw [if_pos rfl]
theorem sm_nw_n {G : Nat → Nat → Nat} {k p q i g : Nat} {r : Nat → Nat} (h : g ≠ k) (h' : g ≠ p ∨ i ≠ q) : sm_nw G k p q r i g = G i g := by
  unfold sm_nw; rw [if_neg h, if_neg (by omega)]
theorem sm_nw_p {G : Nat → Nat → Nat} {k p q : Nat} {r : Nat → Nat} (h : p ≠ k) : sm_nw G k p q r q p = k := by
  unfold sm_nw; rw [if_neg h, if_pos ⟨rfl, rfl⟩]

/-- x, unfrozen and the last of the live frames, yields v -/
theorem sm_yld {K n x v s a : Nat} {G : Nat → Nat → Nat} (I : sm_inv K n G) (hx : 1 ≤ x) (lx : G 15 x = 1) (ox : G 16 x ≠ 1)
    (top : ∀ h, G 15 h = 1 → h ≤ x) (hv1 : G 2 x ≤ v) (hv2 : v ≤ n)
    (hk : (G 1 x ≤ 11 ∧ G 1 x ≠ 10 ∧ a = G 7 x) ∨ (G 1 x = 10 ∧ a = x ∧ s = v) ∨ (G 1 x = 13 ∧ a = x ∧ s = 1)) :
    sm_inv K n (sm_fr (sm_st G x s) x v 0 0 (K + 1) a (G 8 x)) ∧ sm_e2 K (sm_fr (sm_st G x s) x v 0 0 (K + 1) a (G 8 x)) x := by
  have I' := I
  obtain ⟨i0, ib, il, iz, iN, iM⟩ := I'
  have I1 : sm_inv K n (sm_st G x s) := sm_setst I ox top (fun i hi => sm_st_o hi) (fun g hg => sm_st_n hg)
  have bK := (ib x lx).1
  have L := il x hx lx
  have hp := L.1
  have op : G 16 (G 4 x) ≠ 1 := fun z => ox (L.2.2.2.2.1 z)
  generalize hH : sm_fr (sm_st G x s) x v 0 0 (K + 1) a (G 8 x) = H
  have a1 : H 1 x = G 1 x := by rw [← hH, sm_fr_o (by omega), sm_st_o (by omega)]
  have a2 : H 2 x = G 2 x := by rw [← hH, sm_fr_o (by omega), sm_st_o (by omega)]
  have a4 : H 4 x = G 4 x := by rw [← hH, sm_fr_o (by omega), sm_st_o (by omega)]
  have a7 : H 7 x = G 7 x := by rw [← hH, sm_fr_o (by omega), sm_st_o (by omega)]
  have a8 : H 8 x = G 8 x := by rw [← hH, sm_fr_o (by omega), sm_st_o (by omega)]
  have a9 : H 9 x = s := by rw [← hH, sm_fr_o (by omega), sm_st_e]
  have a12 : H 12 x = v := by rw [← hH, sm_fr_12]
  have a13 : H 13 x = 0 := by rw [← hH, sm_fr_13]
  have a14 : H 14 x = 0 := by rw [← hH, sm_fr_14]
  have a15 : ∀ g, H 15 g = G 15 g := by intro g; rw [← hH, sm_fr_o (by omega), sm_st_o (by omega)]
  have a16 : H 16 x = 1 := by rw [← hH, sm_fr_16]
  have a17 : H 17 x = K + 1 := by rw [← hH, sm_fr_17]
  have a18 : H 18 x = a := by rw [← hH, sm_fr_18]
  have a19 : H 19 x = G 8 x := by rw [← hH, sm_fr_19]
  have ne : ∀ i g, g ≠ x → i ≠ 9 → H i g = G i g := by
    intro i g hg hi
    rw [← hH, sm_fr_n hg, sm_st_o hi]
  refine ⟨?_, ?_⟩
  · refine sm_frz I1 hx (by rw [sm_st_o (by omega)]; exact lx) (by rw [sm_st_o (by omega)]; exact ox) (by rw [sm_st_o (by omega)]; exact fun g lg _ => top g lg) (fun i g hg => by rw [← hH, sm_fr_n hg]) (fun i hi => by rw [← hH, sm_fr_o hi]) a17 (fun _ _ => a14) ?_
    refine ⟨by omega, by omega, by omega, by omega, by omega, Or.inl ?_⟩
    refine ⟨by omega, a13, a14, by omega, by omega, by omega⟩
  · refine ⟨hx, by rw [a15]; exact lx, a16, a17, ?_, ?_, ?_⟩
    · rw [a4, ne 16 _ (by omega) (by omega)]; exact op
    · intro g lg zg
      rw [a15] at lg
      by_cases q : g = x
      · rw [q]; exact Nat.le_refl _
      · have := top g lg
        rw [ne 16 g q (by omega)] at zg
        have ho := sm_out I x x (Nat.le_refl _) lx ox g lg zg (by omega)
        rw [ne 19 g q (by omega), a19]
        exact iM g x lg zg lx ho
    · intro g lg zg
      rw [a15] at lg
      have q : g ≠ x := fun q => zg (q ▸ a16)
      have := top g lg
      rw [ne 16 g q (by omega)] at zg
      rw [a4]
      rcases iN g x lg lx (by omega) with r | r
      · exact r
      · exact absurd r.1 zg

/-- x, live, under an unfrozen frame, is exhausted -/
theorem sm_die {K n x : Nat} {G : Nat → Nat → Nat} (I : sm_inv K n G) (hx : 1 ≤ x) (lx : G 15 x = 1) (px : G 16 (G 4 x) ≠ 1) :
    sm_inv K n (sm_ct G x) ∧ sm_e3 K (sm_ct G x) x := by
  have I' := I
  obtain ⟨i0, ib, il, iz, iN, iM⟩ := I'
  refine ⟨sm_cut I hx (sm_outx I hx lx px) (fun i hi => sm_ct_o hi) (fun g => sm_ct_l), hx, (ib x lx).1, ?_, ?_, ?_⟩
  · exact sm_cutlp I (Nat.le_refl x) (il x hx lx) (fun i hi => sm_ct_o hi) (fun g => sm_ct_l)
  · rw [sm_ct_o (by omega), sm_ct_o (by omega)]; exact px
  · intro g lg
    exact (sm_ct_l.mp lg).2

/-- cut behind an unfrozen frame -/
theorem sm_cutb {K n x : Nat} {G : Nat → Nat → Nat} (I : sm_inv K n G) (lx : G 15 x = 1) (ox : G 16 x ≠ 1) :
    sm_inv K n (sm_ct G (x + 1)) ∧ ∀ h, sm_ct G (x + 1) 15 h = 1 → h ≤ x := by
  refine ⟨sm_cut I (by omega) ?_ (fun i hi => sm_ct_o hi) (fun g => sm_ct_l), ?_⟩
  · intro g lg zg hg
    have q : g ≠ x := fun q => ox (q ▸ zg)
    have := sm_out I x x (Nat.le_refl _) lx ox g lg zg (by omega)
    omega
  · intro h lh
    have := (sm_ct_l.mp lh).2
    omega
end
section
/-- under p, unfrozen and the last of the live frames, a child in slot 0 -/
theorem sm_des {K n p nd kd dd tk ch : Nat} {G : Nat → Nat → Nat} (I : sm_inv K n G) (lp : G 15 p = 1) (op : G 16 p ≠ 1)
    (top : ∀ h, G 15 h = 1 → h ≤ p) (k12 : 12 ≤ G 1 p) (k13 : G 1 p = 13 → G 9 p = 2) (k18 : G 1 p = 18 → G 9 p ≤ 1) (hk : kd ≤ 18)
    (ht : ((G 1 p = 12 ∨ G 1 p = 18) ∧ tk = G 6 p) ∨ (G 1 p ≠ 12 ∧ G 1 p ≠ 18 ∧ tk = p))
    (hc : (G 1 p = 18 ∧ G 9 p = 0 ∧ ch = p) ∨ ((G 1 p ≠ 18 ∨ G 9 p ≠ 0) ∧ ch = G 7 p)) :
    sm_inv (K + 1) n (sm_nw G (K + 1) p 10 (sm_rw nd kd (G 2 p) dd p 0 tk ch (G 8 p) (G 20 p + 1))) ∧
    sm_e0 (K + 1) (sm_nw G (K + 1) p 10 (sm_rw nd kd (G 2 p) dd p 0 tk ch (G 8 p) (G 20 p + 1))) := by
  have I' := I
  obtain ⟨i0, ib, il, iz, iN, iM⟩ := I'
  obtain ⟨b1, b2, b3, b4, b5, b6, b7, b8⟩ := ib p lp
  generalize hH : sm_nw G (K + 1) p 10 (sm_rw nd kd (G 2 p) dd p 0 tk ch (G 8 p) (G 20 p + 1)) = H
  have e : ∀ i g, g ≤ K → g ≠ p → H i g = G i g := fun i g hg hp => by rw [← hH, sm_nw_n (by omega) (Or.inl hp)]
  have ep : ∀ i, i ≠ 10 → H i p = G i p := fun i hi => by rw [← hH, sm_nw_n (by omega) (Or.inr hi)]
  have ep10 : H 10 p = K + 1 := by rw [← hH, sm_nw_p (by omega)]
  have r : ∀ i, H i (K + 1) = sm_rw nd kd (G 2 p) dd p 0 tk ch (G 8 p) (G 20 p + 1) i := fun i => by rw [← hH, sm_nw_k]
  have r1 : H 1 (K + 1) = kd := by rw [r]; rfl
  have r2 : H 2 (K + 1) = G 2 p := by rw [r]; rfl
  have r4 : H 4 (K + 1) = p := by rw [r]; rfl
  have r5 : H 5 (K + 1) = 0 := by rw [r]; rfl
  have r6 : H 6 (K + 1) = tk := by rw [r]; rfl
  have r7 : H 7 (K + 1) = ch := by rw [r]; rfl
  have r8 : H 8 (K + 1) = G 8 p := by rw [r]; rfl
  have r9 : H 9 (K + 1) = 0 := by rw [r]; rfl
  have r11 : H 11 (K + 1) = 0 := by rw [r]; rfl
  have r13 : H 13 (K + 1) = 0 := by rw [r]; rfl
  have r14 : H 14 (K + 1) = 0 := by rw [r]; rfl
  have r15 : H 15 (K + 1) = 1 := by rw [r]; rfl
  have r16 : H 16 (K + 1) = 0 := by rw [r]; rfl
  have r20 : H 20 (K + 1) = G 20 p + 1 := by rw [r]; rfl
  have nup : ∀ g, K + 1 < g → H 15 g ≠ 1 := fun g hg => by
    rw [← hH, sm_nw_n (by omega) (Or.inl (by omega))]; exact fun z => by have := (ib g z).1; omega
  refine ⟨?_, by omega, r15, by omega, r13, r14, r9⟩
  refine sm_new I lp op ?_ e (fun i h1 _ => ep i h1) r15 nup (by omega) r4 ⟨by omega, by omega, by omega, by omega, r14⟩ ⟨r11, Or.inl (ep 11 (by omega))⟩ ?_ ?_ ?_
  · intro h lh h1 hp
    have := top h lh
    have := (il h h1 lh).1
    omega
  · have p1 := ep 1 (by omega)
    have p2 := ep 2 (by omega)
    have p6 := ep 6 (by omega)
    have p7 := ep 7 (by omega)
    have p8 := ep 8 (by omega)
    have p9 := ep 9 (by omega)
    have p15 := ep 15 (by omega)
    have p16 := ep 16 (by omega)
    have p20 := ep 20 (by omega)
    refine ⟨by omega, by omega, by omega, by omega, fun z => absurd (p16 ▸ z) op, ⟨by omega, by omega⟩, Or.inl ?_⟩
    refine ⟨r5, ep10, by omega, by omega, by omega, by omega⟩
  · intro g lg hg
    have := top g lg
    omega
  · intro g lg zg
    have := top g lg
    have q : g ≠ p := fun q => op (q ▸ zg)
    rw [r8]
    exact iM g p lg zg lp (sm_out I p p (Nat.le_refl _) lp op g lg zg (by omega))

/-- the slot 0 child f of p has yielded: a child in slot 1 -/
theorem sm_nx {K n f p nd kd dd : Nat} {G : Nat → Nat → Nat} (I : sm_inv K n G) (E : sm_e2 K G f) (hp : G 4 f = p)
    (sf : G 5 f = 0) (kp : G 1 p = 13 ∨ G 1 p = 17) (hk : kd ≤ 18) :
    sm_inv (K + 1) n (sm_nw G (K + 1) p 11 (sm_rw nd kd (G 12 f) dd p 1 (G 6 p) (G 18 f) (G 19 f) (G 20 p + 1))) ∧
    sm_e0 (K + 1) (sm_nw G (K + 1) p 11 (sm_rw nd kd (G 12 f) dd p 1 (G 6 p) (G 18 f) (G 19 f) (G 20 p + 1))) := by
  have I' := I
  obtain ⟨i0, ib, il, iz, iN, iM⟩ := I'
  obtain ⟨hf, lf, zf, hif, op, mf, tf⟩ := E
  rw [hp] at op tf
  have L := il f hf lf
  rw [hp] at L
  obtain ⟨l1, lp, l3, l4, l5, l6, l7⟩ := L
  have l7 : sm_s0 G f p := by
    rcases l7 with q | q
    · exact q
    · have := q.1; omega
  obtain ⟨c1, c2, c3, c4, c5, c6⟩ := l7
  obtain ⟨b1, b2, b3, b4, b5, b6, b7, b8⟩ := ib p lp
  obtain ⟨z1, z2, z3, z4, z5, z6⟩ := iz f lf zf
  have fb := ib f lf
  have fb2 := fb.2.1
  have fb1 := fb.1
  generalize hH : sm_nw G (K + 1) p 11 (sm_rw nd kd (G 12 f) dd p 1 (G 6 p) (G 18 f) (G 19 f) (G 20 p + 1)) = H
  have e : ∀ i g, g ≤ K → g ≠ p → H i g = G i g := fun i g hg hp => by rw [← hH, sm_nw_n (by omega) (Or.inl hp)]
  have ep : ∀ i, i ≠ 11 → H i p = G i p := fun i hi => by rw [← hH, sm_nw_n (by omega) (Or.inr hi)]
  have ep11 : H 11 p = K + 1 := by rw [← hH, sm_nw_p (by omega)]
  have r : ∀ i, H i (K + 1) = sm_rw nd kd (G 12 f) dd p 1 (G 6 p) (G 18 f) (G 19 f) (G 20 p + 1) i := fun i => by rw [← hH, sm_nw_k]
  have r1 : H 1 (K + 1) = kd := by rw [r]; rfl
  have r2 : H 2 (K + 1) = G 12 f := by rw [r]; rfl
  have r4 : H 4 (K + 1) = p := by rw [r]; rfl
  have r5 : H 5 (K + 1) = 1 := by rw [r]; rfl
  have r6 : H 6 (K + 1) = G 6 p := by rw [r]; rfl
  have r7 : H 7 (K + 1) = G 18 f := by rw [r]; rfl
  have r8 : H 8 (K + 1) = G 19 f := by rw [r]; rfl
  have r9 : H 9 (K + 1) = 0 := by rw [r]; rfl
  have r11 : H 11 (K + 1) = 0 := by rw [r]; rfl
  have r13 : H 13 (K + 1) = 0 := by rw [r]; rfl
  have r14 : H 14 (K + 1) = 0 := by rw [r]; rfl
  have r15 : H 15 (K + 1) = 1 := by rw [r]; rfl
  have r16 : H 16 (K + 1) = 0 := by rw [r]; rfl
  have r20 : H 20 (K + 1) = G 20 p + 1 := by rw [r]; rfl
  have nup : ∀ g, K + 1 < g → H 15 g ≠ 1 := fun g hg => by
    rw [← hH, sm_nw_n (by omega) (Or.inl (by omega))]; exact fun z => by have := (ib g z).1; omega
  refine ⟨?_, by omega, r15, by omega, r13, r14, r9⟩
  refine sm_new I lp op ?_ e (fun i _ h1 => ep i h1) r15 nup (by omega) r4 ⟨by omega, by omega, by omega, by omega, r14⟩ ⟨r11, Or.inr ⟨ep11, r5⟩⟩ ?_ ?_ ?_
  · intro h lh h1 hp'
    refine ⟨ep 10 (by omega), ?_⟩
    have L := il h h1 lh
    rw [hp'] at L
    rcases L.2.2.2.2.2.2 with q | q
    · exact q.1
    · obtain ⟨a1, a2, a3, a4, a5, a6, a7⟩ := q
      have := (ib h lh).1
      rw [c2] at a6
      omega
  · have p1 := ep 1 (by omega)
    have p6 := ep 6 (by omega)
    have p9 := ep 9 (by omega)
    have p10 := ep 10 (by omega)
    have p15 := ep 15 (by omega)
    have p16 := ep 16 (by omega)
    have p20 := ep 20 (by omega)
    have q : f ≠ p := by omega
    have f4 := e 4 f fb1 q
    have f5 := e 5 f fb1 q
    have f12 := e 12 f fb1 q
    have f15 := e 15 f fb1 q
    have f16 := e 16 f fb1 q
    have f17 := e 17 f fb1 q
    have f18 := e 18 f fb1 q
    have f19 := e 19 f fb1 q
    refine ⟨by omega, by omega, by omega, by omega, fun z => absurd (p16 ▸ z) op, ⟨by have := l6.1; omega, by omega⟩, Or.inr ?_⟩
    unfold sm_s1
    rw [p10, c2]
    exact ⟨r5, by omega, ep11, by omega, by omega, by omega, by omega, by omega, hf, by omega, by omega, by omega, by omega⟩
  · intro g lg hg
    by_cases z : G 16 g = 1
    · exact z
    · have := tf g lg z
      omega
  · intro g lg zg
    rw [r8]
    exact mf g lg zg

/-- f has yielded and p hands it on -/
theorem sm_pas {K n f p la lb a t : Nat} {G : Nat → Nat → Nat} (I : sm_inv K n G) (E : sm_e2 K G f) (hp : G 4 f = p) (p1 : 1 ≤ p)
    (hc : (G 5 f = 0 ∧ (G 1 p = 12 ∨ G 1 p = 14 ∨ G 1 p = 15 ∨ G 1 p = 16 ∨ G 1 p = 18) ∧ la = f ∧ lb = 0 ∧
        ((G 1 p = 14 ∧ a = G 7 p) ∨ (G 1 p ≠ 14 ∧ a = G 18 f)) ∧ ((G 1 p = 16 ∧ t = G 19 f + 1) ∨ (G 1 p ≠ 16 ∧ t = G 19 f))) ∨
      (G 5 f = 1 ∧ la = G 10 p ∧ lb = f ∧ a = G 18 f ∧ t = G 19 f)) :
    sm_inv K n (sm_fr G p (G 12 f) la lb (K + 1) a t) ∧ sm_e2 K (sm_fr G p (G 12 f) la lb (K + 1) a t) p := by
  have I' := I
  obtain ⟨i0, ib, il, iz, iN, iM⟩ := I'
  obtain ⟨hf, lf, zf, hif, op, mf, tf⟩ := E
  rw [hp] at op tf
  have L := il f hf lf
  rw [hp] at L
  obtain ⟨l1, lp, l3, l4, l5, l6, l7⟩ := L
  obtain ⟨b1, b2, b3, b4, b5, b6, b7, b8⟩ := ib p lp
  obtain ⟨z1, z2, z3, z4, z5, z6⟩ := iz f lf zf
  have Lp := il p p1 lp
  have opp : G 16 (G 4 p) ≠ 1 := fun z => op (Lp.2.2.2.2.1 z)
  have lpp := Lp.1
  generalize hH : sm_fr G p (G 12 f) la lb (K + 1) a t = H
  have e : ∀ i g, g ≠ p → H i g = G i g := fun i g hg => by rw [← hH, sm_fr_n hg]
  have ep : ∀ i, i ≤ 11 ∨ i = 15 ∨ i = 20 → H i p = G i p := fun i hi => by rw [← hH, sm_fr_o hi]
  have a12 : H 12 p = G 12 f := by rw [← hH, sm_fr_12]
  have a13 : H 13 p = la := by rw [← hH, sm_fr_13]
  have a14 : H 14 p = lb := by rw [← hH, sm_fr_14]
  have a16 : H 16 p = 1 := by rw [← hH, sm_fr_16]
  have a17 : H 17 p = K + 1 := by rw [← hH, sm_fr_17]
  have a18 : H 18 p = a := by rw [← hH, sm_fr_18]
  have a19 : H 19 p = t := by rw [← hH, sm_fr_19]
  have a15 : ∀ g, H 15 g = G 15 g := by intro g; rw [← hH, sm_fr_o (by omega)]
  have q : f ≠ p := by omega
  have f4 := e 4 f q
  have f5 := e 5 f q
  have f12 := e 12 f q
  have f15 := e 15 f q
  have f16 := e 16 f q
  have f17 := e 17 f q
  have f18 := e 18 f q
  have f19 := e 19 f q
  have h1 := ep 1 (by omega)
  have h2 := ep 2 (by omega)
  have h4 := ep 4 (by omega)
  have h7 := ep 7 (by omega)
  have h8 := ep 8 (by omega)
  have h9 := ep 9 (by omega)
  have h10 := ep 10 (by omega)
  have h11 := ep 11 (by omega)
  have ck : sm_ck H p f := ⟨hf, by omega, by omega, by omega, by omega, by omega⟩
  have tt : G 19 f ≤ t := by omega
  have F : sm_fzn K n H p := by
    rcases hc with ⟨c1, c2, c3, c4, c5, c6⟩ | ⟨c1, c2, c3, c4, c5⟩
    · have l7 : sm_s0 G f p := by
        rcases l7 with q | q
        · exact q
        · have := q.1; omega
      obtain ⟨d1, d2, d3, d4, d5, d6⟩ := l7
      refine ⟨by omega, by omega, by omega, by omega, by omega, Or.inr (Or.inl ?_)⟩
      unfold sm_f1
      rw [h10, d2]
      exact ⟨by omega, ck, by omega, by omega, by omega, by omega, by omega⟩
    · have l7 : sm_s1 G f p := by
        rcases l7 with q | q
        · have := q.1; omega
        · exact q
      obtain ⟨d1, d2, d3, d4, d5, d6, d7, d8, d9, d10, d11, d12, d13⟩ := l7
      have LA := il _ d9 d4
      rw [d8] at LA
      obtain ⟨m1, m2, m3, m4, m5, m6, m7⟩ := LA
      have m7 : sm_s0 G (G 10 p) p := by
        rcases m7 with q | q
        · exact q
        · have := q.1; omega
      obtain ⟨y1, y2, y3, y4, y5, y6⟩ := iz _ d4 d5
      obtain ⟨k1, k2, k3, k4, k5, k6⟩ := m7
      refine ⟨by omega, by omega, by omega, by omega, by omega, Or.inr (Or.inr ?_)⟩
      unfold sm_f2
      rw [h11, d3]
      exact ⟨by omega, ck, by omega, by omega, by omega, by omega, by omega⟩
  refine ⟨?_, ?_⟩
  · refine sm_frz I p1 lp op tf e ep a17 ?_ F
    intro k1 k2
    rcases hc with ⟨c1, c2, c3, c4, c5, c6⟩ | ⟨c1, c2, c3, c4, c5⟩
    · omega
    · rcases l7 with q | q
      · have := q.1; omega
      · have := q.2.1; omega
  · refine ⟨p1, by rw [a15]; exact lp, a16, a17, ?_, ?_, ?_⟩
    · rw [h4, e 16 _ (by omega)]; exact opp
    · intro g lg zg
      rw [a15] at lg
      by_cases r : g = p
      · rw [r]; exact Nat.le_refl _
      · rw [e 16 g r] at zg
        rw [e 19 g r, a19]
        have := mf g lg zg
        omega
    · intro g lg zg
      rw [a15] at lg
      have r : g ≠ p := fun r => zg (r ▸ a16)
      rw [e 16 g r] at zg
      have := tf g lg zg
      rw [h4]
      rcases iN g p lg lp (by omega) with s | s
      · exact s
      · exact absurd s.1 zg

/-- x is asked and asks its child c -/
theorem sm_ask {K n x c : Nat} {G : Nat → Nat → Nat} (I : sm_inv K n G) (E : sm_e1 G x) (ck : sm_ck G x c) :
    sm_inv K n (sm_op G x) ∧ sm_e1 (sm_op G x) c := by
  have I1 := sm_open I E (H := sm_op G x) (fun i hi => sm_op_o hi) (fun g hg => sm_op_n hg) (by rw [sm_op_e]; omega)
  obtain ⟨i0, ib, il, iz, iN, iM⟩ := I
  obtain ⟨hx, lx, fx, px, bx⟩ := E
  obtain ⟨b1, b2, b3, b4, b5, b6⟩ := ck
  have l1 := (il c b1 b2).1
  rw [b4] at l1
  refine ⟨I1, b1, by rw [sm_op_o (by omega)]; exact b2, by rw [sm_op_n (by omega)]; exact b3, ?_, ?_⟩
  · rw [sm_op_o (i := 4) (by omega), b4, sm_op_e]; omega
  · rw [sm_op_o (i := 15) (by omega), sm_op_o (i := 17) (by omega), b5]; exact bx

/-- x is asked: unfrozen, and all behind it gone -/
theorem sm_top {K n x : Nat} {G : Nat → Nat → Nat} (I : sm_inv K n G) (E : sm_e1 G x) :
    sm_inv K n (sm_ct (sm_op G x) (x + 1)) ∧ ∀ h, sm_ct (sm_op G x) (x + 1) 15 h = 1 → h ≤ x := by
  have I1 := sm_open I E (H := sm_op G x) (fun i hi => sm_op_o hi) (fun g hg => sm_op_n hg) (by rw [sm_op_e]; omega)
  exact sm_cutb I1 (by rw [sm_op_o (by omega)]; exact E.2.1) (by rw [sm_op_e]; omega)

/-- the slot 1 child f of p is exhausted: the slot 0 child is asked -/
theorem sm_31 {K n f : Nat} {G : Nat → Nat → Nat} (_I : sm_inv K n G) (E : sm_e3 K G f) (s : G 5 f = 1) :
    sm_e1 G (G 10 (G 4 f)) := by
  obtain ⟨h1, h2, h3, h4, h5⟩ := E
  rcases h3.2.2.2.2.2.2 with q | q
  · have := q.1; omega
  · obtain ⟨d1, d2, d3, d4, d5, d6, d7, d8, d9, d10, d11, d12, d13⟩ := q
    exact ⟨d9, d4, d5, by rw [d8]; exact h4, by rw [d6]; exact h5⟩
end
section
/-- what the frozen frames' outcome cells hold -/
def sm_eo (G : Nat → Nat → Nat) (A : Nat → Int32) : Prop := ∀ f, 1 ≤ f → G 15 f = 1 → G 16 f = 1 → A (f - 1) = nI (G 12 f)
/-- the reference's frames -/
def sm_Y (K : Nat) (G : Nat → Nat → Nat) (fN fC fD fS fA fB fO fP fL fM : Nat → Int32) : Prop :=
  sm_en K fN (G 0) ∧ sm_en K fC (G 2) ∧ sm_en K fD (G 3) ∧ sm_en K fS (G 9) ∧ sm_ep K fA (G 10) ∧ sm_ep K fB (G 11) ∧
  sm_eo G fO ∧ sm_ep K fP (G 4) ∧ sm_ep K fL (G 13) ∧ sm_ep K fM (G 14)
def sm_ec (G : Nat → Nat → Nat) (f : Nat) : Nat := if G 1 f = 10 then G 9 f else G 2 f
/-- the component's elements -/
def sm_X (K : Nat) (G : Nat → Nat → Nat) (eN eC eD eT eH eR : Nat → Int32) : Prop :=
  sm_en K eN (G 0) ∧ sm_en K eC (sm_ec G) ∧ sm_en K eD (G 3) ∧ sm_ep K eT (G 6) ∧ sm_ep K eH (G 7) ∧ sm_en K eR (G 8)
/-- the triples -/
def sm_T (G : Nat → Nat → Nat) (tE tN : Nat → Int32) : Prop :=
  ∀ f, 1 ≤ f → G 15 f = 1 → G 16 f = 1 → G 1 f = 16 → tE (G 19 f - 1) = nI (f - 1) ∧ tN (G 19 f - 1) = nI (G 12 f)
/-- the frames' nodes -/
def sm_N (K nc : Nat) (kn : Nat → Nat) (G : Nat → Nat → Nat) : Prop := G 10 0 = 1 ∧ ∀ f, 1 ≤ f → f ≤ K → G 0 f < nc ∧ G 1 f = kn (G 0 f) ∧ G 3 f ≤ 8

theorem sm_Y_s {K : Nat} {G H : Nat → Nat → Nat} {fN fC fD fS fA fB fO fP fL fM : Nat → Int32} (h : sm_Y K G fN fC fD fS fA fB fO fP fL fM)
    (e : ∀ i, i ≤ 14 → H i = G i) (z : ∀ f, H 15 f = 1 → H 16 f = 1 → G 15 f = 1 ∧ G 16 f = 1) : sm_Y K H fN fC fD fS fA fB fO fP fL fM := by
  obtain ⟨h1, h2, h3, h4, h5, h6, h7, h8, h9, h10⟩ := h
  unfold sm_Y
  rw [e 0 (by omega), e 2 (by omega), e 3 (by omega), e 9 (by omega), e 10 (by omega), e 11 (by omega), e 4 (by omega), e 13 (by omega), e 14 (by omega)]
  refine ⟨h1, h2, h3, h4, h5, h6, ?_, h8, h9, h10⟩
  intro f hf lf zf
  obtain ⟨l, q⟩ := z f lf zf
  rw [e 12 (by omega)]
  exact h7 f hf l q
theorem sm_X_s {K : Nat} {G H : Nat → Nat → Nat} {eN eC eD eT eH eR : Nat → Int32} (h : sm_X K G eN eC eD eT eH eR)
    (e : ∀ i, i ≤ 9 → H i = G i) : sm_X K H eN eC eD eT eH eR := by
  obtain ⟨h1, h2, h3, h4, h5, h6⟩ := h
  have ec : sm_ec H = sm_ec G := by
    funext f
    unfold sm_ec
    rw [e 1 (by omega), e 2 (by omega), e 9 (by omega)]
  unfold sm_X
  rw [e 0 (by omega), e 3 (by omega), e 6 (by omega), e 7 (by omega), e 8 (by omega), ec]
  exact ⟨h1, h2, h3, h4, h5, h6⟩
theorem sm_T_s {G H : Nat → Nat → Nat} {tE tN : Nat → Int32} (h : sm_T G tE tN) (e1 : H 1 = G 1)
    (z : ∀ f, H 15 f = 1 → H 16 f = 1 → G 15 f = 1 ∧ G 16 f = 1 ∧ (G 1 f = 16 → H 12 f = G 12 f ∧ H 19 f = G 19 f)) : sm_T H tE tN := by
  intro f hf lf zf kf
  rw [e1] at kf
  obtain ⟨l, q, r⟩ := z f lf zf
  rw [(r kf).1, (r kf).2]
  exact h f hf l q kf
theorem sm_N_s {K nc : Nat} {kn : Nat → Nat} {G H : Nat → Nat → Nat} (h : sm_N K nc kn G) (e0 : H 0 = G 0) (e1 : H 1 = G 1) (ea : H 10 = G 10) (e3 : H 3 = G 3) : sm_N K nc kn H := by
  unfold sm_N
  rw [e0, e1, ea, e3]
  exact h
/-- a frame frozen -/
theorem sm_Y_fr {K p v la lb k a t : Nat} {G : Nat → Nat → Nat} {fN fC fD fS fA fB fO fP fL fM fO' fL' fM' : Nat → Int32}
    (h : sm_Y K G fN fC fD fS fA fB fO fP fL fM) (h1 : 1 ≤ p) (h2 : p ≤ K)
    (o : ∀ i, i ≠ p - 1 → fO' i = fO i) (o' : fO' (p - 1) = nI v) (l : ∀ i, i ≠ p - 1 → fL' i = fL i) (l' : fL' (p - 1) = sm_p la)
    (m : ∀ i, i ≠ p - 1 → fM' i = fM i) (m' : fM' (p - 1) = sm_p lb) :
    sm_Y K (sm_fr G p v la lb k a t) fN fC fD fS fA fB fO' fP fL' fM' := by
  obtain ⟨a1, a2, a3, a4, a5, a6, a7, a8, a9, a10⟩ := h
  unfold sm_Y
  rw [sm_fr_o (i := 0) (by omega), sm_fr_o (i := 2) (by omega), sm_fr_o (i := 3) (by omega), sm_fr_o (i := 9) (by omega), sm_fr_o (i := 10) (by omega), sm_fr_o (i := 11) (by omega), sm_fr_o (i := 4) (by omega)]
  refine ⟨a1, a2, a3, a4, a5, a6, ?_, a8, ?_, ?_⟩
  · intro f hf lf zf
    by_cases q : f = p
    · rw [q, sm_fr_12]; exact o'
    · rw [sm_fr_n q] at lf zf ⊢
      rw [o (f - 1) (by omega)]
      exact a7 f hf lf zf
  · intro i hi
    by_cases q : i = p - 1
    · have : i + 1 = p := by omega
      rw [this, sm_fr_13, q]; exact l'
    · rw [l i q, sm_fr_n (by omega)]; exact a9 i hi
  · intro i hi
    by_cases q : i = p - 1
    · have : i + 1 = p := by omega
      rw [this, sm_fr_14, q]; exact m'
    · rw [m i q, sm_fr_n (by omega)]; exact a10 i hi
theorem sm_X_fr {K p v la lb k a t : Nat} {G : Nat → Nat → Nat} {eN eC eD eT eH eR : Nat → Int32} (h : sm_X K G eN eC eD eT eH eR) :
    sm_X K (sm_fr G p v la lb k a t) eN eC eD eT eH eR := sm_X_s h (fun _ hi => sm_fr_o (by omega))
/-- a state cell set -/
theorem sm_Y_st {K p s : Nat} {G : Nat → Nat → Nat} {fN fC fD fS fA fB fO fP fL fM : Nat → Int32}
    (h : sm_Y K G fN fC fD fS fA fB fO fP fL fM) (h1 : 1 ≤ p) {v : Int32} (hv : v = nI s) : sm_Y K (sm_st G p s) fN fC fD (upd fS (p - 1) v) fA fB fO fP fL fM := by
  obtain ⟨a1, a2, a3, a4, a5, a6, a7, a8, a9, a10⟩ := h
  unfold sm_Y
  rw [sm_st_o (i := 0) (by omega), sm_st_o (i := 2) (by omega), sm_st_o (i := 3) (by omega), sm_st_o (i := 10) (by omega), sm_st_o (i := 11) (by omega), sm_st_o (i := 4) (by omega), sm_st_o (i := 13) (by omega), sm_st_o (i := 14) (by omega)]
  refine ⟨a1, a2, a3, sm_en_u a4 h1 (fun j hj => sm_st_n hj) (by rw [sm_st_e]; exact hv), a5, a6, ?_, a8, a9, a10⟩
  intro f hf lf zf
  rw [sm_st_o (by omega)] at lf zf ⊢
  exact a7 f hf lf zf
/-- a new frame -/
theorem sm_Y_nw {K p q : Nat} {r : Nat → Nat} {G : Nat → Nat → Nat} {fN fC fD fS fA fB fO fP fL fM fA' fB' fO' : Nat → Int32} {vN vC vD vS vP vL vM : Int32}
    (h : sm_Y K G fN fC fD fS fA fB fO fP fL fM) (hp : p ≤ K) (hl : ∀ g, G 15 g = 1 → g ≤ K) (hz : r 16 ≠ 1)
    (hq : q = 10 ∨ q = 11) (hN : vN = nI (r 0)) (hC : vC = nI (r 2)) (hD : vD = nI (r 3)) (hS : vS = nI (r 9)) (hP : vP = sm_p (r 4))
    (hL : vL = sm_p (r 13)) (hM : vM = sm_p (r 14)) (oo : ∀ i, i < K → fO' i = fO i)
    (hA : sm_ep (K + 1) fA' (sm_nw G (K + 1) p q r 10)) (hB : sm_ep (K + 1) fB' (sm_nw G (K + 1) p q r 11)) :
    sm_Y (K + 1) (sm_nw G (K + 1) p q r) (upd fN K vN) (upd fC K vC) (upd fD K vD) (upd fS K vS) fA' fB' fO' (upd fP K vP) (upd fL K vL) (upd fM K vM) := by
  obtain ⟨a1, a2, a3, a4, a5, a6, a7, a8, a9, a10⟩ := h
  have e : ∀ i j, i ≠ 10 → i ≠ 11 → 1 ≤ j → j ≤ K → sm_nw G (K + 1) p q r i j = G i j := fun i j h1 h2 _ h3 => sm_nw_n (by omega) (Or.inr (by omega))
  refine ⟨sm_en_n a1 (fun j => e 0 j (by omega) (by omega)) (by rw [sm_nw_k]; exact hN), sm_en_n a2 (fun j => e 2 j (by omega) (by omega)) (by rw [sm_nw_k]; exact hC), sm_en_n a3 (fun j => e 3 j (by omega) (by omega)) (by rw [sm_nw_k]; exact hD), sm_en_n a4 (fun j => e 9 j (by omega) (by omega)) (by rw [sm_nw_k]; exact hS), hA, hB, ?_, sm_ep_n a8 (fun j => e 4 j (by omega) (by omega)) (by rw [sm_nw_k]; exact hP), sm_ep_n a9 (fun j => e 13 j (by omega) (by omega)) (by rw [sm_nw_k]; exact hL), sm_ep_n a10 (fun j => e 14 j (by omega) (by omega)) (by rw [sm_nw_k]; exact hM)⟩
  intro f hf lf zf
  by_cases s : f = K + 1
  · rw [s, sm_nw_k] at zf; exact absurd zf hz
  · rw [sm_nw_n s (Or.inr (by omega))] at lf zf ⊢
    have := hl f lf
    rw [oo (f - 1) (by omega)]
    exact a7 f hf lf zf
theorem sm_X_nw {K p q : Nat} {r : Nat → Nat} {G : Nat → Nat → Nat} {eN eC eD eT eH eR : Nat → Int32} (h : sm_X K G eN eC eD eT eH eR) (hq : q = 10 ∨ q = 11) :
    sm_X K (sm_nw G (K + 1) p q r) eN eC eD eT eH eR := by
  obtain ⟨h1, h2, h3, h4, h5, h6⟩ := h
  have e : ∀ i j, i ≤ 9 → 1 ≤ j → j ≤ K → sm_nw G (K + 1) p q r i j = G i j := fun i j h1 _ h3 => sm_nw_n (by omega) (Or.inr (by omega))
  refine ⟨sm_en_c h1 (fun j => e 0 j (by omega)), sm_en_c h2 ?_, sm_en_c h3 (fun j => e 3 j (by omega)), sm_ep_c h4 (fun j => e 6 j (by omega)), sm_ep_c h5 (fun j => e 7 j (by omega)), sm_en_c h6 (fun j => e 8 j (by omega))⟩
  intro j j1 j2
  unfold sm_ec
  rw [e 1 j (by omega) j1 j2, e 2 j (by omega) j1 j2, e 9 j (by omega) j1 j2]
theorem sm_T_nw {K p q : Nat} {r : Nat → Nat} {G : Nat → Nat → Nat} {tE tN : Nat → Int32} (h : sm_T G tE tN) (hz : r 16 ≠ 1) (hq : q = 10 ∨ q = 11) :
    sm_T (sm_nw G (K + 1) p q r) tE tN := by
  intro f hf lf zf kf
  by_cases s : f = K + 1
  · rw [s, sm_nw_k] at zf; exact absurd zf hz
  · rw [sm_nw_n s (Or.inr (by omega))] at lf zf kf
    rw [sm_nw_n s (Or.inr (by omega)), sm_nw_n s (Or.inr (by omega))]
    exact h f hf lf zf kf
theorem sm_N_nw {K p q nc : Nat} {kn r : Nat → Nat} {G : Nat → Nat → Nat} (h : sm_N K nc kn G) (hr : r 0 < nc ∧ r 1 = kn (r 0) ∧ r 3 ≤ 8) (hq : q = 10 ∨ q = 11) (hp : 1 ≤ p) :
    sm_N (K + 1) nc kn (sm_nw G (K + 1) p q r) := by
  refine ⟨by rw [sm_nw_n (by omega) (Or.inl (by omega))]; exact h.1, ?_⟩
  intro f h1 h2
  by_cases s : f = K + 1
  · rw [s, sm_nw_k, sm_nw_k, sm_nw_k]; exact hr
  · rw [sm_nw_n s (Or.inr (by omega)), sm_nw_n s (Or.inr (by omega)), sm_nw_n s (Or.inr (by omega))]
    exact h.2 f h1 (by omega)
end
section
theorem pk_charN {q : Nat} (hq : q < 65536) : narrow .char (.int (nI q)) = .int (nI q) ∧ fits .char (.int (nI q)) = true := by
  constructor
  · have e : (nI q).toUInt32.toUInt16.toUInt32.toInt32 = nI q := by
      apply Int32.toBitVec_inj.mp
      apply BitVec.eq_of_toNat_eq
      show (nI q).toUInt32.toUInt16.toUInt32.toNat = q % 2 ^ 32
      rw [UInt16.toNat_toUInt32, UInt32.toNat_toUInt16, show (nI q).toUInt32.toNat = q % 2 ^ 32 from rfl]
      omega
    exact congrArg Value.int e
  · have a : (0 : Int32) ≤ nI q := nI_pos' (by omega)
    have b : nI q ≤ 65535 := nI_le (b := 65535) (by omega) (by decide)
    show (decide ((0 : Int32) ≤ nI q) && decide (nI q ≤ 65535)) = true
    rw [decide_eq_true a, decide_eq_true b]
    rfl
theorem sm_16 : (16 : Int32) = nI 16 := rfl
theorem sm_5 : (5 : Int32) = nI 5 := rfl
theorem pk_sub {a b : Nat} (h : b ≤ a) : nI a - nI b = nI (a - b) := by
  have e : nI a = nI (a - b) + nI b := by rw [nI_add]; congr 1; omega
  rw [e]
  grind
theorem pk_mul (a b : Nat) : nI a * nI b = nI (a * b) := by
  unfold nI
  rw [Int32.ofNat_mul]
theorem sm_ix5 (a f : Nat) : nI a * 5 + nI f = nI (5 * a + f) := by
  rw [sm_5, pk_mul, nI_add, Nat.mul_comm]
theorem sm_cl {a : Nat} (h : a < 2 ^ 31) : (nI a).toNatClampNeg = a := nI_clamp h

/-- the text of v after j characters of the subject from a on -/
def sm_put (sj tx : Nat → Int32) (v a : Nat) : Nat → Nat → Int32
  | 0 => tx
  | j + 1 => upd (sm_put sj tx v a j) (v * 16 + j) (vp_nar .char (sj (a + j)))
section
variable {xms xsl xdl xnc xsd xn xlr xls xle xst xnw xtc xtu xtn xcu xtd xtt xsr : Int32} {xno xsk xrt xsj xtx xtl xcr eN eC eD eT eH eR tE tN : Nat → Int32}
variable {yms ysl ydl ync ysp yn ylr yls yle yfc yst ycf yev yfr ydo : Int32} {nK nA nB nL nR ysk yrt ysj ytx ytl ycr fN fC fD fS fA fB fO fP fL fM tS tG : Nat → Int32}
theorem sx_text {post : SX → Prop} {v a b : Nat} (hv : v ≤ 7) (hb : b ≤ 16) :
    ∀ d j n, a + j + d = b → d < n →
    post (xms, xsl, xdl, xnc, xsd, xn, xlr, xls, xle, xst, xnw, xtc, xtu, xtn, xcu, xtd, xtt, xsr, xno, xsk, xrt, xsj, sm_put xsj xtx v a (b - a), upd xtl v (nI (b - a)), xcr, eN, eC, eD, eT, eH, eR, tE, tN) →
    wX_setText_3 post (nI v) (nI a) (nI b) xms xsl xdl xnc xsd xn xlr xls xle xst xnw xtc xtu xtn xcu xtd xtt xsr n (nI (a + j)) xno xsk xrt xsj (sm_put xsj xtx v a j) xtl xcr eN eC eD eT eH eR tE tN := by
  intro d
  induction d with
  | zero =>
    intro j n h hn hp
    obtain ⟨n, rfl⟩ : ∃ m, n = m + 1 := ⟨n - 1, by omega⟩
    have e : b - a = j := by omega
    rw [e] at hp
    refine br_t (nI_le (by omega) (by omega)) ⟨vp_in_nI (by omega) (by omega), nm_r ?_ hp⟩
    rw [pk_sub (by omega), sm_cl (by omega), e]
  | succ d ih =>
    intro j n h hn hp
    obtain ⟨n, rfl⟩ : ∃ m, n = m + 1 := ⟨n - 1, by omega⟩
    have ei : nI v * 16 + nI (a + j) - nI a = nI (v * 16 + j) := by
      rw [sm_16, pk_mul, nI_add, pk_sub (by omega)]
      congr 1
      omega
    refine br_f (nI_ge (by omega) (by omega)) ⟨vp_in_nI (by omega) (by omega), ?_, nm_r ?_ (nm_r (nI_1 _) (ih (j + 1) n (by omega) (by omega) hp))⟩
    · rw [ei]; exact vp_in_nI (by omega) (by omega)
    · rw [ei, sm_cl (by omega), sm_cl (by omega)]
      rfl
theorem sx_setText {post : SX → Prop} {v a b : Nat} (hv : v ≤ 7) (ha : a ≤ b) (hb : b ≤ 16)
    (hp : post (xms, xsl, xdl, xnc, xsd, xn, xlr, xls, xle, xst, xnw, xtc, xtu, xtn, xcu, xtd, xtt, xsr, xno, xsk, xrt, xsj, sm_put xsj xtx v a (b - a), upd xtl v (nI (b - a)), xcr, eN, eC, eD, eT, eH, eR, tE, tN)) :
    wpX_setText post (xms, xsl, xdl, xnc, xsd, xn, xlr, xls, xle, xst, xnw, xtc, xtu, xtn, xcu, xtd, xtt, xsr, xno, xsk, xrt, xsj, xtx, xtl, xcr, eN, eC, eD, eT, eH, eR, tE, tN) (nI v) (nI a) (nI b) :=
  ⟨b - a + 1, sx_text hv hb (b - a) 0 (b - a + 1) (by omega) (by omega) hp⟩
theorem sy_text {post : SY → Prop} {v a b : Nat} (hv : v ≤ 7) (ha : a ≤ b) (hb : b ≤ 16) :
    ∀ d j n, a + j + d = b → d < n →
    post (yms, ysl, ydl, ync, ysp, yn, ylr, yls, yle, yfc, yst, ycf, yev, yfr, ydo, nK, nA, nB, nL, nR, ysk, yrt, ysj, sm_put ysj ytx v a (b - a), upd ytl v (nI (b - a)), ycr, fN, fC, fD, fS, fA, fB, fO, fP, fL, fM, tS, tG) →
    wY_setVar_36 post (nI v) (nI a) (nI (b - a)) yms ysl ydl ync ysp yn ylr yls yle yfc yst ycf yev yfr ydo n (nI j) nK nA nB nL nR ysk yrt ysj (sm_put ysj ytx v a j) ytl ycr fN fC fD fS fA fB fO fP fL fM tS tG := by
  intro d
  induction d with
  | zero =>
    intro j n h hn hp
    obtain ⟨n, rfl⟩ : ∃ m, n = m + 1 := ⟨n - 1, by omega⟩
    have e : b - a = j := by omega
    rw [e] at hp ⊢
    refine br_t (nI_le (by omega) (by omega)) ⟨vp_in_nI (by omega) (by omega), nm_r ?_ hp⟩
    rw [sm_cl (by omega)]
  | succ d ih =>
    intro j n h hn hp
    obtain ⟨n, rfl⟩ : ∃ m, n = m + 1 := ⟨n - 1, by omega⟩
    have ei : nI v * 16 + nI j = nI (v * 16 + j) := by
      rw [sm_16, pk_mul, nI_add]
    refine br_f (nI_ge (by omega) (by omega)) (br_f (nI_ge (b := 16) (by omega) (by omega)) ⟨?_, ?_, nm_r ?_ (nm_r (nI_1 _) (ih (j + 1) n (by omega) (by omega) hp))⟩)
    · rw [nI_add]; exact vp_in_nI (by omega) (by omega)
    · rw [ei]; exact vp_in_nI (by omega) (by omega)
    · rw [ei, nI_add, sm_cl (by omega), sm_cl (by omega)]
      rfl
theorem sy_setVar {post : SY → Prop} {v a b n : Nat} (hv : v ≤ 7) (ha : a ≤ b) (hb : b ≤ n) (hn : n ≤ 16)
    (hp : post (yms, ysl, ydl, ync, ysp, nI n, ylr, yls, yle, yfc, yst, ycf, yev, yfr, ydo, nK, nA, nB, nL, nR, ysk, yrt, ysj, sm_put ysj ytx v a (b - a), upd ytl v (nI (b - a)), ycr, fN, fC, fD, fS, fA, fB, fO, fP, fL, fM, tS, tG)) :
    wpY_setVar post (yms, ysl, ydl, ync, ysp, nI n, ylr, yls, yle, yfc, yst, ycf, yev, yfr, ydo, nK, nA, nB, nL, nR, ysk, yrt, ysj, ytx, ytl, ycr, fN, fC, fD, fS, fA, fB, fO, fP, fL, fM, tS, tG) (nI v) (nI a) (nI b) := by
  refine br_f (nI_pos (by omega)) (br_f (nI_nlt (a := 7) (b := v) ?_ ?_) (br_f (nI_pos (by omega)) (br_f (nI_nlt (by omega) (by omega)) (br_t (nI_le (by omega) (by omega)) (nm_r (pk_sub ha) ⟨b - a + 1, ?_⟩)))))
  · omega
  · omega
  · exact sy_text hv ha (by omega) (b - a) 0 (b - a + 1) (by omega) (by omega) hp
end
end
section
/-- an answer of a leaf -/
def sm_an (c n : Nat) (r : Int32) : Prop := r = -1 ∨ ∃ e, c ≤ e ∧ e ≤ n ∧ r = nI e
theorem sm_m1lt : ¬ (0 : Int32) ≤ -1 := by decide
theorem sm_m1ne {e : Nat} (h : e < 2 ^ 31) : ¬ nI e = -1 := by
  intro z
  have := congrArg Int32.toInt z
  rw [nI_toInt h, sm_m1] at this
  omega
section
variable {xms xsl xdl xnc xsd xn xlr xls xle xst xnw xtc xtu xtn xcu xtd xtt xsr : Int32} {xno xsk xrt xsj xtx xtl xcr eN eC eD eT eH eR tE tN : Nat → Int32}
variable {yms ysl ydl ync ysp yn ylr yls yle yfc yst ycf yev yfr ydo : Int32} {nK nA nB nL nR ysk yrt ysj ytx ytl ycr fN fC fD fS fA fB fO fP fL fM tS tG : Nat → Int32}
theorem sm_span {n c : Nat} {a b : Int32} (hn : n ≤ 16) (hc : c ≤ n) : ∀ d e, e + d = n → c ≤ e →
    ∃ r, sm_an c n r ∧ (∀ post m, d < m → post r → wX_spanEnd_3 post a b (nI c) xms xsl xdl xnc xsd (nI n) xlr xls xle xst xnw xtc xtu xtn xcu xtd xtt xsr xno xsk xrt xsj xtx xtl xcr eN eC eD eT eH eR tE tN m (nI e)) ∧
      (∀ post m, d < m → post r → wY_leafValue_189 post (nI c) a b yms ysl ydl ync ysp (nI n) ylr yls yle yfc yst ycf yev yfr ydo nK nA nB nL nR ysk yrt xsj ytx ytl ycr fN fC fD fS fA fB fO fP fL fM tS tG m (nI e) (nI (e - c))) := by
  intro d
  induction d with
  | zero =>
    intro e he hce
    by_cases q : e ≤ c
    · refine ⟨-1, Or.inl rfl, ?_, ?_⟩
      · intro post m hm hp
        obtain ⟨m, rfl⟩ : ∃ k, m = k + 1 := ⟨m - 1, by omega⟩
        exact br_t (nI_le (by omega) (by omega)) (br_t (nI_le (by omega) (by omega)) hp)
      · intro post m hm hp
        obtain ⟨m, rfl⟩ : ∃ k, m = k + 1 := ⟨m - 1, by omega⟩
        exact br_f (nI_ge (b := 17) (by omega) (by omega)) (br_t (nI_le (by omega) (by omega)) (br_t (nI_le (by omega) (by omega)) hp))
    · refine ⟨nI e, Or.inr ⟨e, by omega, by omega, rfl⟩, ?_, ?_⟩
      · intro post m hm hp
        obtain ⟨m, rfl⟩ : ∃ k, m = k + 1 := ⟨m - 1, by omega⟩
        exact br_t (nI_le (by omega) (by omega)) (br_f (nI_ge (by omega) (by omega)) hp)
      · intro post m hm hp
        obtain ⟨m, rfl⟩ : ∃ k, m = k + 1 := ⟨m - 1, by omega⟩
        exact br_f (nI_ge (b := 17) (by omega) (by omega)) (br_t (nI_le (by omega) (by omega)) (br_f (nI_ge (by omega) (by omega)) hp))
  | succ d ih =>
    intro e he hce
    have vi : vp_in (nI e) 16 := vp_in_nI (by omega) (by omega)
    have stop : (xsj (nI e).toNatClampNeg < a ∨ b < xsj (nI e).toNatClampNeg) → ∃ r, sm_an c n r ∧ (∀ post m, d + 1 < m → post r → wX_spanEnd_3 post a b (nI c) xms xsl xdl xnc xsd (nI n) xlr xls xle xst xnw xtc xtu xtn xcu xtd xtt xsr xno xsk xrt xsj xtx xtl xcr eN eC eD eT eH eR tE tN m (nI e)) ∧
      (∀ post m, d + 1 < m → post r → wY_leafValue_189 post (nI c) a b yms ysl ydl ync ysp (nI n) ylr yls yle yfc yst ycf yev yfr ydo nK nA nB nL nR ysk yrt xsj ytx ytl ycr fN fC fD fS fA fB fO fP fL fM tS tG m (nI e) (nI (e - c))) := by
      intro st
      have fin : ∃ r, sm_an c n r ∧ (∀ post : Int32 → Prop, post r → wX_spanEnd_40 post (nI c) (nI e) xms xsl xdl xnc xsd (nI n) xlr xls xle xst xnw xtc xtu xtn xcu xtd xtt xsr xno xsk xrt xsj xtx xtl xcr eN eC eD eT eH eR tE tN) ∧ (∀ post : Int32 → Prop, post r → wY_leafValue_238 post (nI c) (nI e) yms ysl ydl ync ysp (nI n) ylr yls yle yfc yst ycf yev yfr ydo nK nA nB nL nR ysk yrt xsj ytx ytl ycr fN fC fD fS fA fB fO fP fL fM tS tG) := by
        by_cases q : e ≤ c
        · exact ⟨-1, Or.inl rfl, fun post hp => br_t (nI_le (by omega) (by omega)) hp, fun post hp => br_t (nI_le (by omega) (by omega)) hp⟩
        · exact ⟨nI e, Or.inr ⟨e, by omega, by omega, rfl⟩, fun post hp => br_f (nI_ge (by omega) (by omega)) hp, fun post hp => br_f (nI_ge (by omega) (by omega)) hp⟩
      obtain ⟨r, hr, fx, fy⟩ := fin
      refine ⟨r, hr, ?_, ?_⟩
      · intro post m hm hp
        obtain ⟨m, rfl⟩ : ∃ k, m = k + 1 := ⟨m - 1, by omega⟩
        refine br_f (nI_ge (by omega) (by omega)) ⟨vi, ?_⟩
        by_cases q : xsj (nI e).toNatClampNeg < a
        · exact br_t q (fx post hp)
        · rcases st with s | s
          · exact absurd s q
          · exact br_f q ⟨vi, br_t s (fx post hp)⟩
      · intro post m hm hp
        obtain ⟨m, rfl⟩ : ∃ k, m = k + 1 := ⟨m - 1, by omega⟩
        refine br_f (nI_ge (b := 17) (by omega) (by omega)) (br_f (nI_ge (by omega) (by omega)) ⟨vi, ?_⟩)
        by_cases q : xsj (nI e).toNatClampNeg < a
        · exact br_t q (fy post hp)
        · rcases st with s | s
          · exact absurd s q
          · exact br_f q ⟨vi, br_t s (fy post hp)⟩
    by_cases q : xsj (nI e).toNatClampNeg < a
    · exact stop (Or.inl q)
    · by_cases s : b < xsj (nI e).toNatClampNeg
      · exact stop (Or.inr s)
      · obtain ⟨r, hr, ix, iy⟩ := ih (e + 1) (by omega) (by omega)
        refine ⟨r, hr, ?_, ?_⟩
        · intro post m hm hp
          obtain ⟨m, rfl⟩ : ∃ k, m = k + 1 := ⟨m - 1, by omega⟩
          exact br_f (nI_ge (by omega) (by omega)) ⟨vi, br_f q ⟨vi, br_f s (nm_r (nI_1 e) (ix post m (by omega) hp))⟩⟩
        · intro post m hm hp
          obtain ⟨m, rfl⟩ : ∃ k, m = k + 1 := ⟨m - 1, by omega⟩
          have e2 : nI (e - c) + 1 = nI (e + 1 - c) := by rw [nI_1]; congr 1; omega
          exact br_f (nI_ge (b := 17) (by omega) (by omega)) (br_f (nI_ge (by omega) (by omega)) ⟨vi, br_f q ⟨vi, br_f s (nm_r (nI_1 e) (nm_r e2 (iy post m (by omega) hp)))⟩⟩)
theorem sm_break {n c : Nat} {a b : Int32} (hn : n ≤ 16) : ∀ d e, e + d = n → c ≤ e →
    ∃ r, sm_an c n r ∧ (∀ post m, d < m → post r → wX_breakEnd_3 post a b xms xsl xdl xnc xsd (nI n) xlr xls xle xst xnw xtc xtu xtn xcu xtd xtt xsr xno xsk xrt xsj xtx xtl xcr eN eC eD eT eH eR tE tN m (nI e)) ∧
      (∀ post m, d < m → post r → wY_leafValue_260 post a b yms ysl ydl ync ysp (nI n) ylr yls yle yfc yst ycf yev yfr ydo nK nA nB nL nR ysk yrt xsj ytx ytl ycr fN fC fD fS fA fB fO fP fL fM tS tG m (nI e)) := by
  intro d
  induction d with
  | zero =>
    intro e he hce
    refine ⟨-1, Or.inl rfl, ?_, ?_⟩
    · intro post m hm hp
      obtain ⟨m, rfl⟩ : ∃ k, m = k + 1 := ⟨m - 1, by omega⟩
      exact br_t (nI_le (by omega) (by omega)) hp
    · intro post m hm hp
      obtain ⟨m, rfl⟩ : ∃ k, m = k + 1 := ⟨m - 1, by omega⟩
      exact br_t (nI_le (by omega) (by omega)) hp
  | succ d ih =>
    intro e he hce
    have vi : vp_in (nI e) 16 := vp_in_nI (by omega) (by omega)
    by_cases st : xsj (nI e).toNatClampNeg < a ∨ b < xsj (nI e).toNatClampNeg
    · obtain ⟨r, hr, ix, iy⟩ := ih (e + 1) (by omega) (by omega)
      refine ⟨r, hr, ?_, ?_⟩
      · intro post m hm hp
        obtain ⟨m, rfl⟩ : ∃ k, m = k + 1 := ⟨m - 1, by omega⟩
        refine br_f (nI_ge (by omega) (by omega)) ⟨vi, ?_⟩
        by_cases q : xsj (nI e).toNatClampNeg < a
        · exact br_t q (nm_r (nI_1 e) (ix post m (by omega) hp))
        · rcases st with s | s
          · exact absurd s q
          · exact br_f q ⟨vi, br_t s (nm_r (nI_1 e) (ix post m (by omega) hp))⟩
      · intro post m hm hp
        obtain ⟨m, rfl⟩ : ∃ k, m = k + 1 := ⟨m - 1, by omega⟩
        refine br_f (nI_ge (by omega) (by omega)) ⟨vi, ?_⟩
        by_cases q : xsj (nI e).toNatClampNeg < a
        · exact br_t q (nm_r (nI_1 e) (iy post m (by omega) hp))
        · rcases st with s | s
          · exact absurd s q
          · exact br_f q ⟨vi, br_t s (nm_r (nI_1 e) (iy post m (by omega) hp))⟩
    · have q : ¬ xsj (nI e).toNatClampNeg < a := fun z => st (Or.inl z)
      have s : ¬ b < xsj (nI e).toNatClampNeg := fun z => st (Or.inr z)
      refine ⟨nI e, Or.inr ⟨e, by omega, by omega, rfl⟩, ?_, ?_⟩
      · intro post m hm hp
        obtain ⟨m, rfl⟩ : ∃ k, m = k + 1 := ⟨m - 1, by omega⟩
        exact br_f (nI_ge (by omega) (by omega)) ⟨vi, br_f q ⟨vi, br_f s hp⟩⟩
      · intro post m hm hp
        obtain ⟨m, rfl⟩ : ∃ k, m = k + 1 := ⟨m - 1, by omega⟩
        exact br_f (nI_ge (by omega) (by omega)) ⟨vi, br_f q ⟨vi, br_f s hp⟩⟩
end
end
section
section
variable {xms xsl xdl xnc xsd xn xlr xls xle xst xnw xtc xtu xtn xcu xtd xtt xsr : Int32} {xno xsk xrt xsj xtx xtl xcr eN eC eD eT eH eR tE tN : Nat → Int32}
variable {yms ysl ydl ync ysp yn ylr yls yle yfc yst ycf yev yfr ydo : Int32} {nK nA nB nL nR ysk yrt ysj ytx ytl ycr fN fC fD fS fA fB fO fP fL fM tS tG : Nat → Int32}
theorem sm_leaf2 {i n c : Nat} (hi : i < 32) (hn : n ≤ 16) (hc : c ≤ n) (hk : nK i = 2) :
    ∃ r, sm_an c n r ∧ (∀ post : Int32 → Prop, post r → wpX_leafEnd post (xms, xsl, xdl, xnc, xsd, nI n, xlr, xls, xle, xst, xnw, xtc, xtu, xtn, xcu, xtd, xtt, xsr, xno, xsk, xrt, xsj, xtx, xtl, xcr, eN, eC, eD, eT, eH, eR, tE, tN) 2 (nA i) (nB i) (nI c)) ∧
      (∀ post : Int32 → Prop, post r → wpY_leafValue post (yms, ysl, ydl, ync, ysp, nI n, ylr, yls, yle, yfc, yst, ycf, yev, yfr, ydo, nK, nA, nB, nL, nR, ysk, yrt, xsj, ytx, ytl, ycr, fN, fC, fD, fS, fA, fB, fO, fP, fL, fM, tS, tG) (nI i) (nI c)) := by
  exact ⟨nI c, Or.inr ⟨c, by omega, by omega, rfl⟩, fun post hp => br_f (by decide) (br_f (by decide) (br_f (by decide) (br_t rfl (hp)))), fun post hp => ⟨vp_in_nI hi (by omega), nm_r ((congrArg nK (sm_cl (by omega))).trans hk) ⟨vp_in_nI hi (by omega), nm_r (congrArg nA (sm_cl (by omega))) ⟨vp_in_nI hi (by omega), nm_r (congrArg nB (sm_cl (by omega))) (br_t rfl (hp))⟩⟩⟩⟩
theorem sm_leaf11 {i n c : Nat} (hi : i < 32) (hn : n ≤ 16) (hc : c ≤ n) (hk : nK i = 11) :
    ∃ r, sm_an c n r ∧ (∀ post : Int32 → Prop, post r → wpX_leafEnd post (xms, xsl, xdl, xnc, xsd, nI n, xlr, xls, xle, xst, xnw, xtc, xtu, xtn, xcu, xtd, xtt, xsr, xno, xsk, xrt, xsj, xtx, xtl, xcr, eN, eC, eD, eT, eH, eR, tE, tN) 11 (nA i) (nB i) (nI c)) ∧
      (∀ post : Int32 → Prop, post r → wpY_leafValue post (yms, ysl, ydl, ync, ysp, nI n, ylr, yls, yle, yfc, yst, ycf, yev, yfr, ydo, nK, nA, nB, nL, nR, ysk, yrt, xsj, ytx, ytl, ycr, fN, fC, fD, fS, fA, fB, fO, fP, fL, fM, tS, tG) (nI i) (nI c)) := by
  exact ⟨nI c, Or.inr ⟨c, by omega, by omega, rfl⟩, fun post hp => br_f (by decide) (br_f (by decide) (br_f (by decide) (br_f (by decide) (br_f (by decide) (br_f (by decide) (br_f (by decide) (br_f (by decide) (br_f (by decide) (br_f (by decide) (br_f (by decide) (br_f (by decide) (br_t rfl (hp))))))))))))), fun post hp => ⟨vp_in_nI hi (by omega), nm_r ((congrArg nK (sm_cl (by omega))).trans hk) ⟨vp_in_nI hi (by omega), nm_r (congrArg nA (sm_cl (by omega))) ⟨vp_in_nI hi (by omega), nm_r (congrArg nB (sm_cl (by omega))) (br_f (by decide) (br_t rfl (hp)))⟩⟩⟩⟩
theorem sm_leaf3 {i n c : Nat} (hi : i < 32) (hn : n ≤ 16) (hc : c ≤ n) (hk : nK i = 3) :
    ∃ r, sm_an c n r ∧ (∀ post : Int32 → Prop, post r → wpX_leafEnd post (xms, xsl, xdl, xnc, xsd, nI n, xlr, xls, xle, xst, xnw, xtc, xtu, xtn, xcu, xtd, xtt, xsr, xno, xsk, xrt, xsj, xtx, xtl, xcr, eN, eC, eD, eT, eH, eR, tE, tN) 3 (nA i) (nB i) (nI c)) ∧
      (∀ post : Int32 → Prop, post r → wpY_leafValue post (yms, ysl, ydl, ync, ysp, nI n, ylr, yls, yle, yfc, yst, ycf, yev, yfr, ydo, nK, nA, nB, nL, nR, ysk, yrt, xsj, ytx, ytl, ycr, fN, fC, fD, fS, fA, fB, fO, fP, fL, fM, tS, tG) (nI i) (nI c)) := by
  exact ⟨-1, Or.inl rfl, fun post hp => br_f (by decide) (br_f (by decide) (br_f (by decide) (br_f (by decide) (br_t rfl (hp))))), fun post hp => ⟨vp_in_nI hi (by omega), nm_r ((congrArg nK (sm_cl (by omega))).trans hk) ⟨vp_in_nI hi (by omega), nm_r (congrArg nA (sm_cl (by omega))) ⟨vp_in_nI hi (by omega), nm_r (congrArg nB (sm_cl (by omega))) (br_f (by decide) (br_f (by decide) (br_f (by decide) (br_f (by decide) (br_f (by decide) (br_f (by decide) (br_f (by decide) (br_f (by decide) (br_f (by decide) (hp))))))))))⟩⟩⟩⟩
theorem sm_leaf1 {i n c : Nat} (hi : i < 32) (hn : n ≤ 16) (hc : c ≤ n) (hk : nK i = 1) :
    ∃ r, sm_an c n r ∧ (∀ post : Int32 → Prop, post r → wpX_leafEnd post (xms, xsl, xdl, xnc, xsd, nI n, xlr, xls, xle, xst, xnw, xtc, xtu, xtn, xcu, xtd, xtt, xsr, xno, xsk, xrt, xsj, xtx, xtl, xcr, eN, eC, eD, eT, eH, eR, tE, tN) 1 (nA i) (nB i) (nI c)) ∧
      (∀ post : Int32 → Prop, post r → wpY_leafValue post (yms, ysl, ydl, ync, ysp, nI n, ylr, yls, yle, yfc, yst, ycf, yev, yfr, ydo, nK, nA, nB, nL, nR, ysk, yrt, xsj, ytx, ytl, ycr, fN, fC, fD, fS, fA, fB, fO, fP, fL, fM, tS, tG) (nI i) (nI c)) := by
  have cl : (nI c).toNatClampNeg = c := sm_cl (by omega)
  by_cases q : n ≤ c
  · exact ⟨-1, Or.inl rfl, fun post hp => br_f (by decide) (br_f (by decide) (br_t rfl (br_t (nI_le q (by omega)) (br_t rfl hp)))), fun post hp => ⟨vp_in_nI hi (by omega), nm_r ((congrArg nK (sm_cl (by omega))).trans hk) ⟨vp_in_nI hi (by omega), nm_r (congrArg nA (sm_cl (by omega))) ⟨vp_in_nI hi (by omega), nm_r (congrArg nB (sm_cl (by omega))) (br_f (by decide) (br_f (by decide) (br_t rfl (br_t (nI_le q (by omega)) hp))))⟩⟩⟩⟩
  · have nq : ¬ nI n ≤ nI c := nI_ge (by omega) (by omega)
    have vi : vp_in (nI c) 16 := vp_in_nI (by omega) (by omega)
    have ea : nA (nI i).toNatClampNeg = nA i := congrArg nA (sm_cl (by omega))
    by_cases s : xsj (nI c).toNatClampNeg = nA i
    · have l1 : ¬ xsj (nI c).toNatClampNeg < nA i := by rw [s]; exact Int32.lt_irrefl
      have l2 : ¬ nA i < xsj (nI c).toNatClampNeg := by rw [s]; exact Int32.lt_irrefl
      exact ⟨nI c + 1, Or.inr ⟨c + 1, by omega, by omega, nI_1 c⟩, fun post hp => br_f (by decide) (br_f (by decide) (br_t rfl (br_f nq ⟨vi, br_f l1 ⟨vi, br_f l2 (br_f (by decide) hp)⟩⟩))), fun post hp => ⟨vp_in_nI hi (by omega), nm_r ((congrArg nK (sm_cl (by omega))).trans hk) ⟨vp_in_nI hi (by omega), nm_r (congrArg nA (sm_cl (by omega))) ⟨vp_in_nI hi (by omega), nm_r (congrArg nB (sm_cl (by omega))) (br_f (by decide) (br_f (by decide) (br_t rfl (br_f nq ⟨vi, br_t s hp⟩))))⟩⟩⟩⟩
    · by_cases l1 : xsj (nI c).toNatClampNeg < nA i
      · exact ⟨-1, Or.inl rfl, fun post hp => br_f (by decide) (br_f (by decide) (br_t rfl (br_f nq ⟨vi, br_t l1 (br_t rfl hp)⟩))), fun post hp => ⟨vp_in_nI hi (by omega), nm_r ((congrArg nK (sm_cl (by omega))).trans hk) ⟨vp_in_nI hi (by omega), nm_r (congrArg nA (sm_cl (by omega))) ⟨vp_in_nI hi (by omega), nm_r (congrArg nB (sm_cl (by omega))) (br_f (by decide) (br_f (by decide) (br_t rfl (br_f nq ⟨vi, br_f s hp⟩))))⟩⟩⟩⟩
      · have l2 : nA i < xsj (nI c).toNatClampNeg := by
          rcases Int32.lt_or_eq_of_le (Int32.not_lt.mp l1) with z | z
          · exact z
          · exact absurd z.symm s
        exact ⟨-1, Or.inl rfl, fun post hp => br_f (by decide) (br_f (by decide) (br_t rfl (br_f nq ⟨vi, br_f l1 ⟨vi, br_t l2 (br_t rfl hp)⟩⟩))), fun post hp => ⟨vp_in_nI hi (by omega), nm_r ((congrArg nK (sm_cl (by omega))).trans hk) ⟨vp_in_nI hi (by omega), nm_r (congrArg nA (sm_cl (by omega))) ⟨vp_in_nI hi (by omega), nm_r (congrArg nB (sm_cl (by omega))) (br_f (by decide) (br_f (by decide) (br_t rfl (br_f nq ⟨vi, br_f s hp⟩))))⟩⟩⟩⟩
theorem sm_leaf4 {i n c : Nat} (hi : i < 32) (hn : n ≤ 16) (hc : c ≤ n) (hk : nK i = 4) {a : Nat} (ha : a ≤ 16) (ea : nA i = nI a) :
    ∃ r, sm_an c n r ∧ (∀ post : Int32 → Prop, post r → wpX_leafEnd post (xms, xsl, xdl, xnc, xsd, nI n, xlr, xls, xle, xst, xnw, xtc, xtu, xtn, xcu, xtd, xtt, xsr, xno, xsk, xrt, xsj, xtx, xtl, xcr, eN, eC, eD, eT, eH, eR, tE, tN) 4 (nA i) (nB i) (nI c)) ∧
      (∀ post : Int32 → Prop, post r → wpY_leafValue post (yms, ysl, ydl, ync, ysp, nI n, ylr, yls, yle, yfc, yst, ycf, yev, yfr, ydo, nK, nA, nB, nL, nR, ysk, yrt, xsj, ytx, ytl, ycr, fN, fC, fD, fS, fA, fB, fO, fP, fL, fM, tS, tG) (nI i) (nI c)) := by
  rw [ea]
  have es : nI c + nI a = nI (c + a) := nI_add c a
  have ey : nA (nI i).toNatClampNeg = nI a := (congrArg nA (sm_cl (by omega))).trans ea
  by_cases q : n < c + a
  · have l : nI n < nI c + nI a := by rw [es]; exact nI_lt q (by omega)
    exact ⟨-1, Or.inl rfl, fun post hp => br_f (by decide) (br_f (by decide) (br_f (by decide) (br_f (by decide) (br_f (by decide) (br_t rfl (br_t l hp)))))), fun post hp => ⟨vp_in_nI hi (by omega), nm_r ((congrArg nK (sm_cl (by omega))).trans hk) ⟨vp_in_nI hi (by omega), nm_r ey ⟨vp_in_nI hi (by omega), nm_r (congrArg nB (sm_cl (by omega))) (br_f (by decide) (br_f (by decide) (br_f (by decide) (br_t rfl (br_t l hp)))))⟩⟩⟩⟩
  · have l : ¬ nI n < nI c + nI a := by rw [es]; exact nI_nlt (by omega) (by omega)
    exact ⟨nI c + nI a, Or.inr ⟨c + a, by omega, by omega, es⟩, fun post hp => br_f (by decide) (br_f (by decide) (br_f (by decide) (br_f (by decide) (br_f (by decide) (br_t rfl (br_f l hp)))))), fun post hp => ⟨vp_in_nI hi (by omega), nm_r ((congrArg nK (sm_cl (by omega))).trans hk) ⟨vp_in_nI hi (by omega), nm_r ey ⟨vp_in_nI hi (by omega), nm_r (congrArg nB (sm_cl (by omega))) (br_f (by decide) (br_f (by decide) (br_f (by decide) (br_t rfl (br_f l hp)))))⟩⟩⟩⟩
theorem sm_leaf5 {i n c : Nat} (hi : i < 32) (hn : n ≤ 16) (hc : c ≤ n) (hk : nK i = 5) {a : Nat} (ha : a ≤ 16) (ea : nA i = nI a) :
    ∃ r, sm_an c n r ∧ (∀ post : Int32 → Prop, post r → wpX_leafEnd post (xms, xsl, xdl, xnc, xsd, nI n, xlr, xls, xle, xst, xnw, xtc, xtu, xtn, xcu, xtd, xtt, xsr, xno, xsk, xrt, xsj, xtx, xtl, xcr, eN, eC, eD, eT, eH, eR, tE, tN) 5 (nA i) (nB i) (nI c)) ∧
      (∀ post : Int32 → Prop, post r → wpY_leafValue post (yms, ysl, ydl, ync, ysp, nI n, ylr, yls, yle, yfc, yst, ycf, yev, yfr, ydo, nK, nA, nB, nL, nR, ysk, yrt, xsj, ytx, ytl, ycr, fN, fC, fD, fS, fA, fB, fO, fP, fL, fM, tS, tG) (nI i) (nI c)) := by
  rw [ea]
  have ey : nA (nI i).toNatClampNeg = nI a := (congrArg nA (sm_cl (by omega))).trans ea
  by_cases q : nI c = nI a
  · exact ⟨nI c, Or.inr ⟨c, by omega, by omega, rfl⟩, fun post hp => br_f (by decide) (br_f (by decide) (br_f (by decide) (br_f (by decide) (br_f (by decide) (br_f (by decide) (br_t rfl (br_t q hp))))))), fun post hp => ⟨vp_in_nI hi (by omega), nm_r ((congrArg nK (sm_cl (by omega))).trans hk) ⟨vp_in_nI hi (by omega), nm_r ey ⟨vp_in_nI hi (by omega), nm_r (congrArg nB (sm_cl (by omega))) (br_f (by decide) (br_f (by decide) (br_f (by decide) (br_f (by decide) (br_t rfl (br_t q hp))))))⟩⟩⟩⟩
  · exact ⟨-1, Or.inl rfl, fun post hp => br_f (by decide) (br_f (by decide) (br_f (by decide) (br_f (by decide) (br_f (by decide) (br_f (by decide) (br_t rfl (br_f q hp))))))), fun post hp => ⟨vp_in_nI hi (by omega), nm_r ((congrArg nK (sm_cl (by omega))).trans hk) ⟨vp_in_nI hi (by omega), nm_r ey ⟨vp_in_nI hi (by omega), nm_r (congrArg nB (sm_cl (by omega))) (br_f (by decide) (br_f (by decide) (br_f (by decide) (br_f (by decide) (br_t rfl (br_f q hp))))))⟩⟩⟩⟩
theorem sm_leaf6 {i n c : Nat} (hi : i < 32) (hn : n ≤ 16) (hc : c ≤ n) (hk : nK i = 6) {a : Nat} (ha : a ≤ 16) (ea : nA i = nI a) :
    ∃ r, sm_an c n r ∧ (∀ post : Int32 → Prop, post r → wpX_leafEnd post (xms, xsl, xdl, xnc, xsd, nI n, xlr, xls, xle, xst, xnw, xtc, xtu, xtn, xcu, xtd, xtt, xsr, xno, xsk, xrt, xsj, xtx, xtl, xcr, eN, eC, eD, eT, eH, eR, tE, tN) 6 (nA i) (nB i) (nI c)) ∧
      (∀ post : Int32 → Prop, post r → wpY_leafValue post (yms, ysl, ydl, ync, ysp, nI n, ylr, yls, yle, yfc, yst, ycf, yev, yfr, ydo, nK, nA, nB, nL, nR, ysk, yrt, xsj, ytx, ytl, ycr, fN, fC, fD, fS, fA, fB, fO, fP, fL, fM, tS, tG) (nI i) (nI c)) := by
  rw [ea]
  have ey : nA (nI i).toNatClampNeg = nI a := (congrArg nA (sm_cl (by omega))).trans ea
  by_cases q : nI c = nI n - nI a
  · exact ⟨nI c, Or.inr ⟨c, by omega, by omega, rfl⟩, fun post hp => br_f (by decide) (br_f (by decide) (br_f (by decide) (br_f (by decide) (br_f (by decide) (br_f (by decide) (br_f (by decide) (br_t rfl (br_t q hp)))))))), fun post hp => ⟨vp_in_nI hi (by omega), nm_r ((congrArg nK (sm_cl (by omega))).trans hk) ⟨vp_in_nI hi (by omega), nm_r ey ⟨vp_in_nI hi (by omega), nm_r (congrArg nB (sm_cl (by omega))) (br_f (by decide) (br_f (by decide) (br_f (by decide) (br_f (by decide) (br_f (by decide) (br_t rfl (br_t q hp)))))))⟩⟩⟩⟩
  · exact ⟨-1, Or.inl rfl, fun post hp => br_f (by decide) (br_f (by decide) (br_f (by decide) (br_f (by decide) (br_f (by decide) (br_f (by decide) (br_f (by decide) (br_t rfl (br_f q hp)))))))), fun post hp => ⟨vp_in_nI hi (by omega), nm_r ((congrArg nK (sm_cl (by omega))).trans hk) ⟨vp_in_nI hi (by omega), nm_r ey ⟨vp_in_nI hi (by omega), nm_r (congrArg nB (sm_cl (by omega))) (br_f (by decide) (br_f (by decide) (br_f (by decide) (br_f (by decide) (br_f (by decide) (br_t rfl (br_f q hp)))))))⟩⟩⟩⟩
theorem sm_leaf7 {i n c : Nat} (hi : i < 32) (hn : n ≤ 16) (hc : c ≤ n) (hk : nK i = 7) :
    ∃ r, sm_an c n r ∧ (∀ post : Int32 → Prop, post r → wpX_leafEnd post (xms, xsl, xdl, xnc, xsd, nI n, xlr, xls, xle, xst, xnw, xtc, xtu, xtn, xcu, xtd, xtt, xsr, xno, xsk, xrt, xsj, xtx, xtl, xcr, eN, eC, eD, eT, eH, eR, tE, tN) 7 (nA i) (nB i) (nI c)) ∧
      (∀ post : Int32 → Prop, post r → wpY_leafValue post (yms, ysl, ydl, ync, ysp, nI n, ylr, yls, yle, yfc, yst, ycf, yev, yfr, ydo, nK, nA, nB, nL, nR, ysk, yrt, xsj, ytx, ytl, ycr, fN, fC, fD, fS, fA, fB, fO, fP, fL, fM, tS, tG) (nI i) (nI c)) := by
  by_cases q : n ≤ c
  · exact ⟨-1, Or.inl rfl, fun post hp => br_f (by decide) (br_f (by decide) (br_f (by decide) (br_f (by decide) (br_f (by decide) (br_f (by decide) (br_f (by decide) (br_f (by decide) (br_t rfl (br_t (nI_le q (by omega)) (br_t rfl hp)))))))))), fun post hp => ⟨vp_in_nI hi (by omega), nm_r ((congrArg nK (sm_cl (by omega))).trans hk) ⟨vp_in_nI hi (by omega), nm_r (congrArg nA (sm_cl (by omega))) ⟨vp_in_nI hi (by omega), nm_r (congrArg nB (sm_cl (by omega))) (br_f (by decide) (br_f (by decide) (br_f (by decide) (br_f (by decide) (br_f (by decide) (br_f (by decide) (br_t rfl (br_t (nI_le q (by omega)) hp))))))))⟩⟩⟩⟩
  · have nq : ¬ nI n ≤ nI c := nI_ge (by omega) (by omega)
    have vi : vp_in (nI c) 16 := vp_in_nI (by omega) (by omega)
    by_cases l1 : xsj (nI c).toNatClampNeg < nA i
    · exact ⟨-1, Or.inl rfl, fun post hp => br_f (by decide) (br_f (by decide) (br_f (by decide) (br_f (by decide) (br_f (by decide) (br_f (by decide) (br_f (by decide) (br_f (by decide) (br_t rfl (br_f nq ⟨vi, br_t l1 (br_t rfl hp)⟩))))))))), fun post hp => ⟨vp_in_nI hi (by omega), nm_r ((congrArg nK (sm_cl (by omega))).trans hk) ⟨vp_in_nI hi (by omega), nm_r (congrArg nA (sm_cl (by omega))) ⟨vp_in_nI hi (by omega), nm_r (congrArg nB (sm_cl (by omega))) (br_f (by decide) (br_f (by decide) (br_f (by decide) (br_f (by decide) (br_f (by decide) (br_f (by decide) (br_t rfl (br_f nq ⟨vi, br_t l1 hp⟩))))))))⟩⟩⟩⟩
    · by_cases l2 : nB i < xsj (nI c).toNatClampNeg
      · exact ⟨-1, Or.inl rfl, fun post hp => br_f (by decide) (br_f (by decide) (br_f (by decide) (br_f (by decide) (br_f (by decide) (br_f (by decide) (br_f (by decide) (br_f (by decide) (br_t rfl (br_f nq ⟨vi, br_f l1 ⟨vi, br_t l2 (br_t rfl hp)⟩⟩))))))))), fun post hp => ⟨vp_in_nI hi (by omega), nm_r ((congrArg nK (sm_cl (by omega))).trans hk) ⟨vp_in_nI hi (by omega), nm_r (congrArg nA (sm_cl (by omega))) ⟨vp_in_nI hi (by omega), nm_r (congrArg nB (sm_cl (by omega))) (br_f (by decide) (br_f (by decide) (br_f (by decide) (br_f (by decide) (br_f (by decide) (br_f (by decide) (br_t rfl (br_f nq ⟨vi, br_f l1 ⟨vi, br_t l2 hp⟩⟩))))))))⟩⟩⟩⟩
      · exact ⟨nI c + 1, Or.inr ⟨c + 1, by omega, by omega, nI_1 c⟩, fun post hp => br_f (by decide) (br_f (by decide) (br_f (by decide) (br_f (by decide) (br_f (by decide) (br_f (by decide) (br_f (by decide) (br_f (by decide) (br_t rfl (br_f nq ⟨vi, br_f l1 ⟨vi, br_f l2 (br_f (by decide) hp)⟩⟩))))))))), fun post hp => ⟨vp_in_nI hi (by omega), nm_r ((congrArg nK (sm_cl (by omega))).trans hk) ⟨vp_in_nI hi (by omega), nm_r (congrArg nA (sm_cl (by omega))) ⟨vp_in_nI hi (by omega), nm_r (congrArg nB (sm_cl (by omega))) (br_f (by decide) (br_f (by decide) (br_f (by decide) (br_f (by decide) (br_f (by decide) (br_f (by decide) (br_t rfl (br_f nq ⟨vi, br_f l1 ⟨vi, br_f l2 hp⟩⟩))))))))⟩⟩⟩⟩
theorem sm_leaf8 {i n c : Nat} (hi : i < 32) (hn : n ≤ 16) (hc : c ≤ n) (hk : nK i = 8) :
    ∃ r, sm_an c n r ∧ (∀ post : Int32 → Prop, post r → wpX_leafEnd post (xms, xsl, xdl, xnc, xsd, nI n, xlr, xls, xle, xst, xnw, xtc, xtu, xtn, xcu, xtd, xtt, xsr, xno, xsk, xrt, xsj, xtx, xtl, xcr, eN, eC, eD, eT, eH, eR, tE, tN) 8 (nA i) (nB i) (nI c)) ∧
      (∀ post : Int32 → Prop, post r → wpY_leafValue post (yms, ysl, ydl, ync, ysp, nI n, ylr, yls, yle, yfc, yst, ycf, yev, yfr, ydo, nK, nA, nB, nL, nR, ysk, yrt, xsj, ytx, ytl, ycr, fN, fC, fD, fS, fA, fB, fO, fP, fL, fM, tS, tG) (nI i) (nI c)) := by
  obtain ⟨r, hr, hx, hy⟩ := sm_span (a := nA i) (b := nB i) hn hc (n - c) c (by omega) (Nat.le_refl c) (xms := xms) (xsl := xsl) (xdl := xdl) (xnc := xnc) (xsd := xsd) (xlr := xlr) (xls := xls) (xle := xle) (xst := xst) (xnw := xnw) (xtc := xtc) (xtu := xtu) (xtn := xtn) (xcu := xcu) (xtd := xtd) (xtt := xtt) (xsr := xsr) (xno := xno) (xsk := xsk) (xrt := xrt) (xsj := xsj) (xtx := xtx) (xtl := xtl) (xcr := xcr) (eN := eN) (eC := eC) (eD := eD) (eT := eT) (eH := eH) (eR := eR) (tE := tE) (tN := tN) (yms := yms) (ysl := ysl) (ydl := ydl) (ync := ync) (ysp := ysp) (ylr := ylr) (yls := yls) (yle := yle) (yfc := yfc) (yst := yst) (ycf := ycf) (yev := yev) (yfr := yfr) (ydo := ydo) (nK := nK) (nA := nA) (nB := nB) (nL := nL) (nR := nR) (ysk := ysk) (yrt := yrt) (ytx := ytx) (ytl := ytl) (ycr := ycr) (fN := fN) (fC := fC) (fD := fD) (fS := fS) (fA := fA) (fB := fB) (fO := fO) (fP := fP) (fL := fL) (fM := fM) (tS := tS) (tG := tG)
  have e0 : nI (c - c) = 0 := by rw [Nat.sub_self]; rfl
  rw [e0] at hy
  exact ⟨r, hr, fun post hp => br_f (by decide) (br_f (by decide) (br_f (by decide) (br_f (by decide) (br_f (by decide) (br_f (by decide) (br_f (by decide) (br_f (by decide) (br_f (by decide) (br_t rfl (⟨n - c + 1, hx post _ (by omega) hp⟩)))))))))), fun post hp => ⟨vp_in_nI hi (by omega), nm_r ((congrArg nK (sm_cl (by omega))).trans hk) ⟨vp_in_nI hi (by omega), nm_r (congrArg nA (sm_cl (by omega))) ⟨vp_in_nI hi (by omega), nm_r (congrArg nB (sm_cl (by omega))) (br_f (by decide) (br_f (by decide) (br_f (by decide) (br_f (by decide) (br_f (by decide) (br_f (by decide) (br_f (by decide) (br_t rfl (⟨n - c + 1, hy post _ (by omega) hp⟩)))))))))⟩⟩⟩⟩
theorem sm_leaf9 {i n c : Nat} (hi : i < 32) (hn : n ≤ 16) (hc : c ≤ n) (hk : nK i = 9) :
    ∃ r, sm_an c n r ∧ (∀ post : Int32 → Prop, post r → wpX_leafEnd post (xms, xsl, xdl, xnc, xsd, nI n, xlr, xls, xle, xst, xnw, xtc, xtu, xtn, xcu, xtd, xtt, xsr, xno, xsk, xrt, xsj, xtx, xtl, xcr, eN, eC, eD, eT, eH, eR, tE, tN) 9 (nA i) (nB i) (nI c)) ∧
      (∀ post : Int32 → Prop, post r → wpY_leafValue post (yms, ysl, ydl, ync, ysp, nI n, ylr, yls, yle, yfc, yst, ycf, yev, yfr, ydo, nK, nA, nB, nL, nR, ysk, yrt, xsj, ytx, ytl, ycr, fN, fC, fD, fS, fA, fB, fO, fP, fL, fM, tS, tG) (nI i) (nI c)) := by
  obtain ⟨r, hr, hx, hy⟩ := sm_break (a := nA i) (b := nB i) hn (n - c) c (by omega) (Nat.le_refl c) (xms := xms) (xsl := xsl) (xdl := xdl) (xnc := xnc) (xsd := xsd) (xlr := xlr) (xls := xls) (xle := xle) (xst := xst) (xnw := xnw) (xtc := xtc) (xtu := xtu) (xtn := xtn) (xcu := xcu) (xtd := xtd) (xtt := xtt) (xsr := xsr) (xno := xno) (xsk := xsk) (xrt := xrt) (xsj := xsj) (xtx := xtx) (xtl := xtl) (xcr := xcr) (eN := eN) (eC := eC) (eD := eD) (eT := eT) (eH := eH) (eR := eR) (tE := tE) (tN := tN) (yms := yms) (ysl := ysl) (ydl := ydl) (ync := ync) (ysp := ysp) (ylr := ylr) (yls := yls) (yle := yle) (yfc := yfc) (yst := yst) (ycf := ycf) (yev := yev) (yfr := yfr) (ydo := ydo) (nK := nK) (nA := nA) (nB := nB) (nL := nL) (nR := nR) (ysk := ysk) (yrt := yrt) (ytx := ytx) (ytl := ytl) (ycr := ycr) (fN := fN) (fC := fC) (fD := fD) (fS := fS) (fA := fA) (fB := fB) (fO := fO) (fP := fP) (fL := fL) (fM := fM) (tS := tS) (tG := tG)
  exact ⟨r, hr, fun post hp => br_f (by decide) (br_f (by decide) (br_f (by decide) (br_f (by decide) (br_f (by decide) (br_f (by decide) (br_f (by decide) (br_f (by decide) (br_f (by decide) (br_f (by decide) (br_t rfl (⟨n - c + 1, hx post _ (by omega) hp⟩))))))))))), fun post hp => ⟨vp_in_nI hi (by omega), nm_r ((congrArg nK (sm_cl (by omega))).trans hk) ⟨vp_in_nI hi (by omega), nm_r (congrArg nA (sm_cl (by omega))) ⟨vp_in_nI hi (by omega), nm_r (congrArg nB (sm_cl (by omega))) (br_f (by decide) (br_f (by decide) (br_f (by decide) (br_f (by decide) (br_f (by decide) (br_f (by decide) (br_f (by decide) (br_f (by decide) (br_t rfl (⟨n - c + 1, hy post _ (by omega) hp⟩))))))))))⟩⟩⟩⟩
theorem sm_leaf {i n c k : Nat} (hi : i < 32) (hn : n ≤ 16) (hc : c ≤ n) (hk : nK i = nI k) (h1 : 1 ≤ k) (h11 : k ≤ 11) (h10 : k ≠ 10)
    (ha : 4 ≤ k → k ≤ 6 → ∃ a, a ≤ 16 ∧ nA i = nI a) :
    ∃ r, sm_an c n r ∧ (∀ post : Int32 → Prop, post r → wpX_leafEnd post (xms, xsl, xdl, xnc, xsd, nI n, xlr, xls, xle, xst, xnw, xtc, xtu, xtn, xcu, xtd, xtt, xsr, xno, xsk, xrt, xsj, xtx, xtl, xcr, eN, eC, eD, eT, eH, eR, tE, tN) (nI k) (nA i) (nB i) (nI c)) ∧
      (∀ post : Int32 → Prop, post r → wpY_leafValue post (yms, ysl, ydl, ync, ysp, nI n, ylr, yls, yle, yfc, yst, ycf, yev, yfr, ydo, nK, nA, nB, nL, nR, ysk, yrt, xsj, ytx, ytl, ycr, fN, fC, fD, fS, fA, fB, fO, fP, fL, fM, tS, tG) (nI i) (nI c)) := by
  have cases : k = 1 ∨ k = 2 ∨ k = 3 ∨ k = 4 ∨ k = 5 ∨ k = 6 ∨ k = 7 ∨ k = 8 ∨ k = 9 ∨ k = 11 := by omega
  rcases cases with q | q | q | q | q | q | q | q | q | q
  · subst q
    exact sm_leaf1 hi hn hc hk
  · subst q
    exact sm_leaf2 hi hn hc hk
  · subst q
    exact sm_leaf3 hi hn hc hk
  · subst q
    obtain ⟨a, ha, ea⟩ := ha (by omega) (by omega)
    exact sm_leaf4 hi hn hc hk ha ea
  · subst q
    obtain ⟨a, ha, ea⟩ := ha (by omega) (by omega)
    exact sm_leaf5 hi hn hc hk ha ea
  · subst q
    obtain ⟨a, ha, ea⟩ := ha (by omega) (by omega)
    exact sm_leaf6 hi hn hc hk ha ea
  · subst q
    exact sm_leaf7 hi hn hc hk
  · subst q
    exact sm_leaf8 hi hn hc hk
  · subst q
    exact sm_leaf9 hi hn hc hk
  · subst q
    exact sm_leaf11 hi hn hc hk
end
end
section
theorem sm_ne {a : Nat} (b : Nat) (h : a ≠ b) (ha : a < 1000) (hb : b < 1000) : ¬ nI a = nI b := fun z => h ((nI_eq (by omega) (by omega)).mp z)
theorem sm_eqI {a b : Nat} (h : a = b) : nI a = nI b := by rw [h]
theorem sm_lt {a : Nat} (b : Nat) (h : a < b) (hb : b < 1000) : nI a < nI b := nI_lt h (by omega)
theorem sm_gt {b : Nat} (a : Nat) (h : a < b) (hb : b < 1000) : nI a < nI b := nI_lt h (by omega)
theorem sm_ngt {b : Nat} (a : Nat) (h : b ≤ a) (ha : a < 1000) : ¬ nI a < nI b := nI_nlt h (by omega)
theorem sm_p00 : ¬ (0 : Int32) ≤ sm_p 0 := by rw [sm_p0]; decide
theorem sm_p0le {p : Nat} (h : 1 ≤ p) (hp : p < 1000) : (0 : Int32) ≤ sm_p p := by rw [sm_p1 h]; exact nI_pos' (by omega)
theorem sm_pnlt {p : Nat} (h : 1 ≤ p) (hp : p < 1000) : ¬ sm_p p < 0 := by rw [sm_p1 h]; exact nI_pos (by omega)
theorem sm_cg {α : Sort _} {f : Nat → α} {j : Nat} (hj : j < 1000) {x : α} (h : f j = x) : f (nI j).toNatClampNeg = x := by rw [sm_cl (by omega)]; exact h
theorem sm_up {f : Nat → Int32} {j : Nat} (hj : j < 1000) {x : Int32} : upd f (nI j).toNatClampNeg x = upd f j x := by rw [sm_cl (by omega)]
section
variable {yms ysl ydl ync ysp yn ylr yls yle yfc yst ycf yev yfr ydo : Int32} {nK nA nB nL nR ysk yrt ysj ytx ytl ycr fN fC fD fS fA fB fO fP fL fM tS tG : Nat → Int32}
variable {post : SY → Prop}
theorem sy_exh {j : Nat} (hj : j < 256) (hp : (fP j = -1 ∧ post (yms, ysl, ydl, ync, ysp, yn, ylr, yls, yle, yfc, yst, ycf, yev, yfr, 2, nK, nA, nB, nL, nR, ysk, yrt, ysj, ytx, ytl, ycr, fN, fC, fD, fS, fA, fB, fO, fP, fL, fM, tS, tG)) ∨ ∃ q, q < 1000 ∧ fP j = nI q ∧ post (yms, ysl, ydl, ync, ysp, yn, ylr, yls, yle, yfc, yst, nI q, 3, nI j, ydo, nK, nA, nB, nL, nR, ysk, yrt, ysj, ytx, ytl, ycr, fN, fC, fD, fS, fA, fB, fO, fP, fL, fM, tS, tG)) : wpY_exhaust post (yms, ysl, ydl, ync, ysp, yn, ylr, yls, yle, yfc, yst, ycf, yev, yfr, ydo, nK, nA, nB, nL, nR, ysk, yrt, ysj, ytx, ytl, ycr, fN, fC, fD, fS, fA, fB, fO, fP, fL, fM, tS, tG) (nI j) := by
  have vi : vp_in (nI j) 256 := vp_in_nI hj (by omega)
  rcases hp with ⟨hP, h⟩ | ⟨q, hq, hP, h⟩
  · have e : fP (nI j).toNatClampNeg = -1 := sm_cg (by omega) hP
    have l : ¬ (0 : Int32) ≤ fP (nI j).toNatClampNeg := by rw [e]; decide
    exact ⟨vi, br_f l h⟩
  · have e : fP (nI j).toNatClampNeg = nI q := sm_cg (by omega) hP
    have l : (0 : Int32) ≤ fP (nI j).toNatClampNeg := by rw [e]; exact nI_pos' (by omega)
    exact ⟨vi, br_t l ⟨vi, nm_r e h⟩⟩
theorem sy_yld {j : Nat} {v : Int32} (hj : j < 256) (hp : (fP j = -1 ∧ post (yms, ysl, ydl, ync, ysp, yn, ylr, yls, yle, yfc, yst, ycf, yev, yfr, 1, nK, nA, nB, nL, nR, ysk, yrt, ysj, ytx, ytl, ycr, fN, fC, fD, fS, fA, fB, upd fO j v, fP, fL, fM, tS, tG)) ∨ ∃ q, q < 1000 ∧ fP j = nI q ∧ post (yms, ysl, ydl, ync, ysp, yn, ylr, yls, yle, yfc, yst, nI q, 2, nI j, ydo, nK, nA, nB, nL, nR, ysk, yrt, ysj, ytx, ytl, ycr, fN, fC, fD, fS, fA, fB, upd fO j v, fP, fL, fM, tS, tG)) : wpY_yieldOut post (yms, ysl, ydl, ync, ysp, yn, ylr, yls, yle, yfc, yst, ycf, yev, yfr, ydo, nK, nA, nB, nL, nR, ysk, yrt, ysj, ytx, ytl, ycr, fN, fC, fD, fS, fA, fB, fO, fP, fL, fM, tS, tG) (nI j) v := by
  have vi : vp_in (nI j) 256 := vp_in_nI hj (by omega)
  rcases hp with ⟨hP, h⟩ | ⟨q, hq, hP, h⟩
  · have e : fP (nI j).toNatClampNeg = -1 := sm_cg (by omega) hP
    have l : ¬ (0 : Int32) ≤ fP (nI j).toNatClampNeg := by rw [e]; decide
    exact ⟨vi, nm_r (sm_up (by omega)) ⟨vi, br_f l h⟩⟩
  · have e : fP (nI j).toNatClampNeg = nI q := sm_cg (by omega) hP
    have l : (0 : Int32) ≤ fP (nI j).toNatClampNeg := by rw [e]; exact nI_pos' (by omega)
    exact ⟨vi, nm_r (sm_up (by omega)) ⟨vi, br_t l ⟨vi, nm_r e h⟩⟩⟩
theorem sy_ask {c K : Nat} {x : Int32} (hx : x = nI c) (hK : c < K) (hK2 : K < 1000) (h : post (yms, ysl, ydl, ync, ysp, yn, ylr, yls, yle, nI K, yst, nI c, 1, yfr, ydo, nK, nA, nB, nL, nR, ysk, yrt, ysj, ytx, ytl, ycr, fN, fC, fD, fS, fA, fB, fO, fP, fL, fM, tS, tG)) : wpY_ask post (yms, ysl, ydl, ync, ysp, yn, ylr, yls, yle, nI K, yst, ycf, yev, yfr, ydo, nK, nA, nB, nL, nR, ysk, yrt, ysj, ytx, ytl, ycr, fN, fC, fD, fS, fA, fB, fO, fP, fL, fM, tS, tG) x := by
  rw [hx]
  exact br_f (nI_pos (by omega)) (br_t (nI_lt hK (by omega)) h)

theorem sy_beg0 {K lim : Nat} {p0 p1 p2 : Int32} (hK : K < 256) (hl : lim < 1000)
    (h3 : K = lim → post (yms, nI lim, ydl, ync, ysp, yn, ylr, yls, yle, nI K, nI K, ycf, yev, yfr, 3, nK, nA, nB, nL, nR, ysk, yrt, ysj, ytx, ytl, ycr, fN, fC, fD, fS, fA, fB, fO, fP, fL, fM, tS, tG))
    (h : K ≠ lim → post (yms, nI lim, ydl, ync, ysp, yn, ylr, yls, yle, nI (K + 1), nI (K + 1), nI K, 0, yfr, ydo, nK, nA, nB, nL, nR, ysk, yrt, ysj, ytx, ytl, ycr, upd fN K p0, upd fC K p1, upd fD K p2, upd fS K 0, upd fA K (-1), upd fB K (-1), upd fO K (-1), upd fP K (-1), upd fL K (-1), upd fM K (-1), tS, tG)) :
    wpY_beginChild post (yms, nI lim, ydl, ync, ysp, yn, ylr, yls, yle, nI K, nI K, ycf, yev, yfr, ydo, nK, nA, nB, nL, nR, ysk, yrt, ysj, ytx, ytl, ycr, fN, fC, fD, fS, fA, fB, fO, fP, fL, fM, tS, tG) p0 p1 p2 (-1) 0 := by
  have vi : vp_in (nI K) 256 := vp_in_nI hK (by omega)
  by_cases q : K = lim
  · exact br_t (sm_eqI q) (h3 q)
  · refine br_f (sm_ne lim q (by omega) hl) (br_t (sm_lt 256 hK (by omega)) (nm_r (nI_1 K) (nm_r (nI_1 K) ⟨vi, nm_r (sm_up (by omega)) ⟨vi, nm_r (sm_up (by omega)) ⟨vi, nm_r (sm_up (by omega)) ⟨vi, nm_r (sm_up (by omega)) ⟨vi, nm_r (sm_up (by omega)) ⟨vi, nm_r (sm_up (by omega)) ⟨vi, nm_r (sm_up (by omega)) ⟨vi, nm_r (sm_up (by omega)) ⟨vi, nm_r (sm_up (by omega)) ⟨vi, nm_r (sm_up (by omega)) ?_⟩⟩⟩⟩⟩⟩⟩⟩⟩⟩)))
    exact br_t (by decide) (h q)
theorem sy_begA {K lim j : Nat} {p0 p1 p2 : Int32} (hK : K < 256) (hl : lim < 1000) (hj : j < 256)
    (h3 : K = lim → post (yms, nI lim, ydl, ync, ysp, yn, ylr, yls, yle, nI K, nI K, ycf, yev, yfr, 3, nK, nA, nB, nL, nR, ysk, yrt, ysj, ytx, ytl, ycr, fN, fC, fD, fS, fA, fB, fO, fP, fL, fM, tS, tG))
    (h : K ≠ lim → post (yms, nI lim, ydl, ync, ysp, yn, ylr, yls, yle, nI (K + 1), nI (K + 1), nI K, 0, yfr, ydo, nK, nA, nB, nL, nR, ysk, yrt, ysj, ytx, ytl, ycr, upd fN K p0, upd fC K p1, upd fD K p2, upd fS K 0, upd (upd fA K (-1)) j (nI K), upd fB K (-1), upd fO K (-1), upd fP K (nI j), upd fL K (-1), upd fM K (-1), tS, tG)) :
    wpY_beginChild post (yms, nI lim, ydl, ync, ysp, yn, ylr, yls, yle, nI K, nI K, ycf, yev, yfr, ydo, nK, nA, nB, nL, nR, ysk, yrt, ysj, ytx, ytl, ycr, fN, fC, fD, fS, fA, fB, fO, fP, fL, fM, tS, tG) p0 p1 p2 (nI j) 0 := by
  have vi : vp_in (nI K) 256 := vp_in_nI hK (by omega)
  by_cases q : K = lim
  · exact br_t (sm_eqI q) (h3 q)
  · refine br_f (sm_ne lim q (by omega) hl) (br_t (sm_lt 256 hK (by omega)) (nm_r (nI_1 K) (nm_r (nI_1 K) ⟨vi, nm_r (sm_up (by omega)) ⟨vi, nm_r (sm_up (by omega)) ⟨vi, nm_r (sm_up (by omega)) ⟨vi, nm_r (sm_up (by omega)) ⟨vi, nm_r (sm_up (by omega)) ⟨vi, nm_r (sm_up (by omega)) ⟨vi, nm_r (sm_up (by omega)) ⟨vi, nm_r (sm_up (by omega)) ⟨vi, nm_r (sm_up (by omega)) ⟨vi, nm_r (sm_up (by omega)) ?_⟩⟩⟩⟩⟩⟩⟩⟩⟩⟩)))
    exact br_f (nI_pos (by omega)) (br_t rfl ⟨vp_in_nI hj (by omega), nm_r (sm_up (by omega)) (h q)⟩)
theorem sy_begB {K lim j : Nat} {p0 p1 p2 : Int32} (hK : K < 256) (hl : lim < 1000) (hj : j < 256)
    (h3 : K = lim → post (yms, nI lim, ydl, ync, ysp, yn, ylr, yls, yle, nI K, nI K, ycf, yev, yfr, 3, nK, nA, nB, nL, nR, ysk, yrt, ysj, ytx, ytl, ycr, fN, fC, fD, fS, fA, fB, fO, fP, fL, fM, tS, tG))
    (h : K ≠ lim → post (yms, nI lim, ydl, ync, ysp, yn, ylr, yls, yle, nI (K + 1), nI (K + 1), nI K, 0, yfr, ydo, nK, nA, nB, nL, nR, ysk, yrt, ysj, ytx, ytl, ycr, upd fN K p0, upd fC K p1, upd fD K p2, upd fS K 0, upd fA K (-1), upd (upd fB K (-1)) j (nI K), upd fO K (-1), upd fP K (nI j), upd fL K (-1), upd fM K (-1), tS, tG)) :
    wpY_beginChild post (yms, nI lim, ydl, ync, ysp, yn, ylr, yls, yle, nI K, nI K, ycf, yev, yfr, ydo, nK, nA, nB, nL, nR, ysk, yrt, ysj, ytx, ytl, ycr, fN, fC, fD, fS, fA, fB, fO, fP, fL, fM, tS, tG) p0 p1 p2 (nI j) 1 := by
  have vi : vp_in (nI K) 256 := vp_in_nI hK (by omega)
  by_cases q : K = lim
  · exact br_t (sm_eqI q) (h3 q)
  · refine br_f (sm_ne lim q (by omega) hl) (br_t (sm_lt 256 hK (by omega)) (nm_r (nI_1 K) (nm_r (nI_1 K) ⟨vi, nm_r (sm_up (by omega)) ⟨vi, nm_r (sm_up (by omega)) ⟨vi, nm_r (sm_up (by omega)) ⟨vi, nm_r (sm_up (by omega)) ⟨vi, nm_r (sm_up (by omega)) ⟨vi, nm_r (sm_up (by omega)) ⟨vi, nm_r (sm_up (by omega)) ⟨vi, nm_r (sm_up (by omega)) ⟨vi, nm_r (sm_up (by omega)) ⟨vi, nm_r (sm_up (by omega)) ?_⟩⟩⟩⟩⟩⟩⟩⟩⟩⟩)))
    exact br_f (nI_pos (by omega)) (br_f (by decide) ⟨vp_in_nI hj (by omega), nm_r (sm_up (by omega)) (h q)⟩)

theorem sy_0arb {i j k c d : Nat} (hj : j < 256) (hN : fN j = nI i) (hi : i < 32) (hK : nK i = nI k) (hC : fC j = nI c) (hD : fD j = nI d) (k0 : k = 10)
    (hp : (fP j = -1 ∧ post (yms, ysl, ydl, ync, ysp, yn, ylr, yls, yle, yfc, yst, nI j, 0, yfr, 1, nK, nA, nB, nL, nR, ysk, yrt, ysj, ytx, ytl, ycr, fN, fC, fD, upd fS j (nI c), fA, fB, upd fO j (nI c), fP, fL, fM, tS, tG)) ∨ ∃ q, q < 1000 ∧ fP j = nI q ∧ post (yms, ysl, ydl, ync, ysp, yn, ylr, yls, yle, yfc, yst, nI q, 2, nI j, ydo, nK, nA, nB, nL, nR, ysk, yrt, ysj, ytx, ytl, ycr, fN, fC, fD, upd fS j (nI c), fA, fB, upd fO j (nI c), fP, fL, fM, tS, tG)) : wpY_step post (yms, ysl, ydl, ync, ysp, yn, ylr, yls, yle, yfc, yst, nI j, 0, yfr, ydo, nK, nA, nB, nL, nR, ysk, yrt, ysj, ytx, ytl, ycr, fN, fC, fD, fS, fA, fB, fO, fP, fL, fM, tS, tG) :=
  ⟨vp_in_nI hj (by omega), nm_r (sm_cg (by omega) hN) ⟨vp_in_nI hi (by omega), nm_r (sm_cg (by omega) hK) ⟨vp_in_nI hj (by omega), nm_r (sm_cg (by omega) hC) ⟨vp_in_nI hj (by omega), nm_r (sm_cg (by omega) hD) (br_t (sm_eqI (b := 10) (by omega)) (br_t rfl ⟨vp_in_nI hj (by omega), nm_r (sm_up (by omega)) (sy_yld hj hp)⟩))⟩⟩⟩⟩
theorem sy_1arbx {i j k c d s n : Nat} (hj : j < 256) (hN : fN j = nI i) (hi : i < 32) (hK : nK i = nI k) (hC : fC j = nI c) (hD : fD j = nI d) (k0 : k = 10) (hS : fS j = nI s) (hn : n < 1000) (hs : n ≤ s) (hs2 : s < 1000)
    (hp : (fP j = -1 ∧ post (yms, ysl, ydl, ync, ysp, nI n, ylr, yls, yle, yfc, yst, nI j, 1, yfr, 2, nK, nA, nB, nL, nR, ysk, yrt, ysj, ytx, ytl, ycr, fN, fC, fD, fS, fA, fB, fO, fP, fL, fM, tS, tG)) ∨ ∃ q, q < 1000 ∧ fP j = nI q ∧ post (yms, ysl, ydl, ync, ysp, nI n, ylr, yls, yle, yfc, yst, nI q, 3, nI j, ydo, nK, nA, nB, nL, nR, ysk, yrt, ysj, ytx, ytl, ycr, fN, fC, fD, fS, fA, fB, fO, fP, fL, fM, tS, tG)) : wpY_step post (yms, ysl, ydl, ync, ysp, nI n, ylr, yls, yle, yfc, yst, nI j, 1, yfr, ydo, nK, nA, nB, nL, nR, ysk, yrt, ysj, ytx, ytl, ycr, fN, fC, fD, fS, fA, fB, fO, fP, fL, fM, tS, tG) :=
  ⟨vp_in_nI hj (by omega), nm_r (sm_cg (by omega) hN) ⟨vp_in_nI hi (by omega), nm_r (sm_cg (by omega) hK) ⟨vp_in_nI hj (by omega), nm_r (sm_cg (by omega) hC) ⟨vp_in_nI hj (by omega), nm_r (sm_cg (by omega) hD) (br_t (sm_eqI (b := 10) (by omega)) (br_f (by decide) ⟨vp_in_nI hj (by omega), br_t (by rw [sm_cg (f := fS) (by omega) hS]; exact nI_le hs (by omega)) (sy_exh hj hp)⟩))⟩⟩⟩⟩
theorem sy_1arby {i j k c d s n : Nat} (hj : j < 256) (hN : fN j = nI i) (hi : i < 32) (hK : nK i = nI k) (hC : fC j = nI c) (hD : fD j = nI d) (k0 : k = 10) (hS : fS j = nI s) (hn : n < 1000) (hs : s < n)
    (hp : (fP j = -1 ∧ post (yms, ysl, ydl, ync, ysp, nI n, ylr, yls, yle, yfc, yst, nI j, 1, yfr, 1, nK, nA, nB, nL, nR, ysk, yrt, ysj, ytx, ytl, ycr, fN, fC, fD, upd fS j (nI (s + 1)), fA, fB, upd fO j (nI (s + 1)), fP, fL, fM, tS, tG)) ∨ ∃ q, q < 1000 ∧ fP j = nI q ∧ post (yms, ysl, ydl, ync, ysp, nI n, ylr, yls, yle, yfc, yst, nI q, 2, nI j, ydo, nK, nA, nB, nL, nR, ysk, yrt, ysj, ytx, ytl, ycr, fN, fC, fD, upd fS j (nI (s + 1)), fA, fB, upd fO j (nI (s + 1)), fP, fL, fM, tS, tG)) : wpY_step post (yms, ysl, ydl, ync, ysp, nI n, ylr, yls, yle, yfc, yst, nI j, 1, yfr, ydo, nK, nA, nB, nL, nR, ysk, yrt, ysj, ytx, ytl, ycr, fN, fC, fD, fS, fA, fB, fO, fP, fL, fM, tS, tG) := by
  have e : fS (nI j).toNatClampNeg = nI s := sm_cg (by omega) hS
  have l : ¬ nI n ≤ fS (nI j).toNatClampNeg := by rw [e]; exact nI_ge hs (by omega)
  have e2 : upd fS (nI j).toNatClampNeg (fS (nI j).toNatClampNeg + 1) = upd fS j (nI (s + 1)) := by rw [e, nI_1, sm_up (by omega)]
  have e3 : upd fS j (nI (s + 1)) (nI j).toNatClampNeg = nI (s + 1) := sm_cg (by omega) pk_us
  refine ⟨vp_in_nI hj (by omega), nm_r (sm_cg (by omega) hN) ⟨vp_in_nI hi (by omega), nm_r (sm_cg (by omega) hK) ⟨vp_in_nI hj (by omega), nm_r (sm_cg (by omega) hC) ⟨vp_in_nI hj (by omega), nm_r (sm_cg (by omega) hD) (br_t (sm_eqI (b := 10) (by omega)) (br_f (by decide) ⟨vp_in_nI hj (by omega), br_f l ⟨vp_in_nI hj (by omega), vp_in_nI hj (by omega), nm_r e2 ⟨vp_in_nI hj (by omega), ?_⟩⟩⟩))⟩⟩⟩⟩
  rw [e3]
  exact sy_yld hj hp
theorem sy_0leaf {i j k c d : Nat} {r : Int32} (hj : j < 256) (hN : fN j = nI i) (hi : i < 32) (hK : nK i = nI k) (hC : fC j = nI c) (hD : fD j = nI d) (k0 : k ≤ 11 ∧ k ≠ 10 ∧ k ≠ 11)
    (hr : ∀ post : Int32 → Prop, post r → wpY_leafValue post (yms, ysl, ydl, ync, ysp, yn, ylr, yls, yle, yfc, yst, nI j, 0, yfr, ydo, nK, nA, nB, nL, nR, ysk, yrt, ysj, ytx, ytl, ycr, fN, fC, fD, fS, fA, fB, fO, fP, fL, fM, tS, tG) (nI i) (nI c)) (r0 : (0 : Int32) ≤ r)
    (hp : (fP j = -1 ∧ post (yms, ysl, ydl, ync, ysp, yn, ylr, yls, yle, yfc, yst, nI j, 0, yfr, 1, nK, nA, nB, nL, nR, ysk, yrt, ysj, ytx, ytl, ycr, fN, fC, fD, fS, fA, fB, upd fO j r, fP, fL, fM, tS, tG)) ∨ ∃ q, q < 1000 ∧ fP j = nI q ∧ post (yms, ysl, ydl, ync, ysp, yn, ylr, yls, yle, yfc, yst, nI q, 2, nI j, ydo, nK, nA, nB, nL, nR, ysk, yrt, ysj, ytx, ytl, ycr, fN, fC, fD, fS, fA, fB, upd fO j r, fP, fL, fM, tS, tG)) : wpY_step post (yms, ysl, ydl, ync, ysp, yn, ylr, yls, yle, yfc, yst, nI j, 0, yfr, ydo, nK, nA, nB, nL, nR, ysk, yrt, ysj, ytx, ytl, ycr, fN, fC, fD, fS, fA, fB, fO, fP, fL, fM, tS, tG) :=
  ⟨vp_in_nI hj (by omega), nm_r (sm_cg (by omega) hN) ⟨vp_in_nI hi (by omega), nm_r (sm_cg (by omega) hK) ⟨vp_in_nI hj (by omega), nm_r (sm_cg (by omega) hC) ⟨vp_in_nI hj (by omega), nm_r (sm_cg (by omega) hD) (br_f (sm_ne 10 (by omega) (by omega) (by omega)) (br_f (sm_ngt 11 (by omega) (by omega)) (br_t rfl (hr _ (br_t r0 (br_f (sm_ne 11 (by omega) (by omega) (by omega)) (sy_yld hj hp)))))))⟩⟩⟩⟩
theorem sy_0leafx {i j k c d : Nat} {r : Int32} (hj : j < 256) (hN : fN j = nI i) (hi : i < 32) (hK : nK i = nI k) (hC : fC j = nI c) (hD : fD j = nI d) (k0 : k ≤ 11 ∧ k ≠ 10)
    (hr : ∀ post : Int32 → Prop, post r → wpY_leafValue post (yms, ysl, ydl, ync, ysp, yn, ylr, yls, yle, yfc, yst, nI j, 0, yfr, ydo, nK, nA, nB, nL, nR, ysk, yrt, ysj, ytx, ytl, ycr, fN, fC, fD, fS, fA, fB, fO, fP, fL, fM, tS, tG) (nI i) (nI c)) (r0 : ¬ (0 : Int32) ≤ r)
    (hp : (fP j = -1 ∧ post (yms, ysl, ydl, ync, ysp, yn, ylr, yls, yle, yfc, yst, nI j, 0, yfr, 2, nK, nA, nB, nL, nR, ysk, yrt, ysj, ytx, ytl, ycr, fN, fC, fD, fS, fA, fB, fO, fP, fL, fM, tS, tG)) ∨ ∃ q, q < 1000 ∧ fP j = nI q ∧ post (yms, ysl, ydl, ync, ysp, yn, ylr, yls, yle, yfc, yst, nI q, 3, nI j, ydo, nK, nA, nB, nL, nR, ysk, yrt, ysj, ytx, ytl, ycr, fN, fC, fD, fS, fA, fB, fO, fP, fL, fM, tS, tG)) : wpY_step post (yms, ysl, ydl, ync, ysp, yn, ylr, yls, yle, yfc, yst, nI j, 0, yfr, ydo, nK, nA, nB, nL, nR, ysk, yrt, ysj, ytx, ytl, ycr, fN, fC, fD, fS, fA, fB, fO, fP, fL, fM, tS, tG) :=
  ⟨vp_in_nI hj (by omega), nm_r (sm_cg (by omega) hN) ⟨vp_in_nI hi (by omega), nm_r (sm_cg (by omega) hK) ⟨vp_in_nI hj (by omega), nm_r (sm_cg (by omega) hC) ⟨vp_in_nI hj (by omega), nm_r (sm_cg (by omega) hD) (br_f (sm_ne 10 (by omega) (by omega) (by omega)) (br_f (sm_ngt 11 (by omega) (by omega)) (br_t rfl (hr _ (br_f r0 (sy_exh hj hp))))))⟩⟩⟩⟩
theorem sy_0cur {i j k c d a : Nat} {r : Int32} (hj : j < 256) (hN : fN j = nI i) (hi : i < 32) (hK : nK i = nI k) (hC : fC j = nI c) (hD : fD j = nI d) (k0 : k = 11) (ha : a < 8) (hA : nA i = nI a)
    (hr : ∀ post : Int32 → Prop, post r → wpY_leafValue post (yms, ysl, ydl, ync, ysp, yn, ylr, yls, yle, yfc, yst, nI j, 0, yfr, ydo, nK, nA, nB, nL, nR, ysk, yrt, ysj, ytx, ytl, ycr, fN, fC, fD, fS, fA, fB, fO, fP, fL, fM, tS, tG) (nI i) (nI c)) (r0 : (0 : Int32) ≤ r)
    (hp : (fP j = -1 ∧ post (yms, ysl, ydl, ync, ysp, yn, ylr, yls, yle, yfc, yst, nI j, 0, yfr, 1, nK, nA, nB, nL, nR, ysk, yrt, ysj, ytx, ytl, upd ycr a (nI c), fN, fC, fD, fS, fA, fB, upd fO j r, fP, fL, fM, tS, tG)) ∨ ∃ q, q < 1000 ∧ fP j = nI q ∧ post (yms, ysl, ydl, ync, ysp, yn, ylr, yls, yle, yfc, yst, nI q, 2, nI j, ydo, nK, nA, nB, nL, nR, ysk, yrt, ysj, ytx, ytl, upd ycr a (nI c), fN, fC, fD, fS, fA, fB, upd fO j r, fP, fL, fM, tS, tG)) : wpY_step post (yms, ysl, ydl, ync, ysp, yn, ylr, yls, yle, yfc, yst, nI j, 0, yfr, ydo, nK, nA, nB, nL, nR, ysk, yrt, ysj, ytx, ytl, ycr, fN, fC, fD, fS, fA, fB, fO, fP, fL, fM, tS, tG) := by
  have e : nA (nI i).toNatClampNeg = nI a := sm_cg (by omega) hA
  have v8 : vp_in (nA (nI i).toNatClampNeg) 8 := by rw [e]; exact vp_in_nI ha (by omega)
  have eu : upd ycr (nA (nI i).toNatClampNeg).toNatClampNeg (nI c) = upd ycr a (nI c) := by rw [e, sm_up (by omega)]
  exact ⟨vp_in_nI hj (by omega), nm_r (sm_cg (by omega) hN) ⟨vp_in_nI hi (by omega), nm_r (sm_cg (by omega) hK) ⟨vp_in_nI hj (by omega), nm_r (sm_cg (by omega) hC) ⟨vp_in_nI hj (by omega), nm_r (sm_cg (by omega) hD) (br_f (sm_ne 10 (by omega) (by omega) (by omega)) (br_f (sm_ngt 11 (by omega) (by omega)) (br_t rfl (hr _ (br_t r0 (br_t (sm_eqI (b := 11) (by omega)) ⟨vp_in_nI hi (by omega), v8, nm_r eu (sy_yld hj hp)⟩))))))⟩⟩⟩⟩
theorem sy_1leaf {i j k c d : Nat} (hj : j < 256) (hN : fN j = nI i) (hi : i < 32) (hK : nK i = nI k) (hC : fC j = nI c) (hD : fD j = nI d) (k0 : k ≤ 11 ∧ k ≠ 10)
    (hp : (fP j = -1 ∧ post (yms, ysl, ydl, ync, ysp, yn, ylr, yls, yle, yfc, yst, nI j, 1, yfr, 2, nK, nA, nB, nL, nR, ysk, yrt, ysj, ytx, ytl, ycr, fN, fC, fD, fS, fA, fB, fO, fP, fL, fM, tS, tG)) ∨ ∃ q, q < 1000 ∧ fP j = nI q ∧ post (yms, ysl, ydl, ync, ysp, yn, ylr, yls, yle, yfc, yst, nI q, 3, nI j, ydo, nK, nA, nB, nL, nR, ysk, yrt, ysj, ytx, ytl, ycr, fN, fC, fD, fS, fA, fB, fO, fP, fL, fM, tS, tG)) : wpY_step post (yms, ysl, ydl, ync, ysp, yn, ylr, yls, yle, yfc, yst, nI j, 1, yfr, ydo, nK, nA, nB, nL, nR, ysk, yrt, ysj, ytx, ytl, ycr, fN, fC, fD, fS, fA, fB, fO, fP, fL, fM, tS, tG) :=
  ⟨vp_in_nI hj (by omega), nm_r (sm_cg (by omega) hN) ⟨vp_in_nI hi (by omega), nm_r (sm_cg (by omega) hK) ⟨vp_in_nI hj (by omega), nm_r (sm_cg (by omega) hC) ⟨vp_in_nI hj (by omega), nm_r (sm_cg (by omega) hD) (br_f (sm_ne 10 (by omega) (by omega) (by omega)) (br_f (sm_ngt 11 (by omega) (by omega)) (br_f (by decide) (sy_exh hj hp))))⟩⟩⟩⟩
theorem sy_0arbno {i j k c d : Nat} (hj : j < 256) (hN : fN j = nI i) (hi : i < 32) (hK : nK i = nI k) (hC : fC j = nI c) (hD : fD j = nI d) (k0 : k = 13)
    (hp : (fP j = -1 ∧ post (yms, ysl, ydl, ync, ysp, yn, ylr, yls, yle, yfc, yst, nI j, 0, yfr, 1, nK, nA, nB, nL, nR, ysk, yrt, ysj, ytx, ytl, ycr, fN, fC, fD, upd fS j 1, fA, fB, upd fO j (nI c), fP, fL, fM, tS, tG)) ∨ ∃ q, q < 1000 ∧ fP j = nI q ∧ post (yms, ysl, ydl, ync, ysp, yn, ylr, yls, yle, yfc, yst, nI q, 2, nI j, ydo, nK, nA, nB, nL, nR, ysk, yrt, ysj, ytx, ytl, ycr, fN, fC, fD, upd fS j 1, fA, fB, upd fO j (nI c), fP, fL, fM, tS, tG)) : wpY_step post (yms, ysl, ydl, ync, ysp, yn, ylr, yls, yle, yfc, yst, nI j, 0, yfr, ydo, nK, nA, nB, nL, nR, ysk, yrt, ysj, ytx, ytl, ycr, fN, fC, fD, fS, fA, fB, fO, fP, fL, fM, tS, tG) :=
  ⟨vp_in_nI hj (by omega), nm_r (sm_cg (by omega) hN) ⟨vp_in_nI hi (by omega), nm_r (sm_cg (by omega) hK) ⟨vp_in_nI hj (by omega), nm_r (sm_cg (by omega) hC) ⟨vp_in_nI hj (by omega), nm_r (sm_cg (by omega) hD) (br_f (sm_ne 10 (by omega) (by omega) (by omega)) (br_t (sm_gt 11 (by omega) (by omega)) (br_f (by decide) (br_f (by decide) (br_t rfl (br_t (sm_eqI (b := 13) (by omega)) ⟨vp_in_nI hj (by omega), nm_r (sm_up (by omega)) (sy_yld hj hp)⟩))))))⟩⟩⟩⟩
theorem sy_0defx {i j k c d dl : Nat} (hj : j < 256) (hN : fN j = nI i) (hi : i < 32) (hK : nK i = nI k) (hC : fC j = nI c) (hD : fD j = nI d) (k0 : k = 12) (hdl : dl ≤ d) (hd : d < 1000)
    (hp : (fP j = -1 ∧ post (yms, ysl, nI dl, ync, ysp, yn, ylr, yls, yle, yfc, yst, nI j, 0, yfr, 2, nK, nA, nB, nL, nR, ysk, yrt, ysj, ytx, ytl, ycr, fN, fC, fD, fS, fA, fB, fO, fP, fL, fM, tS, tG)) ∨ ∃ q, q < 1000 ∧ fP j = nI q ∧ post (yms, ysl, nI dl, ync, ysp, yn, ylr, yls, yle, yfc, yst, nI q, 3, nI j, ydo, nK, nA, nB, nL, nR, ysk, yrt, ysj, ytx, ytl, ycr, fN, fC, fD, fS, fA, fB, fO, fP, fL, fM, tS, tG)) : wpY_step post (yms, ysl, nI dl, ync, ysp, yn, ylr, yls, yle, yfc, yst, nI j, 0, yfr, ydo, nK, nA, nB, nL, nR, ysk, yrt, ysj, ytx, ytl, ycr, fN, fC, fD, fS, fA, fB, fO, fP, fL, fM, tS, tG) :=
  ⟨vp_in_nI hj (by omega), nm_r (sm_cg (by omega) hN) ⟨vp_in_nI hi (by omega), nm_r (sm_cg (by omega) hK) ⟨vp_in_nI hj (by omega), nm_r (sm_cg (by omega) hC) ⟨vp_in_nI hj (by omega), nm_r (sm_cg (by omega) hD) (br_f (sm_ne 10 (by omega) (by omega) (by omega)) (br_t (sm_gt 11 (by omega) (by omega)) (br_f (by decide) (br_f (by decide) (br_t rfl (br_f (sm_ne 13 (by omega) (by omega) (by omega)) (br_t (sm_eqI (b := 12) (by omega)) (br_t (nI_le hdl (by omega)) (sy_exh hj hp)))))))))⟩⟩⟩⟩
theorem sy_0defu {i j k c d dl a : Nat} (hj : j < 256) (hN : fN j = nI i) (hi : i < 32) (hK : nK i = nI k) (hC : fC j = nI c) (hD : fD j = nI d) (k0 : k = 12) (hdl : d < dl) (hd : dl < 1000) (ha : a < 4) (hA : nA i = nI a) (hr : yrt a = -1)
    (hp : (fP j = -1 ∧ post (yms, ysl, nI dl, ync, ysp, yn, ylr, yls, yle, yfc, yst, nI j, 0, yfr, 2, nK, nA, nB, nL, nR, ysk, yrt, ysj, ytx, ytl, ycr, fN, fC, fD, fS, fA, fB, fO, fP, fL, fM, tS, tG)) ∨ ∃ q, q < 1000 ∧ fP j = nI q ∧ post (yms, ysl, nI dl, ync, ysp, yn, ylr, yls, yle, yfc, yst, nI q, 3, nI j, ydo, nK, nA, nB, nL, nR, ysk, yrt, ysj, ytx, ytl, ycr, fN, fC, fD, fS, fA, fB, fO, fP, fL, fM, tS, tG)) : wpY_step post (yms, ysl, nI dl, ync, ysp, yn, ylr, yls, yle, yfc, yst, nI j, 0, yfr, ydo, nK, nA, nB, nL, nR, ysk, yrt, ysj, ytx, ytl, ycr, fN, fC, fD, fS, fA, fB, fO, fP, fL, fM, tS, tG) := by
  have e : nA (nI i).toNatClampNeg = nI a := sm_cg (by omega) hA
  have v4 : vp_in (nA (nI i).toNatClampNeg) 4 := by rw [e]; exact vp_in_nI ha (by omega)
  have er : ¬ (0 : Int32) ≤ yrt (nA (nI i).toNatClampNeg).toNatClampNeg := by rw [e, sm_cg (by omega) hr]; decide
  exact ⟨vp_in_nI hj (by omega), nm_r (sm_cg (by omega) hN) ⟨vp_in_nI hi (by omega), nm_r (sm_cg (by omega) hK) ⟨vp_in_nI hj (by omega), nm_r (sm_cg (by omega) hC) ⟨vp_in_nI hj (by omega), nm_r (sm_cg (by omega) hD) (br_f (sm_ne 10 (by omega) (by omega) (by omega)) (br_t (sm_gt 11 (by omega) (by omega)) (br_f (by decide) (br_f (by decide) (br_t rfl (br_f (sm_ne 13 (by omega) (by omega) (by omega)) (br_t (sm_eqI (b := 12) (by omega)) (br_f (nI_ge hdl (by omega)) ⟨vp_in_nI hi (by omega), v4, br_f er (sy_exh hj hp)⟩))))))))⟩⟩⟩⟩
theorem sy_0defg {i j k c d dl a K lim r : Nat} (hj : j < 256) (hN : fN j = nI i) (hi : i < 32) (hK : nK i = nI k) (hC : fC j = nI c) (hD : fD j = nI d) (k0 : k = 12) (hk : K < 256) (hl : lim < 1000) (hdl : d < dl) (hd : dl < 1000) (ha : a < 4) (hA : nA i = nI a) (hr : yrt a = nI r) (hr2 : r < 1000)
    (h3 : K = lim → post (yms, nI lim, nI dl, ync, ysp, yn, ylr, yls, yle, nI K, nI K, nI j, 0, yfr, 3, nK, nA, nB, nL, nR, ysk, yrt, ysj, ytx, ytl, ycr, fN, fC, fD, fS, fA, fB, fO, fP, fL, fM, tS, tG)) (h : K ≠ lim → post (yms, nI lim, nI dl, ync, ysp, yn, ylr, yls, yle, nI (K + 1), nI (K + 1), nI K, 0, yfr, ydo, nK, nA, nB, nL, nR, ysk, yrt, ysj, ytx, ytl, ycr, upd fN K (nI r), upd fC K (nI c), upd fD K (nI (d + 1)), upd fS K 0, upd (upd fA K (-1)) j (nI K), upd fB K (-1), upd fO K (-1), upd fP K (nI j), upd fL K (-1), upd fM K (-1), tS, tG)) : wpY_step post (yms, nI lim, nI dl, ync, ysp, yn, ylr, yls, yle, nI K, nI K, nI j, 0, yfr, ydo, nK, nA, nB, nL, nR, ysk, yrt, ysj, ytx, ytl, ycr, fN, fC, fD, fS, fA, fB, fO, fP, fL, fM, tS, tG) := by
  have e : nA (nI i).toNatClampNeg = nI a := sm_cg (by omega) hA
  have v4 : vp_in (nA (nI i).toNatClampNeg) 4 := by rw [e]; exact vp_in_nI ha (by omega)
  have er : yrt (nA (nI i).toNatClampNeg).toNatClampNeg = nI r := by rw [e, sm_cg (by omega) hr]
  have er0 : (0 : Int32) ≤ yrt (nA (nI i).toNatClampNeg).toNatClampNeg := by rw [er]; exact nI_pos' (by omega)
  refine ⟨vp_in_nI hj (by omega), nm_r (sm_cg (by omega) hN) ⟨vp_in_nI hi (by omega), nm_r (sm_cg (by omega) hK) ⟨vp_in_nI hj (by omega), nm_r (sm_cg (by omega) hC) ⟨vp_in_nI hj (by omega), nm_r (sm_cg (by omega) hD) (br_f (sm_ne 10 (by omega) (by omega) (by omega)) (br_t (sm_gt 11 (by omega) (by omega)) (br_f (by decide) (br_f (by decide) (br_t rfl (br_f (sm_ne 13 (by omega) (by omega) (by omega)) (br_t (sm_eqI (b := 12) (by omega)) (br_f (nI_ge hdl (by omega)) ⟨vp_in_nI hi (by omega), v4, br_t er0 ⟨vp_in_nI hi (by omega), v4, ?_⟩⟩))))))))⟩⟩⟩⟩
  rw [er, nI_1]
  exact sy_begA hk hl hj h3 h
theorem sy_0des {i j k c d K lim l : Nat} (hj : j < 256) (hN : fN j = nI i) (hi : i < 32) (hK : nK i = nI k) (hC : fC j = nI c) (hD : fD j = nI d) (k0 : 14 ≤ k ∧ k ≤ 18) (hk : K < 256) (hl : lim < 1000) (hL : nL i = nI l)
    (h3 : K = lim → post (yms, nI lim, ydl, ync, ysp, yn, ylr, yls, yle, nI K, nI K, nI j, 0, yfr, 3, nK, nA, nB, nL, nR, ysk, yrt, ysj, ytx, ytl, ycr, fN, fC, fD, fS, fA, fB, fO, fP, fL, fM, tS, tG)) (h : K ≠ lim → post (yms, nI lim, ydl, ync, ysp, yn, ylr, yls, yle, nI (K + 1), nI (K + 1), nI K, 0, yfr, ydo, nK, nA, nB, nL, nR, ysk, yrt, ysj, ytx, ytl, ycr, upd fN K (nI l), upd fC K (nI c), upd fD K (nI d), upd fS K 0, upd (upd fA K (-1)) j (nI K), upd fB K (-1), upd fO K (-1), upd fP K (nI j), upd fL K (-1), upd fM K (-1), tS, tG)) : wpY_step post (yms, nI lim, ydl, ync, ysp, yn, ylr, yls, yle, nI K, nI K, nI j, 0, yfr, ydo, nK, nA, nB, nL, nR, ysk, yrt, ysj, ytx, ytl, ycr, fN, fC, fD, fS, fA, fB, fO, fP, fL, fM, tS, tG) := by
  have el : nL (nI i).toNatClampNeg = nI l := sm_cg (by omega) hL
  refine ⟨vp_in_nI hj (by omega), nm_r (sm_cg (by omega) hN) ⟨vp_in_nI hi (by omega), nm_r (sm_cg (by omega) hK) ⟨vp_in_nI hj (by omega), nm_r (sm_cg (by omega) hC) ⟨vp_in_nI hj (by omega), nm_r (sm_cg (by omega) hD) (br_f (sm_ne 10 (by omega) (by omega) (by omega)) (br_t (sm_gt 11 (by omega) (by omega)) (br_f (by decide) (br_f (by decide) (br_t rfl (br_f (sm_ne 13 (by omega) (by omega) (by omega)) (br_f (sm_ne 12 (by omega) (by omega) (by omega)) ⟨vp_in_nI hi (by omega), ?_⟩)))))))⟩⟩⟩⟩
  rw [el]
  exact sy_begA hk hl hj h3 h
theorem sy_1arbno {i j k c d K lim l : Nat} (hj : j < 256) (hN : fN j = nI i) (hi : i < 32) (hK : nK i = nI k) (hC : fC j = nI c) (hD : fD j = nI d) (k0 : k = 13) (hk : K < 256) (hl : lim < 1000) (hL : nL i = nI l) (hS : fS j = 1)
    (h3 : K = lim → post (yms, nI lim, ydl, ync, ysp, yn, ylr, yls, yle, nI K, nI K, nI j, 1, yfr, 3, nK, nA, nB, nL, nR, ysk, yrt, ysj, ytx, ytl, ycr, fN, fC, fD, (upd fS j 2), fA, fB, fO, fP, fL, fM, tS, tG)) (h : K ≠ lim → post (yms, nI lim, ydl, ync, ysp, yn, ylr, yls, yle, nI (K + 1), nI (K + 1), nI K, 0, yfr, ydo, nK, nA, nB, nL, nR, ysk, yrt, ysj, ytx, ytl, ycr, upd fN K (nI l), upd fC K (nI c), upd fD K (nI d), upd (upd fS j 2) K 0, upd (upd fA K (-1)) j (nI K), upd fB K (-1), upd fO K (-1), upd fP K (nI j), upd fL K (-1), upd fM K (-1), tS, tG)) : wpY_step post (yms, nI lim, ydl, ync, ysp, yn, ylr, yls, yle, nI K, nI K, nI j, 1, yfr, ydo, nK, nA, nB, nL, nR, ysk, yrt, ysj, ytx, ytl, ycr, fN, fC, fD, fS, fA, fB, fO, fP, fL, fM, tS, tG) := by
  have el : nL (nI i).toNatClampNeg = nI l := sm_cg (by omega) hL
  refine ⟨vp_in_nI hj (by omega), nm_r (sm_cg (by omega) hN) ⟨vp_in_nI hi (by omega), nm_r (sm_cg (by omega) hK) ⟨vp_in_nI hj (by omega), nm_r (sm_cg (by omega) hC) ⟨vp_in_nI hj (by omega), nm_r (sm_cg (by omega) hD) (br_f (sm_ne 10 (by omega) (by omega) (by omega)) (br_t (sm_gt 11 (by omega) (by omega)) (br_f (by decide) (br_f (by decide) (br_f (by decide) (br_f (sm_ne 14 (by omega) (by omega) (by omega)) (br_f (sm_ne 17 (by omega) (by omega) (by omega)) (br_t (sm_eqI (b := 13) (by omega)) ⟨vp_in_nI hj (by omega), br_t (sm_cg (f := fS) (by omega) hS) ⟨vp_in_nI hj (by omega), nm_r (sm_up (by omega)) ⟨vp_in_nI hi (by omega), ?_⟩⟩⟩))))))))⟩⟩⟩⟩
  rw [el]
  exact sy_begA hk hl hj h3 h
theorem sy_1cat {i j k c d K x : Nat} (hj : j < 256) (hN : fN j = nI i) (hi : i < 32) (hK : nK i = nI k) (hC : fC j = nI c) (hD : fD j = nI d) (k0 : k = 17) (hX : fB j = nI x) (xK : x < K) (hk : K < 1000)
    (h : post (yms, ysl, ydl, ync, ysp, yn, ylr, yls, yle, nI K, yst, nI x, 1, yfr, ydo, nK, nA, nB, nL, nR, ysk, yrt, ysj, ytx, ytl, ycr, fN, fC, fD, fS, fA, fB, fO, fP, fL, fM, tS, tG)) : wpY_step post (yms, ysl, ydl, ync, ysp, yn, ylr, yls, yle, nI K, yst, nI j, 1, yfr, ydo, nK, nA, nB, nL, nR, ysk, yrt, ysj, ytx, ytl, ycr, fN, fC, fD, fS, fA, fB, fO, fP, fL, fM, tS, tG) :=
  ⟨vp_in_nI hj (by omega), nm_r (sm_cg (by omega) hN) ⟨vp_in_nI hi (by omega), nm_r (sm_cg (by omega) hK) ⟨vp_in_nI hj (by omega), nm_r (sm_cg (by omega) hC) ⟨vp_in_nI hj (by omega), nm_r (sm_cg (by omega) hD) (br_f (sm_ne 10 (by omega) (by omega) (by omega)) (br_t (sm_gt 11 (by omega) (by omega)) (br_f (by decide) (br_f (by decide) (br_f (by decide) (br_f (sm_ne 14 (by omega) (by omega) (by omega)) (br_t (sm_eqI (b := 17) (by omega)) ⟨vp_in_nI hj (by omega), sy_ask (sm_cg (f := fB) (by omega) hX) xK hk h⟩)))))))⟩⟩⟩⟩
theorem sy_1arbn2 {i j k c d K x : Nat} (hj : j < 256) (hN : fN j = nI i) (hi : i < 32) (hK : nK i = nI k) (hC : fC j = nI c) (hD : fD j = nI d) (k0 : k = 13) (hX : fB j = nI x) (xK : x < K) (hk : K < 1000) (hS : fS j = nI 2)
    (h : post (yms, ysl, ydl, ync, ysp, yn, ylr, yls, yle, nI K, yst, nI x, 1, yfr, ydo, nK, nA, nB, nL, nR, ysk, yrt, ysj, ytx, ytl, ycr, fN, fC, fD, fS, fA, fB, fO, fP, fL, fM, tS, tG)) : wpY_step post (yms, ysl, ydl, ync, ysp, yn, ylr, yls, yle, nI K, yst, nI j, 1, yfr, ydo, nK, nA, nB, nL, nR, ysk, yrt, ysj, ytx, ytl, ycr, fN, fC, fD, fS, fA, fB, fO, fP, fL, fM, tS, tG) :=
  ⟨vp_in_nI hj (by omega), nm_r (sm_cg (by omega) hN) ⟨vp_in_nI hi (by omega), nm_r (sm_cg (by omega) hK) ⟨vp_in_nI hj (by omega), nm_r (sm_cg (by omega) hC) ⟨vp_in_nI hj (by omega), nm_r (sm_cg (by omega) hD) (br_f (sm_ne 10 (by omega) (by omega) (by omega)) (br_t (sm_gt 11 (by omega) (by omega)) (br_f (by decide) (br_f (by decide) (br_f (by decide) (br_f (sm_ne 14 (by omega) (by omega) (by omega)) (br_f (sm_ne 17 (by omega) (by omega) (by omega)) (br_t (sm_eqI (b := 13) (by omega)) ⟨vp_in_nI hj (by omega), br_f (by rw [sm_cg (f := fS) (by omega) hS]; exact sm_ne 1 (by omega) (by omega) (by omega)) ⟨vp_in_nI hj (by omega), sy_ask (sm_cg (f := fB) (by omega) hX) xK hk h⟩⟩))))))))⟩⟩⟩⟩
theorem sy_1else {i j k c d K x : Nat} (hj : j < 256) (hN : fN j = nI i) (hi : i < 32) (hK : nK i = nI k) (hC : fC j = nI c) (hD : fD j = nI d) (k0 : k = 12 ∨ k = 15 ∨ k = 16 ∨ k = 18) (hX : fA j = nI x) (xK : x < K) (hk : K < 1000)
    (h : post (yms, ysl, ydl, ync, ysp, yn, ylr, yls, yle, nI K, yst, nI x, 1, yfr, ydo, nK, nA, nB, nL, nR, ysk, yrt, ysj, ytx, ytl, ycr, fN, fC, fD, fS, fA, fB, fO, fP, fL, fM, tS, tG)) : wpY_step post (yms, ysl, ydl, ync, ysp, yn, ylr, yls, yle, nI K, yst, nI j, 1, yfr, ydo, nK, nA, nB, nL, nR, ysk, yrt, ysj, ytx, ytl, ycr, fN, fC, fD, fS, fA, fB, fO, fP, fL, fM, tS, tG) :=
  ⟨vp_in_nI hj (by omega), nm_r (sm_cg (by omega) hN) ⟨vp_in_nI hi (by omega), nm_r (sm_cg (by omega) hK) ⟨vp_in_nI hj (by omega), nm_r (sm_cg (by omega) hC) ⟨vp_in_nI hj (by omega), nm_r (sm_cg (by omega) hD) (br_f (sm_ne 10 (by omega) (by omega) (by omega)) (br_t (sm_gt 11 (by omega) (by omega)) (br_f (by decide) (br_f (by decide) (br_f (by decide) (br_f (sm_ne 14 (by omega) (by omega) (by omega)) (br_f (sm_ne 17 (by omega) (by omega) (by omega)) (br_f (sm_ne 13 (by omega) (by omega) (by omega)) ⟨vp_in_nI hj (by omega), sy_ask (sm_cg (f := fA) (by omega) hX) xK hk h⟩))))))))⟩⟩⟩⟩
theorem sy_1fence {i j k c d : Nat} (hj : j < 256) (hN : fN j = nI i) (hi : i < 32) (hK : nK i = nI k) (hC : fC j = nI c) (hD : fD j = nI d) (k0 : k = 14)
    (hp : (fP j = -1 ∧ post (yms, ysl, ydl, ync, ysp, yn, ylr, yls, yle, yfc, yst, nI j, 1, yfr, 2, nK, nA, nB, nL, nR, ysk, yrt, ysj, ytx, ytl, ycr, fN, fC, fD, fS, fA, fB, fO, fP, fL, fM, tS, tG)) ∨ ∃ q, q < 1000 ∧ fP j = nI q ∧ post (yms, ysl, ydl, ync, ysp, yn, ylr, yls, yle, yfc, yst, nI q, 3, nI j, ydo, nK, nA, nB, nL, nR, ysk, yrt, ysj, ytx, ytl, ycr, fN, fC, fD, fS, fA, fB, fO, fP, fL, fM, tS, tG)) : wpY_step post (yms, ysl, ydl, ync, ysp, yn, ylr, yls, yle, yfc, yst, nI j, 1, yfr, ydo, nK, nA, nB, nL, nR, ysk, yrt, ysj, ytx, ytl, ycr, fN, fC, fD, fS, fA, fB, fO, fP, fL, fM, tS, tG) :=
  ⟨vp_in_nI hj (by omega), nm_r (sm_cg (by omega) hN) ⟨vp_in_nI hi (by omega), nm_r (sm_cg (by omega) hK) ⟨vp_in_nI hj (by omega), nm_r (sm_cg (by omega) hC) ⟨vp_in_nI hj (by omega), nm_r (sm_cg (by omega) hD) (br_f (sm_ne 10 (by omega) (by omega) (by omega)) (br_t (sm_gt 11 (by omega) (by omega)) (br_f (by decide) (br_f (by decide) (br_f (by decide) (br_t (sm_eqI (b := 14) (by omega)) (sy_exh hj hp)))))))⟩⟩⟩⟩
theorem sy_3ask {i j k c d g K x : Nat} (hj : j < 256) (hN : fN j = nI i) (hi : i < 32) (hK : nK i = nI k) (hC : fC j = nI c) (hD : fD j = nI d) (k0 : k = 17 ∨ k = 13) (hB : fB j = sm_p (g + 1)) (hg : g < 998) (hX : fA j = nI x) (xK : x < K) (hk : K < 1000)
    (h : post (yms, ysl, ydl, ync, ysp, yn, ylr, yls, yle, nI K, yst, nI x, 1, nI g, ydo, nK, nA, nB, nL, nR, ysk, yrt, ysj, ytx, ytl, ycr, fN, fC, fD, fS, fA, fB, fO, fP, fL, fM, tS, tG)) : wpY_step post (yms, ysl, ydl, ync, ysp, yn, ylr, yls, yle, nI K, yst, nI j, 3, nI g, ydo, nK, nA, nB, nL, nR, ysk, yrt, ysj, ytx, ytl, ycr, fN, fC, fD, fS, fA, fB, fO, fP, fL, fM, tS, tG) := by
  have eb : nI g = fB (nI j).toNatClampNeg := by rw [sm_cg (f := fB) (by omega) hB, sm_ps]
  rcases k0 with k0 | k0
  · exact ⟨vp_in_nI hj (by omega), nm_r (sm_cg (by omega) hN) ⟨vp_in_nI hi (by omega), nm_r (sm_cg (by omega) hK) ⟨vp_in_nI hj (by omega), nm_r (sm_cg (by omega) hC) ⟨vp_in_nI hj (by omega), nm_r (sm_cg (by omega) hD) (br_f (sm_ne 10 (by omega) (by omega) (by omega)) (br_t (sm_gt 11 (by omega) (by omega)) (br_t rfl (br_t (sm_eqI (b := 17) (by omega)) ⟨vp_in_nI hj (by omega), br_t eb ⟨vp_in_nI hj (by omega), sy_ask (sm_cg (f := fA) (by omega) hX) xK hk h⟩⟩))))⟩⟩⟩⟩
  · exact ⟨vp_in_nI hj (by omega), nm_r (sm_cg (by omega) hN) ⟨vp_in_nI hi (by omega), nm_r (sm_cg (by omega) hK) ⟨vp_in_nI hj (by omega), nm_r (sm_cg (by omega) hC) ⟨vp_in_nI hj (by omega), nm_r (sm_cg (by omega) hD) (br_f (sm_ne 10 (by omega) (by omega) (by omega)) (br_t (sm_gt 11 (by omega) (by omega)) (br_t rfl (br_f (sm_ne 17 (by omega) (by omega) (by omega)) (br_t (sm_eqI (b := 13) (by omega)) ⟨vp_in_nI hj (by omega), br_t eb ⟨vp_in_nI hj (by omega), sy_ask (sm_cg (f := fA) (by omega) hX) xK hk h⟩⟩)))))⟩⟩⟩⟩
theorem sy_3exh {i j k c d g b s : Nat} (hj : j < 256) (hN : fN j = nI i) (hi : i < 32) (hK : nK i = nI k) (hC : fC j = nI c) (hD : fD j = nI d) (k0 : 12 ≤ k ∧ k ≤ 18) (hB : fB j = sm_p b) (hb : b < 1000) (hg : g < 998) (hS : fS j = nI s) (hs : k = 18 → s < 1000)
    (c1 : k = 17 ∨ k = 13 → b ≠ g + 1) (c2 : k = 18 → s ≠ 0)
    (hp : (fP j = -1 ∧ post (yms, ysl, ydl, ync, ysp, yn, ylr, yls, yle, yfc, yst, nI j, 3, nI g, 2, nK, nA, nB, nL, nR, ysk, yrt, ysj, ytx, ytl, ycr, fN, fC, fD, fS, fA, fB, fO, fP, fL, fM, tS, tG)) ∨ ∃ q, q < 1000 ∧ fP j = nI q ∧ post (yms, ysl, ydl, ync, ysp, yn, ylr, yls, yle, yfc, yst, nI q, 3, nI j, ydo, nK, nA, nB, nL, nR, ysk, yrt, ysj, ytx, ytl, ycr, fN, fC, fD, fS, fA, fB, fO, fP, fL, fM, tS, tG)) : wpY_step post (yms, ysl, ydl, ync, ysp, yn, ylr, yls, yle, yfc, yst, nI j, 3, nI g, ydo, nK, nA, nB, nL, nR, ysk, yrt, ysj, ytx, ytl, ycr, fN, fC, fD, fS, fA, fB, fO, fP, fL, fM, tS, tG) := by
  have eb : (k = 17 ∨ k = 13) → ¬ nI g = fB (nI j).toNatClampNeg := by
    intro z
    rw [sm_cg (f := fB) (by omega) hB, ← sm_ps, sm_peq (by omega) (by omega)]
    exact fun w => c1 z w.symm
  have es : k = 18 → ¬ fS (nI j).toNatClampNeg = 0 := by
    intro z
    rw [sm_cg (f := fS) (by omega) hS]
    exact sm_ne 0 (c2 z) (hs z) (by omega)
  have tl : wY_step_225 post (nI j) (nI i) (nI k) (nI c) (nI d) yms ysl ydl ync ysp yn ylr yls yle yfc yst (nI j) 3 (nI g) ydo nK nA nB nL nR ysk yrt ysj ytx ytl ycr fN fC fD fS fA fB fO fP fL fM tS tG := by
    by_cases z : k = 18
    · exact br_t (sm_eqI (b := 18) z) ⟨vp_in_nI hj (by omega), br_f (es z) (sy_exh hj hp)⟩
    · exact br_f (sm_ne 18 z (by omega) (by omega)) (sy_exh hj hp)
  by_cases q : k = 17
  · exact ⟨vp_in_nI hj (by omega), nm_r (sm_cg (by omega) hN) ⟨vp_in_nI hi (by omega), nm_r (sm_cg (by omega) hK) ⟨vp_in_nI hj (by omega), nm_r (sm_cg (by omega) hC) ⟨vp_in_nI hj (by omega), nm_r (sm_cg (by omega) hD) (br_f (sm_ne 10 (by omega) (by omega) (by omega)) (br_t (sm_gt 11 (by omega) (by omega)) (br_t rfl (br_t (sm_eqI (b := 17) (by omega)) ⟨vp_in_nI hj (by omega), br_f (eb (Or.inl q)) tl⟩))))⟩⟩⟩⟩
  · by_cases r : k = 13
    · exact ⟨vp_in_nI hj (by omega), nm_r (sm_cg (by omega) hN) ⟨vp_in_nI hi (by omega), nm_r (sm_cg (by omega) hK) ⟨vp_in_nI hj (by omega), nm_r (sm_cg (by omega) hC) ⟨vp_in_nI hj (by omega), nm_r (sm_cg (by omega) hD) (br_f (sm_ne 10 (by omega) (by omega) (by omega)) (br_t (sm_gt 11 (by omega) (by omega)) (br_t rfl (br_f (sm_ne 17 (by omega) (by omega) (by omega)) (br_t (sm_eqI (b := 13) (by omega)) ⟨vp_in_nI hj (by omega), br_f (eb (Or.inr r)) tl⟩)))))⟩⟩⟩⟩
    · exact ⟨vp_in_nI hj (by omega), nm_r (sm_cg (by omega) hN) ⟨vp_in_nI hi (by omega), nm_r (sm_cg (by omega) hK) ⟨vp_in_nI hj (by omega), nm_r (sm_cg (by omega) hC) ⟨vp_in_nI hj (by omega), nm_r (sm_cg (by omega) hD) (br_f (sm_ne 10 (by omega) (by omega) (by omega)) (br_t (sm_gt 11 (by omega) (by omega)) (br_t rfl (br_f (sm_ne 17 (by omega) (by omega) (by omega)) (br_f (sm_ne 13 (by omega) (by omega) (by omega)) tl)))))⟩⟩⟩⟩
theorem sy_3alt {i j k c d K lim l g : Nat} (hj : j < 256) (hN : fN j = nI i) (hi : i < 32) (hK : nK i = nI k) (hC : fC j = nI c) (hD : fD j = nI d) (k0 : k = 18) (hk : K < 256) (hl : lim < 1000) (hL : nR i = nI l) (hS : fS j = 0)
    (h3 : K = lim → post (yms, nI lim, ydl, ync, ysp, yn, ylr, yls, yle, nI K, nI K, nI j, 3, nI g, 3, nK, nA, nB, nL, nR, ysk, yrt, ysj, ytx, ytl, ycr, fN, fC, fD, (upd fS j 1), fA, fB, fO, fP, fL, fM, tS, tG)) (h : K ≠ lim → post (yms, nI lim, ydl, ync, ysp, yn, ylr, yls, yle, nI (K + 1), nI (K + 1), nI K, 0, nI g, ydo, nK, nA, nB, nL, nR, ysk, yrt, ysj, ytx, ytl, ycr, upd fN K (nI l), upd fC K (nI c), upd fD K (nI d), upd (upd fS j 1) K 0, upd (upd fA K (-1)) j (nI K), upd fB K (-1), upd fO K (-1), upd fP K (nI j), upd fL K (-1), upd fM K (-1), tS, tG)) : wpY_step post (yms, nI lim, ydl, ync, ysp, yn, ylr, yls, yle, nI K, nI K, nI j, 3, nI g, ydo, nK, nA, nB, nL, nR, ysk, yrt, ysj, ytx, ytl, ycr, fN, fC, fD, fS, fA, fB, fO, fP, fL, fM, tS, tG) := by
  have el : nR (nI i).toNatClampNeg = nI l := sm_cg (by omega) hL
  refine ⟨vp_in_nI hj (by omega), nm_r (sm_cg (by omega) hN) ⟨vp_in_nI hi (by omega), nm_r (sm_cg (by omega) hK) ⟨vp_in_nI hj (by omega), nm_r (sm_cg (by omega) hC) ⟨vp_in_nI hj (by omega), nm_r (sm_cg (by omega) hD) (br_f (sm_ne 10 (by omega) (by omega) (by omega)) (br_t (sm_gt 11 (by omega) (by omega)) (br_t rfl (br_f (sm_ne 17 (by omega) (by omega) (by omega)) (br_f (sm_ne 13 (by omega) (by omega) (by omega)) (br_t (sm_eqI (b := 18) (by omega)) ⟨vp_in_nI hj (by omega), br_t (sm_cg (f := fS) (by omega) hS) ⟨vp_in_nI hj (by omega), nm_r (sm_up (by omega)) ⟨vp_in_nI hi (by omega), ?_⟩⟩⟩))))))⟩⟩⟩⟩
  rw [el]
  exact sy_begA hk hl hj h3 h
theorem sy_2cat {i j k c d K lim l g v : Nat} (hj : j < 256) (hN : fN j = nI i) (hi : i < 32) (hK : nK i = nI k) (hC : fC j = nI c) (hD : fD j = nI d) (k0 : k = 17) (hk : K < 256) (hl : lim < 1000) (hL : nR i = nI l) (hg : g < 256) (hO : fO g = nI v) (hA : fA j = sm_p (g + 1))
    (h3 : K = lim → post (yms, nI lim, ydl, ync, ysp, yn, ylr, yls, yle, nI K, nI K, nI j, 2, nI g, 3, nK, nA, nB, nL, nR, ysk, yrt, ysj, ytx, ytl, ycr, fN, fC, fD, fS, fA, fB, fO, fP, fL, fM, tS, tG)) (h : K ≠ lim → post (yms, nI lim, ydl, ync, ysp, yn, ylr, yls, yle, nI (K + 1), nI (K + 1), nI K, 0, nI g, ydo, nK, nA, nB, nL, nR, ysk, yrt, ysj, ytx, ytl, ycr, upd fN K (nI l), upd fC K (nI v), upd fD K (nI d), upd fS K 0, upd fA K (-1), upd (upd fB K (-1)) j (nI K), upd fO K (-1), upd fP K (nI j), upd fL K (-1), upd fM K (-1), tS, tG)) : wpY_step post (yms, nI lim, ydl, ync, ysp, yn, ylr, yls, yle, nI K, nI K, nI j, 2, nI g, ydo, nK, nA, nB, nL, nR, ysk, yrt, ysj, ytx, ytl, ycr, fN, fC, fD, fS, fA, fB, fO, fP, fL, fM, tS, tG) := by
  have el : nR (nI i).toNatClampNeg = nI l := sm_cg (by omega) hL
  refine ⟨vp_in_nI hj (by omega), nm_r (sm_cg (by omega) hN) ⟨vp_in_nI hi (by omega), nm_r (sm_cg (by omega) hK) ⟨vp_in_nI hj (by omega), nm_r (sm_cg (by omega) hC) ⟨vp_in_nI hj (by omega), nm_r (sm_cg (by omega) hD) (br_f (sm_ne 10 (by omega) (by omega) (by omega)) (br_t (sm_gt 11 (by omega) (by omega)) (br_f (by decide) (br_t rfl ⟨vp_in_nI hg (by omega), nm_r (sm_cg (f := fO) (by omega) hO) (br_t (sm_eqI (b := 17) (by omega)) ⟨vp_in_nI hj (by omega), br_t (by rw [sm_cg (f := fA) (by omega) hA, sm_ps]) ⟨vp_in_nI hi (by omega), ?_⟩⟩)⟩))))⟩⟩⟩⟩
  rw [el]
  exact sy_begB hk hl hj h3 h
theorem sy_2arbno {i j k c d K lim g v : Nat} (hj : j < 256) (hN : fN j = nI i) (hi : i < 32) (hK : nK i = nI k) (hC : fC j = nI c) (hD : fD j = nI d) (k0 : k = 13) (hk : K < 256) (hl : lim < 1000) (hg : g < 256) (hO : fO g = nI v) (hA : fA j = sm_p (g + 1)) (hv : v < 1000) (hc : c < 1000) (ne : v ≠ c)
    (h3 : K = lim → post (yms, nI lim, ydl, ync, ysp, yn, ylr, yls, yle, nI K, nI K, nI j, 2, nI g, 3, nK, nA, nB, nL, nR, ysk, yrt, ysj, ytx, ytl, ycr, fN, fC, fD, fS, fA, fB, fO, fP, fL, fM, tS, tG)) (h : K ≠ lim → post (yms, nI lim, ydl, ync, ysp, yn, ylr, yls, yle, nI (K + 1), nI (K + 1), nI K, 0, nI g, ydo, nK, nA, nB, nL, nR, ysk, yrt, ysj, ytx, ytl, ycr, upd fN K (nI i), upd fC K (nI v), upd fD K (nI d), upd fS K 0, upd fA K (-1), upd (upd fB K (-1)) j (nI K), upd fO K (-1), upd fP K (nI j), upd fL K (-1), upd fM K (-1), tS, tG)) : wpY_step post (yms, nI lim, ydl, ync, ysp, yn, ylr, yls, yle, nI K, nI K, nI j, 2, nI g, ydo, nK, nA, nB, nL, nR, ysk, yrt, ysj, ytx, ytl, ycr, fN, fC, fD, fS, fA, fB, fO, fP, fL, fM, tS, tG) :=
  ⟨vp_in_nI hj (by omega), nm_r (sm_cg (by omega) hN) ⟨vp_in_nI hi (by omega), nm_r (sm_cg (by omega) hK) ⟨vp_in_nI hj (by omega), nm_r (sm_cg (by omega) hC) ⟨vp_in_nI hj (by omega), nm_r (sm_cg (by omega) hD) (br_f (sm_ne 10 (by omega) (by omega) (by omega)) (br_t (sm_gt 11 (by omega) (by omega)) (br_f (by decide) (br_t rfl ⟨vp_in_nI hg (by omega), nm_r (sm_cg (f := fO) (by omega) hO) (br_f (sm_ne 17 (by omega) (by omega) (by omega)) (br_t (sm_eqI (b := 13) (by omega)) ⟨vp_in_nI hj (by omega), br_t (by rw [sm_cg (f := fA) (by omega) hA, sm_ps]) (br_f (sm_ne c ne hv hc) (sy_begB hk hl hj h3 h))⟩))⟩))))⟩⟩⟩⟩
theorem sy_2skip {i j k c d K g v : Nat} (hj : j < 256) (hN : fN j = nI i) (hi : i < 32) (hK : nK i = nI k) (hC : fC j = nI c) (hD : fD j = nI d) (k0 : k = 13) (hg : g < 256) (hO : fO g = nI v) (hA : fA j = sm_p (g + 1)) (ev : v = c) (gK : g < K) (hk : K < 1000)
    (h : post (yms, ysl, ydl, ync, ysp, yn, ylr, yls, yle, nI K, yst, nI g, 1, nI g, ydo, nK, nA, nB, nL, nR, ysk, yrt, ysj, ytx, ytl, ycr, fN, fC, fD, fS, fA, fB, fO, fP, fL, fM, tS, tG)) : wpY_step post (yms, ysl, ydl, ync, ysp, yn, ylr, yls, yle, nI K, yst, nI j, 2, nI g, ydo, nK, nA, nB, nL, nR, ysk, yrt, ysj, ytx, ytl, ycr, fN, fC, fD, fS, fA, fB, fO, fP, fL, fM, tS, tG) :=
  ⟨vp_in_nI hj (by omega), nm_r (sm_cg (by omega) hN) ⟨vp_in_nI hi (by omega), nm_r (sm_cg (by omega) hK) ⟨vp_in_nI hj (by omega), nm_r (sm_cg (by omega) hC) ⟨vp_in_nI hj (by omega), nm_r (sm_cg (by omega) hD) (br_f (sm_ne 10 (by omega) (by omega) (by omega)) (br_t (sm_gt 11 (by omega) (by omega)) (br_f (by decide) (br_t rfl ⟨vp_in_nI hg (by omega), nm_r (sm_cg (f := fO) (by omega) hO) (br_f (sm_ne 17 (by omega) (by omega) (by omega)) (br_t (sm_eqI (b := 13) (by omega)) ⟨vp_in_nI hj (by omega), br_t (by rw [sm_cg (f := fA) (by omega) hA, sm_ps]) (br_t (sm_eqI ev) (sy_ask rfl gK hk h))⟩))⟩))))⟩⟩⟩⟩
theorem sy_2two {i j k c d g v x b : Nat} (hj : j < 256) (hN : fN j = nI i) (hi : i < 32) (hK : nK i = nI k) (hC : fC j = nI c) (hD : fD j = nI d) (k0 : k = 17 ∨ k = 13) (hg : g < 256) (hO : fO g = nI v) (hA : fA j = sm_p x) (hx : x < 1000) (ne : g + 1 ≠ x) (hB : fB j = sm_p b)
    (hp : (fP j = -1 ∧ post (yms, ysl, ydl, ync, ysp, yn, ylr, yls, yle, yfc, yst, nI j, 2, nI g, 1, nK, nA, nB, nL, nR, ysk, yrt, ysj, ytx, ytl, ycr, fN, fC, fD, fS, fA, fB, upd fO j (nI v), fP, upd fL j (sm_p x), upd fM j (sm_p b), tS, tG)) ∨ ∃ q, q < 1000 ∧ fP j = nI q ∧ post (yms, ysl, ydl, ync, ysp, yn, ylr, yls, yle, yfc, yst, nI q, 2, nI j, ydo, nK, nA, nB, nL, nR, ysk, yrt, ysj, ytx, ytl, ycr, fN, fC, fD, fS, fA, fB, upd fO j (nI v), fP, upd fL j (sm_p x), upd fM j (sm_p b), tS, tG)) : wpY_step post (yms, ysl, ydl, ync, ysp, yn, ylr, yls, yle, yfc, yst, nI j, 2, nI g, ydo, nK, nA, nB, nL, nR, ysk, yrt, ysj, ytx, ytl, ycr, fN, fC, fD, fS, fA, fB, fO, fP, fL, fM, tS, tG) := by
  have ea : ¬ nI g = fA (nI j).toNatClampNeg := by
    rw [sm_cg (f := fA) (by omega) hA, ← sm_ps, sm_peq (by omega) (by omega)]
    exact ne
  have e1 : upd fL (nI j).toNatClampNeg (fA (nI j).toNatClampNeg) = upd fL j (sm_p x) := by rw [sm_cg (f := fA) (by omega) hA, sm_up (by omega)]
  have e2 : upd fM (nI j).toNatClampNeg (fB (nI j).toNatClampNeg) = upd fM j (sm_p b) := by rw [sm_cg (f := fB) (by omega) hB, sm_up (by omega)]
  have t : wY_step_398 post (nI j) (nI v) yms ysl ydl ync ysp yn ylr yls yle yfc yst (nI j) 2 (nI g) ydo nK nA nB nL nR ysk yrt ysj ytx ytl ycr fN fC fD fS fA fB fO fP fL fM tS tG := ⟨vp_in_nI hj (by omega), vp_in_nI hj (by omega), nm_r e1 ⟨vp_in_nI hj (by omega), vp_in_nI hj (by omega), nm_r e2 (sy_yld hj hp)⟩⟩
  rcases k0 with k0 | k0
  · exact ⟨vp_in_nI hj (by omega), nm_r (sm_cg (by omega) hN) ⟨vp_in_nI hi (by omega), nm_r (sm_cg (by omega) hK) ⟨vp_in_nI hj (by omega), nm_r (sm_cg (by omega) hC) ⟨vp_in_nI hj (by omega), nm_r (sm_cg (by omega) hD) (br_f (sm_ne 10 (by omega) (by omega) (by omega)) (br_t (sm_gt 11 (by omega) (by omega)) (br_f (by decide) (br_t rfl ⟨vp_in_nI hg (by omega), nm_r (sm_cg (f := fO) (by omega) hO) (br_t (sm_eqI (b := 17) (by omega)) ⟨vp_in_nI hj (by omega), br_f ea (br_f (sm_ne 13 (by omega) (by omega) (by omega)) (br_f (sm_ne 15 (by omega) (by omega) (by omega)) (br_t (sm_eqI (b := 17) (by omega)) t)))⟩)⟩))))⟩⟩⟩⟩
  · exact ⟨vp_in_nI hj (by omega), nm_r (sm_cg (by omega) hN) ⟨vp_in_nI hi (by omega), nm_r (sm_cg (by omega) hK) ⟨vp_in_nI hj (by omega), nm_r (sm_cg (by omega) hC) ⟨vp_in_nI hj (by omega), nm_r (sm_cg (by omega) hD) (br_f (sm_ne 10 (by omega) (by omega) (by omega)) (br_t (sm_gt 11 (by omega) (by omega)) (br_f (by decide) (br_t rfl ⟨vp_in_nI hg (by omega), nm_r (sm_cg (f := fO) (by omega) hO) (br_f (sm_ne 17 (by omega) (by omega) (by omega)) (br_t (sm_eqI (b := 13) (by omega)) ⟨vp_in_nI hj (by omega), br_f ea (br_f (sm_ne 15 (by omega) (by omega) (by omega)) (br_f (sm_ne 17 (by omega) (by omega) (by omega)) (br_t (sm_eqI (b := 13) (by omega)) t)))⟩))⟩))))⟩⟩⟩⟩
theorem sy_2one {i j k c d g v : Nat} (hj : j < 256) (hN : fN j = nI i) (hi : i < 32) (hK : nK i = nI k) (hC : fC j = nI c) (hD : fD j = nI d) (k0 : k = 12 ∨ k = 14 ∨ k = 16 ∨ k = 18) (hg : g < 256) (hO : fO g = nI v)
    (hp : (fP j = -1 ∧ post (yms, ysl, ydl, ync, ysp, yn, ylr, yls, yle, yfc, yst, nI j, 2, nI g, 1, nK, nA, nB, nL, nR, ysk, yrt, ysj, ytx, ytl, ycr, fN, fC, fD, fS, fA, fB, upd fO j (nI v), fP, upd fL j (nI g), fM, tS, tG)) ∨ ∃ q, q < 1000 ∧ fP j = nI q ∧ post (yms, ysl, ydl, ync, ysp, yn, ylr, yls, yle, yfc, yst, nI q, 2, nI j, ydo, nK, nA, nB, nL, nR, ysk, yrt, ysj, ytx, ytl, ycr, fN, fC, fD, fS, fA, fB, upd fO j (nI v), fP, upd fL j (nI g), fM, tS, tG)) : wpY_step post (yms, ysl, ydl, ync, ysp, yn, ylr, yls, yle, yfc, yst, nI j, 2, nI g, ydo, nK, nA, nB, nL, nR, ysk, yrt, ysj, ytx, ytl, ycr, fN, fC, fD, fS, fA, fB, fO, fP, fL, fM, tS, tG) :=
  ⟨vp_in_nI hj (by omega), nm_r (sm_cg (by omega) hN) ⟨vp_in_nI hi (by omega), nm_r (sm_cg (by omega) hK) ⟨vp_in_nI hj (by omega), nm_r (sm_cg (by omega) hC) ⟨vp_in_nI hj (by omega), nm_r (sm_cg (by omega) hD) (br_f (sm_ne 10 (by omega) (by omega) (by omega)) (br_t (sm_gt 11 (by omega) (by omega)) (br_f (by decide) (br_t rfl ⟨vp_in_nI hg (by omega), nm_r (sm_cg (f := fO) (by omega) hO) (br_f (sm_ne 17 (by omega) (by omega) (by omega)) (br_f (sm_ne 13 (by omega) (by omega) (by omega)) (br_f (sm_ne 15 (by omega) (by omega) (by omega)) (br_f (sm_ne 17 (by omega) (by omega) (by omega)) (br_f (sm_ne 13 (by omega) (by omega) (by omega)) ⟨vp_in_nI hj (by omega), nm_r (sm_up (by omega)) (sy_yld hj hp)⟩)))))⟩))))⟩⟩⟩⟩
theorem sy_2imm {i j k c d g v a n : Nat} (hj : j < 256) (hN : fN j = nI i) (hi : i < 32) (hK : nK i = nI k) (hC : fC j = nI c) (hD : fD j = nI d) (k0 : k = 15) (hg : g < 256) (hO : fO g = nI v) (ha : a ≤ 7) (hA : nA i = nI a) (cv : c ≤ v) (vn : v ≤ n) (hn : n ≤ 16)
    (hp : (fP j = -1 ∧ post (yms, ysl, ydl, ync, ysp, nI n, ylr, yls, yle, yfc, yst, nI j, 2, nI g, 1, nK, nA, nB, nL, nR, ysk, yrt, ysj, sm_put ysj ytx a c (v - c), upd ytl a (nI (v - c)), ycr, fN, fC, fD, fS, fA, fB, upd fO j (nI v), fP, upd fL j (nI g), fM, tS, tG)) ∨ ∃ q, q < 1000 ∧ fP j = nI q ∧ post (yms, ysl, ydl, ync, ysp, nI n, ylr, yls, yle, yfc, yst, nI q, 2, nI j, ydo, nK, nA, nB, nL, nR, ysk, yrt, ysj, sm_put ysj ytx a c (v - c), upd ytl a (nI (v - c)), ycr, fN, fC, fD, fS, fA, fB, upd fO j (nI v), fP, upd fL j (nI g), fM, tS, tG)) : wpY_step post (yms, ysl, ydl, ync, ysp, nI n, ylr, yls, yle, yfc, yst, nI j, 2, nI g, ydo, nK, nA, nB, nL, nR, ysk, yrt, ysj, ytx, ytl, ycr, fN, fC, fD, fS, fA, fB, fO, fP, fL, fM, tS, tG) := by
  have e : nA (nI i).toNatClampNeg = nI a := sm_cg (by omega) hA
  refine ⟨vp_in_nI hj (by omega), nm_r (sm_cg (by omega) hN) ⟨vp_in_nI hi (by omega), nm_r (sm_cg (by omega) hK) ⟨vp_in_nI hj (by omega), nm_r (sm_cg (by omega) hC) ⟨vp_in_nI hj (by omega), nm_r (sm_cg (by omega) hD) (br_f (sm_ne 10 (by omega) (by omega) (by omega)) (br_t (sm_gt 11 (by omega) (by omega)) (br_f (by decide) (br_t rfl ⟨vp_in_nI hg (by omega), nm_r (sm_cg (f := fO) (by omega) hO) (br_f (sm_ne 17 (by omega) (by omega) (by omega)) (br_f (sm_ne 13 (by omega) (by omega) (by omega)) (br_t (sm_eqI (b := 15) (by omega)) ⟨vp_in_nI hi (by omega), ?_⟩)))⟩))))⟩⟩⟩⟩
  rw [e]
  exact sy_setVar ha cv vn hn (br_f (sm_ne 17 (by omega) (by omega) (by omega)) (br_f (sm_ne 13 (by omega) (by omega) (by omega)) ⟨vp_in_nI hj (by omega), nm_r (sm_up (by omega)) (sy_yld hj hp)⟩))
end
end
section
theorem sm_in5 {i : Nat} (f : Nat) (hi : i < 32) (hf : f < 5) : vp_in (nI i * 5 + nI f) 160 := by rw [sm_ix5]; exact vp_in_nI (by omega) (by omega)
theorem sm_c5 {g : Nat → Int32} {i : Nat} (f : Nat) (hi : i < 32) (hf : f < 5) {x : Int32} (h : g (5 * i + f) = x) : g (nI i * 5 + nI f).toNatClampNeg = x := by
  rw [sm_ix5, sm_cl (by omega)]; exact h
section
variable {xms xsl xdl xnc xsd xn xlr xls xle xst xnw xtc xtu xtn xcu xtd xtt xsr : Int32} {xno xsk xrt xsj xtx xtl xcr eN eC eD eT eH eR tE tN : Nat → Int32}
variable {post : SX → Prop}
theorem sm_nlt {a : Nat} (b : Nat) (h : b ≤ a) (ha : a < 1000) : ¬ nI a < nI b := nI_nlt h (by omega)
theorem sx_0arb {K lim i k c d : Nat} (hK : K < lim) (hl : lim ≤ 250) (hi : i < 32) (h0 : xno (5 * i) = nI k) (k0 : k = 10)
    (h : post (xms, nI lim, xdl, xnc, xsd, xn, xlr, xls, xle, nI (K + 1), nI K, xtc, 1, nI i, nI c, nI d, xtt, xsr, xno, xsk, xrt, xsj, xtx, xtl, xcr, upd eN K (nI i), upd eC K (nI c), upd eD K (nI d), upd eT K xtt, upd eH K xnw, upd eR K xtc, tE, tN)) : wpX_begin post (xms, nI lim, xdl, xnc, xsd, xn, xlr, xls, xle, nI K, xnw, xtc, 0, nI i, nI c, nI d, xtt, xsr, xno, xsk, xrt, xsj, xtx, xtl, xcr, eN, eC, eD, eT, eH, eR, tE, tN) :=
  br_t (nI_lt hK (by omega)) (nm_r (nI_1 K) ⟨vp_in_nI (by omega) (by omega), nm_r (sm_up (by omega)) ⟨vp_in_nI (by omega) (by omega), nm_r (sm_up (by omega)) ⟨vp_in_nI (by omega) (by omega), nm_r (sm_up (by omega)) ⟨vp_in_nI (by omega) (by omega), nm_r (sm_up (by omega)) ⟨vp_in_nI (by omega) (by omega), nm_r (sm_up (by omega)) ⟨vp_in_nI (by omega) (by omega), nm_r (sm_up (by omega)) ⟨sm_in5 3 hi (by omega), nm_r (sm_c5 3 hi (by omega) rfl) ⟨sm_in5 0 hi (by omega), nm_r (sm_c5 0 hi (by omega) h0) (br_f (sm_nlt 10 (by omega) (by omega)) (br_f (sm_ngt 18 (by omega) (by omega)) (br_t (sm_eqI (b := 10) (by omega)) (h))))⟩⟩⟩⟩⟩⟩⟩⟩)
theorem sx_0arbno {K lim i k c d : Nat} (hK : K < lim) (hl : lim ≤ 250) (hi : i < 32) (h0 : xno (5 * i) = nI k) (k0 : k = 13)
    (h : post (xms, nI lim, xdl, xnc, xsd, xn, xlr, xls, xle, nI (K + 1), nI K, xtc, 1, nI i, nI c, nI d, xtt, xsr, xno, xsk, xrt, xsj, xtx, xtl, xcr, upd eN K (nI i), upd eC K (nI c), upd eD K (nI d), upd eT K xtt, upd eH K xnw, upd eR K xtc, tE, tN)) : wpX_begin post (xms, nI lim, xdl, xnc, xsd, xn, xlr, xls, xle, nI K, xnw, xtc, 0, nI i, nI c, nI d, xtt, xsr, xno, xsk, xrt, xsj, xtx, xtl, xcr, eN, eC, eD, eT, eH, eR, tE, tN) :=
  br_t (nI_lt hK (by omega)) (nm_r (nI_1 K) ⟨vp_in_nI (by omega) (by omega), nm_r (sm_up (by omega)) ⟨vp_in_nI (by omega) (by omega), nm_r (sm_up (by omega)) ⟨vp_in_nI (by omega) (by omega), nm_r (sm_up (by omega)) ⟨vp_in_nI (by omega) (by omega), nm_r (sm_up (by omega)) ⟨vp_in_nI (by omega) (by omega), nm_r (sm_up (by omega)) ⟨vp_in_nI (by omega) (by omega), nm_r (sm_up (by omega)) ⟨sm_in5 3 hi (by omega), nm_r (sm_c5 3 hi (by omega) rfl) ⟨sm_in5 0 hi (by omega), nm_r (sm_c5 0 hi (by omega) h0) (br_f (sm_nlt 10 (by omega) (by omega)) (br_f (sm_ngt 18 (by omega) (by omega)) (br_f (sm_ne 10 (by omega) (by omega) (by omega)) (br_f (sm_ne 11 (by omega) (by omega) (by omega)) (br_f (sm_ne 12 (by omega) (by omega) (by omega)) (br_t (sm_eqI (b := 13) (by omega)) (h)))))))⟩⟩⟩⟩⟩⟩⟩⟩)
theorem sx_0alt {K lim i k c d l : Nat} (hK : K < lim) (hl : lim ≤ 250) (hi : i < 32) (h0 : xno (5 * i) = nI k) (k0 : k = 18) (h3 : xno (5 * i + 3) = nI l)
    (h : post (xms, nI lim, xdl, xnc, xsd, xn, xlr, xls, xle, nI (K + 1), nI K, xtc, 0, nI l, nI c, nI d, xtt, xsr, xno, xsk, xrt, xsj, xtx, xtl, xcr, upd eN K (nI i), upd eC K (nI c), upd eD K (nI d), upd eT K xtt, upd eH K xnw, upd eR K xtc, tE, tN)) : wpX_begin post (xms, nI lim, xdl, xnc, xsd, xn, xlr, xls, xle, nI K, xnw, xtc, 0, nI i, nI c, nI d, xtt, xsr, xno, xsk, xrt, xsj, xtx, xtl, xcr, eN, eC, eD, eT, eH, eR, tE, tN) :=
  br_t (nI_lt hK (by omega)) (nm_r (nI_1 K) ⟨vp_in_nI (by omega) (by omega), nm_r (sm_up (by omega)) ⟨vp_in_nI (by omega) (by omega), nm_r (sm_up (by omega)) ⟨vp_in_nI (by omega) (by omega), nm_r (sm_up (by omega)) ⟨vp_in_nI (by omega) (by omega), nm_r (sm_up (by omega)) ⟨vp_in_nI (by omega) (by omega), nm_r (sm_up (by omega)) ⟨vp_in_nI (by omega) (by omega), nm_r (sm_up (by omega)) ⟨sm_in5 3 hi (by omega), nm_r (sm_c5 3 hi (by omega) h3) ⟨sm_in5 0 hi (by omega), nm_r (sm_c5 0 hi (by omega) h0) (br_f (sm_nlt 10 (by omega) (by omega)) (br_f (sm_ngt 18 (by omega) (by omega)) (br_f (sm_ne 10 (by omega) (by omega) (by omega)) (br_f (sm_ne 11 (by omega) (by omega) (by omega)) (br_f (sm_ne 12 (by omega) (by omega) (by omega)) (br_f (sm_ne 13 (by omega) (by omega) (by omega)) (br_f (sm_ne 14 (by omega) (by omega) (by omega)) (br_f (sm_ne 15 (by omega) (by omega) (by omega)) (br_f (sm_ne 16 (by omega) (by omega) (by omega)) (br_f (sm_ne 17 (by omega) (by omega) (by omega)) (br_t (sm_eqI (b := 18) (by omega)) (h))))))))))))⟩⟩⟩⟩⟩⟩⟩⟩)
theorem sx_0four {K lim i k c d l : Nat} (hK : K < lim) (hl : lim ≤ 250) (hi : i < 32) (h0 : xno (5 * i) = nI k) (k0 : k = 14 ∨ k = 15 ∨ k = 16 ∨ k = 17) (h3 : xno (5 * i + 3) = nI l)
    (h : post (xms, nI lim, xdl, xnc, xsd, xn, xlr, xls, xle, nI (K + 1), xnw, xtc, 0, nI l, nI c, nI d, nI K, xsr, xno, xsk, xrt, xsj, xtx, xtl, xcr, upd eN K (nI i), upd eC K (nI c), upd eD K (nI d), upd eT K xtt, upd eH K xnw, upd eR K xtc, tE, tN)) : wpX_begin post (xms, nI lim, xdl, xnc, xsd, xn, xlr, xls, xle, nI K, xnw, xtc, 0, nI i, nI c, nI d, xtt, xsr, xno, xsk, xrt, xsj, xtx, xtl, xcr, eN, eC, eD, eT, eH, eR, tE, tN) := by
  rcases k0 with k0 | k0 | k0 | k0
  · exact br_t (nI_lt hK (by omega)) (nm_r (nI_1 K) ⟨vp_in_nI (by omega) (by omega), nm_r (sm_up (by omega)) ⟨vp_in_nI (by omega) (by omega), nm_r (sm_up (by omega)) ⟨vp_in_nI (by omega) (by omega), nm_r (sm_up (by omega)) ⟨vp_in_nI (by omega) (by omega), nm_r (sm_up (by omega)) ⟨vp_in_nI (by omega) (by omega), nm_r (sm_up (by omega)) ⟨vp_in_nI (by omega) (by omega), nm_r (sm_up (by omega)) ⟨sm_in5 3 hi (by omega), nm_r (sm_c5 3 hi (by omega) h3) ⟨sm_in5 0 hi (by omega), nm_r (sm_c5 0 hi (by omega) h0) (br_f (sm_nlt 10 (by omega) (by omega)) (br_f (sm_ngt 18 (by omega) (by omega)) (br_f (sm_ne 10 (by omega) (by omega) (by omega)) (br_f (sm_ne 11 (by omega) (by omega) (by omega)) (br_f (sm_ne 12 (by omega) (by omega) (by omega)) (br_f (sm_ne 13 (by omega) (by omega) (by omega)) (br_t (sm_eqI (b := 14) (by omega)) (h))))))))⟩⟩⟩⟩⟩⟩⟩⟩)
  · exact br_t (nI_lt hK (by omega)) (nm_r (nI_1 K) ⟨vp_in_nI (by omega) (by omega), nm_r (sm_up (by omega)) ⟨vp_in_nI (by omega) (by omega), nm_r (sm_up (by omega)) ⟨vp_in_nI (by omega) (by omega), nm_r (sm_up (by omega)) ⟨vp_in_nI (by omega) (by omega), nm_r (sm_up (by omega)) ⟨vp_in_nI (by omega) (by omega), nm_r (sm_up (by omega)) ⟨vp_in_nI (by omega) (by omega), nm_r (sm_up (by omega)) ⟨sm_in5 3 hi (by omega), nm_r (sm_c5 3 hi (by omega) h3) ⟨sm_in5 0 hi (by omega), nm_r (sm_c5 0 hi (by omega) h0) (br_f (sm_nlt 10 (by omega) (by omega)) (br_f (sm_ngt 18 (by omega) (by omega)) (br_f (sm_ne 10 (by omega) (by omega) (by omega)) (br_f (sm_ne 11 (by omega) (by omega) (by omega)) (br_f (sm_ne 12 (by omega) (by omega) (by omega)) (br_f (sm_ne 13 (by omega) (by omega) (by omega)) (br_f (sm_ne 14 (by omega) (by omega) (by omega)) (br_t (sm_eqI (b := 15) (by omega)) (h)))))))))⟩⟩⟩⟩⟩⟩⟩⟩)
  · exact br_t (nI_lt hK (by omega)) (nm_r (nI_1 K) ⟨vp_in_nI (by omega) (by omega), nm_r (sm_up (by omega)) ⟨vp_in_nI (by omega) (by omega), nm_r (sm_up (by omega)) ⟨vp_in_nI (by omega) (by omega), nm_r (sm_up (by omega)) ⟨vp_in_nI (by omega) (by omega), nm_r (sm_up (by omega)) ⟨vp_in_nI (by omega) (by omega), nm_r (sm_up (by omega)) ⟨vp_in_nI (by omega) (by omega), nm_r (sm_up (by omega)) ⟨sm_in5 3 hi (by omega), nm_r (sm_c5 3 hi (by omega) h3) ⟨sm_in5 0 hi (by omega), nm_r (sm_c5 0 hi (by omega) h0) (br_f (sm_nlt 10 (by omega) (by omega)) (br_f (sm_ngt 18 (by omega) (by omega)) (br_f (sm_ne 10 (by omega) (by omega) (by omega)) (br_f (sm_ne 11 (by omega) (by omega) (by omega)) (br_f (sm_ne 12 (by omega) (by omega) (by omega)) (br_f (sm_ne 13 (by omega) (by omega) (by omega)) (br_f (sm_ne 14 (by omega) (by omega) (by omega)) (br_f (sm_ne 15 (by omega) (by omega) (by omega)) (br_t (sm_eqI (b := 16) (by omega)) (h))))))))))⟩⟩⟩⟩⟩⟩⟩⟩)
  · exact br_t (nI_lt hK (by omega)) (nm_r (nI_1 K) ⟨vp_in_nI (by omega) (by omega), nm_r (sm_up (by omega)) ⟨vp_in_nI (by omega) (by omega), nm_r (sm_up (by omega)) ⟨vp_in_nI (by omega) (by omega), nm_r (sm_up (by omega)) ⟨vp_in_nI (by omega) (by omega), nm_r (sm_up (by omega)) ⟨vp_in_nI (by omega) (by omega), nm_r (sm_up (by omega)) ⟨vp_in_nI (by omega) (by omega), nm_r (sm_up (by omega)) ⟨sm_in5 3 hi (by omega), nm_r (sm_c5 3 hi (by omega) h3) ⟨sm_in5 0 hi (by omega), nm_r (sm_c5 0 hi (by omega) h0) (br_f (sm_nlt 10 (by omega) (by omega)) (br_f (sm_ngt 18 (by omega) (by omega)) (br_f (sm_ne 10 (by omega) (by omega) (by omega)) (br_f (sm_ne 11 (by omega) (by omega) (by omega)) (br_f (sm_ne 12 (by omega) (by omega) (by omega)) (br_f (sm_ne 13 (by omega) (by omega) (by omega)) (br_f (sm_ne 14 (by omega) (by omega) (by omega)) (br_f (sm_ne 15 (by omega) (by omega) (by omega)) (br_f (sm_ne 16 (by omega) (by omega) (by omega)) (br_t (sm_eqI (b := 17) (by omega)) (h)))))))))))⟩⟩⟩⟩⟩⟩⟩⟩)
theorem sx_0full {K lim : Nat} (hK : lim ≤ K) (hl : K ≤ 250) (h : post (xms, nI lim, xdl, xnc, xsd, xn, xlr, xls, xle, nI K, xnw, xtc, 0, xtn, xcu, xtd, xtt, 2, xno, xsk, xrt, xsj, xtx, xtl, xcr, eN, eC, eD, eT, eH, eR, tE, tN)) : wpX_begin post (xms, nI lim, xdl, xnc, xsd, xn, xlr, xls, xle, nI K, xnw, xtc, 0, xtn, xcu, xtd, xtt, xsr, xno, xsk, xrt, xsj, xtx, xtl, xcr, eN, eC, eD, eT, eH, eR, tE, tN) :=
  br_f (nI_nlt hK (by omega)) h
theorem sx_0defx {K lim i k c d a dl : Nat} (hK : K < lim) (hl : lim ≤ 250) (hi : i < 32) (h0 : xno (5 * i) = nI k) (k0 : k = 12) (ha : a < 4) (h1 : xno (5 * i + 1) = nI a) (hd : dl ≤ d) (hd2 : d < 1000)
    (h : post (xms, nI lim, nI dl, xnc, xsd, xn, xlr, xls, xle, nI (K + 1), xnw, xtc, 2, nI i, nI c, nI d, xtt, xsr, xno, xsk, xrt, xsj, xtx, xtl, xcr, upd eN K (nI i), upd eC K (nI c), upd eD K (nI d), upd eT K xtt, upd eH K xnw, upd eR K xtc, tE, tN)) : wpX_begin post (xms, nI lim, nI dl, xnc, xsd, xn, xlr, xls, xle, nI K, xnw, xtc, 0, nI i, nI c, nI d, xtt, xsr, xno, xsk, xrt, xsj, xtx, xtl, xcr, eN, eC, eD, eT, eH, eR, tE, tN) := by
  have e : xno (nI i * 5 + nI 1).toNatClampNeg = nI a := sm_c5 1 hi (by omega) h1
  have v4 : vp_in (xno (nI i * 5 + nI 1).toNatClampNeg) 4 := by rw [e]; exact vp_in_nI ha (by omega)
  exact br_t (nI_lt hK (by omega)) (nm_r (nI_1 K) ⟨vp_in_nI (by omega) (by omega), nm_r (sm_up (by omega)) ⟨vp_in_nI (by omega) (by omega), nm_r (sm_up (by omega)) ⟨vp_in_nI (by omega) (by omega), nm_r (sm_up (by omega)) ⟨vp_in_nI (by omega) (by omega), nm_r (sm_up (by omega)) ⟨vp_in_nI (by omega) (by omega), nm_r (sm_up (by omega)) ⟨vp_in_nI (by omega) (by omega), nm_r (sm_up (by omega)) ⟨sm_in5 3 hi (by omega), nm_r (sm_c5 3 hi (by omega) rfl) ⟨sm_in5 0 hi (by omega), nm_r (sm_c5 0 hi (by omega) h0) (br_f (sm_nlt 10 (by omega) (by omega)) (br_f (sm_ngt 18 (by omega) (by omega)) (br_f (sm_ne 10 (by omega) (by omega) (by omega)) (br_f (sm_ne 11 (by omega) (by omega) (by omega)) (br_t (sm_eqI (b := 12) (by omega)) (⟨sm_in5 1 hi (by omega), v4, nm_e (br_t (nI_le hd (by omega)) h)⟩))))))⟩⟩⟩⟩⟩⟩⟩⟩)
theorem sx_0defu {K lim i k c d a dl : Nat} (hK : K < lim) (hl : lim ≤ 250) (hi : i < 32) (h0 : xno (5 * i) = nI k) (k0 : k = 12) (ha : a < 4) (h1 : xno (5 * i + 1) = nI a) (hd : d < dl) (hd2 : dl < 1000) (hr : xrt a = -1)
    (h : post (xms, nI lim, nI dl, xnc, xsd, xn, xlr, xls, xle, nI (K + 1), xnw, xtc, 2, nI i, nI c, nI d, xtt, xsr, xno, xsk, xrt, xsj, xtx, xtl, xcr, upd eN K (nI i), upd eC K (nI c), upd eD K (nI d), upd eT K xtt, upd eH K xnw, upd eR K xtc, tE, tN)) : wpX_begin post (xms, nI lim, nI dl, xnc, xsd, xn, xlr, xls, xle, nI K, xnw, xtc, 0, nI i, nI c, nI d, xtt, xsr, xno, xsk, xrt, xsj, xtx, xtl, xcr, eN, eC, eD, eT, eH, eR, tE, tN) := by
  have e : xno (nI i * 5 + nI 1).toNatClampNeg = nI a := sm_c5 1 hi (by omega) h1
  have v4 : vp_in (xno (nI i * 5 + nI 1).toNatClampNeg) 4 := by rw [e]; exact vp_in_nI ha (by omega)
  have er : xrt (xno (nI i * 5 + nI 1).toNatClampNeg).toNatClampNeg = -1 := by rw [e]; exact sm_cg (by omega) hr
  exact br_t (nI_lt hK (by omega)) (nm_r (nI_1 K) ⟨vp_in_nI (by omega) (by omega), nm_r (sm_up (by omega)) ⟨vp_in_nI (by omega) (by omega), nm_r (sm_up (by omega)) ⟨vp_in_nI (by omega) (by omega), nm_r (sm_up (by omega)) ⟨vp_in_nI (by omega) (by omega), nm_r (sm_up (by omega)) ⟨vp_in_nI (by omega) (by omega), nm_r (sm_up (by omega)) ⟨vp_in_nI (by omega) (by omega), nm_r (sm_up (by omega)) ⟨sm_in5 3 hi (by omega), nm_r (sm_c5 3 hi (by omega) rfl) ⟨sm_in5 0 hi (by omega), nm_r (sm_c5 0 hi (by omega) h0) (br_f (sm_nlt 10 (by omega) (by omega)) (br_f (sm_ngt 18 (by omega) (by omega)) (br_f (sm_ne 10 (by omega) (by omega) (by omega)) (br_f (sm_ne 11 (by omega) (by omega) (by omega)) (br_t (sm_eqI (b := 12) (by omega)) (⟨sm_in5 1 hi (by omega), v4, nm_r er (br_f (nI_ge hd (by omega)) (br_t rfl h))⟩))))))⟩⟩⟩⟩⟩⟩⟩⟩)
theorem sx_0defg {K lim i k c d a dl r : Nat} (hK : K < lim) (hl : lim ≤ 250) (hi : i < 32) (h0 : xno (5 * i) = nI k) (k0 : k = 12) (ha : a < 4) (h1 : xno (5 * i + 1) = nI a) (hd : d < dl) (hd2 : dl < 1000) (hr : xrt a = nI r) (hr2 : r < 1000)
    (h : post (xms, nI lim, nI dl, xnc, xsd, xn, xlr, xls, xle, nI (K + 1), xnw, xtc, 0, nI r, nI c, nI (d + 1), xtt, xsr, xno, xsk, xrt, xsj, xtx, xtl, xcr, upd eN K (nI i), upd eC K (nI c), upd eD K (nI d), upd eT K xtt, upd eH K xnw, upd eR K xtc, tE, tN)) : wpX_begin post (xms, nI lim, nI dl, xnc, xsd, xn, xlr, xls, xle, nI K, xnw, xtc, 0, nI i, nI c, nI d, xtt, xsr, xno, xsk, xrt, xsj, xtx, xtl, xcr, eN, eC, eD, eT, eH, eR, tE, tN) := by
  have e : xno (nI i * 5 + nI 1).toNatClampNeg = nI a := sm_c5 1 hi (by omega) h1
  have v4 : vp_in (xno (nI i * 5 + nI 1).toNatClampNeg) 4 := by rw [e]; exact vp_in_nI ha (by omega)
  have er : xrt (xno (nI i * 5 + nI 1).toNatClampNeg).toNatClampNeg = nI r := by rw [e]; exact sm_cg (by omega) hr
  refine br_t (nI_lt hK (by omega)) (nm_r (nI_1 K) ⟨vp_in_nI (by omega) (by omega), nm_r (sm_up (by omega)) ⟨vp_in_nI (by omega) (by omega), nm_r (sm_up (by omega)) ⟨vp_in_nI (by omega) (by omega), nm_r (sm_up (by omega)) ⟨vp_in_nI (by omega) (by omega), nm_r (sm_up (by omega)) ⟨vp_in_nI (by omega) (by omega), nm_r (sm_up (by omega)) ⟨vp_in_nI (by omega) (by omega), nm_r (sm_up (by omega)) ⟨sm_in5 3 hi (by omega), nm_r (sm_c5 3 hi (by omega) rfl) ⟨sm_in5 0 hi (by omega), nm_r (sm_c5 0 hi (by omega) h0) (br_f (sm_nlt 10 (by omega) (by omega)) (br_f (sm_ngt 18 (by omega) (by omega)) (br_f (sm_ne 10 (by omega) (by omega) (by omega)) (br_f (sm_ne 11 (by omega) (by omega) (by omega)) (br_t (sm_eqI (b := 12) (by omega)) (⟨sm_in5 1 hi (by omega), v4, nm_r er (br_f (nI_ge hd (by omega)) (br_f (sm_m1ne (by omega)) ?_))⟩))))))⟩⟩⟩⟩⟩⟩⟩⟩)
  rw [nI_1]
  exact h
theorem sx_0leafx {K lim i k c d : Nat} {xa xb r : Int32} (hK : K < lim) (hl : lim ≤ 250) (hi : i < 32) (h0 : xno (5 * i) = nI k) (k0 : k ≤ 11 ∧ k ≠ 10) (h1 : xno (5 * i + 1) = xa) (h2 : xno (5 * i + 2) = xb)
    (hr : ∀ post : Int32 → Prop, post r → wpX_leafEnd post (xms, nI lim, xdl, xnc, xsd, xn, xlr, xls, xle, nI (K + 1), xnw, xtc, 0, nI i, nI c, nI d, xtt, xsr, xno, xsk, xrt, xsj, xtx, xtl, xcr, upd eN K (nI i), upd eC K (nI c), upd eD K (nI d), upd eT K xtt, upd eH K xnw, upd eR K xtc, tE, tN) (nI k) xa xb (nI c)) (r0 : r = -1)
    (h : post (xms, nI lim, xdl, xnc, xsd, xn, xlr, xls, xle, nI (K + 1), xnw, xtc, 2, nI i, nI c, nI d, xtt, xsr, xno, xsk, xrt, xsj, xtx, xtl, xcr, upd eN K (nI i), upd eC K (nI c), upd eD K (nI d), upd eT K xtt, upd eH K xnw, upd eR K xtc, tE, tN)) : wpX_begin post (xms, nI lim, xdl, xnc, xsd, xn, xlr, xls, xle, nI K, xnw, xtc, 0, nI i, nI c, nI d, xtt, xsr, xno, xsk, xrt, xsj, xtx, xtl, xcr, eN, eC, eD, eT, eH, eR, tE, tN) := by
  have e2 : xno (nI i * 5 + nI 2).toNatClampNeg = xb := sm_c5 2 hi (by omega) h2
  have t : wX_begin_237 post xms (nI lim) xdl xnc xsd xn xlr xls xle (nI (K + 1)) xnw xtc 0 (nI i) (nI c) (nI d) xtt xsr xno xsk xrt xsj xtx xtl xcr (upd eN K (nI i)) (upd eC K (nI c)) (upd eD K (nI d)) (upd eT K xtt) (upd eH K xnw) (upd eR K xtc) tE tN := by
    refine nm_e ⟨sm_in5 0 hi (by omega), nm_r (sm_c5 0 hi (by omega) h0) ⟨sm_in5 1 hi (by omega), nm_r (sm_c5 1 hi (by omega) h1) ⟨sm_in5 2 hi (by omega), ?_⟩⟩⟩
    show wpX_leafEnd _ _ _ _ (xno (nI i * 5 + nI 2).toNatClampNeg) _
    rw [e2]
    exact hr _ (br_t r0 h)
  by_cases q : k = 11
  · exact br_t (nI_lt hK (by omega)) (nm_r (nI_1 K) ⟨vp_in_nI (by omega) (by omega), nm_r (sm_up (by omega)) ⟨vp_in_nI (by omega) (by omega), nm_r (sm_up (by omega)) ⟨vp_in_nI (by omega) (by omega), nm_r (sm_up (by omega)) ⟨vp_in_nI (by omega) (by omega), nm_r (sm_up (by omega)) ⟨vp_in_nI (by omega) (by omega), nm_r (sm_up (by omega)) ⟨vp_in_nI (by omega) (by omega), nm_r (sm_up (by omega)) ⟨sm_in5 3 hi (by omega), nm_r (sm_c5 3 hi (by omega) rfl) ⟨sm_in5 0 hi (by omega), nm_r (sm_c5 0 hi (by omega) h0) (br_f (sm_nlt 10 (by omega) (by omega)) (br_f (sm_ngt 18 (by omega) (by omega)) (br_f (sm_ne 10 (by omega) (by omega) (by omega)) (br_t (sm_eqI (b := 11) (by omega)) (t)))))⟩⟩⟩⟩⟩⟩⟩⟩)
  · exact br_t (nI_lt hK (by omega)) (nm_r (nI_1 K) ⟨vp_in_nI (by omega) (by omega), nm_r (sm_up (by omega)) ⟨vp_in_nI (by omega) (by omega), nm_r (sm_up (by omega)) ⟨vp_in_nI (by omega) (by omega), nm_r (sm_up (by omega)) ⟨vp_in_nI (by omega) (by omega), nm_r (sm_up (by omega)) ⟨vp_in_nI (by omega) (by omega), nm_r (sm_up (by omega)) ⟨vp_in_nI (by omega) (by omega), nm_r (sm_up (by omega)) ⟨sm_in5 3 hi (by omega), nm_r (sm_c5 3 hi (by omega) rfl) ⟨sm_in5 0 hi (by omega), nm_r (sm_c5 0 hi (by omega) h0) (br_t (sm_lt 10 (by omega) (by omega)) t)⟩⟩⟩⟩⟩⟩⟩⟩)
theorem sx_0leaf {K lim i k c d : Nat} {xa xb r : Int32} (hK : K < lim) (hl : lim ≤ 250) (hi : i < 32) (h0 : xno (5 * i) = nI k) (k0 : k ≤ 11 ∧ k ≠ 10 ∧ k ≠ 11) (h1 : xno (5 * i + 1) = xa) (h2 : xno (5 * i + 2) = xb)
    (hr : ∀ post : Int32 → Prop, post r → wpX_leafEnd post (xms, nI lim, xdl, xnc, xsd, xn, xlr, xls, xle, nI (K + 1), xnw, xtc, 0, nI i, nI c, nI d, xtt, xsr, xno, xsk, xrt, xsj, xtx, xtl, xcr, upd eN K (nI i), upd eC K (nI c), upd eD K (nI d), upd eT K xtt, upd eH K xnw, upd eR K xtc, tE, tN) (nI k) xa xb (nI c)) (r0 : ¬ r = -1)
    (h : post (xms, nI lim, xdl, xnc, xsd, xn, xlr, xls, xle, nI (K + 1), xnw, xtc, 1, nI i, r, nI d, xtt, xsr, xno, xsk, xrt, xsj, xtx, xtl, xcr, upd eN K (nI i), upd eC K (nI c), upd eD K (nI d), upd eT K xtt, upd eH K xnw, upd eR K xtc, tE, tN)) : wpX_begin post (xms, nI lim, xdl, xnc, xsd, xn, xlr, xls, xle, nI K, xnw, xtc, 0, nI i, nI c, nI d, xtt, xsr, xno, xsk, xrt, xsj, xtx, xtl, xcr, eN, eC, eD, eT, eH, eR, tE, tN) := by
  have e2 : xno (nI i * 5 + nI 2).toNatClampNeg = xb := sm_c5 2 hi (by omega) h2
  have t : wX_begin_237 post xms (nI lim) xdl xnc xsd xn xlr xls xle (nI (K + 1)) xnw xtc 0 (nI i) (nI c) (nI d) xtt xsr xno xsk xrt xsj xtx xtl xcr (upd eN K (nI i)) (upd eC K (nI c)) (upd eD K (nI d)) (upd eT K xtt) (upd eH K xnw) (upd eR K xtc) tE tN := by
    refine nm_e ⟨sm_in5 0 hi (by omega), nm_r (sm_c5 0 hi (by omega) h0) ⟨sm_in5 1 hi (by omega), nm_r (sm_c5 1 hi (by omega) h1) ⟨sm_in5 2 hi (by omega), ?_⟩⟩⟩
    show wpX_leafEnd _ _ _ _ (xno (nI i * 5 + nI 2).toNatClampNeg) _
    rw [e2]
    exact hr _ (br_f r0 (br_f (sm_ne 11 (by omega) (by omega) (by omega)) h))
  by_cases q : k = 11
  · exact br_t (nI_lt hK (by omega)) (nm_r (nI_1 K) ⟨vp_in_nI (by omega) (by omega), nm_r (sm_up (by omega)) ⟨vp_in_nI (by omega) (by omega), nm_r (sm_up (by omega)) ⟨vp_in_nI (by omega) (by omega), nm_r (sm_up (by omega)) ⟨vp_in_nI (by omega) (by omega), nm_r (sm_up (by omega)) ⟨vp_in_nI (by omega) (by omega), nm_r (sm_up (by omega)) ⟨vp_in_nI (by omega) (by omega), nm_r (sm_up (by omega)) ⟨sm_in5 3 hi (by omega), nm_r (sm_c5 3 hi (by omega) rfl) ⟨sm_in5 0 hi (by omega), nm_r (sm_c5 0 hi (by omega) h0) (br_f (sm_nlt 10 (by omega) (by omega)) (br_f (sm_ngt 18 (by omega) (by omega)) (br_f (sm_ne 10 (by omega) (by omega) (by omega)) (br_t (sm_eqI (b := 11) (by omega)) (t)))))⟩⟩⟩⟩⟩⟩⟩⟩)
  · exact br_t (nI_lt hK (by omega)) (nm_r (nI_1 K) ⟨vp_in_nI (by omega) (by omega), nm_r (sm_up (by omega)) ⟨vp_in_nI (by omega) (by omega), nm_r (sm_up (by omega)) ⟨vp_in_nI (by omega) (by omega), nm_r (sm_up (by omega)) ⟨vp_in_nI (by omega) (by omega), nm_r (sm_up (by omega)) ⟨vp_in_nI (by omega) (by omega), nm_r (sm_up (by omega)) ⟨vp_in_nI (by omega) (by omega), nm_r (sm_up (by omega)) ⟨sm_in5 3 hi (by omega), nm_r (sm_c5 3 hi (by omega) rfl) ⟨sm_in5 0 hi (by omega), nm_r (sm_c5 0 hi (by omega) h0) (br_t (sm_lt 10 (by omega) (by omega)) t)⟩⟩⟩⟩⟩⟩⟩⟩)
theorem sx_0cur {K lim i k c d a : Nat} {xa xb r : Int32} (hK : K < lim) (hl : lim ≤ 250) (hi : i < 32) (h0 : xno (5 * i) = nI k) (k0 : k = 11) (h1 : xno (5 * i + 1) = xa) (h2 : xno (5 * i + 2) = xb)
    (hr : ∀ post : Int32 → Prop, post r → wpX_leafEnd post (xms, nI lim, xdl, xnc, xsd, xn, xlr, xls, xle, nI (K + 1), xnw, xtc, 0, nI i, nI c, nI d, xtt, xsr, xno, xsk, xrt, xsj, xtx, xtl, xcr, upd eN K (nI i), upd eC K (nI c), upd eD K (nI d), upd eT K xtt, upd eH K xnw, upd eR K xtc, tE, tN) (nI k) xa xb (nI c)) (r0 : ¬ r = -1) (ha : a < 8) (hxa : xa = nI a)
    (h : post (xms, nI lim, xdl, xnc, xsd, xn, xlr, xls, xle, nI (K + 1), xnw, xtc, 1, nI i, r, nI d, xtt, xsr, xno, xsk, xrt, xsj, xtx, xtl, upd xcr a r, upd eN K (nI i), upd eC K (nI c), upd eD K (nI d), upd eT K xtt, upd eH K xnw, upd eR K xtc, tE, tN)) : wpX_begin post (xms, nI lim, xdl, xnc, xsd, xn, xlr, xls, xle, nI K, xnw, xtc, 0, nI i, nI c, nI d, xtt, xsr, xno, xsk, xrt, xsj, xtx, xtl, xcr, eN, eC, eD, eT, eH, eR, tE, tN) := by
  have e2 : xno (nI i * 5 + nI 2).toNatClampNeg = xb := sm_c5 2 hi (by omega) h2
  have t : wX_begin_237 post xms (nI lim) xdl xnc xsd xn xlr xls xle (nI (K + 1)) xnw xtc 0 (nI i) (nI c) (nI d) xtt xsr xno xsk xrt xsj xtx xtl xcr (upd eN K (nI i)) (upd eC K (nI c)) (upd eD K (nI d)) (upd eT K xtt) (upd eH K xnw) (upd eR K xtc) tE tN := by
    refine nm_e ⟨sm_in5 0 hi (by omega), nm_r (sm_c5 0 hi (by omega) h0) ⟨sm_in5 1 hi (by omega), nm_r (sm_c5 1 hi (by omega) h1) ⟨sm_in5 2 hi (by omega), ?_⟩⟩⟩
    show wpX_leafEnd _ _ _ _ (xno (nI i * 5 + nI 2).toNatClampNeg) _
    rw [e2]
    exact hr _ (br_f r0 (br_t (sm_eqI (b := 11) (by omega)) ⟨by rw [hxa]; exact vp_in_nI ha (by omega), nm_r (by rw [hxa, sm_up (by omega)]) h⟩))
  by_cases q : k = 11
  · exact br_t (nI_lt hK (by omega)) (nm_r (nI_1 K) ⟨vp_in_nI (by omega) (by omega), nm_r (sm_up (by omega)) ⟨vp_in_nI (by omega) (by omega), nm_r (sm_up (by omega)) ⟨vp_in_nI (by omega) (by omega), nm_r (sm_up (by omega)) ⟨vp_in_nI (by omega) (by omega), nm_r (sm_up (by omega)) ⟨vp_in_nI (by omega) (by omega), nm_r (sm_up (by omega)) ⟨vp_in_nI (by omega) (by omega), nm_r (sm_up (by omega)) ⟨sm_in5 3 hi (by omega), nm_r (sm_c5 3 hi (by omega) rfl) ⟨sm_in5 0 hi (by omega), nm_r (sm_c5 0 hi (by omega) h0) (br_f (sm_nlt 10 (by omega) (by omega)) (br_f (sm_ngt 18 (by omega) (by omega)) (br_f (sm_ne 10 (by omega) (by omega) (by omega)) (br_t (sm_eqI (b := 11) (by omega)) (t)))))⟩⟩⟩⟩⟩⟩⟩⟩)
  · exact br_t (nI_lt hK (by omega)) (nm_r (nI_1 K) ⟨vp_in_nI (by omega) (by omega), nm_r (sm_up (by omega)) ⟨vp_in_nI (by omega) (by omega), nm_r (sm_up (by omega)) ⟨vp_in_nI (by omega) (by omega), nm_r (sm_up (by omega)) ⟨vp_in_nI (by omega) (by omega), nm_r (sm_up (by omega)) ⟨vp_in_nI (by omega) (by omega), nm_r (sm_up (by omega)) ⟨vp_in_nI (by omega) (by omega), nm_r (sm_up (by omega)) ⟨sm_in5 3 hi (by omega), nm_r (sm_c5 3 hi (by omega) rfl) ⟨sm_in5 0 hi (by omega), nm_r (sm_c5 0 hi (by omega) h0) (br_t (sm_lt 10 (by omega) (by omega)) t)⟩⟩⟩⟩⟩⟩⟩⟩)
theorem sx_1none (h : post (xms, xsl, xdl, xnc, xsd, xn, xlr, xls, xle, xst, xnw, xtc, 1, xtn, xcu, xtd, -1, 1, xno, xsk, xrt, xsj, xtx, xtl, xcr, eN, eC, eD, eT, eH, eR, tE, tN)) : wpX_produce post (xms, xsl, xdl, xnc, xsd, xn, xlr, xls, xle, xst, xnw, xtc, 1, xtn, xcu, xtd, -1, xsr, xno, xsk, xrt, xsj, xtx, xtl, xcr, eN, eC, eD, eT, eH, eR, tE, tN) := br_t rfl h
theorem sx_1cat {i j k c d l : Nat} {xt : Int32} (hj : j < 250) (hN : eN j = nI i) (hi : i < 32) (h0 : xno (5 * i) = nI k) (hC : eC j = nI c) (hT : eT j = xt) (k0 : k = 17) (hD : eD j = nI d) (h4 : xno (5 * i + 4) = nI l)
    (h : post (xms, xsl, xdl, xnc, xsd, xn, xlr, xls, xle, xst, xnw, xtc, 0, nI l, xcu, nI d, xt, xsr, xno, xsk, xrt, xsj, xtx, xtl, xcr, eN, eC, eD, eT, eH, eR, tE, tN)) : wpX_produce post (xms, xsl, xdl, xnc, xsd, xn, xlr, xls, xle, xst, xnw, xtc, 1, xtn, xcu, xtd, nI j, xsr, xno, xsk, xrt, xsj, xtx, xtl, xcr, eN, eC, eD, eT, eH, eR, tE, tN) := by
  have e4 : xno (nI i * 5 + nI 4).toNatClampNeg = nI l := sm_c5 4 hi (by omega) h4
  have ed : eD (nI j).toNatClampNeg = nI d := sm_cg (by omega) hD
  refine br_f (sm_m1ne (by omega)) ⟨vp_in_nI hj (by omega), nm_r (sm_cg (by omega) hN) ⟨vp_in_nI hj (by omega), nm_r (sm_cg (by omega) hC) ⟨vp_in_nI hj (by omega), nm_r (sm_cg (by omega) hT) ⟨sm_in5 0 hi (by omega), nm_r (sm_c5 0 hi (by omega) h0) (br_f (sm_nlt 13 (by omega) (by omega)) (br_f (sm_ngt 17 (by omega) (by omega)) (br_f (sm_ne 13 (by omega) (by omega) (by omega)) (br_f (sm_ne 14 (by omega) (by omega) (by omega)) (br_f (sm_ne 15 (by omega) (by omega) (by omega)) (br_f (sm_ne 16 (by omega) (by omega) (by omega)) (br_t (sm_eqI (b := 17) (by omega)) (⟨sm_in5 4 hi (by omega), vp_in_nI hj (by omega), ?_⟩))))))))⟩⟩⟩⟩
  show wpX_planBegin _ _ (xno (nI i * 5 + nI 4).toNatClampNeg) _ _ _
  rw [e4, ed]
  exact h
theorem sx_1skip {i j k c : Nat} {xt : Int32} (hj : j < 250) (hN : eN j = nI i) (hi : i < 32) (h0 : xno (5 * i) = nI k) (hC : eC j = nI c) (hT : eT j = xt) (k0 : k = 13) (e : xcu = nI c)
    (h : post (xms, xsl, xdl, xnc, xsd, xn, xlr, xls, xle, xst, xnw, xtc, 2, xtn, xcu, xtd, xt, xsr, xno, xsk, xrt, xsj, xtx, xtl, xcr, eN, eC, eD, eT, eH, eR, tE, tN)) : wpX_produce post (xms, xsl, xdl, xnc, xsd, xn, xlr, xls, xle, xst, xnw, xtc, 1, xtn, xcu, xtd, nI j, xsr, xno, xsk, xrt, xsj, xtx, xtl, xcr, eN, eC, eD, eT, eH, eR, tE, tN) :=
  br_f (sm_m1ne (by omega)) ⟨vp_in_nI hj (by omega), nm_r (sm_cg (by omega) hN) ⟨vp_in_nI hj (by omega), nm_r (sm_cg (by omega) hC) ⟨vp_in_nI hj (by omega), nm_r (sm_cg (by omega) hT) ⟨sm_in5 0 hi (by omega), nm_r (sm_c5 0 hi (by omega) h0) (br_f (sm_nlt 13 (by omega) (by omega)) (br_f (sm_ngt 17 (by omega) (by omega)) (br_t (sm_eqI (b := 13) (by omega)) (br_t e h))))⟩⟩⟩⟩
theorem sx_1arbno {i j k c d : Nat} {xt : Int32} (hj : j < 250) (hN : eN j = nI i) (hi : i < 32) (h0 : xno (5 * i) = nI k) (hC : eC j = nI c) (hT : eT j = xt) (k0 : k = 13) (e : ¬ xcu = nI c) (hD : eD j = nI d)
    (h : post (xms, xsl, xdl, xnc, xsd, xn, xlr, xls, xle, xst, xnw, xtc, 0, nI i, xcu, nI d, xt, xsr, xno, xsk, xrt, xsj, xtx, xtl, xcr, eN, eC, eD, eT, eH, eR, tE, tN)) : wpX_produce post (xms, xsl, xdl, xnc, xsd, xn, xlr, xls, xle, xst, xnw, xtc, 1, xtn, xcu, xtd, nI j, xsr, xno, xsk, xrt, xsj, xtx, xtl, xcr, eN, eC, eD, eT, eH, eR, tE, tN) := by
  have ed : eD (nI j).toNatClampNeg = nI d := sm_cg (by omega) hD
  refine br_f (sm_m1ne (by omega)) ⟨vp_in_nI hj (by omega), nm_r (sm_cg (by omega) hN) ⟨vp_in_nI hj (by omega), nm_r (sm_cg (by omega) hC) ⟨vp_in_nI hj (by omega), nm_r (sm_cg (by omega) hT) ⟨sm_in5 0 hi (by omega), nm_r (sm_c5 0 hi (by omega) h0) (br_f (sm_nlt 13 (by omega) (by omega)) (br_f (sm_ngt 17 (by omega) (by omega)) (br_t (sm_eqI (b := 13) (by omega)) (br_f e ⟨vp_in_nI hj (by omega), ?_⟩))))⟩⟩⟩⟩
  rw [ed]
  exact h
theorem sx_1fence {i j k c : Nat} {xt xh : Int32} (hj : j < 250) (hN : eN j = nI i) (hi : i < 32) (h0 : xno (5 * i) = nI k) (hC : eC j = nI c) (hT : eT j = xt) (k0 : k = 14) (hH : eH j = xh)
    (h : post (xms, xsl, xdl, xnc, xsd, xn, xlr, xls, xle, xst, xh, xtc, 1, xtn, xcu, xtd, xt, xsr, xno, xsk, xrt, xsj, xtx, xtl, xcr, eN, eC, eD, eT, eH, eR, tE, tN)) : wpX_produce post (xms, xsl, xdl, xnc, xsd, xn, xlr, xls, xle, xst, xnw, xtc, 1, xtn, xcu, xtd, nI j, xsr, xno, xsk, xrt, xsj, xtx, xtl, xcr, eN, eC, eD, eT, eH, eR, tE, tN) :=
  br_f (sm_m1ne (by omega)) ⟨vp_in_nI hj (by omega), nm_r (sm_cg (by omega) hN) ⟨vp_in_nI hj (by omega), nm_r (sm_cg (by omega) hC) ⟨vp_in_nI hj (by omega), nm_r (sm_cg (by omega) hT) ⟨sm_in5 0 hi (by omega), nm_r (sm_c5 0 hi (by omega) h0) (br_f (sm_nlt 13 (by omega) (by omega)) (br_f (sm_ngt 17 (by omega) (by omega)) (br_f (sm_ne 13 (by omega) (by omega) (by omega)) (br_t (sm_eqI (b := 14) (by omega)) (⟨vp_in_nI hj (by omega), nm_r (sm_cg (by omega) hH) h⟩)))))⟩⟩⟩⟩
theorem sx_1imm {i j k c a v : Nat} {xt : Int32} (hj : j < 250) (hN : eN j = nI i) (hi : i < 32) (h0 : xno (5 * i) = nI k) (hC : eC j = nI c) (hT : eT j = xt) (k0 : k = 15) (ha : a ≤ 7) (h1 : xno (5 * i + 1) = nI a) (cv : c ≤ v) (v16 : v ≤ 16)
    (h : post (xms, xsl, xdl, xnc, xsd, xn, xlr, xls, xle, xst, xnw, xtc, 1, xtn, nI v, xtd, xt, xsr, xno, xsk, xrt, xsj, sm_put xsj xtx a c (v - c), upd xtl a (nI (v - c)), xcr, eN, eC, eD, eT, eH, eR, tE, tN)) : wpX_produce post (xms, xsl, xdl, xnc, xsd, xn, xlr, xls, xle, xst, xnw, xtc, 1, xtn, nI v, xtd, nI j, xsr, xno, xsk, xrt, xsj, xtx, xtl, xcr, eN, eC, eD, eT, eH, eR, tE, tN) := by
  have e1 : xno (nI i * 5 + nI 1).toNatClampNeg = nI a := sm_c5 1 hi (by omega) h1
  refine br_f (sm_m1ne (by omega)) ⟨vp_in_nI hj (by omega), nm_r (sm_cg (by omega) hN) ⟨vp_in_nI hj (by omega), nm_r (sm_cg (by omega) hC) ⟨vp_in_nI hj (by omega), nm_r (sm_cg (by omega) hT) ⟨sm_in5 0 hi (by omega), nm_r (sm_c5 0 hi (by omega) h0) (br_f (sm_nlt 13 (by omega) (by omega)) (br_f (sm_ngt 17 (by omega) (by omega)) (br_f (sm_ne 13 (by omega) (by omega) (by omega)) (br_f (sm_ne 14 (by omega) (by omega) (by omega)) (br_t (sm_eqI (b := 15) (by omega)) (⟨sm_in5 1 hi (by omega), ?_⟩))))))⟩⟩⟩⟩
  show wpX_setText _ _ (xno (nI i * 5 + nI 1).toNatClampNeg) _ _
  rw [e1]
  exact sx_setText ha cv v16 h
theorem sx_1cond {i j k c t : Nat} {xt : Int32} (hj : j < 250) (hN : eN j = nI i) (hi : i < 32) (h0 : xno (5 * i) = nI k) (hC : eC j = nI c) (hT : eT j = xt) (k0 : k = 16) (ht : t < 250)
    (h : post (xms, xsl, xdl, xnc, xsd, xn, xlr, xls, xle, xst, xnw, nI (t + 1), 1, xtn, xcu, xtd, xt, xsr, xno, xsk, xrt, xsj, xtx, xtl, xcr, eN, eC, eD, eT, eH, eR, upd tE t (nI j), upd tN t xcu)) : wpX_produce post (xms, xsl, xdl, xnc, xsd, xn, xlr, xls, xle, xst, xnw, nI t, 1, xtn, xcu, xtd, nI j, xsr, xno, xsk, xrt, xsj, xtx, xtl, xcr, eN, eC, eD, eT, eH, eR, tE, tN) :=
  br_f (sm_m1ne (by omega)) ⟨vp_in_nI hj (by omega), nm_r (sm_cg (by omega) hN) ⟨vp_in_nI hj (by omega), nm_r (sm_cg (by omega) hC) ⟨vp_in_nI hj (by omega), nm_r (sm_cg (by omega) hT) ⟨sm_in5 0 hi (by omega), nm_r (sm_c5 0 hi (by omega) h0) (br_f (sm_nlt 13 (by omega) (by omega)) (br_f (sm_ngt 17 (by omega) (by omega)) (br_f (sm_ne 13 (by omega) (by omega) (by omega)) (br_f (sm_ne 14 (by omega) (by omega) (by omega)) (br_f (sm_ne 15 (by omega) (by omega) (by omega)) (br_t (sm_eqI (b := 16) (by omega)) (br_f (nI_ge (b := 250) (by omega) (by omega)) ⟨vp_in_nI ht (by omega), nm_r (sm_up (by omega)) ⟨vp_in_nI ht (by omega), nm_r (sm_up (by omega)) (nm_r (nI_1 t) h)⟩⟩)))))))⟩⟩⟩⟩
theorem sx_2none (h : post (xms, xsl, xdl, xnc, xsd, xn, xlr, xls, xle, xst, -1, xtc, 2, xtn, xcu, xtd, xtt, 0, xno, xsk, xrt, xsj, xtx, xtl, xcr, eN, eC, eD, eT, eH, eR, tE, tN)) : wpX_backtrack post (xms, xsl, xdl, xnc, xsd, xn, xlr, xls, xle, xst, -1, xtc, 2, xtn, xcu, xtd, xtt, xsr, xno, xsk, xrt, xsj, xtx, xtl, xcr, eN, eC, eD, eT, eH, eR, tE, tN) := br_t rfl h
theorem sx_2arbno {i j k c d l : Nat} {xh xr : Int32} (hj : j < 250) (hN : eN j = nI i) (hi : i < 32) (h0 : xno (5 * i) = nI k) (hC : eC j = nI c) (hH : eH j = xh) (hR : eR j = xr) (k0 : k = 13) (hD : eD j = nI d) (h3 : xno (5 * i + 3) = nI l)
    (h : post (xms, xsl, xdl, xnc, xsd, xn, xlr, xls, xle, xst, xh, xr, 0, nI l, nI c, nI d, nI j, xsr, xno, xsk, xrt, xsj, xtx, xtl, xcr, eN, eC, eD, eT, eH, eR, tE, tN)) : wpX_backtrack post (xms, xsl, xdl, xnc, xsd, xn, xlr, xls, xle, xst, nI j, xtc, 2, xtn, xcu, xtd, xtt, xsr, xno, xsk, xrt, xsj, xtx, xtl, xcr, eN, eC, eD, eT, eH, eR, tE, tN) := by
  have e3 : xno (nI i * 5 + nI 3).toNatClampNeg = nI l := sm_c5 3 hi (by omega) h3
  have ed : eD (nI j).toNatClampNeg = nI d := sm_cg (by omega) hD
  refine br_f (sm_m1ne (by omega)) ⟨vp_in_nI hj (by omega), nm_r (congrArg (· * 5) (sm_cg (f := eN) (by omega) hN)) ⟨vp_in_nI hj (by omega), nm_r (sm_cg (by omega) hC) ⟨vp_in_nI hj (by omega), nm_r (sm_cg (by omega) hH) ⟨vp_in_nI hj (by omega), nm_r (sm_cg (by omega) hR) ⟨sm_in5 0 hi (by omega), nm_r (sm_c5 0 hi (by omega) h0) (br_t (sm_eqI (b := 13) (by omega)) ⟨sm_in5 3 hi (by omega), vp_in_nI hj (by omega), ?_⟩)⟩⟩⟩⟩⟩
  show wpX_planBegin _ _ (xno (nI i * 5 + nI 3).toNatClampNeg) _ _ _
  rw [e3, ed]
  exact h
theorem sx_2alt {i j k c d l : Nat} {xh xr xt : Int32} (hj : j < 250) (hN : eN j = nI i) (hi : i < 32) (h0 : xno (5 * i) = nI k) (hC : eC j = nI c) (hH : eH j = xh) (hR : eR j = xr) (k0 : k = 18) (hD : eD j = nI d) (hT : eT j = xt) (h4 : xno (5 * i + 4) = nI l)
    (h : post (xms, xsl, xdl, xnc, xsd, xn, xlr, xls, xle, xst, xh, xr, 0, nI l, nI c, nI d, xt, xsr, xno, xsk, xrt, xsj, xtx, xtl, xcr, eN, eC, eD, eT, eH, eR, tE, tN)) : wpX_backtrack post (xms, xsl, xdl, xnc, xsd, xn, xlr, xls, xle, xst, nI j, xtc, 2, xtn, xcu, xtd, xtt, xsr, xno, xsk, xrt, xsj, xtx, xtl, xcr, eN, eC, eD, eT, eH, eR, tE, tN) := by
  have e4 : xno (nI i * 5 + nI 4).toNatClampNeg = nI l := sm_c5 4 hi (by omega) h4
  have ed : eD (nI j).toNatClampNeg = nI d := sm_cg (by omega) hD
  have et : eT (nI j).toNatClampNeg = xt := sm_cg (by omega) hT
  refine br_f (sm_m1ne (by omega)) ⟨vp_in_nI hj (by omega), nm_r (congrArg (· * 5) (sm_cg (f := eN) (by omega) hN)) ⟨vp_in_nI hj (by omega), nm_r (sm_cg (by omega) hC) ⟨vp_in_nI hj (by omega), nm_r (sm_cg (by omega) hH) ⟨vp_in_nI hj (by omega), nm_r (sm_cg (by omega) hR) ⟨sm_in5 0 hi (by omega), nm_r (sm_c5 0 hi (by omega) h0) (br_f (sm_ne 13 (by omega) (by omega) (by omega)) (br_t (sm_eqI (b := 18) (by omega)) ⟨sm_in5 4 hi (by omega), vp_in_nI hj (by omega), vp_in_nI hj (by omega), ?_⟩))⟩⟩⟩⟩⟩
  show wpX_planBegin _ _ (xno (nI i * 5 + nI 4).toNatClampNeg) _ _ _
  rw [e4, ed, et]
  exact h
theorem sx_2arby {i j k c n : Nat} {xh xr xt : Int32} (hj : j < 250) (hN : eN j = nI i) (hi : i < 32) (h0 : xno (5 * i) = nI k) (hC : eC j = nI c) (hH : eH j = xh) (hR : eR j = xr) (k0 : k = 10) (hT : eT j = xt) (hc : c < n) (hn : n < 1000)
    (h : post (xms, xsl, xdl, xnc, xsd, nI n, xlr, xls, xle, xst, nI j, xr, 1, xtn, nI (c + 1), xtd, xt, xsr, xno, xsk, xrt, xsj, xtx, xtl, xcr, eN, upd eC j (nI (c + 1)), eD, eT, eH, eR, tE, tN)) : wpX_backtrack post (xms, xsl, xdl, xnc, xsd, nI n, xlr, xls, xle, xst, nI j, xtc, 2, xtn, xcu, xtd, xtt, xsr, xno, xsk, xrt, xsj, xtx, xtl, xcr, eN, eC, eD, eT, eH, eR, tE, tN) := by
  have ec : eC (nI j).toNatClampNeg = nI c := sm_cg (by omega) hC
  have et : eT (nI j).toNatClampNeg = xt := sm_cg (by omega) hT
  have l : eC (nI j).toNatClampNeg < nI n := by rw [ec]; exact nI_lt hc (by omega)
  have e2 : upd eC (nI j).toNatClampNeg (eC (nI j).toNatClampNeg + 1) = upd eC j (nI (c + 1)) := by rw [ec, nI_1, sm_up (by omega)]
  have e3 : upd eC j (nI (c + 1)) (nI j).toNatClampNeg = nI (c + 1) := sm_cg (by omega) pk_us
  refine br_f (sm_m1ne (by omega)) ⟨vp_in_nI hj (by omega), nm_r (congrArg (· * 5) (sm_cg (f := eN) (by omega) hN)) ⟨vp_in_nI hj (by omega), nm_r (sm_cg (by omega) hC) ⟨vp_in_nI hj (by omega), nm_r (sm_cg (by omega) hH) ⟨vp_in_nI hj (by omega), nm_r (sm_cg (by omega) hR) ⟨sm_in5 0 hi (by omega), nm_r (sm_c5 0 hi (by omega) h0) (br_f (sm_ne 13 (by omega) (by omega) (by omega)) (br_f (sm_ne 18 (by omega) (by omega) (by omega)) ⟨vp_in_nI hj (by omega), br_t l ⟨vp_in_nI hj (by omega), vp_in_nI hj (by omega), nm_r e2 ⟨vp_in_nI hj (by omega), vp_in_nI hj (by omega), ?_⟩⟩⟩))⟩⟩⟩⟩⟩
  rw [e3, et]
  exact h
theorem sx_2arbx {i j k c n : Nat} {xh xr : Int32} (hj : j < 250) (hN : eN j = nI i) (hi : i < 32) (h0 : xno (5 * i) = nI k) (hC : eC j = nI c) (hH : eH j = xh) (hR : eR j = xr) (k0 : k = 10) (hc : n ≤ c) (hc2 : c < 1000)
    (h : post (xms, xsl, xdl, xnc, xsd, nI n, xlr, xls, xle, xst, xh, xr, 2, xtn, xcu, xtd, xtt, xsr, xno, xsk, xrt, xsj, xtx, xtl, xcr, eN, eC, eD, eT, eH, eR, tE, tN)) : wpX_backtrack post (xms, xsl, xdl, xnc, xsd, nI n, xlr, xls, xle, xst, nI j, xtc, 2, xtn, xcu, xtd, xtt, xsr, xno, xsk, xrt, xsj, xtx, xtl, xcr, eN, eC, eD, eT, eH, eR, tE, tN) := by
  have ec : eC (nI j).toNatClampNeg = nI c := sm_cg (by omega) hC
  have l : ¬ eC (nI j).toNatClampNeg < nI n := by rw [ec]; exact nI_nlt hc (by omega)
  exact br_f (sm_m1ne (by omega)) ⟨vp_in_nI hj (by omega), nm_r (congrArg (· * 5) (sm_cg (f := eN) (by omega) hN)) ⟨vp_in_nI hj (by omega), nm_r (sm_cg (by omega) hC) ⟨vp_in_nI hj (by omega), nm_r (sm_cg (by omega) hH) ⟨vp_in_nI hj (by omega), nm_r (sm_cg (by omega) hR) ⟨sm_in5 0 hi (by omega), nm_r (sm_c5 0 hi (by omega) h0) (br_f (sm_ne 13 (by omega) (by omega) (by omega)) (br_f (sm_ne 18 (by omega) (by omega) (by omega)) ⟨vp_in_nI hj (by omega), br_f l h⟩))⟩⟩⟩⟩⟩
end
end
section
theorem sm_st_id {G : Nat → Nat → Nat} {x : Nat} : sm_st G x (G 9 x) = G := by
  funext i g
  unfold sm_st
  by_cases h : i = 9
  · rw [if_pos h]
    by_cases q : g = x
    · rw [if_pos q, h, q]
    · rw [if_neg q, h]
  · rw [if_neg h]
theorem sm_rw16 {nd kd cc dd p sl tk ch tr dp : Nat} : sm_rw nd kd cc dd p sl tk ch tr dp 16 = 0 := rfl
section
variable {K j nd kd cc dd tk ch tr dp : Nat} {G : Nat → Nat → Nat} {fN fC fD fS fA fB fO fP fL fM : Nat → Int32}
theorem sm_Y_nwA (h : sm_Y K G fN fC fD fS fA fB fO fP fL fM) (hj : j < K) (hl : ∀ g, G 15 g = 1 → g ≤ K) :
    sm_Y (K + 1) (sm_nw G (K + 1) (j + 1) 10 (sm_rw nd kd cc dd (j + 1) 0 tk ch tr dp)) (upd fN K (nI nd)) (upd fC K (nI cc)) (upd fD K (nI dd)) (upd fS K 0)
      (upd (upd fA K (-1)) j (nI K)) (upd fB K (-1)) (upd fO K (-1)) (upd fP K (nI j)) (upd fL K (-1)) (upd fM K (-1)) := by
  have h' := h
  obtain ⟨a1, a2, a3, a4, a5, a6, a7, a8, a9, a10⟩ := h'
  refine sm_Y_nw h (by omega) hl (by rw [sm_rw16]; omega) (Or.inl rfl) rfl rfl rfl rfl (sm_ps j).symm rfl rfl (fun i hi => pk_un (by omega)) ?_ ?_
  · intro i hi
    by_cases q : i = j
    · rw [q, pk_us, sm_nw_p (by omega), sm_ps]
    · rw [pk_un q]
      by_cases r : i = K
      · rw [r, pk_us, sm_nw_k]; rfl
      · rw [pk_un r, sm_nw_n (by omega) (Or.inl (by omega))]
        exact a5 i (by omega)
  · exact sm_ep_n a6 (fun k k1 k2 => sm_nw_n (by omega) (Or.inr (by omega))) (by rw [sm_nw_k]; rfl)
theorem sm_Y_nwB (h : sm_Y K G fN fC fD fS fA fB fO fP fL fM) (hj : j < K) (hl : ∀ g, G 15 g = 1 → g ≤ K) :
    sm_Y (K + 1) (sm_nw G (K + 1) (j + 1) 11 (sm_rw nd kd cc dd (j + 1) 1 tk ch tr dp)) (upd fN K (nI nd)) (upd fC K (nI cc)) (upd fD K (nI dd)) (upd fS K 0)
      (upd fA K (-1)) (upd (upd fB K (-1)) j (nI K)) (upd fO K (-1)) (upd fP K (nI j)) (upd fL K (-1)) (upd fM K (-1)) := by
  have h' := h
  obtain ⟨a1, a2, a3, a4, a5, a6, a7, a8, a9, a10⟩ := h'
  refine sm_Y_nw h (by omega) hl (by rw [sm_rw16]; omega) (Or.inr rfl) rfl rfl rfl rfl (sm_ps j).symm rfl rfl (fun i hi => pk_un (by omega)) ?_ ?_
  · exact sm_ep_n a5 (fun k k1 k2 => sm_nw_n (by omega) (Or.inr (by omega))) (by rw [sm_nw_k]; rfl)
  · intro i hi
    by_cases q : i = j
    · rw [q, pk_us, sm_nw_p (by omega), sm_ps]
    · rw [pk_un q]
      by_cases r : i = K
      · rw [r, pk_us, sm_nw_k]; rfl
      · rw [pk_un r, sm_nw_n (by omega) (Or.inl (by omega))]
        exact a6 i (by omega)
/-- x yields: its outcome cell, and its state cell if it changes -/
theorem sm_Y_yld {v s a k t : Nat} {fS' : Nat → Int32} (h : sm_Y K G fN fC fD fS fA fB fO fP fL fM) (hj : j < K) (la : G 13 (j + 1) = 0) (lb : G 14 (j + 1) = 0)
    (hs : (fS' = fS ∧ s = G 9 (j + 1)) ∨ fS' = upd fS j (nI s)) :
    sm_Y K (sm_fr (sm_st G (j + 1) s) (j + 1) v 0 0 k a t) fN fC fD fS' fA fB (upd fO j (nI v)) fP fL fM := by
  have h1 : sm_Y K (sm_st G (j + 1) s) fN fC fD fS' fA fB fO fP fL fM := by
    rcases hs with ⟨q, r⟩ | q
    · rw [q, r, sm_st_id]; exact h
    · rw [q]; exact sm_Y_st h (p := j + 1) (by omega) rfl
  obtain ⟨a1, a2, a3, a4, a5, a6, a7, a8, a9, a10⟩ := h
  refine sm_Y_fr h1 (by omega) (by omega) (fun i hi => pk_un hi) pk_us (fun i _ => rfl) ?_ (fun i _ => rfl) ?_
  · have := a9 j hj
    rw [la] at this
    exact this
  · have := a10 j hj
    rw [lb] at this
    exact this
/-- an element stored -/
theorem sm_X_push {k : Nat} {H : Nat → Nat → Nat} {eN eC eD eT eH eR : Nat → Int32} (h : sm_X k G eN eC eD eT eH eR)
    (e : ∀ i g, i ≤ 8 → H i g = G i g) (e9 : ∀ g, g ≠ k + 1 → H 9 g = G 9 g) (ec : G 1 (k + 1) = 10 → H 9 (k + 1) = G 2 (k + 1)) :
    sm_X (k + 1) H (upd eN k (nI (G 0 (k + 1)))) (upd eC k (nI (G 2 (k + 1)))) (upd eD k (nI (G 3 (k + 1)))) (upd eT k (sm_p (G 6 (k + 1)))) (upd eH k (sm_p (G 7 (k + 1)))) (upd eR k (nI (G 8 (k + 1)))) := by
  obtain ⟨h1, h2, h3, h4, h5, h6⟩ := h
  refine ⟨sm_en_n h1 (fun j _ _ => e 0 j (by omega)) (by rw [e 0 _ (by omega)]), sm_en_n h2 ?_ ?_, sm_en_n h3 (fun j _ _ => e 3 j (by omega)) (by rw [e 3 _ (by omega)]), sm_ep_n h4 (fun j _ _ => e 6 j (by omega)) (by rw [e 6 _ (by omega)]), sm_ep_n h5 (fun j _ _ => e 7 j (by omega)) (by rw [e 7 _ (by omega)]), sm_en_n h6 (fun j _ _ => e 8 j (by omega)) (by rw [e 8 _ (by omega)])⟩
  · intro j j1 j2
    unfold sm_ec
    rw [e 1 j (by omega), e 2 j (by omega), e9 j (by omega)]
  · unfold sm_ec
    rw [e 1 _ (by omega), e 2 _ (by omega)]
    by_cases q : G 1 (k + 1) = 10
    · rw [if_pos q, ec q]
    · rw [if_neg q]
/-- an element's outcome lengthened -/
theorem sm_X_arb {v : Nat} {H : Nat → Nat → Nat} {eN eC eD eT eH eR : Nat → Int32} (h : sm_X K G eN eC eD eT eH eR)
    (e : ∀ i g, i ≤ 8 → H i g = G i g) (e9 : ∀ g, g ≠ j + 1 → H 9 g = G 9 g) (k10 : G 1 (j + 1) = 10) (ev : H 9 (j + 1) = v) :
    sm_X K H eN (upd eC j (nI v)) eD eT eH eR := by
  obtain ⟨h1, h2, h3, h4, h5, h6⟩ := h
  have f : ∀ i, i ≤ 8 → H i = G i := fun i hi => by funext g; exact e i g hi
  refine ⟨by rw [f 0 (by omega)]; exact h1, ?_, by rw [f 3 (by omega)]; exact h3, by rw [f 6 (by omega)]; exact h4, by rw [f 7 (by omega)]; exact h5, by rw [f 8 (by omega)]; exact h6⟩
  refine sm_en_u (f := j + 1) h2 (by omega) ?_ ?_
  · intro g hg
    unfold sm_ec
    rw [e 1 g (by omega), e 2 g (by omega), e9 g hg]
  · unfold sm_ec
    rw [e 1 _ (by omega), if_pos k10, ev]
end
end
section
section
variable {K n nc j : Nat} {kn : Nat → Nat} {G : Nat → Nat → Nat} {fN fC fD fS fA fB fO fP fL fM tE tN : Nat → Int32}
/-- the frame j + 1, unfrozen and last, yields v -/
theorem sm_T2 {v s a : Nat} {fS' : Nat → Int32} (I : sm_inv K n G) (Y : sm_Y K G fN fC fD fS fA fB fO fP fL fM) (T : sm_T G tE tN) (N : sm_N K nc kn G)
    (lx : G 15 (j + 1) = 1) (ox : G 16 (j + 1) ≠ 1) (top : ∀ h, G 15 h = 1 → h ≤ j + 1) (hv1 : G 2 (j + 1) ≤ v) (hv2 : v ≤ n)
    (la : G 13 (j + 1) = 0) (lb : G 14 (j + 1) = 0) (hs : (fS' = fS ∧ s = G 9 (j + 1)) ∨ fS' = upd fS j (nI s))
    (hk : (G 1 (j + 1) ≤ 11 ∧ G 1 (j + 1) ≠ 10 ∧ a = G 7 (j + 1)) ∨ (G 1 (j + 1) = 10 ∧ a = j + 1 ∧ s = v) ∨ (G 1 (j + 1) = 13 ∧ a = j + 1 ∧ s = 1)) :
    ∃ H, sm_inv K n H ∧ sm_e2 K H (j + 1) ∧ sm_Y K H fN fC fD fS' fA fB (upd fO j (nI v)) fP fL fM ∧ sm_T H tE tN ∧ sm_N K nc kn H ∧
      (∀ i g, i ≤ 8 → H i g = G i g) ∧ (∀ g, g ≠ j + 1 → H 9 g = G 9 g) ∧ H 9 (j + 1) = s ∧ H 12 (j + 1) = v ∧ H 18 (j + 1) = a ∧
      H 19 (j + 1) = G 8 (j + 1) ∧ (∀ g, H 20 g = G 20 g) := by
  have jK := (I.2.1 _ lx).1
  obtain ⟨I1, E1⟩ := sm_yld (s := s) (a := a) I (by omega) lx ox top hv1 hv2 hk
  refine ⟨_, I1, E1, sm_Y_yld Y (by omega) la lb hs, ?_, ?_, ?_, ?_, ?_, ?_, ?_, ?_, ?_⟩
  · intro f hf lf zf kf
    have q : f ≠ j + 1 := by
      intro q
      rw [q, sm_fr_o (by omega), sm_st_o (by omega)] at kf
      omega
    rw [sm_fr_n q, sm_st_o (by omega)] at lf zf kf
    rw [sm_fr_n q, sm_fr_n q, sm_st_o (by omega), sm_st_o (by omega)]
    exact T f hf lf zf kf
  · exact sm_N_s N (by rw [sm_fr_o (by omega), sm_st_o (by omega)]) (by rw [sm_fr_o (by omega), sm_st_o (by omega)]) (by rw [sm_fr_o (by omega), sm_st_o (by omega)]) (by rw [sm_fr_o (by omega), sm_st_o (by omega)])
  · intro i g hi
    rw [sm_fr_o (by omega), sm_st_o (by omega)]
  · intro g hg
    rw [sm_fr_n hg, sm_st_n hg]
  · rw [sm_fr_o (by omega), sm_st_e]
  · rw [sm_fr_12]
  · rw [sm_fr_18]
  · rw [sm_fr_19]
  · intro g
    rw [sm_fr_o (by omega), sm_st_o (by omega)]
/-- the frame j + 1 is exhausted -/
theorem sm_T3 (I : sm_inv K n G) (Y : sm_Y K G fN fC fD fS fA fB fO fP fL fM) (T : sm_T G tE tN) (N : sm_N K nc kn G)
    (lx : G 15 (j + 1) = 1) (px : G 16 (G 4 (j + 1)) ≠ 1) :
    ∃ H, sm_inv K n H ∧ sm_e3 K H (j + 1) ∧ sm_Y K H fN fC fD fS fA fB fO fP fL fM ∧ sm_T H tE tN ∧ sm_N K nc kn H ∧ (∀ i, i ≠ 15 → H i = G i) := by
  obtain ⟨I1, E1⟩ := sm_die I (by omega) lx px
  refine ⟨_, I1, E1, sm_Y_s Y (fun i hi => sm_ct_o (by omega)) ?_, sm_T_s T (sm_ct_o (by omega)) ?_, sm_N_s N (sm_ct_o (by omega)) (sm_ct_o (by omega)) (sm_ct_o (by omega)) (sm_ct_o (by omega)), fun i hi => sm_ct_o hi⟩
  · intro f lf zf
    rw [sm_ct_o (by omega)] at zf
    exact ⟨(sm_ct_l.mp lf).1, zf⟩
  · intro f lf zf
    rw [sm_ct_o (by omega)] at zf
    rw [sm_ct_o (by omega), sm_ct_o (by omega)]
    exact ⟨(sm_ct_l.mp lf).1, zf, fun _ => ⟨rfl, rfl⟩⟩
/-- under the frame j + 1, unfrozen and last, a child in slot 0 -/
theorem sm_TA {nd dd tk ch : Nat} (I : sm_inv K n G) (Y : sm_Y K G fN fC fD fS fA fB fO fP fL fM) (T : sm_T G tE tN) (N : sm_N K nc kn G)
    (lp : G 15 (j + 1) = 1) (op : G 16 (j + 1) ≠ 1) (top : ∀ h, G 15 h = 1 → h ≤ j + 1) (k12 : 12 ≤ G 1 (j + 1)) (k13 : G 1 (j + 1) = 13 → G 9 (j + 1) = 2) (k18 : G 1 (j + 1) = 18 → G 9 (j + 1) ≤ 1)
    (hn : nd < nc) (hk : kn nd ≤ 18) (hd8 : dd ≤ 8)
    (ht : ((G 1 (j + 1) = 12 ∨ G 1 (j + 1) = 18) ∧ tk = G 6 (j + 1)) ∨ (G 1 (j + 1) ≠ 12 ∧ G 1 (j + 1) ≠ 18 ∧ tk = j + 1))
    (hc : (G 1 (j + 1) = 18 ∧ G 9 (j + 1) = 0 ∧ ch = j + 1) ∨ ((G 1 (j + 1) ≠ 18 ∨ G 9 (j + 1) ≠ 0) ∧ ch = G 7 (j + 1))) :
    ∃ H, sm_inv (K + 1) n H ∧ sm_e0 (K + 1) H ∧
      sm_Y (K + 1) H (upd fN K (nI nd)) (upd fC K (nI (G 2 (j + 1)))) (upd fD K (nI dd)) (upd fS K 0) (upd (upd fA K (-1)) j (nI K)) (upd fB K (-1)) (upd fO K (-1)) (upd fP K (nI j)) (upd fL K (-1)) (upd fM K (-1)) ∧
      sm_T H tE tN ∧ sm_N (K + 1) nc kn H ∧ (∀ eN eC eD eT eH eR, sm_X K G eN eC eD eT eH eR → sm_X K H eN eC eD eT eH eR) ∧
      H 0 (K + 1) = nd ∧ H 2 (K + 1) = G 2 (j + 1) ∧ H 3 (K + 1) = dd ∧ H 6 (K + 1) = tk ∧ H 7 (K + 1) = ch ∧ H 8 (K + 1) = G 8 (j + 1) := by
  have jK := (I.2.1 _ lp).1
  obtain ⟨I1, E1⟩ := sm_des (nd := nd) (dd := dd) I lp op top k12 k13 k18 hk ht hc
  refine ⟨_, I1, E1, sm_Y_nwA Y (by omega) (fun g hg => (I.2.1 g hg).1), sm_T_nw T (by rw [sm_rw16]; omega) (Or.inl rfl), sm_N_nw N ⟨hn, rfl, hd8⟩ (Or.inl rfl) (by omega), fun eN eC eD eT eH eR h => sm_X_nw h (Or.inl rfl), ?_, ?_, ?_, ?_, ?_, ?_⟩
  all_goals rw [sm_nw_k]; rfl
/-- the slot 0 child f + 1 of j + 1 has yielded: a child in slot 1 -/
theorem sm_TB {nd dd f : Nat} (I : sm_inv K n G) (E : sm_e2 K G (f + 1)) (Y : sm_Y K G fN fC fD fS fA fB fO fP fL fM) (T : sm_T G tE tN) (N : sm_N K nc kn G)
    (hp : G 4 (f + 1) = j + 1) (sf : G 5 (f + 1) = 0) (kp : G 1 (j + 1) = 13 ∨ G 1 (j + 1) = 17) (hn : nd < nc) (hk : kn nd ≤ 18) (hd8 : dd ≤ 8) :
    ∃ H, sm_inv (K + 1) n H ∧ sm_e0 (K + 1) H ∧
      sm_Y (K + 1) H (upd fN K (nI nd)) (upd fC K (nI (G 12 (f + 1)))) (upd fD K (nI dd)) (upd fS K 0) (upd fA K (-1)) (upd (upd fB K (-1)) j (nI K)) (upd fO K (-1)) (upd fP K (nI j)) (upd fL K (-1)) (upd fM K (-1)) ∧
      sm_T H tE tN ∧ sm_N (K + 1) nc kn H ∧ (∀ eN eC eD eT eH eR, sm_X K G eN eC eD eT eH eR → sm_X K H eN eC eD eT eH eR) ∧
      H 0 (K + 1) = nd ∧ H 2 (K + 1) = G 12 (f + 1) ∧ H 3 (K + 1) = dd ∧ H 6 (K + 1) = G 6 (j + 1) ∧ H 7 (K + 1) = G 18 (f + 1) ∧ H 8 (K + 1) = G 19 (f + 1) := by
  have l1 := (I.2.2.1 (f + 1) (by omega) E.2.1).1
  have fK := (I.2.1 _ E.2.1).1
  rw [hp] at l1
  obtain ⟨I1, E1⟩ := sm_nx (nd := nd) (dd := dd) I E hp sf kp hk
  refine ⟨_, I1, E1, sm_Y_nwB Y (by omega) (fun g hg => (I.2.1 g hg).1), sm_T_nw T (by rw [sm_rw16]; omega) (Or.inr rfl), sm_N_nw N ⟨hn, rfl, hd8⟩ (Or.inr rfl) (by omega), fun eN eC eD eT eH eR h => sm_X_nw h (Or.inr rfl), ?_, ?_, ?_, ?_, ?_, ?_⟩
  all_goals rw [sm_nw_k]; rfl
/-- the frame f + 1 has yielded and j + 1 hands it on -/
theorem sm_TP {f la lb a t : Nat} {fL' fM' tE' tN' : Nat → Int32} (I : sm_inv K n G) (E : sm_e2 K G (f + 1)) (Y : sm_Y K G fN fC fD fS fA fB fO fP fL fM) (T : sm_T G tE tN) (N : sm_N K nc kn G)
    (hp : G 4 (f + 1) = j + 1)
    (hc : (G 5 (f + 1) = 0 ∧ (G 1 (j + 1) = 12 ∨ G 1 (j + 1) = 14 ∨ G 1 (j + 1) = 15 ∨ G 1 (j + 1) = 16 ∨ G 1 (j + 1) = 18) ∧ la = f + 1 ∧ lb = 0 ∧
        ((G 1 (j + 1) = 14 ∧ a = G 7 (j + 1)) ∨ (G 1 (j + 1) ≠ 14 ∧ a = G 18 (f + 1))) ∧ ((G 1 (j + 1) = 16 ∧ t = G 19 (f + 1) + 1) ∨ (G 1 (j + 1) ≠ 16 ∧ t = G 19 (f + 1)))) ∨
      (G 5 (f + 1) = 1 ∧ la = G 10 (j + 1) ∧ lb = f + 1 ∧ a = G 18 (f + 1) ∧ t = G 19 (f + 1)))
    (hL : fL' = upd fL j (sm_p la)) (hM : (fM' = fM ∧ lb = 0) ∨ fM' = upd fM j (sm_p lb))
    (hT : (G 1 (j + 1) ≠ 16 ∧ tE' = tE ∧ tN' = tN) ∨ (tE' = upd tE (G 19 (f + 1)) (nI j) ∧ tN' = upd tN (G 19 (f + 1)) (nI (G 12 (f + 1))))) :
    ∃ H, sm_inv K n H ∧ sm_e2 K H (j + 1) ∧ sm_Y K H fN fC fD fS fA fB (upd fO j (nI (G 12 (f + 1)))) fP fL' fM' ∧ sm_T H tE' tN' ∧ sm_N K nc kn H ∧
      (∀ i, i ≤ 9 → H i = G i) ∧ H 12 (j + 1) = G 12 (f + 1) ∧ H 18 (j + 1) = a ∧ H 19 (j + 1) = t ∧ H 20 = G 20 := by
  have l := I.2.2.1 (f + 1) (by omega) E.2.1
  have l1 := l.1
  have lj := l.2.1
  have fK := (I.2.1 _ E.2.1).1
  have bj := I.2.1 _ lj
  rw [hp] at l1 lj bj
  have k16 : G 1 (j + 1) = 16 → t = G 19 (f + 1) + 1 := by
    intro z
    rcases hc with ⟨c1, c2, c3, c4, c5, c6⟩ | ⟨c1, c2⟩
    · omega
    · rcases l.2.2.2.2.2.2 with q | q
      · have := q.1; omega
      · have := q.2.1; rw [hp] at this; omega
  have lb0 : lb = 0 → G 14 (j + 1) = 0 := by
    intro z
    rcases hc with ⟨c1, c2, c3, c4, c5, c6⟩ | ⟨c1, c2, c3, c4⟩
    · exact bj.2.2.2.2.2.1 (by omega) (by omega)
    · omega
  obtain ⟨I1, E1⟩ := sm_pas (la := la) (lb := lb) (a := a) (t := t) I E hp (by omega) hc
  have Y' := Y
  obtain ⟨a1, a2, a3, a4, a5, a6, a7, a8, a9, a10⟩ := Y'
  refine ⟨_, I1, E1, ?_, ?_, ?_, ?_, ?_, ?_, ?_, ?_⟩
  · refine sm_Y_fr Y (by omega) (by omega) (fun i hi => pk_un hi) pk_us (fun i hi => by rw [hL]; exact pk_un hi) (by rw [hL]; exact pk_us) ?_ ?_
    · intro i hi
      rcases hM with ⟨q, _⟩ | q
      · rw [q]
      · rw [q]; exact pk_un hi
    · rcases hM with ⟨q, z⟩ | q
      · rw [q, z]
        have := a10 j (by omega)
        rw [lb0 z] at this
        exact this
      · rw [q]; exact pk_us
  · intro g hg lg zg kg
    by_cases q : g = j + 1
    · rw [q, sm_fr_o (by omega)] at kg
      rw [q, sm_fr_19, sm_fr_12, k16 kg]
      rcases hT with ⟨r, _⟩ | ⟨r, s⟩
      · exact absurd kg r
      · rw [r, s]
        exact ⟨pk_us, pk_us⟩
    · rw [sm_fr_n q] at lg zg kg
      rw [sm_fr_n q, sm_fr_n q]
      have tg := T g hg lg zg kg
      rcases hT with ⟨_, r, s⟩ | ⟨r, s⟩
      · rw [r, s]; exact tg
      · have m := E.2.2.2.2.2.1 g lg zg
        have c : 1 ≤ G 19 g := by
          obtain ⟨z1, z2, z3, z4, z5, z6⟩ := I.2.2.2.1 g lg zg
          rcases z6 with z6 | z6 | z6
          · have := z6.1; omega
          · obtain ⟨y1, y2, y3, y4, y5, y6, y7⟩ := z6
            omega
          · have := z6.1; omega
        rw [r, s, pk_un (by omega), pk_un (by omega)]
        exact tg
  · exact sm_N_s N (sm_fr_o (by omega)) (sm_fr_o (by omega)) (sm_fr_o (by omega)) (sm_fr_o (by omega))
  · intro i hi
    exact sm_fr_o (by omega)
  · rw [sm_fr_12]
  · rw [sm_fr_18]
  · rw [sm_fr_19]
  · exact sm_fr_o (by omega)
/-- x is asked and asks its child c -/
theorem sm_TK {x c : Nat} (I : sm_inv K n G) (E : sm_e1 G x) (Y : sm_Y K G fN fC fD fS fA fB fO fP fL fM) (T : sm_T G tE tN) (N : sm_N K nc kn G) (ck : sm_ck G x c) :
    ∃ H, sm_inv K n H ∧ sm_e1 H c ∧ sm_Y K H fN fC fD fS fA fB fO fP fL fM ∧ sm_T H tE tN ∧ sm_N K nc kn H ∧ (∀ i, i ≠ 16 → H i = G i) := by
  obtain ⟨I1, E1⟩ := sm_ask I E ck
  have z : ∀ f, sm_op G x 16 f = 1 → G 16 f = 1 := by
    intro f zf
    by_cases q : f = x
    · rw [q, sm_op_e] at zf; omega
    · rw [sm_op_n q] at zf; exact zf
  refine ⟨_, I1, E1, sm_Y_s Y (fun i hi => sm_op_o (by omega)) ?_, sm_T_s T (sm_op_o (by omega)) ?_, sm_N_s N (sm_op_o (by omega)) (sm_op_o (by omega)) (sm_op_o (by omega)) (sm_op_o (by omega)), fun i hi => sm_op_o hi⟩
  · intro f lf zf
    rw [sm_op_o (by omega)] at lf
    exact ⟨lf, z f zf⟩
  · intro f lf zf
    rw [sm_op_o (by omega)] at lf
    rw [sm_op_o (by omega), sm_op_o (by omega)]
    exact ⟨lf, z f zf, fun _ => ⟨rfl, rfl⟩⟩
/-- x is asked, and everything behind it is gone -/
theorem sm_TT {x : Nat} (I : sm_inv K n G) (E : sm_e1 G x) (Y : sm_Y K G fN fC fD fS fA fB fO fP fL fM) (T : sm_T G tE tN) (N : sm_N K nc kn G) :
    ∃ H, sm_inv K n H ∧ H 15 x = 1 ∧ H 16 x ≠ 1 ∧ (∀ h, H 15 h = 1 → h ≤ x) ∧ sm_Y K H fN fC fD fS fA fB fO fP fL fM ∧ sm_T H tE tN ∧ sm_N K nc kn H ∧ (∀ i, i ≠ 15 → i ≠ 16 → H i = G i) := by
  obtain ⟨I1, E1⟩ := sm_top I E
  have e : ∀ i, i ≠ 15 → i ≠ 16 → sm_ct (sm_op G x) (x + 1) i = G i := fun i h1 h2 => by rw [sm_ct_o h1, sm_op_o h2]
  have z : ∀ f, sm_ct (sm_op G x) (x + 1) 15 f = 1 → sm_ct (sm_op G x) (x + 1) 16 f = 1 → G 15 f = 1 ∧ G 16 f = 1 := by
    intro f lf zf
    have lf := (sm_ct_l.mp lf).1
    rw [sm_op_o (by omega)] at lf
    rw [sm_ct_o (by omega)] at zf
    by_cases q : f = x
    · rw [q, sm_op_e] at zf; omega
    · rw [sm_op_n q] at zf; exact ⟨lf, zf⟩
  refine ⟨_, I1, ?_, ?_, E1, sm_Y_s Y (fun i hi => e i (by omega) (by omega)) z, sm_T_s T (e 1 (by omega) (by omega)) ?_, sm_N_s N (e 0 (by omega) (by omega)) (e 1 (by omega) (by omega)) (e 10 (by omega) (by omega)) (e 3 (by omega) (by omega)), e⟩
  · rw [sm_ct_l]
    refine ⟨?_, by omega⟩
    rw [sm_op_o (by omega)]
    exact E.2.1
  · rw [sm_ct_o (by omega), sm_op_e]; omega
  · intro f lf zf
    obtain ⟨l, r⟩ := z f lf zf
    rw [e 12 (by omega) (by omega), e 19 (by omega) (by omega)]
    exact ⟨l, r, fun _ => ⟨rfl, rfl⟩⟩
/-- everything behind the unfrozen frame x is gone -/
theorem sm_TC {x : Nat} (I : sm_inv K n G) (lx : G 15 x = 1) (ox : G 16 x ≠ 1) (Y : sm_Y K G fN fC fD fS fA fB fO fP fL fM) (T : sm_T G tE tN) (N : sm_N K nc kn G) :
    ∃ H, sm_inv K n H ∧ H 15 x = 1 ∧ H 16 x ≠ 1 ∧ (∀ h, H 15 h = 1 → h ≤ x) ∧ sm_Y K H fN fC fD fS fA fB fO fP fL fM ∧ sm_T H tE tN ∧ sm_N K nc kn H ∧ (∀ i, i ≠ 15 → H i = G i) := by
  obtain ⟨I1, E1⟩ := sm_cutb I lx ox
  have e : ∀ i, i ≠ 15 → sm_ct G (x + 1) i = G i := fun i h1 => by rw [sm_ct_o h1]
  refine ⟨_, I1, ?_, ?_, E1, sm_Y_s Y (fun i hi => e i (by omega)) ?_, sm_T_s T (e 1 (by omega)) ?_, sm_N_s N (e 0 (by omega)) (e 1 (by omega)) (e 10 (by omega)) (e 3 (by omega)), e⟩
  · rw [sm_ct_l]
    exact ⟨lx, by omega⟩
  · rw [sm_ct_o (by omega)]; exact ox
  · intro f lf zf
    rw [e 16 (by omega)] at zf
    exact ⟨(sm_ct_l.mp lf).1, zf⟩
  · intro f lf zf
    rw [e 16 (by omega)] at zf
    rw [e 12 (by omega), e 19 (by omega)]
    exact ⟨(sm_ct_l.mp lf).1, zf, fun _ => ⟨rfl, rfl⟩⟩
/-- the state cell of the unfrozen last frame j + 1 is set -/
theorem sm_TS {s : Nat} (I : sm_inv K n G) (ox : G 16 (j + 1) ≠ 1) (top : ∀ h, G 15 h = 1 → h ≤ j + 1) (Y : sm_Y K G fN fC fD fS fA fB fO fP fL fM) (T : sm_T G tE tN) (N : sm_N K nc kn G) (k10 : G 1 (j + 1) ≠ 10) :
    ∃ H, sm_inv K n H ∧ sm_Y K H fN fC fD (upd fS j (nI s)) fA fB fO fP fL fM ∧ sm_T H tE tN ∧ sm_N K nc kn H ∧ (∀ i, i ≠ 9 → H i = G i) ∧ H 9 (j + 1) = s ∧
      (∀ eN eC eD eT eH eR, sm_X K G eN eC eD eT eH eR → sm_X K H eN eC eD eT eH eR) := by
  have e : ∀ i, i ≠ 9 → sm_st G (j + 1) s i = G i := fun i h1 => sm_st_o h1
  refine ⟨_, sm_setst I ox top e (fun g hg => sm_st_n hg), sm_Y_st (p := j + 1) Y (by omega) rfl, sm_T_s T (e 1 (by omega)) ?_, sm_N_s N (e 0 (by omega)) (e 1 (by omega)) (e 10 (by omega)) (e 3 (by omega)), e, sm_st_e, ?_⟩
  · intro f lf zf
    rw [e 15 (by omega)] at lf
    rw [e 16 (by omega)] at zf
    rw [e 12 (by omega), e 19 (by omega)]
    exact ⟨lf, zf, fun _ => ⟨rfl, rfl⟩⟩
  · intro eN eC eD eT eH eR h
    obtain ⟨h1, h2, h3, h4, h5, h6⟩ := h
    have ec : sm_ec (sm_st G (j + 1) s) = sm_ec G := by
      funext f
      unfold sm_ec
      rw [e 1 (by omega), e 2 (by omega)]
      by_cases q : f = j + 1
      · rw [q, if_neg k10, if_neg k10]
      · rw [sm_st_n q]
    unfold sm_X
    rw [e 0 (by omega), e 3 (by omega), e 6 (by omega), e 7 (by omega), e 8 (by omega), ec]
    exact ⟨h1, h2, h3, h4, h5, h6⟩
end
end
section
def sm_nd (kn : Nat → Nat) (xno nK nA nB nL nR : Nat → Int32) (i : Nat) : Prop :=
  nK i = nI (kn i) ∧ 1 ≤ kn i ∧ kn i ≤ 18 ∧ xno (5 * i) = nK i ∧ xno (5 * i + 1) = nA i ∧ xno (5 * i + 2) = nB i ∧ xno (5 * i + 3) = nL i ∧ xno (5 * i + 4) = nR i ∧
  (4 ≤ kn i → kn i ≤ 6 → ∃ a, a ≤ 16 ∧ nA i = nI a) ∧ (kn i = 11 ∨ kn i = 15 ∨ kn i = 16 → ∃ a, a ≤ 7 ∧ nA i = nI a) ∧ (kn i = 12 → ∃ a, a ≤ 3 ∧ nA i = nI a) ∧
  (13 ≤ kn i → ∃ l, l < i ∧ nL i = nI l) ∧ (17 ≤ kn i → ∃ r, r < i ∧ nR i = nI r)
def sm_cx (n nc : Nat) (kn : Nat → Nat) (xno xrt nK nA nB nL nR : Nat → Int32) : Prop :=
  nc ≤ 32 ∧ n ≤ 16 ∧ (∀ i, i < nc → sm_nd kn xno nK nA nB nL nR i) ∧ (∀ v, v < 4 → xrt v = -1 ∨ ∃ r, r < nc ∧ xrt v = nI r)
def sm_ch (g : Nat → Int32) (m : Nat) : Prop := ∀ i, i < m → ∃ q, q < 65536 ∧ g i = nI q
def sm_vok (xtx xtl : Nat → Int32) : Prop := sm_ch xtx 128 ∧ ∀ v, v < 8 → ∃ l, l ≤ 16 ∧ xtl v = nI l
def sm_lx (post : Int32 → SX → Prop) (m i : Nat) (u : SX) : Prop := match u with
  | (xms, xsl, xdl, xnc, xsd, xn, xlr, xls, xle, xst, xnw, xtc, xtu, xtn, xcu, xtd, xtt, xsr, xno, xsk, xrt, xsj, xtx, xtl, xcr, eN, eC, eD, eT, eH, eR, tE, tN) => wX_searchFrom_30 post m (nI i) xms xsl xdl xnc xsd xn xlr xls xle xst xnw xtc xtu xtn xcu xtd xtt xsr xno xsk xrt xsj xtx xtl xcr eN eC eD eT eH eR tE tN
def sm_ly (post : Int32 → SY → Prop) (m i : Nat) (v : SY) : Prop := match v with
  | (yms, ysl, ydl, ync, ysp, yn, ylr, yls, yle, yfc, yst, ycf, yev, yfr, ydo, nK, nA, nB, nL, nR, ysk, yrt, ysj, ytx, ytl, ycr, fN, fC, fD, fS, fA, fB, fO, fP, fL, fM, tS, tG) => wY_runAt_26 post m (nI i) yms ysl ydl ync ysp yn ylr yls yle yfc yst ycf yev yfr ydo nK nA nB nL nR ysk yrt ysj ytx ytl ycr fN fC fD fS fA fB fO fP fL fM tS tG
/-- how a start ends -/
def sm_end (n nc : Nat) (kn : Nat → Nat) (xst xnw xtc xtu xtn xcu xtd xtt xsr yfc yst ycf yev yfr ydo : Int32) (xtx xtl xcr eN eC eD eT eH eR tE tN fN fC fD fS fA fB fO fP fL fM : Nat → Int32) : Prop :=
  (xsr = 0 ∧ ydo = 2) ∨ (xsr = 2 ∧ ydo = 3) ∨ (xsr = 1 ∧ ydo = 1 ∧ ∃ K G, K ≤ 250 ∧ sm_inv K n G ∧ sm_e2 K G 1 ∧ sm_X K G eN eC eD eT eH eR ∧
    sm_Y K G fN fC fD fS fA fB fO fP fL fM ∧ sm_T G tE tN ∧ sm_N K nc kn G ∧ xcu = nI (G 12 1) ∧ xtc = nI (G 19 1))
def sm_fin (xms xnc xsd xlr xls xle yms ync ysp ylr yls yle : Int32) (lim dl n nc : Nat) (kn : Nat → Nat) (xno xsk xrt xsj nK nA nB nL nR ysk tS tG : Nat → Int32) (P : Nat) (u : SX) (v : SY) : Prop :=
  ∃ (xst xnw xtc xtu xtn xcu xtd xtt xsr yfc yst ycf yev yfr ydo : Int32) (xtx xtl xcr eN eC eD eT eH eR tE tN fN fC fD fS fA fB fO fP fL fM : Nat → Int32), sm_vok xtx xtl ∧ sm_end n nc kn xst xnw xtc xtu xtn xcu xtd xtt xsr yfc yst ycf yev yfr ydo xtx xtl xcr eN eC eD eT eH eR tE tN fN fC fD fS fA fB fO fP fL fM ∧
    (∀ post m i, i + P < 999999 → P + 2 ≤ m → post xsr (xms, nI lim, nI dl, xnc, xsd, nI n, xlr, xls, xle, xst, xnw, xtc, xtu, xtn, xcu, xtd, xtt, xsr, xno, xsk, xrt, xsj, xtx, xtl, xcr, eN, eC, eD, eT, eH, eR, tE, tN) → sm_lx post m i u) ∧
    (∀ post m i, i + P < 4999999 → P + 2 ≤ m → post ydo (yms, nI lim, nI dl, ync, ysp, nI n, ylr, yls, yle, yfc, yst, ycf, yev, yfr, ydo, nK, nA, nB, nL, nR, ysk, xrt, xsj, xtx, xtl, xcr, fN, fC, fD, fS, fA, fB, fO, fP, fL, fM, tS, tG) → sm_ly post m i v)
def sm_r0 (P K : Nat) (G : Nat → Nat → Nat) (xst xnw xtc xtu xtn xcu xtd xtt xsr yfc yst ycf yev yfr ydo : Int32) (xtx xtl xcr eN eC eD eT eH eR tE tN fN fC fD fS fA fB fO fP fL fM : Nat → Int32) : Prop :=
  ∃ k, K = k + 1 ∧ sm_e0 K G ∧ ydo = 0 ∧ ycf = nI k ∧ yev = 0 ∧ sm_X k G eN eC eD eT eH eR ∧ xst = nI k ∧ xtu = 0 ∧ xtn = nI (G 0 K) ∧ xcu = nI (G 2 K) ∧
  xtd = nI (G 3 K) ∧ xtt = sm_p (G 6 K) ∧ xnw = sm_p (G 7 K) ∧ xtc = nI (G 8 K) ∧ (250 - K) * 1300 + 1280 ≤ P
def sm_r1 (P K : Nat) (G : Nat → Nat → Nat) (xst xnw xtc xtu xtn xcu xtd xtt xsr yfc yst ycf yev yfr ydo : Int32) (xtx xtl xcr eN eC eD eT eH eR tE tN fN fC fD fS fA fB fO fP fL fM : Nat → Int32) : Prop :=
  ∃ x, sm_e1 G (x + 1) ∧ ydo = 0 ∧ ycf = nI x ∧ yev = 1 ∧ sm_X K G eN eC eD eT eH eR ∧ xst = nI K ∧ xtu = 2 ∧ xnw = sm_p (G 18 (x + 1)) ∧
    (250 - K) * 1300 + 260 + 3 * G 17 (x + 1) ≤ P + G 20 (x + 1)
def sm_r2 (P K : Nat) (G : Nat → Nat → Nat) (xst xnw xtc xtu xtn xcu xtd xtt xsr yfc yst ycf yev yfr ydo : Int32) (xtx xtl xcr eN eC eD eT eH eR tE tN fN fC fD fS fA fB fO fP fL fM : Nat → Int32) : Prop :=
  ∃ f, sm_e2 K G (f + 1) ∧ sm_X K G eN eC eD eT eH eR ∧ xst = nI K ∧ xtu = 1 ∧ xcu = nI (G 12 (f + 1)) ∧ xtt = sm_p (G 6 (f + 1)) ∧ xnw = sm_p (G 18 (f + 1)) ∧ xtc = nI (G 19 (f + 1)) ∧
    ((G 2 (G 4 (f + 1)) < G 12 (f + 1) ∧ (250 - K) * 1300 + G 20 (G 4 (f + 1)) + 1 ≤ P) ∨ (250 - K) * 1300 + G 20 (G 4 (f + 1)) + 1021 ≤ P) ∧
    ((G 4 (f + 1) = 0 ∧ ydo = 1) ∨ (∃ q, G 4 (f + 1) = q + 1 ∧ ydo = 0 ∧ ycf = nI q ∧ yev = 2 ∧ yfr = nI f))
def sm_r3 (P K : Nat) (G : Nat → Nat → Nat) (xst xnw xtc xtu xtn xcu xtd xtt xsr yfc yst ycf yev yfr ydo : Int32) (xtx xtl xcr eN eC eD eT eH eR tE tN fN fC fD fS fA fB fO fP fL fM : Nat → Int32) : Prop :=
  ∃ f, sm_e3 K G (f + 1) ∧ sm_X K G eN eC eD eT eH eR ∧ xst = nI K ∧ xtu = 2 ∧ xnw = sm_p (G 7 (f + 1)) ∧
    (250 - K) * 1300 + 260 + 3 * (f + 1) ≤ P + G 20 (G 4 (f + 1)) ∧
    ((G 4 (f + 1) = 0 ∧ ydo = 2) ∨ (∃ q, G 4 (f + 1) = q + 1 ∧ ydo = 0 ∧ ycf = nI q ∧ yev = 3 ∧ yfr = nI f))
def sm_rel (lim n nc : Nat) (kn : Nat → Nat) (P K : Nat) (G : Nat → Nat → Nat) (xst xnw xtc xtu xtn xcu xtd xtt xsr yfc yst ycf yev yfr ydo : Int32) (xtx xtl xcr eN eC eD eT eH eR tE tN fN fC fD fS fA fB fO fP fL fM : Nat → Int32) : Prop :=
  xsr = 3 ∧ K ≤ lim ∧ ((K = lim ∧ ydo = 3 ∧ xtu = 0 ∧ xst = nI lim) ∨
    (yfc = nI K ∧ yst = nI K ∧ sm_inv K n G ∧ sm_Y K G fN fC fD fS fA fB fO fP fL fM ∧ sm_T G tE tN ∧ sm_N K nc kn G ∧
      (sm_r0 P K G xst xnw xtc xtu xtn xcu xtd xtt xsr yfc yst ycf yev yfr ydo xtx xtl xcr eN eC eD eT eH eR tE tN fN fC fD fS fA fB fO fP fL fM ∨ sm_r1 P K G xst xnw xtc xtu xtn xcu xtd xtt xsr yfc yst ycf yev yfr ydo xtx xtl xcr eN eC eD eT eH eR tE tN fN fC fD fS fA fB fO fP fL fM ∨ sm_r2 P K G xst xnw xtc xtu xtn xcu xtd xtt xsr yfc yst ycf yev yfr ydo xtx xtl xcr eN eC eD eT eH eR tE tN fN fC fD fS fA fB fO fP fL fM ∨ sm_r3 P K G xst xnw xtc xtu xtn xcu xtd xtt xsr yfc yst ycf yev yfr ydo xtx xtl xcr eN eC eD eT eH eR tE tN fN fC fD fS fA fB fO fP fL fM)))
def sm_IH (xms xnc xsd xlr xls xle yms ync ysp ylr yls yle : Int32) (lim dl n nc : Nat) (kn : Nat → Nat) (xno xsk xrt xsj nK nA nB nL nR ysk tS tG : Nat → Int32) (P : Nat) : Prop :=
  ∀ (P' K : Nat) (G : Nat → Nat → Nat) {xst xnw xtc xtu xtn xcu xtd xtt xsr yfc yst ycf yev yfr ydo : Int32} {xtx xtl xcr eN eC eD eT eH eR tE tN fN fC fD fS fA fB fO fP fL fM : Nat → Int32}, P' < P → sm_vok xtx xtl → sm_rel lim n nc kn P' K G xst xnw xtc xtu xtn xcu xtd xtt xsr yfc yst ycf yev yfr ydo xtx xtl xcr eN eC eD eT eH eR tE tN fN fC fD fS fA fB fO fP fL fM → sm_fin xms xnc xsd xlr xls xle yms ync ysp ylr yls yle lim dl n nc kn xno xsk xrt xsj nK nA nB nL nR ysk tS tG P' (xms, nI lim, nI dl, xnc, xsd, nI n, xlr, xls, xle, xst, xnw, xtc, xtu, xtn, xcu, xtd, xtt, xsr, xno, xsk, xrt, xsj, xtx, xtl, xcr, eN, eC, eD, eT, eH, eR, tE, tN) (yms, nI lim, nI dl, ync, ysp, nI n, ylr, yls, yle, yfc, yst, ycf, yev, yfr, ydo, nK, nA, nB, nL, nR, ysk, xrt, xsj, xtx, xtl, xcr, fN, fC, fD, fS, fA, fB, fO, fP, fL, fM, tS, tG)

section
variable {xms xsl xdl xnc xsd xn xlr xls xle xst xnw xtc xtu xtn xcu xtd xtt xsr : Int32} {xno xsk xrt xsj xtx xtl xcr eN eC eD eT eH eR tE tN : Nat → Int32}
variable {yms ysl ydl ync ysp yn ylr yls yle yfc yst ycf yev yfr ydo : Int32} {nK nA nB nL nR ysk yrt ysj ytx ytl ycr fN fC fD fS fA fB fO fP fL fM tS tG : Nat → Int32}
theorem sx_go0 {post : Int32 → SX → Prop} {m i : Nat} {u1 : SX} (hi : i < 999999) (h : ∀ Q : SX → Prop, Q u1 → wpX_begin Q (xms, xsl, xdl, xnc, xsd, xn, xlr, xls, xle, xst, xnw, xtc, 0, xtn, xcu, xtd, xtt, 3, xno, xsk, xrt, xsj, xtx, xtl, xcr, eN, eC, eD, eT, eH, eR, tE, tN)) (hl : sm_lx post m (i + 1) u1) :
    sm_lx post (m + 1) i (xms, xsl, xdl, xnc, xsd, xn, xlr, xls, xle, xst, xnw, xtc, 0, xtn, xcu, xtd, xtt, 3, xno, xsk, xrt, xsj, xtx, xtl, xcr, eN, eC, eD, eT, eH, eR, tE, tN) := by
  obtain ⟨xms', xsl', xdl', xnc', xsd', xn', xlr', xls', xle', xst', xnw', xtc', xtu', xtn', xcu', xtd', xtt', xsr', xno', xsk', xrt', xsj', xtx', xtl', xcr', eN', eC', eD', eT', eH', eR', tE', tN'⟩ := u1
  exact br_f (nI_ge (b := 1000000) (by omega) (by omega)) (br_t rfl (br_t rfl (h _ (nm_r (nI_1 i) hl))))
theorem sx_go1 {post : Int32 → SX → Prop} {m i : Nat} {u1 : SX} (hi : i < 999999) (h : ∀ Q : SX → Prop, Q u1 → wpX_produce Q (xms, xsl, xdl, xnc, xsd, xn, xlr, xls, xle, xst, xnw, xtc, 1, xtn, xcu, xtd, xtt, 3, xno, xsk, xrt, xsj, xtx, xtl, xcr, eN, eC, eD, eT, eH, eR, tE, tN)) (hl : sm_lx post m (i + 1) u1) :
    sm_lx post (m + 1) i (xms, xsl, xdl, xnc, xsd, xn, xlr, xls, xle, xst, xnw, xtc, 1, xtn, xcu, xtd, xtt, 3, xno, xsk, xrt, xsj, xtx, xtl, xcr, eN, eC, eD, eT, eH, eR, tE, tN) := by
  obtain ⟨xms', xsl', xdl', xnc', xsd', xn', xlr', xls', xle', xst', xnw', xtc', xtu', xtn', xcu', xtd', xtt', xsr', xno', xsk', xrt', xsj', xtx', xtl', xcr', eN', eC', eD', eT', eH', eR', tE', tN'⟩ := u1
  exact br_f (nI_ge (b := 1000000) (by omega) (by omega)) (br_t rfl (br_f (by decide) (br_t rfl (h _ (nm_r (nI_1 i) hl)))))
theorem sx_go2 {post : Int32 → SX → Prop} {m i : Nat} {u1 : SX} (hi : i < 999999) (h : ∀ Q : SX → Prop, Q u1 → wpX_backtrack Q (xms, xsl, xdl, xnc, xsd, xn, xlr, xls, xle, xst, xnw, xtc, 2, xtn, xcu, xtd, xtt, 3, xno, xsk, xrt, xsj, xtx, xtl, xcr, eN, eC, eD, eT, eH, eR, tE, tN)) (hl : sm_lx post m (i + 1) u1) :
    sm_lx post (m + 1) i (xms, xsl, xdl, xnc, xsd, xn, xlr, xls, xle, xst, xnw, xtc, 2, xtn, xcu, xtd, xtt, 3, xno, xsk, xrt, xsj, xtx, xtl, xcr, eN, eC, eD, eT, eH, eR, tE, tN) := by
  obtain ⟨xms', xsl', xdl', xnc', xsd', xn', xlr', xls', xle', xst', xnw', xtc', xtu', xtn', xcu', xtd', xtt', xsr', xno', xsk', xrt', xsj', xtx', xtl', xcr', eN', eC', eD', eT', eH', eR', tE', tN'⟩ := u1
  exact br_f (nI_ge (b := 1000000) (by omega) (by omega)) (br_t rfl (br_f (by decide) (br_f (by decide) (h _ (nm_r (nI_1 i) hl)))))
theorem sx_stop {post : Int32 → SX → Prop} {m i : Nat} (hi : i < 1000000) (h : ¬ xsr = 3) (hp : post xsr (xms, xsl, xdl, xnc, xsd, xn, xlr, xls, xle, xst, xnw, xtc, xtu, xtn, xcu, xtd, xtt, xsr, xno, xsk, xrt, xsj, xtx, xtl, xcr, eN, eC, eD, eT, eH, eR, tE, tN)) : sm_lx post (m + 1) i (xms, xsl, xdl, xnc, xsd, xn, xlr, xls, xle, xst, xnw, xtc, xtu, xtn, xcu, xtd, xtt, xsr, xno, xsk, xrt, xsj, xtx, xtl, xcr, eN, eC, eD, eT, eH, eR, tE, tN) :=
  br_f (nI_ge (b := 1000000) (by omega) (by omega)) (br_f h hp)
theorem sy_go {post : Int32 → SY → Prop} {m i : Nat} {v1 : SY} (hi : i < 4999999) (h : ∀ Q : SY → Prop, Q v1 → wpY_step Q (yms, ysl, ydl, ync, ysp, yn, ylr, yls, yle, yfc, yst, ycf, yev, yfr, 0, nK, nA, nB, nL, nR, ysk, yrt, ysj, ytx, ytl, ycr, fN, fC, fD, fS, fA, fB, fO, fP, fL, fM, tS, tG)) (hl : sm_ly post m (i + 1) v1) :
    sm_ly post (m + 1) i (yms, ysl, ydl, ync, ysp, yn, ylr, yls, yle, yfc, yst, ycf, yev, yfr, 0, nK, nA, nB, nL, nR, ysk, yrt, ysj, ytx, ytl, ycr, fN, fC, fD, fS, fA, fB, fO, fP, fL, fM, tS, tG) := by
  obtain ⟨yms', ysl', ydl', ync', ysp', yn', ylr', yls', yle', yfc', yst', ycf', yev', yfr', ydo', nK', nA', nB', nL', nR', ysk', yrt', ysj', ytx', ytl', ycr', fN', fC', fD', fS', fA', fB', fO', fP', fL', fM', tS', tG'⟩ := v1
  exact br_f (nI_ge (b := 5000000) (by omega) (by omega)) (br_t rfl (h _ (nm_r (nI_1 i) hl)))
theorem sy_stop {post : Int32 → SY → Prop} {m i : Nat} (hi : i < 5000000) (h : ¬ ydo = 0) (hp : post ydo (yms, ysl, ydl, ync, ysp, yn, ylr, yls, yle, yfc, yst, ycf, yev, yfr, ydo, nK, nA, nB, nL, nR, ysk, yrt, ysj, ytx, ytl, ycr, fN, fC, fD, fS, fA, fB, fO, fP, fL, fM, tS, tG)) : sm_ly post (m + 1) i (yms, ysl, ydl, ync, ysp, yn, ylr, yls, yle, yfc, yst, ycf, yev, yfr, ydo, nK, nA, nB, nL, nR, ysk, yrt, ysj, ytx, ytl, ycr, fN, fC, fD, fS, fA, fB, fO, fP, fL, fM, tS, tG) :=
  br_f (nI_ge (b := 5000000) (by omega) (by omega)) (br_f h (br_f h hp))
end
section
variable {xms xnc xsd xlr xls xle yms ync ysp ylr yls yle : Int32} {lim dl n nc : Nat} {kn : Nat → Nat} {xno xsk xrt xsj nK nA nB nL nR ysk tS tG : Nat → Int32}
theorem sm_fin_xy {P P' : Nat} {u u1 : SX} {v v1 : SY} (hx : ∀ post m i, i < 999999 → sm_lx post m (i + 1) u1 → sm_lx post (m + 1) i u)
    (hy : ∀ post m i, i < 4999999 → sm_ly post m (i + 1) v1 → sm_ly post (m + 1) i v) (h : sm_fin xms xnc xsd xlr xls xle yms ync ysp ylr yls yle lim dl n nc kn xno xsk xrt xsj nK nA nB nL nR ysk tS tG P' u1 v1) (hP : P' < P) : sm_fin xms xnc xsd xlr xls xle yms ync ysp ylr yls yle lim dl n nc kn xno xsk xrt xsj nK nA nB nL nR ysk tS tG P u v := by
  obtain ⟨xst, xnw, xtc, xtu, xtn, xcu, xtd, xtt, xsr, yfc, yst, ycf, yev, yfr, ydo, xtx, xtl, xcr, eN, eC, eD, eT, eH, eR, tE, tN, fN, fC, fD, fS, fA, fB, fO, fP, fL, fM, a, b, c, d⟩ := h
  refine ⟨xst, xnw, xtc, xtu, xtn, xcu, xtd, xtt, xsr, yfc, yst, ycf, yev, yfr, ydo, xtx, xtl, xcr, eN, eC, eD, eT, eH, eR, tE, tN, fN, fC, fD, fS, fA, fB, fO, fP, fL, fM, a, b, ?_, ?_⟩
  · intro post m i h1 h2 hp
    obtain ⟨m, rfl⟩ : ∃ k, m = k + 1 := ⟨m - 1, by omega⟩
    exact hx post m i (by omega) (c post m (i + 1) (by omega) (by omega) hp)
  · intro post m i h1 h2 hp
    obtain ⟨m, rfl⟩ : ∃ k, m = k + 1 := ⟨m - 1, by omega⟩
    exact hy post m i (by omega) (d post m (i + 1) (by omega) (by omega) hp)
theorem sm_fin_y {P P' : Nat} {u : SX} {v v1 : SY}
    (hy : ∀ post m i, i < 4999999 → sm_ly post m (i + 1) v1 → sm_ly post (m + 1) i v) (h : sm_fin xms xnc xsd xlr xls xle yms ync ysp ylr yls yle lim dl n nc kn xno xsk xrt xsj nK nA nB nL nR ysk tS tG P' u v1) (hP : P' < P) : sm_fin xms xnc xsd xlr xls xle yms ync ysp ylr yls yle lim dl n nc kn xno xsk xrt xsj nK nA nB nL nR ysk tS tG P u v := by
  obtain ⟨xst, xnw, xtc, xtu, xtn, xcu, xtd, xtt, xsr, yfc, yst, ycf, yev, yfr, ydo, xtx, xtl, xcr, eN, eC, eD, eT, eH, eR, tE, tN, fN, fC, fD, fS, fA, fB, fO, fP, fL, fM, a, b, c, d⟩ := h
  refine ⟨xst, xnw, xtc, xtu, xtn, xcu, xtd, xtt, xsr, yfc, yst, ycf, yev, yfr, ydo, xtx, xtl, xcr, eN, eC, eD, eT, eH, eR, tE, tN, fN, fC, fD, fS, fA, fB, fO, fP, fL, fM, a, b, ?_, ?_⟩
  · intro post m i h1 h2 hp
    exact c post m i (by omega) (by omega) hp
  · intro post m i h1 h2 hp
    obtain ⟨m, rfl⟩ : ∃ k, m = k + 1 := ⟨m - 1, by omega⟩
    exact hy post m i (by omega) (d post m (i + 1) (by omega) (by omega) hp)
end
end
section
section
variable {xms xsl xdl xnc xsd xn xlr xls xle xst xnw xtc xtu xtn xcu xtd xtt xsr : Int32} {xno xsk xrt xsj xtx xtl xcr eN eC eD eT eH eR tE tN : Nat → Int32}
theorem sm_leafX11 {n c : Nat} {xa xb : Int32} (post : Int32 → Prop) (hp : post (nI c)) : wpX_leafEnd post (xms, xsl, xdl, xnc, xsd, nI n, xlr, xls, xle, xst, xnw, xtc, xtu, xtn, xcu, xtd, xtt, xsr, xno, xsk, xrt, xsj, xtx, xtl, xcr, eN, eC, eD, eT, eH, eR, tE, tN) 11 xa xb (nI c) :=
  br_f (by decide) (br_f (by decide) (br_f (by decide) (br_f (by decide) (br_f (by decide) (br_f (by decide) (br_f (by decide) (br_f (by decide) (br_f (by decide) (br_f (by decide) (br_f (by decide) (br_f (by decide) (br_t rfl hp))))))))))))
end
section
variable {yms ysl ydl ync ysp yn ylr yls yle yfc yst ycf yev yfr ydo : Int32} {nK nA nB nL nR ysk yrt ysj ytx ytl ycr fN fC fD fS fA fB fO fP fL fM tS tG : Nat → Int32}
theorem sm_leafY11 {i n c : Nat} (hi : i < 32) (hk : nK i = 11) (post : Int32 → Prop) (hp : post (nI c)) : wpY_leafValue post (yms, ysl, ydl, ync, ysp, nI n, ylr, yls, yle, yfc, yst, ycf, yev, yfr, ydo, nK, nA, nB, nL, nR, ysk, yrt, ysj, ytx, ytl, ycr, fN, fC, fD, fS, fA, fB, fO, fP, fL, fM, tS, tG) (nI i) (nI c) :=
  ⟨vp_in_nI hi (by omega), nm_r (sm_cg (by omega) hk) ⟨vp_in_nI hi (by omega), nm_r rfl ⟨vp_in_nI hi (by omega), nm_r rfl (br_f (by decide) (br_t rfl hp))⟩⟩⟩
end
theorem sm_nd9 {kn : Nat → Nat} {xno nK nA nB nL nR : Nat → Int32} {i : Nat} (D : sm_nd kn xno nK nA nB nL nR i) : 4 ≤ kn i → kn i ≤ 6 → ∃ a, a ≤ 16 ∧ nA i = nI a := D.2.2.2.2.2.2.2.2.1
theorem sm_nd10 {kn : Nat → Nat} {xno nK nA nB nL nR : Nat → Int32} {i : Nat} (D : sm_nd kn xno nK nA nB nL nR i) : kn i = 11 ∨ kn i = 15 ∨ kn i = 16 → ∃ a, a ≤ 7 ∧ nA i = nI a := D.2.2.2.2.2.2.2.2.2.1
theorem sm_nd11 {kn : Nat → Nat} {xno nK nA nB nL nR : Nat → Int32} {i : Nat} (D : sm_nd kn xno nK nA nB nL nR i) : kn i = 12 → ∃ a, a ≤ 3 ∧ nA i = nI a := D.2.2.2.2.2.2.2.2.2.2.1
theorem sm_nd12 {kn : Nat → Nat} {xno nK nA nB nL nR : Nat → Int32} {i : Nat} (D : sm_nd kn xno nK nA nB nL nR i) : 13 ≤ kn i → ∃ l, l < i ∧ nL i = nI l := D.2.2.2.2.2.2.2.2.2.2.2.1
theorem sm_nd13 {kn : Nat → Nat} {xno nK nA nB nL nR : Nat → Int32} {i : Nat} (D : sm_nd kn xno nK nA nB nL nR i) : 17 ≤ kn i → ∃ r, r < i ∧ nR i = nI r := D.2.2.2.2.2.2.2.2.2.2.2.2
theorem sm_n1 {k lim : Nat} (h : k + 1 ≤ lim) (h2 : lim ≤ 250) : k < 256 := by omega
theorem sm_n2 {P a : Nat} (h : a + 1280 ≤ P) : P - 1 < P := by omega
theorem sm_n3 {k lim p q : Nat} (h : k + 1 ≤ lim) (h2 : lim ≤ 250) (hp : p < k + 1) (hq : p = q + 1) : q < 1000 := by omega
theorem sm_n4 {k lim P d p : Nat} (h : k + 1 ≤ lim) (h2 : lim ≤ 250) (hP : (250 - (k + 1)) * 1300 + 1280 ≤ P) (hp : p < k + 1) (hd : d ≤ p) : (250 - (k + 1)) * 1300 + d + 1021 ≤ P - 1 := by omega
theorem sm_n5 {k lim P d : Nat} (h : k + 1 ≤ lim) (h2 : lim ≤ 250) (hP : (250 - (k + 1)) * 1300 + 1280 ≤ P) : (250 - (k + 1)) * 1300 + 260 + 3 * (k + 1) ≤ P - 1 + d := by omega
theorem sm_n6 {k lim P : Nat} (h : k + 1 ≤ lim) (hn : ¬ k + 1 = lim) (h2 : lim ≤ 250) (hP : (250 - (k + 1)) * 1300 + 1280 ≤ P) : k + 1 + 1 ≤ lim ∧ (250 - (k + 1 + 1)) * 1300 + 1280 ≤ P - 1 := by omega
theorem sm_n7 {e : Nat} {n : Nat} (h : e ≤ n) (hn : n ≤ 16) : e < 2 ^ 31 := by omega
theorem sm_ka {a : Nat} (h : a ≤ 11 ∧ a ≠ 10 ∧ a ≠ 11) : a ≤ 11 ∧ a ≠ 10 ∧ a ≠ 13 := by omega
theorem sm_kb {a : Nat} (h : a = 14 ∨ a = 15 ∨ a = 16 ∨ a = 17) : 12 ≤ a ∧ a ≠ 13 ∧ a ≠ 12 ∧ a ≠ 18 ∧ a ≠ 10 ∧ 14 ≤ a ∧ a ≤ 18 := by omega
theorem sm_kc {a b : Nat} (h : a = b) (hb : b ≠ 10) : a ≠ 10 := by omega

section
variable {xms xnc xsd xlr xls xle yms ync ysp ylr yls yle : Int32} {lim dl n nc : Nat} {kn : Nat → Nat} {xno xsk xrt xsj nK nA nB nL nR ysk tS tG : Nat → Int32}
variable {xst xnw xtc xtu xtn xcu xtd xtt xsr yfc yst ycf yev yfr ydo : Int32} {xtx xtl xcr eN eC eD eT eH eR tE tN fN fC fD fS fA fB fO fP fL fM : Nat → Int32}
variable {P : Nat} {G : Nat → Nat → Nat}

-- K_ARB
theorem sm_0arb (cx : sm_cx n nc kn xno xrt nK nA nB nL nR) (hlim : lim ≤ 250) (ih : sm_IH xms xnc xsd xlr xls xle yms ync ysp ylr yls yle lim dl n nc kn xno xsk xrt xsj nK nA nB nL nR ysk tS tG P) (vk : sm_vok xtx xtl)
    {k : Nat} (hK : k + 1 ≤ lim) (I : sm_inv (k + 1) n G) (Y : sm_Y (k + 1) G fN fC fD fS fA fB fO fP fL fM) (T : sm_T G tE tN) (N : sm_N (k + 1) nc kn G) (E : sm_e0 (k + 1) G)
    (X : sm_X k G eN eC eD eT eH eR) (hP : (250 - (k + 1)) * 1300 + 1280 ≤ P) (k0 : G 1 (k + 1) = 10) :
    sm_fin xms xnc xsd xlr xls xle yms ync ysp ylr yls yle lim dl n nc kn xno xsk xrt xsj nK nA nB nL nR ysk tS tG P (xms, nI lim, nI dl, xnc, xsd, nI n, xlr, xls, xle, nI k, sm_p (G 7 (k + 1)), nI (G 8 (k + 1)), 0, nI (G 0 (k + 1)), nI (G 2 (k + 1)), nI (G 3 (k + 1)), sm_p (G 6 (k + 1)), 3, xno, xsk, xrt, xsj, xtx, xtl, xcr, eN, eC, eD, eT, eH, eR, tE, tN) (yms, nI lim, nI dl, ync, ysp, nI n, ylr, yls, yle, nI (k + 1), nI (k + 1), nI k, 0, yfr, 0, nK, nA, nB, nL, nR, ysk, xrt, xsj, xtx, xtl, xcr, fN, fC, fD, fS, fA, fB, fO, fP, fL, fM, tS, tG) := by
  have k256 : k < 256 := sm_n1 hK hlim
  have kl : k < lim := hK
  have P1 : P - 1 < P := sm_n2 hP
  have lK := E.2.1
  have oK := E.2.2.1
  have laK := E.2.2.2.1
  have lbK := E.2.2.2.2.1
  have hnd := (N.2 (k + 1) (Nat.succ_pos k) (Nat.le_refl _)).1
  have hkd := (N.2 (k + 1) (Nat.succ_pos k) (Nat.le_refl _)).2.1
  have hd8 := (N.2 (k + 1) (Nat.succ_pos k) (Nat.le_refl _)).2.2
  have D := cx.2.2.1 _ hnd
  have i32 : G 0 (k + 1) < 32 := Nat.lt_of_lt_of_le hnd cx.1
  have y1 : fN k = nI (G 0 (k + 1)) := Y.1 k (Nat.lt_succ_self k)
  have y2 : fC k = nI (G 2 (k + 1)) := Y.2.1 k (Nat.lt_succ_self k)
  have y3 : fD k = nI (G 3 (k + 1)) := Y.2.2.1 k (Nat.lt_succ_self k)
  have y8 : fP k = sm_p (G 4 (k + 1)) := Y.2.2.2.2.2.2.2.1 k (Nat.lt_succ_self k)
  have hkk : nK (G 0 (k + 1)) = nI (G 1 (k + 1)) := by rw [hkd]; exact D.1
  have hx0 : xno (5 * G 0 (k + 1)) = nI (G 1 (k + 1)) := D.2.2.2.1.trans hkk
  have b3 := (I.2.1 _ lK).2.2.1
  have c16 := cx.2.1
  have c32 := cx.1
  have kd0 := D.2.1
  have kd1 := D.2.2.1
  have d5 := D.2.2.2.2.1
  have d6 := D.2.2.2.2.2.1
  have d7 := D.2.2.2.2.2.2.1
  have d8 := D.2.2.2.2.2.2.2.1
  have top : ∀ h, G 15 h = 1 → h ≤ k + 1 := fun h lh => (I.2.1 h lh).1
  have L := I.2.2.1 (k + 1) (Nat.succ_pos k) lK
  have op : G 16 (G 4 (k + 1)) ≠ 1 := fun z => oK (L.2.2.2.2.1 z)
  have pq : ∀ q, G 4 (k + 1) = q + 1 → q < 1000 := fun q hq => sm_n3 hK hlim L.1 hq
  have dq := (I.2.1 _ L.2.1).2.2.2.1
  obtain ⟨H, I1, E1, Y1, T1, N1, g8, g9, gs, go, ga, gt, gd⟩ := sm_T2 (v := (G 2 (k + 1))) (s := (G 2 (k + 1))) (a := (k + 1)) (fS' := upd fS k (nI (G 2 (k + 1)))) I Y T N lK oK top (Nat.le_refl _) b3 laK lbK (Or.inr rfl) (Or.inr (Or.inl ⟨k0, rfl, rfl⟩))
  have X1 := sm_X_push X g8 g9 (fun _ => gs)
  have bd : (250 - (k + 1)) * 1300 + H 20 (H 4 (k + 1)) + 1021 ≤ P - 1 := by rw [g8 4 _ (by decide), gd]; exact sm_n4 hK hlim hP L.1 dq
  by_cases q : G 4 (k + 1) = 0
  · rw [q, sm_p0] at y8
    refine sm_fin_xy (P' := P - 1) (u1 := (xms, nI lim, nI dl, xnc, xsd, nI n, xlr, xls, xle, nI (k + 1), nI k, nI (G 8 (k + 1)), 1, nI (G 0 (k + 1)), nI (G 2 (k + 1)), nI (G 3 (k + 1)), sm_p (G 6 (k + 1)), 3, xno, xsk, xrt, xsj, xtx, xtl, xcr, upd eN k (nI (G 0 (k + 1))), upd eC k (nI (G 2 (k + 1))), upd eD k (nI (G 3 (k + 1))), upd eT k (sm_p (G 6 (k + 1))), upd eH k (sm_p (G 7 (k + 1))), upd eR k (nI (G 8 (k + 1))), tE, tN)) (v1 := (yms, nI lim, nI dl, ync, ysp, nI n, ylr, yls, yle, nI (k + 1), nI (k + 1), nI k, 0, yfr, 1, nK, nA, nB, nL, nR, ysk, xrt, xsj, xtx, xtl, xcr, fN, fC, fD, upd fS k (nI (G 2 (k + 1))), fA, fB, upd fO k (nI (G 2 (k + 1))), fP, fL, fM, tS, tG)) (fun post m i hi hl => sx_go0 hi (fun Q hq => sx_0arb kl hlim i32 hx0 k0 hq) hl) (fun post m i hi hl => sy_go hi (fun Q hq => sy_0arb k256 y1 i32 hkk y2 y3 k0 (Or.inl ⟨y8, hq⟩)) hl) (ih (P - 1) (k + 1) H P1 vk ⟨rfl, hK, Or.inr ⟨rfl, rfl, I1, Y1, T1, N1, Or.inr (Or.inr (Or.inl ⟨k, E1, X1, rfl, rfl, by rw [go], by rw [g8 6 _ (by decide)], by rw [ga, sm_ps], by rw [gt], Or.inr bd, Or.inl ⟨by rw [g8 4 _ (by decide)]; exact q, rfl⟩⟩))⟩⟩) P1
  · obtain ⟨q', hq'⟩ : ∃ q', G 4 (k + 1) = q' + 1 := ⟨G 4 (k + 1) - 1, (Nat.succ_pred_eq_of_ne_zero q).symm⟩
    have q9 := pq q' hq'
    rw [hq', sm_ps] at y8
    refine sm_fin_xy (P' := P - 1) (u1 := (xms, nI lim, nI dl, xnc, xsd, nI n, xlr, xls, xle, nI (k + 1), nI k, nI (G 8 (k + 1)), 1, nI (G 0 (k + 1)), nI (G 2 (k + 1)), nI (G 3 (k + 1)), sm_p (G 6 (k + 1)), 3, xno, xsk, xrt, xsj, xtx, xtl, xcr, upd eN k (nI (G 0 (k + 1))), upd eC k (nI (G 2 (k + 1))), upd eD k (nI (G 3 (k + 1))), upd eT k (sm_p (G 6 (k + 1))), upd eH k (sm_p (G 7 (k + 1))), upd eR k (nI (G 8 (k + 1))), tE, tN)) (v1 := (yms, nI lim, nI dl, ync, ysp, nI n, ylr, yls, yle, nI (k + 1), nI (k + 1), nI q', 2, nI k, 0, nK, nA, nB, nL, nR, ysk, xrt, xsj, xtx, xtl, xcr, fN, fC, fD, upd fS k (nI (G 2 (k + 1))), fA, fB, upd fO k (nI (G 2 (k + 1))), fP, fL, fM, tS, tG)) (fun post m i hi hl => sx_go0 hi (fun Q hq => sx_0arb kl hlim i32 hx0 k0 hq) hl) (fun post m i hi hl => sy_go hi (fun Q hq => sy_0arb k256 y1 i32 hkk y2 y3 k0 (Or.inr ⟨q', q9, y8, hq⟩)) hl) (ih (P - 1) (k + 1) H P1 vk ⟨rfl, hK, Or.inr ⟨rfl, rfl, I1, Y1, T1, N1, Or.inr (Or.inr (Or.inl ⟨k, E1, X1, rfl, rfl, by rw [go], by rw [g8 6 _ (by decide)], by rw [ga, sm_ps], by rw [gt], Or.inr bd, Or.inr ⟨q', by rw [g8 4 _ (by decide)]; exact hq', rfl, rfl, rfl, rfl⟩⟩))⟩⟩) P1
theorem sm_0arbno (cx : sm_cx n nc kn xno xrt nK nA nB nL nR) (hlim : lim ≤ 250) (ih : sm_IH xms xnc xsd xlr xls xle yms ync ysp ylr yls yle lim dl n nc kn xno xsk xrt xsj nK nA nB nL nR ysk tS tG P) (vk : sm_vok xtx xtl)
    {k : Nat} (hK : k + 1 ≤ lim) (I : sm_inv (k + 1) n G) (Y : sm_Y (k + 1) G fN fC fD fS fA fB fO fP fL fM) (T : sm_T G tE tN) (N : sm_N (k + 1) nc kn G) (E : sm_e0 (k + 1) G)
    (X : sm_X k G eN eC eD eT eH eR) (hP : (250 - (k + 1)) * 1300 + 1280 ≤ P) (k0 : G 1 (k + 1) = 13) :
    sm_fin xms xnc xsd xlr xls xle yms ync ysp ylr yls yle lim dl n nc kn xno xsk xrt xsj nK nA nB nL nR ysk tS tG P (xms, nI lim, nI dl, xnc, xsd, nI n, xlr, xls, xle, nI k, sm_p (G 7 (k + 1)), nI (G 8 (k + 1)), 0, nI (G 0 (k + 1)), nI (G 2 (k + 1)), nI (G 3 (k + 1)), sm_p (G 6 (k + 1)), 3, xno, xsk, xrt, xsj, xtx, xtl, xcr, eN, eC, eD, eT, eH, eR, tE, tN) (yms, nI lim, nI dl, ync, ysp, nI n, ylr, yls, yle, nI (k + 1), nI (k + 1), nI k, 0, yfr, 0, nK, nA, nB, nL, nR, ysk, xrt, xsj, xtx, xtl, xcr, fN, fC, fD, fS, fA, fB, fO, fP, fL, fM, tS, tG) := by
  have k256 : k < 256 := sm_n1 hK hlim
  have kl : k < lim := hK
  have P1 : P - 1 < P := sm_n2 hP
  have lK := E.2.1
  have oK := E.2.2.1
  have laK := E.2.2.2.1
  have lbK := E.2.2.2.2.1
  have hnd := (N.2 (k + 1) (Nat.succ_pos k) (Nat.le_refl _)).1
  have hkd := (N.2 (k + 1) (Nat.succ_pos k) (Nat.le_refl _)).2.1
  have hd8 := (N.2 (k + 1) (Nat.succ_pos k) (Nat.le_refl _)).2.2
  have D := cx.2.2.1 _ hnd
  have i32 : G 0 (k + 1) < 32 := Nat.lt_of_lt_of_le hnd cx.1
  have y1 : fN k = nI (G 0 (k + 1)) := Y.1 k (Nat.lt_succ_self k)
  have y2 : fC k = nI (G 2 (k + 1)) := Y.2.1 k (Nat.lt_succ_self k)
  have y3 : fD k = nI (G 3 (k + 1)) := Y.2.2.1 k (Nat.lt_succ_self k)
  have y8 : fP k = sm_p (G 4 (k + 1)) := Y.2.2.2.2.2.2.2.1 k (Nat.lt_succ_self k)
  have hkk : nK (G 0 (k + 1)) = nI (G 1 (k + 1)) := by rw [hkd]; exact D.1
  have hx0 : xno (5 * G 0 (k + 1)) = nI (G 1 (k + 1)) := D.2.2.2.1.trans hkk
  have b3 := (I.2.1 _ lK).2.2.1
  have c16 := cx.2.1
  have c32 := cx.1
  have kd0 := D.2.1
  have kd1 := D.2.2.1
  have d5 := D.2.2.2.2.1
  have d6 := D.2.2.2.2.2.1
  have d7 := D.2.2.2.2.2.2.1
  have d8 := D.2.2.2.2.2.2.2.1
  have top : ∀ h, G 15 h = 1 → h ≤ k + 1 := fun h lh => (I.2.1 h lh).1
  have L := I.2.2.1 (k + 1) (Nat.succ_pos k) lK
  have op : G 16 (G 4 (k + 1)) ≠ 1 := fun z => oK (L.2.2.2.2.1 z)
  have pq : ∀ q, G 4 (k + 1) = q + 1 → q < 1000 := fun q hq => sm_n3 hK hlim L.1 hq
  have dq := (I.2.1 _ L.2.1).2.2.2.1
  obtain ⟨H, I1, E1, Y1, T1, N1, g8, g9, gs, go, ga, gt, gd⟩ := sm_T2 (v := (G 2 (k + 1))) (s := 1) (a := (k + 1)) (fS' := upd fS k 1) I Y T N lK oK top (Nat.le_refl _) b3 laK lbK (Or.inr rfl) (Or.inr (Or.inr ⟨k0, rfl, rfl⟩))
  have X1 := sm_X_push X g8 g9 (fun z => absurd z (by rw [k0]; decide))
  have bd : (250 - (k + 1)) * 1300 + H 20 (H 4 (k + 1)) + 1021 ≤ P - 1 := by rw [g8 4 _ (by decide), gd]; exact sm_n4 hK hlim hP L.1 dq
  by_cases q : G 4 (k + 1) = 0
  · rw [q, sm_p0] at y8
    refine sm_fin_xy (P' := P - 1) (u1 := (xms, nI lim, nI dl, xnc, xsd, nI n, xlr, xls, xle, nI (k + 1), nI k, nI (G 8 (k + 1)), 1, nI (G 0 (k + 1)), nI (G 2 (k + 1)), nI (G 3 (k + 1)), sm_p (G 6 (k + 1)), 3, xno, xsk, xrt, xsj, xtx, xtl, xcr, upd eN k (nI (G 0 (k + 1))), upd eC k (nI (G 2 (k + 1))), upd eD k (nI (G 3 (k + 1))), upd eT k (sm_p (G 6 (k + 1))), upd eH k (sm_p (G 7 (k + 1))), upd eR k (nI (G 8 (k + 1))), tE, tN)) (v1 := (yms, nI lim, nI dl, ync, ysp, nI n, ylr, yls, yle, nI (k + 1), nI (k + 1), nI k, 0, yfr, 1, nK, nA, nB, nL, nR, ysk, xrt, xsj, xtx, xtl, xcr, fN, fC, fD, upd fS k 1, fA, fB, upd fO k (nI (G 2 (k + 1))), fP, fL, fM, tS, tG)) (fun post m i hi hl => sx_go0 hi (fun Q hq => sx_0arbno kl hlim i32 hx0 k0 hq) hl) (fun post m i hi hl => sy_go hi (fun Q hq => sy_0arbno k256 y1 i32 hkk y2 y3 k0 (Or.inl ⟨y8, hq⟩)) hl) (ih (P - 1) (k + 1) H P1 vk ⟨rfl, hK, Or.inr ⟨rfl, rfl, I1, Y1, T1, N1, Or.inr (Or.inr (Or.inl ⟨k, E1, X1, rfl, rfl, by rw [go], by rw [g8 6 _ (by decide)], by rw [ga, sm_ps], by rw [gt], Or.inr bd, Or.inl ⟨by rw [g8 4 _ (by decide)]; exact q, rfl⟩⟩))⟩⟩) P1
  · obtain ⟨q', hq'⟩ : ∃ q', G 4 (k + 1) = q' + 1 := ⟨G 4 (k + 1) - 1, (Nat.succ_pred_eq_of_ne_zero q).symm⟩
    have q9 := pq q' hq'
    rw [hq', sm_ps] at y8
    refine sm_fin_xy (P' := P - 1) (u1 := (xms, nI lim, nI dl, xnc, xsd, nI n, xlr, xls, xle, nI (k + 1), nI k, nI (G 8 (k + 1)), 1, nI (G 0 (k + 1)), nI (G 2 (k + 1)), nI (G 3 (k + 1)), sm_p (G 6 (k + 1)), 3, xno, xsk, xrt, xsj, xtx, xtl, xcr, upd eN k (nI (G 0 (k + 1))), upd eC k (nI (G 2 (k + 1))), upd eD k (nI (G 3 (k + 1))), upd eT k (sm_p (G 6 (k + 1))), upd eH k (sm_p (G 7 (k + 1))), upd eR k (nI (G 8 (k + 1))), tE, tN)) (v1 := (yms, nI lim, nI dl, ync, ysp, nI n, ylr, yls, yle, nI (k + 1), nI (k + 1), nI q', 2, nI k, 0, nK, nA, nB, nL, nR, ysk, xrt, xsj, xtx, xtl, xcr, fN, fC, fD, upd fS k 1, fA, fB, upd fO k (nI (G 2 (k + 1))), fP, fL, fM, tS, tG)) (fun post m i hi hl => sx_go0 hi (fun Q hq => sx_0arbno kl hlim i32 hx0 k0 hq) hl) (fun post m i hi hl => sy_go hi (fun Q hq => sy_0arbno k256 y1 i32 hkk y2 y3 k0 (Or.inr ⟨q', q9, y8, hq⟩)) hl) (ih (P - 1) (k + 1) H P1 vk ⟨rfl, hK, Or.inr ⟨rfl, rfl, I1, Y1, T1, N1, Or.inr (Or.inr (Or.inl ⟨k, E1, X1, rfl, rfl, by rw [go], by rw [g8 6 _ (by decide)], by rw [ga, sm_ps], by rw [gt], Or.inr bd, Or.inr ⟨q', by rw [g8 4 _ (by decide)]; exact hq', rfl, rfl, rfl, rfl⟩⟩))⟩⟩) P1
theorem sm_0leaf (cx : sm_cx n nc kn xno xrt nK nA nB nL nR) (hlim : lim ≤ 250) (ih : sm_IH xms xnc xsd xlr xls xle yms ync ysp ylr yls yle lim dl n nc kn xno xsk xrt xsj nK nA nB nL nR ysk tS tG P) (vk : sm_vok xtx xtl)
    {k : Nat} (hK : k + 1 ≤ lim) (I : sm_inv (k + 1) n G) (Y : sm_Y (k + 1) G fN fC fD fS fA fB fO fP fL fM) (T : sm_T G tE tN) (N : sm_N (k + 1) nc kn G) (E : sm_e0 (k + 1) G)
    (X : sm_X k G eN eC eD eT eH eR) (hP : (250 - (k + 1)) * 1300 + 1280 ≤ P) (k0 : G 1 (k + 1) ≤ 11 ∧ G 1 (k + 1) ≠ 10 ∧ G 1 (k + 1) ≠ 11) :
    sm_fin xms xnc xsd xlr xls xle yms ync ysp ylr yls yle lim dl n nc kn xno xsk xrt xsj nK nA nB nL nR ysk tS tG P (xms, nI lim, nI dl, xnc, xsd, nI n, xlr, xls, xle, nI k, sm_p (G 7 (k + 1)), nI (G 8 (k + 1)), 0, nI (G 0 (k + 1)), nI (G 2 (k + 1)), nI (G 3 (k + 1)), sm_p (G 6 (k + 1)), 3, xno, xsk, xrt, xsj, xtx, xtl, xcr, eN, eC, eD, eT, eH, eR, tE, tN) (yms, nI lim, nI dl, ync, ysp, nI n, ylr, yls, yle, nI (k + 1), nI (k + 1), nI k, 0, yfr, 0, nK, nA, nB, nL, nR, ysk, xrt, xsj, xtx, xtl, xcr, fN, fC, fD, fS, fA, fB, fO, fP, fL, fM, tS, tG) := by
  have k256 : k < 256 := sm_n1 hK hlim
  have kl : k < lim := hK
  have P1 : P - 1 < P := sm_n2 hP
  have lK := E.2.1
  have oK := E.2.2.1
  have laK := E.2.2.2.1
  have lbK := E.2.2.2.2.1
  have hnd := (N.2 (k + 1) (Nat.succ_pos k) (Nat.le_refl _)).1
  have hkd := (N.2 (k + 1) (Nat.succ_pos k) (Nat.le_refl _)).2.1
  have hd8 := (N.2 (k + 1) (Nat.succ_pos k) (Nat.le_refl _)).2.2
  have D := cx.2.2.1 _ hnd
  have i32 : G 0 (k + 1) < 32 := Nat.lt_of_lt_of_le hnd cx.1
  have y1 : fN k = nI (G 0 (k + 1)) := Y.1 k (Nat.lt_succ_self k)
  have y2 : fC k = nI (G 2 (k + 1)) := Y.2.1 k (Nat.lt_succ_self k)
  have y3 : fD k = nI (G 3 (k + 1)) := Y.2.2.1 k (Nat.lt_succ_self k)
  have y8 : fP k = sm_p (G 4 (k + 1)) := Y.2.2.2.2.2.2.2.1 k (Nat.lt_succ_self k)
  have hkk : nK (G 0 (k + 1)) = nI (G 1 (k + 1)) := by rw [hkd]; exact D.1
  have hx0 : xno (5 * G 0 (k + 1)) = nI (G 1 (k + 1)) := D.2.2.2.1.trans hkk
  have b3 := (I.2.1 _ lK).2.2.1
  have c16 := cx.2.1
  have c32 := cx.1
  have kd0 := D.2.1
  have kd1 := D.2.2.1
  have d5 := D.2.2.2.2.1
  have d6 := D.2.2.2.2.2.1
  have d7 := D.2.2.2.2.2.2.1
  have d8 := D.2.2.2.2.2.2.2.1
  have top : ∀ h, G 15 h = 1 → h ≤ k + 1 := fun h lh => (I.2.1 h lh).1
  have L := I.2.2.1 (k + 1) (Nat.succ_pos k) lK
  have op : G 16 (G 4 (k + 1)) ≠ 1 := fun z => oK (L.2.2.2.2.1 z)
  have pq : ∀ q, G 4 (k + 1) = q + 1 → q < 1000 := fun q hq => sm_n3 hK hlim L.1 hq
  have dq := (I.2.1 _ L.2.1).2.2.2.1
  obtain ⟨r, hr, hx, hy⟩ := sm_leaf (xms := xms) (xsl := nI lim) (xdl := nI dl) (xnc := xnc) (xsd := xsd) (xlr := xlr) (xls := xls) (xle := xle) (xst := nI (k + 1)) (xnw := sm_p (G 7 (k + 1))) (xtc := nI (G 8 (k + 1))) (xtu := 0) (xtn := nI (G 0 (k + 1))) (xcu := nI (G 2 (k + 1))) (xtd := nI (G 3 (k + 1))) (xtt := sm_p (G 6 (k + 1))) (xsr := 3) (xno := xno) (xsk := xsk) (xrt := xrt) (xsj := xsj) (xtx := xtx) (xtl := xtl) (xcr := xcr) (eN := upd eN k (nI (G 0 (k + 1)))) (eC := upd eC k (nI (G 2 (k + 1)))) (eD := upd eD k (nI (G 3 (k + 1)))) (eT := upd eT k (sm_p (G 6 (k + 1)))) (eH := upd eH k (sm_p (G 7 (k + 1)))) (eR := upd eR k (nI (G 8 (k + 1)))) (tE := tE) (tN := tN) (yms := yms) (ysl := nI lim) (ydl := nI dl) (ync := ync) (ysp := ysp) (ylr := ylr) (yls := yls) (yle := yle) (yfc := nI (k + 1)) (yst := nI (k + 1)) (ycf := nI k) (yev := 0) (yfr := yfr) (ydo := 0) (nK := nK) (nA := nA) (nB := nB) (nL := nL) (nR := nR) (ysk := ysk) (yrt := xrt) (ytx := xtx) (ytl := xtl) (ycr := xcr) (fN := fN) (fC := fC) (fD := fD) (fS := fS) (fA := fA) (fB := fB) (fO := fO) (fP := fP) (fL := fL) (fM := fM) (tS := tS) (tG := tG) i32 c16 b3 hkk (by omega) (by omega) (by omega) (by rw [hkd]; exact sm_nd9 D)
  rcases hr with hr | ⟨e, e1', e2, hr⟩
  · have r0 : ¬ (0 : Int32) ≤ r := by rw [hr]; exact sm_m1lt
    obtain ⟨H, I1, E1, Y1, T1, N1, ge⟩ := sm_T3 I Y T N lK op
    have X1 := sm_X_push (H := H) X (fun i g hi => by rw [ge i (Nat.ne_of_lt (Nat.lt_of_le_of_lt hi (by decide)))]) (fun g hg => by rw [ge 9 (by decide)]) (fun z => absurd z (by omega))
    have bd : (250 - (k + 1)) * 1300 + 260 + 3 * (k + 1) ≤ P - 1 + H 20 (H 4 (k + 1)) := sm_n5 hK hlim hP
    by_cases q : G 4 (k + 1) = 0
    · rw [q, sm_p0] at y8
      refine sm_fin_xy (P' := P - 1) (u1 := (xms, nI lim, nI dl, xnc, xsd, nI n, xlr, xls, xle, nI (k + 1), sm_p (G 7 (k + 1)), nI (G 8 (k + 1)), 2, nI (G 0 (k + 1)), nI (G 2 (k + 1)), nI (G 3 (k + 1)), sm_p (G 6 (k + 1)), 3, xno, xsk, xrt, xsj, xtx, xtl, xcr, upd eN k (nI (G 0 (k + 1))), upd eC k (nI (G 2 (k + 1))), upd eD k (nI (G 3 (k + 1))), upd eT k (sm_p (G 6 (k + 1))), upd eH k (sm_p (G 7 (k + 1))), upd eR k (nI (G 8 (k + 1))), tE, tN)) (v1 := (yms, nI lim, nI dl, ync, ysp, nI n, ylr, yls, yle, nI (k + 1), nI (k + 1), nI k, 0, yfr, 2, nK, nA, nB, nL, nR, ysk, xrt, xsj, xtx, xtl, xcr, fN, fC, fD, fS, fA, fB, fO, fP, fL, fM, tS, tG)) (fun post m i hi hl => sx_go0 hi (fun Q hq => sx_0leafx kl hlim i32 hx0 (by omega) d5 d6 hx hr hq) hl) (fun post m i hi hl => sy_go hi (fun Q hq => sy_0leafx k256 y1 i32 hkk y2 y3 (by omega) hy r0 (Or.inl ⟨y8, hq⟩)) hl) (ih (P - 1) (k + 1) H P1 vk ⟨rfl, hK, Or.inr ⟨rfl, rfl, I1, Y1, T1, N1, Or.inr (Or.inr (Or.inr ⟨k, E1, X1, rfl, rfl, by rw [ge 7 (by decide)], bd, Or.inl ⟨by rw [ge 4 (by decide)]; exact q, rfl⟩⟩))⟩⟩) P1
    · obtain ⟨q', hq'⟩ : ∃ q', G 4 (k + 1) = q' + 1 := ⟨G 4 (k + 1) - 1, (Nat.succ_pred_eq_of_ne_zero q).symm⟩
      have q9 := pq q' hq'
      rw [hq', sm_ps] at y8
      refine sm_fin_xy (P' := P - 1) (u1 := (xms, nI lim, nI dl, xnc, xsd, nI n, xlr, xls, xle, nI (k + 1), sm_p (G 7 (k + 1)), nI (G 8 (k + 1)), 2, nI (G 0 (k + 1)), nI (G 2 (k + 1)), nI (G 3 (k + 1)), sm_p (G 6 (k + 1)), 3, xno, xsk, xrt, xsj, xtx, xtl, xcr, upd eN k (nI (G 0 (k + 1))), upd eC k (nI (G 2 (k + 1))), upd eD k (nI (G 3 (k + 1))), upd eT k (sm_p (G 6 (k + 1))), upd eH k (sm_p (G 7 (k + 1))), upd eR k (nI (G 8 (k + 1))), tE, tN)) (v1 := (yms, nI lim, nI dl, ync, ysp, nI n, ylr, yls, yle, nI (k + 1), nI (k + 1), nI q', 3, nI k, 0, nK, nA, nB, nL, nR, ysk, xrt, xsj, xtx, xtl, xcr, fN, fC, fD, fS, fA, fB, fO, fP, fL, fM, tS, tG)) (fun post m i hi hl => sx_go0 hi (fun Q hq => sx_0leafx kl hlim i32 hx0 (by omega) d5 d6 hx hr hq) hl) (fun post m i hi hl => sy_go hi (fun Q hq => sy_0leafx k256 y1 i32 hkk y2 y3 (by omega) hy r0 (Or.inr ⟨q', q9, y8, hq⟩)) hl) (ih (P - 1) (k + 1) H P1 vk ⟨rfl, hK, Or.inr ⟨rfl, rfl, I1, Y1, T1, N1, Or.inr (Or.inr (Or.inr ⟨k, E1, X1, rfl, rfl, by rw [ge 7 (by decide)], bd, Or.inr ⟨q', by rw [ge 4 (by decide)]; exact hq', rfl, rfl, rfl, rfl⟩⟩))⟩⟩) P1
  · subst hr
    have r0 : (0 : Int32) ≤ nI e := nI_pos' (by omega)
    have r1 : ¬ nI e = -1 := sm_m1ne (by omega)
    obtain ⟨H, I1, E1, Y1, T1, N1, g8, g9, gs, go, ga, gt, gd⟩ := sm_T2 (v := e) (s := (G 9 (k + 1))) (a := (G 7 (k + 1))) (fS' := fS) I Y T N lK oK top e1' e2 laK lbK (Or.inl ⟨rfl, rfl⟩) (Or.inl ⟨by omega, by omega, rfl⟩)
    have X1 := sm_X_push X g8 g9 (fun z => absurd z k0.2.1)
    have bd : (250 - (k + 1)) * 1300 + H 20 (H 4 (k + 1)) + 1021 ≤ P - 1 := by rw [g8 4 _ (by decide), gd]; exact sm_n4 hK hlim hP L.1 dq
    by_cases q : G 4 (k + 1) = 0
    · rw [q, sm_p0] at y8
      refine sm_fin_xy (P' := P - 1) (u1 := (xms, nI lim, nI dl, xnc, xsd, nI n, xlr, xls, xle, nI (k + 1), sm_p (G 7 (k + 1)), nI (G 8 (k + 1)), 1, nI (G 0 (k + 1)), nI e, nI (G 3 (k + 1)), sm_p (G 6 (k + 1)), 3, xno, xsk, xrt, xsj, xtx, xtl, xcr, upd eN k (nI (G 0 (k + 1))), upd eC k (nI (G 2 (k + 1))), upd eD k (nI (G 3 (k + 1))), upd eT k (sm_p (G 6 (k + 1))), upd eH k (sm_p (G 7 (k + 1))), upd eR k (nI (G 8 (k + 1))), tE, tN)) (v1 := (yms, nI lim, nI dl, ync, ysp, nI n, ylr, yls, yle, nI (k + 1), nI (k + 1), nI k, 0, yfr, 1, nK, nA, nB, nL, nR, ysk, xrt, xsj, xtx, xtl, xcr, fN, fC, fD, fS, fA, fB, upd fO k (nI e), fP, fL, fM, tS, tG)) (fun post m i hi hl => sx_go0 hi (fun Q hq => sx_0leaf kl hlim i32 hx0 (by omega) d5 d6 hx r1 hq) hl) (fun post m i hi hl => sy_go hi (fun Q hq => sy_0leaf k256 y1 i32 hkk y2 y3 (by omega) hy r0 (Or.inl ⟨y8, hq⟩)) hl) (ih (P - 1) (k + 1) H P1 vk ⟨rfl, hK, Or.inr ⟨rfl, rfl, I1, Y1, T1, N1, Or.inr (Or.inr (Or.inl ⟨k, E1, X1, rfl, rfl, by rw [go], by rw [g8 6 _ (by decide)], by rw [ga], by rw [gt], Or.inr bd, Or.inl ⟨by rw [g8 4 _ (by decide)]; exact q, rfl⟩⟩))⟩⟩) P1
    · obtain ⟨q', hq'⟩ : ∃ q', G 4 (k + 1) = q' + 1 := ⟨G 4 (k + 1) - 1, (Nat.succ_pred_eq_of_ne_zero q).symm⟩
      have q9 := pq q' hq'
      rw [hq', sm_ps] at y8
      refine sm_fin_xy (P' := P - 1) (u1 := (xms, nI lim, nI dl, xnc, xsd, nI n, xlr, xls, xle, nI (k + 1), sm_p (G 7 (k + 1)), nI (G 8 (k + 1)), 1, nI (G 0 (k + 1)), nI e, nI (G 3 (k + 1)), sm_p (G 6 (k + 1)), 3, xno, xsk, xrt, xsj, xtx, xtl, xcr, upd eN k (nI (G 0 (k + 1))), upd eC k (nI (G 2 (k + 1))), upd eD k (nI (G 3 (k + 1))), upd eT k (sm_p (G 6 (k + 1))), upd eH k (sm_p (G 7 (k + 1))), upd eR k (nI (G 8 (k + 1))), tE, tN)) (v1 := (yms, nI lim, nI dl, ync, ysp, nI n, ylr, yls, yle, nI (k + 1), nI (k + 1), nI q', 2, nI k, 0, nK, nA, nB, nL, nR, ysk, xrt, xsj, xtx, xtl, xcr, fN, fC, fD, fS, fA, fB, upd fO k (nI e), fP, fL, fM, tS, tG)) (fun post m i hi hl => sx_go0 hi (fun Q hq => sx_0leaf kl hlim i32 hx0 (by omega) d5 d6 hx r1 hq) hl) (fun post m i hi hl => sy_go hi (fun Q hq => sy_0leaf k256 y1 i32 hkk y2 y3 (by omega) hy r0 (Or.inr ⟨q', q9, y8, hq⟩)) hl) (ih (P - 1) (k + 1) H P1 vk ⟨rfl, hK, Or.inr ⟨rfl, rfl, I1, Y1, T1, N1, Or.inr (Or.inr (Or.inl ⟨k, E1, X1, rfl, rfl, by rw [go], by rw [g8 6 _ (by decide)], by rw [ga], by rw [gt], Or.inr bd, Or.inr ⟨q', by rw [g8 4 _ (by decide)]; exact hq', rfl, rfl, rfl, rfl⟩⟩))⟩⟩) P1
theorem sm_0cur (cx : sm_cx n nc kn xno xrt nK nA nB nL nR) (hlim : lim ≤ 250) (ih : sm_IH xms xnc xsd xlr xls xle yms ync ysp ylr yls yle lim dl n nc kn xno xsk xrt xsj nK nA nB nL nR ysk tS tG P) (vk : sm_vok xtx xtl)
    {k : Nat} (hK : k + 1 ≤ lim) (I : sm_inv (k + 1) n G) (Y : sm_Y (k + 1) G fN fC fD fS fA fB fO fP fL fM) (T : sm_T G tE tN) (N : sm_N (k + 1) nc kn G) (E : sm_e0 (k + 1) G)
    (X : sm_X k G eN eC eD eT eH eR) (hP : (250 - (k + 1)) * 1300 + 1280 ≤ P) (k0 : G 1 (k + 1) = 11) :
    sm_fin xms xnc xsd xlr xls xle yms ync ysp ylr yls yle lim dl n nc kn xno xsk xrt xsj nK nA nB nL nR ysk tS tG P (xms, nI lim, nI dl, xnc, xsd, nI n, xlr, xls, xle, nI k, sm_p (G 7 (k + 1)), nI (G 8 (k + 1)), 0, nI (G 0 (k + 1)), nI (G 2 (k + 1)), nI (G 3 (k + 1)), sm_p (G 6 (k + 1)), 3, xno, xsk, xrt, xsj, xtx, xtl, xcr, eN, eC, eD, eT, eH, eR, tE, tN) (yms, nI lim, nI dl, ync, ysp, nI n, ylr, yls, yle, nI (k + 1), nI (k + 1), nI k, 0, yfr, 0, nK, nA, nB, nL, nR, ysk, xrt, xsj, xtx, xtl, xcr, fN, fC, fD, fS, fA, fB, fO, fP, fL, fM, tS, tG) := by
  have k256 : k < 256 := sm_n1 hK hlim
  have kl : k < lim := hK
  have P1 : P - 1 < P := sm_n2 hP
  have lK := E.2.1
  have oK := E.2.2.1
  have laK := E.2.2.2.1
  have lbK := E.2.2.2.2.1
  have hnd := (N.2 (k + 1) (Nat.succ_pos k) (Nat.le_refl _)).1
  have hkd := (N.2 (k + 1) (Nat.succ_pos k) (Nat.le_refl _)).2.1
  have hd8 := (N.2 (k + 1) (Nat.succ_pos k) (Nat.le_refl _)).2.2
  have D := cx.2.2.1 _ hnd
  have i32 : G 0 (k + 1) < 32 := Nat.lt_of_lt_of_le hnd cx.1
  have y1 : fN k = nI (G 0 (k + 1)) := Y.1 k (Nat.lt_succ_self k)
  have y2 : fC k = nI (G 2 (k + 1)) := Y.2.1 k (Nat.lt_succ_self k)
  have y3 : fD k = nI (G 3 (k + 1)) := Y.2.2.1 k (Nat.lt_succ_self k)
  have y8 : fP k = sm_p (G 4 (k + 1)) := Y.2.2.2.2.2.2.2.1 k (Nat.lt_succ_self k)
  have hkk : nK (G 0 (k + 1)) = nI (G 1 (k + 1)) := by rw [hkd]; exact D.1
  have hx0 : xno (5 * G 0 (k + 1)) = nI (G 1 (k + 1)) := D.2.2.2.1.trans hkk
  have b3 := (I.2.1 _ lK).2.2.1
  have c16 := cx.2.1
  have c32 := cx.1
  have kd0 := D.2.1
  have kd1 := D.2.2.1
  have d5 := D.2.2.2.2.1
  have d6 := D.2.2.2.2.2.1
  have d7 := D.2.2.2.2.2.2.1
  have d8 := D.2.2.2.2.2.2.2.1
  have top : ∀ h, G 15 h = 1 → h ≤ k + 1 := fun h lh => (I.2.1 h lh).1
  have L := I.2.2.1 (k + 1) (Nat.succ_pos k) lK
  have op : G 16 (G 4 (k + 1)) ≠ 1 := fun z => oK (L.2.2.2.2.1 z)
  have pq : ∀ q, G 4 (k + 1) = q + 1 → q < 1000 := fun q hq => sm_n3 hK hlim L.1 hq
  have dq := (I.2.1 _ L.2.1).2.2.2.1
  obtain ⟨a, ha, hA⟩ := sm_nd10 D (by omega)
  have hx := fun post hp => (sm_leafX11 (xms := xms) (xsl := nI lim) (xdl := nI dl) (xnc := xnc) (xsd := xsd) (xlr := xlr) (xls := xls) (xle := xle) (xst := nI (k + 1)) (xnw := sm_p (G 7 (k + 1))) (xtc := nI (G 8 (k + 1))) (xtu := 0) (xtn := nI (G 0 (k + 1))) (xcu := nI (G 2 (k + 1))) (xtd := nI (G 3 (k + 1))) (xtt := sm_p (G 6 (k + 1))) (xsr := 3) (xno := xno) (xsk := xsk) (xrt := xrt) (xsj := xsj) (xtx := xtx) (xtl := xtl) (xcr := xcr) (eN := upd eN k (nI (G 0 (k + 1)))) (eC := upd eC k (nI (G 2 (k + 1)))) (eD := upd eD k (nI (G 3 (k + 1)))) (eT := upd eT k (sm_p (G 6 (k + 1)))) (eH := upd eH k (sm_p (G 7 (k + 1)))) (eR := upd eR k (nI (G 8 (k + 1)))) (tE := tE) (tN := tN) (n := n) (xa := nA (G 0 (k + 1))) (xb := nB (G 0 (k + 1))) (c := G 2 (k + 1)) post hp)
  have hy := fun post hp => (sm_leafY11 (yms := yms) (ysl := nI lim) (ydl := nI dl) (ync := ync) (ysp := ysp) (ylr := ylr) (yls := yls) (yle := yle) (yfc := nI (k + 1)) (yst := nI (k + 1)) (ycf := nI k) (yev := 0) (yfr := yfr) (ydo := 0) (nK := nK) (nA := nA) (nB := nB) (nL := nL) (nR := nR) (ysk := ysk) (yrt := xrt) (ytx := xtx) (ytl := xtl) (ycr := xcr) (fN := fN) (fC := fC) (fD := fD) (fS := fS) (fA := fA) (fB := fB) (fO := fO) (fP := fP) (fL := fL) (fM := fM) (tS := tS) (tG := tG) (n := n) (ysj := xsj) (c := G 2 (k + 1)) i32 (hkk.trans (by rw [k0]; rfl)) post hp)
  have r0 : (0 : Int32) ≤ nI (G 2 (k + 1)) := nI_pos' (by omega)
  have r1 : ¬ nI (G 2 (k + 1)) = -1 := sm_m1ne (by omega)
  have hx2 : ∀ post : Int32 → Prop, post (nI (G 2 (k + 1))) → wpX_leafEnd post (xms, nI lim, nI dl, xnc, xsd, nI n, xlr, xls, xle, nI (k + 1), sm_p (G 7 (k + 1)), nI (G 8 (k + 1)), 0, nI (G 0 (k + 1)), nI (G 2 (k + 1)), nI (G 3 (k + 1)), sm_p (G 6 (k + 1)), 3, xno, xsk, xrt, xsj, xtx, xtl, xcr, upd eN k (nI (G 0 (k + 1))), upd eC k (nI (G 2 (k + 1))), upd eD k (nI (G 3 (k + 1))), upd eT k (sm_p (G 6 (k + 1))), upd eH k (sm_p (G 7 (k + 1))), upd eR k (nI (G 8 (k + 1))), tE, tN) (nI (G 1 (k + 1))) (nA (G 0 (k + 1))) (nB (G 0 (k + 1))) (nI (G 2 (k + 1))) := by
    rw [k0]; exact hx
  obtain ⟨H, I1, E1, Y1, T1, N1, g8, g9, gs, go, ga, gt, gd⟩ := sm_T2 (v := (G 2 (k + 1))) (s := (G 9 (k + 1))) (a := (G 7 (k + 1))) (fS' := fS) I Y T N lK oK top (Nat.le_refl _) b3 laK lbK (Or.inl ⟨rfl, rfl⟩) (Or.inl ⟨by omega, by omega, rfl⟩)
  have X1 := sm_X_push X g8 g9 (fun z => absurd z (by rw [k0]; decide))
  have bd : (250 - (k + 1)) * 1300 + H 20 (H 4 (k + 1)) + 1021 ≤ P - 1 := by rw [g8 4 _ (by decide), gd]; exact sm_n4 hK hlim hP L.1 dq
  by_cases q : G 4 (k + 1) = 0
  · rw [q, sm_p0] at y8
    refine sm_fin_xy (P' := P - 1) (u1 := (xms, nI lim, nI dl, xnc, xsd, nI n, xlr, xls, xle, nI (k + 1), sm_p (G 7 (k + 1)), nI (G 8 (k + 1)), 1, nI (G 0 (k + 1)), nI (G 2 (k + 1)), nI (G 3 (k + 1)), sm_p (G 6 (k + 1)), 3, xno, xsk, xrt, xsj, xtx, xtl, upd xcr a (nI (G 2 (k + 1))), upd eN k (nI (G 0 (k + 1))), upd eC k (nI (G 2 (k + 1))), upd eD k (nI (G 3 (k + 1))), upd eT k (sm_p (G 6 (k + 1))), upd eH k (sm_p (G 7 (k + 1))), upd eR k (nI (G 8 (k + 1))), tE, tN)) (v1 := (yms, nI lim, nI dl, ync, ysp, nI n, ylr, yls, yle, nI (k + 1), nI (k + 1), nI k, 0, yfr, 1, nK, nA, nB, nL, nR, ysk, xrt, xsj, xtx, xtl, upd xcr a (nI (G 2 (k + 1))), fN, fC, fD, fS, fA, fB, upd fO k (nI (G 2 (k + 1))), fP, fL, fM, tS, tG)) (fun post m i hi hl => sx_go0 hi (fun Q hq => sx_0cur kl hlim i32 hx0 k0 d5 d6 hx2 r1 (by omega) hA hq) hl) (fun post m i hi hl => sy_go hi (fun Q hq => sy_0cur k256 y1 i32 hkk y2 y3 k0 (Nat.lt_succ_of_le ha) hA hy r0 (Or.inl ⟨y8, hq⟩)) hl) (ih (P - 1) (k + 1) H P1 vk ⟨rfl, hK, Or.inr ⟨rfl, rfl, I1, Y1, T1, N1, Or.inr (Or.inr (Or.inl ⟨k, E1, X1, rfl, rfl, by rw [go], by rw [g8 6 _ (by decide)], by rw [ga], by rw [gt], Or.inr bd, Or.inl ⟨by rw [g8 4 _ (by decide)]; exact q, rfl⟩⟩))⟩⟩) P1
  · obtain ⟨q', hq'⟩ : ∃ q', G 4 (k + 1) = q' + 1 := ⟨G 4 (k + 1) - 1, (Nat.succ_pred_eq_of_ne_zero q).symm⟩
    have q9 := pq q' hq'
    rw [hq', sm_ps] at y8
    refine sm_fin_xy (P' := P - 1) (u1 := (xms, nI lim, nI dl, xnc, xsd, nI n, xlr, xls, xle, nI (k + 1), sm_p (G 7 (k + 1)), nI (G 8 (k + 1)), 1, nI (G 0 (k + 1)), nI (G 2 (k + 1)), nI (G 3 (k + 1)), sm_p (G 6 (k + 1)), 3, xno, xsk, xrt, xsj, xtx, xtl, upd xcr a (nI (G 2 (k + 1))), upd eN k (nI (G 0 (k + 1))), upd eC k (nI (G 2 (k + 1))), upd eD k (nI (G 3 (k + 1))), upd eT k (sm_p (G 6 (k + 1))), upd eH k (sm_p (G 7 (k + 1))), upd eR k (nI (G 8 (k + 1))), tE, tN)) (v1 := (yms, nI lim, nI dl, ync, ysp, nI n, ylr, yls, yle, nI (k + 1), nI (k + 1), nI q', 2, nI k, 0, nK, nA, nB, nL, nR, ysk, xrt, xsj, xtx, xtl, upd xcr a (nI (G 2 (k + 1))), fN, fC, fD, fS, fA, fB, upd fO k (nI (G 2 (k + 1))), fP, fL, fM, tS, tG)) (fun post m i hi hl => sx_go0 hi (fun Q hq => sx_0cur kl hlim i32 hx0 k0 d5 d6 hx2 r1 (by omega) hA hq) hl) (fun post m i hi hl => sy_go hi (fun Q hq => sy_0cur k256 y1 i32 hkk y2 y3 k0 (Nat.lt_succ_of_le ha) hA hy r0 (Or.inr ⟨q', q9, y8, hq⟩)) hl) (ih (P - 1) (k + 1) H P1 vk ⟨rfl, hK, Or.inr ⟨rfl, rfl, I1, Y1, T1, N1, Or.inr (Or.inr (Or.inl ⟨k, E1, X1, rfl, rfl, by rw [go], by rw [g8 6 _ (by decide)], by rw [ga], by rw [gt], Or.inr bd, Or.inr ⟨q', by rw [g8 4 _ (by decide)]; exact hq', rfl, rfl, rfl, rfl⟩⟩))⟩⟩) P1
theorem sm_0def (cx : sm_cx n nc kn xno xrt nK nA nB nL nR) (hlim : lim ≤ 250) (ih : sm_IH xms xnc xsd xlr xls xle yms ync ysp ylr yls yle lim dl n nc kn xno xsk xrt xsj nK nA nB nL nR ysk tS tG P) (vk : sm_vok xtx xtl)
    {k : Nat} (hK : k + 1 ≤ lim) (I : sm_inv (k + 1) n G) (Y : sm_Y (k + 1) G fN fC fD fS fA fB fO fP fL fM) (T : sm_T G tE tN) (N : sm_N (k + 1) nc kn G) (E : sm_e0 (k + 1) G)
    (X : sm_X k G eN eC eD eT eH eR) (hP : (250 - (k + 1)) * 1300 + 1280 ≤ P) (k0 : G 1 (k + 1) = 12) (hdl : dl ≤ 8) :
    sm_fin xms xnc xsd xlr xls xle yms ync ysp ylr yls yle lim dl n nc kn xno xsk xrt xsj nK nA nB nL nR ysk tS tG P (xms, nI lim, nI dl, xnc, xsd, nI n, xlr, xls, xle, nI k, sm_p (G 7 (k + 1)), nI (G 8 (k + 1)), 0, nI (G 0 (k + 1)), nI (G 2 (k + 1)), nI (G 3 (k + 1)), sm_p (G 6 (k + 1)), 3, xno, xsk, xrt, xsj, xtx, xtl, xcr, eN, eC, eD, eT, eH, eR, tE, tN) (yms, nI lim, nI dl, ync, ysp, nI n, ylr, yls, yle, nI (k + 1), nI (k + 1), nI k, 0, yfr, 0, nK, nA, nB, nL, nR, ysk, xrt, xsj, xtx, xtl, xcr, fN, fC, fD, fS, fA, fB, fO, fP, fL, fM, tS, tG) := by
  have k256 : k < 256 := sm_n1 hK hlim
  have kl : k < lim := hK
  have P1 : P - 1 < P := sm_n2 hP
  have lK := E.2.1
  have oK := E.2.2.1
  have laK := E.2.2.2.1
  have lbK := E.2.2.2.2.1
  have hnd := (N.2 (k + 1) (Nat.succ_pos k) (Nat.le_refl _)).1
  have hkd := (N.2 (k + 1) (Nat.succ_pos k) (Nat.le_refl _)).2.1
  have hd8 := (N.2 (k + 1) (Nat.succ_pos k) (Nat.le_refl _)).2.2
  have D := cx.2.2.1 _ hnd
  have i32 : G 0 (k + 1) < 32 := Nat.lt_of_lt_of_le hnd cx.1
  have y1 : fN k = nI (G 0 (k + 1)) := Y.1 k (Nat.lt_succ_self k)
  have y2 : fC k = nI (G 2 (k + 1)) := Y.2.1 k (Nat.lt_succ_self k)
  have y3 : fD k = nI (G 3 (k + 1)) := Y.2.2.1 k (Nat.lt_succ_self k)
  have y8 : fP k = sm_p (G 4 (k + 1)) := Y.2.2.2.2.2.2.2.1 k (Nat.lt_succ_self k)
  have hkk : nK (G 0 (k + 1)) = nI (G 1 (k + 1)) := by rw [hkd]; exact D.1
  have hx0 : xno (5 * G 0 (k + 1)) = nI (G 1 (k + 1)) := D.2.2.2.1.trans hkk
  have b3 := (I.2.1 _ lK).2.2.1
  have c16 := cx.2.1
  have c32 := cx.1
  have kd0 := D.2.1
  have kd1 := D.2.2.1
  have d5 := D.2.2.2.2.1
  have d6 := D.2.2.2.2.2.1
  have d7 := D.2.2.2.2.2.2.1
  have d8 := D.2.2.2.2.2.2.2.1
  have top : ∀ h, G 15 h = 1 → h ≤ k + 1 := fun h lh => (I.2.1 h lh).1
  have L := I.2.2.1 (k + 1) (Nat.succ_pos k) lK
  have op : G 16 (G 4 (k + 1)) ≠ 1 := fun z => oK (L.2.2.2.2.1 z)
  have pq : ∀ q, G 4 (k + 1) = q + 1 → q < 1000 := fun q hq => sm_n3 hK hlim L.1 hq
  have dq := (I.2.1 _ L.2.1).2.2.2.1
  obtain ⟨a, ha, hA⟩ := sm_nd11 D (by omega)
  have hxa : xno (5 * G 0 (k + 1) + 1) = nI a := d5.trans hA
  by_cases hd : dl ≤ G 3 (k + 1)
  · obtain ⟨H, I1, E1, Y1, T1, N1, ge⟩ := sm_T3 I Y T N lK op
    have X1 := sm_X_push (H := H) X (fun i g hi => by rw [ge i (Nat.ne_of_lt (Nat.lt_of_le_of_lt hi (by decide)))]) (fun g hg => by rw [ge 9 (by decide)]) (fun z => absurd z (by omega))
    have bd : (250 - (k + 1)) * 1300 + 260 + 3 * (k + 1) ≤ P - 1 + H 20 (H 4 (k + 1)) := sm_n5 hK hlim hP
    by_cases q : G 4 (k + 1) = 0
    · rw [q, sm_p0] at y8
      refine sm_fin_xy (P' := P - 1) (u1 := (xms, nI lim, nI dl, xnc, xsd, nI n, xlr, xls, xle, nI (k + 1), sm_p (G 7 (k + 1)), nI (G 8 (k + 1)), 2, nI (G 0 (k + 1)), nI (G 2 (k + 1)), nI (G 3 (k + 1)), sm_p (G 6 (k + 1)), 3, xno, xsk, xrt, xsj, xtx, xtl, xcr, upd eN k (nI (G 0 (k + 1))), upd eC k (nI (G 2 (k + 1))), upd eD k (nI (G 3 (k + 1))), upd eT k (sm_p (G 6 (k + 1))), upd eH k (sm_p (G 7 (k + 1))), upd eR k (nI (G 8 (k + 1))), tE, tN)) (v1 := (yms, nI lim, nI dl, ync, ysp, nI n, ylr, yls, yle, nI (k + 1), nI (k + 1), nI k, 0, yfr, 2, nK, nA, nB, nL, nR, ysk, xrt, xsj, xtx, xtl, xcr, fN, fC, fD, fS, fA, fB, fO, fP, fL, fM, tS, tG)) (fun post m i hi hl => sx_go0 hi (fun Q hq => sx_0defx kl hlim i32 hx0 k0 (by omega) hxa hd (by omega) hq) hl) (fun post m i hi hl => sy_go hi (fun Q hq => sy_0defx k256 y1 i32 hkk y2 y3 k0 hd (by omega) (Or.inl ⟨y8, hq⟩)) hl) (ih (P - 1) (k + 1) H P1 vk ⟨rfl, hK, Or.inr ⟨rfl, rfl, I1, Y1, T1, N1, Or.inr (Or.inr (Or.inr ⟨k, E1, X1, rfl, rfl, by rw [ge 7 (by decide)], bd, Or.inl ⟨by rw [ge 4 (by decide)]; exact q, rfl⟩⟩))⟩⟩) P1
    · obtain ⟨q', hq'⟩ : ∃ q', G 4 (k + 1) = q' + 1 := ⟨G 4 (k + 1) - 1, (Nat.succ_pred_eq_of_ne_zero q).symm⟩
      have q9 := pq q' hq'
      rw [hq', sm_ps] at y8
      refine sm_fin_xy (P' := P - 1) (u1 := (xms, nI lim, nI dl, xnc, xsd, nI n, xlr, xls, xle, nI (k + 1), sm_p (G 7 (k + 1)), nI (G 8 (k + 1)), 2, nI (G 0 (k + 1)), nI (G 2 (k + 1)), nI (G 3 (k + 1)), sm_p (G 6 (k + 1)), 3, xno, xsk, xrt, xsj, xtx, xtl, xcr, upd eN k (nI (G 0 (k + 1))), upd eC k (nI (G 2 (k + 1))), upd eD k (nI (G 3 (k + 1))), upd eT k (sm_p (G 6 (k + 1))), upd eH k (sm_p (G 7 (k + 1))), upd eR k (nI (G 8 (k + 1))), tE, tN)) (v1 := (yms, nI lim, nI dl, ync, ysp, nI n, ylr, yls, yle, nI (k + 1), nI (k + 1), nI q', 3, nI k, 0, nK, nA, nB, nL, nR, ysk, xrt, xsj, xtx, xtl, xcr, fN, fC, fD, fS, fA, fB, fO, fP, fL, fM, tS, tG)) (fun post m i hi hl => sx_go0 hi (fun Q hq => sx_0defx kl hlim i32 hx0 k0 (by omega) hxa hd (by omega) hq) hl) (fun post m i hi hl => sy_go hi (fun Q hq => sy_0defx k256 y1 i32 hkk y2 y3 k0 hd (by omega) (Or.inr ⟨q', q9, y8, hq⟩)) hl) (ih (P - 1) (k + 1) H P1 vk ⟨rfl, hK, Or.inr ⟨rfl, rfl, I1, Y1, T1, N1, Or.inr (Or.inr (Or.inr ⟨k, E1, X1, rfl, rfl, by rw [ge 7 (by decide)], bd, Or.inr ⟨q', by rw [ge 4 (by decide)]; exact hq', rfl, rfl, rfl, rfl⟩⟩))⟩⟩) P1
  · rcases cx.2.2.2 a (by omega) with hr | ⟨r, hr1, hr⟩
    · obtain ⟨H, I1, E1, Y1, T1, N1, ge⟩ := sm_T3 I Y T N lK op
      have X1 := sm_X_push (H := H) X (fun i g hi => by rw [ge i (Nat.ne_of_lt (Nat.lt_of_le_of_lt hi (by decide)))]) (fun g hg => by rw [ge 9 (by decide)]) (fun z => absurd z (by omega))
      have bd : (250 - (k + 1)) * 1300 + 260 + 3 * (k + 1) ≤ P - 1 + H 20 (H 4 (k + 1)) := sm_n5 hK hlim hP
      by_cases q : G 4 (k + 1) = 0
      · rw [q, sm_p0] at y8
        refine sm_fin_xy (P' := P - 1) (u1 := (xms, nI lim, nI dl, xnc, xsd, nI n, xlr, xls, xle, nI (k + 1), sm_p (G 7 (k + 1)), nI (G 8 (k + 1)), 2, nI (G 0 (k + 1)), nI (G 2 (k + 1)), nI (G 3 (k + 1)), sm_p (G 6 (k + 1)), 3, xno, xsk, xrt, xsj, xtx, xtl, xcr, upd eN k (nI (G 0 (k + 1))), upd eC k (nI (G 2 (k + 1))), upd eD k (nI (G 3 (k + 1))), upd eT k (sm_p (G 6 (k + 1))), upd eH k (sm_p (G 7 (k + 1))), upd eR k (nI (G 8 (k + 1))), tE, tN)) (v1 := (yms, nI lim, nI dl, ync, ysp, nI n, ylr, yls, yle, nI (k + 1), nI (k + 1), nI k, 0, yfr, 2, nK, nA, nB, nL, nR, ysk, xrt, xsj, xtx, xtl, xcr, fN, fC, fD, fS, fA, fB, fO, fP, fL, fM, tS, tG)) (fun post m i hi hl => sx_go0 hi (fun Q hq => sx_0defu kl hlim i32 hx0 k0 (by omega) hxa (by omega) (by omega) hr hq) hl) (fun post m i hi hl => sy_go hi (fun Q hq => sy_0defu k256 y1 i32 hkk y2 y3 k0 (by omega) (by omega) (by omega) hA hr (Or.inl ⟨y8, hq⟩)) hl) (ih (P - 1) (k + 1) H P1 vk ⟨rfl, hK, Or.inr ⟨rfl, rfl, I1, Y1, T1, N1, Or.inr (Or.inr (Or.inr ⟨k, E1, X1, rfl, rfl, by rw [ge 7 (by decide)], bd, Or.inl ⟨by rw [ge 4 (by decide)]; exact q, rfl⟩⟩))⟩⟩) P1
      · obtain ⟨q', hq'⟩ : ∃ q', G 4 (k + 1) = q' + 1 := ⟨G 4 (k + 1) - 1, (Nat.succ_pred_eq_of_ne_zero q).symm⟩
        have q9 := pq q' hq'
        rw [hq', sm_ps] at y8
        refine sm_fin_xy (P' := P - 1) (u1 := (xms, nI lim, nI dl, xnc, xsd, nI n, xlr, xls, xle, nI (k + 1), sm_p (G 7 (k + 1)), nI (G 8 (k + 1)), 2, nI (G 0 (k + 1)), nI (G 2 (k + 1)), nI (G 3 (k + 1)), sm_p (G 6 (k + 1)), 3, xno, xsk, xrt, xsj, xtx, xtl, xcr, upd eN k (nI (G 0 (k + 1))), upd eC k (nI (G 2 (k + 1))), upd eD k (nI (G 3 (k + 1))), upd eT k (sm_p (G 6 (k + 1))), upd eH k (sm_p (G 7 (k + 1))), upd eR k (nI (G 8 (k + 1))), tE, tN)) (v1 := (yms, nI lim, nI dl, ync, ysp, nI n, ylr, yls, yle, nI (k + 1), nI (k + 1), nI q', 3, nI k, 0, nK, nA, nB, nL, nR, ysk, xrt, xsj, xtx, xtl, xcr, fN, fC, fD, fS, fA, fB, fO, fP, fL, fM, tS, tG)) (fun post m i hi hl => sx_go0 hi (fun Q hq => sx_0defu kl hlim i32 hx0 k0 (by omega) hxa (by omega) (by omega) hr hq) hl) (fun post m i hi hl => sy_go hi (fun Q hq => sy_0defu k256 y1 i32 hkk y2 y3 k0 (by omega) (by omega) (by omega) hA hr (Or.inr ⟨q', q9, y8, hq⟩)) hl) (ih (P - 1) (k + 1) H P1 vk ⟨rfl, hK, Or.inr ⟨rfl, rfl, I1, Y1, T1, N1, Or.inr (Or.inr (Or.inr ⟨k, E1, X1, rfl, rfl, by rw [ge 7 (by decide)], bd, Or.inr ⟨q', by rw [ge 4 (by decide)]; exact hq', rfl, rfl, rfl, rfl⟩⟩))⟩⟩) P1
    · by_cases full : k + 1 = lim
      · refine sm_fin_xy (P' := P - 1) (u1 := (xms, nI lim, nI dl, xnc, xsd, nI n, xlr, xls, xle, nI (k + 1), sm_p (G 7 (k + 1)), nI (G 8 (k + 1)), 0, nI r, nI (G 2 (k + 1)), nI (G 3 (k + 1) + 1), sm_p (G 6 (k + 1)), 3, xno, xsk, xrt, xsj, xtx, xtl, xcr, upd eN k (nI (G 0 (k + 1))), upd eC k (nI (G 2 (k + 1))), upd eD k (nI (G 3 (k + 1))), upd eT k (sm_p (G 6 (k + 1))), upd eH k (sm_p (G 7 (k + 1))), upd eR k (nI (G 8 (k + 1))), tE, tN)) (v1 := (yms, nI lim, nI dl, ync, ysp, nI n, ylr, yls, yle, nI (k + 1), nI (k + 1), nI k, 0, yfr, 3, nK, nA, nB, nL, nR, ysk, xrt, xsj, xtx, xtl, xcr, fN, fC, fD, fS, fA, fB, fO, fP, fL, fM, tS, tG)) (fun post m i hi hl => sx_go0 hi (fun Q hq => sx_0defg kl hlim i32 hx0 k0 (by omega) hxa (by omega) (by omega) hr (by omega) hq) hl) (fun post m i hi hl => sy_go hi (fun Q hq => sy_0defg k256 y1 i32 hkk y2 y3 k0 (by omega) (by omega) (by omega) (by omega) (by omega) hA hr (by omega) (fun _ => hq) (fun z => absurd full z)) hl) (ih (P - 1) (k + 1) G P1 vk ⟨rfl, hK, Or.inl ⟨full, rfl, rfl, by rw [full]⟩⟩) P1
      · have X0 := sm_X_push (H := G) X (fun i g hi => rfl) (fun g hg => rfl) (fun z => absurd z (by omega))
        obtain ⟨H, I1, E1, Y1, T1, N1, gx, h0, h2, h3, h6, h7, h8⟩ := sm_TA (nd := r) (dd := G 3 (k + 1) + 1) (tk := G 6 (k + 1)) (ch := G 7 (k + 1)) I Y T N lK oK top (by omega) (by omega) (fun _ => by rw [E.2.2.2.2.2]; decide) hr1 (cx.2.2.1 _ hr1).2.2.1 (by omega) (by omega) (by omega)
        refine sm_fin_xy (P' := P - 1) (u1 := (xms, nI lim, nI dl, xnc, xsd, nI n, xlr, xls, xle, nI (k + 1), sm_p (G 7 (k + 1)), nI (G 8 (k + 1)), 0, nI r, nI (G 2 (k + 1)), nI (G 3 (k + 1) + 1), sm_p (G 6 (k + 1)), 3, xno, xsk, xrt, xsj, xtx, xtl, xcr, upd eN k (nI (G 0 (k + 1))), upd eC k (nI (G 2 (k + 1))), upd eD k (nI (G 3 (k + 1))), upd eT k (sm_p (G 6 (k + 1))), upd eH k (sm_p (G 7 (k + 1))), upd eR k (nI (G 8 (k + 1))), tE, tN)) (v1 := (yms, nI lim, nI dl, ync, ysp, nI n, ylr, yls, yle, nI (k + 1 + 1), nI (k + 1 + 1), nI (k + 1), 0, yfr, 0, nK, nA, nB, nL, nR, ysk, xrt, xsj, xtx, xtl, xcr, upd fN (k + 1) (nI r), upd fC (k + 1) (nI (G 2 (k + 1))), upd fD (k + 1) (nI (G 3 (k + 1) + 1)), upd fS (k + 1) 0, upd (upd fA (k + 1) (-1)) k (nI (k + 1)), upd fB (k + 1) (-1), upd fO (k + 1) (-1), upd fP (k + 1) (nI k), upd fL (k + 1) (-1), upd fM (k + 1) (-1), tS, tG)) (fun post m i hi hl => sx_go0 hi (fun Q hq => sx_0defg kl hlim i32 hx0 k0 (by omega) hxa (by omega) (by omega) hr (by omega) hq) hl) (fun post m i hi hl => sy_go hi (fun Q hq => sy_0defg k256 y1 i32 hkk y2 y3 k0 (by omega) (by omega) (by omega) (by omega) (by omega) hA hr (by omega) (fun z => absurd z full) (fun _ => hq)) hl) (ih (P - 1) (k + 1 + 1) H P1 vk ⟨rfl, (sm_n6 hK full hlim hP).1, Or.inr ⟨rfl, rfl, I1, Y1, T1, N1, Or.inl ⟨k + 1, rfl, E1, rfl, rfl, rfl, gx _ _ _ _ _ _ X0, rfl, rfl, by rw [h0], by rw [h2], by rw [h3], by rw [h6], by rw [h7], by rw [h8], (sm_n6 hK full hlim hP).2⟩⟩⟩) P1
theorem sm_0four (cx : sm_cx n nc kn xno xrt nK nA nB nL nR) (hlim : lim ≤ 250) (ih : sm_IH xms xnc xsd xlr xls xle yms ync ysp ylr yls yle lim dl n nc kn xno xsk xrt xsj nK nA nB nL nR ysk tS tG P) (vk : sm_vok xtx xtl)
    {k : Nat} (hK : k + 1 ≤ lim) (I : sm_inv (k + 1) n G) (Y : sm_Y (k + 1) G fN fC fD fS fA fB fO fP fL fM) (T : sm_T G tE tN) (N : sm_N (k + 1) nc kn G) (E : sm_e0 (k + 1) G)
    (X : sm_X k G eN eC eD eT eH eR) (hP : (250 - (k + 1)) * 1300 + 1280 ≤ P) (k0 : G 1 (k + 1) = 14 ∨ G 1 (k + 1) = 15 ∨ G 1 (k + 1) = 16 ∨ G 1 (k + 1) = 17) :
    sm_fin xms xnc xsd xlr xls xle yms ync ysp ylr yls yle lim dl n nc kn xno xsk xrt xsj nK nA nB nL nR ysk tS tG P (xms, nI lim, nI dl, xnc, xsd, nI n, xlr, xls, xle, nI k, sm_p (G 7 (k + 1)), nI (G 8 (k + 1)), 0, nI (G 0 (k + 1)), nI (G 2 (k + 1)), nI (G 3 (k + 1)), sm_p (G 6 (k + 1)), 3, xno, xsk, xrt, xsj, xtx, xtl, xcr, eN, eC, eD, eT, eH, eR, tE, tN) (yms, nI lim, nI dl, ync, ysp, nI n, ylr, yls, yle, nI (k + 1), nI (k + 1), nI k, 0, yfr, 0, nK, nA, nB, nL, nR, ysk, xrt, xsj, xtx, xtl, xcr, fN, fC, fD, fS, fA, fB, fO, fP, fL, fM, tS, tG) := by
  have k256 : k < 256 := sm_n1 hK hlim
  have kl : k < lim := hK
  have P1 : P - 1 < P := sm_n2 hP
  have lK := E.2.1
  have oK := E.2.2.1
  have laK := E.2.2.2.1
  have lbK := E.2.2.2.2.1
  have hnd := (N.2 (k + 1) (Nat.succ_pos k) (Nat.le_refl _)).1
  have hkd := (N.2 (k + 1) (Nat.succ_pos k) (Nat.le_refl _)).2.1
  have hd8 := (N.2 (k + 1) (Nat.succ_pos k) (Nat.le_refl _)).2.2
  have D := cx.2.2.1 _ hnd
  have i32 : G 0 (k + 1) < 32 := Nat.lt_of_lt_of_le hnd cx.1
  have y1 : fN k = nI (G 0 (k + 1)) := Y.1 k (Nat.lt_succ_self k)
  have y2 : fC k = nI (G 2 (k + 1)) := Y.2.1 k (Nat.lt_succ_self k)
  have y3 : fD k = nI (G 3 (k + 1)) := Y.2.2.1 k (Nat.lt_succ_self k)
  have y8 : fP k = sm_p (G 4 (k + 1)) := Y.2.2.2.2.2.2.2.1 k (Nat.lt_succ_self k)
  have hkk : nK (G 0 (k + 1)) = nI (G 1 (k + 1)) := by rw [hkd]; exact D.1
  have hx0 : xno (5 * G 0 (k + 1)) = nI (G 1 (k + 1)) := D.2.2.2.1.trans hkk
  have b3 := (I.2.1 _ lK).2.2.1
  have c16 := cx.2.1
  have c32 := cx.1
  have kd0 := D.2.1
  have kd1 := D.2.2.1
  have d5 := D.2.2.2.2.1
  have d6 := D.2.2.2.2.2.1
  have d7 := D.2.2.2.2.2.2.1
  have d8 := D.2.2.2.2.2.2.2.1
  have top : ∀ h, G 15 h = 1 → h ≤ k + 1 := fun h lh => (I.2.1 h lh).1
  have L := I.2.2.1 (k + 1) (Nat.succ_pos k) lK
  have op : G 16 (G 4 (k + 1)) ≠ 1 := fun z => oK (L.2.2.2.2.1 z)
  have pq : ∀ q, G 4 (k + 1) = q + 1 → q < 1000 := fun q hq => sm_n3 hK hlim L.1 hq
  have dq := (I.2.1 _ L.2.1).2.2.2.1
  obtain ⟨l, hl1, hl2⟩ := sm_nd12 D (by omega)
  by_cases full : k + 1 = lim
  · refine sm_fin_xy (P' := P - 1) (u1 := (xms, nI lim, nI dl, xnc, xsd, nI n, xlr, xls, xle, nI (k + 1), sm_p (G 7 (k + 1)), nI (G 8 (k + 1)), 0, nI l, nI (G 2 (k + 1)), nI (G 3 (k + 1)), nI k, 3, xno, xsk, xrt, xsj, xtx, xtl, xcr, upd eN k (nI (G 0 (k + 1))), upd eC k (nI (G 2 (k + 1))), upd eD k (nI (G 3 (k + 1))), upd eT k (sm_p (G 6 (k + 1))), upd eH k (sm_p (G 7 (k + 1))), upd eR k (nI (G 8 (k + 1))), tE, tN)) (v1 := (yms, nI lim, nI dl, ync, ysp, nI n, ylr, yls, yle, nI (k + 1), nI (k + 1), nI k, 0, yfr, 3, nK, nA, nB, nL, nR, ysk, xrt, xsj, xtx, xtl, xcr, fN, fC, fD, fS, fA, fB, fO, fP, fL, fM, tS, tG)) (fun post m i hi hl => sx_go0 hi (fun Q hq => sx_0four kl hlim i32 hx0 k0 (d7.trans hl2) hq) hl) (fun post m i hi hl => sy_go hi (fun Q hq => sy_0des k256 y1 i32 hkk y2 y3 (by omega) (by omega) (by omega) hl2 (fun _ => hq) (fun z => absurd full z)) hl) (ih (P - 1) (k + 1) G P1 vk ⟨rfl, hK, Or.inl ⟨full, rfl, rfl, by rw [full]⟩⟩) P1
  · have X0 := sm_X_push (H := G) X (fun i g hi => rfl) (fun g hg => rfl) (fun z => absurd z (by omega))
    obtain ⟨H, I1, E1, Y1, T1, N1, gx, h0, h2, h3, h6, h7, h8⟩ := sm_TA (nd := l) (dd := G 3 (k + 1)) (tk := k + 1) (ch := G 7 (k + 1)) I Y T N lK oK top (by omega) (by omega) (fun _ => by rw [E.2.2.2.2.2]; decide) (by omega) (cx.2.2.1 l (by omega)).2.2.1 hd8 (by omega) (by omega)
    refine sm_fin_xy (P' := P - 1) (u1 := (xms, nI lim, nI dl, xnc, xsd, nI n, xlr, xls, xle, nI (k + 1), sm_p (G 7 (k + 1)), nI (G 8 (k + 1)), 0, nI l, nI (G 2 (k + 1)), nI (G 3 (k + 1)), nI k, 3, xno, xsk, xrt, xsj, xtx, xtl, xcr, upd eN k (nI (G 0 (k + 1))), upd eC k (nI (G 2 (k + 1))), upd eD k (nI (G 3 (k + 1))), upd eT k (sm_p (G 6 (k + 1))), upd eH k (sm_p (G 7 (k + 1))), upd eR k (nI (G 8 (k + 1))), tE, tN)) (v1 := (yms, nI lim, nI dl, ync, ysp, nI n, ylr, yls, yle, nI (k + 1 + 1), nI (k + 1 + 1), nI (k + 1), 0, yfr, 0, nK, nA, nB, nL, nR, ysk, xrt, xsj, xtx, xtl, xcr, upd fN (k + 1) (nI l), upd fC (k + 1) (nI (G 2 (k + 1))), upd fD (k + 1) (nI (G 3 (k + 1))), upd fS (k + 1) 0, upd (upd fA (k + 1) (-1)) k (nI (k + 1)), upd fB (k + 1) (-1), upd fO (k + 1) (-1), upd fP (k + 1) (nI k), upd fL (k + 1) (-1), upd fM (k + 1) (-1), tS, tG)) (fun post m i hi hl => sx_go0 hi (fun Q hq => sx_0four kl hlim i32 hx0 k0 (d7.trans hl2) hq) hl) (fun post m i hi hl => sy_go hi (fun Q hq => sy_0des k256 y1 i32 hkk y2 y3 (by omega) (by omega) (by omega) hl2 (fun z => absurd z full) (fun _ => hq)) hl) (ih (P - 1) (k + 1 + 1) H P1 vk ⟨rfl, (sm_n6 hK full hlim hP).1, Or.inr ⟨rfl, rfl, I1, Y1, T1, N1, Or.inl ⟨k + 1, rfl, E1, rfl, rfl, rfl, gx _ _ _ _ _ _ X0, rfl, rfl, by rw [h0], by rw [h2], by rw [h3], by rw [h6]; exact (sm_ps k).symm, by rw [h7], by rw [h8], (sm_n6 hK full hlim hP).2⟩⟩⟩) P1
theorem sm_0alt (cx : sm_cx n nc kn xno xrt nK nA nB nL nR) (hlim : lim ≤ 250) (ih : sm_IH xms xnc xsd xlr xls xle yms ync ysp ylr yls yle lim dl n nc kn xno xsk xrt xsj nK nA nB nL nR ysk tS tG P) (vk : sm_vok xtx xtl)
    {k : Nat} (hK : k + 1 ≤ lim) (I : sm_inv (k + 1) n G) (Y : sm_Y (k + 1) G fN fC fD fS fA fB fO fP fL fM) (T : sm_T G tE tN) (N : sm_N (k + 1) nc kn G) (E : sm_e0 (k + 1) G)
    (X : sm_X k G eN eC eD eT eH eR) (hP : (250 - (k + 1)) * 1300 + 1280 ≤ P) (k0 : G 1 (k + 1) = 18) :
    sm_fin xms xnc xsd xlr xls xle yms ync ysp ylr yls yle lim dl n nc kn xno xsk xrt xsj nK nA nB nL nR ysk tS tG P (xms, nI lim, nI dl, xnc, xsd, nI n, xlr, xls, xle, nI k, sm_p (G 7 (k + 1)), nI (G 8 (k + 1)), 0, nI (G 0 (k + 1)), nI (G 2 (k + 1)), nI (G 3 (k + 1)), sm_p (G 6 (k + 1)), 3, xno, xsk, xrt, xsj, xtx, xtl, xcr, eN, eC, eD, eT, eH, eR, tE, tN) (yms, nI lim, nI dl, ync, ysp, nI n, ylr, yls, yle, nI (k + 1), nI (k + 1), nI k, 0, yfr, 0, nK, nA, nB, nL, nR, ysk, xrt, xsj, xtx, xtl, xcr, fN, fC, fD, fS, fA, fB, fO, fP, fL, fM, tS, tG) := by
  have k256 : k < 256 := sm_n1 hK hlim
  have kl : k < lim := hK
  have P1 : P - 1 < P := sm_n2 hP
  have lK := E.2.1
  have oK := E.2.2.1
  have laK := E.2.2.2.1
  have lbK := E.2.2.2.2.1
  have hnd := (N.2 (k + 1) (Nat.succ_pos k) (Nat.le_refl _)).1
  have hkd := (N.2 (k + 1) (Nat.succ_pos k) (Nat.le_refl _)).2.1
  have hd8 := (N.2 (k + 1) (Nat.succ_pos k) (Nat.le_refl _)).2.2
  have D := cx.2.2.1 _ hnd
  have i32 : G 0 (k + 1) < 32 := Nat.lt_of_lt_of_le hnd cx.1
  have y1 : fN k = nI (G 0 (k + 1)) := Y.1 k (Nat.lt_succ_self k)
  have y2 : fC k = nI (G 2 (k + 1)) := Y.2.1 k (Nat.lt_succ_self k)
  have y3 : fD k = nI (G 3 (k + 1)) := Y.2.2.1 k (Nat.lt_succ_self k)
  have y8 : fP k = sm_p (G 4 (k + 1)) := Y.2.2.2.2.2.2.2.1 k (Nat.lt_succ_self k)
  have hkk : nK (G 0 (k + 1)) = nI (G 1 (k + 1)) := by rw [hkd]; exact D.1
  have hx0 : xno (5 * G 0 (k + 1)) = nI (G 1 (k + 1)) := D.2.2.2.1.trans hkk
  have b3 := (I.2.1 _ lK).2.2.1
  have c16 := cx.2.1
  have c32 := cx.1
  have kd0 := D.2.1
  have kd1 := D.2.2.1
  have d5 := D.2.2.2.2.1
  have d6 := D.2.2.2.2.2.1
  have d7 := D.2.2.2.2.2.2.1
  have d8 := D.2.2.2.2.2.2.2.1
  have top : ∀ h, G 15 h = 1 → h ≤ k + 1 := fun h lh => (I.2.1 h lh).1
  have L := I.2.2.1 (k + 1) (Nat.succ_pos k) lK
  have op : G 16 (G 4 (k + 1)) ≠ 1 := fun z => oK (L.2.2.2.2.1 z)
  have pq : ∀ q, G 4 (k + 1) = q + 1 → q < 1000 := fun q hq => sm_n3 hK hlim L.1 hq
  have dq := (I.2.1 _ L.2.1).2.2.2.1
  obtain ⟨l, hl1, hl2⟩ := sm_nd12 D (by omega)
  by_cases full : k + 1 = lim
  · refine sm_fin_xy (P' := P - 1) (u1 := (xms, nI lim, nI dl, xnc, xsd, nI n, xlr, xls, xle, nI (k + 1), nI k, nI (G 8 (k + 1)), 0, nI l, nI (G 2 (k + 1)), nI (G 3 (k + 1)), sm_p (G 6 (k + 1)), 3, xno, xsk, xrt, xsj, xtx, xtl, xcr, upd eN k (nI (G 0 (k + 1))), upd eC k (nI (G 2 (k + 1))), upd eD k (nI (G 3 (k + 1))), upd eT k (sm_p (G 6 (k + 1))), upd eH k (sm_p (G 7 (k + 1))), upd eR k (nI (G 8 (k + 1))), tE, tN)) (v1 := (yms, nI lim, nI dl, ync, ysp, nI n, ylr, yls, yle, nI (k + 1), nI (k + 1), nI k, 0, yfr, 3, nK, nA, nB, nL, nR, ysk, xrt, xsj, xtx, xtl, xcr, fN, fC, fD, fS, fA, fB, fO, fP, fL, fM, tS, tG)) (fun post m i hi hl => sx_go0 hi (fun Q hq => sx_0alt kl hlim i32 hx0 k0 (d7.trans hl2) hq) hl) (fun post m i hi hl => sy_go hi (fun Q hq => sy_0des k256 y1 i32 hkk y2 y3 (by omega) (by omega) (by omega) hl2 (fun _ => hq) (fun z => absurd full z)) hl) (ih (P - 1) (k + 1) G P1 vk ⟨rfl, hK, Or.inl ⟨full, rfl, rfl, by rw [full]⟩⟩) P1
  · have X0 := sm_X_push (H := G) X (fun i g hi => rfl) (fun g hg => rfl) (fun z => absurd z (by omega))
    obtain ⟨H, I1, E1, Y1, T1, N1, gx, h0, h2, h3, h6, h7, h8⟩ := sm_TA (nd := l) (dd := G 3 (k + 1)) (tk := G 6 (k + 1)) (ch := k + 1) I Y T N lK oK top (by omega) (by omega) (fun _ => by rw [E.2.2.2.2.2]; decide) (by omega) (cx.2.2.1 l (by omega)).2.2.1 hd8 (by omega) (Or.inl ⟨k0, E.2.2.2.2.2, rfl⟩)
    refine sm_fin_xy (P' := P - 1) (u1 := (xms, nI lim, nI dl, xnc, xsd, nI n, xlr, xls, xle, nI (k + 1), nI k, nI (G 8 (k + 1)), 0, nI l, nI (G 2 (k + 1)), nI (G 3 (k + 1)), sm_p (G 6 (k + 1)), 3, xno, xsk, xrt, xsj, xtx, xtl, xcr, upd eN k (nI (G 0 (k + 1))), upd eC k (nI (G 2 (k + 1))), upd eD k (nI (G 3 (k + 1))), upd eT k (sm_p (G 6 (k + 1))), upd eH k (sm_p (G 7 (k + 1))), upd eR k (nI (G 8 (k + 1))), tE, tN)) (v1 := (yms, nI lim, nI dl, ync, ysp, nI n, ylr, yls, yle, nI (k + 1 + 1), nI (k + 1 + 1), nI (k + 1), 0, yfr, 0, nK, nA, nB, nL, nR, ysk, xrt, xsj, xtx, xtl, xcr, upd fN (k + 1) (nI l), upd fC (k + 1) (nI (G 2 (k + 1))), upd fD (k + 1) (nI (G 3 (k + 1))), upd fS (k + 1) 0, upd (upd fA (k + 1) (-1)) k (nI (k + 1)), upd fB (k + 1) (-1), upd fO (k + 1) (-1), upd fP (k + 1) (nI k), upd fL (k + 1) (-1), upd fM (k + 1) (-1), tS, tG)) (fun post m i hi hl => sx_go0 hi (fun Q hq => sx_0alt kl hlim i32 hx0 k0 (d7.trans hl2) hq) hl) (fun post m i hi hl => sy_go hi (fun Q hq => sy_0des k256 y1 i32 hkk y2 y3 (by omega) (by omega) (by omega) hl2 (fun z => absurd z full) (fun _ => hq)) hl) (ih (P - 1) (k + 1 + 1) H P1 vk ⟨rfl, (sm_n6 hK full hlim hP).1, Or.inr ⟨rfl, rfl, I1, Y1, T1, N1, Or.inl ⟨k + 1, rfl, E1, rfl, rfl, rfl, gx _ _ _ _ _ _ X0, rfl, rfl, by rw [h0], by rw [h2], by rw [h3], by rw [h6], by rw [h7]; exact (sm_ps k).symm, by rw [h8], (sm_n6 hK full hlim hP).2⟩⟩⟩) P1
end
end
section
theorem sm_mm1 {K P h d x : Nat} (hP : (250 - K) * 1300 + 260 + 3 * h ≤ P + d) (hd : d ≤ x + 1) (hh : x + 1 < h) : P - 1 < P := by omega
theorem sm_m2 {K P h d d' x : Nat} (hP : (250 - K) * 1300 + 260 + 3 * h ≤ P + d) (hh : x + 1 < h) (hd : d = d' + 1) : (250 - K) * 1300 + 260 + 3 * (x + 1) ≤ P - 1 + d' := by omega
theorem sm_m3 {K P h d d' : Nat} (hP : (250 - K) * 1300 + 260 + 3 * h ≤ P + d) (hd : d' = d + 1) : (250 - K) * 1300 + 260 + 3 * h ≤ P - 1 + d' := by omega
theorem sm_m4 {K P h d d' x : Nat} (hP : (250 - K) * 1300 + 260 + 3 * h ≤ P + d) (hh : x + 1 < h) (hx : d ≤ x + 1) (hd : d = d' + 1) : (250 - K) * 1300 + d' + 1 ≤ P - 1 := by omega
theorem sm_m5 {K P h d x lim : Nat} (hP : (250 - K) * 1300 + 260 + 3 * h ≤ P + d) (hh : x + 1 < h) (hx : d ≤ x + 1) (hK : K ≤ lim) (hn : ¬ K = lim) (hl : lim ≤ 250) : K + 1 ≤ lim ∧ (250 - (K + 1)) * 1300 + 1280 ≤ P - 1 := by omega
theorem sm_ccm {K n f : Nat} {G : Nat → Nat → Nat} (I : sm_inv K n G) (hf : 1 ≤ f) (L : sm_lp G f (G 4 f)) : G 2 (G 4 f) ≤ G 2 f := by
  rcases L.2.2.2.2.2.2 with q | q
  · have := q.2.2.2.1; omega
  · obtain ⟨a1, a2, a3, a4, a5, a6, a7, a8, a9, a10, a11, a12, a13⟩ := q
    have LA := I.2.2.1 _ a9 a4
    rw [a8] at LA
    have z := (I.2.2.2.1 _ a4 a5).2.2.2.1
    rcases LA.2.2.2.2.2.2 with r | r
    · have := r.2.2.2.1; omega
    · have := r.1; omega
theorem sm_ne10 {G : Nat → Nat → Nat} {f : Nat} (h : G 1 f ≠ 10) : sm_ec G f = G 2 f := by unfold sm_ec; rw [if_neg h]
theorem sm_eq10 {G : Nat → Nat → Nat} {f : Nat} (h : G 1 f = 10) : sm_ec G f = G 9 f := by unfold sm_ec; rw [if_pos h]
section
variable {xms xnc xsd xlr xls xle yms ync ysp ylr yls yle : Int32} {lim dl n nc : Nat} {kn : Nat → Nat} {xno xsk xrt xsj nK nA nB nL nR ysk tS tG : Nat → Int32}
variable {xst xnw xtc xtu xtn xcu xtd xtt xsr yfc yst ycf yev yfr ydo : Int32} {xtx xtl xcr eN eC eD eT eH eR tE tN fN fC fD fS fA fB fO fP fL fM : Nat → Int32}
variable {P K : Nat} {G : Nat → Nat → Nat}

theorem sm_1leaf (cx : sm_cx n nc kn xno xrt nK nA nB nL nR) (hlim : lim ≤ 250) (ih : sm_IH xms xnc xsd xlr xls xle yms ync ysp ylr yls yle lim dl n nc kn xno xsk xrt xsj nK nA nB nL nR ysk tS tG P) (vk : sm_vok xtx xtl)
    {x : Nat} (hK : K ≤ lim) (I : sm_inv K n G) (Y : sm_Y K G fN fC fD fS fA fB fO fP fL fM) (T : sm_T G tE tN) (N : sm_N K nc kn G) (E : sm_e1 G (x + 1))
    (X : sm_X K G eN eC eD eT eH eR) (hP : (250 - K) * 1300 + 260 + 3 * G 17 (x + 1) ≤ P + G 20 (x + 1)) (k0 : G 1 (x + 1) ≤ 11 ∧ G 1 (x + 1) ≠ 10) (hac : G 18 (x + 1) = G 7 (x + 1)) :
    sm_fin xms xnc xsd xlr xls xle yms ync ysp ylr yls yle lim dl n nc kn xno xsk xrt xsj nK nA nB nL nR ysk tS tG P (xms, nI lim, nI dl, xnc, xsd, nI n, xlr, xls, xle, nI K, sm_p (G 18 (x + 1)), xtc, 2, xtn, xcu, xtd, xtt, 3, xno, xsk, xrt, xsj, xtx, xtl, xcr, eN, eC, eD, eT, eH, eR, tE, tN) (yms, nI lim, nI dl, ync, ysp, nI n, ylr, yls, yle, nI K, nI K, nI x, 1, yfr, 0, nK, nA, nB, nL, nR, ysk, xrt, xsj, xtx, xtl, xcr, fN, fC, fD, fS, fA, fB, fO, fP, fL, fM, tS, tG) := by
  have lx := E.2.1
  have fx := E.2.2.1
  have px := E.2.2.2.1
  have B := I.2.1 _ lx
  have xK1 : x + 1 ≤ K := B.1
  have xK : x < K := B.1
  have K256 : K < 256 := Nat.lt_of_le_of_lt (Nat.le_trans hK hlim) (by decide)
  have x250 : x < 250 := Nat.lt_of_lt_of_le xK (Nat.le_trans hK hlim)
  have x256 : x < 256 := Nat.lt_trans x250 (by decide)
  have F := I.2.2.2.1 _ lx fx
  have L := I.2.2.1 (x + 1) (Nat.succ_pos x) lx
  have P1 : P - 1 < P := sm_mm1 hP B.2.2.2.1 F.1
  have hnd := (N.2 (x + 1) (Nat.succ_pos x) xK1).1
  have hkd := (N.2 (x + 1) (Nat.succ_pos x) xK1).2.1
  have hd8 := (N.2 (x + 1) (Nat.succ_pos x) xK1).2.2
  have D := cx.2.2.1 _ hnd
  have i32 : G 0 (x + 1) < 32 := Nat.lt_of_lt_of_le hnd cx.1
  have y1 : fN x = nI (G 0 (x + 1)) := Y.1 x xK
  have y2 : fC x = nI (G 2 (x + 1)) := Y.2.1 x xK
  have y3 : fD x = nI (G 3 (x + 1)) := Y.2.2.1 x xK
  have y4 : fS x = nI (G 9 (x + 1)) := Y.2.2.2.1 x xK
  have y5 : fA x = sm_p (G 10 (x + 1)) := Y.2.2.2.2.1 x xK
  have y6 : fB x = sm_p (G 11 (x + 1)) := Y.2.2.2.2.2.1 x xK
  have y8 : fP x = sm_p (G 4 (x + 1)) := Y.2.2.2.2.2.2.2.1 x xK
  have hkk : nK (G 0 (x + 1)) = nI (G 1 (x + 1)) := by rw [hkd]; exact D.1
  have hx0 : xno (5 * G 0 (x + 1)) = nI (G 1 (x + 1)) := D.2.2.2.1.trans hkk
  have x1 : eN x = nI (G 0 (x + 1)) := X.1 x xK
  have x2 : eC x = nI (sm_ec G (x + 1)) := X.2.1 x xK
  have x3 : eD x = nI (G 3 (x + 1)) := X.2.2.1 x xK
  have x4 : eT x = sm_p (G 6 (x + 1)) := X.2.2.2.1 x xK
  have x5 : eH x = sm_p (G 7 (x + 1)) := X.2.2.2.2.1 x xK
  have x6 : eR x = nI (G 8 (x + 1)) := X.2.2.2.2.2 x xK
  have pq : ∀ q, G 4 (x + 1) = q + 1 → q < 1000 := fun q hq => sm_n3 xK1 (Nat.le_trans hK hlim) L.1 hq
  have c16 := cx.2.1
  have z4 := F.2.2.2.1
  have z5 := F.2.2.2.2.1
  obtain ⟨H, I1, E1, Y1, T1, N1, ge⟩ := sm_T3 I Y T N lx px
  have X1 : sm_X K H eN eC eD eT eH eR := sm_X_s X (fun i hi => ge i (by omega))
  have bd : (250 - K) * 1300 + 260 + 3 * (x + 1) ≤ P - 1 + H 20 (H 4 (x + 1)) := by rw [ge 4 (by decide), ge 20 (by decide)]; exact sm_m2 hP F.1 L.2.2.2.1
  by_cases q : G 4 (x + 1) = 0
  · rw [q, sm_p0] at y8
    exact sm_fin_y (P' := P - 1) (v1 := (yms, nI lim, nI dl, ync, ysp, nI n, ylr, yls, yle, nI K, nI K, nI x, 1, yfr, 2, nK, nA, nB, nL, nR, ysk, xrt, xsj, xtx, xtl, xcr, fN, fC, fD, fS, fA, fB, fO, fP, fL, fM, tS, tG)) (fun post m i hi hl => sy_go hi (fun Q hq => sy_1leaf x256 y1 i32 hkk y2 y3 k0 (Or.inl ⟨y8, hq⟩)) hl) (ih (P - 1) K H P1 vk ⟨rfl, hK, Or.inr ⟨rfl, rfl, I1, Y1, T1, N1, Or.inr (Or.inr (Or.inr ⟨x, E1, X1, rfl, rfl, by rw [ge 7 (by decide), hac], bd, Or.inl ⟨by rw [ge 4 (by decide)]; exact q, rfl⟩⟩))⟩⟩) P1
  · obtain ⟨q', hq'⟩ : ∃ q', G 4 (x + 1) = q' + 1 := ⟨G 4 (x + 1) - 1, (Nat.succ_pred_eq_of_ne_zero q).symm⟩
    have q9 := pq q' hq'
    rw [hq', sm_ps] at y8
    exact sm_fin_y (P' := P - 1) (v1 := (yms, nI lim, nI dl, ync, ysp, nI n, ylr, yls, yle, nI K, nI K, nI q', 3, nI x, 0, nK, nA, nB, nL, nR, ysk, xrt, xsj, xtx, xtl, xcr, fN, fC, fD, fS, fA, fB, fO, fP, fL, fM, tS, tG)) (fun post m i hi hl => sy_go hi (fun Q hq => sy_1leaf x256 y1 i32 hkk y2 y3 k0 (Or.inr ⟨q', q9, y8, hq⟩)) hl) (ih (P - 1) K H P1 vk ⟨rfl, hK, Or.inr ⟨rfl, rfl, I1, Y1, T1, N1, Or.inr (Or.inr (Or.inr ⟨x, E1, X1, rfl, rfl, by rw [ge 7 (by decide), hac], bd, Or.inr ⟨q', by rw [ge 4 (by decide)]; exact hq', rfl, rfl, rfl, rfl⟩⟩))⟩⟩) P1
theorem sm_1fence (cx : sm_cx n nc kn xno xrt nK nA nB nL nR) (hlim : lim ≤ 250) (ih : sm_IH xms xnc xsd xlr xls xle yms ync ysp ylr yls yle lim dl n nc kn xno xsk xrt xsj nK nA nB nL nR ysk tS tG P) (vk : sm_vok xtx xtl)
    {x : Nat} (hK : K ≤ lim) (I : sm_inv K n G) (Y : sm_Y K G fN fC fD fS fA fB fO fP fL fM) (T : sm_T G tE tN) (N : sm_N K nc kn G) (E : sm_e1 G (x + 1))
    (X : sm_X K G eN eC eD eT eH eR) (hP : (250 - K) * 1300 + 260 + 3 * G 17 (x + 1) ≤ P + G 20 (x + 1)) (k0 : G 1 (x + 1) = 14) (hac : G 18 (x + 1) = G 7 (x + 1)) :
    sm_fin xms xnc xsd xlr xls xle yms ync ysp ylr yls yle lim dl n nc kn xno xsk xrt xsj nK nA nB nL nR ysk tS tG P (xms, nI lim, nI dl, xnc, xsd, nI n, xlr, xls, xle, nI K, sm_p (G 18 (x + 1)), xtc, 2, xtn, xcu, xtd, xtt, 3, xno, xsk, xrt, xsj, xtx, xtl, xcr, eN, eC, eD, eT, eH, eR, tE, tN) (yms, nI lim, nI dl, ync, ysp, nI n, ylr, yls, yle, nI K, nI K, nI x, 1, yfr, 0, nK, nA, nB, nL, nR, ysk, xrt, xsj, xtx, xtl, xcr, fN, fC, fD, fS, fA, fB, fO, fP, fL, fM, tS, tG) := by
  have lx := E.2.1
  have fx := E.2.2.1
  have px := E.2.2.2.1
  have B := I.2.1 _ lx
  have xK1 : x + 1 ≤ K := B.1
  have xK : x < K := B.1
  have K256 : K < 256 := Nat.lt_of_le_of_lt (Nat.le_trans hK hlim) (by decide)
  have x250 : x < 250 := Nat.lt_of_lt_of_le xK (Nat.le_trans hK hlim)
  have x256 : x < 256 := Nat.lt_trans x250 (by decide)
  have F := I.2.2.2.1 _ lx fx
  have L := I.2.2.1 (x + 1) (Nat.succ_pos x) lx
  have P1 : P - 1 < P := sm_mm1 hP B.2.2.2.1 F.1
  have hnd := (N.2 (x + 1) (Nat.succ_pos x) xK1).1
  have hkd := (N.2 (x + 1) (Nat.succ_pos x) xK1).2.1
  have hd8 := (N.2 (x + 1) (Nat.succ_pos x) xK1).2.2
  have D := cx.2.2.1 _ hnd
  have i32 : G 0 (x + 1) < 32 := Nat.lt_of_lt_of_le hnd cx.1
  have y1 : fN x = nI (G 0 (x + 1)) := Y.1 x xK
  have y2 : fC x = nI (G 2 (x + 1)) := Y.2.1 x xK
  have y3 : fD x = nI (G 3 (x + 1)) := Y.2.2.1 x xK
  have y4 : fS x = nI (G 9 (x + 1)) := Y.2.2.2.1 x xK
  have y5 : fA x = sm_p (G 10 (x + 1)) := Y.2.2.2.2.1 x xK
  have y6 : fB x = sm_p (G 11 (x + 1)) := Y.2.2.2.2.2.1 x xK
  have y8 : fP x = sm_p (G 4 (x + 1)) := Y.2.2.2.2.2.2.2.1 x xK
  have hkk : nK (G 0 (x + 1)) = nI (G 1 (x + 1)) := by rw [hkd]; exact D.1
  have hx0 : xno (5 * G 0 (x + 1)) = nI (G 1 (x + 1)) := D.2.2.2.1.trans hkk
  have x1 : eN x = nI (G 0 (x + 1)) := X.1 x xK
  have x2 : eC x = nI (sm_ec G (x + 1)) := X.2.1 x xK
  have x3 : eD x = nI (G 3 (x + 1)) := X.2.2.1 x xK
  have x4 : eT x = sm_p (G 6 (x + 1)) := X.2.2.2.1 x xK
  have x5 : eH x = sm_p (G 7 (x + 1)) := X.2.2.2.2.1 x xK
  have x6 : eR x = nI (G 8 (x + 1)) := X.2.2.2.2.2 x xK
  have pq : ∀ q, G 4 (x + 1) = q + 1 → q < 1000 := fun q hq => sm_n3 xK1 (Nat.le_trans hK hlim) L.1 hq
  have c16 := cx.2.1
  have z4 := F.2.2.2.1
  have z5 := F.2.2.2.2.1
  obtain ⟨H, I1, E1, Y1, T1, N1, ge⟩ := sm_T3 I Y T N lx px
  have X1 : sm_X K H eN eC eD eT eH eR := sm_X_s X (fun i hi => ge i (by omega))
  have bd : (250 - K) * 1300 + 260 + 3 * (x + 1) ≤ P - 1 + H 20 (H 4 (x + 1)) := by rw [ge 4 (by decide), ge 20 (by decide)]; exact sm_m2 hP F.1 L.2.2.2.1
  by_cases q : G 4 (x + 1) = 0
  · rw [q, sm_p0] at y8
    exact sm_fin_y (P' := P - 1) (v1 := (yms, nI lim, nI dl, ync, ysp, nI n, ylr, yls, yle, nI K, nI K, nI x, 1, yfr, 2, nK, nA, nB, nL, nR, ysk, xrt, xsj, xtx, xtl, xcr, fN, fC, fD, fS, fA, fB, fO, fP, fL, fM, tS, tG)) (fun post m i hi hl => sy_go hi (fun Q hq => sy_1fence x256 y1 i32 hkk y2 y3 k0 (Or.inl ⟨y8, hq⟩)) hl) (ih (P - 1) K H P1 vk ⟨rfl, hK, Or.inr ⟨rfl, rfl, I1, Y1, T1, N1, Or.inr (Or.inr (Or.inr ⟨x, E1, X1, rfl, rfl, by rw [ge 7 (by decide), hac], bd, Or.inl ⟨by rw [ge 4 (by decide)]; exact q, rfl⟩⟩))⟩⟩) P1
  · obtain ⟨q', hq'⟩ : ∃ q', G 4 (x + 1) = q' + 1 := ⟨G 4 (x + 1) - 1, (Nat.succ_pred_eq_of_ne_zero q).symm⟩
    have q9 := pq q' hq'
    rw [hq', sm_ps] at y8
    exact sm_fin_y (P' := P - 1) (v1 := (yms, nI lim, nI dl, ync, ysp, nI n, ylr, yls, yle, nI K, nI K, nI q', 3, nI x, 0, nK, nA, nB, nL, nR, ysk, xrt, xsj, xtx, xtl, xcr, fN, fC, fD, fS, fA, fB, fO, fP, fL, fM, tS, tG)) (fun post m i hi hl => sy_go hi (fun Q hq => sy_1fence x256 y1 i32 hkk y2 y3 k0 (Or.inr ⟨q', q9, y8, hq⟩)) hl) (ih (P - 1) K H P1 vk ⟨rfl, hK, Or.inr ⟨rfl, rfl, I1, Y1, T1, N1, Or.inr (Or.inr (Or.inr ⟨x, E1, X1, rfl, rfl, by rw [ge 7 (by decide), hac], bd, Or.inr ⟨q', by rw [ge 4 (by decide)]; exact hq', rfl, rfl, rfl, rfl⟩⟩))⟩⟩) P1
theorem sm_1arb (cx : sm_cx n nc kn xno xrt nK nA nB nL nR) (hlim : lim ≤ 250) (ih : sm_IH xms xnc xsd xlr xls xle yms ync ysp ylr yls yle lim dl n nc kn xno xsk xrt xsj nK nA nB nL nR ysk tS tG P) (vk : sm_vok xtx xtl)
    {x : Nat} (hK : K ≤ lim) (I : sm_inv K n G) (Y : sm_Y K G fN fC fD fS fA fB fO fP fL fM) (T : sm_T G tE tN) (N : sm_N K nc kn G) (E : sm_e1 G (x + 1))
    (X : sm_X K G eN eC eD eT eH eR) (hP : (250 - K) * 1300 + 260 + 3 * G 17 (x + 1) ≤ P + G 20 (x + 1)) (k0 : G 1 (x + 1) = 10) (f0 : sm_f0 G (x + 1)) (so : G 9 (x + 1) = G 12 (x + 1)) :
    sm_fin xms xnc xsd xlr xls xle yms ync ysp ylr yls yle lim dl n nc kn xno xsk xrt xsj nK nA nB nL nR ysk tS tG P (xms, nI lim, nI dl, xnc, xsd, nI n, xlr, xls, xle, nI K, nI x, xtc, 2, xtn, xcu, xtd, xtt, 3, xno, xsk, xrt, xsj, xtx, xtl, xcr, eN, eC, eD, eT, eH, eR, tE, tN) (yms, nI lim, nI dl, ync, ysp, nI n, ylr, yls, yle, nI K, nI K, nI x, 1, yfr, 0, nK, nA, nB, nL, nR, ysk, xrt, xsj, xtx, xtl, xcr, fN, fC, fD, fS, fA, fB, fO, fP, fL, fM, tS, tG) := by
  have lx := E.2.1
  have fx := E.2.2.1
  have px := E.2.2.2.1
  have B := I.2.1 _ lx
  have xK1 : x + 1 ≤ K := B.1
  have xK : x < K := B.1
  have K256 : K < 256 := Nat.lt_of_le_of_lt (Nat.le_trans hK hlim) (by decide)
  have x250 : x < 250 := Nat.lt_of_lt_of_le xK (Nat.le_trans hK hlim)
  have x256 : x < 256 := Nat.lt_trans x250 (by decide)
  have F := I.2.2.2.1 _ lx fx
  have L := I.2.2.1 (x + 1) (Nat.succ_pos x) lx
  have P1 : P - 1 < P := sm_mm1 hP B.2.2.2.1 F.1
  have hnd := (N.2 (x + 1) (Nat.succ_pos x) xK1).1
  have hkd := (N.2 (x + 1) (Nat.succ_pos x) xK1).2.1
  have hd8 := (N.2 (x + 1) (Nat.succ_pos x) xK1).2.2
  have D := cx.2.2.1 _ hnd
  have i32 : G 0 (x + 1) < 32 := Nat.lt_of_lt_of_le hnd cx.1
  have y1 : fN x = nI (G 0 (x + 1)) := Y.1 x xK
  have y2 : fC x = nI (G 2 (x + 1)) := Y.2.1 x xK
  have y3 : fD x = nI (G 3 (x + 1)) := Y.2.2.1 x xK
  have y4 : fS x = nI (G 9 (x + 1)) := Y.2.2.2.1 x xK
  have y5 : fA x = sm_p (G 10 (x + 1)) := Y.2.2.2.2.1 x xK
  have y6 : fB x = sm_p (G 11 (x + 1)) := Y.2.2.2.2.2.1 x xK
  have y8 : fP x = sm_p (G 4 (x + 1)) := Y.2.2.2.2.2.2.2.1 x xK
  have hkk : nK (G 0 (x + 1)) = nI (G 1 (x + 1)) := by rw [hkd]; exact D.1
  have hx0 : xno (5 * G 0 (x + 1)) = nI (G 1 (x + 1)) := D.2.2.2.1.trans hkk
  have x1 : eN x = nI (G 0 (x + 1)) := X.1 x xK
  have x2 : eC x = nI (sm_ec G (x + 1)) := X.2.1 x xK
  have x3 : eD x = nI (G 3 (x + 1)) := X.2.2.1 x xK
  have x4 : eT x = sm_p (G 6 (x + 1)) := X.2.2.2.1 x xK
  have x5 : eH x = sm_p (G 7 (x + 1)) := X.2.2.2.2.1 x xK
  have x6 : eR x = nI (G 8 (x + 1)) := X.2.2.2.2.2 x xK
  have pq : ∀ q, G 4 (x + 1) = q + 1 → q < 1000 := fun q hq => sm_n3 xK1 (Nat.le_trans hK hlim) L.1 hq
  have c16 := cx.2.1
  have z4 := F.2.2.2.1
  have z5 := F.2.2.2.2.1
  rw [sm_eq10 k0] at x2
  by_cases st : G 9 (x + 1) < n
  · obtain ⟨J, I0, lx0, ox0, top0, Y0, T0, N0, e0⟩ := sm_TT I E Y T N
    obtain ⟨H, I1, E1, Y1, T1, N1, g8, g9, gs, go, ga, gt, gd⟩ := sm_T2 (v := G 9 (x + 1) + 1) (s := G 9 (x + 1) + 1) (a := x + 1) (fS' := upd fS x (nI (G 9 (x + 1) + 1))) I0 Y0 T0 N0 lx0 ox0 top0 (by rw [e0 2 (by decide) (by decide)]; omega) st (by rw [e0 13 (by decide) (by decide)]; exact f0.2.1) (by rw [e0 14 (by decide) (by decide)]; exact f0.2.2.1) (Or.inr rfl) (Or.inr (Or.inl ⟨by rw [e0 1 (by decide) (by decide)]; exact k0, rfl, rfl⟩))
    have X1 : sm_X K H eN (upd eC x (nI (G 9 (x + 1) + 1))) eD eT eH eR := sm_X_arb X (fun i g hi => by rw [g8 i g hi, e0 i (by omega) (by omega)]) (fun g hg => by rw [g9 g hg, e0 9 (by decide) (by decide)]) k0 gs
    have bd : (250 - K) * 1300 + H 20 (H 4 (x + 1)) + 1 ≤ P - 1 := by rw [g8 4 _ (by decide), gd, e0 4 (by decide) (by decide), e0 20 (by decide) (by decide)]; exact sm_m4 hP F.1 B.2.2.2.1 L.2.2.2.1
    have sc : H 2 (H 4 (x + 1)) < H 12 (x + 1) := by
      rw [g8 4 _ (by decide), g8 2 _ (by decide), go, e0 4 (by decide) (by decide), e0 2 (by decide) (by decide)]
      have := sm_ccm (f := x + 1) I (Nat.succ_pos x) L
      omega
    by_cases q : G 4 (x + 1) = 0
    · rw [q, sm_p0] at y8
      exact sm_fin_xy (P' := P - 1) (u1 := (xms, nI lim, nI dl, xnc, xsd, nI n, xlr, xls, xle, nI K, nI x, nI (G 8 (x + 1)), 1, xtn, nI (G 9 (x + 1) + 1), xtd, sm_p (G 6 (x + 1)), 3, xno, xsk, xrt, xsj, xtx, xtl, xcr, eN, upd eC x (nI (G 9 (x + 1) + 1)), eD, eT, eH, eR, tE, tN)) (v1 := (yms, nI lim, nI dl, ync, ysp, nI n, ylr, yls, yle, nI K, nI K, nI x, 1, yfr, 1, nK, nA, nB, nL, nR, ysk, xrt, xsj, xtx, xtl, xcr, fN, fC, fD, upd fS x (nI (G 9 (x + 1) + 1)), fA, fB, upd fO x (nI (G 9 (x + 1) + 1)), fP, fL, fM, tS, tG)) (fun post m i hi hl => sx_go2 hi (fun Q hq => sx_2arby x250 x1 i32 hx0 x2 x5 x6 k0 x4 st (by omega) hq) hl) (fun post m i hi hl => sy_go hi (fun Q hq => sy_1arby x256 y1 i32 hkk y2 y3 k0 y4 (by omega) st (Or.inl ⟨y8, hq⟩)) hl) (ih (P - 1) K H P1 vk ⟨rfl, hK, Or.inr ⟨rfl, rfl, I1, Y1, T1, N1, Or.inr (Or.inr (Or.inl ⟨x, E1, X1, rfl, rfl, by rw [go], by rw [g8 6 _ (by decide), e0 6 (by decide) (by decide)], by rw [ga, sm_ps], by rw [gt, e0 8 (by decide) (by decide)], Or.inl ⟨sc, bd⟩, Or.inl ⟨by rw [g8 4 _ (by decide), e0 4 (by decide) (by decide)]; exact q, rfl⟩⟩))⟩⟩) P1
    · obtain ⟨q', hq'⟩ : ∃ q', G 4 (x + 1) = q' + 1 := ⟨G 4 (x + 1) - 1, (Nat.succ_pred_eq_of_ne_zero q).symm⟩
      have q9 := pq q' hq'
      rw [hq', sm_ps] at y8
      exact sm_fin_xy (P' := P - 1) (u1 := (xms, nI lim, nI dl, xnc, xsd, nI n, xlr, xls, xle, nI K, nI x, nI (G 8 (x + 1)), 1, xtn, nI (G 9 (x + 1) + 1), xtd, sm_p (G 6 (x + 1)), 3, xno, xsk, xrt, xsj, xtx, xtl, xcr, eN, upd eC x (nI (G 9 (x + 1) + 1)), eD, eT, eH, eR, tE, tN)) (v1 := (yms, nI lim, nI dl, ync, ysp, nI n, ylr, yls, yle, nI K, nI K, nI q', 2, nI x, 0, nK, nA, nB, nL, nR, ysk, xrt, xsj, xtx, xtl, xcr, fN, fC, fD, upd fS x (nI (G 9 (x + 1) + 1)), fA, fB, upd fO x (nI (G 9 (x + 1) + 1)), fP, fL, fM, tS, tG)) (fun post m i hi hl => sx_go2 hi (fun Q hq => sx_2arby x250 x1 i32 hx0 x2 x5 x6 k0 x4 st (by omega) hq) hl) (fun post m i hi hl => sy_go hi (fun Q hq => sy_1arby x256 y1 i32 hkk y2 y3 k0 y4 (by omega) st (Or.inr ⟨q', q9, y8, hq⟩)) hl) (ih (P - 1) K H P1 vk ⟨rfl, hK, Or.inr ⟨rfl, rfl, I1, Y1, T1, N1, Or.inr (Or.inr (Or.inl ⟨x, E1, X1, rfl, rfl, by rw [go], by rw [g8 6 _ (by decide), e0 6 (by decide) (by decide)], by rw [ga, sm_ps], by rw [gt, e0 8 (by decide) (by decide)], Or.inl ⟨sc, bd⟩, Or.inr ⟨q', by rw [g8 4 _ (by decide), e0 4 (by decide) (by decide)]; exact hq', rfl, rfl, rfl, rfl⟩⟩))⟩⟩) P1
  · have sn : n ≤ G 9 (x + 1) := Nat.le_of_not_lt st
    have s1000 : G 9 (x + 1) < 1000 := by omega
    obtain ⟨H, I1, E1, Y1, T1, N1, ge⟩ := sm_T3 I Y T N lx px
    have X1 : sm_X K H eN eC eD eT eH eR := sm_X_s X (fun i hi => ge i (by omega))
    have bd : (250 - K) * 1300 + 260 + 3 * (x + 1) ≤ P - 1 + H 20 (H 4 (x + 1)) := by rw [ge 4 (by decide), ge 20 (by decide)]; exact sm_m2 hP F.1 L.2.2.2.1
    by_cases q : G 4 (x + 1) = 0
    · rw [q, sm_p0] at y8
      exact sm_fin_xy (P' := P - 1) (u1 := (xms, nI lim, nI dl, xnc, xsd, nI n, xlr, xls, xle, nI K, sm_p (G 7 (x + 1)), nI (G 8 (x + 1)), 2, xtn, xcu, xtd, xtt, 3, xno, xsk, xrt, xsj, xtx, xtl, xcr, eN, eC, eD, eT, eH, eR, tE, tN)) (v1 := (yms, nI lim, nI dl, ync, ysp, nI n, ylr, yls, yle, nI K, nI K, nI x, 1, yfr, 2, nK, nA, nB, nL, nR, ysk, xrt, xsj, xtx, xtl, xcr, fN, fC, fD, fS, fA, fB, fO, fP, fL, fM, tS, tG)) (fun post m i hi hl => sx_go2 hi (fun Q hq => sx_2arbx x250 x1 i32 hx0 x2 x5 x6 k0 sn s1000 hq) hl) (fun post m i hi hl => sy_go hi (fun Q hq => sy_1arbx x256 y1 i32 hkk y2 y3 k0 y4 (by omega) sn s1000 (Or.inl ⟨y8, hq⟩)) hl) (ih (P - 1) K H P1 vk ⟨rfl, hK, Or.inr ⟨rfl, rfl, I1, Y1, T1, N1, Or.inr (Or.inr (Or.inr ⟨x, E1, X1, rfl, rfl, by rw [ge 7 (by decide)], bd, Or.inl ⟨by rw [ge 4 (by decide)]; exact q, rfl⟩⟩))⟩⟩) P1
    · obtain ⟨q', hq'⟩ : ∃ q', G 4 (x + 1) = q' + 1 := ⟨G 4 (x + 1) - 1, (Nat.succ_pred_eq_of_ne_zero q).symm⟩
      have q9 := pq q' hq'
      rw [hq', sm_ps] at y8
      exact sm_fin_xy (P' := P - 1) (u1 := (xms, nI lim, nI dl, xnc, xsd, nI n, xlr, xls, xle, nI K, sm_p (G 7 (x + 1)), nI (G 8 (x + 1)), 2, xtn, xcu, xtd, xtt, 3, xno, xsk, xrt, xsj, xtx, xtl, xcr, eN, eC, eD, eT, eH, eR, tE, tN)) (v1 := (yms, nI lim, nI dl, ync, ysp, nI n, ylr, yls, yle, nI K, nI K, nI q', 3, nI x, 0, nK, nA, nB, nL, nR, ysk, xrt, xsj, xtx, xtl, xcr, fN, fC, fD, fS, fA, fB, fO, fP, fL, fM, tS, tG)) (fun post m i hi hl => sx_go2 hi (fun Q hq => sx_2arbx x250 x1 i32 hx0 x2 x5 x6 k0 sn s1000 hq) hl) (fun post m i hi hl => sy_go hi (fun Q hq => sy_1arbx x256 y1 i32 hkk y2 y3 k0 y4 (by omega) sn s1000 (Or.inr ⟨q', q9, y8, hq⟩)) hl) (ih (P - 1) K H P1 vk ⟨rfl, hK, Or.inr ⟨rfl, rfl, I1, Y1, T1, N1, Or.inr (Or.inr (Or.inr ⟨x, E1, X1, rfl, rfl, by rw [ge 7 (by decide)], bd, Or.inr ⟨q', by rw [ge 4 (by decide)]; exact hq', rfl, rfl, rfl, rfl⟩⟩))⟩⟩) P1
theorem sm_1arbno (cx : sm_cx n nc kn xno xrt nK nA nB nL nR) (hlim : lim ≤ 250) (ih : sm_IH xms xnc xsd xlr xls xle yms ync ysp ylr yls yle lim dl n nc kn xno xsk xrt xsj nK nA nB nL nR ysk tS tG P) (vk : sm_vok xtx xtl)
    {x : Nat} (hK : K ≤ lim) (I : sm_inv K n G) (Y : sm_Y K G fN fC fD fS fA fB fO fP fL fM) (T : sm_T G tE tN) (N : sm_N K nc kn G) (E : sm_e1 G (x + 1))
    (X : sm_X K G eN eC eD eT eH eR) (hP : (250 - K) * 1300 + 260 + 3 * G 17 (x + 1) ≤ P + G 20 (x + 1)) (k0 : G 1 (x + 1) = 13) (st1 : G 9 (x + 1) = 1) :
    sm_fin xms xnc xsd xlr xls xle yms ync ysp ylr yls yle lim dl n nc kn xno xsk xrt xsj nK nA nB nL nR ysk tS tG P (xms, nI lim, nI dl, xnc, xsd, nI n, xlr, xls, xle, nI K, nI x, xtc, 2, xtn, xcu, xtd, xtt, 3, xno, xsk, xrt, xsj, xtx, xtl, xcr, eN, eC, eD, eT, eH, eR, tE, tN) (yms, nI lim, nI dl, ync, ysp, nI n, ylr, yls, yle, nI K, nI K, nI x, 1, yfr, 0, nK, nA, nB, nL, nR, ysk, xrt, xsj, xtx, xtl, xcr, fN, fC, fD, fS, fA, fB, fO, fP, fL, fM, tS, tG) := by
  have lx := E.2.1
  have fx := E.2.2.1
  have px := E.2.2.2.1
  have B := I.2.1 _ lx
  have xK1 : x + 1 ≤ K := B.1
  have xK : x < K := B.1
  have K256 : K < 256 := Nat.lt_of_le_of_lt (Nat.le_trans hK hlim) (by decide)
  have x250 : x < 250 := Nat.lt_of_lt_of_le xK (Nat.le_trans hK hlim)
  have x256 : x < 256 := Nat.lt_trans x250 (by decide)
  have F := I.2.2.2.1 _ lx fx
  have L := I.2.2.1 (x + 1) (Nat.succ_pos x) lx
  have P1 : P - 1 < P := sm_mm1 hP B.2.2.2.1 F.1
  have hnd := (N.2 (x + 1) (Nat.succ_pos x) xK1).1
  have hkd := (N.2 (x + 1) (Nat.succ_pos x) xK1).2.1
  have hd8 := (N.2 (x + 1) (Nat.succ_pos x) xK1).2.2
  have D := cx.2.2.1 _ hnd
  have i32 : G 0 (x + 1) < 32 := Nat.lt_of_lt_of_le hnd cx.1
  have y1 : fN x = nI (G 0 (x + 1)) := Y.1 x xK
  have y2 : fC x = nI (G 2 (x + 1)) := Y.2.1 x xK
  have y3 : fD x = nI (G 3 (x + 1)) := Y.2.2.1 x xK
  have y4 : fS x = nI (G 9 (x + 1)) := Y.2.2.2.1 x xK
  have y5 : fA x = sm_p (G 10 (x + 1)) := Y.2.2.2.2.1 x xK
  have y6 : fB x = sm_p (G 11 (x + 1)) := Y.2.2.2.2.2.1 x xK
  have y8 : fP x = sm_p (G 4 (x + 1)) := Y.2.2.2.2.2.2.2.1 x xK
  have hkk : nK (G 0 (x + 1)) = nI (G 1 (x + 1)) := by rw [hkd]; exact D.1
  have hx0 : xno (5 * G 0 (x + 1)) = nI (G 1 (x + 1)) := D.2.2.2.1.trans hkk
  have x1 : eN x = nI (G 0 (x + 1)) := X.1 x xK
  have x2 : eC x = nI (sm_ec G (x + 1)) := X.2.1 x xK
  have x3 : eD x = nI (G 3 (x + 1)) := X.2.2.1 x xK
  have x4 : eT x = sm_p (G 6 (x + 1)) := X.2.2.2.1 x xK
  have x5 : eH x = sm_p (G 7 (x + 1)) := X.2.2.2.2.1 x xK
  have x6 : eR x = nI (G 8 (x + 1)) := X.2.2.2.2.2 x xK
  have pq : ∀ q, G 4 (x + 1) = q + 1 → q < 1000 := fun q hq => sm_n3 xK1 (Nat.le_trans hK hlim) L.1 hq
  have c16 := cx.2.1
  have z4 := F.2.2.2.1
  have z5 := F.2.2.2.2.1
  rw [sm_ne10 (by rw [k0]; decide)] at x2
  obtain ⟨l, hl1, hl2⟩ := sm_nd12 D (by rw [← hkd, k0]; decide)
  have hS : fS x = 1 := by rw [y4, st1]; rfl
  by_cases full : K = lim
  · exact sm_fin_xy (P' := P - 1) (u1 := (xms, nI lim, nI dl, xnc, xsd, nI n, xlr, xls, xle, nI K, sm_p (G 7 (x + 1)), nI (G 8 (x + 1)), 0, nI l, nI (G 2 (x + 1)), nI (G 3 (x + 1)), nI x, 3, xno, xsk, xrt, xsj, xtx, xtl, xcr, eN, eC, eD, eT, eH, eR, tE, tN)) (v1 := (yms, nI lim, nI dl, ync, ysp, nI n, ylr, yls, yle, nI K, nI K, nI x, 1, yfr, 3, nK, nA, nB, nL, nR, ysk, xrt, xsj, xtx, xtl, xcr, fN, fC, fD, upd fS x 2, fA, fB, fO, fP, fL, fM, tS, tG)) (fun post m i hi hl => sx_go2 hi (fun Q hq => sx_2arbno x250 x1 i32 hx0 x2 x5 x6 k0 x3 (D.2.2.2.2.2.2.1.trans hl2) hq) hl) (fun post m i hi hl => sy_go hi (fun Q hq => sy_1arbno x256 y1 i32 hkk y2 y3 k0 K256 (by omega) hl2 hS (fun _ => hq) (fun z => absurd full z)) hl) (ih (P - 1) K G P1 vk ⟨rfl, hK, Or.inl ⟨full, rfl, rfl, by rw [full]⟩⟩) P1
  · obtain ⟨J, I0, lx0, ox0, top0, Y0, T0, N0, e0⟩ := sm_TT I E Y T N
    have ek0 : J 1 (x + 1) = 13 := by rw [e0 1 (by decide) (by decide)]; exact k0
    obtain ⟨J2, I2, Y2, T2, N2, e2, s2, xx2⟩ := sm_TS (s := 2) I0 ox0 top0 Y0 T0 N0 (by rw [ek0]; decide)
    have ek : J2 1 (x + 1) = 13 := by rw [e2 1 (by decide)]; exact ek0
    obtain ⟨H, I1, E1, Y1, T1, N1, gx, h0, h2, h3, h6, h7, h8⟩ := sm_TA (nd := l) (dd := G 3 (x + 1)) (tk := x + 1) (ch := J2 7 (x + 1)) I2 Y2 T2 N2 (by rw [e2 15 (by decide)]; exact lx0) (by rw [e2 16 (by decide)]; exact ox0) (by rw [e2 15 (by decide)]; exact top0) (by rw [ek]; decide) (fun _ => s2) (fun z => absurd z (by rw [ek]; decide)) (Nat.lt_trans hl1 hnd) (cx.2.2.1 l (Nat.lt_trans hl1 hnd)).2.2.1 hd8 (Or.inr ⟨by rw [ek]; decide, by rw [ek]; decide, rfl⟩) (Or.inr ⟨Or.inl (by rw [ek]; decide), rfl⟩)
    have q2 : J2 2 (x + 1) = G 2 (x + 1) := by rw [e2 2 (by decide), e0 2 (by decide) (by decide)]
    have q7 : J2 7 (x + 1) = G 7 (x + 1) := by rw [e2 7 (by decide), e0 7 (by decide) (by decide)]
    have q8 : J2 8 (x + 1) = G 8 (x + 1) := by rw [e2 8 (by decide), e0 8 (by decide) (by decide)]
    rw [q2] at Y1 h2
    rw [q7] at h7
    rw [q8] at h8
    have X1 := gx _ _ _ _ _ _ (xx2 _ _ _ _ _ _ (sm_X_s X (fun i hi => e0 i (by omega) (by omega))))
    exact sm_fin_xy (P' := P - 1) (u1 := (xms, nI lim, nI dl, xnc, xsd, nI n, xlr, xls, xle, nI K, sm_p (G 7 (x + 1)), nI (G 8 (x + 1)), 0, nI l, nI (G 2 (x + 1)), nI (G 3 (x + 1)), nI x, 3, xno, xsk, xrt, xsj, xtx, xtl, xcr, eN, eC, eD, eT, eH, eR, tE, tN)) (v1 := (yms, nI lim, nI dl, ync, ysp, nI n, ylr, yls, yle, nI (K + 1), nI (K + 1), nI K, 0, yfr, 0, nK, nA, nB, nL, nR, ysk, xrt, xsj, xtx, xtl, xcr, upd fN K (nI l), upd fC K (nI (G 2 (x + 1))), upd fD K (nI (G 3 (x + 1))), upd (upd fS x 2) K 0, upd (upd fA K (-1)) x (nI K), upd fB K (-1), upd fO K (-1), upd fP K (nI x), upd fL K (-1), upd fM K (-1), tS, tG)) (fun post m i hi hl => sx_go2 hi (fun Q hq => sx_2arbno x250 x1 i32 hx0 x2 x5 x6 k0 x3 (D.2.2.2.2.2.2.1.trans hl2) hq) hl) (fun post m i hi hl => sy_go hi (fun Q hq => sy_1arbno x256 y1 i32 hkk y2 y3 k0 K256 (by omega) hl2 hS (fun z => absurd z full) (fun _ => hq)) hl) (ih (P - 1) (K + 1) H P1 vk ⟨rfl, (sm_m5 hP F.1 B.2.2.2.1 hK full hlim).1, Or.inr ⟨rfl, rfl, I1, Y1, T1, N1, Or.inl ⟨K, rfl, E1, rfl, rfl, rfl, X1, rfl, rfl, by rw [h0], by rw [h2], by rw [h3], by rw [h6, sm_ps], by rw [h7], by rw [h8], (sm_m5 hP F.1 B.2.2.2.1 hK full hlim).2⟩⟩⟩) P1
theorem sm_1cat (cx : sm_cx n nc kn xno xrt nK nA nB nL nR) (hlim : lim ≤ 250) (ih : sm_IH xms xnc xsd xlr xls xle yms ync ysp ylr yls yle lim dl n nc kn xno xsk xrt xsj nK nA nB nL nR ysk tS tG P) (vk : sm_vok xtx xtl)
    {x : Nat} (hK : K ≤ lim) (I : sm_inv K n G) (Y : sm_Y K G fN fC fD fS fA fB fO fP fL fM) (T : sm_T G tE tN) (N : sm_N K nc kn G) (E : sm_e1 G (x + 1))
    (X : sm_X K G eN eC eD eT eH eR) (hP : (250 - K) * 1300 + 260 + 3 * G 17 (x + 1) ≤ P + G 20 (x + 1)) (k0 : G 1 (x + 1) = 17) (ck : sm_ck G (x + 1) (G 11 (x + 1))) (hac : G 18 (x + 1) = G 18 (G 11 (x + 1))) :
    sm_fin xms xnc xsd xlr xls xle yms ync ysp ylr yls yle lim dl n nc kn xno xsk xrt xsj nK nA nB nL nR ysk tS tG P (xms, nI lim, nI dl, xnc, xsd, nI n, xlr, xls, xle, nI K, sm_p (G 18 (x + 1)), xtc, 2, xtn, xcu, xtd, xtt, 3, xno, xsk, xrt, xsj, xtx, xtl, xcr, eN, eC, eD, eT, eH, eR, tE, tN) (yms, nI lim, nI dl, ync, ysp, nI n, ylr, yls, yle, nI K, nI K, nI x, 1, yfr, 0, nK, nA, nB, nL, nR, ysk, xrt, xsj, xtx, xtl, xcr, fN, fC, fD, fS, fA, fB, fO, fP, fL, fM, tS, tG) := by
  have lx := E.2.1
  have fx := E.2.2.1
  have px := E.2.2.2.1
  have B := I.2.1 _ lx
  have xK1 : x + 1 ≤ K := B.1
  have xK : x < K := B.1
  have K256 : K < 256 := Nat.lt_of_le_of_lt (Nat.le_trans hK hlim) (by decide)
  have x250 : x < 250 := Nat.lt_of_lt_of_le xK (Nat.le_trans hK hlim)
  have x256 : x < 256 := Nat.lt_trans x250 (by decide)
  have F := I.2.2.2.1 _ lx fx
  have L := I.2.2.1 (x + 1) (Nat.succ_pos x) lx
  have P1 : P - 1 < P := sm_mm1 hP B.2.2.2.1 F.1
  have hnd := (N.2 (x + 1) (Nat.succ_pos x) xK1).1
  have hkd := (N.2 (x + 1) (Nat.succ_pos x) xK1).2.1
  have hd8 := (N.2 (x + 1) (Nat.succ_pos x) xK1).2.2
  have D := cx.2.2.1 _ hnd
  have i32 : G 0 (x + 1) < 32 := Nat.lt_of_lt_of_le hnd cx.1
  have y1 : fN x = nI (G 0 (x + 1)) := Y.1 x xK
  have y2 : fC x = nI (G 2 (x + 1)) := Y.2.1 x xK
  have y3 : fD x = nI (G 3 (x + 1)) := Y.2.2.1 x xK
  have y4 : fS x = nI (G 9 (x + 1)) := Y.2.2.2.1 x xK
  have y5 : fA x = sm_p (G 10 (x + 1)) := Y.2.2.2.2.1 x xK
  have y6 : fB x = sm_p (G 11 (x + 1)) := Y.2.2.2.2.2.1 x xK
  have y8 : fP x = sm_p (G 4 (x + 1)) := Y.2.2.2.2.2.2.2.1 x xK
  have hkk : nK (G 0 (x + 1)) = nI (G 1 (x + 1)) := by rw [hkd]; exact D.1
  have hx0 : xno (5 * G 0 (x + 1)) = nI (G 1 (x + 1)) := D.2.2.2.1.trans hkk
  have x1 : eN x = nI (G 0 (x + 1)) := X.1 x xK
  have x2 : eC x = nI (sm_ec G (x + 1)) := X.2.1 x xK
  have x3 : eD x = nI (G 3 (x + 1)) := X.2.2.1 x xK
  have x4 : eT x = sm_p (G 6 (x + 1)) := X.2.2.2.1 x xK
  have x5 : eH x = sm_p (G 7 (x + 1)) := X.2.2.2.2.1 x xK
  have x6 : eR x = nI (G 8 (x + 1)) := X.2.2.2.2.2 x xK
  have pq : ∀ q, G 4 (x + 1) = q + 1 → q < 1000 := fun q hq => sm_n3 xK1 (Nat.le_trans hK hlim) L.1 hq
  have c16 := cx.2.1
  have z4 := F.2.2.2.1
  have z5 := F.2.2.2.2.1
  have ck' := ck
  obtain ⟨b1, b2, b3, b4, b5, b6⟩ := ck'
  obtain ⟨c, hc⟩ : ∃ c, G 11 (x + 1) = c + 1 := ⟨G 11 (x + 1) - 1, by omega⟩
  rw [hc] at b1 b2 b3 b4 b5 b6 ck hac
  rw [hc, sm_ps] at y6
  have cK : c < K := (I.2.1 _ b2).1
  have Lc := I.2.2.1 (c + 1) (Nat.succ_pos c) b2
  rw [b4] at Lc
  obtain ⟨H, I1, E1, Y1, T1, N1, ge⟩ := sm_TK I E Y T N ck
  have X1 : sm_X K H eN eC eD eT eH eR := sm_X_s X (fun i hi => ge i (by omega))
  have bd : (250 - K) * 1300 + 260 + 3 * H 17 (c + 1) ≤ P - 1 + H 20 (c + 1) := by rw [ge 17 (by decide), ge 20 (by decide), b5]; exact sm_m3 hP Lc.2.2.2.1
  exact sm_fin_y (P' := P - 1) (v1 := (yms, nI lim, nI dl, ync, ysp, nI n, ylr, yls, yle, nI K, nI K, nI c, 1, yfr, 0, nK, nA, nB, nL, nR, ysk, xrt, xsj, xtx, xtl, xcr, fN, fC, fD, fS, fA, fB, fO, fP, fL, fM, tS, tG)) (fun post m i hi hl => sy_go hi (fun Q hq => sy_1cat x256 y1 i32 hkk y2 y3 k0 y6 cK (by omega) hq) hl) (ih (P - 1) K H P1 vk ⟨rfl, hK, Or.inr ⟨rfl, rfl, I1, Y1, T1, N1, Or.inr (Or.inl ⟨c, E1, rfl, rfl, rfl, X1, rfl, rfl, by rw [ge 18 (by decide), hac], bd⟩)⟩⟩) P1
theorem sm_1arbn2 (cx : sm_cx n nc kn xno xrt nK nA nB nL nR) (hlim : lim ≤ 250) (ih : sm_IH xms xnc xsd xlr xls xle yms ync ysp ylr yls yle lim dl n nc kn xno xsk xrt xsj nK nA nB nL nR ysk tS tG P) (vk : sm_vok xtx xtl)
    {x : Nat} (hK : K ≤ lim) (I : sm_inv K n G) (Y : sm_Y K G fN fC fD fS fA fB fO fP fL fM) (T : sm_T G tE tN) (N : sm_N K nc kn G) (E : sm_e1 G (x + 1))
    (X : sm_X K G eN eC eD eT eH eR) (hP : (250 - K) * 1300 + 260 + 3 * G 17 (x + 1) ≤ P + G 20 (x + 1)) (k0 : G 1 (x + 1) = 13) (ck : sm_ck G (x + 1) (G 11 (x + 1))) (hac : G 18 (x + 1) = G 18 (G 11 (x + 1))) (st2 : G 9 (x + 1) = 2) :
    sm_fin xms xnc xsd xlr xls xle yms ync ysp ylr yls yle lim dl n nc kn xno xsk xrt xsj nK nA nB nL nR ysk tS tG P (xms, nI lim, nI dl, xnc, xsd, nI n, xlr, xls, xle, nI K, sm_p (G 18 (x + 1)), xtc, 2, xtn, xcu, xtd, xtt, 3, xno, xsk, xrt, xsj, xtx, xtl, xcr, eN, eC, eD, eT, eH, eR, tE, tN) (yms, nI lim, nI dl, ync, ysp, nI n, ylr, yls, yle, nI K, nI K, nI x, 1, yfr, 0, nK, nA, nB, nL, nR, ysk, xrt, xsj, xtx, xtl, xcr, fN, fC, fD, fS, fA, fB, fO, fP, fL, fM, tS, tG) := by
  have lx := E.2.1
  have fx := E.2.2.1
  have px := E.2.2.2.1
  have B := I.2.1 _ lx
  have xK1 : x + 1 ≤ K := B.1
  have xK : x < K := B.1
  have K256 : K < 256 := Nat.lt_of_le_of_lt (Nat.le_trans hK hlim) (by decide)
  have x250 : x < 250 := Nat.lt_of_lt_of_le xK (Nat.le_trans hK hlim)
  have x256 : x < 256 := Nat.lt_trans x250 (by decide)
  have F := I.2.2.2.1 _ lx fx
  have L := I.2.2.1 (x + 1) (Nat.succ_pos x) lx
  have P1 : P - 1 < P := sm_mm1 hP B.2.2.2.1 F.1
  have hnd := (N.2 (x + 1) (Nat.succ_pos x) xK1).1
  have hkd := (N.2 (x + 1) (Nat.succ_pos x) xK1).2.1
  have hd8 := (N.2 (x + 1) (Nat.succ_pos x) xK1).2.2
  have D := cx.2.2.1 _ hnd
  have i32 : G 0 (x + 1) < 32 := Nat.lt_of_lt_of_le hnd cx.1
  have y1 : fN x = nI (G 0 (x + 1)) := Y.1 x xK
  have y2 : fC x = nI (G 2 (x + 1)) := Y.2.1 x xK
  have y3 : fD x = nI (G 3 (x + 1)) := Y.2.2.1 x xK
  have y4 : fS x = nI (G 9 (x + 1)) := Y.2.2.2.1 x xK
  have y5 : fA x = sm_p (G 10 (x + 1)) := Y.2.2.2.2.1 x xK
  have y6 : fB x = sm_p (G 11 (x + 1)) := Y.2.2.2.2.2.1 x xK
  have y8 : fP x = sm_p (G 4 (x + 1)) := Y.2.2.2.2.2.2.2.1 x xK
  have hkk : nK (G 0 (x + 1)) = nI (G 1 (x + 1)) := by rw [hkd]; exact D.1
  have hx0 : xno (5 * G 0 (x + 1)) = nI (G 1 (x + 1)) := D.2.2.2.1.trans hkk
  have x1 : eN x = nI (G 0 (x + 1)) := X.1 x xK
  have x2 : eC x = nI (sm_ec G (x + 1)) := X.2.1 x xK
  have x3 : eD x = nI (G 3 (x + 1)) := X.2.2.1 x xK
  have x4 : eT x = sm_p (G 6 (x + 1)) := X.2.2.2.1 x xK
  have x5 : eH x = sm_p (G 7 (x + 1)) := X.2.2.2.2.1 x xK
  have x6 : eR x = nI (G 8 (x + 1)) := X.2.2.2.2.2 x xK
  have pq : ∀ q, G 4 (x + 1) = q + 1 → q < 1000 := fun q hq => sm_n3 xK1 (Nat.le_trans hK hlim) L.1 hq
  have c16 := cx.2.1
  have z4 := F.2.2.2.1
  have z5 := F.2.2.2.2.1
  have ck' := ck
  obtain ⟨b1, b2, b3, b4, b5, b6⟩ := ck'
  obtain ⟨c, hc⟩ : ∃ c, G 11 (x + 1) = c + 1 := ⟨G 11 (x + 1) - 1, by omega⟩
  rw [hc] at b1 b2 b3 b4 b5 b6 ck hac
  rw [hc, sm_ps] at y6
  have cK : c < K := (I.2.1 _ b2).1
  have Lc := I.2.2.1 (c + 1) (Nat.succ_pos c) b2
  rw [b4] at Lc
  obtain ⟨H, I1, E1, Y1, T1, N1, ge⟩ := sm_TK I E Y T N ck
  have X1 : sm_X K H eN eC eD eT eH eR := sm_X_s X (fun i hi => ge i (by omega))
  have bd : (250 - K) * 1300 + 260 + 3 * H 17 (c + 1) ≤ P - 1 + H 20 (c + 1) := by rw [ge 17 (by decide), ge 20 (by decide), b5]; exact sm_m3 hP Lc.2.2.2.1
  exact sm_fin_y (P' := P - 1) (v1 := (yms, nI lim, nI dl, ync, ysp, nI n, ylr, yls, yle, nI K, nI K, nI c, 1, yfr, 0, nK, nA, nB, nL, nR, ysk, xrt, xsj, xtx, xtl, xcr, fN, fC, fD, fS, fA, fB, fO, fP, fL, fM, tS, tG)) (fun post m i hi hl => sy_go hi (fun Q hq => sy_1arbn2 x256 y1 i32 hkk y2 y3 k0 y6 cK (by omega) (y4.trans (sm_eqI st2)) hq) hl) (ih (P - 1) K H P1 vk ⟨rfl, hK, Or.inr ⟨rfl, rfl, I1, Y1, T1, N1, Or.inr (Or.inl ⟨c, E1, rfl, rfl, rfl, X1, rfl, rfl, by rw [ge 18 (by decide), hac], bd⟩)⟩⟩) P1
theorem sm_1else (cx : sm_cx n nc kn xno xrt nK nA nB nL nR) (hlim : lim ≤ 250) (ih : sm_IH xms xnc xsd xlr xls xle yms ync ysp ylr yls yle lim dl n nc kn xno xsk xrt xsj nK nA nB nL nR ysk tS tG P) (vk : sm_vok xtx xtl)
    {x : Nat} (hK : K ≤ lim) (I : sm_inv K n G) (Y : sm_Y K G fN fC fD fS fA fB fO fP fL fM) (T : sm_T G tE tN) (N : sm_N K nc kn G) (E : sm_e1 G (x + 1))
    (X : sm_X K G eN eC eD eT eH eR) (hP : (250 - K) * 1300 + 260 + 3 * G 17 (x + 1) ≤ P + G 20 (x + 1)) (k0 : G 1 (x + 1) = 12 ∨ G 1 (x + 1) = 15 ∨ G 1 (x + 1) = 16 ∨ G 1 (x + 1) = 18) (ck : sm_ck G (x + 1) (G 10 (x + 1))) (hac : G 18 (x + 1) = G 18 (G 10 (x + 1))) :
    sm_fin xms xnc xsd xlr xls xle yms ync ysp ylr yls yle lim dl n nc kn xno xsk xrt xsj nK nA nB nL nR ysk tS tG P (xms, nI lim, nI dl, xnc, xsd, nI n, xlr, xls, xle, nI K, sm_p (G 18 (x + 1)), xtc, 2, xtn, xcu, xtd, xtt, 3, xno, xsk, xrt, xsj, xtx, xtl, xcr, eN, eC, eD, eT, eH, eR, tE, tN) (yms, nI lim, nI dl, ync, ysp, nI n, ylr, yls, yle, nI K, nI K, nI x, 1, yfr, 0, nK, nA, nB, nL, nR, ysk, xrt, xsj, xtx, xtl, xcr, fN, fC, fD, fS, fA, fB, fO, fP, fL, fM, tS, tG) := by
  have lx := E.2.1
  have fx := E.2.2.1
  have px := E.2.2.2.1
  have B := I.2.1 _ lx
  have xK1 : x + 1 ≤ K := B.1
  have xK : x < K := B.1
  have K256 : K < 256 := Nat.lt_of_le_of_lt (Nat.le_trans hK hlim) (by decide)
  have x250 : x < 250 := Nat.lt_of_lt_of_le xK (Nat.le_trans hK hlim)
  have x256 : x < 256 := Nat.lt_trans x250 (by decide)
  have F := I.2.2.2.1 _ lx fx
  have L := I.2.2.1 (x + 1) (Nat.succ_pos x) lx
  have P1 : P - 1 < P := sm_mm1 hP B.2.2.2.1 F.1
  have hnd := (N.2 (x + 1) (Nat.succ_pos x) xK1).1
  have hkd := (N.2 (x + 1) (Nat.succ_pos x) xK1).2.1
  have hd8 := (N.2 (x + 1) (Nat.succ_pos x) xK1).2.2
  have D := cx.2.2.1 _ hnd
  have i32 : G 0 (x + 1) < 32 := Nat.lt_of_lt_of_le hnd cx.1
  have y1 : fN x = nI (G 0 (x + 1)) := Y.1 x xK
  have y2 : fC x = nI (G 2 (x + 1)) := Y.2.1 x xK
  have y3 : fD x = nI (G 3 (x + 1)) := Y.2.2.1 x xK
  have y4 : fS x = nI (G 9 (x + 1)) := Y.2.2.2.1 x xK
  have y5 : fA x = sm_p (G 10 (x + 1)) := Y.2.2.2.2.1 x xK
  have y6 : fB x = sm_p (G 11 (x + 1)) := Y.2.2.2.2.2.1 x xK
  have y8 : fP x = sm_p (G 4 (x + 1)) := Y.2.2.2.2.2.2.2.1 x xK
  have hkk : nK (G 0 (x + 1)) = nI (G 1 (x + 1)) := by rw [hkd]; exact D.1
  have hx0 : xno (5 * G 0 (x + 1)) = nI (G 1 (x + 1)) := D.2.2.2.1.trans hkk
  have x1 : eN x = nI (G 0 (x + 1)) := X.1 x xK
  have x2 : eC x = nI (sm_ec G (x + 1)) := X.2.1 x xK
  have x3 : eD x = nI (G 3 (x + 1)) := X.2.2.1 x xK
  have x4 : eT x = sm_p (G 6 (x + 1)) := X.2.2.2.1 x xK
  have x5 : eH x = sm_p (G 7 (x + 1)) := X.2.2.2.2.1 x xK
  have x6 : eR x = nI (G 8 (x + 1)) := X.2.2.2.2.2 x xK
  have pq : ∀ q, G 4 (x + 1) = q + 1 → q < 1000 := fun q hq => sm_n3 xK1 (Nat.le_trans hK hlim) L.1 hq
  have c16 := cx.2.1
  have z4 := F.2.2.2.1
  have z5 := F.2.2.2.2.1
  have ck' := ck
  obtain ⟨b1, b2, b3, b4, b5, b6⟩ := ck'
  obtain ⟨c, hc⟩ : ∃ c, G 10 (x + 1) = c + 1 := ⟨G 10 (x + 1) - 1, by omega⟩
  rw [hc] at b1 b2 b3 b4 b5 b6 ck hac
  rw [hc, sm_ps] at y5
  have cK : c < K := (I.2.1 _ b2).1
  have Lc := I.2.2.1 (c + 1) (Nat.succ_pos c) b2
  rw [b4] at Lc
  obtain ⟨H, I1, E1, Y1, T1, N1, ge⟩ := sm_TK I E Y T N ck
  have X1 : sm_X K H eN eC eD eT eH eR := sm_X_s X (fun i hi => ge i (by omega))
  have bd : (250 - K) * 1300 + 260 + 3 * H 17 (c + 1) ≤ P - 1 + H 20 (c + 1) := by rw [ge 17 (by decide), ge 20 (by decide), b5]; exact sm_m3 hP Lc.2.2.2.1
  exact sm_fin_y (P' := P - 1) (v1 := (yms, nI lim, nI dl, ync, ysp, nI n, ylr, yls, yle, nI K, nI K, nI c, 1, yfr, 0, nK, nA, nB, nL, nR, ysk, xrt, xsj, xtx, xtl, xcr, fN, fC, fD, fS, fA, fB, fO, fP, fL, fM, tS, tG)) (fun post m i hi hl => sy_go hi (fun Q hq => sy_1else x256 y1 i32 hkk y2 y3 k0 y5 cK (by omega) hq) hl) (ih (P - 1) K H P1 vk ⟨rfl, hK, Or.inr ⟨rfl, rfl, I1, Y1, T1, N1, Or.inr (Or.inl ⟨c, E1, rfl, rfl, rfl, X1, rfl, rfl, by rw [ge 18 (by decide), hac], bd⟩)⟩⟩) P1
theorem sm_ev1 (cx : sm_cx n nc kn xno xrt nK nA nB nL nR) (hlim : lim ≤ 250) (ih : sm_IH xms xnc xsd xlr xls xle yms ync ysp ylr yls yle lim dl n nc kn xno xsk xrt xsj nK nA nB nL nR ysk tS tG P) (vk : sm_vok xtx xtl)
    {x : Nat} (hK : K ≤ lim) (I : sm_inv K n G) (Y : sm_Y K G fN fC fD fS fA fB fO fP fL fM) (T : sm_T G tE tN) (N : sm_N K nc kn G) (E : sm_e1 G (x + 1))
    (X : sm_X K G eN eC eD eT eH eR) (hP : (250 - K) * 1300 + 260 + 3 * G 17 (x + 1) ≤ P + G 20 (x + 1)) :
    sm_fin xms xnc xsd xlr xls xle yms ync ysp ylr yls yle lim dl n nc kn xno xsk xrt xsj nK nA nB nL nR ysk tS tG P (xms, nI lim, nI dl, xnc, xsd, nI n, xlr, xls, xle, nI K, sm_p (G 18 (x + 1)), xtc, 2, xtn, xcu, xtd, xtt, 3, xno, xsk, xrt, xsj, xtx, xtl, xcr, eN, eC, eD, eT, eH, eR, tE, tN) (yms, nI lim, nI dl, ync, ysp, nI n, ylr, yls, yle, nI K, nI K, nI x, 1, yfr, 0, nK, nA, nB, nL, nR, ysk, xrt, xsj, xtx, xtl, xcr, fN, fC, fD, fS, fA, fB, fO, fP, fL, fM, tS, tG) := by
  have F := I.2.2.2.1 _ E.2.1 E.2.2.1
  rcases F.2.2.2.2.2 with f0 | f1 | f2
  · obtain ⟨a1, a2, a3, a4, a5, a6⟩ := f0
    rcases a1 with a1 | ⟨a1, s1⟩
    · by_cases k0 : G 1 (x + 1) = 10
      · have ac : G 18 (x + 1) = x + 1 := by omega
        rw [ac, sm_ps]
        exact sm_1arb cx hlim ih vk hK I Y T N E X hP k0 ⟨Or.inl a1, a2, a3, a4, a5, a6⟩ (a6 k0)
      · exact sm_1leaf cx hlim ih vk hK I Y T N E X hP ⟨a1, k0⟩ (by omega)
    · have ac : G 18 (x + 1) = x + 1 := by omega
      rw [ac, sm_ps]
      exact sm_1arbno cx hlim ih vk hK I Y T N E X hP a1 s1
  · obtain ⟨a1, a2, a3, a4, a5, a6, a7⟩ := f1
    by_cases k0 : G 1 (x + 1) = 14
    · exact sm_1fence cx hlim ih vk hK I Y T N E X hP k0 (by omega)
    · exact sm_1else cx hlim ih vk hK I Y T N E X hP (by omega) a2 (by omega)
  · obtain ⟨a1, a2, a3, a4, a5, a6, a7⟩ := f2
    rcases a1 with a1 | ⟨a1, s1⟩
    · exact sm_1cat cx hlim ih vk hK I Y T N E X hP a1 a2 a7
    · exact sm_1arbn2 cx hlim ih vk hK I Y T N E X hP a1 a2 a7 s1
end
end
section
theorem sm_k2 {K P d d' c v : Nat} (hP : (c < v ∧ (250 - K) * 1300 + d + 1 ≤ P) ∨ (250 - K) * 1300 + d + 1021 ≤ P) : P - 1 < P := by omega
theorem sm_k3 {K P d d' c c' v : Nat} (hP : (c < v ∧ (250 - K) * 1300 + d + 1 ≤ P) ∨ (250 - K) * 1300 + d + 1021 ≤ P) (hd : d = d' + 1) (hc : c' ≤ c) : (c' < v ∧ (250 - K) * 1300 + d' + 1 ≤ P - 1) ∨ (250 - K) * 1300 + d' + 1021 ≤ P - 1 := by omega
theorem sm_k4 {K P d c v lim : Nat} (hP : (c < v ∧ (250 - K) * 1300 + d + 1 ≤ P) ∨ (250 - K) * 1300 + d + 1021 ≤ P) (hK : K ≤ lim) (hn : ¬ K = lim) (hl : lim ≤ 250) : K + 1 ≤ lim ∧ (250 - (K + 1)) * 1300 + 1280 ≤ P - 1 := by omega
theorem sm_k5 {K P d c v h e lim : Nat} (hP : (c < v ∧ (250 - K) * 1300 + d + 1 ≤ P) ∨ (250 - K) * 1300 + d + 1021 ≤ P) (hv : v = c) (hK : K ≤ lim) (hl : lim ≤ 250) (hh : h = K + 1) : (250 - K) * 1300 + 260 + 3 * h ≤ P - 1 + e := by omega
theorem sm_put_ch {sj tx : Nat → Int32} {v a m : Nat} (hs : sm_ch sj 16) (ht : sm_ch tx 128) (hv : v ≤ 7) : ∀ j, j ≤ 16 → a + j ≤ 16 → sm_ch (sm_put sj tx v a j) 128 := by
  intro j
  induction j with
  | zero => intro _ _; exact ht
  | succ j ih =>
    intro h1 h2 i hi
    by_cases q : i = v * 16 + j
    · obtain ⟨w, hw, e⟩ := hs (a + j) (by omega)
      refine ⟨w, hw, ?_⟩
      unfold sm_put
      rw [q, pk_us, e]
      unfold vp_nar
      rw [(pk_charN hw).1]
    · unfold sm_put
      rw [pk_un q]
      exact ih (by omega) (by omega) i hi
theorem sm_put_ok {sj tx tl : Nat → Int32} {v a b : Nat} (hs : sm_ch sj 16) (ht : sm_vok tx tl) (hv : v ≤ 7) (hab : a ≤ b) (hb : b ≤ 16) : sm_vok (sm_put sj tx v a (b - a)) (upd tl v (nI (b - a))) := by
  refine ⟨sm_put_ch (m := 0) hs ht.1 hv _ (by omega) (by omega), ?_⟩
  intro w hw
  by_cases q : w = v
  · exact ⟨b - a, by omega, by rw [q, pk_us]⟩
  · rw [pk_un q]; exact ht.2 w hw
section
variable {xms xnc xsd xlr xls xle yms ync ysp ylr yls yle : Int32} {lim dl n nc : Nat} {kn : Nat → Nat} {xno xsk xrt xsj nK nA nB nL nR ysk tS tG : Nat → Int32}
variable {xst xnw xtc xtu xtn xcu xtd xtt xsr yfc yst ycf yev yfr ydo : Int32} {xtx xtl xcr eN eC eD eT eH eR tE tN fN fC fD fS fA fB fO fP fL fM : Nat → Int32}
variable {P K : Nat} {G : Nat → Nat → Nat}

theorem sm_2pass (cx : sm_cx n nc kn xno xrt nK nA nB nL nR) (hlim : lim ≤ 250) (ih : sm_IH xms xnc xsd xlr xls xle yms ync ysp ylr yls yle lim dl n nc kn xno xsk xrt xsj nK nA nB nL nR ysk tS tG P) (vk : sm_vok xtx xtl)
    {f q : Nat} (hK : K ≤ lim) (I : sm_inv K n G) (Y : sm_Y K G fN fC fD fS fA fB fO fP fL fM) (T : sm_T G tE tN) (N : sm_N K nc kn G) (E : sm_e2 K G (f + 1)) (hq : G 4 (f + 1) = q + 1)
    (X : sm_X K G eN eC eD eT eH eR) (hP : (G 2 (q + 1) < G 12 (f + 1) ∧ (250 - K) * 1300 + G 20 (q + 1) + 1 ≤ P) ∨ (250 - K) * 1300 + G 20 (q + 1) + 1021 ≤ P) (k0 : G 1 (q + 1) = 12 ∨ G 1 (q + 1) = 18) (s0 : sm_s0 G (f + 1) (q + 1)) :
    sm_fin xms xnc xsd xlr xls xle yms ync ysp ylr yls yle lim dl n nc kn xno xsk xrt xsj nK nA nB nL nR ysk tS tG P (xms, nI lim, nI dl, xnc, xsd, nI n, xlr, xls, xle, nI K, sm_p (G 18 (f + 1)), nI (G 19 (f + 1)), 1, xtn, nI (G 12 (f + 1)), xtd, sm_p (G 6 (q + 1)), 3, xno, xsk, xrt, xsj, xtx, xtl, xcr, eN, eC, eD, eT, eH, eR, tE, tN) (yms, nI lim, nI dl, ync, ysp, nI n, ylr, yls, yle, nI K, nI K, nI q, 2, nI f, 0, nK, nA, nB, nL, nR, ysk, xrt, xsj, xtx, xtl, xcr, fN, fC, fD, fS, fA, fB, fO, fP, fL, fM, tS, tG) := by
  have lf := E.2.1
  have zf := E.2.2.1
  have hif := E.2.2.2.1
  have op := E.2.2.2.2.1
  rw [hq] at op
  have fK : f + 1 ≤ K := (I.2.1 _ lf).1
  have Lf := I.2.2.1 (f + 1) (Nat.succ_pos f) lf
  rw [hq] at Lf
  have lp := Lf.2.1
  have B := I.2.1 _ lp
  have qf : q + 1 < f + 1 := Lf.1
  have qK1 : q + 1 ≤ K := B.1
  have qK : q < K := B.1
  have K256 : K < 256 := Nat.lt_of_le_of_lt (Nat.le_trans hK hlim) (by decide)
  have q250 : q < 250 := Nat.lt_of_lt_of_le qK (Nat.le_trans hK hlim)
  have q256 : q < 256 := Nat.lt_trans q250 (by decide)
  have f256 : f < 256 := Nat.lt_of_lt_of_le (Nat.lt_of_lt_of_le fK (Nat.le_trans hK hlim)) (by decide)
  have P1 : P - 1 < P := sm_k2 (d' := 0) hP
  have Z := I.2.2.2.1 _ lf zf
  have v1 := Z.2.2.2.1
  have v2 := Z.2.2.2.2.1
  have hnd := (N.2 (q + 1) (Nat.succ_pos q) qK1).1
  have hkd := (N.2 (q + 1) (Nat.succ_pos q) qK1).2.1
  have hd8 := (N.2 (q + 1) (Nat.succ_pos q) qK1).2.2
  have D := cx.2.2.1 _ hnd
  have c16 := cx.2.1
  have i32 : G 0 (q + 1) < 32 := Nat.lt_of_lt_of_le hnd cx.1
  have y1 : fN q = nI (G 0 (q + 1)) := Y.1 q qK
  have y2 : fC q = nI (G 2 (q + 1)) := Y.2.1 q qK
  have y3 : fD q = nI (G 3 (q + 1)) := Y.2.2.1 q qK
  have y5 : fA q = sm_p (G 10 (q + 1)) := Y.2.2.2.2.1 q qK
  have y6 : fB q = sm_p (G 11 (q + 1)) := Y.2.2.2.2.2.1 q qK
  have y7 : fO f = nI (G 12 (f + 1)) := Y.2.2.2.2.2.2.1 (f + 1) (Nat.succ_pos f) lf zf
  have y8 : fP q = sm_p (G 4 (q + 1)) := Y.2.2.2.2.2.2.2.1 q qK
  have hkk : nK (G 0 (q + 1)) = nI (G 1 (q + 1)) := by rw [hkd]; exact D.1
  have hx0 : xno (5 * G 0 (q + 1)) = nI (G 1 (q + 1)) := D.2.2.2.1.trans hkk
  have x1 : eN q = nI (G 0 (q + 1)) := X.1 q qK
  have x2 : eC q = nI (sm_ec G (q + 1)) := X.2.1 q qK
  rw [sm_ne10 (Nat.ne_of_gt (Nat.lt_of_lt_of_le (by decide) Lf.2.2.1))] at x2
  have x3 : eD q = nI (G 3 (q + 1)) := X.2.2.1 q qK
  have x4 : eT q = sm_p (G 6 (q + 1)) := X.2.2.2.1 q qK
  have x5 : eH q = sm_p (G 7 (q + 1)) := X.2.2.2.2.1 q qK
  have Lp := I.2.2.1 (q + 1) (Nat.succ_pos q) lp
  have pq : ∀ p, G 4 (q + 1) = p + 1 → p < 1000 := fun p hp => sm_n3 qK1 (Nat.le_trans hK hlim) Lp.1 hp
  have cm := sm_ccm (f := q + 1) I (Nat.succ_pos q) Lp
  have c2 := s0.2.1
  have c4 := s0.2.2.2.1
  rw [c2] at y5
  have kne : G 1 (q + 1) ≠ 16 := by omega
  obtain ⟨H, I1, E1, Y1, T1, N1, ge, go, ga, gt, gd⟩ := sm_TP (la := (f + 1)) (lb := 0) (a := (G 18 (f + 1))) (t := (G 19 (f + 1))) (fL' := upd fL q (nI f)) (fM' := fM) (tE' := tE) (tN' := tN) I E Y T N hq (Or.inl ⟨s0.1, by omega, rfl, rfl, Or.inr ⟨by omega, rfl⟩, Or.inr ⟨kne, rfl⟩⟩) (by rw [sm_ps]) (Or.inl ⟨rfl, rfl⟩) (Or.inl ⟨kne, rfl, rfl⟩)
  have X1 : sm_X K H eN eC eD eT eH eR := sm_X_s X ge
  have bd := sm_k3 hP Lp.2.2.2.1 cm
  rw [← gd, ← ge 4 (by decide), ← ge 2 (by decide), ← go] at bd
  by_cases z : G 4 (q + 1) = 0
  · rw [z, sm_p0] at y8
    exact sm_fin_y (P' := P - 1) (v1 := (yms, nI lim, nI dl, ync, ysp, nI n, ylr, yls, yle, nI K, nI K, nI q, 2, nI f, 1, nK, nA, nB, nL, nR, ysk, xrt, xsj, xtx, xtl, xcr, fN, fC, fD, fS, fA, fB, upd fO q (nI (G 12 (f + 1))), fP, upd fL q (nI f), fM, tS, tG)) (fun post m i hi hl => sy_go hi (fun Q hQ => sy_2one q256 y1 i32 hkk y2 y3 (by omega) f256 y7 (Or.inl ⟨y8, hQ⟩)) hl) (ih (P - 1) K H P1 vk ⟨rfl, hK, Or.inr ⟨rfl, rfl, I1, Y1, T1, N1, Or.inr (Or.inr (Or.inl ⟨q, E1, X1, rfl, rfl, by rw [go], by rw [ge 6 (by decide)], by rw [ga], by rw [gt], bd, Or.inl ⟨by rw [ge 4 (by decide)]; exact z, rfl⟩⟩))⟩⟩) P1
  · obtain ⟨p, hp⟩ : ∃ p, G 4 (q + 1) = p + 1 := ⟨G 4 (q + 1) - 1, (Nat.succ_pred_eq_of_ne_zero z).symm⟩
    have p9 := pq p hp
    rw [hp, sm_ps] at y8
    exact sm_fin_y (P' := P - 1) (v1 := (yms, nI lim, nI dl, ync, ysp, nI n, ylr, yls, yle, nI K, nI K, nI p, 2, nI q, 0, nK, nA, nB, nL, nR, ysk, xrt, xsj, xtx, xtl, xcr, fN, fC, fD, fS, fA, fB, upd fO q (nI (G 12 (f + 1))), fP, upd fL q (nI f), fM, tS, tG)) (fun post m i hi hl => sy_go hi (fun Q hQ => sy_2one q256 y1 i32 hkk y2 y3 (by omega) f256 y7 (Or.inr ⟨p, p9, y8, hQ⟩)) hl) (ih (P - 1) K H P1 vk ⟨rfl, hK, Or.inr ⟨rfl, rfl, I1, Y1, T1, N1, Or.inr (Or.inr (Or.inl ⟨q, E1, X1, rfl, rfl, by rw [go], by rw [ge 6 (by decide)], by rw [ga], by rw [gt], bd, Or.inr ⟨p, by rw [ge 4 (by decide)]; exact hp, rfl, rfl, rfl, rfl⟩⟩))⟩⟩) P1
theorem sm_2fence (cx : sm_cx n nc kn xno xrt nK nA nB nL nR) (hlim : lim ≤ 250) (ih : sm_IH xms xnc xsd xlr xls xle yms ync ysp ylr yls yle lim dl n nc kn xno xsk xrt xsj nK nA nB nL nR ysk tS tG P) (vk : sm_vok xtx xtl)
    {f q : Nat} (hK : K ≤ lim) (I : sm_inv K n G) (Y : sm_Y K G fN fC fD fS fA fB fO fP fL fM) (T : sm_T G tE tN) (N : sm_N K nc kn G) (E : sm_e2 K G (f + 1)) (hq : G 4 (f + 1) = q + 1)
    (X : sm_X K G eN eC eD eT eH eR) (hP : (G 2 (q + 1) < G 12 (f + 1) ∧ (250 - K) * 1300 + G 20 (q + 1) + 1 ≤ P) ∨ (250 - K) * 1300 + G 20 (q + 1) + 1021 ≤ P) (k0 : G 1 (q + 1) = 14) (s0 : sm_s0 G (f + 1) (q + 1)) :
    sm_fin xms xnc xsd xlr xls xle yms ync ysp ylr yls yle lim dl n nc kn xno xsk xrt xsj nK nA nB nL nR ysk tS tG P (xms, nI lim, nI dl, xnc, xsd, nI n, xlr, xls, xle, nI K, sm_p (G 18 (f + 1)), nI (G 19 (f + 1)), 1, xtn, nI (G 12 (f + 1)), xtd, nI q, 3, xno, xsk, xrt, xsj, xtx, xtl, xcr, eN, eC, eD, eT, eH, eR, tE, tN) (yms, nI lim, nI dl, ync, ysp, nI n, ylr, yls, yle, nI K, nI K, nI q, 2, nI f, 0, nK, nA, nB, nL, nR, ysk, xrt, xsj, xtx, xtl, xcr, fN, fC, fD, fS, fA, fB, fO, fP, fL, fM, tS, tG) := by
  have lf := E.2.1
  have zf := E.2.2.1
  have hif := E.2.2.2.1
  have op := E.2.2.2.2.1
  rw [hq] at op
  have fK : f + 1 ≤ K := (I.2.1 _ lf).1
  have Lf := I.2.2.1 (f + 1) (Nat.succ_pos f) lf
  rw [hq] at Lf
  have lp := Lf.2.1
  have B := I.2.1 _ lp
  have qf : q + 1 < f + 1 := Lf.1
  have qK1 : q + 1 ≤ K := B.1
  have qK : q < K := B.1
  have K256 : K < 256 := Nat.lt_of_le_of_lt (Nat.le_trans hK hlim) (by decide)
  have q250 : q < 250 := Nat.lt_of_lt_of_le qK (Nat.le_trans hK hlim)
  have q256 : q < 256 := Nat.lt_trans q250 (by decide)
  have f256 : f < 256 := Nat.lt_of_lt_of_le (Nat.lt_of_lt_of_le fK (Nat.le_trans hK hlim)) (by decide)
  have P1 : P - 1 < P := sm_k2 (d' := 0) hP
  have Z := I.2.2.2.1 _ lf zf
  have v1 := Z.2.2.2.1
  have v2 := Z.2.2.2.2.1
  have hnd := (N.2 (q + 1) (Nat.succ_pos q) qK1).1
  have hkd := (N.2 (q + 1) (Nat.succ_pos q) qK1).2.1
  have hd8 := (N.2 (q + 1) (Nat.succ_pos q) qK1).2.2
  have D := cx.2.2.1 _ hnd
  have c16 := cx.2.1
  have i32 : G 0 (q + 1) < 32 := Nat.lt_of_lt_of_le hnd cx.1
  have y1 : fN q = nI (G 0 (q + 1)) := Y.1 q qK
  have y2 : fC q = nI (G 2 (q + 1)) := Y.2.1 q qK
  have y3 : fD q = nI (G 3 (q + 1)) := Y.2.2.1 q qK
  have y5 : fA q = sm_p (G 10 (q + 1)) := Y.2.2.2.2.1 q qK
  have y6 : fB q = sm_p (G 11 (q + 1)) := Y.2.2.2.2.2.1 q qK
  have y7 : fO f = nI (G 12 (f + 1)) := Y.2.2.2.2.2.2.1 (f + 1) (Nat.succ_pos f) lf zf
  have y8 : fP q = sm_p (G 4 (q + 1)) := Y.2.2.2.2.2.2.2.1 q qK
  have hkk : nK (G 0 (q + 1)) = nI (G 1 (q + 1)) := by rw [hkd]; exact D.1
  have hx0 : xno (5 * G 0 (q + 1)) = nI (G 1 (q + 1)) := D.2.2.2.1.trans hkk
  have x1 : eN q = nI (G 0 (q + 1)) := X.1 q qK
  have x2 : eC q = nI (sm_ec G (q + 1)) := X.2.1 q qK
  rw [sm_ne10 (Nat.ne_of_gt (Nat.lt_of_lt_of_le (by decide) Lf.2.2.1))] at x2
  have x3 : eD q = nI (G 3 (q + 1)) := X.2.2.1 q qK
  have x4 : eT q = sm_p (G 6 (q + 1)) := X.2.2.2.1 q qK
  have x5 : eH q = sm_p (G 7 (q + 1)) := X.2.2.2.2.1 q qK
  have Lp := I.2.2.1 (q + 1) (Nat.succ_pos q) lp
  have pq : ∀ p, G 4 (q + 1) = p + 1 → p < 1000 := fun p hp => sm_n3 qK1 (Nat.le_trans hK hlim) Lp.1 hp
  have cm := sm_ccm (f := q + 1) I (Nat.succ_pos q) Lp
  have c2 := s0.2.1
  have c4 := s0.2.2.2.1
  rw [c2] at y5
  have kne : G 1 (q + 1) ≠ 16 := by omega
  obtain ⟨H, I1, E1, Y1, T1, N1, ge, go, ga, gt, gd⟩ := sm_TP (la := (f + 1)) (lb := 0) (a := (G 7 (q + 1))) (t := (G 19 (f + 1))) (fL' := upd fL q (nI f)) (fM' := fM) (tE' := tE) (tN' := tN) I E Y T N hq (Or.inl ⟨s0.1, by omega, rfl, rfl, Or.inl ⟨k0, rfl⟩, Or.inr ⟨kne, rfl⟩⟩) (by rw [sm_ps]) (Or.inl ⟨rfl, rfl⟩) (Or.inl ⟨kne, rfl, rfl⟩)
  have X1 : sm_X K H eN eC eD eT eH eR := sm_X_s X ge
  have bd := sm_k3 hP Lp.2.2.2.1 cm
  rw [← gd, ← ge 4 (by decide), ← ge 2 (by decide), ← go] at bd
  by_cases z : G 4 (q + 1) = 0
  · rw [z, sm_p0] at y8
    exact sm_fin_xy (P' := P - 1) (u1 := (xms, nI lim, nI dl, xnc, xsd, nI n, xlr, xls, xle, nI K, sm_p (G 7 (q + 1)), nI (G 19 (f + 1)), 1, xtn, nI (G 12 (f + 1)), xtd, sm_p (G 6 (q + 1)), 3, xno, xsk, xrt, xsj, xtx, xtl, xcr, eN, eC, eD, eT, eH, eR, tE, tN)) (v1 := (yms, nI lim, nI dl, ync, ysp, nI n, ylr, yls, yle, nI K, nI K, nI q, 2, nI f, 1, nK, nA, nB, nL, nR, ysk, xrt, xsj, xtx, xtl, xcr, fN, fC, fD, fS, fA, fB, upd fO q (nI (G 12 (f + 1))), fP, upd fL q (nI f), fM, tS, tG)) (fun post m i hi hl => sx_go1 hi (fun Q hQ => sx_1fence q250 x1 i32 hx0 x2 x4 k0 x5 hQ) hl) (fun post m i hi hl => sy_go hi (fun Q hQ => sy_2one q256 y1 i32 hkk y2 y3 (by omega) f256 y7 (Or.inl ⟨y8, hQ⟩)) hl) (ih (P - 1) K H P1 vk ⟨rfl, hK, Or.inr ⟨rfl, rfl, I1, Y1, T1, N1, Or.inr (Or.inr (Or.inl ⟨q, E1, X1, rfl, rfl, by rw [go], by rw [ge 6 (by decide)], by rw [ga], by rw [gt], bd, Or.inl ⟨by rw [ge 4 (by decide)]; exact z, rfl⟩⟩))⟩⟩) P1
  · obtain ⟨p, hp⟩ : ∃ p, G 4 (q + 1) = p + 1 := ⟨G 4 (q + 1) - 1, (Nat.succ_pred_eq_of_ne_zero z).symm⟩
    have p9 := pq p hp
    rw [hp, sm_ps] at y8
    exact sm_fin_xy (P' := P - 1) (u1 := (xms, nI lim, nI dl, xnc, xsd, nI n, xlr, xls, xle, nI K, sm_p (G 7 (q + 1)), nI (G 19 (f + 1)), 1, xtn, nI (G 12 (f + 1)), xtd, sm_p (G 6 (q + 1)), 3, xno, xsk, xrt, xsj, xtx, xtl, xcr, eN, eC, eD, eT, eH, eR, tE, tN)) (v1 := (yms, nI lim, nI dl, ync, ysp, nI n, ylr, yls, yle, nI K, nI K, nI p, 2, nI q, 0, nK, nA, nB, nL, nR, ysk, xrt, xsj, xtx, xtl, xcr, fN, fC, fD, fS, fA, fB, upd fO q (nI (G 12 (f + 1))), fP, upd fL q (nI f), fM, tS, tG)) (fun post m i hi hl => sx_go1 hi (fun Q hQ => sx_1fence q250 x1 i32 hx0 x2 x4 k0 x5 hQ) hl) (fun post m i hi hl => sy_go hi (fun Q hQ => sy_2one q256 y1 i32 hkk y2 y3 (by omega) f256 y7 (Or.inr ⟨p, p9, y8, hQ⟩)) hl) (ih (P - 1) K H P1 vk ⟨rfl, hK, Or.inr ⟨rfl, rfl, I1, Y1, T1, N1, Or.inr (Or.inr (Or.inl ⟨q, E1, X1, rfl, rfl, by rw [go], by rw [ge 6 (by decide)], by rw [ga], by rw [gt], bd, Or.inr ⟨p, by rw [ge 4 (by decide)]; exact hp, rfl, rfl, rfl, rfl⟩⟩))⟩⟩) P1
theorem sm_2cond (cx : sm_cx n nc kn xno xrt nK nA nB nL nR) (hlim : lim ≤ 250) (ih : sm_IH xms xnc xsd xlr xls xle yms ync ysp ylr yls yle lim dl n nc kn xno xsk xrt xsj nK nA nB nL nR ysk tS tG P) (vk : sm_vok xtx xtl)
    {f q : Nat} (hK : K ≤ lim) (I : sm_inv K n G) (Y : sm_Y K G fN fC fD fS fA fB fO fP fL fM) (T : sm_T G tE tN) (N : sm_N K nc kn G) (E : sm_e2 K G (f + 1)) (hq : G 4 (f + 1) = q + 1)
    (X : sm_X K G eN eC eD eT eH eR) (hP : (G 2 (q + 1) < G 12 (f + 1) ∧ (250 - K) * 1300 + G 20 (q + 1) + 1 ≤ P) ∨ (250 - K) * 1300 + G 20 (q + 1) + 1021 ≤ P) (k0 : G 1 (q + 1) = 16) (s0 : sm_s0 G (f + 1) (q + 1)) :
    sm_fin xms xnc xsd xlr xls xle yms ync ysp ylr yls yle lim dl n nc kn xno xsk xrt xsj nK nA nB nL nR ysk tS tG P (xms, nI lim, nI dl, xnc, xsd, nI n, xlr, xls, xle, nI K, sm_p (G 18 (f + 1)), nI (G 19 (f + 1)), 1, xtn, nI (G 12 (f + 1)), xtd, nI q, 3, xno, xsk, xrt, xsj, xtx, xtl, xcr, eN, eC, eD, eT, eH, eR, tE, tN) (yms, nI lim, nI dl, ync, ysp, nI n, ylr, yls, yle, nI K, nI K, nI q, 2, nI f, 0, nK, nA, nB, nL, nR, ysk, xrt, xsj, xtx, xtl, xcr, fN, fC, fD, fS, fA, fB, fO, fP, fL, fM, tS, tG) := by
  have lf := E.2.1
  have zf := E.2.2.1
  have hif := E.2.2.2.1
  have op := E.2.2.2.2.1
  rw [hq] at op
  have fK : f + 1 ≤ K := (I.2.1 _ lf).1
  have Lf := I.2.2.1 (f + 1) (Nat.succ_pos f) lf
  rw [hq] at Lf
  have lp := Lf.2.1
  have B := I.2.1 _ lp
  have qf : q + 1 < f + 1 := Lf.1
  have qK1 : q + 1 ≤ K := B.1
  have qK : q < K := B.1
  have K256 : K < 256 := Nat.lt_of_le_of_lt (Nat.le_trans hK hlim) (by decide)
  have q250 : q < 250 := Nat.lt_of_lt_of_le qK (Nat.le_trans hK hlim)
  have q256 : q < 256 := Nat.lt_trans q250 (by decide)
  have f256 : f < 256 := Nat.lt_of_lt_of_le (Nat.lt_of_lt_of_le fK (Nat.le_trans hK hlim)) (by decide)
  have P1 : P - 1 < P := sm_k2 (d' := 0) hP
  have Z := I.2.2.2.1 _ lf zf
  have v1 := Z.2.2.2.1
  have v2 := Z.2.2.2.2.1
  have hnd := (N.2 (q + 1) (Nat.succ_pos q) qK1).1
  have hkd := (N.2 (q + 1) (Nat.succ_pos q) qK1).2.1
  have hd8 := (N.2 (q + 1) (Nat.succ_pos q) qK1).2.2
  have D := cx.2.2.1 _ hnd
  have c16 := cx.2.1
  have i32 : G 0 (q + 1) < 32 := Nat.lt_of_lt_of_le hnd cx.1
  have y1 : fN q = nI (G 0 (q + 1)) := Y.1 q qK
  have y2 : fC q = nI (G 2 (q + 1)) := Y.2.1 q qK
  have y3 : fD q = nI (G 3 (q + 1)) := Y.2.2.1 q qK
  have y5 : fA q = sm_p (G 10 (q + 1)) := Y.2.2.2.2.1 q qK
  have y6 : fB q = sm_p (G 11 (q + 1)) := Y.2.2.2.2.2.1 q qK
  have y7 : fO f = nI (G 12 (f + 1)) := Y.2.2.2.2.2.2.1 (f + 1) (Nat.succ_pos f) lf zf
  have y8 : fP q = sm_p (G 4 (q + 1)) := Y.2.2.2.2.2.2.2.1 q qK
  have hkk : nK (G 0 (q + 1)) = nI (G 1 (q + 1)) := by rw [hkd]; exact D.1
  have hx0 : xno (5 * G 0 (q + 1)) = nI (G 1 (q + 1)) := D.2.2.2.1.trans hkk
  have x1 : eN q = nI (G 0 (q + 1)) := X.1 q qK
  have x2 : eC q = nI (sm_ec G (q + 1)) := X.2.1 q qK
  rw [sm_ne10 (Nat.ne_of_gt (Nat.lt_of_lt_of_le (by decide) Lf.2.2.1))] at x2
  have x3 : eD q = nI (G 3 (q + 1)) := X.2.2.1 q qK
  have x4 : eT q = sm_p (G 6 (q + 1)) := X.2.2.2.1 q qK
  have x5 : eH q = sm_p (G 7 (q + 1)) := X.2.2.2.2.1 q qK
  have Lp := I.2.2.1 (q + 1) (Nat.succ_pos q) lp
  have pq : ∀ p, G 4 (q + 1) = p + 1 → p < 1000 := fun p hp => sm_n3 qK1 (Nat.le_trans hK hlim) Lp.1 hp
  have cm := sm_ccm (f := q + 1) I (Nat.succ_pos q) Lp
  have c2 := s0.2.1
  have c4 := s0.2.2.2.1
  rw [c2] at y5
  have t250 : G 19 (f + 1) < 250 := by
    have z3 := Z.2.2.1
    have s3 := s0.2.2.1
    have b2 := B.2.1
    omega
  obtain ⟨H, I1, E1, Y1, T1, N1, ge, go, ga, gt, gd⟩ := sm_TP (la := (f + 1)) (lb := 0) (a := (G 18 (f + 1))) (t := (G 19 (f + 1) + 1)) (fL' := upd fL q (nI f)) (fM' := fM) (tE' := upd tE (G 19 (f + 1)) (nI q)) (tN' := upd tN (G 19 (f + 1)) (nI (G 12 (f + 1)))) I E Y T N hq (Or.inl ⟨s0.1, by omega, rfl, rfl, Or.inr ⟨by omega, rfl⟩, Or.inl ⟨k0, rfl⟩⟩) (by rw [sm_ps]) (Or.inl ⟨rfl, rfl⟩) (Or.inr ⟨rfl, rfl⟩)
  have X1 : sm_X K H eN eC eD eT eH eR := sm_X_s X ge
  have bd := sm_k3 hP Lp.2.2.2.1 cm
  rw [← gd, ← ge 4 (by decide), ← ge 2 (by decide), ← go] at bd
  by_cases z : G 4 (q + 1) = 0
  · rw [z, sm_p0] at y8
    exact sm_fin_xy (P' := P - 1) (u1 := (xms, nI lim, nI dl, xnc, xsd, nI n, xlr, xls, xle, nI K, sm_p (G 18 (f + 1)), nI (G 19 (f + 1) + 1), 1, xtn, nI (G 12 (f + 1)), xtd, sm_p (G 6 (q + 1)), 3, xno, xsk, xrt, xsj, xtx, xtl, xcr, eN, eC, eD, eT, eH, eR, upd tE (G 19 (f + 1)) (nI q), upd tN (G 19 (f + 1)) (nI (G 12 (f + 1))))) (v1 := (yms, nI lim, nI dl, ync, ysp, nI n, ylr, yls, yle, nI K, nI K, nI q, 2, nI f, 1, nK, nA, nB, nL, nR, ysk, xrt, xsj, xtx, xtl, xcr, fN, fC, fD, fS, fA, fB, upd fO q (nI (G 12 (f + 1))), fP, upd fL q (nI f), fM, tS, tG)) (fun post m i hi hl => sx_go1 hi (fun Q hQ => sx_1cond q250 x1 i32 hx0 x2 x4 k0 t250 hQ) hl) (fun post m i hi hl => sy_go hi (fun Q hQ => sy_2one q256 y1 i32 hkk y2 y3 (by omega) f256 y7 (Or.inl ⟨y8, hQ⟩)) hl) (ih (P - 1) K H P1 vk ⟨rfl, hK, Or.inr ⟨rfl, rfl, I1, Y1, T1, N1, Or.inr (Or.inr (Or.inl ⟨q, E1, X1, rfl, rfl, by rw [go], by rw [ge 6 (by decide)], by rw [ga], by rw [gt], bd, Or.inl ⟨by rw [ge 4 (by decide)]; exact z, rfl⟩⟩))⟩⟩) P1
  · obtain ⟨p, hp⟩ : ∃ p, G 4 (q + 1) = p + 1 := ⟨G 4 (q + 1) - 1, (Nat.succ_pred_eq_of_ne_zero z).symm⟩
    have p9 := pq p hp
    rw [hp, sm_ps] at y8
    exact sm_fin_xy (P' := P - 1) (u1 := (xms, nI lim, nI dl, xnc, xsd, nI n, xlr, xls, xle, nI K, sm_p (G 18 (f + 1)), nI (G 19 (f + 1) + 1), 1, xtn, nI (G 12 (f + 1)), xtd, sm_p (G 6 (q + 1)), 3, xno, xsk, xrt, xsj, xtx, xtl, xcr, eN, eC, eD, eT, eH, eR, upd tE (G 19 (f + 1)) (nI q), upd tN (G 19 (f + 1)) (nI (G 12 (f + 1))))) (v1 := (yms, nI lim, nI dl, ync, ysp, nI n, ylr, yls, yle, nI K, nI K, nI p, 2, nI q, 0, nK, nA, nB, nL, nR, ysk, xrt, xsj, xtx, xtl, xcr, fN, fC, fD, fS, fA, fB, upd fO q (nI (G 12 (f + 1))), fP, upd fL q (nI f), fM, tS, tG)) (fun post m i hi hl => sx_go1 hi (fun Q hQ => sx_1cond q250 x1 i32 hx0 x2 x4 k0 t250 hQ) hl) (fun post m i hi hl => sy_go hi (fun Q hQ => sy_2one q256 y1 i32 hkk y2 y3 (by omega) f256 y7 (Or.inr ⟨p, p9, y8, hQ⟩)) hl) (ih (P - 1) K H P1 vk ⟨rfl, hK, Or.inr ⟨rfl, rfl, I1, Y1, T1, N1, Or.inr (Or.inr (Or.inl ⟨q, E1, X1, rfl, rfl, by rw [go], by rw [ge 6 (by decide)], by rw [ga], by rw [gt], bd, Or.inr ⟨p, by rw [ge 4 (by decide)]; exact hp, rfl, rfl, rfl, rfl⟩⟩))⟩⟩) P1
theorem sm_2imm (cx : sm_cx n nc kn xno xrt nK nA nB nL nR) (hlim : lim ≤ 250) (ih : sm_IH xms xnc xsd xlr xls xle yms ync ysp ylr yls yle lim dl n nc kn xno xsk xrt xsj nK nA nB nL nR ysk tS tG P) (vk : sm_vok xtx xtl)
    {f q : Nat} (hK : K ≤ lim) (I : sm_inv K n G) (Y : sm_Y K G fN fC fD fS fA fB fO fP fL fM) (T : sm_T G tE tN) (N : sm_N K nc kn G) (E : sm_e2 K G (f + 1)) (hq : G 4 (f + 1) = q + 1)
    (X : sm_X K G eN eC eD eT eH eR) (hP : (G 2 (q + 1) < G 12 (f + 1) ∧ (250 - K) * 1300 + G 20 (q + 1) + 1 ≤ P) ∨ (250 - K) * 1300 + G 20 (q + 1) + 1021 ≤ P) (k0 : G 1 (q + 1) = 15) (s0 : sm_s0 G (f + 1) (q + 1)) (sj : sm_ch xsj 16) :
    sm_fin xms xnc xsd xlr xls xle yms ync ysp ylr yls yle lim dl n nc kn xno xsk xrt xsj nK nA nB nL nR ysk tS tG P (xms, nI lim, nI dl, xnc, xsd, nI n, xlr, xls, xle, nI K, sm_p (G 18 (f + 1)), nI (G 19 (f + 1)), 1, xtn, nI (G 12 (f + 1)), xtd, nI q, 3, xno, xsk, xrt, xsj, xtx, xtl, xcr, eN, eC, eD, eT, eH, eR, tE, tN) (yms, nI lim, nI dl, ync, ysp, nI n, ylr, yls, yle, nI K, nI K, nI q, 2, nI f, 0, nK, nA, nB, nL, nR, ysk, xrt, xsj, xtx, xtl, xcr, fN, fC, fD, fS, fA, fB, fO, fP, fL, fM, tS, tG) := by
  have lf := E.2.1
  have zf := E.2.2.1
  have hif := E.2.2.2.1
  have op := E.2.2.2.2.1
  rw [hq] at op
  have fK : f + 1 ≤ K := (I.2.1 _ lf).1
  have Lf := I.2.2.1 (f + 1) (Nat.succ_pos f) lf
  rw [hq] at Lf
  have lp := Lf.2.1
  have B := I.2.1 _ lp
  have qf : q + 1 < f + 1 := Lf.1
  have qK1 : q + 1 ≤ K := B.1
  have qK : q < K := B.1
  have K256 : K < 256 := Nat.lt_of_le_of_lt (Nat.le_trans hK hlim) (by decide)
  have q250 : q < 250 := Nat.lt_of_lt_of_le qK (Nat.le_trans hK hlim)
  have q256 : q < 256 := Nat.lt_trans q250 (by decide)
  have f256 : f < 256 := Nat.lt_of_lt_of_le (Nat.lt_of_lt_of_le fK (Nat.le_trans hK hlim)) (by decide)
  have P1 : P - 1 < P := sm_k2 (d' := 0) hP
  have Z := I.2.2.2.1 _ lf zf
  have v1 := Z.2.2.2.1
  have v2 := Z.2.2.2.2.1
  have hnd := (N.2 (q + 1) (Nat.succ_pos q) qK1).1
  have hkd := (N.2 (q + 1) (Nat.succ_pos q) qK1).2.1
  have hd8 := (N.2 (q + 1) (Nat.succ_pos q) qK1).2.2
  have D := cx.2.2.1 _ hnd
  have c16 := cx.2.1
  have i32 : G 0 (q + 1) < 32 := Nat.lt_of_lt_of_le hnd cx.1
  have y1 : fN q = nI (G 0 (q + 1)) := Y.1 q qK
  have y2 : fC q = nI (G 2 (q + 1)) := Y.2.1 q qK
  have y3 : fD q = nI (G 3 (q + 1)) := Y.2.2.1 q qK
  have y5 : fA q = sm_p (G 10 (q + 1)) := Y.2.2.2.2.1 q qK
  have y6 : fB q = sm_p (G 11 (q + 1)) := Y.2.2.2.2.2.1 q qK
  have y7 : fO f = nI (G 12 (f + 1)) := Y.2.2.2.2.2.2.1 (f + 1) (Nat.succ_pos f) lf zf
  have y8 : fP q = sm_p (G 4 (q + 1)) := Y.2.2.2.2.2.2.2.1 q qK
  have hkk : nK (G 0 (q + 1)) = nI (G 1 (q + 1)) := by rw [hkd]; exact D.1
  have hx0 : xno (5 * G 0 (q + 1)) = nI (G 1 (q + 1)) := D.2.2.2.1.trans hkk
  have x1 : eN q = nI (G 0 (q + 1)) := X.1 q qK
  have x2 : eC q = nI (sm_ec G (q + 1)) := X.2.1 q qK
  rw [sm_ne10 (Nat.ne_of_gt (Nat.lt_of_lt_of_le (by decide) Lf.2.2.1))] at x2
  have x3 : eD q = nI (G 3 (q + 1)) := X.2.2.1 q qK
  have x4 : eT q = sm_p (G 6 (q + 1)) := X.2.2.2.1 q qK
  have x5 : eH q = sm_p (G 7 (q + 1)) := X.2.2.2.2.1 q qK
  have Lp := I.2.2.1 (q + 1) (Nat.succ_pos q) lp
  have pq : ∀ p, G 4 (q + 1) = p + 1 → p < 1000 := fun p hp => sm_n3 qK1 (Nat.le_trans hK hlim) Lp.1 hp
  have cm := sm_ccm (f := q + 1) I (Nat.succ_pos q) Lp
  have c2 := s0.2.1
  have c4 := s0.2.2.2.1
  rw [c2] at y5
  have kne : G 1 (q + 1) ≠ 16 := by omega
  obtain ⟨a, ha, hA⟩ := sm_nd10 D (by rw [← hkd]; omega)
  have cv : G 2 (q + 1) ≤ G 12 (f + 1) := by omega
  have v16 : G 12 (f + 1) ≤ 16 := by omega
  obtain ⟨H, I1, E1, Y1, T1, N1, ge, go, ga, gt, gd⟩ := sm_TP (la := (f + 1)) (lb := 0) (a := (G 18 (f + 1))) (t := (G 19 (f + 1))) (fL' := upd fL q (nI f)) (fM' := fM) (tE' := tE) (tN' := tN) I E Y T N hq (Or.inl ⟨s0.1, by omega, rfl, rfl, Or.inr ⟨by omega, rfl⟩, Or.inr ⟨kne, rfl⟩⟩) (by rw [sm_ps]) (Or.inl ⟨rfl, rfl⟩) (Or.inl ⟨kne, rfl, rfl⟩)
  have X1 : sm_X K H eN eC eD eT eH eR := sm_X_s X ge
  have bd := sm_k3 hP Lp.2.2.2.1 cm
  rw [← gd, ← ge 4 (by decide), ← ge 2 (by decide), ← go] at bd
  by_cases z : G 4 (q + 1) = 0
  · rw [z, sm_p0] at y8
    exact sm_fin_xy (P' := P - 1) (u1 := (xms, nI lim, nI dl, xnc, xsd, nI n, xlr, xls, xle, nI K, sm_p (G 18 (f + 1)), nI (G 19 (f + 1)), 1, xtn, nI (G 12 (f + 1)), xtd, sm_p (G 6 (q + 1)), 3, xno, xsk, xrt, xsj, sm_put xsj xtx a (G 2 (q + 1)) (G 12 (f + 1) - G 2 (q + 1)), upd xtl a (nI (G 12 (f + 1) - G 2 (q + 1))), xcr, eN, eC, eD, eT, eH, eR, tE, tN)) (v1 := (yms, nI lim, nI dl, ync, ysp, nI n, ylr, yls, yle, nI K, nI K, nI q, 2, nI f, 1, nK, nA, nB, nL, nR, ysk, xrt, xsj, sm_put xsj xtx a (G 2 (q + 1)) (G 12 (f + 1) - G 2 (q + 1)), upd xtl a (nI (G 12 (f + 1) - G 2 (q + 1))), xcr, fN, fC, fD, fS, fA, fB, upd fO q (nI (G 12 (f + 1))), fP, upd fL q (nI f), fM, tS, tG)) (fun post m i hi hl => sx_go1 hi (fun Q hQ => sx_1imm q250 x1 i32 hx0 x2 x4 k0 ha (D.2.2.2.2.1.trans hA) cv v16 hQ) hl) (fun post m i hi hl => sy_go hi (fun Q hQ => sy_2imm q256 y1 i32 hkk y2 y3 k0 f256 y7 ha hA cv v2 c16 (Or.inl ⟨y8, hQ⟩)) hl) (ih (P - 1) K H P1 (sm_put_ok sj vk ha cv v16) ⟨rfl, hK, Or.inr ⟨rfl, rfl, I1, Y1, T1, N1, Or.inr (Or.inr (Or.inl ⟨q, E1, X1, rfl, rfl, by rw [go], by rw [ge 6 (by decide)], by rw [ga], by rw [gt], bd, Or.inl ⟨by rw [ge 4 (by decide)]; exact z, rfl⟩⟩))⟩⟩) P1
  · obtain ⟨p, hp⟩ : ∃ p, G 4 (q + 1) = p + 1 := ⟨G 4 (q + 1) - 1, (Nat.succ_pred_eq_of_ne_zero z).symm⟩
    have p9 := pq p hp
    rw [hp, sm_ps] at y8
    exact sm_fin_xy (P' := P - 1) (u1 := (xms, nI lim, nI dl, xnc, xsd, nI n, xlr, xls, xle, nI K, sm_p (G 18 (f + 1)), nI (G 19 (f + 1)), 1, xtn, nI (G 12 (f + 1)), xtd, sm_p (G 6 (q + 1)), 3, xno, xsk, xrt, xsj, sm_put xsj xtx a (G 2 (q + 1)) (G 12 (f + 1) - G 2 (q + 1)), upd xtl a (nI (G 12 (f + 1) - G 2 (q + 1))), xcr, eN, eC, eD, eT, eH, eR, tE, tN)) (v1 := (yms, nI lim, nI dl, ync, ysp, nI n, ylr, yls, yle, nI K, nI K, nI p, 2, nI q, 0, nK, nA, nB, nL, nR, ysk, xrt, xsj, sm_put xsj xtx a (G 2 (q + 1)) (G 12 (f + 1) - G 2 (q + 1)), upd xtl a (nI (G 12 (f + 1) - G 2 (q + 1))), xcr, fN, fC, fD, fS, fA, fB, upd fO q (nI (G 12 (f + 1))), fP, upd fL q (nI f), fM, tS, tG)) (fun post m i hi hl => sx_go1 hi (fun Q hQ => sx_1imm q250 x1 i32 hx0 x2 x4 k0 ha (D.2.2.2.2.1.trans hA) cv v16 hQ) hl) (fun post m i hi hl => sy_go hi (fun Q hQ => sy_2imm q256 y1 i32 hkk y2 y3 k0 f256 y7 ha hA cv v2 c16 (Or.inr ⟨p, p9, y8, hQ⟩)) hl) (ih (P - 1) K H P1 (sm_put_ok sj vk ha cv v16) ⟨rfl, hK, Or.inr ⟨rfl, rfl, I1, Y1, T1, N1, Or.inr (Or.inr (Or.inl ⟨q, E1, X1, rfl, rfl, by rw [go], by rw [ge 6 (by decide)], by rw [ga], by rw [gt], bd, Or.inr ⟨p, by rw [ge 4 (by decide)]; exact hp, rfl, rfl, rfl, rfl⟩⟩))⟩⟩) P1
theorem sm_2two (cx : sm_cx n nc kn xno xrt nK nA nB nL nR) (hlim : lim ≤ 250) (ih : sm_IH xms xnc xsd xlr xls xle yms ync ysp ylr yls yle lim dl n nc kn xno xsk xrt xsj nK nA nB nL nR ysk tS tG P) (vk : sm_vok xtx xtl)
    {f q : Nat} (hK : K ≤ lim) (I : sm_inv K n G) (Y : sm_Y K G fN fC fD fS fA fB fO fP fL fM) (T : sm_T G tE tN) (N : sm_N K nc kn G) (E : sm_e2 K G (f + 1)) (hq : G 4 (f + 1) = q + 1)
    (X : sm_X K G eN eC eD eT eH eR) (hP : (G 2 (q + 1) < G 12 (f + 1) ∧ (250 - K) * 1300 + G 20 (q + 1) + 1 ≤ P) ∨ (250 - K) * 1300 + G 20 (q + 1) + 1021 ≤ P) (k0 : G 1 (q + 1) = 17 ∨ G 1 (q + 1) = 13) (s1 : sm_s1 G (f + 1) (q + 1)) :
    sm_fin xms xnc xsd xlr xls xle yms ync ysp ylr yls yle lim dl n nc kn xno xsk xrt xsj nK nA nB nL nR ysk tS tG P (xms, nI lim, nI dl, xnc, xsd, nI n, xlr, xls, xle, nI K, sm_p (G 18 (f + 1)), nI (G 19 (f + 1)), 1, xtn, nI (G 12 (f + 1)), xtd, sm_p (G 6 (q + 1)), 3, xno, xsk, xrt, xsj, xtx, xtl, xcr, eN, eC, eD, eT, eH, eR, tE, tN) (yms, nI lim, nI dl, ync, ysp, nI n, ylr, yls, yle, nI K, nI K, nI q, 2, nI f, 0, nK, nA, nB, nL, nR, ysk, xrt, xsj, xtx, xtl, xcr, fN, fC, fD, fS, fA, fB, fO, fP, fL, fM, tS, tG) := by
  have lf := E.2.1
  have zf := E.2.2.1
  have hif := E.2.2.2.1
  have op := E.2.2.2.2.1
  rw [hq] at op
  have fK : f + 1 ≤ K := (I.2.1 _ lf).1
  have Lf := I.2.2.1 (f + 1) (Nat.succ_pos f) lf
  rw [hq] at Lf
  have lp := Lf.2.1
  have B := I.2.1 _ lp
  have qf : q + 1 < f + 1 := Lf.1
  have qK1 : q + 1 ≤ K := B.1
  have qK : q < K := B.1
  have K256 : K < 256 := Nat.lt_of_le_of_lt (Nat.le_trans hK hlim) (by decide)
  have q250 : q < 250 := Nat.lt_of_lt_of_le qK (Nat.le_trans hK hlim)
  have q256 : q < 256 := Nat.lt_trans q250 (by decide)
  have f256 : f < 256 := Nat.lt_of_lt_of_le (Nat.lt_of_lt_of_le fK (Nat.le_trans hK hlim)) (by decide)
  have P1 : P - 1 < P := sm_k2 (d' := 0) hP
  have Z := I.2.2.2.1 _ lf zf
  have v1 := Z.2.2.2.1
  have v2 := Z.2.2.2.2.1
  have hnd := (N.2 (q + 1) (Nat.succ_pos q) qK1).1
  have hkd := (N.2 (q + 1) (Nat.succ_pos q) qK1).2.1
  have hd8 := (N.2 (q + 1) (Nat.succ_pos q) qK1).2.2
  have D := cx.2.2.1 _ hnd
  have c16 := cx.2.1
  have i32 : G 0 (q + 1) < 32 := Nat.lt_of_lt_of_le hnd cx.1
  have y1 : fN q = nI (G 0 (q + 1)) := Y.1 q qK
  have y2 : fC q = nI (G 2 (q + 1)) := Y.2.1 q qK
  have y3 : fD q = nI (G 3 (q + 1)) := Y.2.2.1 q qK
  have y5 : fA q = sm_p (G 10 (q + 1)) := Y.2.2.2.2.1 q qK
  have y6 : fB q = sm_p (G 11 (q + 1)) := Y.2.2.2.2.2.1 q qK
  have y7 : fO f = nI (G 12 (f + 1)) := Y.2.2.2.2.2.2.1 (f + 1) (Nat.succ_pos f) lf zf
  have y8 : fP q = sm_p (G 4 (q + 1)) := Y.2.2.2.2.2.2.2.1 q qK
  have hkk : nK (G 0 (q + 1)) = nI (G 1 (q + 1)) := by rw [hkd]; exact D.1
  have hx0 : xno (5 * G 0 (q + 1)) = nI (G 1 (q + 1)) := D.2.2.2.1.trans hkk
  have x1 : eN q = nI (G 0 (q + 1)) := X.1 q qK
  have x2 : eC q = nI (sm_ec G (q + 1)) := X.2.1 q qK
  rw [sm_ne10 (Nat.ne_of_gt (Nat.lt_of_lt_of_le (by decide) Lf.2.2.1))] at x2
  have x3 : eD q = nI (G 3 (q + 1)) := X.2.2.1 q qK
  have x4 : eT q = sm_p (G 6 (q + 1)) := X.2.2.2.1 q qK
  have x5 : eH q = sm_p (G 7 (q + 1)) := X.2.2.2.2.1 q qK
  have Lp := I.2.2.1 (q + 1) (Nat.succ_pos q) lp
  have pq : ∀ p, G 4 (q + 1) = p + 1 → p < 1000 := fun p hp => sm_n3 qK1 (Nat.le_trans hK hlim) Lp.1 hp
  have cm := sm_ccm (f := q + 1) I (Nat.succ_pos q) Lp
  obtain ⟨d1, d2, d3, d4, d5, d6, d7, d8, d9, d10, d11, d12, d13⟩ := s1
  have kne : G 1 (q + 1) ≠ 16 := by omega
  have zA := (I.2.2.2.1 _ d4 d5).1
  have ne : f + 1 ≠ G 10 (q + 1) := by omega
  have a1000 : G 10 (q + 1) < 1000 := by omega
  rw [d3] at y6
  obtain ⟨H, I1, E1, Y1, T1, N1, ge, go, ga, gt, gd⟩ := sm_TP (la := (G 10 (q + 1))) (lb := (f + 1)) (a := (G 18 (f + 1))) (t := (G 19 (f + 1))) (fL' := upd fL q (sm_p (G 10 (q + 1)))) (fM' := upd fM q (sm_p (f + 1))) (tE' := tE) (tN' := tN) I E Y T N hq (Or.inr ⟨d1, rfl, rfl, rfl, rfl⟩) rfl (Or.inr rfl) (Or.inl ⟨kne, rfl, rfl⟩)
  have X1 : sm_X K H eN eC eD eT eH eR := sm_X_s X ge
  have bd := sm_k3 hP Lp.2.2.2.1 cm
  rw [← gd, ← ge 4 (by decide), ← ge 2 (by decide), ← go] at bd
  by_cases z : G 4 (q + 1) = 0
  · rw [z, sm_p0] at y8
    exact sm_fin_y (P' := P - 1) (v1 := (yms, nI lim, nI dl, ync, ysp, nI n, ylr, yls, yle, nI K, nI K, nI q, 2, nI f, 1, nK, nA, nB, nL, nR, ysk, xrt, xsj, xtx, xtl, xcr, fN, fC, fD, fS, fA, fB, upd fO q (nI (G 12 (f + 1))), fP, upd fL q (sm_p (G 10 (q + 1))), upd fM q (sm_p (f + 1)), tS, tG)) (fun post m i hi hl => sy_go hi (fun Q hQ => sy_2two q256 y1 i32 hkk y2 y3 k0 f256 y7 y5 a1000 ne y6 (Or.inl ⟨y8, hQ⟩)) hl) (ih (P - 1) K H P1 vk ⟨rfl, hK, Or.inr ⟨rfl, rfl, I1, Y1, T1, N1, Or.inr (Or.inr (Or.inl ⟨q, E1, X1, rfl, rfl, by rw [go], by rw [ge 6 (by decide)], by rw [ga], by rw [gt], bd, Or.inl ⟨by rw [ge 4 (by decide)]; exact z, rfl⟩⟩))⟩⟩) P1
  · obtain ⟨p, hp⟩ : ∃ p, G 4 (q + 1) = p + 1 := ⟨G 4 (q + 1) - 1, (Nat.succ_pred_eq_of_ne_zero z).symm⟩
    have p9 := pq p hp
    rw [hp, sm_ps] at y8
    exact sm_fin_y (P' := P - 1) (v1 := (yms, nI lim, nI dl, ync, ysp, nI n, ylr, yls, yle, nI K, nI K, nI p, 2, nI q, 0, nK, nA, nB, nL, nR, ysk, xrt, xsj, xtx, xtl, xcr, fN, fC, fD, fS, fA, fB, upd fO q (nI (G 12 (f + 1))), fP, upd fL q (sm_p (G 10 (q + 1))), upd fM q (sm_p (f + 1)), tS, tG)) (fun post m i hi hl => sy_go hi (fun Q hQ => sy_2two q256 y1 i32 hkk y2 y3 k0 f256 y7 y5 a1000 ne y6 (Or.inr ⟨p, p9, y8, hQ⟩)) hl) (ih (P - 1) K H P1 vk ⟨rfl, hK, Or.inr ⟨rfl, rfl, I1, Y1, T1, N1, Or.inr (Or.inr (Or.inl ⟨q, E1, X1, rfl, rfl, by rw [go], by rw [ge 6 (by decide)], by rw [ga], by rw [gt], bd, Or.inr ⟨p, by rw [ge 4 (by decide)]; exact hp, rfl, rfl, rfl, rfl⟩⟩))⟩⟩) P1
theorem sm_2cat (cx : sm_cx n nc kn xno xrt nK nA nB nL nR) (hlim : lim ≤ 250) (ih : sm_IH xms xnc xsd xlr xls xle yms ync ysp ylr yls yle lim dl n nc kn xno xsk xrt xsj nK nA nB nL nR ysk tS tG P) (vk : sm_vok xtx xtl)
    {f q : Nat} (hK : K ≤ lim) (I : sm_inv K n G) (Y : sm_Y K G fN fC fD fS fA fB fO fP fL fM) (T : sm_T G tE tN) (N : sm_N K nc kn G) (E : sm_e2 K G (f + 1)) (hq : G 4 (f + 1) = q + 1)
    (X : sm_X K G eN eC eD eT eH eR) (hP : (G 2 (q + 1) < G 12 (f + 1) ∧ (250 - K) * 1300 + G 20 (q + 1) + 1 ≤ P) ∨ (250 - K) * 1300 + G 20 (q + 1) + 1021 ≤ P) (k0 : G 1 (q + 1) = 17) (s0 : sm_s0 G (f + 1) (q + 1)) :
    sm_fin xms xnc xsd xlr xls xle yms ync ysp ylr yls yle lim dl n nc kn xno xsk xrt xsj nK nA nB nL nR ysk tS tG P (xms, nI lim, nI dl, xnc, xsd, nI n, xlr, xls, xle, nI K, sm_p (G 18 (f + 1)), nI (G 19 (f + 1)), 1, xtn, nI (G 12 (f + 1)), xtd, nI q, 3, xno, xsk, xrt, xsj, xtx, xtl, xcr, eN, eC, eD, eT, eH, eR, tE, tN) (yms, nI lim, nI dl, ync, ysp, nI n, ylr, yls, yle, nI K, nI K, nI q, 2, nI f, 0, nK, nA, nB, nL, nR, ysk, xrt, xsj, xtx, xtl, xcr, fN, fC, fD, fS, fA, fB, fO, fP, fL, fM, tS, tG) := by
  have lf := E.2.1
  have zf := E.2.2.1
  have hif := E.2.2.2.1
  have op := E.2.2.2.2.1
  rw [hq] at op
  have fK : f + 1 ≤ K := (I.2.1 _ lf).1
  have Lf := I.2.2.1 (f + 1) (Nat.succ_pos f) lf
  rw [hq] at Lf
  have lp := Lf.2.1
  have B := I.2.1 _ lp
  have qf : q + 1 < f + 1 := Lf.1
  have qK1 : q + 1 ≤ K := B.1
  have qK : q < K := B.1
  have K256 : K < 256 := Nat.lt_of_le_of_lt (Nat.le_trans hK hlim) (by decide)
  have q250 : q < 250 := Nat.lt_of_lt_of_le qK (Nat.le_trans hK hlim)
  have q256 : q < 256 := Nat.lt_trans q250 (by decide)
  have f256 : f < 256 := Nat.lt_of_lt_of_le (Nat.lt_of_lt_of_le fK (Nat.le_trans hK hlim)) (by decide)
  have P1 : P - 1 < P := sm_k2 (d' := 0) hP
  have Z := I.2.2.2.1 _ lf zf
  have v1 := Z.2.2.2.1
  have v2 := Z.2.2.2.2.1
  have hnd := (N.2 (q + 1) (Nat.succ_pos q) qK1).1
  have hkd := (N.2 (q + 1) (Nat.succ_pos q) qK1).2.1
  have hd8 := (N.2 (q + 1) (Nat.succ_pos q) qK1).2.2
  have D := cx.2.2.1 _ hnd
  have c16 := cx.2.1
  have i32 : G 0 (q + 1) < 32 := Nat.lt_of_lt_of_le hnd cx.1
  have y1 : fN q = nI (G 0 (q + 1)) := Y.1 q qK
  have y2 : fC q = nI (G 2 (q + 1)) := Y.2.1 q qK
  have y3 : fD q = nI (G 3 (q + 1)) := Y.2.2.1 q qK
  have y5 : fA q = sm_p (G 10 (q + 1)) := Y.2.2.2.2.1 q qK
  have y6 : fB q = sm_p (G 11 (q + 1)) := Y.2.2.2.2.2.1 q qK
  have y7 : fO f = nI (G 12 (f + 1)) := Y.2.2.2.2.2.2.1 (f + 1) (Nat.succ_pos f) lf zf
  have y8 : fP q = sm_p (G 4 (q + 1)) := Y.2.2.2.2.2.2.2.1 q qK
  have hkk : nK (G 0 (q + 1)) = nI (G 1 (q + 1)) := by rw [hkd]; exact D.1
  have hx0 : xno (5 * G 0 (q + 1)) = nI (G 1 (q + 1)) := D.2.2.2.1.trans hkk
  have x1 : eN q = nI (G 0 (q + 1)) := X.1 q qK
  have x2 : eC q = nI (sm_ec G (q + 1)) := X.2.1 q qK
  rw [sm_ne10 (Nat.ne_of_gt (Nat.lt_of_lt_of_le (by decide) Lf.2.2.1))] at x2
  have x3 : eD q = nI (G 3 (q + 1)) := X.2.2.1 q qK
  have x4 : eT q = sm_p (G 6 (q + 1)) := X.2.2.2.1 q qK
  have x5 : eH q = sm_p (G 7 (q + 1)) := X.2.2.2.2.1 q qK
  have Lp := I.2.2.1 (q + 1) (Nat.succ_pos q) lp
  have pq : ∀ p, G 4 (q + 1) = p + 1 → p < 1000 := fun p hp => sm_n3 qK1 (Nat.le_trans hK hlim) Lp.1 hp
  have cm := sm_ccm (f := q + 1) I (Nat.succ_pos q) Lp
  have c2 := s0.2.1
  have c4 := s0.2.2.2.1
  rw [c2] at y5
  obtain ⟨l, hl1, hl2⟩ := sm_nd13 D (by rw [← hkd]; omega)
  by_cases full : K = lim
  · exact sm_fin_xy (P' := P - 1) (u1 := (xms, nI lim, nI dl, xnc, xsd, nI n, xlr, xls, xle, nI K, sm_p (G 18 (f + 1)), nI (G 19 (f + 1)), 0, nI l, nI (G 12 (f + 1)), nI (G 3 (q + 1)), sm_p (G 6 (q + 1)), 3, xno, xsk, xrt, xsj, xtx, xtl, xcr, eN, eC, eD, eT, eH, eR, tE, tN)) (v1 := (yms, nI lim, nI dl, ync, ysp, nI n, ylr, yls, yle, nI K, nI K, nI q, 2, nI f, 3, nK, nA, nB, nL, nR, ysk, xrt, xsj, xtx, xtl, xcr, fN, fC, fD, fS, fA, fB, fO, fP, fL, fM, tS, tG)) (fun post m i hi hl => sx_go1 hi (fun Q hQ => sx_1cat q250 x1 i32 hx0 x2 x4 k0 x3 (D.2.2.2.2.2.2.2.1.trans hl2) hQ) hl) (fun post m i hi hl => sy_go hi (fun Q hQ => sy_2cat q256 y1 i32 hkk y2 y3 k0 K256 (by omega) hl2 f256 y7 y5 (fun _ => hQ) (fun z => absurd full z)) hl) (ih (P - 1) K G P1 vk ⟨rfl, hK, Or.inl ⟨full, rfl, rfl, by rw [full]⟩⟩) P1
  · obtain ⟨H, I1, E1, Y1, T1, N1, gx, h0, h2, h3, h6, h7, h8⟩ := sm_TB (nd := l) (dd := G 3 (q + 1)) I E Y T N hq s0.1 (by omega) (Nat.lt_trans hl1 hnd) (cx.2.2.1 l (Nat.lt_trans hl1 hnd)).2.2.1 hd8
    exact sm_fin_xy (P' := P - 1) (u1 := (xms, nI lim, nI dl, xnc, xsd, nI n, xlr, xls, xle, nI K, sm_p (G 18 (f + 1)), nI (G 19 (f + 1)), 0, nI l, nI (G 12 (f + 1)), nI (G 3 (q + 1)), sm_p (G 6 (q + 1)), 3, xno, xsk, xrt, xsj, xtx, xtl, xcr, eN, eC, eD, eT, eH, eR, tE, tN)) (v1 := (yms, nI lim, nI dl, ync, ysp, nI n, ylr, yls, yle, nI (K + 1), nI (K + 1), nI K, 0, nI f, 0, nK, nA, nB, nL, nR, ysk, xrt, xsj, xtx, xtl, xcr, upd fN K (nI l), upd fC K (nI (G 12 (f + 1))), upd fD K (nI (G 3 (q + 1))), upd fS K 0, upd fA K (-1), upd (upd fB K (-1)) q (nI K), upd fO K (-1), upd fP K (nI q), upd fL K (-1), upd fM K (-1), tS, tG)) (fun post m i hi hl => sx_go1 hi (fun Q hQ => sx_1cat q250 x1 i32 hx0 x2 x4 k0 x3 (D.2.2.2.2.2.2.2.1.trans hl2) hQ) hl) (fun post m i hi hl => sy_go hi (fun Q hQ => sy_2cat q256 y1 i32 hkk y2 y3 k0 K256 (by omega) hl2 f256 y7 y5 (fun z => absurd z full) (fun _ => hQ)) hl) (ih (P - 1) (K + 1) H P1 vk ⟨rfl, (sm_k4 hP hK full hlim).1, Or.inr ⟨rfl, rfl, I1, Y1, T1, N1, Or.inl ⟨K, rfl, E1, rfl, rfl, rfl, gx _ _ _ _ _ _ X, rfl, rfl, by rw [h0], by rw [h2], by rw [h3], by rw [h6], by rw [h7], by rw [h8], (sm_k4 hP hK full hlim).2⟩⟩⟩) P1
theorem sm_2arbno (cx : sm_cx n nc kn xno xrt nK nA nB nL nR) (hlim : lim ≤ 250) (ih : sm_IH xms xnc xsd xlr xls xle yms ync ysp ylr yls yle lim dl n nc kn xno xsk xrt xsj nK nA nB nL nR ysk tS tG P) (vk : sm_vok xtx xtl)
    {f q : Nat} (hK : K ≤ lim) (I : sm_inv K n G) (Y : sm_Y K G fN fC fD fS fA fB fO fP fL fM) (T : sm_T G tE tN) (N : sm_N K nc kn G) (E : sm_e2 K G (f + 1)) (hq : G 4 (f + 1) = q + 1)
    (X : sm_X K G eN eC eD eT eH eR) (hP : (G 2 (q + 1) < G 12 (f + 1) ∧ (250 - K) * 1300 + G 20 (q + 1) + 1 ≤ P) ∨ (250 - K) * 1300 + G 20 (q + 1) + 1021 ≤ P) (k0 : G 1 (q + 1) = 13) (s0 : sm_s0 G (f + 1) (q + 1)) (ne : G 12 (f + 1) ≠ G 2 (q + 1)) :
    sm_fin xms xnc xsd xlr xls xle yms ync ysp ylr yls yle lim dl n nc kn xno xsk xrt xsj nK nA nB nL nR ysk tS tG P (xms, nI lim, nI dl, xnc, xsd, nI n, xlr, xls, xle, nI K, sm_p (G 18 (f + 1)), nI (G 19 (f + 1)), 1, xtn, nI (G 12 (f + 1)), xtd, nI q, 3, xno, xsk, xrt, xsj, xtx, xtl, xcr, eN, eC, eD, eT, eH, eR, tE, tN) (yms, nI lim, nI dl, ync, ysp, nI n, ylr, yls, yle, nI K, nI K, nI q, 2, nI f, 0, nK, nA, nB, nL, nR, ysk, xrt, xsj, xtx, xtl, xcr, fN, fC, fD, fS, fA, fB, fO, fP, fL, fM, tS, tG) := by
  have lf := E.2.1
  have zf := E.2.2.1
  have hif := E.2.2.2.1
  have op := E.2.2.2.2.1
  rw [hq] at op
  have fK : f + 1 ≤ K := (I.2.1 _ lf).1
  have Lf := I.2.2.1 (f + 1) (Nat.succ_pos f) lf
  rw [hq] at Lf
  have lp := Lf.2.1
  have B := I.2.1 _ lp
  have qf : q + 1 < f + 1 := Lf.1
  have qK1 : q + 1 ≤ K := B.1
  have qK : q < K := B.1
  have K256 : K < 256 := Nat.lt_of_le_of_lt (Nat.le_trans hK hlim) (by decide)
  have q250 : q < 250 := Nat.lt_of_lt_of_le qK (Nat.le_trans hK hlim)
  have q256 : q < 256 := Nat.lt_trans q250 (by decide)
  have f256 : f < 256 := Nat.lt_of_lt_of_le (Nat.lt_of_lt_of_le fK (Nat.le_trans hK hlim)) (by decide)
  have P1 : P - 1 < P := sm_k2 (d' := 0) hP
  have Z := I.2.2.2.1 _ lf zf
  have v1 := Z.2.2.2.1
  have v2 := Z.2.2.2.2.1
  have hnd := (N.2 (q + 1) (Nat.succ_pos q) qK1).1
  have hkd := (N.2 (q + 1) (Nat.succ_pos q) qK1).2.1
  have hd8 := (N.2 (q + 1) (Nat.succ_pos q) qK1).2.2
  have D := cx.2.2.1 _ hnd
  have c16 := cx.2.1
  have i32 : G 0 (q + 1) < 32 := Nat.lt_of_lt_of_le hnd cx.1
  have y1 : fN q = nI (G 0 (q + 1)) := Y.1 q qK
  have y2 : fC q = nI (G 2 (q + 1)) := Y.2.1 q qK
  have y3 : fD q = nI (G 3 (q + 1)) := Y.2.2.1 q qK
  have y5 : fA q = sm_p (G 10 (q + 1)) := Y.2.2.2.2.1 q qK
  have y6 : fB q = sm_p (G 11 (q + 1)) := Y.2.2.2.2.2.1 q qK
  have y7 : fO f = nI (G 12 (f + 1)) := Y.2.2.2.2.2.2.1 (f + 1) (Nat.succ_pos f) lf zf
  have y8 : fP q = sm_p (G 4 (q + 1)) := Y.2.2.2.2.2.2.2.1 q qK
  have hkk : nK (G 0 (q + 1)) = nI (G 1 (q + 1)) := by rw [hkd]; exact D.1
  have hx0 : xno (5 * G 0 (q + 1)) = nI (G 1 (q + 1)) := D.2.2.2.1.trans hkk
  have x1 : eN q = nI (G 0 (q + 1)) := X.1 q qK
  have x2 : eC q = nI (sm_ec G (q + 1)) := X.2.1 q qK
  rw [sm_ne10 (Nat.ne_of_gt (Nat.lt_of_lt_of_le (by decide) Lf.2.2.1))] at x2
  have x3 : eD q = nI (G 3 (q + 1)) := X.2.2.1 q qK
  have x4 : eT q = sm_p (G 6 (q + 1)) := X.2.2.2.1 q qK
  have x5 : eH q = sm_p (G 7 (q + 1)) := X.2.2.2.2.1 q qK
  have Lp := I.2.2.1 (q + 1) (Nat.succ_pos q) lp
  have pq : ∀ p, G 4 (q + 1) = p + 1 → p < 1000 := fun p hp => sm_n3 qK1 (Nat.le_trans hK hlim) Lp.1 hp
  have cm := sm_ccm (f := q + 1) I (Nat.succ_pos q) Lp
  have c2 := s0.2.1
  have c4 := s0.2.2.2.1
  rw [c2] at y5
  have nI_ne : ¬ nI (G 12 (f + 1)) = nI (G 2 (q + 1)) := sm_ne _ ne (by omega) (by omega)
  by_cases full : K = lim
  · exact sm_fin_xy (P' := P - 1) (u1 := (xms, nI lim, nI dl, xnc, xsd, nI n, xlr, xls, xle, nI K, sm_p (G 18 (f + 1)), nI (G 19 (f + 1)), 0, nI (G 0 (q + 1)), nI (G 12 (f + 1)), nI (G 3 (q + 1)), sm_p (G 6 (q + 1)), 3, xno, xsk, xrt, xsj, xtx, xtl, xcr, eN, eC, eD, eT, eH, eR, tE, tN)) (v1 := (yms, nI lim, nI dl, ync, ysp, nI n, ylr, yls, yle, nI K, nI K, nI q, 2, nI f, 3, nK, nA, nB, nL, nR, ysk, xrt, xsj, xtx, xtl, xcr, fN, fC, fD, fS, fA, fB, fO, fP, fL, fM, tS, tG)) (fun post m i hi hl => sx_go1 hi (fun Q hQ => sx_1arbno q250 x1 i32 hx0 x2 x4 k0 nI_ne x3 hQ) hl) (fun post m i hi hl => sy_go hi (fun Q hQ => sy_2arbno q256 y1 i32 hkk y2 y3 k0 K256 (by omega) f256 y7 y5 (by omega) (by omega) ne (fun _ => hQ) (fun z => absurd full z)) hl) (ih (P - 1) K G P1 vk ⟨rfl, hK, Or.inl ⟨full, rfl, rfl, by rw [full]⟩⟩) P1
  · obtain ⟨H, I1, E1, Y1, T1, N1, gx, h0, h2, h3, h6, h7, h8⟩ := sm_TB (nd := (G 0 (q + 1))) (dd := G 3 (q + 1)) I E Y T N hq s0.1 (by omega) hnd (by rw [← hkd]; omega) hd8
    exact sm_fin_xy (P' := P - 1) (u1 := (xms, nI lim, nI dl, xnc, xsd, nI n, xlr, xls, xle, nI K, sm_p (G 18 (f + 1)), nI (G 19 (f + 1)), 0, nI (G 0 (q + 1)), nI (G 12 (f + 1)), nI (G 3 (q + 1)), sm_p (G 6 (q + 1)), 3, xno, xsk, xrt, xsj, xtx, xtl, xcr, eN, eC, eD, eT, eH, eR, tE, tN)) (v1 := (yms, nI lim, nI dl, ync, ysp, nI n, ylr, yls, yle, nI (K + 1), nI (K + 1), nI K, 0, nI f, 0, nK, nA, nB, nL, nR, ysk, xrt, xsj, xtx, xtl, xcr, upd fN K (nI (G 0 (q + 1))), upd fC K (nI (G 12 (f + 1))), upd fD K (nI (G 3 (q + 1))), upd fS K 0, upd fA K (-1), upd (upd fB K (-1)) q (nI K), upd fO K (-1), upd fP K (nI q), upd fL K (-1), upd fM K (-1), tS, tG)) (fun post m i hi hl => sx_go1 hi (fun Q hQ => sx_1arbno q250 x1 i32 hx0 x2 x4 k0 nI_ne x3 hQ) hl) (fun post m i hi hl => sy_go hi (fun Q hQ => sy_2arbno q256 y1 i32 hkk y2 y3 k0 K256 (by omega) f256 y7 y5 (by omega) (by omega) ne (fun z => absurd z full) (fun _ => hQ)) hl) (ih (P - 1) (K + 1) H P1 vk ⟨rfl, (sm_k4 hP hK full hlim).1, Or.inr ⟨rfl, rfl, I1, Y1, T1, N1, Or.inl ⟨K, rfl, E1, rfl, rfl, rfl, gx _ _ _ _ _ _ X, rfl, rfl, by rw [h0], by rw [h2], by rw [h3], by rw [h6], by rw [h7], by rw [h8], (sm_k4 hP hK full hlim).2⟩⟩⟩) P1
theorem sm_2skip (cx : sm_cx n nc kn xno xrt nK nA nB nL nR) (hlim : lim ≤ 250) (ih : sm_IH xms xnc xsd xlr xls xle yms ync ysp ylr yls yle lim dl n nc kn xno xsk xrt xsj nK nA nB nL nR ysk tS tG P) (vk : sm_vok xtx xtl)
    {f q : Nat} (hK : K ≤ lim) (I : sm_inv K n G) (Y : sm_Y K G fN fC fD fS fA fB fO fP fL fM) (T : sm_T G tE tN) (N : sm_N K nc kn G) (E : sm_e2 K G (f + 1)) (hq : G 4 (f + 1) = q + 1)
    (X : sm_X K G eN eC eD eT eH eR) (hP : (G 2 (q + 1) < G 12 (f + 1) ∧ (250 - K) * 1300 + G 20 (q + 1) + 1 ≤ P) ∨ (250 - K) * 1300 + G 20 (q + 1) + 1021 ≤ P) (k0 : G 1 (q + 1) = 13) (s0 : sm_s0 G (f + 1) (q + 1)) (ev : G 12 (f + 1) = G 2 (q + 1)) :
    sm_fin xms xnc xsd xlr xls xle yms ync ysp ylr yls yle lim dl n nc kn xno xsk xrt xsj nK nA nB nL nR ysk tS tG P (xms, nI lim, nI dl, xnc, xsd, nI n, xlr, xls, xle, nI K, sm_p (G 18 (f + 1)), nI (G 19 (f + 1)), 1, xtn, nI (G 12 (f + 1)), xtd, nI q, 3, xno, xsk, xrt, xsj, xtx, xtl, xcr, eN, eC, eD, eT, eH, eR, tE, tN) (yms, nI lim, nI dl, ync, ysp, nI n, ylr, yls, yle, nI K, nI K, nI q, 2, nI f, 0, nK, nA, nB, nL, nR, ysk, xrt, xsj, xtx, xtl, xcr, fN, fC, fD, fS, fA, fB, fO, fP, fL, fM, tS, tG) := by
  have lf := E.2.1
  have zf := E.2.2.1
  have hif := E.2.2.2.1
  have op := E.2.2.2.2.1
  rw [hq] at op
  have fK : f + 1 ≤ K := (I.2.1 _ lf).1
  have Lf := I.2.2.1 (f + 1) (Nat.succ_pos f) lf
  rw [hq] at Lf
  have lp := Lf.2.1
  have B := I.2.1 _ lp
  have qf : q + 1 < f + 1 := Lf.1
  have qK1 : q + 1 ≤ K := B.1
  have qK : q < K := B.1
  have K256 : K < 256 := Nat.lt_of_le_of_lt (Nat.le_trans hK hlim) (by decide)
  have q250 : q < 250 := Nat.lt_of_lt_of_le qK (Nat.le_trans hK hlim)
  have q256 : q < 256 := Nat.lt_trans q250 (by decide)
  have f256 : f < 256 := Nat.lt_of_lt_of_le (Nat.lt_of_lt_of_le fK (Nat.le_trans hK hlim)) (by decide)
  have P1 : P - 1 < P := sm_k2 (d' := 0) hP
  have Z := I.2.2.2.1 _ lf zf
  have v1 := Z.2.2.2.1
  have v2 := Z.2.2.2.2.1
  have hnd := (N.2 (q + 1) (Nat.succ_pos q) qK1).1
  have hkd := (N.2 (q + 1) (Nat.succ_pos q) qK1).2.1
  have hd8 := (N.2 (q + 1) (Nat.succ_pos q) qK1).2.2
  have D := cx.2.2.1 _ hnd
  have c16 := cx.2.1
  have i32 : G 0 (q + 1) < 32 := Nat.lt_of_lt_of_le hnd cx.1
  have y1 : fN q = nI (G 0 (q + 1)) := Y.1 q qK
  have y2 : fC q = nI (G 2 (q + 1)) := Y.2.1 q qK
  have y3 : fD q = nI (G 3 (q + 1)) := Y.2.2.1 q qK
  have y5 : fA q = sm_p (G 10 (q + 1)) := Y.2.2.2.2.1 q qK
  have y6 : fB q = sm_p (G 11 (q + 1)) := Y.2.2.2.2.2.1 q qK
  have y7 : fO f = nI (G 12 (f + 1)) := Y.2.2.2.2.2.2.1 (f + 1) (Nat.succ_pos f) lf zf
  have y8 : fP q = sm_p (G 4 (q + 1)) := Y.2.2.2.2.2.2.2.1 q qK
  have hkk : nK (G 0 (q + 1)) = nI (G 1 (q + 1)) := by rw [hkd]; exact D.1
  have hx0 : xno (5 * G 0 (q + 1)) = nI (G 1 (q + 1)) := D.2.2.2.1.trans hkk
  have x1 : eN q = nI (G 0 (q + 1)) := X.1 q qK
  have x2 : eC q = nI (sm_ec G (q + 1)) := X.2.1 q qK
  rw [sm_ne10 (Nat.ne_of_gt (Nat.lt_of_lt_of_le (by decide) Lf.2.2.1))] at x2
  have x3 : eD q = nI (G 3 (q + 1)) := X.2.2.1 q qK
  have x4 : eT q = sm_p (G 6 (q + 1)) := X.2.2.2.1 q qK
  have x5 : eH q = sm_p (G 7 (q + 1)) := X.2.2.2.2.1 q qK
  have Lp := I.2.2.1 (q + 1) (Nat.succ_pos q) lp
  have pq : ∀ p, G 4 (q + 1) = p + 1 → p < 1000 := fun p hp => sm_n3 qK1 (Nat.le_trans hK hlim) Lp.1 hp
  have cm := sm_ccm (f := q + 1) I (Nat.succ_pos q) Lp
  have c2 := s0.2.1
  have c4 := s0.2.2.2.1
  rw [c2] at y5
  have e1 : sm_e1 G (f + 1) := ⟨Nat.succ_pos f, lf, zf, by rw [hq]; exact op, fun g lg => by have := (I.2.1 g lg).1; omega⟩
  exact sm_fin_xy (P' := P - 1) (u1 := (xms, nI lim, nI dl, xnc, xsd, nI n, xlr, xls, xle, nI K, sm_p (G 18 (f + 1)), nI (G 19 (f + 1)), 2, xtn, nI (G 12 (f + 1)), xtd, sm_p (G 6 (q + 1)), 3, xno, xsk, xrt, xsj, xtx, xtl, xcr, eN, eC, eD, eT, eH, eR, tE, tN)) (v1 := (yms, nI lim, nI dl, ync, ysp, nI n, ylr, yls, yle, nI K, nI K, nI f, 1, nI f, 0, nK, nA, nB, nL, nR, ysk, xrt, xsj, xtx, xtl, xcr, fN, fC, fD, fS, fA, fB, fO, fP, fL, fM, tS, tG)) (fun post m i hi hl => sx_go1 hi (fun Q hQ => sx_1skip q250 x1 i32 hx0 x2 x4 k0 (sm_eqI ev) hQ) hl) (fun post m i hi hl => sy_go hi (fun Q hQ => sy_2skip q256 y1 i32 hkk y2 y3 k0 f256 y7 y5 ev fK (by omega) hQ) hl) (ih (P - 1) K G P1 vk ⟨rfl, hK, Or.inr ⟨rfl, rfl, I, Y, T, N, Or.inr (Or.inl ⟨f, e1, rfl, rfl, rfl, X, rfl, rfl, rfl, sm_k5 hP ev hK hlim hif⟩)⟩⟩) P1
theorem sm_ev2 (cx : sm_cx n nc kn xno xrt nK nA nB nL nR) (hlim : lim ≤ 250) (ih : sm_IH xms xnc xsd xlr xls xle yms ync ysp ylr yls yle lim dl n nc kn xno xsk xrt xsj nK nA nB nL nR ysk tS tG P) (vk : sm_vok xtx xtl)
    {f q : Nat} (hK : K ≤ lim) (I : sm_inv K n G) (Y : sm_Y K G fN fC fD fS fA fB fO fP fL fM) (T : sm_T G tE tN) (N : sm_N K nc kn G) (E : sm_e2 K G (f + 1)) (hq : G 4 (f + 1) = q + 1)
    (X : sm_X K G eN eC eD eT eH eR) (hP : (G 2 (q + 1) < G 12 (f + 1) ∧ (250 - K) * 1300 + G 20 (q + 1) + 1 ≤ P) ∨ (250 - K) * 1300 + G 20 (q + 1) + 1021 ≤ P) (sj : sm_ch xsj 16) :
    sm_fin xms xnc xsd xlr xls xle yms ync ysp ylr yls yle lim dl n nc kn xno xsk xrt xsj nK nA nB nL nR ysk tS tG P (xms, nI lim, nI dl, xnc, xsd, nI n, xlr, xls, xle, nI K, sm_p (G 18 (f + 1)), nI (G 19 (f + 1)), 1, xtn, nI (G 12 (f + 1)), xtd, sm_p (G 6 (f + 1)), 3, xno, xsk, xrt, xsj, xtx, xtl, xcr, eN, eC, eD, eT, eH, eR, tE, tN) (yms, nI lim, nI dl, ync, ysp, nI n, ylr, yls, yle, nI K, nI K, nI q, 2, nI f, 0, nK, nA, nB, nL, nR, ysk, xrt, xsj, xtx, xtl, xcr, fN, fC, fD, fS, fA, fB, fO, fP, fL, fM, tS, tG) := by
  have L := I.2.2.1 (f + 1) (Nat.succ_pos f) E.2.1
  rw [hq] at L
  have k12 := L.2.2.1
  have k18 := (I.2.1 _ L.2.1).2.2.2.2.1
  rcases L.2.2.2.2.2.2 with s0 | s1
  · obtain ⟨c1, c2, c3, c4, c5, c6⟩ := s0
    rcases c5 with ⟨k0, t⟩ | ⟨ka, kb, t⟩
    · rw [t]
      exact sm_2pass cx hlim ih vk hK I Y T N E hq X hP k0 ⟨c1, c2, c3, c4, Or.inl ⟨k0, t⟩, c6⟩
    · have s0 : sm_s0 G (f + 1) (q + 1) := ⟨c1, c2, c3, c4, Or.inr ⟨ka, kb, t⟩, c6⟩
      rw [t, sm_ps]
      have ks : G 1 (q + 1) = 13 ∨ G 1 (q + 1) = 14 ∨ G 1 (q + 1) = 15 ∨ G 1 (q + 1) = 16 ∨ G 1 (q + 1) = 17 := by omega
      rcases ks with k0 | k0 | k0 | k0 | k0
      · by_cases ev : G 12 (f + 1) = G 2 (q + 1)
        · exact sm_2skip cx hlim ih vk hK I Y T N E hq X hP k0 s0 ev
        · exact sm_2arbno cx hlim ih vk hK I Y T N E hq X hP k0 s0 ev
      · exact sm_2fence cx hlim ih vk hK I Y T N E hq X hP k0 s0
      · exact sm_2imm cx hlim ih vk hK I Y T N E hq X hP k0 s0 sj
      · exact sm_2cond cx hlim ih vk hK I Y T N E hq X hP k0 s0
      · exact sm_2cat cx hlim ih vk hK I Y T N E hq X hP k0 s0
  · have k0 : G 1 (q + 1) = 17 ∨ G 1 (q + 1) = 13 := by have := s1.2.1; omega
    have t := s1.2.2.2.2.2.2.2.2.2.2.2.1
    rw [t]
    exact sm_2two cx hlim ih vk hK I Y T N E hq X hP k0 s1
end
end
section
theorem sm_j1 {K P d f q : Nat} (hP : (250 - K) * 1300 + 260 + 3 * (f + 1) ≤ P + d) (hd : d ≤ q) (hq : q < f + 1) : P - 1 < P := by omega
theorem sm_j2 {K P d d' f h : Nat} (hP : (250 - K) * 1300 + 260 + 3 * (f + 1) ≤ P + d) (hh : h = f + 1) (hd : d' = d + 1) : (250 - K) * 1300 + 260 + 3 * h ≤ P - 1 + d' := by omega
theorem sm_j3 {K P d d' f q : Nat} (hP : (250 - K) * 1300 + 260 + 3 * (f + 1) ≤ P + d) (hq : q + 1 < f + 1) (hd : d = d' + 1) : (250 - K) * 1300 + 260 + 3 * (q + 1) ≤ P - 1 + d' := by omega
theorem sm_j4 {K P d f q lim : Nat} (hP : (250 - K) * 1300 + 260 + 3 * (f + 1) ≤ P + d) (hd : d ≤ q) (hq : q < f + 1) (hK : K ≤ lim) (hn : ¬ K = lim) (hl : lim ≤ 250) : K + 1 ≤ lim ∧ (250 - (K + 1)) * 1300 + 1280 ≤ P - 1 := by omega
section
variable {xms xnc xsd xlr xls xle yms ync ysp ylr yls yle : Int32} {lim dl n nc : Nat} {kn : Nat → Nat} {xno xsk xrt xsj nK nA nB nL nR ysk tS tG : Nat → Int32}
variable {xst xnw xtc xtu xtn xcu xtd xtt xsr yfc yst ycf yev yfr ydo : Int32} {xtx xtl xcr eN eC eD eT eH eR tE tN fN fC fD fS fA fB fO fP fL fM : Nat → Int32}
variable {P K : Nat} {G : Nat → Nat → Nat}

theorem sm_3ask (cx : sm_cx n nc kn xno xrt nK nA nB nL nR) (hlim : lim ≤ 250) (ih : sm_IH xms xnc xsd xlr xls xle yms ync ysp ylr yls yle lim dl n nc kn xno xsk xrt xsj nK nA nB nL nR ysk tS tG P) (vk : sm_vok xtx xtl)
    {f q : Nat} (hK : K ≤ lim) (I : sm_inv K n G) (Y : sm_Y K G fN fC fD fS fA fB fO fP fL fM) (T : sm_T G tE tN) (N : sm_N K nc kn G) (E : sm_e3 K G (f + 1)) (hq : G 4 (f + 1) = q + 1)
    (X : sm_X K G eN eC eD eT eH eR) (hP : (250 - K) * 1300 + 260 + 3 * (f + 1) ≤ P + G 20 (q + 1)) (s1 : sm_s1 G (f + 1) (q + 1)) :
    sm_fin xms xnc xsd xlr xls xle yms ync ysp ylr yls yle lim dl n nc kn xno xsk xrt xsj nK nA nB nL nR ysk tS tG P (xms, nI lim, nI dl, xnc, xsd, nI n, xlr, xls, xle, nI K, sm_p (G 7 (f + 1)), xtc, 2, xtn, xcu, xtd, xtt, 3, xno, xsk, xrt, xsj, xtx, xtl, xcr, eN, eC, eD, eT, eH, eR, tE, tN) (yms, nI lim, nI dl, ync, ysp, nI n, ylr, yls, yle, nI K, nI K, nI q, 3, nI f, 0, nK, nA, nB, nL, nR, ysk, xrt, xsj, xtx, xtl, xcr, fN, fC, fD, fS, fA, fB, fO, fP, fL, fM, tS, tG) := by
  have fK : f + 1 ≤ K := E.2.1
  have Lf := E.2.2.1
  have op := E.2.2.2.1
  rw [hq] at op Lf
  have lp := Lf.2.1
  have B := I.2.1 _ lp
  have qf : q + 1 < f + 1 := Lf.1
  have qK1 : q + 1 ≤ K := B.1
  have qK : q < K := B.1
  have K256 : K < 256 := Nat.lt_of_le_of_lt (Nat.le_trans hK hlim) (by decide)
  have q250 : q < 250 := Nat.lt_of_lt_of_le qK (Nat.le_trans hK hlim)
  have q256 : q < 256 := Nat.lt_trans q250 (by decide)
  have f998 : f < 998 := Nat.lt_of_lt_of_le (Nat.lt_of_lt_of_le fK (Nat.le_trans hK hlim)) (by decide)
  have P1 : P - 1 < P := sm_j1 hP B.2.2.2.1 qf
  have hnd := (N.2 (q + 1) (Nat.succ_pos q) qK1).1
  have hkd := (N.2 (q + 1) (Nat.succ_pos q) qK1).2.1
  have hd8 := (N.2 (q + 1) (Nat.succ_pos q) qK1).2.2
  have D := cx.2.2.1 _ hnd
  have i32 : G 0 (q + 1) < 32 := Nat.lt_of_lt_of_le hnd cx.1
  have y1 : fN q = nI (G 0 (q + 1)) := Y.1 q qK
  have y2 : fC q = nI (G 2 (q + 1)) := Y.2.1 q qK
  have y3 : fD q = nI (G 3 (q + 1)) := Y.2.2.1 q qK
  have y4 : fS q = nI (G 9 (q + 1)) := Y.2.2.2.1 q qK
  have y5 : fA q = sm_p (G 10 (q + 1)) := Y.2.2.2.2.1 q qK
  have y6 : fB q = sm_p (G 11 (q + 1)) := Y.2.2.2.2.2.1 q qK
  have y8 : fP q = sm_p (G 4 (q + 1)) := Y.2.2.2.2.2.2.2.1 q qK
  have hkk : nK (G 0 (q + 1)) = nI (G 1 (q + 1)) := by rw [hkd]; exact D.1
  have hx0 : xno (5 * G 0 (q + 1)) = nI (G 1 (q + 1)) := D.2.2.2.1.trans hkk
  have x1 : eN q = nI (G 0 (q + 1)) := X.1 q qK
  have x2 : eC q = nI (sm_ec G (q + 1)) := X.2.1 q qK
  rw [sm_ne10 (Nat.ne_of_gt (Nat.lt_of_lt_of_le (by decide) Lf.2.2.1))] at x2
  have x3 : eD q = nI (G 3 (q + 1)) := X.2.2.1 q qK
  have x4 : eT q = sm_p (G 6 (q + 1)) := X.2.2.2.1 q qK
  have x5 : eH q = sm_p (G 7 (q + 1)) := X.2.2.2.2.1 q qK
  have x6 : eR q = nI (G 8 (q + 1)) := X.2.2.2.2.2 q qK
  have Lp := I.2.2.1 (q + 1) (Nat.succ_pos q) lp
  have pq : ∀ p, G 4 (q + 1) = p + 1 → p < 1000 := fun p hp => sm_n3 qK1 (Nat.le_trans hK hlim) Lp.1 hp
  have E1 := sm_31 I E s1.1
  rw [hq] at E1
  obtain ⟨d1, d2, d3, d4, d5, d6, d7, d8, d9, d10, d11, d12, d13⟩ := s1
  obtain ⟨c, hc⟩ : ∃ c, G 10 (q + 1) = c + 1 := ⟨G 10 (q + 1) - 1, by omega⟩
  rw [hc] at d4 d5 d6 d8 E1
  rw [hc, sm_ps] at y5
  rw [d3] at y6
  have cK : c < K := (I.2.1 _ d4).1
  have Lc := I.2.2.1 (c + 1) (Nat.succ_pos c) d4
  rw [d8] at Lc
  rw [hc] at d13
  have bd : (250 - K) * 1300 + 260 + 3 * G 17 (c + 1) ≤ P - 1 + G 20 (c + 1) := sm_j2 hP d6 Lc.2.2.2.1
  exact sm_fin_y (P' := P - 1) (v1 := (yms, nI lim, nI dl, ync, ysp, nI n, ylr, yls, yle, nI K, nI K, nI c, 1, nI f, 0, nK, nA, nB, nL, nR, ysk, xrt, xsj, xtx, xtl, xcr, fN, fC, fD, fS, fA, fB, fO, fP, fL, fM, tS, tG)) (fun post m i hi hl => sy_go hi (fun Q hQ => sy_3ask q256 y1 i32 hkk y2 y3 d2.symm y6 f998 y5 cK (by omega) hQ) hl) (ih (P - 1) K G P1 vk ⟨rfl, hK, Or.inr ⟨rfl, rfl, I, Y, T, N, Or.inr (Or.inl ⟨c, E1, rfl, rfl, rfl, X, rfl, rfl, by rw [d13], bd⟩)⟩⟩) P1
theorem sm_3exh (cx : sm_cx n nc kn xno xrt nK nA nB nL nR) (hlim : lim ≤ 250) (ih : sm_IH xms xnc xsd xlr xls xle yms ync ysp ylr yls yle lim dl n nc kn xno xsk xrt xsj nK nA nB nL nR ysk tS tG P) (vk : sm_vok xtx xtl)
    {f q : Nat} (hK : K ≤ lim) (I : sm_inv K n G) (Y : sm_Y K G fN fC fD fS fA fB fO fP fL fM) (T : sm_T G tE tN) (N : sm_N K nc kn G) (E : sm_e3 K G (f + 1)) (hq : G 4 (f + 1) = q + 1)
    (X : sm_X K G eN eC eD eT eH eR) (hP : (250 - K) * 1300 + 260 + 3 * (f + 1) ≤ P + G 20 (q + 1)) (k0 : 12 ≤ G 1 (q + 1) ∧ G 1 (q + 1) ≤ 18) (sl : G 5 (f + 1) = 0) (s9 : G 1 (q + 1) = 18 → G 9 (q + 1) < 1000) (c2 : G 1 (q + 1) = 18 → G 9 (q + 1) ≠ 0) :
    sm_fin xms xnc xsd xlr xls xle yms ync ysp ylr yls yle lim dl n nc kn xno xsk xrt xsj nK nA nB nL nR ysk tS tG P (xms, nI lim, nI dl, xnc, xsd, nI n, xlr, xls, xle, nI K, sm_p (G 7 (q + 1)), xtc, 2, xtn, xcu, xtd, xtt, 3, xno, xsk, xrt, xsj, xtx, xtl, xcr, eN, eC, eD, eT, eH, eR, tE, tN) (yms, nI lim, nI dl, ync, ysp, nI n, ylr, yls, yle, nI K, nI K, nI q, 3, nI f, 0, nK, nA, nB, nL, nR, ysk, xrt, xsj, xtx, xtl, xcr, fN, fC, fD, fS, fA, fB, fO, fP, fL, fM, tS, tG) := by
  have fK : f + 1 ≤ K := E.2.1
  have Lf := E.2.2.1
  have op := E.2.2.2.1
  rw [hq] at op Lf
  have lp := Lf.2.1
  have B := I.2.1 _ lp
  have qf : q + 1 < f + 1 := Lf.1
  have qK1 : q + 1 ≤ K := B.1
  have qK : q < K := B.1
  have K256 : K < 256 := Nat.lt_of_le_of_lt (Nat.le_trans hK hlim) (by decide)
  have q250 : q < 250 := Nat.lt_of_lt_of_le qK (Nat.le_trans hK hlim)
  have q256 : q < 256 := Nat.lt_trans q250 (by decide)
  have f998 : f < 998 := Nat.lt_of_lt_of_le (Nat.lt_of_lt_of_le fK (Nat.le_trans hK hlim)) (by decide)
  have P1 : P - 1 < P := sm_j1 hP B.2.2.2.1 qf
  have hnd := (N.2 (q + 1) (Nat.succ_pos q) qK1).1
  have hkd := (N.2 (q + 1) (Nat.succ_pos q) qK1).2.1
  have hd8 := (N.2 (q + 1) (Nat.succ_pos q) qK1).2.2
  have D := cx.2.2.1 _ hnd
  have i32 : G 0 (q + 1) < 32 := Nat.lt_of_lt_of_le hnd cx.1
  have y1 : fN q = nI (G 0 (q + 1)) := Y.1 q qK
  have y2 : fC q = nI (G 2 (q + 1)) := Y.2.1 q qK
  have y3 : fD q = nI (G 3 (q + 1)) := Y.2.2.1 q qK
  have y4 : fS q = nI (G 9 (q + 1)) := Y.2.2.2.1 q qK
  have y5 : fA q = sm_p (G 10 (q + 1)) := Y.2.2.2.2.1 q qK
  have y6 : fB q = sm_p (G 11 (q + 1)) := Y.2.2.2.2.2.1 q qK
  have y8 : fP q = sm_p (G 4 (q + 1)) := Y.2.2.2.2.2.2.2.1 q qK
  have hkk : nK (G 0 (q + 1)) = nI (G 1 (q + 1)) := by rw [hkd]; exact D.1
  have hx0 : xno (5 * G 0 (q + 1)) = nI (G 1 (q + 1)) := D.2.2.2.1.trans hkk
  have x1 : eN q = nI (G 0 (q + 1)) := X.1 q qK
  have x2 : eC q = nI (sm_ec G (q + 1)) := X.2.1 q qK
  rw [sm_ne10 (Nat.ne_of_gt (Nat.lt_of_lt_of_le (by decide) Lf.2.2.1))] at x2
  have x3 : eD q = nI (G 3 (q + 1)) := X.2.2.1 q qK
  have x4 : eT q = sm_p (G 6 (q + 1)) := X.2.2.2.1 q qK
  have x5 : eH q = sm_p (G 7 (q + 1)) := X.2.2.2.2.1 q qK
  have x6 : eR q = nI (G 8 (q + 1)) := X.2.2.2.2.2 q qK
  have Lp := I.2.2.1 (q + 1) (Nat.succ_pos q) lp
  have pq : ∀ p, G 4 (q + 1) = p + 1 → p < 1000 := fun p hp => sm_n3 qK1 (Nat.le_trans hK hlim) Lp.1 hp
  have opp : G 16 (G 4 (q + 1)) ≠ 1 := fun z => op (Lp.2.2.2.2.1 z)
  have b7 := B.2.2.2.2.2.2.1
  have c1 : G 1 (q + 1) = 17 ∨ G 1 (q + 1) = 13 → G 11 (q + 1) ≠ f + 1 := by
    intro _ z
    rcases B.2.2.2.2.2.2.2 with w | w
    · omega
    · rw [z] at w; omega
  obtain ⟨H, I1, E1, Y1, T1, N1, ge⟩ := sm_T3 I Y T N lp opp
  have X1 : sm_X K H eN eC eD eT eH eR := sm_X_s X (fun i hi => ge i (by omega))
  have bd : (250 - K) * 1300 + 260 + 3 * (q + 1) ≤ P - 1 + H 20 (H 4 (q + 1)) := by rw [ge 4 (by decide), ge 20 (by decide)]; exact sm_j3 hP qf Lp.2.2.2.1
  by_cases z : G 4 (q + 1) = 0
  · rw [z, sm_p0] at y8
    exact sm_fin_y (P' := P - 1) (v1 := (yms, nI lim, nI dl, ync, ysp, nI n, ylr, yls, yle, nI K, nI K, nI q, 3, nI f, 2, nK, nA, nB, nL, nR, ysk, xrt, xsj, xtx, xtl, xcr, fN, fC, fD, fS, fA, fB, fO, fP, fL, fM, tS, tG)) (fun post m i hi hl => sy_go hi (fun Q hQ => sy_3exh q256 y1 i32 hkk y2 y3 k0 y6 (by omega) f998 y4 s9 c1 c2 (Or.inl ⟨y8, hQ⟩)) hl) (ih (P - 1) K H P1 vk ⟨rfl, hK, Or.inr ⟨rfl, rfl, I1, Y1, T1, N1, Or.inr (Or.inr (Or.inr ⟨q, E1, X1, rfl, rfl, by rw [ge 7 (by decide)], bd, Or.inl ⟨by rw [ge 4 (by decide)]; exact z, rfl⟩⟩))⟩⟩) P1
  · obtain ⟨p, hp⟩ : ∃ p, G 4 (q + 1) = p + 1 := ⟨G 4 (q + 1) - 1, (Nat.succ_pred_eq_of_ne_zero z).symm⟩
    have p9 := pq p hp
    rw [hp, sm_ps] at y8
    exact sm_fin_y (P' := P - 1) (v1 := (yms, nI lim, nI dl, ync, ysp, nI n, ylr, yls, yle, nI K, nI K, nI p, 3, nI q, 0, nK, nA, nB, nL, nR, ysk, xrt, xsj, xtx, xtl, xcr, fN, fC, fD, fS, fA, fB, fO, fP, fL, fM, tS, tG)) (fun post m i hi hl => sy_go hi (fun Q hQ => sy_3exh q256 y1 i32 hkk y2 y3 k0 y6 (by omega) f998 y4 s9 c1 c2 (Or.inr ⟨p, p9, y8, hQ⟩)) hl) (ih (P - 1) K H P1 vk ⟨rfl, hK, Or.inr ⟨rfl, rfl, I1, Y1, T1, N1, Or.inr (Or.inr (Or.inr ⟨q, E1, X1, rfl, rfl, by rw [ge 7 (by decide)], bd, Or.inr ⟨p, by rw [ge 4 (by decide)]; exact hp, rfl, rfl, rfl, rfl⟩⟩))⟩⟩) P1
theorem sm_3alt (cx : sm_cx n nc kn xno xrt nK nA nB nL nR) (hlim : lim ≤ 250) (ih : sm_IH xms xnc xsd xlr xls xle yms ync ysp ylr yls yle lim dl n nc kn xno xsk xrt xsj nK nA nB nL nR ysk tS tG P) (vk : sm_vok xtx xtl)
    {f q : Nat} (hK : K ≤ lim) (I : sm_inv K n G) (Y : sm_Y K G fN fC fD fS fA fB fO fP fL fM) (T : sm_T G tE tN) (N : sm_N K nc kn G) (E : sm_e3 K G (f + 1)) (hq : G 4 (f + 1) = q + 1)
    (X : sm_X K G eN eC eD eT eH eR) (hP : (250 - K) * 1300 + 260 + 3 * (f + 1) ≤ P + G 20 (q + 1)) (k0 : G 1 (q + 1) = 18) (st0 : G 9 (q + 1) = 0) :
    sm_fin xms xnc xsd xlr xls xle yms ync ysp ylr yls yle lim dl n nc kn xno xsk xrt xsj nK nA nB nL nR ysk tS tG P (xms, nI lim, nI dl, xnc, xsd, nI n, xlr, xls, xle, nI K, nI q, xtc, 2, xtn, xcu, xtd, xtt, 3, xno, xsk, xrt, xsj, xtx, xtl, xcr, eN, eC, eD, eT, eH, eR, tE, tN) (yms, nI lim, nI dl, ync, ysp, nI n, ylr, yls, yle, nI K, nI K, nI q, 3, nI f, 0, nK, nA, nB, nL, nR, ysk, xrt, xsj, xtx, xtl, xcr, fN, fC, fD, fS, fA, fB, fO, fP, fL, fM, tS, tG) := by
  have fK : f + 1 ≤ K := E.2.1
  have Lf := E.2.2.1
  have op := E.2.2.2.1
  rw [hq] at op Lf
  have lp := Lf.2.1
  have B := I.2.1 _ lp
  have qf : q + 1 < f + 1 := Lf.1
  have qK1 : q + 1 ≤ K := B.1
  have qK : q < K := B.1
  have K256 : K < 256 := Nat.lt_of_le_of_lt (Nat.le_trans hK hlim) (by decide)
  have q250 : q < 250 := Nat.lt_of_lt_of_le qK (Nat.le_trans hK hlim)
  have q256 : q < 256 := Nat.lt_trans q250 (by decide)
  have f998 : f < 998 := Nat.lt_of_lt_of_le (Nat.lt_of_lt_of_le fK (Nat.le_trans hK hlim)) (by decide)
  have P1 : P - 1 < P := sm_j1 hP B.2.2.2.1 qf
  have hnd := (N.2 (q + 1) (Nat.succ_pos q) qK1).1
  have hkd := (N.2 (q + 1) (Nat.succ_pos q) qK1).2.1
  have hd8 := (N.2 (q + 1) (Nat.succ_pos q) qK1).2.2
  have D := cx.2.2.1 _ hnd
  have i32 : G 0 (q + 1) < 32 := Nat.lt_of_lt_of_le hnd cx.1
  have y1 : fN q = nI (G 0 (q + 1)) := Y.1 q qK
  have y2 : fC q = nI (G 2 (q + 1)) := Y.2.1 q qK
  have y3 : fD q = nI (G 3 (q + 1)) := Y.2.2.1 q qK
  have y4 : fS q = nI (G 9 (q + 1)) := Y.2.2.2.1 q qK
  have y5 : fA q = sm_p (G 10 (q + 1)) := Y.2.2.2.2.1 q qK
  have y6 : fB q = sm_p (G 11 (q + 1)) := Y.2.2.2.2.2.1 q qK
  have y8 : fP q = sm_p (G 4 (q + 1)) := Y.2.2.2.2.2.2.2.1 q qK
  have hkk : nK (G 0 (q + 1)) = nI (G 1 (q + 1)) := by rw [hkd]; exact D.1
  have hx0 : xno (5 * G 0 (q + 1)) = nI (G 1 (q + 1)) := D.2.2.2.1.trans hkk
  have x1 : eN q = nI (G 0 (q + 1)) := X.1 q qK
  have x2 : eC q = nI (sm_ec G (q + 1)) := X.2.1 q qK
  rw [sm_ne10 (Nat.ne_of_gt (Nat.lt_of_lt_of_le (by decide) Lf.2.2.1))] at x2
  have x3 : eD q = nI (G 3 (q + 1)) := X.2.2.1 q qK
  have x4 : eT q = sm_p (G 6 (q + 1)) := X.2.2.2.1 q qK
  have x5 : eH q = sm_p (G 7 (q + 1)) := X.2.2.2.2.1 q qK
  have x6 : eR q = nI (G 8 (q + 1)) := X.2.2.2.2.2 q qK
  have Lp := I.2.2.1 (q + 1) (Nat.succ_pos q) lp
  have pq : ∀ p, G 4 (q + 1) = p + 1 → p < 1000 := fun p hp => sm_n3 qK1 (Nat.le_trans hK hlim) Lp.1 hp
  obtain ⟨l, hl1, hl2⟩ := sm_nd13 D (by rw [← hkd, k0]; decide)
  have hS : fS q = 0 := by rw [y4, st0]; rfl
  by_cases full : K = lim
  · exact sm_fin_xy (P' := P - 1) (u1 := (xms, nI lim, nI dl, xnc, xsd, nI n, xlr, xls, xle, nI K, sm_p (G 7 (q + 1)), nI (G 8 (q + 1)), 0, nI l, nI (G 2 (q + 1)), nI (G 3 (q + 1)), sm_p (G 6 (q + 1)), 3, xno, xsk, xrt, xsj, xtx, xtl, xcr, eN, eC, eD, eT, eH, eR, tE, tN)) (v1 := (yms, nI lim, nI dl, ync, ysp, nI n, ylr, yls, yle, nI K, nI K, nI q, 3, nI f, 3, nK, nA, nB, nL, nR, ysk, xrt, xsj, xtx, xtl, xcr, fN, fC, fD, upd fS q 1, fA, fB, fO, fP, fL, fM, tS, tG)) (fun post m i hi hl => sx_go2 hi (fun Q hQ => sx_2alt q250 x1 i32 hx0 x2 x5 x6 k0 x3 x4 (D.2.2.2.2.2.2.2.1.trans hl2) hQ) hl) (fun post m i hi hl => sy_go hi (fun Q hQ => sy_3alt q256 y1 i32 hkk y2 y3 k0 K256 (by omega) hl2 hS (fun _ => hQ) (fun z => absurd full z)) hl) (ih (P - 1) K G P1 vk ⟨rfl, hK, Or.inl ⟨full, rfl, rfl, by rw [full]⟩⟩) P1
  · obtain ⟨J, I0, lx0, ox0, top0, Y0, T0, N0, e0⟩ := sm_TC I lp op Y T N
    have ek0 : J 1 (q + 1) = 18 := by rw [e0 1 (by decide)]; exact k0
    obtain ⟨J2, I2, Y2, T2, N2, e2, s2, xx2⟩ := sm_TS (s := 1) I0 ox0 top0 Y0 T0 N0 (by rw [ek0]; decide)
    have ek : J2 1 (q + 1) = 18 := by rw [e2 1 (by decide)]; exact ek0
    obtain ⟨H, I1, E1, Y1, T1, N1, gx, h0, h2, h3, h6, h7, h8⟩ := sm_TA (nd := l) (dd := G 3 (q + 1)) (tk := J2 6 (q + 1)) (ch := J2 7 (q + 1)) I2 Y2 T2 N2 (by rw [e2 15 (by decide)]; exact lx0) (by rw [e2 16 (by decide)]; exact ox0) (by rw [e2 15 (by decide)]; exact top0) (by rw [ek]; decide) (fun z => absurd z (by rw [ek]; decide)) (fun _ => by rw [s2]; decide) (Nat.lt_trans hl1 hnd) (cx.2.2.1 l (Nat.lt_trans hl1 hnd)).2.2.1 hd8 (Or.inl ⟨Or.inr ek, rfl⟩) (Or.inr ⟨Or.inr (by rw [s2]; decide), rfl⟩)
    have q2 : J2 2 (q + 1) = G 2 (q + 1) := by rw [e2 2 (by decide), e0 2 (by decide)]
    have q6 : J2 6 (q + 1) = G 6 (q + 1) := by rw [e2 6 (by decide), e0 6 (by decide)]
    have q7 : J2 7 (q + 1) = G 7 (q + 1) := by rw [e2 7 (by decide), e0 7 (by decide)]
    have q8 : J2 8 (q + 1) = G 8 (q + 1) := by rw [e2 8 (by decide), e0 8 (by decide)]
    rw [q2] at Y1 h2
    rw [q6] at h6
    rw [q7] at h7
    rw [q8] at h8
    have X1 := gx _ _ _ _ _ _ (xx2 _ _ _ _ _ _ (sm_X_s X (fun i hi => e0 i (by omega))))
    exact sm_fin_xy (P' := P - 1) (u1 := (xms, nI lim, nI dl, xnc, xsd, nI n, xlr, xls, xle, nI K, sm_p (G 7 (q + 1)), nI (G 8 (q + 1)), 0, nI l, nI (G 2 (q + 1)), nI (G 3 (q + 1)), sm_p (G 6 (q + 1)), 3, xno, xsk, xrt, xsj, xtx, xtl, xcr, eN, eC, eD, eT, eH, eR, tE, tN)) (v1 := (yms, nI lim, nI dl, ync, ysp, nI n, ylr, yls, yle, nI (K + 1), nI (K + 1), nI K, 0, nI f, 0, nK, nA, nB, nL, nR, ysk, xrt, xsj, xtx, xtl, xcr, upd fN K (nI l), upd fC K (nI (G 2 (q + 1))), upd fD K (nI (G 3 (q + 1))), upd (upd fS q 1) K 0, upd (upd fA K (-1)) q (nI K), upd fB K (-1), upd fO K (-1), upd fP K (nI q), upd fL K (-1), upd fM K (-1), tS, tG)) (fun post m i hi hl => sx_go2 hi (fun Q hQ => sx_2alt q250 x1 i32 hx0 x2 x5 x6 k0 x3 x4 (D.2.2.2.2.2.2.2.1.trans hl2) hQ) hl) (fun post m i hi hl => sy_go hi (fun Q hQ => sy_3alt q256 y1 i32 hkk y2 y3 k0 K256 (by omega) hl2 hS (fun z => absurd z full) (fun _ => hQ)) hl) (ih (P - 1) (K + 1) H P1 vk ⟨rfl, (sm_j4 hP B.2.2.2.1 qf hK full hlim).1, Or.inr ⟨rfl, rfl, I1, Y1, T1, N1, Or.inl ⟨K, rfl, E1, rfl, rfl, rfl, X1, rfl, rfl, by rw [h0], by rw [h2], by rw [h3], by rw [h6], by rw [h7], by rw [h8], (sm_j4 hP B.2.2.2.1 qf hK full hlim).2⟩⟩⟩) P1
theorem sm_ev3 (cx : sm_cx n nc kn xno xrt nK nA nB nL nR) (hlim : lim ≤ 250) (ih : sm_IH xms xnc xsd xlr xls xle yms ync ysp ylr yls yle lim dl n nc kn xno xsk xrt xsj nK nA nB nL nR ysk tS tG P) (vk : sm_vok xtx xtl)
    {f q : Nat} (hK : K ≤ lim) (I : sm_inv K n G) (Y : sm_Y K G fN fC fD fS fA fB fO fP fL fM) (T : sm_T G tE tN) (N : sm_N K nc kn G) (E : sm_e3 K G (f + 1)) (hq : G 4 (f + 1) = q + 1)
    (X : sm_X K G eN eC eD eT eH eR) (hP : (250 - K) * 1300 + 260 + 3 * (f + 1) ≤ P + G 20 (q + 1)) :
    sm_fin xms xnc xsd xlr xls xle yms ync ysp ylr yls yle lim dl n nc kn xno xsk xrt xsj nK nA nB nL nR ysk tS tG P (xms, nI lim, nI dl, xnc, xsd, nI n, xlr, xls, xle, nI K, sm_p (G 7 (f + 1)), xtc, 2, xtn, xcu, xtd, xtt, 3, xno, xsk, xrt, xsj, xtx, xtl, xcr, eN, eC, eD, eT, eH, eR, tE, tN) (yms, nI lim, nI dl, ync, ysp, nI n, ylr, yls, yle, nI K, nI K, nI q, 3, nI f, 0, nK, nA, nB, nL, nR, ysk, xrt, xsj, xtx, xtl, xcr, fN, fC, fD, fS, fA, fB, fO, fP, fL, fM, tS, tG) := by
  have L := E.2.2.1
  rw [hq] at L
  have k12 := L.2.2.1
  have k18 := (I.2.1 _ L.2.1).2.2.2.2.1
  rcases L.2.2.2.2.2.2 with s0 | s1
  · obtain ⟨c1, c2, c3, c4, c5, c6⟩ := s0
    rcases c6 with ⟨k0, t0, t⟩ | ⟨k0, t⟩
    · rw [t, sm_ps]
      exact sm_3alt cx hlim ih vk hK I Y T N E hq X hP k0 t0
    · rw [t]
      exact sm_3exh cx hlim ih vk hK I Y T N E hq X hP ⟨k12, k18⟩ c1 (fun z => by have := L.2.2.2.2.2.1.2 z; omega) (by omega)
  · exact sm_3ask cx hlim ih vk hK I Y T N E hq X hP s1
end
end
section
section
variable {xms xnc xsd xlr xls xle yms ync ysp ylr yls yle : Int32} {lim dl n nc : Nat} {kn : Nat → Nat} {xno xsk xrt xsj nK nA nB nL nR ysk tS tG : Nat → Int32}
variable {xst xnw xtc xtu xtn xcu xtd xtt xsr yfc yst ycf yev yfr ydo : Int32} {xtx xtl xcr eN eC eD eT eH eR tE tN fN fC fD fS fA fB fO fP fL fM : Nat → Int32}
variable {P K : Nat} {G : Nat → Nat → Nat}
/-- the step limit met -/
theorem sm_evF (hlim : lim ≤ 250) (vk : sm_vok xtx xtl) : sm_fin xms xnc xsd xlr xls xle yms ync ysp ylr yls yle lim dl n nc kn xno xsk xrt xsj nK nA nB nL nR ysk tS tG P (xms, nI lim, nI dl, xnc, xsd, nI n, xlr, xls, xle, nI lim, xnw, xtc, 0, xtn, xcu, xtd, xtt, 3, xno, xsk, xrt, xsj, xtx, xtl, xcr, eN, eC, eD, eT, eH, eR, tE, tN) (yms, nI lim, nI dl, ync, ysp, nI n, ylr, yls, yle, yfc, yst, ycf, yev, yfr, 3, nK, nA, nB, nL, nR, ysk, xrt, xsj, xtx, xtl, xcr, fN, fC, fD, fS, fA, fB, fO, fP, fL, fM, tS, tG) := by
  refine ⟨nI lim, xnw, xtc, 0, xtn, xcu, xtd, xtt, 2, yfc, yst, ycf, yev, yfr, 3, xtx, xtl, xcr, eN, eC, eD, eT, eH, eR, tE, tN, fN, fC, fD, fS, fA, fB, fO, fP, fL, fM, vk, Or.inr (Or.inl ⟨rfl, rfl⟩), ?_, ?_⟩
  · intro post m i h1 h2 hp
    obtain ⟨m, rfl⟩ : ∃ k, m = k + 2 := ⟨m - 2, by omega⟩
    exact sx_go0 (by omega) (fun Q hQ => sx_0full (Nat.le_refl lim) hlim hQ) (sx_stop (by omega) (by decide) hp)
  · intro post m i h1 h2 hp
    obtain ⟨m, rfl⟩ : ∃ k, m = k + 1 := ⟨m - 1, by omega⟩
    exact sy_stop (by omega) (by decide) hp
/-- the root exhausted -/
theorem sm_evX (vk : sm_vok xtx xtl) : sm_fin xms xnc xsd xlr xls xle yms ync ysp ylr yls yle lim dl n nc kn xno xsk xrt xsj nK nA nB nL nR ysk tS tG P (xms, nI lim, nI dl, xnc, xsd, nI n, xlr, xls, xle, xst, -1, xtc, 2, xtn, xcu, xtd, xtt, 3, xno, xsk, xrt, xsj, xtx, xtl, xcr, eN, eC, eD, eT, eH, eR, tE, tN) (yms, nI lim, nI dl, ync, ysp, nI n, ylr, yls, yle, yfc, yst, ycf, yev, yfr, 2, nK, nA, nB, nL, nR, ysk, xrt, xsj, xtx, xtl, xcr, fN, fC, fD, fS, fA, fB, fO, fP, fL, fM, tS, tG) := by
  refine ⟨xst, -1, xtc, 2, xtn, xcu, xtd, xtt, 0, yfc, yst, ycf, yev, yfr, 2, xtx, xtl, xcr, eN, eC, eD, eT, eH, eR, tE, tN, fN, fC, fD, fS, fA, fB, fO, fP, fL, fM, vk, Or.inl ⟨rfl, rfl⟩, ?_, ?_⟩
  · intro post m i h1 h2 hp
    obtain ⟨m, rfl⟩ : ∃ k, m = k + 2 := ⟨m - 2, by omega⟩
    exact sx_go2 (by omega) (fun Q hQ => sx_2none hQ) (sx_stop (by omega) (by decide) hp)
  · intro post m i h1 h2 hp
    obtain ⟨m, rfl⟩ : ∃ k, m = k + 1 := ⟨m - 1, by omega⟩
    exact sy_stop (by omega) (by decide) hp
/-- the root's outcome -/
theorem sm_evM (vk : sm_vok xtx xtl) (he : sm_end n nc kn xst xnw xtc 1 xtn xcu xtd (-1) 1 yfc yst ycf yev yfr 1 xtx xtl xcr eN eC eD eT eH eR tE tN fN fC fD fS fA fB fO fP fL fM) :
    sm_fin xms xnc xsd xlr xls xle yms ync ysp ylr yls yle lim dl n nc kn xno xsk xrt xsj nK nA nB nL nR ysk tS tG P (xms, nI lim, nI dl, xnc, xsd, nI n, xlr, xls, xle, xst, xnw, xtc, 1, xtn, xcu, xtd, -1, 3, xno, xsk, xrt, xsj, xtx, xtl, xcr, eN, eC, eD, eT, eH, eR, tE, tN) (yms, nI lim, nI dl, ync, ysp, nI n, ylr, yls, yle, yfc, yst, ycf, yev, yfr, 1, nK, nA, nB, nL, nR, ysk, xrt, xsj, xtx, xtl, xcr, fN, fC, fD, fS, fA, fB, fO, fP, fL, fM, tS, tG) := by
  refine ⟨xst, xnw, xtc, 1, xtn, xcu, xtd, -1, 1, yfc, yst, ycf, yev, yfr, 1, xtx, xtl, xcr, eN, eC, eD, eT, eH, eR, tE, tN, fN, fC, fD, fS, fA, fB, fO, fP, fL, fM, vk, he, ?_, ?_⟩
  · intro post m i h1 h2 hp
    obtain ⟨m, rfl⟩ : ∃ k, m = k + 2 := ⟨m - 2, by omega⟩
    exact sx_go1 (by omega) (fun Q hQ => sx_1none hQ) (sx_stop (by omega) (by decide) hp)
  · intro post m i h1 h2 hp
    obtain ⟨m, rfl⟩ : ∃ k, m = k + 1 := ⟨m - 1, by omega⟩
    exact sy_stop (by omega) (by decide) hp
theorem sm_root {f : Nat} (I : sm_inv K n G) (N : sm_N K nc kn G) (L : sm_lp G (f + 1) (G 4 (f + 1))) (hp : G 4 (f + 1) = 0) : f = 0 ∧ G 6 (f + 1) = 0 ∧ G 7 (f + 1) = 0 := by
  obtain ⟨a1, a2, a3, a4, a5, a6, a7, a8⟩ := I.1
  rw [hp] at L
  rcases L.2.2.2.2.2.2 with q | q
  · obtain ⟨c1, c2, c3, c4, c5, c6⟩ := q
    have := N.1
    omega
  · have := q.2.1
    omega
theorem sm_step (cx : sm_cx n nc kn xno xrt nK nA nB nL nR) (hlim : lim ≤ 250) (hdl : dl ≤ 8) (sj : sm_ch xsj 16) (ih : sm_IH xms xnc xsd xlr xls xle yms ync ysp ylr yls yle lim dl n nc kn xno xsk xrt xsj nK nA nB nL nR ysk tS tG P) (vk : sm_vok xtx xtl)
    (R : sm_rel lim n nc kn P K G xst xnw xtc xtu xtn xcu xtd xtt xsr yfc yst ycf yev yfr ydo xtx xtl xcr eN eC eD eT eH eR tE tN fN fC fD fS fA fB fO fP fL fM) : sm_fin xms xnc xsd xlr xls xle yms ync ysp ylr yls yle lim dl n nc kn xno xsk xrt xsj nK nA nB nL nR ysk tS tG P (xms, nI lim, nI dl, xnc, xsd, nI n, xlr, xls, xle, xst, xnw, xtc, xtu, xtn, xcu, xtd, xtt, xsr, xno, xsk, xrt, xsj, xtx, xtl, xcr, eN, eC, eD, eT, eH, eR, tE, tN) (yms, nI lim, nI dl, ync, ysp, nI n, ylr, yls, yle, yfc, yst, ycf, yev, yfr, ydo, nK, nA, nB, nL, nR, ysk, xrt, xsj, xtx, xtl, xcr, fN, fC, fD, fS, fA, fB, fO, fP, fL, fM, tS, tG) := by
  obtain ⟨r0, hK, R⟩ := R
  subst r0
  rcases R with ⟨r1, r2, r3, r4⟩ | ⟨r1, r2, I, Y, T, N, R⟩
  · subst r2 r3 r4
    exact sm_evF hlim vk
  · subst r1 r2
    rcases R with R | R | R | R
    · obtain ⟨k, hk, E, q1, q2, q3, X, q4, q5, q6, q7, q8, q9, q10, q11, hP⟩ := R
      subst hk q1 q2 q3 q4 q5 q6 q7 q8 q9 q10 q11
      have k1 : 1 ≤ G 1 (k + 1) := by
        rw [(N.2 (k + 1) (Nat.succ_pos k) (Nat.le_refl _)).2.1]
        exact (cx.2.2.1 _ (N.2 (k + 1) (Nat.succ_pos k) (Nat.le_refl _)).1).2.1
      have k18 := (I.2.1 _ E.2.1).2.2.2.2.1
      by_cases c1 : G 1 (k + 1) = 10
      · exact sm_0arb cx hlim ih vk hK I Y T N E X hP c1
      by_cases c2 : G 1 (k + 1) = 11
      · exact sm_0cur cx hlim ih vk hK I Y T N E X hP c2
      by_cases c3 : G 1 (k + 1) ≤ 11
      · exact sm_0leaf cx hlim ih vk hK I Y T N E X hP ⟨c3, c1, c2⟩
      by_cases c4 : G 1 (k + 1) = 12
      · exact sm_0def cx hlim ih vk hK I Y T N E X hP c4 hdl
      by_cases c5 : G 1 (k + 1) = 13
      · exact sm_0arbno cx hlim ih vk hK I Y T N E X hP c5
      by_cases c6 : G 1 (k + 1) = 18
      · exact sm_0alt cx hlim ih vk hK I Y T N E X hP c6
      exact sm_0four cx hlim ih vk hK I Y T N E X hP (by omega)
    · obtain ⟨x, E, q1, q2, q3, X, q4, q5, q6, hP⟩ := R
      subst q1 q2 q3 q4 q5 q6
      exact sm_ev1 cx hlim ih vk hK I Y T N E X hP
    · obtain ⟨f, E, X, q4, q5, q6, q7, q8, q9, hP, R⟩ := R
      subst q4 q5 q6 q7 q8 q9
      rcases R with ⟨p0, q1⟩ | ⟨q, p1, q1, q2, q3, q10⟩
      · subst q1
        have L := I.2.2.1 (f + 1) (Nat.succ_pos f) E.2.1
        obtain ⟨f0, t0, _⟩ := sm_root I N L p0
        rw [t0, sm_p0]
        subst f0
        exact sm_evM vk (Or.inr (Or.inr ⟨rfl, rfl, K, G, Nat.le_trans hK hlim, I, E, X, Y, T, N, rfl, rfl⟩))
      · subst q1 q2 q3 q10
        rw [p1] at hP
        exact sm_ev2 cx hlim ih vk hK I Y T N E p1 X hP sj
    · obtain ⟨f, E, X, q4, q5, q6, hP, R⟩ := R
      subst q4 q5 q6
      rcases R with ⟨p0, q1⟩ | ⟨q, p1, q1, q2, q3, q10⟩
      · subst q1
        obtain ⟨_, _, c0⟩ := sm_root I N E.2.2.1 p0
        rw [c0, sm_p0]
        exact sm_evX vk
      · subst q1 q2 q3 q10
        rw [p1] at hP
        exact sm_ev3 cx hlim ih vk hK I Y T N E p1 X hP
theorem sm_sim (cx : sm_cx n nc kn xno xrt nK nA nB nL nR) (hlim : lim ≤ 250) (hdl : dl ≤ 8) (sj : sm_ch xsj 16) : ∀ P, sm_IH xms xnc xsd xlr xls xle yms ync ysp ylr yls yle lim dl n nc kn xno xsk xrt xsj nK nA nB nL nR ysk tS tG P := by
  intro P
  induction P with
  | zero => intro P' K G; intros; omega
  | succ P ih =>
    intro P' K G
    intros
    rename_i h1 h2 h3
    by_cases q : P' < P
    · exact ih P' K G q h2 h3
    · have e : P' = P := by omega
      subst e
      exact sm_step cx hlim hdl sj ih h2 h3
end
end
section
def sm_g0 (t : Nat) : Nat → Nat → Nat := fun i g => if g = 0 then (if i = 1 then 12 else if i = 2 then t else if i = 15 then 1 else 0) else 0
theorem sm_g0n {t i g : Nat} (h : g ≠ 0) : sm_g0 t i g = 0 := by unfold sm_g0; rw [if_neg h]
theorem sm_g0i {t n : Nat} (ht : t ≤ n) : sm_inv 0 n (sm_g0 t) := by
  have only : ∀ f, sm_g0 t 15 f = 1 → f = 0 := by
    intro f hf
    by_cases q : f = 0
    · exact q
    · rw [sm_g0n q] at hf; omega
  refine ⟨⟨rfl, by show (0 : Nat) ≠ 1; omega, rfl, rfl, rfl, rfl, rfl, rfl⟩, ?_, ?_, ?_, ?_, ?_⟩
  · intro f lf
    rw [only f lf]
    exact ⟨Nat.le_refl _, Nat.zero_le _, ht, Nat.le_refl _, by show 12 ≤ 18; omega, fun _ _ => rfl, Nat.le_refl _, Or.inl rfl⟩
  · intro f hf lf
    have := only f lf
    omega
  · intro f lf zf
    rw [only f lf] at zf
    have z : (0 : Nat) = 1 := zf
    omega
  · intro g h lg lh hg
    have := only g lg
    have := only h lh
    omega
  · intro g h lg zg lh hg
    rw [only g lg] at zg
    have z : (0 : Nat) = 1 := zg
    omega
section
variable {xms xnc xsd xlr xls xle yms ync ysp ylr yls yle : Int32} {lim dl n nc : Nat} {kn : Nat → Nat} {xno xsk xrt xsj nK nA nB nL nR ysk tS tG : Nat → Int32}
variable {xst xnw xtc xtu xtn xcu xtd xtt xsr yfc yst ycf yev yfr ydo : Int32} {xtx xtl xcr eN eC eD eT eH eR tE tN fN fC fD fS fA fB fO fP fL fM : Nat → Int32}
theorem sm_start (cx : sm_cx n nc kn xno xrt nK nA nB nL nR) (hlim : lim ≤ 250) (hlim1 : 1 ≤ lim) (hdl : dl ≤ 8) (sj : sm_ch xsj 16) (vk : sm_vok xtx xtl) {r t : Nat} (hr : r < nc) (ht : t ≤ n) :
    sm_fin xms xnc xsd xlr xls xle yms ync ysp ylr yls yle lim dl n nc kn xno xsk xrt xsj nK nA nB nL nR ysk tS tG 324980 (xms, nI lim, nI dl, xnc, xsd, nI n, xlr, xls, xle, nI 0, sm_p 0, nI 0, 0, nI r, nI t, nI 0, sm_p 0, 3, xno, xsk, xrt, xsj, xtx, xtl, xcr, eN, eC, eD, eT, eH, eR, tE, tN)
      (yms, nI lim, nI dl, ync, ysp, nI n, ylr, yls, yle, nI 1, nI 1, nI 0, 0, yfr, 0, nK, nA, nB, nL, nR, ysk, xrt, xsj, xtx, xtl, xcr, upd fN 0 (nI r), upd fC 0 (nI t), upd fD 0 (nI 0), upd fS 0 (nI 0), upd fA 0 (sm_p 0), upd fB 0 (sm_p 0), upd fO 0 (-1), upd fP 0 (sm_p 0), upd fL 0 (sm_p 0), upd fM 0 (sm_p 0), tS, tG) := by
  have I0 := sm_g0i ht
  have only : ∀ f, sm_g0 t 15 f = 1 → f ≤ 0 := fun f hf => (I0.2.1 f hf).1
  obtain ⟨I1, E1⟩ := sm_des (p := 0) (nd := r) (kd := kn r) (dd := 0) (tk := 0) (ch := 0) I0 rfl (by show (0 : Nat) ≠ 1; omega) only (Nat.le_refl 12) (fun z => absurd z (by show (12 : Nat) ≠ 13; omega)) (fun z => absurd z (by show (12 : Nat) ≠ 18; omega)) (cx.2.2.1 r hr).2.2.1 (Or.inl ⟨Or.inl rfl, rfl⟩) (Or.inr ⟨Or.inl (by show (12 : Nat) ≠ 18; omega), rfl⟩)
  generalize hH : sm_nw (sm_g0 t) (0 + 1) 0 10 (sm_rw r (kn r) (sm_g0 t 2 0) 0 0 0 0 0 (sm_g0 t 8 0) (sm_g0 t 20 0 + 1)) = H at I1 E1
  have h : ∀ i, H i 1 = sm_rw r (kn r) (sm_g0 t 2 0) 0 0 0 0 0 (sm_g0 t 8 0) (sm_g0 t 20 0 + 1) i := fun i => by rw [← hH]; exact sm_nw_k
  have en : ∀ (A : Nat → Int32) (g : Nat → Nat), sm_en 1 (upd A 0 (nI (g 1))) g := by
    intro A g i hi
    have : i = 0 := by omega
    rw [this, pk_us]
  have ep : ∀ (A : Nat → Int32) (g : Nat → Nat), sm_ep 1 (upd A 0 (sm_p (g 1))) g := by
    intro A g i hi
    have : i = 0 := by omega
    rw [this, pk_us]
  have nz : ∀ f, 1 ≤ f → H 15 f = 1 → H 16 f = 1 → False := by
    intro f hf lf zf
    have := (I1.2.1 f lf).1
    have e : f = 1 := by omega
    rw [e, h] at zf
    have z : (0 : Nat) = 1 := zf
    omega
  have Y : sm_Y 1 H (upd fN 0 (nI r)) (upd fC 0 (nI t)) (upd fD 0 (nI 0)) (upd fS 0 (nI 0)) (upd fA 0 (sm_p 0)) (upd fB 0 (sm_p 0)) (upd fO 0 (-1)) (upd fP 0 (sm_p 0)) (upd fL 0 (sm_p 0)) (upd fM 0 (sm_p 0)) := by
    have a0 := en fN (H 0)
    have a2 := en fC (H 2)
    have a3 := en fD (H 3)
    have a9 := en fS (H 9)
    have a10 := ep fA (H 10)
    have a11 := ep fB (H 11)
    have a4 := ep fP (H 4)
    have a13 := ep fL (H 13)
    have a14 := ep fM (H 14)
    rw [h] at a0 a2 a3 a9 a10 a11 a4 a13 a14
    exact ⟨a0, a2, a3, a9, a10, a11, fun f hf lf zf => absurd (nz f hf lf zf) id, a4, a13, a14⟩
  have T : sm_T H tE tN := fun f hf lf zf _ => absurd (nz f hf lf zf) id
  have N : sm_N 1 nc kn H := by
    refine ⟨by rw [← hH]; exact sm_nw_p (by omega), ?_⟩
    intro f h1 h2
    have e : f = 1 := by omega
    rw [e, h, h, h]
    exact ⟨hr, rfl, Nat.zero_le _⟩
  have X : sm_X 0 H eN eC eD eT eH eR := ⟨fun i hi => absurd hi (by omega), fun i hi => absurd hi (by omega), fun i hi => absurd hi (by omega), fun i hi => absurd hi (by omega), fun i hi => absurd hi (by omega), fun i hi => absurd hi (by omega)⟩
  refine sm_sim cx hlim hdl sj 324981 324980 1 H (by omega) vk ⟨rfl, hlim1, Or.inr ⟨rfl, rfl, I1, Y, T, N, Or.inl ⟨0, rfl, E1, rfl, rfl, rfl, X, rfl, rfl, ?_, ?_, ?_, ?_, ?_, ?_, by omega⟩⟩⟩
  all_goals rw [h]; rfl
/-- one start on both sides -/
theorem sm_run (cx : sm_cx n nc kn xno xrt nK nA nB nL nR) (hlim : lim ≤ 250) (hlim1 : 1 ≤ lim) (hdl : dl ≤ 8) (sj : sm_ch xsj 16) (vk : sm_vok xtx xtl) {r t : Nat} (hr : r < nc) (ht : t ≤ n) :
    ∃ (xst' xnw' xtc' xtu' xtn' xcu' xtd' xtt' xsr' yfc' yst' ycf' yev' yfr' ydo' : Int32) (xtx' xtl' xcr' eN' eC' eD' eT' eH' eR' tE' tN' fN' fC' fD' fS' fA' fB' fO' fP' fL' fM' : Nat → Int32), sm_vok xtx' xtl' ∧ sm_end n nc kn xst' xnw' xtc' xtu' xtn' xcu' xtd' xtt' xsr' yfc' yst' ycf' yev' yfr' ydo' xtx' xtl' xcr' eN' eC' eD' eT' eH' eR' tE' tN' fN' fC' fD' fS' fA' fB' fO' fP' fL' fM' ∧
      (∀ post : Int32 → SX → Prop, post xsr' (xms, nI lim, nI dl, xnc, xsd, nI n, xlr, xls, xle, xst', xnw', xtc', xtu', xtn', xcu', xtd', xtt', xsr', xno, xsk, xrt, xsj, xtx', xtl', xcr', eN', eC', eD', eT', eH', eR', tE', tN') → wpX_searchFrom post (xms, nI lim, nI dl, xnc, xsd, nI n, xlr, xls, xle, xst, xnw, xtc, xtu, xtn, xcu, xtd, xtt, xsr, xno, xsk, xrt, xsj, xtx, xtl, xcr, eN, eC, eD, eT, eH, eR, tE, tN) (nI r) (nI t)) ∧
      (∀ post : Int32 → SY → Prop, post ydo' (yms, nI lim, nI dl, ync, ysp, nI n, ylr, yls, yle, yfc', yst', ycf', yev', yfr', ydo', nK, nA, nB, nL, nR, ysk, xrt, xsj, xtx', xtl', xcr', fN', fC', fD', fS', fA', fB', fO', fP', fL', fM', tS, tG) → wpY_runAt post (yms, nI lim, nI dl, ync, ysp, nI n, ylr, yls, yle, yfc, yst, ycf, yev, yfr, ydo, nK, nA, nB, nL, nR, ysk, xrt, xsj, xtx, xtl, xcr, fN, fC, fD, fS, fA, fB, fO, fP, fL, fM, tS, tG) (nI r) (nI t)) := by
  obtain ⟨xst', xnw', xtc', xtu', xtn', xcu', xtd', xtt', xsr', yfc', yst', ycf', yev', yfr', ydo', xtx', xtl', xcr', eN', eC', eD', eT', eH', eR', tE', tN', fN', fC', fD', fS', fA', fB', fO', fP', fL', fM', a, b, c, d⟩ := sm_start (fN := fN) (fC := fC) (fD := fD) (fS := fS) (fA := fA) (fB := fB) (fO := fO) (fP := fP) (fL := fL) (fM := fM) (eN := eN) (eC := eC) (eD := eD) (eT := eT) (eH := eH) (eR := eR) (tE := tE) (tN := tN) (xcr := xcr) (yfr := yfr) (xms := xms) (xnc := xnc) (xsd := xsd) (xlr := xlr) (xls := xls) (xle := xle) (yms := yms) (ync := ync) (ysp := ysp) (ylr := ylr) (yls := yls) (yle := yle) (xsk := xsk) (ysk := ysk) (tS := tS) (tG := tG) cx hlim hlim1 hdl sj vk hr ht
  refine ⟨xst', xnw', xtc', xtu', xtn', xcu', xtd', xtt', xsr', yfc', yst', ycf', yev', yfr', ydo', xtx', xtl', xcr', eN', eC', eD', eT', eH', eR', tE', tN', fN', fC', fD', fS', fA', fB', fO', fP', fL', fM', a, b, ?_, ?_⟩
  · intro post hp
    exact ⟨324982, c post 324982 0 (by omega) (by omega) hp⟩
  · intro post hp
    unfold wpY_runAt
    refine sy_beg0 (K := 0) (lim := lim) (by omega) (by omega) (fun z => absurd z (by omega)) (fun _ => ?_)
    exact ⟨324982, d post 324982 0 (by omega) (by omega) hp⟩
end
end
section
section
variable {yms ysl ydl ync ysp yn ylr yls yle yfc yst ycf yev yfr ydo : Int32} {nK nA nB nL nR ysk yrt ysj ytx ytl ycr fN fC fD fS fA fB fO fP fL fM tS tG : Nat → Int32}
variable {post : SY → Prop} {m j it e : Nat}
theorem sy_t0n (hi : it < 1000) (hj : j < 255) (he : e < 256) (hS : tS j = nI e) (hG : tG j = 0) (hL : fL e = -1)
    (h : wY_applyTriples_18 post m (nI (j + 1)) (nI (it + 1)) yms ysl ydl ync ysp yn ylr yls yle yfc yst ycf yev yfr ydo nK nA nB nL nR ysk yrt ysj ytx ytl ycr fN fC fD fS fA fB fO fP fL fM tS (upd tG j 1)) : wY_applyTriples_18 post (m + 1) (nI (j + 1)) (nI it) yms ysl ydl ync ysp yn ylr yls yle yfc yst ycf yev yfr ydo nK nA nB nL nR ysk yrt ysj ytx ytl ycr fN fC fD fS fA fB fO fP fL fM tS tG := by
  have vj : vp_in (nI j) 256 := vp_in_nI (by omega) (by omega)
  exact br_f (nI_ge (b := 1024) (by omega) (by omega)) (br_f (nI_nle (by omega) (by omega)) (nm_r (nI_pred j) ⟨vj, nm_r (sm_cg (by omega) hS) ⟨vj, br_t (sm_cg (f := tG) (by omega) hG) ⟨vj, nm_r (sm_up (by omega)) ⟨vp_in_nI he (by omega), nm_r (sm_cg (by omega) hL) (br_t (by decide) (nm_r (nI_1 it) h))⟩⟩⟩⟩))
theorem sy_t0c {c : Nat} (hi : it < 1000) (hj : j < 255) (he : e < 256) (hS : tS j = nI e) (hG : tG j = 0) (hc : c < 256) (hL : fL e = nI c)
    (h : wY_applyTriples_18 post m (nI (j + 1 + 1)) (nI (it + 1)) yms ysl ydl ync ysp yn ylr yls yle yfc yst ycf yev yfr ydo nK nA nB nL nR ysk yrt ysj ytx ytl ycr fN fC fD fS fA fB fO fP fL fM (upd tS (j + 1) (nI c)) (upd (upd tG j 1) (j + 1) 0)) : wY_applyTriples_18 post (m + 1) (nI (j + 1)) (nI it) yms ysl ydl ync ysp yn ylr yls yle yfc yst ycf yev yfr ydo nK nA nB nL nR ysk yrt ysj ytx ytl ycr fN fC fD fS fA fB fO fP fL fM tS tG := by
  have vj : vp_in (nI j) 256 := vp_in_nI (by omega) (by omega)
  have vj1 : vp_in (nI (j + 1)) 256 := vp_in_nI (by omega) (by omega)
  exact br_f (nI_ge (b := 1024) (by omega) (by omega)) (br_f (nI_nle (by omega) (by omega)) (nm_r (nI_pred j) ⟨vj, nm_r (sm_cg (by omega) hS) ⟨vj, br_t (sm_cg (f := tG) (by omega) hG) ⟨vj, nm_r (sm_up (by omega)) ⟨vp_in_nI he (by omega), nm_r (sm_cg (by omega) hL) (br_f (nI_pos (by omega)) (br_f (nI_ge (b := 256) (by omega) (by omega)) ⟨vj1, nm_r (sm_up (by omega)) ⟨vj1, nm_r (sm_up (by omega)) (nm_r (nI_1 (j + 1)) (nm_r (nI_1 it) h))⟩⟩))⟩⟩⟩⟩))
theorem sy_t1n (hi : it < 1000) (hj : j < 255) (he : e < 256) (hS : tS j = nI e) (hG : tG j = 1) (hL : fM e = -1)
    (h : wY_applyTriples_18 post m (nI (j + 1)) (nI (it + 1)) yms ysl ydl ync ysp yn ylr yls yle yfc yst ycf yev yfr ydo nK nA nB nL nR ysk yrt ysj ytx ytl ycr fN fC fD fS fA fB fO fP fL fM tS (upd tG j 2)) : wY_applyTriples_18 post (m + 1) (nI (j + 1)) (nI it) yms ysl ydl ync ysp yn ylr yls yle yfc yst ycf yev yfr ydo nK nA nB nL nR ysk yrt ysj ytx ytl ycr fN fC fD fS fA fB fO fP fL fM tS tG := by
  have vj : vp_in (nI j) 256 := vp_in_nI (by omega) (by omega)
  have g1 : tG (nI j).toNatClampNeg = 1 := sm_cg (by omega) hG
  have g0 : ¬ tG (nI j).toNatClampNeg = 0 := by rw [g1]; decide
  exact br_f (nI_ge (b := 1024) (by omega) (by omega)) (br_f (nI_nle (by omega) (by omega)) (nm_r (nI_pred j) ⟨vj, nm_r (sm_cg (by omega) hS) ⟨vj, br_f g0 ⟨vj, br_t g1 ⟨vj, nm_r (sm_up (by omega)) ⟨vp_in_nI he (by omega), nm_r (sm_cg (by omega) hL) (br_t (by decide) (nm_r (nI_1 it) h))⟩⟩⟩⟩⟩))
theorem sy_t1c {c : Nat} (hi : it < 1000) (hj : j < 255) (he : e < 256) (hS : tS j = nI e) (hG : tG j = 1) (hc : c < 256) (hL : fM e = nI c)
    (h : wY_applyTriples_18 post m (nI (j + 1 + 1)) (nI (it + 1)) yms ysl ydl ync ysp yn ylr yls yle yfc yst ycf yev yfr ydo nK nA nB nL nR ysk yrt ysj ytx ytl ycr fN fC fD fS fA fB fO fP fL fM (upd tS (j + 1) (nI c)) (upd (upd tG j 2) (j + 1) 0)) : wY_applyTriples_18 post (m + 1) (nI (j + 1)) (nI it) yms ysl ydl ync ysp yn ylr yls yle yfc yst ycf yev yfr ydo nK nA nB nL nR ysk yrt ysj ytx ytl ycr fN fC fD fS fA fB fO fP fL fM tS tG := by
  have vj : vp_in (nI j) 256 := vp_in_nI (by omega) (by omega)
  have vj1 : vp_in (nI (j + 1)) 256 := vp_in_nI (by omega) (by omega)
  have g1 : tG (nI j).toNatClampNeg = 1 := sm_cg (by omega) hG
  have g0 : ¬ tG (nI j).toNatClampNeg = 0 := by rw [g1]; decide
  exact br_f (nI_ge (b := 1024) (by omega) (by omega)) (br_f (nI_nle (by omega) (by omega)) (nm_r (nI_pred j) ⟨vj, nm_r (sm_cg (by omega) hS) ⟨vj, br_f g0 ⟨vj, br_t g1 ⟨vj, nm_r (sm_up (by omega)) ⟨vp_in_nI he (by omega), nm_r (sm_cg (by omega) hL) (br_f (nI_pos (by omega)) (br_f (nI_ge (b := 256) (by omega) (by omega)) ⟨vj1, nm_r (sm_up (by omega)) ⟨vj1, nm_r (sm_up (by omega)) (nm_r (nI_1 (j + 1)) (nm_r (nI_1 it) h))⟩⟩))⟩⟩⟩⟩⟩))
theorem sy_m1 (j : Nat) : nI (j + 1) + (-1) = nI j := by rw [nI_succ]; grind
theorem sy_t2n {i k : Nat} (hi : it < 1000) (hj : j < 255) (he : e < 256) (hS : tS j = nI e) (hG : tG j = 2) (hN : fN e = nI i) (h32 : i < 32) (hK : nK i = nI k) (k0 : k ≠ 16) (k1 : k < 1000)
    (h : wY_applyTriples_18 post m (nI j) (nI (it + 1)) yms ysl ydl ync ysp yn ylr yls yle yfc yst ycf yev yfr ydo nK nA nB nL nR ysk yrt ysj ytx ytl ycr fN fC fD fS fA fB fO fP fL fM tS tG) : wY_applyTriples_18 post (m + 1) (nI (j + 1)) (nI it) yms ysl ydl ync ysp yn ylr yls yle yfc yst ycf yev yfr ydo nK nA nB nL nR ysk yrt ysj ytx ytl ycr fN fC fD fS fA fB fO fP fL fM tS tG := by
  have vj : vp_in (nI j) 256 := vp_in_nI (by omega) (by omega)
  have ve : vp_in (nI e) 256 := vp_in_nI (by omega) (by omega)
  have g1 : tG (nI j).toNatClampNeg = 2 := sm_cg (by omega) hG
  have g0 : ¬ tG (nI j).toNatClampNeg = 0 := by rw [g1]; decide
  have g2 : ¬ tG (nI j).toNatClampNeg = 1 := by rw [g1]; decide
  have en : fN (nI e).toNatClampNeg = nI i := sm_cg (by omega) hN
  have vn : vp_in (fN (nI e).toNatClampNeg) 32 := by rw [en]; exact vp_in_nI h32 (by omega)
  have ek : ¬ nK (fN (nI e).toNatClampNeg).toNatClampNeg = 16 := by rw [en, sm_cg (f := nK) (by omega) hK]; exact sm_ne 16 k0 k1 (by omega)
  exact br_f (nI_ge (b := 1024) (by omega) (by omega)) (br_f (nI_nle (by omega) (by omega)) (nm_r (nI_pred j) ⟨vj, nm_r (sm_cg (by omega) hS) ⟨vj, br_f g0 ⟨vj, br_f g2 ⟨ve, vn, br_f ek (nm_r (sy_m1 j) (br_t (by decide) (nm_r (nI_1 it) h)))⟩⟩⟩⟩))
theorem sy_t2c {i a c b n : Nat} (hi : it < 1000) (hj : j < 255) (he : e < 256) (hS : tS j = nI e) (hG : tG j = 2) (hN : fN e = nI i) (h32 : i < 32) (hK : nK i = nI 16) (hA : nA i = nI a) (ha : a ≤ 7)
    (hC : fC e = nI c) (hO : fO e = nI b) (cb : c ≤ b) (bn : b ≤ n) (hn : n ≤ 16)
    (h : wY_applyTriples_18 post m (nI j) (nI (it + 1)) yms ysl ydl ync ysp (nI n) ylr yls yle yfc yst ycf yev yfr ydo nK nA nB nL nR ysk yrt ysj (sm_put ysj ytx a c (b - c)) (upd ytl a (nI (b - c))) ycr fN fC fD fS fA fB fO fP fL fM tS tG) : wY_applyTriples_18 post (m + 1) (nI (j + 1)) (nI it) yms ysl ydl ync ysp (nI n) ylr yls yle yfc yst ycf yev yfr ydo nK nA nB nL nR ysk yrt ysj ytx ytl ycr fN fC fD fS fA fB fO fP fL fM tS tG := by
  have vj : vp_in (nI j) 256 := vp_in_nI (by omega) (by omega)
  have ve : vp_in (nI e) 256 := vp_in_nI (by omega) (by omega)
  have g1 : tG (nI j).toNatClampNeg = 2 := sm_cg (by omega) hG
  have g0 : ¬ tG (nI j).toNatClampNeg = 0 := by rw [g1]; decide
  have g2 : ¬ tG (nI j).toNatClampNeg = 1 := by rw [g1]; decide
  have en : fN (nI e).toNatClampNeg = nI i := sm_cg (by omega) hN
  have vn : vp_in (fN (nI e).toNatClampNeg) 32 := by rw [en]; exact vp_in_nI h32 (by omega)
  have ek : nK (fN (nI e).toNatClampNeg).toNatClampNeg = 16 := by rw [en, sm_cg (f := nK) (by omega) hK]; rfl
  have ea : nA (fN (nI e).toNatClampNeg).toNatClampNeg = nI a := by rw [en, sm_cg (f := nA) (by omega) hA]
  have ec : fC (nI e).toNatClampNeg = nI c := sm_cg (by omega) hC
  have eo : fO (nI e).toNatClampNeg = nI b := sm_cg (by omega) hO
  refine br_f (nI_ge (b := 1024) (by omega) (by omega)) (br_f (nI_nle (by omega) (by omega)) (nm_r (nI_pred j) ⟨vj, nm_r (sm_cg (by omega) hS) ⟨vj, br_f g0 ⟨vj, br_f g2 ⟨ve, vn, br_t ek ⟨ve, vn, ve, ve, ?_⟩⟩⟩⟩⟩))
  rw [ea, ec, eo]
  exact sy_setVar ha cb bn hn (nm_r (sy_m1 j) (br_t (by decide) (nm_r (nI_1 it) h)))
end
section
variable {xms xsl xdl xnc xsd xn xlr xls xle xst xnw xtc xtu xtn xcu xtd xtt xsr : Int32} {xno xsk xrt xsj xtx xtl xcr eN eC eD eT eH eR tE tN : Nat → Int32}
theorem sx_t {post : SX → Prop} {m t i e nd a c b : Nat} (ht : t ≤ 250) (hi : i < t) (hE : tE i = nI e) (he : e < 250) (hN : eN e = nI nd) (hn : nd < 32) (h1 : xno (5 * nd + 1) = nI a) (ha : a ≤ 7)
    (hC : eC e = nI c) (hb : tN i = nI b) (cb : c ≤ b) (b16 : b ≤ 16)
    (h : wX_applyTriples_2 post m (nI (i + 1)) xms xsl xdl xnc xsd xn xlr xls xle xst xnw (nI t) xtu xtn xcu xtd xtt xsr xno xsk xrt xsj (sm_put xsj xtx a c (b - c)) (upd xtl a (nI (b - c))) xcr eN eC eD eT eH eR tE tN) : wX_applyTriples_2 post (m + 1) (nI i) xms xsl xdl xnc xsd xn xlr xls xle xst xnw (nI t) xtu xtn xcu xtd xtt xsr xno xsk xrt xsj xtx xtl xcr eN eC eD eT eH eR tE tN := by
  have en : eN (nI e).toNatClampNeg = nI nd := sm_cg (by omega) hN
  have ec : eC (nI e).toNatClampNeg = nI c := sm_cg (by omega) hC
  have eb : tN (nI i).toNatClampNeg = nI b := sm_cg (by omega) hb
  have vn : vp_in (eN (nI e).toNatClampNeg * 5 + 1) 160 := by rw [en]; exact sm_in5 1 hn (by omega)
  have ea : xno (eN (nI e).toNatClampNeg * 5 + 1).toNatClampNeg = nI a := by rw [en]; exact sm_c5 1 hn (by omega) h1
  have vi : vp_in (nI i) 250 := vp_in_nI (by omega) (by omega)
  have ve : vp_in (nI e) 250 := vp_in_nI (by omega) (by omega)
  refine br_f (nI_ge (by omega) (by omega)) ⟨vi, nm_r (sm_cg (by omega) hE) ⟨ve, vn, nm_r ea ⟨ve, vi, ?_⟩⟩⟩
  rw [ec, eb]
  exact sx_setText ha cb b16 (nm_r (nI_1 i) h)
theorem sx_tend {post : SX → Prop} {m i : Nat} (hp : post (xms, xsl, xdl, xnc, xsd, xn, xlr, xls, xle, xst, xnw, nI i, xtu, xtn, xcu, xtd, xtt, xsr, xno, xsk, xrt, xsj, xtx, xtl, xcr, eN, eC, eD, eT, eH, eR, tE, tN)) (hi : i < 1000) : wX_applyTriples_2 post (m + 1) (nI i) xms xsl xdl xnc xsd xn xlr xls xle xst xnw (nI i) xtu xtn xcu xtd xtt xsr xno xsk xrt xsj xtx xtl xcr eN eC eD eT eH eR tE tN :=
  br_t (nI_le (Nat.le_refl i) (by omega)) hp
end
end
section
section
variable {xms xnc xsd xlr xls xle yms ync ysp ylr yls yle : Int32} {lim dl n nc : Nat} {kn : Nat → Nat} {xno xsk xrt xsj nK nA nB nL nR ysk tS tG : Nat → Int32}
variable {xst xnw xtc xtu xtn xcu xtd xtt xsr yfc yst ycf yev yfr ydo : Int32} {xtx xtl xcr eN eC eD eT eH eR tE tN fN fC fD fS fA fB fO fP fL fM : Nat → Int32}
variable {K t : Nat} {G : Nat → Nat → Nat}
theorem sm_dfs (cx : sm_cx n nc kn xno xrt nK nA nB nL nR) (sj : sm_ch xsj 16) (hK : K ≤ 250) (I : sm_inv K n G) (X : sm_X K G eN eC eD eT eH eR) (Y : sm_Y K G fN fC fD fS fA fB fO fP fL fM) (T : sm_T G tE tN) (N : sm_N K nc kn G)
    (ht : t ≤ 250) (mt : ∀ g, G 15 g = 1 → G 16 g = 1 → G 19 g ≤ t) :
    ∀ sz f j it (tS tG xtx xtl : Nat → Int32), G 17 (f + 1) - (f + 1) ≤ sz → G 15 (f + 1) = 1 → G 16 (f + 1) = 1 → j + (G 17 (f + 1) - (f + 1)) ≤ 254 → it + 3 * (G 17 (f + 1) - (f + 1)) ≤ 1000 →
      tS j = nI f → tG j = 0 → sm_vok xtx xtl →
      ∃ k m, ∃ tS' tG' tx' tl' : Nat → Int32, m ≤ 3 * (G 17 (f + 1) - (f + 1)) ∧ sm_vok tx' tl' ∧ (∀ i, i < j → tS' i = tS i ∧ tG' i = tG i) ∧
        (∀ post w, wX_applyTriples_2 post w (nI (G 19 (f + 1))) xms (nI lim) (nI dl) xnc xsd (nI n) xlr xls xle xst xnw (nI t) xtu xtn xcu xtd xtt xsr xno xsk xrt xsj tx' tl' xcr eN eC eD eT eH eR tE tN → wX_applyTriples_2 post (w + k) (nI (G 8 (f + 1))) xms (nI lim) (nI dl) xnc xsd (nI n) xlr xls xle xst xnw (nI t) xtu xtn xcu xtd xtt xsr xno xsk xrt xsj xtx xtl xcr eN eC eD eT eH eR tE tN) ∧
        (∀ post w, wY_applyTriples_18 post w (nI j) (nI (it + m)) yms (nI lim) (nI dl) ync ysp (nI n) ylr yls yle yfc yst ycf yev yfr ydo nK nA nB nL nR ysk xrt xsj tx' tl' xcr fN fC fD fS fA fB fO fP fL fM tS' tG' → wY_applyTriples_18 post (w + m) (nI (j + 1)) (nI it) yms (nI lim) (nI dl) ync ysp (nI n) ylr yls yle yfc yst ycf yev yfr ydo nK nA nB nL nR ysk xrt xsj xtx xtl xcr fN fC fD fS fA fB fO fP fL fM tS tG) := by
  intro sz
  induction sz with
  | zero =>
    intro f j it tS tG xtx xtl hs lf zf
    have := (I.2.2.2.1 _ lf zf).1
    omega
  | succ sz ih =>
    intro f j it tS tG xtx xtl hs lf zf hj hi hS hG vk
    have F := I.2.2.2.1 _ lf zf
    have z1 := F.1
    have z2 := F.2.1
    have z4 := F.2.2.2.1
    have z5 := F.2.2.2.2.1
    have fK : f < K := (I.2.1 _ lf).1
    have f256 : f < 256 := by omega
    have c16 := cx.2.1
    have hnd := (N.2 (f + 1) (Nat.succ_pos f) fK).1
    have hkd := (N.2 (f + 1) (Nat.succ_pos f) fK).2.1
    have D := cx.2.2.1 _ hnd
    have i32 : G 0 (f + 1) < 32 := Nat.lt_of_lt_of_le hnd cx.1
    have hkk : nK (G 0 (f + 1)) = nI (G 1 (f + 1)) := by rw [hkd]; exact D.1
    have k1000 : G 1 (f + 1) < 1000 := by have := (I.2.1 _ lf).2.2.2.2.1; omega
    have y1 : fN f = nI (G 0 (f + 1)) := Y.1 f fK
    have y2 : fC f = nI (G 2 (f + 1)) := Y.2.1 f fK
    have y7 : fO f = nI (G 12 (f + 1)) := Y.2.2.2.2.2.2.1 (f + 1) (Nat.succ_pos f) lf zf
    have y9 : fL f = sm_p (G 13 (f + 1)) := Y.2.2.2.2.2.2.2.2.1 f fK
    have y10 : fM f = sm_p (G 14 (f + 1)) := Y.2.2.2.2.2.2.2.2.2 f fK
    rcases F.2.2.2.2.2 with f0 | f1 | f2
    · obtain ⟨a1, a2, a3, a4, a5, a6⟩ := f0
      rw [a2, sm_p0] at y9
      rw [a3, sm_p0] at y10
      have k16 : G 1 (f + 1) ≠ 16 := by omega
      refine ⟨0, 3, tS, upd (upd tG j 1) j 2, xtx, xtl, by omega, vk, fun i h => ⟨rfl, by rw [pk_un (by omega), pk_un (by omega)]⟩, ?_, ?_⟩
      · intro post w h
        rw [← a4]; exact h
      · intro post w h
        exact sy_t0n (m := w + 2) (by omega) (by omega) f256 hS hG y9 (sy_t1n (m := w + 1) (by omega) (by omega) f256 hS pk_us y10 (sy_t2n (m := w) (by omega) (by omega) f256 hS pk_us y1 i32 hkk k16 k1000 h))
    · obtain ⟨a1, a2, a3, a4, a5, a6, a7⟩ := f1
      obtain ⟨b1, b2, b3, b4, b5, b6⟩ := a2
      obtain ⟨c, hc⟩ : ∃ c, G 10 (f + 1) = c + 1 := ⟨G 10 (f + 1) - 1, by omega⟩
      rw [hc] at b1 b2 b3 b4 b5 b6 a4 a6
      have Lc := I.2.2.1 (c + 1) (Nat.succ_pos c) b2
      rw [b4] at Lc
      have fc := Lc.1
      have cK : c < K := (I.2.1 _ b2).1
      have zc := (I.2.2.2.1 _ b2 b3).1
      have trc : G 8 (c + 1) = G 8 (f + 1) := by
        rcases Lc.2.2.2.2.2.2 with r | r
        · exact r.2.2.1
        · have := r.2.1; omega
      rw [a4, sm_ps] at y9
      rw [a5, sm_p0] at y10
      obtain ⟨k1, m1, tS2, tG2, tx2, tl2, m1b, vk2, ag, hx, hy⟩ := ih c (j + 1) (it + 1) (upd tS (j + 1) (nI c)) (upd (upd tG j 1) (j + 1) 0) xtx xtl (by omega) b2 b3 (by omega) (by omega) pk_us pk_us vk
      have s2 : tS2 j = nI f := by rw [(ag j (by omega)).1, pk_un (by omega)]; exact hS
      have g2 : tG2 j = 1 := by rw [(ag j (by omega)).2, pk_un (by omega), pk_us]
      have low : ∀ i, i < j → tS2 i = tS i ∧ upd tG2 j 2 i = tG i := by
        intro i hi
        rw [(ag i (by omega)).1, pk_un (by omega), pk_un (by omega), (ag i (by omega)).2, pk_un (by omega), pk_un (by omega)]
        exact ⟨rfl, rfl⟩
      by_cases k16 : G 1 (f + 1) = 16
      · obtain ⟨a, ha, hA⟩ := sm_nd10 D (by rw [← hkd]; omega)
        have tt := T (f + 1) (Nat.succ_pos f) lf zf k16
        have e1 : G 19 (f + 1) = G 19 (c + 1) + 1 := by omega
        have e2 : G 19 (f + 1) - 1 = G 19 (c + 1) := by omega
        rw [e2] at tt
        have mtf := mt _ lf zf
        have x1 : eN f = nI (G 0 (f + 1)) := X.1 f fK
        have x2 : eC f = nI (sm_ec G (f + 1)) := X.2.1 f fK
        rw [sm_ne10 (by omega)] at x2
        refine ⟨1 + k1, m1 + 3, tS2, upd tG2 j 2, sm_put xsj tx2 a (G 2 (f + 1)) (G 12 (f + 1) - G 2 (f + 1)), upd tl2 a (nI (G 12 (f + 1) - G 2 (f + 1))), by omega, sm_put_ok sj vk2 ha z4 (by omega), low, ?_, ?_⟩
        · intro post w h
          have e3 : w + (1 + k1) = w + 1 + k1 := by omega
          rw [e3, ← trc]
          rw [e1] at h
          exact hx post (w + 1) (sx_t ht (by omega) tt.1 (by omega) x1 i32 (D.2.2.2.2.1.trans hA) ha x2 tt.2 z4 (by omega) h)
        · intro post w h
          have e3 : w + (m1 + 3) = w + 1 + 1 + m1 + 1 := by omega
          have e4 : it + (m1 + 3) = it + 1 + m1 + 1 + 1 := by omega
          rw [e3]
          rw [e4] at h
          exact sy_t0c (by omega) (by omega) f256 hS hG (by omega) y9 (hy post (w + 1 + 1) (sy_t1n (by omega) (by omega) f256 s2 g2 y10 (sy_t2c (by omega) (by omega) f256 s2 pk_us y1 i32 (hkk.trans (sm_eqI k16)) hA ha y2 y7 z4 z5 c16 h)))
      · have e1 : G 19 (f + 1) = G 19 (c + 1) := by omega
        refine ⟨k1, m1 + 3, tS2, upd tG2 j 2, tx2, tl2, by omega, vk2, low, ?_, ?_⟩
        · intro post w h
          rw [← trc]
          rw [e1] at h
          exact hx post w h
        · intro post w h
          have e3 : w + (m1 + 3) = w + 1 + 1 + m1 + 1 := by omega
          have e4 : it + (m1 + 3) = it + 1 + m1 + 1 + 1 := by omega
          rw [e3]
          rw [e4] at h
          exact sy_t0c (by omega) (by omega) f256 hS hG (by omega) y9 (hy post (w + 1 + 1) (sy_t1n (by omega) (by omega) f256 s2 g2 y10 (sy_t2n (by omega) (by omega) f256 s2 pk_us y1 i32 hkk k16 k1000 h)))
    · obtain ⟨a1, a2, a3, a4, a5, a6, a7⟩ := f2
      obtain ⟨b1, b2, b3, b4, b5, b6⟩ := a2
      obtain ⟨b, hb⟩ : ∃ b, G 11 (f + 1) = b + 1 := ⟨G 11 (f + 1) - 1, by omega⟩
      rw [hb] at b1 b2 b3 b4 b5 b6 a3 a5 a6
      have Lb := I.2.2.1 (b + 1) (Nat.succ_pos b) b2
      rw [b4] at Lb
      have sb : sm_s1 G (b + 1) (f + 1) := by
        rcases Lb.2.2.2.2.2.2 with r | r
        · have := r.1; omega
        · exact r
      obtain ⟨d1, d2, d3, d4, d5, d6, d7, d8, d9, d10, d11, d12, d13⟩ := sb
      obtain ⟨c, hc⟩ : ∃ c, G 10 (f + 1) = c + 1 := ⟨G 10 (f + 1) - 1, by omega⟩
      rw [hc] at d4 d5 d6 d7 d8 d9 d10 a4
      have Lc := I.2.2.1 (c + 1) (Nat.succ_pos c) d4
      rw [d8] at Lc
      have fc := Lc.1
      have bK : b < K := (I.2.1 _ b2).1
      have zb := (I.2.2.2.1 _ b2 b3).1
      have zc := (I.2.2.2.1 _ d4 d5).1
      have trc : G 8 (c + 1) = G 8 (f + 1) := by
        rcases Lc.2.2.2.2.2.2 with r | r
        · exact r.2.2.1
        · have := r.1; omega
      have k16 : G 1 (f + 1) ≠ 16 := by omega
      rw [a4, sm_ps] at y9
      rw [a5, sm_ps] at y10
      obtain ⟨k1, m1, tS2, tG2, tx2, tl2, m1b, vk2, ag, hx, hy⟩ := ih c (j + 1) (it + 1) (upd tS (j + 1) (nI c)) (upd (upd tG j 1) (j + 1) 0) xtx xtl (by omega) d4 d5 (by omega) (by omega) pk_us pk_us vk
      have s2 : tS2 j = nI f := by rw [(ag j (by omega)).1, pk_un (by omega)]; exact hS
      have g2 : tG2 j = 1 := by rw [(ag j (by omega)).2, pk_un (by omega), pk_us]
      obtain ⟨k2, m2, tS3, tG3, tx3, tl3, m2b, vk3, ag3, hx3, hy3⟩ := ih b (j + 1) (it + 1 + m1 + 1) (upd tS2 (j + 1) (nI b)) (upd (upd tG2 j 2) (j + 1) 0) tx2 tl2 (by omega) b2 b3 (by omega) (by omega) pk_us pk_us vk2
      have s3 : tS3 j = nI f := by rw [(ag3 j (by omega)).1, pk_un (by omega)]; exact s2
      have g3 : tG3 j = 2 := by rw [(ag3 j (by omega)).2, pk_un (by omega), pk_us]
      have low : ∀ i, i < j → tS3 i = tS i ∧ tG3 i = tG i := by
        intro i hi
        rw [(ag3 i (by omega)).1, (ag3 i (by omega)).2, pk_un (by omega), pk_un (by omega), pk_un (by omega), (ag i (by omega)).1, (ag i (by omega)).2, pk_un (by omega), pk_un (by omega), pk_un (by omega)]
        exact ⟨rfl, rfl⟩
      refine ⟨k2 + k1, m2 + m1 + 3, tS3, tG3, tx3, tl3, by omega, vk3, low, ?_, ?_⟩
      · intro post w h
        have e3 : w + (k2 + k1) = w + k2 + k1 := by omega
        rw [e3, ← trc]
        rw [a6] at h
        have h2 := hx3 post w h
        rw [d10] at h2
        exact hx post (w + k2) h2
      · intro post w h
        have e3 : w + (m2 + m1 + 3) = w + 1 + m2 + 1 + m1 + 1 := by omega
        have e4 : it + (m2 + m1 + 3) = it + 1 + m1 + 1 + m2 + 1 := by omega
        rw [e3]
        rw [e4] at h
        exact sy_t0c (by omega) (by omega) f256 hS hG (by omega) y9 (hy post (w + 1 + m2 + 1) (sy_t1c (by omega) (by omega) f256 s2 g2 (by omega) y10 (hy3 post (w + 1) (sy_t2n (by omega) (by omega) f256 s3 g3 y1 i32 hkk k16 k1000 h))))
/-- the triples carried out on both sides -/
theorem sm_apply (cx : sm_cx n nc kn xno xrt nK nA nB nL nR) (sj : sm_ch xsj 16) (hK : K ≤ 250) (I : sm_inv K n G) (E : sm_e2 K G 1) (X : sm_X K G eN eC eD eT eH eR) (Y : sm_Y K G fN fC fD fS fA fB fO fP fL fM) (T : sm_T G tE tN) (N : sm_N K nc kn G) (vk : sm_vok xtx xtl) :
    ∃ tS' tG' tx' tl' : Nat → Int32, sm_vok tx' tl' ∧ (∀ post : SX → Prop, post (xms, nI lim, nI dl, xnc, xsd, nI n, xlr, xls, xle, xst, xnw, nI (G 19 1), xtu, xtn, xcu, xtd, xtt, xsr, xno, xsk, xrt, xsj, tx', tl', xcr, eN, eC, eD, eT, eH, eR, tE, tN) → wpX_applyTriples post (xms, nI lim, nI dl, xnc, xsd, nI n, xlr, xls, xle, xst, xnw, nI (G 19 1), xtu, xtn, xcu, xtd, xtt, xsr, xno, xsk, xrt, xsj, xtx, xtl, xcr, eN, eC, eD, eT, eH, eR, tE, tN)) ∧
      (∀ post : SY → Prop, post (yms, nI lim, nI dl, ync, ysp, nI n, ylr, yls, yle, yfc, yst, ycf, yev, yfr, ydo, nK, nA, nB, nL, nR, ysk, xrt, xsj, tx', tl', xcr, fN, fC, fD, fS, fA, fB, fO, fP, fL, fM, tS', tG') → wpY_applyTriples post (yms, nI lim, nI dl, ync, ysp, nI n, ylr, yls, yle, yfc, yst, ycf, yev, yfr, ydo, nK, nA, nB, nL, nR, ysk, xrt, xsj, xtx, xtl, xcr, fN, fC, fD, fS, fA, fB, fO, fP, fL, fM, tS, tG)) := by
  have hi1 := E.2.2.2.1
  have F := I.2.2.2.1 1 E.2.1 E.2.2.1
  have B := I.2.1 1 E.2.1
  have t0 : G 8 1 = 0 := by have := B.2.1; omega
  have t250 : G 19 1 ≤ 250 := by have := F.2.2.1; omega
  have hi2 : G 17 (0 + 1) = K + 1 := hi1
  obtain ⟨k, m, tS', tG', tx', tl', mb, vk', _, hx, hy⟩ := sm_dfs (t := G 19 1) (xms := xms) (xnc := xnc) (xsd := xsd) (xlr := xlr) (xls := xls) (xle := xle) (yms := yms) (ync := ync) (ysp := ysp) (ylr := ylr) (yls := yls) (yle := yle) (lim := lim) (dl := dl) (xsk := xsk) (ysk := ysk) (xst := xst) (xnw := xnw) (xtu := xtu) (xtn := xtn) (xcu := xcu) (xtd := xtd) (xtt := xtt) (xsr := xsr) (yfc := yfc) (yst := yst) (ycf := ycf) (yev := yev) (yfr := yfr) (ydo := ydo) (xcr := xcr) cx sj hK I X Y T N t250 E.2.2.2.2.2.1 250 0 0 0 (upd tS 0 0) (upd tG 0 0) xtx xtl (by omega) E.2.1 E.2.2.1 (by omega) (by omega) pk_us pk_us vk
  refine ⟨tS', tG', tx', tl', vk', ?_, ?_⟩
  · intro post hp
    refine ⟨1 + k, ?_⟩
    have h := hx post 1 (sx_tend hp (Nat.lt_of_le_of_lt t250 (by decide)))
    rw [t0] at h
    exact h
  · intro post hp
    refine nm_r rfl (nm_r rfl ⟨1 + m, hy post 1 ?_⟩)
    refine br_f (nI_ge (b := 1024) (by omega) (by omega)) (br_t (by decide) hp)
end
end
section
section
variable {xms xnc xsd xlr xls xle yms ync ysp ylr yls yle : Int32} {lim dl n nc : Nat} {kn : Nat → Nat} {xno xsk xrt xsj nK nA nB nL nR ysk tS tG : Nat → Int32}
theorem sm_match (cx : sm_cx n nc kn xno xrt nK nA nB nL nR) (hlim : lim ≤ 250) (hlim1 : 1 ≤ lim) (hdl : dl ≤ 8) (sj : sm_ch xsj 16) {v r last : Nat} (hv : v < 4) (hr : r < nc) (hvr : xrt v = nI r) (hl : last ≤ n) :
    ∀ d t (xst xnw xtc xtu xtn xcu xtd xtt xsr yfc yst ycf yev yfr ydo : Int32) (xtx xtl xcr eN eC eD eT eH eR tE tN fN fC fD fS fA fB fO fP fL fM : Nat → Int32) (tS tG : Nat → Int32), t + d = last + 1 → sm_vok xtx xtl →
      ∃ (res s e : Int32) (tS' tG' : Nat → Int32) (xst' xnw' xtc' xtu' xtn' xcu' xtd' xtt' xsr' yfc' yst' ycf' yev' yfr' ydo' : Int32) (xtx' xtl' xcr' eN' eC' eD' eT' eH' eR' tE' tN' fN' fC' fD' fS' fA' fB' fO' fP' fL' fM' : Nat → Int32), sm_vok xtx' xtl' ∧
        (∀ (post : Int32 → SX → Prop) m, d + 2 ≤ m → post res (xms, nI lim, nI dl, xnc, xsd, nI n, res, s, e, xst', xnw', xtc', xtu', xtn', xcu', xtd', xtt', xsr', xno, xsk, xrt, xsj, xtx', xtl', xcr', eN', eC', eD', eT', eH', eR', tE', tN') → wX_match_56 post (nI v) (nI last) m (nI t) xms (nI lim) (nI dl) xnc xsd (nI n) 0 (-1) (-1) xst xnw xtc xtu xtn xcu xtd xtt xsr xno xsk xrt xsj xtx xtl xcr eN eC eD eT eH eR tE tN) ∧
        (∀ (post : Int32 → SY → Prop) m, d + 2 ≤ m → post res (yms, nI lim, nI dl, ync, ysp, nI n, res, s, e, yfc', yst', ycf', yev', yfr', ydo', nK, nA, nB, nL, nR, ysk, xrt, xsj, xtx', xtl', xcr', fN', fC', fD', fS', fA', fB', fO', fP', fL', fM', tS', tG') → wY_match_49 post (nI v) (nI last) m 0 (-1) (-1) (nI t) yms (nI lim) (nI dl) ync ysp (nI n) ylr yls yle yfc yst ycf yev yfr ydo nK nA nB nL nR ysk xrt xsj xtx xtl xcr fN fC fD fS fA fB fO fP fL fM tS tG) := by
  intro d
  induction d with
  | zero =>
    intro t xst xnw xtc xtu xtn xcu xtd xtt xsr yfc yst ycf yev yfr ydo xtx xtl xcr eN eC eD eT eH eR tE tN fN fC fD fS fA fB fO fP fL fM tS tG h vk
    refine ⟨0, -1, -1, tS, tG, xst, xnw, xtc, xtu, xtn, xcu, xtd, xtt, xsr, yfc, yst, ycf, yev, yfr, ydo, xtx, xtl, xcr, eN, eC, eD, eT, eH, eR, tE, tN, fN, fC, fD, fS, fA, fB, fO, fP, fL, fM, vk, ?_, ?_⟩
    · intro post m hm hp
      obtain ⟨m, rfl⟩ : ∃ k, m = k + 1 := ⟨m - 1, by omega⟩
      exact br_t (nI_lt (by omega) (by have := cx.2.1; omega)) hp
    · intro post m hm hp
      obtain ⟨m, rfl⟩ : ∃ k, m = k + 1 := ⟨m - 1, by omega⟩
      exact br_t (nI_lt (by omega) (by have := cx.2.1; omega)) (br_f (by decide) hp)
  | succ d ih =>
    intro t xst xnw xtc xtu xtn xcu xtd xtt xsr yfc yst ycf yev yfr ydo xtx xtl xcr eN eC eD eT eH eR tE tN fN fC fD fS fA fB fO fP fL fM tS tG h vk
    have c16 := cx.2.1
    have ev : xrt (nI v).toNatClampNeg = nI r := sm_cg (by omega) hvr
    have v4 : vp_in (nI v) 4 := vp_in_nI hv (by omega)
    have lt : ¬ nI last < nI t := nI_nlt (by omega) (by omega)
    obtain ⟨xst', xnw', xtc', xtu', xtn', xcu', xtd', xtt', xsr', yfc', yst', ycf', yev', yfr', ydo', xtx', xtl', xcr', eN', eC', eD', eT', eH', eR', tE', tN', fN', fC', fD', fS', fA', fB', fO', fP', fL', fM', vk', en, hx, hy⟩ := sm_run (xst := xst) (xnw := xnw) (xtc := xtc) (xtu := xtu) (xtn := xtn) (xcu := xcu) (xtd := xtd) (xtt := xtt) (xsr := xsr) (yfc := yfc) (yst := yst) (ycf := ycf) (yev := yev) (yfr := yfr) (ydo := ydo) (xcr := xcr) (eN := eN) (eC := eC) (eD := eD) (eT := eT) (eH := eH) (eR := eR) (tE := tE) (tN := tN) (fN := fN) (fC := fC) (fD := fD) (fS := fS) (fA := fA) (fB := fB) (fO := fO) (fP := fP) (fL := fL) (fM := fM) (xms := xms) (xnc := xnc) (xsd := xsd) (xlr := 0) (xls := -1) (xle := -1) (yms := yms) (ync := ync) (ysp := ysp) (ylr := ylr) (yls := yls) (yle := yle) (xsk := xsk) (ysk := ysk) (tS := tS) (tG := tG) cx hlim hlim1 hdl sj vk hr (t := t) (by omega)
    rcases en with ⟨e1, e2⟩ | ⟨e1, e2⟩ | ⟨e1, e2, K, G, hK, I, E, X, Y, T, N, e3, e4⟩
    · subst e1 e2
      obtain ⟨res, s, e, tS2, tG2, xst2, xnw2, xtc2, xtu2, xtn2, xcu2, xtd2, xtt2, xsr2, yfc2, yst2, ycf2, yev2, yfr2, ydo2, xtx2, xtl2, xcr2, eN2, eC2, eD2, eT2, eH2, eR2, tE2, tN2, fN2, fC2, fD2, fS2, fA2, fB2, fO2, fP2, fL2, fM2, vk2, hx2, hy2⟩ := ih (t + 1) xst' xnw' xtc' xtu' xtn' xcu' xtd' xtt' 0 yfc' yst' ycf' yev' yfr' 2 xtx' xtl' xcr' eN' eC' eD' eT' eH' eR' tE' tN' fN' fC' fD' fS' fA' fB' fO' fP' fL' fM' tS tG (by omega) vk'
      refine ⟨res, s, e, tS2, tG2, xst2, xnw2, xtc2, xtu2, xtn2, xcu2, xtd2, xtt2, xsr2, yfc2, yst2, ycf2, yev2, yfr2, ydo2, xtx2, xtl2, xcr2, eN2, eC2, eD2, eT2, eH2, eR2, tE2, tN2, fN2, fC2, fD2, fS2, fA2, fB2, fO2, fP2, fL2, fM2, vk2, ?_, ?_⟩
      · intro post m hm hp
        obtain ⟨m, rfl⟩ : ∃ k, m = k + 1 := ⟨m - 1, by omega⟩
        refine br_f lt (br_t rfl ⟨v4, ?_⟩)
        rw [ev]
        exact hx _ (br_f (by decide) (nm_r (nI_1 t) (hx2 post m (by omega) hp)))
      · intro post m hm hp
        obtain ⟨m, rfl⟩ : ∃ k, m = k + 1 := ⟨m - 1, by omega⟩
        refine br_f lt (br_t rfl ⟨v4, ?_⟩)
        rw [ev]
        exact hy _ (br_f (by decide) (br_t rfl (nm_r (nI_1 t) (hy2 post m (by omega) hp))))
    · subst e1 e2
      refine ⟨2, -1, -1, tS, tG, xst', xnw', xtc', xtu', xtn', xcu', xtd', xtt', 2, yfc', yst', ycf', yev', yfr', 3, xtx', xtl', xcr', eN', eC', eD', eT', eH', eR', tE', tN', fN', fC', fD', fS', fA', fB', fO', fP', fL', fM', vk', ?_, ?_⟩
      · intro post m hm hp
        obtain ⟨m, rfl⟩ : ∃ k, m = k + 1 + 1 := ⟨m - 2, by omega⟩
        refine br_f lt (br_t rfl ⟨v4, ?_⟩)
        rw [ev]
        refine hx _ (br_f (by decide) (nm_r (nI_1 t) ?_))
        by_cases q : nI last < nI (t + 1)
        · exact br_t q hp
        · exact br_f q (br_f (by decide) hp)
      · intro post m hm hp
        obtain ⟨m, rfl⟩ : ∃ k, m = k + 1 + 1 := ⟨m - 2, by omega⟩
        refine br_f lt (br_t rfl ⟨v4, ?_⟩)
        rw [ev]
        refine hy _ (br_f (by decide) (br_f (by decide) (nm_r (nI_1 t) ?_)))
        by_cases q : nI last < nI (t + 1)
        · exact br_t q (br_f (by decide) hp)
        · exact br_f q (br_f (by decide) (br_f (by decide) hp))
    · subst e1 e2 e3 e4
      have eo : fO' 0 = nI (G 12 1) := Y.2.2.2.2.2.2.1 1 (Nat.le_refl 1) E.2.1 E.2.2.1
      obtain ⟨tS2, tG2, tx2, tl2, vk2, ax, ay⟩ := sm_apply (xst := xst') (xnw := xnw') (xtu := xtu') (xtn := xtn') (xtd := xtd') (xtt := xtt') (xsr := 1) (yfc := yfc') (yst := yst') (ycf := ycf') (yev := yev') (yfr := yfr') (ydo := 1) (xtx := xtx') (xtl := xtl') (xcr := xcr') (eN := eN') (eC := eC') (eD := eD') (eT := eT') (eH := eH') (eR := eR') (tE := tE') (tN := tN') (fN := fN') (fC := fC') (fD := fD') (fS := fS') (fA := fA') (fB := fB') (fO := fO') (fP := fP') (fL := fL') (fM := fM') (xcu := nI (G 12 1)) (xms := xms) (xnc := xnc) (xsd := xsd) (xlr := 1) (xls := nI t) (xle := nI (G 12 1)) (yms := yms) (ync := ync) (ysp := ysp) (ylr := 1) (yls := nI t) (yle := nI (G 12 1)) (lim := lim) (dl := dl) (xsk := xsk) (ysk := ysk) (tS := tS) (tG := tG) cx sj hK I E X Y T N vk'
      refine ⟨1, nI t, nI (G 12 1), tS2, tG2, xst', xnw', nI (G 19 1), xtu', xtn', nI (G 12 1), xtd', xtt', 1, yfc', yst', ycf', yev', yfr', 1, tx2, tl2, xcr', eN', eC', eD', eT', eH', eR', tE', tN', fN', fC', fD', fS', fA', fB', fO', fP', fL', fM', vk2, ?_, ?_⟩
      · intro post m hm hp
        obtain ⟨m, rfl⟩ : ∃ k, m = k + 1 + 1 := ⟨m - 2, by omega⟩
        refine br_f lt (br_t rfl ⟨v4, ?_⟩)
        rw [ev]
        refine hx _ (br_t rfl (ax _ (nm_r (nI_1 t) ?_)))
        by_cases q : nI last < nI (t + 1)
        · exact br_t q hp
        · exact br_f q (br_f (by decide) hp)
      · intro post m hm hp
        obtain ⟨m, rfl⟩ : ∃ k, m = k + 1 + 1 := ⟨m - 2, by omega⟩
        refine br_f lt (br_t rfl ⟨v4, ?_⟩)
        rw [ev]
        refine hy _ (br_t rfl (nm_r eo (nm_r (nI_1 t) ?_)))
        by_cases q : nI last < nI (t + 1)
        · exact br_t q (br_t rfl (ay _ hp))
        · exact br_f q (br_f (by decide) (br_t rfl (ay _ hp)))
end
end
section
theorem pk_ix (x : Int32) {n : Nat} (hn : n < 2 ^ 31) : x < 0 ∨ nI n ≤ x ∨ ∃ j : Nat, j < n ∧ x = nI j := by
  by_cases h : x < 0
  · exact Or.inl h
  · obtain ⟨j, hj, rfl⟩ := nI_of h
    by_cases q : j < n
    · exact Or.inr (Or.inr ⟨j, q, rfl⟩)
    · exact Or.inr (Or.inl (nI_le (by omega) hj))
theorem sm_bl {x : Int32} {b : Nat} (h : nI b ≤ x) : ¬ x < nI b := Int32.not_lt.mpr h
theorem sm_b0 {x : Int32} {b : Nat} (h : nI b ≤ x) (hb : b < 2 ^ 31) : ¬ x < 0 := by
  rw [Int32.lt_iff_toInt_lt, sm_z0]
  rw [Int32.le_iff_toInt_le, nI_toInt hb] at h
  omega
theorem sm_bn {x : Int32} (a : Nat) {b : Nat} (h : nI b ≤ x) (hb : b < 2 ^ 31) (hab : a < b) : ¬ x ≤ nI a := by
  rw [Int32.le_iff_toInt_le, nI_toInt (by omega)]
  rw [Int32.le_iff_toInt_le, nI_toInt hb] at h
  omega
theorem sm_bg {x : Int32} (a : Nat) {b : Nat} (h : nI b ≤ x) (hb : b < 2 ^ 31) (hab : a < b) : nI a < x := by
  rw [Int32.lt_iff_toInt_lt, nI_toInt (by omega)]
  rw [Int32.le_iff_toInt_le, nI_toInt hb] at h
  omega
/-- what the relation holds of the values -/
def sm_ok (ms lim dl nc sp n : Nat) (kn : Nat → Nat) (xno xsk xrt xsj xtx xtl nK nA nB nL nR : Nat → Int32) : Prop :=
  ms ≤ 16 ∧ 1 ≤ lim ∧ lim ≤ 250 ∧ dl ≤ 8 ∧ sp ≤ 16 ∧ n ≤ ms ∧ sm_cx n nc kn xno xrt nK nA nB nL nR ∧ (∀ i, i < sp → ∃ s, s < nc ∧ xsk i = nI s) ∧ sm_ch xsj 16 ∧ sm_vok xtx xtl
def i_Rel (_ : Nat) (u : SX) (v : SY) : Prop :=
  ∃ (ms lim dl nc sp n : Nat) (kn : Nat → Nat) (xlr xls xle xst xnw xtc xtu xtn xcu xtd xtt xsr yfc yst ycf yev yfr ydo : Int32) (xno xsk xrt xsj nK nA nB nL nR tS tG xtx xtl xcr eN eC eD eT eH eR tE tN fN fC fD fS fA fB fO fP fL fM : Nat → Int32), u = (nI ms, nI lim, nI dl, nI nc, nI sp, nI n, xlr, xls, xle, xst, xnw, xtc, xtu, xtn, xcu, xtd, xtt, xsr, xno, xsk, xrt, xsj, xtx, xtl, xcr, eN, eC, eD, eT, eH, eR, tE, tN) ∧ v = (nI ms, nI lim, nI dl, nI nc, nI sp, nI n, xlr, xls, xle, yfc, yst, ycf, yev, yfr, ydo, nK, nA, nB, nL, nR, xsk, xrt, xsj, xtx, xtl, xcr, fN, fC, fD, fS, fA, fB, fO, fP, fL, fM, tS, tG) ∧ sm_ok ms lim dl nc sp n kn xno xsk xrt xsj xtx xtl nK nA nB nL nR
theorem i_up {k : Nat} {u : SX} {v : SY} (h : i_Rel k u v) : i_Rel (k + 4) u v := h
section
variable {ms lim dl nc sp n : Nat} {kn : Nat → Nat} {xlr xls xle xst xnw xtc xtu xtn xcu xtd xtt xsr yfc yst ycf yev yfr ydo : Int32} {xno xsk xrt xsj nK nA nB nL nR tS tG xtx xtl xcr eN eC eD eT eH eR tE tN fN fC fD fS fA fB fO fP fL fM : Nat → Int32}
theorem sm_mk {k : Nat} (h : sm_ok ms lim dl nc sp n kn xno xsk xrt xsj xtx xtl nK nA nB nL nR) : i_Rel k (nI ms, nI lim, nI dl, nI nc, nI sp, nI n, xlr, xls, xle, xst, xnw, xtc, xtu, xtn, xcu, xtd, xtt, xsr, xno, xsk, xrt, xsj, xtx, xtl, xcr, eN, eC, eD, eT, eH, eR, tE, tN) (nI ms, nI lim, nI dl, nI nc, nI sp, nI n, xlr, xls, xle, yfc, yst, ycf, yev, yfr, ydo, nK, nA, nB, nL, nR, xsk, xrt, xsj, xtx, xtl, xcr, fN, fC, fD, fS, fA, fB, fO, fP, fL, fM, tS, tG) := ⟨ms, lim, dl, nc, sp, n, kn, xlr, xls, xle, xst, xnw, xtc, xtu, xtn, xcu, xtd, xtt, xsr, yfc, yst, ycf, yev, yfr, ydo, xno, xsk, xrt, xsj, nK, nA, nB, nL, nR, tS, tG, xtx, xtl, xcr, eN, eC, eD, eT, eH, eR, tE, tN, fN, fC, fD, fS, fA, fB, fO, fP, fL, fM, rfl, rfl, h⟩
end
theorem i_vc_status {k : Nat} {u : SX} {v : SY} (I : i_Rel k u v) (hk : k + 4 ≤ 2051) (v1 : Int32) : wpX_status (fun r => wpY_status (fun r' => r' = r ∧ i_Rel (k + 4) u v) v v1) u v1 := by
  have J : i_Rel (k + 4) u v := I
  obtain ⟨ms, lim, dl, nc, sp, n, kn, xlr, xls, xle, xst, xnw, xtc, xtu, xtn, xcu, xtd, xtt, xsr, yfc, yst, ycf, yev, yfr, ydo, xno, xsk, xrt, xsj, nK, nA, nB, nL, nR, tS, tG, xtx, xtl, xcr, eN, eC, eD, eT, eH, eR, tE, tN, fN, fC, fD, fS, fA, fB, fO, fP, fL, fM, hu, hv, ok⟩ := I
  subst hu hv
  by_cases a0 : v1 = 0
  · subst a0; exact br_f (by decide) (br_f (by decide) (br_t rfl (br_t rfl ⟨rfl, J⟩)))
  by_cases a1 : v1 = 1
  · subst a1; exact br_f (by decide) (br_f (by decide) (br_f (by decide) (br_t rfl (br_f (by decide) (br_t rfl ⟨rfl, J⟩)))))
  by_cases a2 : v1 = 2
  · subst a2; exact br_f (by decide) (br_f (by decide) (br_f (by decide) (br_f (by decide) (br_t rfl (br_f (by decide) (br_f (by decide) (br_t rfl ⟨rfl, J⟩)))))))
  by_cases a3 : v1 = 3
  · subst a3; exact br_f (by decide) (br_f (by decide) (br_f (by decide) (br_f (by decide) (br_f (by decide) (br_t rfl (br_f (by decide) (br_f (by decide) (br_f (by decide) (br_t rfl ⟨rfl, J⟩)))))))))
  by_cases a4 : v1 = 4
  · subst a4; exact br_f (by decide) (br_f (by decide) (br_f (by decide) (br_f (by decide) (br_f (by decide) (br_f (by decide) (br_t rfl (br_f (by decide) (br_f (by decide) (br_f (by decide) (br_f (by decide) (br_t rfl ⟨rfl, J⟩)))))))))))
  by_cases a5 : v1 = 5
  · subst a5; exact br_f (by decide) (br_f (by decide) (br_f (by decide) (br_f (by decide) (br_f (by decide) (br_f (by decide) (br_f (by decide) (br_t rfl (br_f (by decide) (br_f (by decide) (br_f (by decide) (br_f (by decide) (br_f (by decide) (br_t rfl ⟨rfl, J⟩)))))))))))))
  have y : wpY_status (fun r' => r' = -1 ∧ i_Rel (k + 4) (nI ms, nI lim, nI dl, nI nc, nI sp, nI n, xlr, xls, xle, xst, xnw, xtc, xtu, xtn, xcu, xtd, xtt, xsr, xno, xsk, xrt, xsj, xtx, xtl, xcr, eN, eC, eD, eT, eH, eR, tE, tN) (nI ms, nI lim, nI dl, nI nc, nI sp, nI n, xlr, xls, xle, yfc, yst, ycf, yev, yfr, ydo, nK, nA, nB, nL, nR, xsk, xrt, xsj, xtx, xtl, xcr, fN, fC, fD, fS, fA, fB, fO, fP, fL, fM, tS, tG)) (nI ms, nI lim, nI dl, nI nc, nI sp, nI n, xlr, xls, xle, yfc, yst, ycf, yev, yfr, ydo, nK, nA, nB, nL, nR, xsk, xrt, xsj, xtx, xtl, xcr, fN, fC, fD, fS, fA, fB, fO, fP, fL, fM, tS, tG) v1 := br_f a0 (br_f a1 (br_f a2 (br_f a3 (br_f a4 (br_f a5 ⟨rfl, J⟩)))))
  by_cases b0 : v1 < 0
  · exact br_t b0 y
  by_cases b5 : 5 < v1
  · exact br_f b0 (br_t b5 y)
  exact br_f b0 (br_f b5 (br_f a0 (br_f a1 (br_f a2 (br_f a3 (br_f a4 (br_f a5 trivial)))))))
theorem i_vc_varLength {k : Nat} {u : SX} {v : SY} (I : i_Rel k u v) (hk : k + 4 ≤ 2051) (v1 : Int32) : wpX_varLength (fun r => wpY_varLength (fun r' => r' = r ∧ i_Rel (k + 4) u v) v v1) u v1 := by
  have J : i_Rel (k + 4) u v := I
  obtain ⟨ms, lim, dl, nc, sp, n, kn, xlr, xls, xle, xst, xnw, xtc, xtu, xtn, xcu, xtd, xtt, xsr, yfc, yst, ycf, yev, yfr, ydo, xno, xsk, xrt, xsj, nK, nA, nB, nL, nR, tS, tG, xtx, xtl, xcr, eN, eC, eD, eT, eH, eR, tE, tN, fN, fC, fD, fS, fA, fB, fO, fP, fL, fM, rfl, rfl, ok⟩ := I
  rcases pk_ix v1 (n := 8) (by omega) with h | h | ⟨j, hj, rfl⟩
  · exact br_t h (br_t h ⟨rfl, J⟩)
  · exact br_f (sm_b0 h (by omega)) (br_f (sm_bl h) (br_f (sm_b0 h (by omega)) (br_f (sm_bn 7 h (by omega) (by omega)) ⟨rfl, J⟩)))
  · exact br_f (nI_pos (by omega)) (br_t (sm_lt 8 hj (by omega)) ⟨vp_in_nI hj (by omega), br_f (nI_pos (by omega)) (br_t (nI_le (b := 7) (by omega) (by omega)) ⟨vp_in_nI hj (by omega), rfl, J⟩)⟩)
theorem i_vc_cursorVar {k : Nat} {u : SX} {v : SY} (I : i_Rel k u v) (hk : k + 4 ≤ 2051) (v1 : Int32) : wpX_cursorVar (fun r => wpY_cursorVar (fun r' => r' = r ∧ i_Rel (k + 4) u v) v v1) u v1 := by
  have J : i_Rel (k + 4) u v := I
  obtain ⟨ms, lim, dl, nc, sp, n, kn, xlr, xls, xle, xst, xnw, xtc, xtu, xtn, xcu, xtd, xtt, xsr, yfc, yst, ycf, yev, yfr, ydo, xno, xsk, xrt, xsj, nK, nA, nB, nL, nR, tS, tG, xtx, xtl, xcr, eN, eC, eD, eT, eH, eR, tE, tN, fN, fC, fD, fS, fA, fB, fO, fP, fL, fM, rfl, rfl, ok⟩ := I
  rcases pk_ix v1 (n := 8) (by omega) with h | h | ⟨j, hj, rfl⟩
  · exact br_t h (br_t h ⟨rfl, J⟩)
  · exact br_f (sm_b0 h (by omega)) (br_f (sm_bl h) (br_f (sm_b0 h (by omega)) (br_f (sm_bn 7 h (by omega) (by omega)) ⟨rfl, J⟩)))
  · exact br_f (nI_pos (by omega)) (br_t (sm_lt 8 hj (by omega)) ⟨vp_in_nI hj (by omega), br_f (nI_pos (by omega)) (br_t (nI_le (b := 7) (by omega) (by omega)) ⟨vp_in_nI hj (by omega), rfl, J⟩)⟩)
theorem i_vc_patternRoot {k : Nat} {u : SX} {v : SY} (I : i_Rel k u v) (hk : k + 4 ≤ 2051) (v1 : Int32) : wpX_patternRoot (fun r => wpY_patternRoot (fun r' => r' = r ∧ i_Rel (k + 4) u v) v v1) u v1 := by
  have J : i_Rel (k + 4) u v := I
  obtain ⟨ms, lim, dl, nc, sp, n, kn, xlr, xls, xle, xst, xnw, xtc, xtu, xtn, xcu, xtd, xtt, xsr, yfc, yst, ycf, yev, yfr, ydo, xno, xsk, xrt, xsj, nK, nA, nB, nL, nR, tS, tG, xtx, xtl, xcr, eN, eC, eD, eT, eH, eR, tE, tN, fN, fC, fD, fS, fA, fB, fO, fP, fL, fM, rfl, rfl, ok⟩ := I
  rcases pk_ix v1 (n := 4) (by omega) with h | h | ⟨j, hj, rfl⟩
  · exact br_t h (br_t h ⟨rfl, J⟩)
  · exact br_f (sm_b0 h (by omega)) (br_f (sm_bl h) (br_f (sm_b0 h (by omega)) (br_f (sm_bn 3 h (by omega) (by omega)) ⟨rfl, J⟩)))
  · exact br_f (nI_pos (by omega)) (br_t (sm_lt 4 hj (by omega)) ⟨vp_in_nI hj (by omega), br_f (nI_pos (by omega)) (br_t (nI_le (b := 3) (by omega) (by omega)) ⟨vp_in_nI hj (by omega), rfl, J⟩)⟩)
theorem i_vc_stackEntry {k : Nat} {u : SX} {v : SY} (I : i_Rel k u v) (hk : k + 4 ≤ 2051) (v1 : Int32) : wpX_stackEntry (fun r => wpY_stackEntry (fun r' => r' = r ∧ i_Rel (k + 4) u v) v v1) u v1 := by
  have J : i_Rel (k + 4) u v := I
  obtain ⟨ms, lim, dl, nc, sp, n, kn, xlr, xls, xle, xst, xnw, xtc, xtu, xtn, xcu, xtd, xtt, xsr, yfc, yst, ycf, yev, yfr, ydo, xno, xsk, xrt, xsj, nK, nA, nB, nL, nR, tS, tG, xtx, xtl, xcr, eN, eC, eD, eT, eH, eR, tE, tN, fN, fC, fD, fS, fA, fB, fO, fP, fL, fM, rfl, rfl, ok⟩ := I
  have s16 := ok.2.2.2.2.1
  rcases pk_ix v1 (n := sp) (by omega) with h | h | ⟨j, hj, rfl⟩
  · exact br_t h (br_t h ⟨rfl, J⟩)
  · exact br_f (sm_b0 h (by omega)) (br_f (sm_bl h) (br_f (sm_b0 h (by omega)) (br_f (sm_bl h) ⟨rfl, J⟩)))
  · exact br_f (nI_pos (by omega)) (br_t (nI_lt hj (by omega)) ⟨vp_in_nI (by omega) (by omega), br_f (nI_pos (by omega)) (br_t (nI_lt hj (by omega)) ⟨vp_in_nI (by omega) (by omega), rfl, J⟩)⟩)
theorem i_vc_subjectChar {k : Nat} {u : SX} {v : SY} (I : i_Rel k u v) (hk : k + 4 ≤ 2051) (v1 : Int32) : wpX_subjectChar (fun r => wpY_subjectChar (fun r' => r' = r ∧ i_Rel (k + 4) u v) v v1) u v1 := by
  have J : i_Rel (k + 4) u v := I
  obtain ⟨ms, lim, dl, nc, sp, n, kn, xlr, xls, xle, xst, xnw, xtc, xtu, xtn, xcu, xtd, xtt, xsr, yfc, yst, ycf, yev, yfr, ydo, xno, xsk, xrt, xsj, nK, nA, nB, nL, nR, tS, tG, xtx, xtl, xcr, eN, eC, eD, eT, eH, eR, tE, tN, fN, fC, fD, fS, fA, fB, fO, fP, fL, fM, rfl, rfl, ok⟩ := I
  obtain ⟨o1, o2, o3, o4, o5, o6, o7, o8, o9, o10⟩ := ok
  rcases pk_ix v1 (n := n) (by omega) with h | h | ⟨j, hj, rfl⟩
  · exact br_t h (br_t h ⟨rfl, J⟩)
  · exact br_f (sm_b0 h (by omega)) (br_f (sm_bl h) (br_f (sm_b0 h (by omega)) (br_f (sm_bl h) ⟨rfl, J⟩)))
  · obtain ⟨q, hq, e⟩ := o9 j (by omega)
    have ec : xsj (nI j).toNatClampNeg = nI q := sm_cg (by omega) e
    have na : narrow .char (.int (xsj (nI j).toNatClampNeg)) = .int (xsj (nI j).toNatClampNeg) := by rw [ec]; exact (pk_charN hq).1
    exact br_f (nI_pos (by omega)) (br_t (nI_lt hj (by omega)) ⟨vp_in_nI (by omega) (by omega), na, br_f (nI_pos (by omega)) (br_t (nI_lt hj (by omega)) ⟨vp_in_nI (by omega) (by omega), na, rfl, J⟩)⟩)
theorem i_vc_varChar {k : Nat} {u : SX} {v : SY} (I : i_Rel k u v) (hk : k + 4 ≤ 2051) (v1 : Int32) (v2 : Int32) : wpX_varChar (fun r => wpY_varChar (fun r' => r' = r ∧ i_Rel (k + 4) u v) v v1 v2) u v1 v2 := by
  have J : i_Rel (k + 4) u v := I
  obtain ⟨ms, lim, dl, nc, sp, n, kn, xlr, xls, xle, xst, xnw, xtc, xtu, xtn, xcu, xtd, xtt, xsr, yfc, yst, ycf, yev, yfr, ydo, xno, xsk, xrt, xsj, nK, nA, nB, nL, nR, tS, tG, xtx, xtl, xcr, eN, eC, eD, eT, eH, eR, tE, tN, fN, fC, fD, fS, fA, fB, fO, fP, fL, fM, rfl, rfl, ok⟩ := I
  obtain ⟨o1, o2, o3, o4, o5, o6, o7, o8, o9, o10⟩ := ok
  rcases pk_ix v1 (n := 8) (by omega) with h | h | ⟨j, hj, rfl⟩
  · exact br_t h (br_t h ⟨rfl, J⟩)
  · exact br_f (sm_b0 h (by omega)) (br_t h (br_f (sm_b0 h (by omega)) (br_t (sm_bg 7 h (by omega) (by omega)) ⟨rfl, J⟩)))
  · have n8 : ¬ (8 : Int32) ≤ nI j := nI_ge (b := 8) hj (by omega)
    have n7 : ¬ (7 : Int32) < nI j := sm_ngt 7 (by omega) (by omega)
    have vj : vp_in (nI j) 8 := vp_in_nI hj (by omega)
    obtain ⟨l, hl, el⟩ := o10.2 j hj
    have el' : xtl (nI j).toNatClampNeg = nI l := sm_cg (by omega) el
    rcases pk_ix v2 (n := l) (by omega) with h | h | ⟨i, hi, rfl⟩
    · exact br_f (nI_pos (by omega)) (br_f n8 (br_t h (br_f (nI_pos (by omega)) (br_f n7 (br_t h ⟨rfl, J⟩)))))
    · have g : ¬ v2 < xtl (nI j).toNatClampNeg := by rw [el']; exact sm_bl h
      exact br_f (nI_pos (by omega)) (br_f n8 (br_f (sm_b0 h (by omega)) ⟨vj, br_f g (br_f (nI_pos (by omega)) (br_f n7 (br_f (sm_b0 h (by omega)) ⟨vj, br_f g ⟨rfl, J⟩⟩)))⟩))
    · have g : nI i < xtl (nI j).toNatClampNeg := by rw [el']; exact nI_lt hi (by omega)
      have ei : nI j * 16 + nI i = nI (j * 16 + i) := by rw [sm_16, pk_mul, nI_add]
      have vi : vp_in (nI j * 16 + nI i) 128 := by rw [ei]; exact vp_in_nI (by omega) (by omega)
      obtain ⟨q, hq, e⟩ := o10.1 (j * 16 + i) (by omega)
      have na : narrow .char (.int (xtx (nI j * 16 + nI i).toNatClampNeg)) = .int (xtx (nI j * 16 + nI i).toNatClampNeg) := by rw [ei, sm_cl (by omega), e]; exact (pk_charN hq).1
      exact br_f (nI_pos (by omega)) (br_f n8 (br_f (nI_pos (by omega)) ⟨vj, br_t g ⟨vi, na, br_f (nI_pos (by omega)) (br_f n7 (br_f (nI_pos (by omega)) ⟨vj, br_t g ⟨vi, na, rfl, J⟩⟩))⟩⟩))
theorem i_vc_nodeField {k : Nat} {u : SX} {v : SY} (I : i_Rel k u v) (hk : k + 4 ≤ 2051) (v1 : Int32) (v2 : Int32) : wpX_nodeField (fun r => wpY_nodeField (fun r' => r' = r ∧ i_Rel (k + 4) u v) v v1 v2) u v1 v2 := by
  have J : i_Rel (k + 4) u v := I
  obtain ⟨ms, lim, dl, nc, sp, n, kn, xlr, xls, xle, xst, xnw, xtc, xtu, xtn, xcu, xtd, xtt, xsr, yfc, yst, ycf, yev, yfr, ydo, xno, xsk, xrt, xsj, nK, nA, nB, nL, nR, tS, tG, xtx, xtl, xcr, eN, eC, eD, eT, eH, eR, tE, tN, fN, fC, fD, fS, fA, fB, fO, fP, fL, fM, rfl, rfl, ok⟩ := I
  obtain ⟨o1, o2, o3, o4, o5, o6, o7, o8, o9, o10⟩ := ok
  have c32 := o7.1
  rcases pk_ix v1 (n := nc) (by omega) with h | h | ⟨j, hj, rfl⟩
  · exact br_t h (br_t h ⟨rfl, J⟩)
  · exact br_f (sm_b0 h (by omega)) (br_t h (br_f (sm_b0 h (by omega)) (br_f (sm_bl h) ⟨rfl, J⟩)))
  · have D := o7.2.2.1 j hj
    have nj : ¬ nI nc ≤ nI j := nI_ge hj (by omega)
    have lj : nI j < nI nc := nI_lt hj (by omega)
    have j32 : j < 32 := by omega
    have vj : vp_in (nI j) 32 := vp_in_nI j32 (by omega)
    have cl : (nI j).toNatClampNeg = j := sm_cl (by omega)
    rcases pk_ix v2 (n := 5) (by omega) with h | h | ⟨i, hi, rfl⟩
    · have a0 : ¬ v2 = 0 := fun z => by rw [z] at h; exact absurd h (by decide)
      have a1 : ¬ v2 = 1 := fun z => by rw [z] at h; exact absurd h (by decide)
      have a2 : ¬ v2 = 2 := fun z => by rw [z] at h; exact absurd h (by decide)
      have a3 : ¬ v2 = 3 := fun z => by rw [z] at h; exact absurd h (by decide)
      have a4 : ¬ v2 = 4 := fun z => by rw [z] at h; exact absurd h (by decide)
      exact br_f (nI_pos (by omega)) (br_f nj (br_t h (br_f (nI_pos (by omega)) (br_t lj (br_f a0 (br_f a1 (br_f a2 (br_f a3 (br_f a4 ⟨rfl, J⟩)))))))))
    · have a0 : ¬ v2 = 0 := fun z => by rw [z] at h; exact absurd h (by decide)
      have a1 : ¬ v2 = 1 := fun z => by rw [z] at h; exact absurd h (by decide)
      have a2 : ¬ v2 = 2 := fun z => by rw [z] at h; exact absurd h (by decide)
      have a3 : ¬ v2 = 3 := fun z => by rw [z] at h; exact absurd h (by decide)
      have a4 : ¬ v2 = 4 := fun z => by rw [z] at h; exact absurd h (by decide)
      exact br_f (nI_pos (by omega)) (br_f nj (br_f (sm_b0 h (by omega)) (br_f (sm_bl h) (br_f (nI_pos (by omega)) (br_t lj (br_f a0 (br_f a1 (br_f a2 (br_f a3 (br_f a4 ⟨rfl, J⟩))))))))))
    · have vi : vp_in (nI j * 5 + nI i) 160 := sm_in5 i j32 hi
      have ex : ∀ x, xno (5 * j + i) = x → xno (nI j * 5 + nI i).toNatClampNeg = x := fun x hx => sm_c5 i j32 hi hx
      have ks : i = 0 ∨ i = 1 ∨ i = 2 ∨ i = 3 ∨ i = 4 := by omega
      refine br_f (nI_pos (by omega)) (br_f nj (br_f (nI_pos (by omega)) (br_t (sm_lt 5 hi (by omega)) ⟨vi, ?_⟩)))
      rcases ks with rfl | rfl | rfl | rfl | rfl
      · exact br_f (nI_pos (by omega)) (br_t lj (br_t rfl ⟨vj, by rw [cl, ex _ D.2.2.2.1], J⟩))
      · exact br_f (nI_pos (by omega)) (br_t lj (br_f (by decide) (br_t rfl ⟨vj, by rw [cl, ex _ D.2.2.2.2.1], J⟩)))
      · exact br_f (nI_pos (by omega)) (br_t lj (br_f (by decide) (br_f (by decide) (br_t rfl ⟨vj, by rw [cl, ex _ D.2.2.2.2.2.1], J⟩))))
      · exact br_f (nI_pos (by omega)) (br_t lj (br_f (by decide) (br_f (by decide) (br_f (by decide) (br_t rfl ⟨vj, by rw [cl, ex _ D.2.2.2.2.2.2.1], J⟩)))))
      · exact br_f (nI_pos (by omega)) (br_t lj (br_f (by decide) (br_f (by decide) (br_f (by decide) (br_f (by decide) (br_t rfl ⟨vj, by rw [cl, ex _ D.2.2.2.2.2.2.2.1], J⟩))))))
end
section
def sm_fill (g : Nat → Int32) (x : Int32) : Nat → Nat → Int32
  | 0 => g
  | i + 1 => upd (sm_fill g x i) i x
theorem sm_fill_lt {g : Nat → Int32} {x : Int32} : ∀ i j, j < i → sm_fill g x i j = x := by
  intro i
  induction i with
  | zero => intro j h; omega
  | succ i ih =>
    intro j h
    unfold sm_fill
    by_cases q : j = i
    · rw [q, pk_us]
    · rw [pk_un q]; exact ih j (by omega)
section
variable {xms xsl xdl xnc xsd xn xlr xls xle xst xnw xtc xtu xtn xcu xtd xtt xsr : Int32} {xno xsk xrt xsj xtx xtl xcr eN eC eD eT eH eR tE tN : Nat → Int32}
theorem sx_empty {post : SX → Prop} : ∀ d i m, i + d = 8 → d < m → post (xms, xsl, xdl, xnc, xsd, xn, xlr, xls, xle, xst, xnw, xtc, xtu, xtn, xcu, xtd, xtt, xsr, xno, xsk, xrt, xsj, xtx, sm_fill xtl 0 8, sm_fill xcr (-1) 8, eN, eC, eD, eT, eH, eR, tE, tN) →
    wX_emptyVars_2 post xms xsl xdl xnc xsd xn xlr xls xle xst xnw xtc xtu xtn xcu xtd xtt xsr m (nI i) xno xsk xrt xsj xtx (sm_fill xtl 0 i) (sm_fill xcr (-1) i) eN eC eD eT eH eR tE tN := by
  intro d
  induction d with
  | zero =>
    intro i m h hm hp
    obtain ⟨m, rfl⟩ : ∃ k, m = k + 1 := ⟨m - 1, by omega⟩
    have e : i = 8 := by omega
    subst e
    exact br_t (nI_le (a := 8) (Nat.le_refl 8) (by omega)) hp
  | succ d ih =>
    intro i m h hm hp
    obtain ⟨m, rfl⟩ : ∃ k, m = k + 1 := ⟨m - 1, by omega⟩
    have vi : vp_in (nI i) 8 := vp_in_nI (by omega) (by omega)
    exact br_f (nI_ge (b := 8) (by omega) (by omega)) ⟨vi, nm_r (sm_up (by omega)) ⟨vi, nm_r (sm_up (by omega)) (nm_r (nI_1 i) (ih (i + 1) m (by omega) (by omega) hp))⟩⟩
theorem sx_emptyVars {post : SX → Prop} (hp : post (xms, xsl, xdl, xnc, xsd, xn, xlr, xls, xle, xst, xnw, xtc, xtu, xtn, xcu, xtd, xtt, xsr, xno, xsk, xrt, xsj, xtx, sm_fill xtl 0 8, sm_fill xcr (-1) 8, eN, eC, eD, eT, eH, eR, tE, tN)) : wpX_emptyVars post (xms, xsl, xdl, xnc, xsd, xn, xlr, xls, xle, xst, xnw, xtc, xtu, xtn, xcu, xtd, xtt, xsr, xno, xsk, xrt, xsj, xtx, xtl, xcr, eN, eC, eD, eT, eH, eR, tE, tN) :=
  ⟨9, sx_empty 8 0 9 (by omega) (by omega) hp⟩
theorem sx_roots {post : SX → Prop} : ∀ d i m, i + d = 4 → d < m → post (xms, xsl, xdl, xnc, xsd, 0, 3, -1, -1, xst, xnw, xtc, xtu, xtn, xcu, xtd, xtt, xsr, xno, xsk, sm_fill xrt (-1) 4, xsj, xtx, sm_fill xtl 0 8, sm_fill xcr (-1) 8, eN, eC, eD, eT, eH, eR, tE, tN) →
    wX_setInitialState_12 post xms xsl xdl xnc xsd xn xlr xls xle xst xnw xtc xtu xtn xcu xtd xtt xsr m (nI i) xno xsk (sm_fill xrt (-1) i) xsj xtx xtl xcr eN eC eD eT eH eR tE tN := by
  intro d
  induction d with
  | zero =>
    intro i m h hm hp
    obtain ⟨m, rfl⟩ : ∃ k, m = k + 1 := ⟨m - 1, by omega⟩
    have e : i = 4 := by omega
    subst e
    exact br_t (nI_le (a := 4) (Nat.le_refl 4) (by omega)) (sx_emptyVars hp)
  | succ d ih =>
    intro i m h hm hp
    obtain ⟨m, rfl⟩ : ∃ k, m = k + 1 := ⟨m - 1, by omega⟩
    have vi : vp_in (nI i) 4 := vp_in_nI (by omega) (by omega)
    exact br_f (nI_ge (b := 4) (by omega) (by omega)) ⟨vi, nm_r (sm_up (by omega)) (nm_r (nI_1 i) (ih (i + 1) m (by omega) (by omega) hp))⟩
theorem sx_initial {post : SX → Prop} (hp : post (xms, xsl, xdl, 0, 0, 0, 3, -1, -1, xst, xnw, xtc, xtu, xtn, xcu, xtd, xtt, xsr, xno, xsk, sm_fill xrt (-1) 4, xsj, xtx, sm_fill xtl 0 8, sm_fill xcr (-1) 8, eN, eC, eD, eT, eH, eR, tE, tN)) : wpX_setInitialState post (xms, xsl, xdl, xnc, xsd, xn, xlr, xls, xle, xst, xnw, xtc, xtu, xtn, xcu, xtd, xtt, xsr, xno, xsk, xrt, xsj, xtx, xtl, xcr, eN, eC, eD, eT, eH, eR, tE, tN) :=
  ⟨5, sx_roots 4 0 5 (by omega) (by omega) hp⟩
end
section
variable {yms ysl ydl ync ysp yn ylr yls yle yfc yst ycf yev yfr ydo : Int32} {nK nA nB nL nR ysk yrt ysj ytx ytl ycr fN fC fD fS fA fB fO fP fL fM tS tG : Nat → Int32}
theorem sy_empty {post : SY → Prop} : ∀ d i m, i + d = 8 → d < m → post (yms, ysl, ydl, ync, ysp, yn, ylr, yls, yle, yfc, yst, ycf, yev, yfr, ydo, nK, nA, nB, nL, nR, ysk, yrt, ysj, ytx, sm_fill ytl 0 8, sm_fill ycr (-1) 8, fN, fC, fD, fS, fA, fB, fO, fP, fL, fM, tS, tG) →
    wY_clearVars_2 post yms ysl ydl ync ysp yn ylr yls yle yfc yst ycf yev yfr ydo m (nI i) nK nA nB nL nR ysk yrt ysj ytx (sm_fill ytl 0 i) (sm_fill ycr (-1) i) fN fC fD fS fA fB fO fP fL fM tS tG := by
  intro d
  induction d with
  | zero =>
    intro i m h hm hp
    obtain ⟨m, rfl⟩ : ∃ k, m = k + 1 := ⟨m - 1, by omega⟩
    have e : i = 8 := by omega
    subst e
    exact br_t (nI_le (a := 8) (Nat.le_refl 8) (by omega)) hp
  | succ d ih =>
    intro i m h hm hp
    obtain ⟨m, rfl⟩ : ∃ k, m = k + 1 := ⟨m - 1, by omega⟩
    have vi : vp_in (nI i) 8 := vp_in_nI (by omega) (by omega)
    exact br_f (nI_ge (b := 8) (by omega) (by omega)) ⟨vi, nm_r (sm_up (by omega)) ⟨vi, nm_r (sm_up (by omega)) (nm_r (nI_1 i) (ih (i + 1) m (by omega) (by omega) hp))⟩⟩
theorem sy_emptyVars {post : SY → Prop} (hp : post (yms, ysl, ydl, ync, ysp, yn, ylr, yls, yle, yfc, yst, ycf, yev, yfr, ydo, nK, nA, nB, nL, nR, ysk, yrt, ysj, ytx, sm_fill ytl 0 8, sm_fill ycr (-1) 8, fN, fC, fD, fS, fA, fB, fO, fP, fL, fM, tS, tG)) : wpY_clearVars post (yms, ysl, ydl, ync, ysp, yn, ylr, yls, yle, yfc, yst, ycf, yev, yfr, ydo, nK, nA, nB, nL, nR, ysk, yrt, ysj, ytx, ytl, ycr, fN, fC, fD, fS, fA, fB, fO, fP, fL, fM, tS, tG) :=
  ⟨9, sy_empty 8 0 9 (by omega) (by omega) hp⟩
theorem sy_roots {post : SY → Prop} : ∀ d i m, i + d = 4 → d < m → post (yms, ysl, ydl, ync, ysp, 0, 3, -1, -1, yfc, yst, ycf, yev, yfr, ydo, nK, nA, nB, nL, nR, ysk, sm_fill yrt (-1) 4, ysj, ytx, sm_fill ytl 0 8, sm_fill ycr (-1) 8, fN, fC, fD, fS, fA, fB, fO, fP, fL, fM, tS, tG) →
    wY_clearAll_12 post yms ysl ydl ync ysp yn ylr yls yle yfc yst ycf yev yfr ydo m (nI i) nK nA nB nL nR ysk (sm_fill yrt (-1) i) ysj ytx ytl ycr fN fC fD fS fA fB fO fP fL fM tS tG := by
  intro d
  induction d with
  | zero =>
    intro i m h hm hp
    obtain ⟨m, rfl⟩ : ∃ k, m = k + 1 := ⟨m - 1, by omega⟩
    have e : i = 4 := by omega
    subst e
    exact br_t (nI_le (a := 4) (Nat.le_refl 4) (by omega)) (sy_emptyVars hp)
  | succ d ih =>
    intro i m h hm hp
    obtain ⟨m, rfl⟩ : ∃ k, m = k + 1 := ⟨m - 1, by omega⟩
    have vi : vp_in (nI i) 4 := vp_in_nI (by omega) (by omega)
    exact br_f (nI_ge (b := 4) (by omega) (by omega)) ⟨vi, nm_r (sm_up (by omega)) (nm_r (nI_1 i) (ih (i + 1) m (by omega) (by omega) hp))⟩
theorem sy_initial {post : SY → Prop} (hp : post (yms, ysl, ydl, 0, 0, 0, 3, -1, -1, yfc, yst, ycf, yev, yfr, ydo, nK, nA, nB, nL, nR, ysk, sm_fill yrt (-1) 4, ysj, ytx, sm_fill ytl 0 8, sm_fill ycr (-1) 8, fN, fC, fD, fS, fA, fB, fO, fP, fL, fM, tS, tG)) : wpY_clearAll post (yms, ysl, ydl, ync, ysp, yn, ylr, yls, yle, yfc, yst, ycf, yev, yfr, ydo, nK, nA, nB, nL, nR, ysk, yrt, ysj, ytx, ytl, ycr, fN, fC, fD, fS, fA, fB, fO, fP, fL, fM, tS, tG) :=
  ⟨5, sy_roots 4 0 5 (by omega) (by omega) hp⟩
end
theorem sm_vok0 {tx tl : Nat → Int32} (h : sm_ch tx 128) : sm_vok tx (sm_fill tl 0 8) := ⟨h, fun v hv => ⟨0, by omega, sm_fill_lt 8 v hv⟩⟩
section
variable {ms lim dl nc sp n : Nat} {kn : Nat → Nat} {xlr xls xle xst xnw xtc xtu xtn xcu xtd xtt xsr yfc yst ycf yev yfr ydo : Int32} {xno xsk xrt xsj nK nA nB nL nR tS tG xtx xtl xcr eN eC eD eT eH eR tE tN fN fC fD fS fA fB fO fP fL fM : Nat → Int32}
theorem sm_mk0 {k : Nat} (hm : ms ≤ 16) (hl : 1 ≤ lim) (hl2 : lim ≤ 250) (hd : dl ≤ 8) (hs : sm_ch xsj 16) (hx : sm_ch xtx 128) :
    i_Rel k (nI ms, nI lim, nI dl, 0, 0, 0, 3, -1, -1, xst, xnw, xtc, xtu, xtn, xcu, xtd, xtt, xsr, xno, xsk, sm_fill xrt (-1) 4, xsj, xtx, sm_fill xtl 0 8, sm_fill xcr (-1) 8, eN, eC, eD, eT, eH, eR, tE, tN)
      (nI ms, nI lim, nI dl, 0, 0, 0, 3, -1, -1, yfc, yst, ycf, yev, yfr, ydo, nK, nA, nB, nL, nR, xsk, sm_fill xrt (-1) 4, xsj, xtx, sm_fill xtl 0 8, sm_fill xcr (-1) 8, fN, fC, fD, fS, fA, fB, fO, fP, fL, fM, tS, tG) :=
  sm_mk (nc := 0) (sp := 0) (n := 0) (kn := fun _ => 0) ⟨hm, hl, hl2, hd, by omega, by omega, ⟨by omega, by omega, fun i hi => absurd hi (by omega), fun v hv => Or.inl (sm_fill_lt 4 v hv)⟩, fun i hi => absurd hi (by omega), hs, sm_vok0 hx⟩
end
theorem i_vc_clearAll {k : Nat} {u : SX} {v : SY} (I : i_Rel k u v) (hk : k + 4 ≤ 2051) : wpX_clearAll (fun u' => wpY_clearAll (fun v' => i_Rel (k + 4) u' v') v) u := by
  obtain ⟨ms, lim, dl, nc, sp, n, kn, xlr, xls, xle, xst, xnw, xtc, xtu, xtn, xcu, xtd, xtt, xsr, yfc, yst, ycf, yev, yfr, ydo, xno, xsk, xrt, xsj, nK, nA, nB, nL, nR, tS, tG, xtx, xtl, xcr, eN, eC, eD, eT, eH, eR, tE, tN, fN, fC, fD, fS, fA, fB, fO, fP, fL, fM, rfl, rfl, o1, o2, o3, o4, o5, o6, o7, o8, o9, o10⟩ := I
  unfold wpX_clearAll
  refine sx_initial ?_
  exact sy_initial (sm_mk0 o1 o2 o3 o4 o9 o10.1)
theorem i_vc_clearVars {k : Nat} {u : SX} {v : SY} (I : i_Rel k u v) (hk : k + 4 ≤ 2051) : wpX_clearVars (fun u' => wpY_clearVars (fun v' => i_Rel (k + 4) u' v') v) u := by
  obtain ⟨ms, lim, dl, nc, sp, n, kn, xlr, xls, xle, xst, xnw, xtc, xtu, xtn, xcu, xtd, xtt, xsr, yfc, yst, ycf, yev, yfr, ydo, xno, xsk, xrt, xsj, nK, nA, nB, nL, nR, tS, tG, xtx, xtl, xcr, eN, eC, eD, eT, eH, eR, tE, tN, fN, fC, fD, fS, fA, fB, fO, fP, fL, fM, rfl, rfl, o1, o2, o3, o4, o5, o6, o7, o8, o9, o10⟩ := I
  unfold wpX_clearVars
  refine sx_emptyVars ?_
  exact sy_emptyVars (sm_mk ⟨o1, o2, o3, o4, o5, o6, o7, o8, o9, sm_vok0 o10.1⟩)
theorem i_vc_clearSubject {k : Nat} {u : SX} {v : SY} (I : i_Rel k u v) (hk : k + 4 ≤ 2051) : wpX_clearSubject (fun u' => wpY_clearSubject (fun v' => i_Rel (k + 4) u' v') v) u := by
  obtain ⟨ms, lim, dl, nc, sp, n, kn, xlr, xls, xle, xst, xnw, xtc, xtu, xtn, xcu, xtd, xtt, xsr, yfc, yst, ycf, yev, yfr, ydo, xno, xsk, xrt, xsj, nK, nA, nB, nL, nR, tS, tG, xtx, xtl, xcr, eN, eC, eD, eT, eH, eR, tE, tN, fN, fC, fD, fS, fA, fB, fO, fP, fL, fM, rfl, rfl, o1, o2, o3, o4, o5, o6, o7, o8, o9, o10⟩ := I
  exact sm_mk (k := k + 4) (n := 0) ⟨o1, o2, o3, o4, o5, by omega, ⟨o7.1, by omega, o7.2.2⟩, o8, o9, o10⟩
theorem sm_clampv (lo hi : Nat) (hlh : lo ≤ hi) (hh : hi < 1000) (p : Int32) : ∃ a, lo ≤ a ∧ a ≤ hi ∧
    (∀ post : Int32 → Prop, post (nI a) → wpX_clamp post p (nI lo) (nI hi)) ∧ (∀ A B C : Prop, (nI a = p → A) → (nI a = nI hi → B) → (nI a = nI lo → C) → ((nI lo ≤ p → (((p ≤ nI hi → A) ∧ (¬ p ≤ nI hi → B)))) ∧ (¬ nI lo ≤ p → C))) := by
  by_cases q : nI lo ≤ p
  · by_cases r : p ≤ nI hi
    · obtain ⟨j, hj, rfl⟩ := nI_of (sm_b0 q (by omega))
      rw [nI_leI (by omega) hj] at q
      rw [nI_leI hj (by omega)] at r
      exact ⟨j, q, r, fun post hp => br_t (nI_le q hj) (br_t (nI_le r (by omega)) hp), fun A B C a b c => br_t (nI_le q hj) (br_t (nI_le r (by omega)) (a rfl))⟩
    · exact ⟨hi, hlh, Nat.le_refl _, fun post hp => br_t q (br_f r hp), fun A B C a b c => br_t q (br_f r (b rfl))⟩
  · exact ⟨lo, Nat.le_refl _, hlh, fun post hp => br_f q hp, fun A B C a b c => br_f q (c rfl)⟩
theorem i_vc0 (k0 : Int32) (k1 : Int32) (k2 : Int32) : wpX_init (fun u => wpY_init (fun v => i_Rel 3 u v) k0 k1 k2) k0 k1 k2 := by
  obtain ⟨a, a1, a2, ax, ay⟩ := sm_clampv 1 16 (by omega) (by omega) k0
  obtain ⟨b, b1, b2, bx, bY⟩ := sm_clampv 16 250 (by omega) (by omega) k1
  obtain ⟨c, c1, c2, cX, cY⟩ := sm_clampv 0 8 (by omega) (by omega) k2
  unfold wpX_init
  refine ax _ (bx _ (cX _ ?_))
  refine sx_initial ?_
  have fin : i_Rel 3 (nI a, nI b, nI c, 0, 0, 0, 3, -1, -1, 0, 0, 0, 0, 0, 0, 0, 0, 0, (fun _ => 0), (fun _ => 0), sm_fill (fun _ => 0) (-1) 4, (fun _ => 0), (fun _ => 0), sm_fill (fun _ => 0) 0 8, sm_fill (fun _ => 0) (-1) 8, (fun _ => 0), (fun _ => 0), (fun _ => 0), (fun _ => 0), (fun _ => 0), (fun _ => 0), (fun _ => 0), (fun _ => 0))
      (nI a, nI b, nI c, 0, 0, 0, 3, -1, -1, 0, 0, 0, 0, 0, 0, (fun _ => 0), (fun _ => 0), (fun _ => 0), (fun _ => 0), (fun _ => 0), (fun _ => 0), sm_fill (fun _ => 0) (-1) 4, (fun _ => 0), (fun _ => 0), sm_fill (fun _ => 0) 0 8, sm_fill (fun _ => 0) (-1) 8, (fun _ => 0), (fun _ => 0), (fun _ => 0), (fun _ => 0), (fun _ => 0), (fun _ => 0), (fun _ => 0), (fun _ => 0), (fun _ => 0), (fun _ => 0), (fun _ => 0), (fun _ => 0)) :=
    sm_mk0 (ms := a) (lim := b) (dl := c) a2 (by omega) b2 c2 (fun i hi => ⟨0, by omega, rfl⟩) (fun i hi => ⟨0, by omega, rfl⟩)
  have y3 : ∀ p q r, nI a = p → nI b = q → nI c = r → wpY_clearAll (fun v => i_Rel 3 (nI a, nI b, nI c, 0, 0, 0, 3, -1, -1, 0, 0, 0, 0, 0, 0, 0, 0, 0, (fun _ => 0), (fun _ => 0), sm_fill (fun _ => 0) (-1) 4, (fun _ => 0), (fun _ => 0), sm_fill (fun _ => 0) 0 8, sm_fill (fun _ => 0) (-1) 8, (fun _ => 0), (fun _ => 0), (fun _ => 0), (fun _ => 0), (fun _ => 0), (fun _ => 0), (fun _ => 0), (fun _ => 0)) v)
      (p, q, r, 0, 0, 0, 0, 0, 0, 0, 0, 0, 0, 0, 0, (fun _ => 0), (fun _ => 0), (fun _ => 0), (fun _ => 0), (fun _ => 0), (fun _ => 0), (fun _ => 0), (fun _ => 0), (fun _ => 0), (fun _ => 0), (fun _ => 0), (fun _ => 0), (fun _ => 0), (fun _ => 0), (fun _ => 0), (fun _ => 0), (fun _ => 0), (fun _ => 0), (fun _ => 0), (fun _ => 0), (fun _ => 0), (fun _ => 0), (fun _ => 0)) := by
    intro p q r ep eq er
    subst ep eq er
    exact sy_initial fin
  refine ay _ _ _ (fun ea => ?_) (fun ea => ?_) (fun ea => ?_)
  all_goals
    refine bY _ _ _ (fun eb => ?_) (fun eb => ?_) (fun eb => ?_)
    all_goals
      refine cY _ _ _ (fun ec => ?_) (fun ec => ?_) (fun ec => ?_)
      all_goals
        exact y3 _ _ _ ea eb ec
end
section
theorem pk_char (x : Int32) : (x.toUInt32 % 65536).toInt32 = nI (x.toBitVec.toNat % 65536) := by
  apply Int32.toBitVec_inj.mp
  apply BitVec.eq_of_toNat_eq
  show (x.toUInt32 % 65536).toNat = (x.toBitVec.toNat % 65536) % 2 ^ 32
  rw [UInt32.toNat_mod]
  have : x.toUInt32.toNat = x.toBitVec.toNat := rfl
  rw [this]
  have : (65536 : UInt32).toNat = 65536 := rfl
  rw [this]
  omega
theorem sm_chu {g : Nat → Int32} {i m : Nat} (h : sm_ch g m) (c : Int32) : sm_ch (upd g i (vp_nar .char ((c.toUInt32 % 65536).toInt32))) m := by
  intro j hj
  by_cases q : j = i
  · refine ⟨c.toBitVec.toNat % 65536, by omega, ?_⟩
    rw [q, pk_us, pk_char]
    unfold vp_nar
    rw [(pk_charN (by omega)).1]
  · rw [pk_un q]; exact h j hj
theorem i_vc_addSubjectChar {k : Nat} {u : SX} {v : SY} (I : i_Rel k u v) (hk : k + 4 ≤ 2051) (v1 : Int32) : wpX_addSubjectChar (fun r u' => wpY_addSubjectChar (fun r' v' => r' = r ∧ i_Rel (k + 4) u' v') v v1) u v1 := by
  have J : i_Rel (k + 4) u v := I
  obtain ⟨ms, lim, dl, nc, sp, n, kn, xlr, xls, xle, xst, xnw, xtc, xtu, xtn, xcu, xtd, xtt, xsr, yfc, yst, ycf, yev, yfr, ydo, xno, xsk, xrt, xsj, nK, nA, nB, nL, nR, tS, tG, xtx, xtl, xcr, eN, eC, eD, eT, eH, eR, tE, tN, fN, fC, fD, fS, fA, fB, fO, fP, fL, fM, rfl, rfl, o1, o2, o3, o4, o5, o6, o7, o8, o9, o10⟩ := I
  by_cases c0 : v1 < 0
  · exact br_t c0 (br_t c0 ⟨rfl, J⟩)
  by_cases c1 : v1 ≤ 65535
  · by_cases c2 : n < ms
    · have l : nI n < nI ms := nI_lt c2 (by omega)
      have vn : vp_in (nI n) 16 := vp_in_nI (by omega) (by omega)
      refine br_f c0 (br_t c1 (br_t l ⟨vn, nm_r (sm_up (by omega)) (nm_r (nI_1 n) (br_f c0 (br_t c1 (br_t l ⟨vn, nm_r (sm_up (by omega)) (nm_r (nI_1 n) ⟨rfl, ?_⟩)⟩))))⟩))
      exact sm_mk (k := k + 4) (n := n + 1) ⟨o1, o2, o3, o4, o5, c2, ⟨o7.1, by omega, o7.2.2⟩, o8, sm_chu o9 v1, o10⟩
    · have l : ¬ nI n < nI ms := nI_nlt (by omega) (by omega)
      exact br_f c0 (br_t c1 (br_f l (br_f c0 (br_t c1 (br_f l ⟨rfl, J⟩)))))
  · exact br_f c0 (br_f c1 (br_f c0 (br_f c1 ⟨rfl, J⟩)))
theorem i_vc_define {k : Nat} {u : SX} {v : SY} (I : i_Rel k u v) (hk : k + 4 ≤ 2051) (v1 : Int32) : wpX_define (fun r u' => wpY_define (fun r' v' => r' = r ∧ i_Rel (k + 4) u' v') v v1) u v1 := by
  have J : i_Rel (k + 4) u v := I
  obtain ⟨ms, lim, dl, nc, sp, n, kn, xlr, xls, xle, xst, xnw, xtc, xtu, xtn, xcu, xtd, xtt, xsr, yfc, yst, ycf, yev, yfr, ydo, xno, xsk, xrt, xsj, nK, nA, nB, nL, nR, tS, tG, xtx, xtl, xcr, eN, eC, eD, eT, eH, eR, tE, tN, fN, fC, fD, fS, fA, fB, fO, fP, fL, fM, rfl, rfl, o1, o2, o3, o4, o5, o6, o7, o8, o9, o10⟩ := I
  rcases pk_ix v1 (n := 4) (by omega) with h | h | ⟨j, hj, rfl⟩
  · exact br_t h (br_t h ⟨rfl, J⟩)
  · exact br_f (sm_b0 h (by omega)) (br_f (sm_bl h) (br_f (sm_b0 h (by omega)) (br_f (sm_bn 3 h (by omega) (by omega)) ⟨rfl, J⟩)))
  · have l3 : nI j ≤ 3 := nI_le (b := 3) (by omega) (by omega)
    have vj : vp_in (nI j) 4 := vp_in_nI hj (by omega)
    by_cases s0 : sp = 0
    · have e : nI sp = 0 := by rw [s0]; rfl
      exact br_f (nI_pos (by omega)) (br_t (sm_lt 4 hj (by omega)) (br_t e (br_f (nI_pos (by omega)) (br_t l3 (br_t e ⟨rfl, J⟩)))))
    · have e : ¬ nI sp = 0 := nI_ne0 (by omega) (by omega)
      obtain ⟨s, hs⟩ : ∃ s, sp = s + 1 := ⟨sp - 1, by omega⟩
      subst hs
      obtain ⟨c, hc, ec⟩ := o8 s (by omega)
      have vs : vp_in (nI s) 16 := vp_in_nI (by omega) (by omega)
      have es : xsk (nI s).toNatClampNeg = nI c := sm_cg (by omega) ec
      have eu : upd xrt (nI j).toNatClampNeg (xsk (nI s).toNatClampNeg) = upd xrt j (nI c) := by rw [es, sm_up (by omega)]
      refine br_f (nI_pos (by omega)) (br_t (sm_lt 4 hj (by omega)) (br_f e (nm_r (nI_pred s) ⟨vs, vj, nm_r eu ⟨vj, br_f (nI_pos (by omega)) (br_t l3 (br_f e (nm_r (nI_pred s) ⟨vs, vj, nm_r eu ⟨vj, rfl, ?_⟩⟩)))⟩⟩)))
      refine sm_mk (k := k + 4) (sp := s) ⟨o1, o2, o3, o4, by omega, o6, ⟨o7.1, o7.2.1, o7.2.2.1, ?_⟩, fun i hi => o8 i (by omega), o9, o10⟩
      intro w hw
      by_cases q : w = j
      · exact Or.inr ⟨c, hc, by rw [q, pk_us]⟩
      · rw [pk_un q]; exact o7.2.2.2 w hw
theorem i_vc_match {k : Nat} {u : SX} {v : SY} (I : i_Rel k u v) (hk : k + 4 ≤ 2051) (v1 : Int32) (v2 : Int32) : wpX_match (fun r u' => wpY_match (fun r' v' => r' = r ∧ i_Rel (k + 4) u' v') v v1 (lw_bz v2)) u v1 (lw_bz v2) := by
  have J : i_Rel (k + 4) u v := I
  obtain ⟨ms, lim, dl, nc, sp, n, kn, xlr, xls, xle, xst, xnw, xtc, xtu, xtn, xcu, xtd, xtt, xsr, yfc, yst, ycf, yev, yfr, ydo, xno, xsk, xrt, xsj, nK, nA, nB, nL, nR, tS, tG, xtx, xtl, xcr, eN, eC, eD, eT, eH, eR, tE, tN, fN, fC, fD, fS, fA, fB, fO, fP, fL, fM, rfl, rfl, o1, o2, o3, o4, o5, o6, o7, o8, o9, o10⟩ := I
  rcases pk_ix v1 (n := 4) (by omega) with h | h | ⟨j, hj, rfl⟩
  · exact br_t h (br_t h ⟨rfl, J⟩)
  · exact br_f (sm_b0 h (by omega)) (br_f (sm_bl h) (br_f (sm_b0 h (by omega)) (br_f (sm_bn 3 h (by omega) (by omega)) ⟨rfl, J⟩)))
  · have l3 : nI j ≤ 3 := nI_le (b := 3) (by omega) (by omega)
    have l4 : nI j < 4 := sm_lt 4 hj (by omega)
    have vj : vp_in (nI j) 4 := vp_in_nI hj (by omega)
    rcases o7.2.2.2 j hj with hr | ⟨r, hr, er⟩
    · have e : xrt (nI j).toNatClampNeg = -1 := sm_cg (by omega) hr
      have e0 : ¬ (0 : Int32) ≤ xrt (nI j).toNatClampNeg := by rw [e]; decide
      exact br_f (nI_pos (by omega)) (br_t l4 ⟨vj, br_t e (br_f (nI_pos (by omega)) (br_t l3 ⟨vj, br_f e0 ⟨rfl, J⟩⟩))⟩)
    · have c32 := o7.1
      have e : ¬ xrt (nI j).toNatClampNeg = -1 := by rw [sm_cg (f := xrt) (by omega) er]; exact sm_m1ne (by omega)
      have e0 : (0 : Int32) ≤ xrt (nI j).toNatClampNeg := by rw [sm_cg (f := xrt) (by omega) er]; exact nI_pos' (by omega)
      by_cases z : lw_bz v2 = 0
      · obtain ⟨res, s, e', tS2, tG2, xst2, xnw2, xtc2, xtu2, xtn2, xcu2, xtd2, xtt2, xsr2, yfc2, yst2, ycf2, yev2, yfr2, ydo2, xtx2, xtl2, xcr2, eN2, eC2, eD2, eT2, eH2, eR2, tE2, tN2, fN2, fC2, fD2, fS2, fA2, fB2, fO2, fP2, fL2, fM2, vk, hx, hy⟩ := sm_match (xms := nI ms) (xnc := nI nc) (xsd := nI sp) (yms := nI ms) (ync := nI nc) (ysp := nI sp) (ylr := xlr) (yls := xls) (yle := xle) (xsk := xsk) (ysk := xsk) o7 o3 o2 o4 o9 hj hr er (Nat.le_refl n) (n + 1) 0 xst xnw xtc xtu xtn xcu xtd xtt xsr yfc yst ycf yev yfr ydo xtx xtl xcr eN eC eD eT eH eR tE tN fN fC fD fS fA fB fO fP fL fM tS tG (by omega) o10
        exact br_f (nI_pos (by omega)) (br_t l4 ⟨vj, br_f e (br_t z ⟨n + 3, hx _ _ (by omega) (br_f (nI_pos (by omega)) (br_t l3 ⟨vj, br_t e0 (br_t z ⟨n + 3, hy _ _ (by omega) ⟨rfl, sm_mk (k := k + 4) ⟨o1, o2, o3, o4, o5, o6, o7, o8, o9, vk⟩⟩⟩)⟩))⟩)⟩)
      · obtain ⟨res, s, e', tS2, tG2, xst2, xnw2, xtc2, xtu2, xtn2, xcu2, xtd2, xtt2, xsr2, yfc2, yst2, ycf2, yev2, yfr2, ydo2, xtx2, xtl2, xcr2, eN2, eC2, eD2, eT2, eH2, eR2, tE2, tN2, fN2, fC2, fD2, fS2, fA2, fB2, fO2, fP2, fL2, fM2, vk, hx, hy⟩ := sm_match (xms := nI ms) (xnc := nI nc) (xsd := nI sp) (yms := nI ms) (ync := nI nc) (ysp := nI sp) (ylr := xlr) (yls := xls) (yle := xle) (xsk := xsk) (ysk := xsk) o7 o3 o2 o4 o9 hj hr er (Nat.zero_le n) 1 0 xst xnw xtc xtu xtn xcu xtd xtt xsr yfc yst ycf yev yfr ydo xtx xtl xcr eN eC eD eT eH eR tE tN fN fC fD fS fA fB fO fP fL fM tS tG (by omega) o10
        exact br_f (nI_pos (by omega)) (br_t l4 ⟨vj, br_f e (br_f z ⟨3, hx _ _ (by omega) (br_f (nI_pos (by omega)) (br_t l3 ⟨vj, br_t e0 (br_f z ⟨3, hy _ _ (by omega) ⟨rfl, sm_mk (k := k + 4) ⟨o1, o2, o3, o4, o5, o6, o7, o8, o9, vk⟩⟩⟩)⟩))⟩)⟩)
end
section
theorem sm_pr2 (s : Nat) : nI (s + 1 + 1) - 2 = nI s := by
  have : (2 : Int32) = nI 2 := rfl
  rw [this, pk_sub (by omega)]
  rfl
theorem sm_u5 {g : Nat → Int32} {i : Nat} (f : Nat) {x y : Int32} (h : x = y) : upd g (nI i * 5 + nI f).toNatClampNeg x = upd g ((nI i * 5 + nI f).toNatClampNeg) y := by rw [h]
theorem sm_i5 {i : Nat} (f : Nat) (hi : i < 32) (hf : f < 5) : (nI i * 5 + nI f).toNatClampNeg = 5 * i + f := by rw [sm_ix5, sm_cl (by omega)]
/-- the five cells of node i written -/
def sm_five (g : Nat → Int32) (i : Nat) (x0 x1 x2 x3 x4 : Int32) : Nat → Int32 :=
  upd (upd (upd (upd (upd g (nI i * 5 + nI 0).toNatClampNeg x0) (nI i * 5 + nI 1).toNatClampNeg x1) (nI i * 5 + nI 2).toNatClampNeg x2) (nI i * 5 + nI 3).toNatClampNeg x3) (nI i * 5 + nI 4).toNatClampNeg x4
theorem sm_five_o {g : Nat → Int32} {i j : Nat} {x0 x1 x2 x3 x4 : Int32} (hi : i < 32) (h : j < 5 * i) : sm_five g i x0 x1 x2 x3 x4 j = g j := by
  unfold sm_five
  rw [sm_i5 0 hi (by omega), sm_i5 1 hi (by omega), sm_i5 2 hi (by omega), sm_i5 3 hi (by omega), sm_i5 4 hi (by omega), pk_un (by omega), pk_un (by omega), pk_un (by omega), pk_un (by omega), pk_un (by omega)]
theorem sm_five_n {g : Nat → Int32} {i : Nat} {x0 x1 x2 x3 x4 : Int32} (hi : i < 32) : sm_five g i x0 x1 x2 x3 x4 (5 * i) = x0 ∧ sm_five g i x0 x1 x2 x3 x4 (5 * i + 1) = x1 ∧ sm_five g i x0 x1 x2 x3 x4 (5 * i + 2) = x2 ∧ sm_five g i x0 x1 x2 x3 x4 (5 * i + 3) = x3 ∧ sm_five g i x0 x1 x2 x3 x4 (5 * i + 4) = x4 := by
  unfold sm_five
  rw [sm_i5 0 hi (by omega), sm_i5 1 hi (by omega), sm_i5 2 hi (by omega), sm_i5 3 hi (by omega), sm_i5 4 hi (by omega)]
  refine ⟨?_, ?_, ?_, ?_, ?_⟩
  · rw [pk_un (by omega), pk_un (by omega), pk_un (by omega), pk_un (by omega)]; exact pk_us
  · rw [pk_un (by omega), pk_un (by omega), pk_un (by omega), pk_us]
  · rw [pk_un (by omega), pk_un (by omega), pk_us]
  · rw [pk_un (by omega), pk_us]
  · rw [pk_us]
theorem sm_cxn {n nc kk : Nat} {kn : Nat → Nat} {xno xrt nK nA nB nL nR nK' nA' nB' nL' nR' : Nat → Int32} {xa xb xl xr : Int32}
    (h : sm_cx n nc kn xno xrt nK nA nB nL nR) (h32 : nc < 32) (k1 : 1 ≤ kk) (k18 : kk ≤ 18)
    (eK : ∀ i, i < nc → nK' i = nK i) (eA : ∀ i, i < nc → nA' i = nA i) (eB : ∀ i, i < nc → nB' i = nB i) (eL : ∀ i, i < nc → nL' i = nL i) (eR : ∀ i, i < nc → nR' i = nR i)
    (vK : nK' nc = nI kk) (vA : nA' nc = xa) (vB : nB' nc = xb) (vL : nL' nc = xl) (vR : nR' nc = xr)
    (c1 : 4 ≤ kk → kk ≤ 6 → ∃ a, a ≤ 16 ∧ xa = nI a) (c2 : kk = 11 ∨ kk = 15 ∨ kk = 16 → ∃ a, a ≤ 7 ∧ xa = nI a) (c3 : kk = 12 → ∃ a, a ≤ 3 ∧ xa = nI a)
    (c4 : 13 ≤ kk → ∃ l, l < nc ∧ xl = nI l) (c5 : 17 ≤ kk → ∃ r, r < nc ∧ xr = nI r) :
    sm_cx n (nc + 1) (fun i => if i = nc then kk else kn i) (sm_five xno nc (nI kk) xa xb xl xr) xrt nK' nA' nB' nL' nR' := by
  obtain ⟨o1, o2, o3, o4⟩ := h
  refine ⟨by omega, o2, ?_, ?_⟩
  · intro i hi
    by_cases q : i = nc
    · subst q
      obtain ⟨f0, f1, f2, f3, f4⟩ := sm_five_n (g := xno) (x0 := nI kk) (x1 := xa) (x2 := xb) (x3 := xl) (x4 := xr) h32
      unfold sm_nd
      dsimp only
      rw [if_pos rfl, f0, f1, f2, f3, f4, vK, vA, vB, vL, vR]
      exact ⟨rfl, k1, k18, rfl, rfl, rfl, rfl, rfl, c1, c2, c3, c4, c5⟩
    · have hi' : i < nc := by omega
      have D := o3 i hi'
      unfold sm_nd at D ⊢
      dsimp only
      rw [if_neg q, sm_five_o h32 (by omega), sm_five_o h32 (by omega), sm_five_o h32 (by omega), sm_five_o h32 (by omega), sm_five_o h32 (by omega), eK i hi', eA i hi', eB i hi', eL i hi', eR i hi']
      exact D
  · intro w hw
    rcases o4 w hw with z | ⟨r, hr, z⟩
    · exact Or.inl z
    · exact Or.inr ⟨r, by omega, z⟩
theorem sm_stk {g : Nat → Int32} {s sp nc : Nat} (h : ∀ i, i < sp → ∃ c, c < nc ∧ g i = nI c) (hs : s ≤ sp) : ∀ i, i < s + 1 → ∃ c, c < nc + 1 ∧ upd g s (nI nc) i = nI c := by
  intro i hi
  by_cases q : i = s
  · exact ⟨nc, by omega, by rw [q, pk_us]⟩
  · obtain ⟨c, hc, e⟩ := h i (by omega)
    exact ⟨c, by omega, by rw [pk_un q]; exact e⟩
section
variable {ms lim dl nc sp n : Nat} {kn : Nat → Nat} {xlr xls xle xst xnw xtc xtu xtn xcu xtd xtt xsr yfc yst ycf yev yfr ydo : Int32} {xno xsk xrt xsj nK nA nB nL nR tS tG xtx xtl xcr eN eC eD eT eH eR tE tN fN fC fD fS fA fB fO fP fL fM : Nat → Int32}

theorem sm_push1 {kk : Nat} (J : i_Rel (kk + 4) (nI ms, nI lim, nI dl, nI nc, nI sp, nI n, xlr, xls, xle, xst, xnw, xtc, xtu, xtn, xcu, xtd, xtt, xsr, xno, xsk, xrt, xsj, xtx, xtl, xcr, eN, eC, eD, eT, eH, eR, tE, tN) (nI ms, nI lim, nI dl, nI nc, nI sp, nI n, xlr, xls, xle, yfc, yst, ycf, yev, yfr, ydo, nK, nA, nB, nL, nR, xsk, xrt, xsj, xtx, xtl, xcr, fN, fC, fD, fS, fA, fB, fO, fP, fL, fM, tS, tG)) (ok : sm_ok ms lim dl nc sp n kn xno xsk xrt xsj xtx xtl nK nA nB nL nR) (v2 v3 : Int32) :
    wpX_push (fun r u' => wpY_push (fun r' v' => r' = r ∧ i_Rel (kk + 4) u' v') (nI ms, nI lim, nI dl, nI nc, nI sp, nI n, xlr, xls, xle, yfc, yst, ycf, yev, yfr, ydo, nK, nA, nB, nL, nR, xsk, xrt, xsj, xtx, xtl, xcr, fN, fC, fD, fS, fA, fB, fO, fP, fL, fM, tS, tG) 1 v2 v3) (nI ms, nI lim, nI dl, nI nc, nI sp, nI n, xlr, xls, xle, xst, xnw, xtc, xtu, xtn, xcu, xtd, xtt, xsr, xno, xsk, xrt, xsj, xtx, xtl, xcr, eN, eC, eD, eT, eH, eR, tE, tN) 1 v2 v3 := by
  obtain ⟨o1, o2, o3, o4, o5, o6, o7, o8, o9, o10⟩ := ok
  have c32 := o7.1
  by_cases c0 : v2 < 0
  · exact br_f (by decide) (br_t (by decide) (br_f (by decide) (br_f (by decide) (br_t rfl (br_f (by decide) (br_t c0 (br_t rfl (br_f (by decide) (br_t (by decide) (br_f (by decide) (br_f (by decide) (br_f (by decide) (br_f (by decide) (br_f (by decide) (br_f (by decide) (br_f (by decide) (br_f (by decide) (br_f (by decide) (br_t rfl (br_t c0 (⟨rfl, J⟩)))))))))))))))))))))
  by_cases c1 : v2 ≤ 65535
  rotate_left
  · exact br_f (by decide) (br_t (by decide) (br_f (by decide) (br_f (by decide) (br_t rfl (br_f (by decide) (br_f c0 (br_f c1 (br_t rfl (br_f (by decide) (br_t (by decide) (br_f (by decide) (br_f (by decide) (br_f (by decide) (br_f (by decide) (br_f (by decide) (br_f (by decide) (br_f (by decide) (br_f (by decide) (br_f (by decide) (br_t rfl (br_f c0 (br_f c1 (⟨rfl, J⟩)))))))))))))))))))))))
  have sx : (0 : Int32) ≤ nI sp := nI_pos' (by omega)
  by_cases p : nc < 32
  rotate_left
  · have pl : ¬ nI nc < 32 := nI_nlt (b := 32) (by omega) (by omega)
    exact br_f (by decide) (br_t (by decide) (br_f (by decide) (br_f (by decide) (br_t rfl (br_f (by decide) (br_f c0 (br_t c1 (br_f (by decide) (br_f (by decide) (br_f (by decide) (br_t rfl (br_f (by decide) (br_f (by decide) (br_t sx (br_f pl (br_f (by decide) (br_t (by decide) (br_f (by decide) (br_f (by decide) (br_f (by decide) (br_f (by decide) (br_f (by decide) (br_f (by decide) (br_f (by decide) (br_f (by decide) (br_f (by decide) (br_t rfl (br_f c0 (br_t c1 (br_t rfl (br_t rfl (br_t rfl (br_f (by decide) (br_t (by decide) (br_f (by decide) (br_f (by decide) (br_t rfl (br_t rfl (br_f pl (⟨rfl, J⟩))))))))))))))))))))))))))))))))))))))))
  have pl : nI nc < 32 := sm_lt 32 p (by omega)
  by_cases f : sp < 16
  rotate_left
  · have sf : ¬ nI sp < 16 := nI_nlt (b := 16) (by omega) (by omega)
    exact br_f (by decide) (br_t (by decide) (br_f (by decide) (br_f (by decide) (br_t rfl (br_f (by decide) (br_f c0 (br_t c1 (br_f (by decide) (br_f (by decide) (br_f (by decide) (br_t rfl (br_f (by decide) (br_f (by decide) (br_t sx (br_t pl (br_t rfl (br_f sf (br_f (by decide) (br_t (by decide) (br_f (by decide) (br_f (by decide) (br_f (by decide) (br_f (by decide) (br_f (by decide) (br_f (by decide) (br_f (by decide) (br_f (by decide) (br_f (by decide) (br_t rfl (br_f c0 (br_t c1 (br_t rfl (br_t rfl (br_t rfl (br_f (by decide) (br_t (by decide) (br_f (by decide) (br_f (by decide) (br_t rfl (br_t rfl (br_t pl (br_t rfl (br_t rfl (br_f sf (⟨rfl, J⟩)))))))))))))))))))))))))))))))))))))))))))))
  have sf : nI sp < 16 := sm_lt 16 f (by omega)
  have n32 : nc < 32 := p
  have vn : vp_in (nI nc) 32 := vp_in_nI p (by omega)
  have vs : vp_in (nI sp) 16 := vp_in_nI f (by omega)
  have fin : i_Rel (kk + 4) (nI ms, nI lim, nI dl, nI (nc + 1), nI (sp + 1), nI n, xlr, xls, xle, xst, xnw, xtc, xtu, xtn, xcu, xtd, xtt, xsr, sm_five xno nc 1 v2 0 (-1) (-1), upd xsk sp (nI nc), xrt, xsj, xtx, xtl, xcr, eN, eC, eD, eT, eH, eR, tE, tN)
      (nI ms, nI lim, nI dl, nI (nc + 1), nI (sp + 1), nI n, xlr, xls, xle, yfc, yst, ycf, yev, yfr, ydo, upd nK nc 1, upd nA nc v2, upd nB nc 0, upd nL nc (-1), upd nR nc (-1), upd xsk sp (nI nc), xrt, xsj, xtx, xtl, xcr, fN, fC, fD, fS, fA, fB, fO, fP, fL, fM, tS, tG) :=
    sm_mk (nc := nc + 1) (sp := sp + 1) ⟨o1, o2, o3, o4, by omega, o6, sm_cxn (kk := 1) o7 p (by decide) (by decide) (fun i hi => pk_un (by omega)) (fun i hi => pk_un (by omega)) (fun i hi => pk_un (by omega)) (fun i hi => pk_un (by omega)) (fun i hi => pk_un (by omega)) pk_us pk_us pk_us pk_us pk_us (fun a b => absurd a (by decide)) (fun a => absurd a (by decide)) (fun a => absurd a (by decide)) (fun a => absurd a (by decide)) (fun a => absurd a (by decide)), sm_stk o8 (by omega), o9, o10⟩
  exact br_f (by decide) (br_t (by decide) (br_f (by decide) (br_f (by decide) (br_t rfl (br_f (by decide) (br_f c0 (br_t c1 (br_f (by decide) (br_f (by decide) (br_f (by decide) (br_t rfl (br_f (by decide) (br_f (by decide) (br_t sx (br_t pl (br_t rfl (br_t sf (br_f (by decide) (br_t (by decide) (nm_e ⟨sm_in5 0 n32 (by omega), nm_r (sm_u5 0 rfl) (br_f (by decide) (br_f (by decide) (br_t rfl (br_f (by decide) ⟨sm_in5 1 n32 (by omega), nm_r (sm_u5 1 rfl) (br_f (by decide) (br_f (by decide) (br_f (by decide) (br_t rfl ⟨sm_in5 2 n32 (by omega), nm_r (sm_u5 2 rfl) ⟨sm_in5 3 n32 (by omega), nm_r (sm_u5 3 rfl) ⟨sm_in5 4 n32 (by omega), nm_r (sm_u5 4 rfl) (nm_r (nI_1 nc) ⟨vs, nm_r (sm_up (by omega)) (nm_r (nI_1 sp) (br_f (by decide) (br_t (by decide) (br_f (by decide) (br_f (by decide) (br_f (by decide) (br_f (by decide) (br_f (by decide) (br_f (by decide) (br_f (by decide) (br_f (by decide) (br_f (by decide) (br_t rfl (br_f c0 (br_t c1 (br_t rfl (br_t rfl (br_t rfl (br_f (by decide) (br_t (by decide) (br_f (by decide) (br_f (by decide) (br_t rfl (br_t rfl (br_t pl (br_t rfl (br_t rfl (br_t sf (br_t rfl (⟨vn, nm_r (sm_up (by omega)) (br_f (by decide) (⟨vn, nm_r (sm_up (by omega)) (br_t rfl (⟨vn, nm_r (sm_up (by omega)) ⟨vn, nm_r (sm_up (by omega)) ⟨vn, nm_r (sm_up (by omega)) (br_t rfl (br_t rfl (⟨vs, nm_r (sm_up (by omega)) (nm_r (nI_1 sp) (nm_r (nI_1 nc) (⟨rfl, fin⟩)))⟩)))⟩⟩⟩))⟩))⟩))))))))))))))))))))))))))))))⟩)⟩⟩⟩))))⟩))))⟩))))))))))))))))))))
theorem sm_push2 {kk : Nat} (J : i_Rel (kk + 4) (nI ms, nI lim, nI dl, nI nc, nI sp, nI n, xlr, xls, xle, xst, xnw, xtc, xtu, xtn, xcu, xtd, xtt, xsr, xno, xsk, xrt, xsj, xtx, xtl, xcr, eN, eC, eD, eT, eH, eR, tE, tN) (nI ms, nI lim, nI dl, nI nc, nI sp, nI n, xlr, xls, xle, yfc, yst, ycf, yev, yfr, ydo, nK, nA, nB, nL, nR, xsk, xrt, xsj, xtx, xtl, xcr, fN, fC, fD, fS, fA, fB, fO, fP, fL, fM, tS, tG)) (ok : sm_ok ms lim dl nc sp n kn xno xsk xrt xsj xtx xtl nK nA nB nL nR) (v2 v3 : Int32) :
    wpX_push (fun r u' => wpY_push (fun r' v' => r' = r ∧ i_Rel (kk + 4) u' v') (nI ms, nI lim, nI dl, nI nc, nI sp, nI n, xlr, xls, xle, yfc, yst, ycf, yev, yfr, ydo, nK, nA, nB, nL, nR, xsk, xrt, xsj, xtx, xtl, xcr, fN, fC, fD, fS, fA, fB, fO, fP, fL, fM, tS, tG) 2 v2 v3) (nI ms, nI lim, nI dl, nI nc, nI sp, nI n, xlr, xls, xle, xst, xnw, xtc, xtu, xtn, xcu, xtd, xtt, xsr, xno, xsk, xrt, xsj, xtx, xtl, xcr, eN, eC, eD, eT, eH, eR, tE, tN) 2 v2 v3 := by
  obtain ⟨o1, o2, o3, o4, o5, o6, o7, o8, o9, o10⟩ := ok
  have c32 := o7.1
  have sx : (0 : Int32) ≤ nI sp := nI_pos' (by omega)
  by_cases p : nc < 32
  rotate_left
  · have pl : ¬ nI nc < 32 := nI_nlt (b := 32) (by omega) (by omega)
    exact br_f (by decide) (br_t (by decide) (br_f (by decide) (br_f (by decide) (br_f (by decide) (br_t rfl (br_t rfl (br_f (by decide) (br_f (by decide) (br_t sx (br_f pl (br_f (by decide) (br_t (by decide) (br_f (by decide) (br_f (by decide) (br_f (by decide) (br_f (by decide) (br_f (by decide) (br_f (by decide) (br_f (by decide) (br_f (by decide) (br_f (by decide) (br_f (by decide) (br_t rfl (br_t rfl (br_t rfl (br_f (by decide) (br_t (by decide) (br_f (by decide) (br_f (by decide) (br_t rfl (br_t rfl (br_f pl (⟨rfl, J⟩)))))))))))))))))))))))))))))))))
  have pl : nI nc < 32 := sm_lt 32 p (by omega)
  by_cases f : sp < 16
  rotate_left
  · have sf : ¬ nI sp < 16 := nI_nlt (b := 16) (by omega) (by omega)
    exact br_f (by decide) (br_t (by decide) (br_f (by decide) (br_f (by decide) (br_f (by decide) (br_t rfl (br_t rfl (br_f (by decide) (br_f (by decide) (br_t sx (br_t pl (br_t rfl (br_f sf (br_f (by decide) (br_t (by decide) (br_f (by decide) (br_f (by decide) (br_f (by decide) (br_f (by decide) (br_f (by decide) (br_f (by decide) (br_f (by decide) (br_f (by decide) (br_f (by decide) (br_f (by decide) (br_t rfl (br_t rfl (br_t rfl (br_f (by decide) (br_t (by decide) (br_f (by decide) (br_f (by decide) (br_t rfl (br_t rfl (br_t pl (br_t rfl (br_t rfl (br_f sf (⟨rfl, J⟩))))))))))))))))))))))))))))))))))))))
  have sf : nI sp < 16 := sm_lt 16 f (by omega)
  have n32 : nc < 32 := p
  have vn : vp_in (nI nc) 32 := vp_in_nI p (by omega)
  have vs : vp_in (nI sp) 16 := vp_in_nI f (by omega)
  have fin : i_Rel (kk + 4) (nI ms, nI lim, nI dl, nI (nc + 1), nI (sp + 1), nI n, xlr, xls, xle, xst, xnw, xtc, xtu, xtn, xcu, xtd, xtt, xsr, sm_five xno nc 2 0 0 (-1) (-1), upd xsk sp (nI nc), xrt, xsj, xtx, xtl, xcr, eN, eC, eD, eT, eH, eR, tE, tN)
      (nI ms, nI lim, nI dl, nI (nc + 1), nI (sp + 1), nI n, xlr, xls, xle, yfc, yst, ycf, yev, yfr, ydo, upd nK nc 2, upd nA nc 0, upd nB nc 0, upd nL nc (-1), upd nR nc (-1), upd xsk sp (nI nc), xrt, xsj, xtx, xtl, xcr, fN, fC, fD, fS, fA, fB, fO, fP, fL, fM, tS, tG) :=
    sm_mk (nc := nc + 1) (sp := sp + 1) ⟨o1, o2, o3, o4, by omega, o6, sm_cxn (kk := 2) o7 p (by decide) (by decide) (fun i hi => pk_un (by omega)) (fun i hi => pk_un (by omega)) (fun i hi => pk_un (by omega)) (fun i hi => pk_un (by omega)) (fun i hi => pk_un (by omega)) pk_us pk_us pk_us pk_us pk_us (fun a b => absurd a (by decide)) (fun a => absurd a (by decide)) (fun a => absurd a (by decide)) (fun a => absurd a (by decide)) (fun a => absurd a (by decide)), sm_stk o8 (by omega), o9, o10⟩
  exact br_f (by decide) (br_t (by decide) (br_f (by decide) (br_f (by decide) (br_f (by decide) (br_t rfl (br_t rfl (br_f (by decide) (br_f (by decide) (br_t sx (br_t pl (br_t rfl (br_t sf (br_f (by decide) (br_t (by decide) (nm_e ⟨sm_in5 0 n32 (by omega), nm_r (sm_u5 0 rfl) (br_f (by decide) (br_f (by decide) (br_f (by decide) (br_t rfl (br_t rfl ⟨sm_in5 1 n32 (by omega), nm_r (sm_u5 1 rfl) (br_f (by decide) (br_f (by decide) (br_f (by decide) (br_t rfl ⟨sm_in5 2 n32 (by omega), nm_r (sm_u5 2 rfl) ⟨sm_in5 3 n32 (by omega), nm_r (sm_u5 3 rfl) ⟨sm_in5 4 n32 (by omega), nm_r (sm_u5 4 rfl) (nm_r (nI_1 nc) ⟨vs, nm_r (sm_up (by omega)) (nm_r (nI_1 sp) (br_f (by decide) (br_t (by decide) (br_f (by decide) (br_f (by decide) (br_f (by decide) (br_f (by decide) (br_f (by decide) (br_f (by decide) (br_f (by decide) (br_f (by decide) (br_f (by decide) (br_f (by decide) (br_t rfl (br_t rfl (br_t rfl (br_f (by decide) (br_t (by decide) (br_f (by decide) (br_f (by decide) (br_t rfl (br_t rfl (br_t pl (br_t rfl (br_t rfl (br_t sf (br_f (by decide) (br_t rfl (br_t rfl (br_t rfl (br_f (by decide) (⟨vn, nm_r (sm_up (by omega)) (br_t rfl (⟨vn, nm_r (sm_up (by omega)) (br_t rfl (⟨vn, nm_r (sm_up (by omega)) ⟨vn, nm_r (sm_up (by omega)) ⟨vn, nm_r (sm_up (by omega)) (br_t rfl (br_t rfl (⟨vs, nm_r (sm_up (by omega)) (nm_r (nI_1 sp) (nm_r (nI_1 nc) (⟨rfl, fin⟩)))⟩)))⟩⟩⟩))⟩))⟩))))))))))))))))))))))))))))))))⟩)⟩⟩⟩))))⟩)))))⟩)))))))))))))))
theorem sm_push3 {kk : Nat} (J : i_Rel (kk + 4) (nI ms, nI lim, nI dl, nI nc, nI sp, nI n, xlr, xls, xle, xst, xnw, xtc, xtu, xtn, xcu, xtd, xtt, xsr, xno, xsk, xrt, xsj, xtx, xtl, xcr, eN, eC, eD, eT, eH, eR, tE, tN) (nI ms, nI lim, nI dl, nI nc, nI sp, nI n, xlr, xls, xle, yfc, yst, ycf, yev, yfr, ydo, nK, nA, nB, nL, nR, xsk, xrt, xsj, xtx, xtl, xcr, fN, fC, fD, fS, fA, fB, fO, fP, fL, fM, tS, tG)) (ok : sm_ok ms lim dl nc sp n kn xno xsk xrt xsj xtx xtl nK nA nB nL nR) (v2 v3 : Int32) :
    wpX_push (fun r u' => wpY_push (fun r' v' => r' = r ∧ i_Rel (kk + 4) u' v') (nI ms, nI lim, nI dl, nI nc, nI sp, nI n, xlr, xls, xle, yfc, yst, ycf, yev, yfr, ydo, nK, nA, nB, nL, nR, xsk, xrt, xsj, xtx, xtl, xcr, fN, fC, fD, fS, fA, fB, fO, fP, fL, fM, tS, tG) 3 v2 v3) (nI ms, nI lim, nI dl, nI nc, nI sp, nI n, xlr, xls, xle, xst, xnw, xtc, xtu, xtn, xcu, xtd, xtt, xsr, xno, xsk, xrt, xsj, xtx, xtl, xcr, eN, eC, eD, eT, eH, eR, tE, tN) 3 v2 v3 := by
  obtain ⟨o1, o2, o3, o4, o5, o6, o7, o8, o9, o10⟩ := ok
  have c32 := o7.1
  have sx : (0 : Int32) ≤ nI sp := nI_pos' (by omega)
  by_cases p : nc < 32
  rotate_left
  · have pl : ¬ nI nc < 32 := nI_nlt (b := 32) (by omega) (by omega)
    exact br_f (by decide) (br_t (by decide) (br_f (by decide) (br_f (by decide) (br_f (by decide) (br_f (by decide) (br_t rfl (br_t rfl (br_f (by decide) (br_f (by decide) (br_t sx (br_f pl (br_f (by decide) (br_t (by decide) (br_f (by decide) (br_f (by decide) (br_f (by decide) (br_f (by decide) (br_f (by decide) (br_f (by decide) (br_f (by decide) (br_f (by decide) (br_f (by decide) (br_f (by decide) (br_t rfl (br_t rfl (br_t rfl (br_f (by decide) (br_t (by decide) (br_f (by decide) (br_f (by decide) (br_t rfl (br_t rfl (br_f pl (⟨rfl, J⟩))))))))))))))))))))))))))))))))))
  have pl : nI nc < 32 := sm_lt 32 p (by omega)
  by_cases f : sp < 16
  rotate_left
  · have sf : ¬ nI sp < 16 := nI_nlt (b := 16) (by omega) (by omega)
    exact br_f (by decide) (br_t (by decide) (br_f (by decide) (br_f (by decide) (br_f (by decide) (br_f (by decide) (br_t rfl (br_t rfl (br_f (by decide) (br_f (by decide) (br_t sx (br_t pl (br_t rfl (br_f sf (br_f (by decide) (br_t (by decide) (br_f (by decide) (br_f (by decide) (br_f (by decide) (br_f (by decide) (br_f (by decide) (br_f (by decide) (br_f (by decide) (br_f (by decide) (br_f (by decide) (br_f (by decide) (br_t rfl (br_t rfl (br_t rfl (br_f (by decide) (br_t (by decide) (br_f (by decide) (br_f (by decide) (br_t rfl (br_t rfl (br_t pl (br_t rfl (br_t rfl (br_f sf (⟨rfl, J⟩)))))))))))))))))))))))))))))))))))))))
  have sf : nI sp < 16 := sm_lt 16 f (by omega)
  have n32 : nc < 32 := p
  have vn : vp_in (nI nc) 32 := vp_in_nI p (by omega)
  have vs : vp_in (nI sp) 16 := vp_in_nI f (by omega)
  have fin : i_Rel (kk + 4) (nI ms, nI lim, nI dl, nI (nc + 1), nI (sp + 1), nI n, xlr, xls, xle, xst, xnw, xtc, xtu, xtn, xcu, xtd, xtt, xsr, sm_five xno nc 3 0 0 (-1) (-1), upd xsk sp (nI nc), xrt, xsj, xtx, xtl, xcr, eN, eC, eD, eT, eH, eR, tE, tN)
      (nI ms, nI lim, nI dl, nI (nc + 1), nI (sp + 1), nI n, xlr, xls, xle, yfc, yst, ycf, yev, yfr, ydo, upd nK nc 3, upd nA nc 0, upd nB nc 0, upd nL nc (-1), upd nR nc (-1), upd xsk sp (nI nc), xrt, xsj, xtx, xtl, xcr, fN, fC, fD, fS, fA, fB, fO, fP, fL, fM, tS, tG) :=
    sm_mk (nc := nc + 1) (sp := sp + 1) ⟨o1, o2, o3, o4, by omega, o6, sm_cxn (kk := 3) o7 p (by decide) (by decide) (fun i hi => pk_un (by omega)) (fun i hi => pk_un (by omega)) (fun i hi => pk_un (by omega)) (fun i hi => pk_un (by omega)) (fun i hi => pk_un (by omega)) pk_us pk_us pk_us pk_us pk_us (fun a b => absurd a (by decide)) (fun a => absurd a (by decide)) (fun a => absurd a (by decide)) (fun a => absurd a (by decide)) (fun a => absurd a (by decide)), sm_stk o8 (by omega), o9, o10⟩
  exact br_f (by decide) (br_t (by decide) (br_f (by decide) (br_f (by decide) (br_f (by decide) (br_f (by decide) (br_t rfl (br_t rfl (br_f (by decide) (br_f (by decide) (br_t sx (br_t pl (br_t rfl (br_t sf (br_f (by decide) (br_t (by decide) (nm_e ⟨sm_in5 0 n32 (by omega), nm_r (sm_u5 0 rfl) (br_f (by decide) (br_f (by decide) (br_f (by decide) (br_f (by decide) (br_t rfl (br_t rfl ⟨sm_in5 1 n32 (by omega), nm_r (sm_u5 1 rfl) (br_f (by decide) (br_f (by decide) (br_f (by decide) (br_t rfl ⟨sm_in5 2 n32 (by omega), nm_r (sm_u5 2 rfl) ⟨sm_in5 3 n32 (by omega), nm_r (sm_u5 3 rfl) ⟨sm_in5 4 n32 (by omega), nm_r (sm_u5 4 rfl) (nm_r (nI_1 nc) ⟨vs, nm_r (sm_up (by omega)) (nm_r (nI_1 sp) (br_f (by decide) (br_t (by decide) (br_f (by decide) (br_f (by decide) (br_f (by decide) (br_f (by decide) (br_f (by decide) (br_f (by decide) (br_f (by decide) (br_f (by decide) (br_f (by decide) (br_f (by decide) (br_t rfl (br_t rfl (br_t rfl (br_f (by decide) (br_t (by decide) (br_f (by decide) (br_f (by decide) (br_t rfl (br_t rfl (br_t pl (br_t rfl (br_t rfl (br_t sf (br_f (by decide) (br_t rfl (br_t rfl (br_t rfl (br_f (by decide) (⟨vn, nm_r (sm_up (by omega)) (br_t rfl (⟨vn, nm_r (sm_up (by omega)) (br_t rfl (⟨vn, nm_r (sm_up (by omega)) ⟨vn, nm_r (sm_up (by omega)) ⟨vn, nm_r (sm_up (by omega)) (br_t rfl (br_t rfl (⟨vs, nm_r (sm_up (by omega)) (nm_r (nI_1 sp) (nm_r (nI_1 nc) (⟨rfl, fin⟩)))⟩)))⟩⟩⟩))⟩))⟩))))))))))))))))))))))))))))))))⟩)⟩⟩⟩))))⟩))))))⟩))))))))))))))))
theorem sm_push4 {kk : Nat} (J : i_Rel (kk + 4) (nI ms, nI lim, nI dl, nI nc, nI sp, nI n, xlr, xls, xle, xst, xnw, xtc, xtu, xtn, xcu, xtd, xtt, xsr, xno, xsk, xrt, xsj, xtx, xtl, xcr, eN, eC, eD, eT, eH, eR, tE, tN) (nI ms, nI lim, nI dl, nI nc, nI sp, nI n, xlr, xls, xle, yfc, yst, ycf, yev, yfr, ydo, nK, nA, nB, nL, nR, xsk, xrt, xsj, xtx, xtl, xcr, fN, fC, fD, fS, fA, fB, fO, fP, fL, fM, tS, tG)) (ok : sm_ok ms lim dl nc sp n kn xno xsk xrt xsj xtx xtl nK nA nB nL nR) (v2 v3 : Int32) :
    wpX_push (fun r u' => wpY_push (fun r' v' => r' = r ∧ i_Rel (kk + 4) u' v') (nI ms, nI lim, nI dl, nI nc, nI sp, nI n, xlr, xls, xle, yfc, yst, ycf, yev, yfr, ydo, nK, nA, nB, nL, nR, xsk, xrt, xsj, xtx, xtl, xcr, fN, fC, fD, fS, fA, fB, fO, fP, fL, fM, tS, tG) 4 v2 v3) (nI ms, nI lim, nI dl, nI nc, nI sp, nI n, xlr, xls, xle, xst, xnw, xtc, xtu, xtn, xcu, xtd, xtt, xsr, xno, xsk, xrt, xsj, xtx, xtl, xcr, eN, eC, eD, eT, eH, eR, tE, tN) 4 v2 v3 := by
  obtain ⟨o1, o2, o3, o4, o5, o6, o7, o8, o9, o10⟩ := ok
  have c32 := o7.1
  by_cases c0 : v2 < 0
  · exact br_f (by decide) (br_t (by decide) (br_f (by decide) (br_f (by decide) (br_f (by decide) (br_f (by decide) (br_f (by decide) (br_t rfl (br_f (by decide) (br_t c0 (br_t rfl (br_f (by decide) (br_t (by decide) (br_f (by decide) (br_f (by decide) (br_f (by decide) (br_t rfl (br_f (by decide) (br_f (by decide) (br_f (by decide) (br_f (by decide) (br_f (by decide) (br_t c0 (⟨rfl, J⟩)))))))))))))))))))))))
  by_cases c1 : v2 ≤ 16
  rotate_left
  · exact br_f (by decide) (br_t (by decide) (br_f (by decide) (br_f (by decide) (br_f (by decide) (br_f (by decide) (br_f (by decide) (br_t rfl (br_f (by decide) (br_f c0 (br_f c1 (br_t rfl (br_f (by decide) (br_t (by decide) (br_f (by decide) (br_f (by decide) (br_f (by decide) (br_t rfl (br_f (by decide) (br_f (by decide) (br_f (by decide) (br_f (by decide) (br_f (by decide) (br_f c0 (br_f c1 (⟨rfl, J⟩)))))))))))))))))))))))))
  have sx : (0 : Int32) ≤ nI sp := nI_pos' (by omega)
  by_cases p : nc < 32
  rotate_left
  · have pl : ¬ nI nc < 32 := nI_nlt (b := 32) (by omega) (by omega)
    exact br_f (by decide) (br_t (by decide) (br_f (by decide) (br_f (by decide) (br_f (by decide) (br_f (by decide) (br_f (by decide) (br_t rfl (br_f (by decide) (br_f c0 (br_t c1 (br_f (by decide) (br_f (by decide) (br_f (by decide) (br_t rfl (br_f (by decide) (br_f (by decide) (br_t sx (br_f pl (br_f (by decide) (br_t (by decide) (br_f (by decide) (br_f (by decide) (br_f (by decide) (br_t rfl (br_f (by decide) (br_f (by decide) (br_f (by decide) (br_f (by decide) (br_f (by decide) (br_f c0 (br_t c1 (br_t rfl (br_t rfl (br_f (by decide) (br_t (by decide) (br_f (by decide) (br_f (by decide) (br_t rfl (br_t rfl (br_f pl (⟨rfl, J⟩)))))))))))))))))))))))))))))))))))))))))
  have pl : nI nc < 32 := sm_lt 32 p (by omega)
  by_cases f : sp < 16
  rotate_left
  · have sf : ¬ nI sp < 16 := nI_nlt (b := 16) (by omega) (by omega)
    exact br_f (by decide) (br_t (by decide) (br_f (by decide) (br_f (by decide) (br_f (by decide) (br_f (by decide) (br_f (by decide) (br_t rfl (br_f (by decide) (br_f c0 (br_t c1 (br_f (by decide) (br_f (by decide) (br_f (by decide) (br_t rfl (br_f (by decide) (br_f (by decide) (br_t sx (br_t pl (br_t rfl (br_f sf (br_f (by decide) (br_t (by decide) (br_f (by decide) (br_f (by decide) (br_f (by decide) (br_t rfl (br_f (by decide) (br_f (by decide) (br_f (by decide) (br_f (by decide) (br_f (by decide) (br_f c0 (br_t c1 (br_t rfl (br_t rfl (br_f (by decide) (br_t (by decide) (br_f (by decide) (br_f (by decide) (br_t rfl (br_t rfl (br_t pl (br_t rfl (br_t rfl (br_f sf (⟨rfl, J⟩))))))))))))))))))))))))))))))))))))))))))))))
  have sf : nI sp < 16 := sm_lt 16 f (by omega)
  have n32 : nc < 32 := p
  have vn : vp_in (nI nc) 32 := vp_in_nI p (by omega)
  have vs : vp_in (nI sp) 16 := vp_in_nI f (by omega)
  have fin : i_Rel (kk + 4) (nI ms, nI lim, nI dl, nI (nc + 1), nI (sp + 1), nI n, xlr, xls, xle, xst, xnw, xtc, xtu, xtn, xcu, xtd, xtt, xsr, sm_five xno nc 4 v2 0 (-1) (-1), upd xsk sp (nI nc), xrt, xsj, xtx, xtl, xcr, eN, eC, eD, eT, eH, eR, tE, tN)
      (nI ms, nI lim, nI dl, nI (nc + 1), nI (sp + 1), nI n, xlr, xls, xle, yfc, yst, ycf, yev, yfr, ydo, upd nK nc 4, upd nA nc v2, upd nB nc 0, upd nL nc (-1), upd nR nc (-1), upd xsk sp (nI nc), xrt, xsj, xtx, xtl, xcr, fN, fC, fD, fS, fA, fB, fO, fP, fL, fM, tS, tG) :=
    sm_mk (nc := nc + 1) (sp := sp + 1) ⟨o1, o2, o3, o4, by omega, o6, sm_cxn (kk := 4) o7 p (by decide) (by decide) (fun i hi => pk_un (by omega)) (fun i hi => pk_un (by omega)) (fun i hi => pk_un (by omega)) (fun i hi => pk_un (by omega)) (fun i hi => pk_un (by omega)) pk_us pk_us pk_us pk_us pk_us (fun _ _ => nI_of2 (M := 16) (n := 16) (by decide) c0 c1) (fun a => absurd a (by decide)) (fun a => absurd a (by decide)) (fun a => absurd a (by decide)) (fun a => absurd a (by decide)), sm_stk o8 (by omega), o9, o10⟩
  exact br_f (by decide) (br_t (by decide) (br_f (by decide) (br_f (by decide) (br_f (by decide) (br_f (by decide) (br_f (by decide) (br_t rfl (br_f (by decide) (br_f c0 (br_t c1 (br_f (by decide) (br_f (by decide) (br_f (by decide) (br_t rfl (br_f (by decide) (br_f (by decide) (br_t sx (br_t pl (br_t rfl (br_t sf (br_f (by decide) (br_t (by decide) (nm_e ⟨sm_in5 0 n32 (by omega), nm_r (sm_u5 0 rfl) (br_f (by decide) (br_f (by decide) (br_f (by decide) (br_f (by decide) (br_f (by decide) (br_t rfl (br_f (by decide) ⟨sm_in5 1 n32 (by omega), nm_r (sm_u5 1 rfl) (br_f (by decide) (br_f (by decide) (br_f (by decide) (br_t rfl ⟨sm_in5 2 n32 (by omega), nm_r (sm_u5 2 rfl) ⟨sm_in5 3 n32 (by omega), nm_r (sm_u5 3 rfl) ⟨sm_in5 4 n32 (by omega), nm_r (sm_u5 4 rfl) (nm_r (nI_1 nc) ⟨vs, nm_r (sm_up (by omega)) (nm_r (nI_1 sp) (br_f (by decide) (br_t (by decide) (br_f (by decide) (br_f (by decide) (br_f (by decide) (br_t rfl (br_f (by decide) (br_f (by decide) (br_f (by decide) (br_f (by decide) (br_f (by decide) (br_f c0 (br_t c1 (br_t rfl (br_t rfl (br_f (by decide) (br_t (by decide) (br_f (by decide) (br_f (by decide) (br_t rfl (br_t rfl (br_t pl (br_t rfl (br_t rfl (br_t sf (br_f (by decide) (br_f (by decide) (⟨vn, nm_r (sm_up (by omega)) (br_f (by decide) (⟨vn, nm_r (sm_up (by omega)) (br_t rfl (⟨vn, nm_r (sm_up (by omega)) ⟨vn, nm_r (sm_up (by omega)) ⟨vn, nm_r (sm_up (by omega)) (br_t rfl (br_t rfl (⟨vs, nm_r (sm_up (by omega)) (nm_r (nI_1 sp) (nm_r (nI_1 nc) (⟨rfl, fin⟩)))⟩)))⟩⟩⟩))⟩))⟩)))))))))))))))))))))))))))))⟩)⟩⟩⟩))))⟩)))))))⟩)))))))))))))))))))))))
theorem sm_push5 {kk : Nat} (J : i_Rel (kk + 4) (nI ms, nI lim, nI dl, nI nc, nI sp, nI n, xlr, xls, xle, xst, xnw, xtc, xtu, xtn, xcu, xtd, xtt, xsr, xno, xsk, xrt, xsj, xtx, xtl, xcr, eN, eC, eD, eT, eH, eR, tE, tN) (nI ms, nI lim, nI dl, nI nc, nI sp, nI n, xlr, xls, xle, yfc, yst, ycf, yev, yfr, ydo, nK, nA, nB, nL, nR, xsk, xrt, xsj, xtx, xtl, xcr, fN, fC, fD, fS, fA, fB, fO, fP, fL, fM, tS, tG)) (ok : sm_ok ms lim dl nc sp n kn xno xsk xrt xsj xtx xtl nK nA nB nL nR) (v2 v3 : Int32) :
    wpX_push (fun r u' => wpY_push (fun r' v' => r' = r ∧ i_Rel (kk + 4) u' v') (nI ms, nI lim, nI dl, nI nc, nI sp, nI n, xlr, xls, xle, yfc, yst, ycf, yev, yfr, ydo, nK, nA, nB, nL, nR, xsk, xrt, xsj, xtx, xtl, xcr, fN, fC, fD, fS, fA, fB, fO, fP, fL, fM, tS, tG) 5 v2 v3) (nI ms, nI lim, nI dl, nI nc, nI sp, nI n, xlr, xls, xle, xst, xnw, xtc, xtu, xtn, xcu, xtd, xtt, xsr, xno, xsk, xrt, xsj, xtx, xtl, xcr, eN, eC, eD, eT, eH, eR, tE, tN) 5 v2 v3 := by
  obtain ⟨o1, o2, o3, o4, o5, o6, o7, o8, o9, o10⟩ := ok
  have c32 := o7.1
  by_cases c0 : v2 < 0
  · exact br_f (by decide) (br_t (by decide) (br_f (by decide) (br_f (by decide) (br_f (by decide) (br_f (by decide) (br_f (by decide) (br_f (by decide) (br_t rfl (br_f (by decide) (br_t c0 (br_t rfl (br_f (by decide) (br_t (by decide) (br_f (by decide) (br_f (by decide) (br_f (by decide) (br_f (by decide) (br_t rfl (br_f (by decide) (br_f (by decide) (br_f (by decide) (br_f (by decide) (br_f (by decide) (br_t c0 (⟨rfl, J⟩)))))))))))))))))))))))))
  by_cases c1 : v2 ≤ 16
  rotate_left
  · exact br_f (by decide) (br_t (by decide) (br_f (by decide) (br_f (by decide) (br_f (by decide) (br_f (by decide) (br_f (by decide) (br_f (by decide) (br_t rfl (br_f (by decide) (br_f c0 (br_f c1 (br_t rfl (br_f (by decide) (br_t (by decide) (br_f (by decide) (br_f (by decide) (br_f (by decide) (br_f (by decide) (br_t rfl (br_f (by decide) (br_f (by decide) (br_f (by decide) (br_f (by decide) (br_f (by decide) (br_f c0 (br_f c1 (⟨rfl, J⟩)))))))))))))))))))))))))))
  have sx : (0 : Int32) ≤ nI sp := nI_pos' (by omega)
  by_cases p : nc < 32
  rotate_left
  · have pl : ¬ nI nc < 32 := nI_nlt (b := 32) (by omega) (by omega)
    exact br_f (by decide) (br_t (by decide) (br_f (by decide) (br_f (by decide) (br_f (by decide) (br_f (by decide) (br_f (by decide) (br_f (by decide) (br_t rfl (br_f (by decide) (br_f c0 (br_t c1 (br_f (by decide) (br_f (by decide) (br_f (by decide) (br_t rfl (br_f (by decide) (br_f (by decide) (br_t sx (br_f pl (br_f (by decide) (br_t (by decide) (br_f (by decide) (br_f (by decide) (br_f (by decide) (br_f (by decide) (br_t rfl (br_f (by decide) (br_f (by decide) (br_f (by decide) (br_f (by decide) (br_f (by decide) (br_f c0 (br_t c1 (br_t rfl (br_t rfl (br_f (by decide) (br_t (by decide) (br_f (by decide) (br_f (by decide) (br_t rfl (br_t rfl (br_f pl (⟨rfl, J⟩)))))))))))))))))))))))))))))))))))))))))))
  have pl : nI nc < 32 := sm_lt 32 p (by omega)
  by_cases f : sp < 16
  rotate_left
  · have sf : ¬ nI sp < 16 := nI_nlt (b := 16) (by omega) (by omega)
    exact br_f (by decide) (br_t (by decide) (br_f (by decide) (br_f (by decide) (br_f (by decide) (br_f (by decide) (br_f (by decide) (br_f (by decide) (br_t rfl (br_f (by decide) (br_f c0 (br_t c1 (br_f (by decide) (br_f (by decide) (br_f (by decide) (br_t rfl (br_f (by decide) (br_f (by decide) (br_t sx (br_t pl (br_t rfl (br_f sf (br_f (by decide) (br_t (by decide) (br_f (by decide) (br_f (by decide) (br_f (by decide) (br_f (by decide) (br_t rfl (br_f (by decide) (br_f (by decide) (br_f (by decide) (br_f (by decide) (br_f (by decide) (br_f c0 (br_t c1 (br_t rfl (br_t rfl (br_f (by decide) (br_t (by decide) (br_f (by decide) (br_f (by decide) (br_t rfl (br_t rfl (br_t pl (br_t rfl (br_t rfl (br_f sf (⟨rfl, J⟩))))))))))))))))))))))))))))))))))))))))))))))))
  have sf : nI sp < 16 := sm_lt 16 f (by omega)
  have n32 : nc < 32 := p
  have vn : vp_in (nI nc) 32 := vp_in_nI p (by omega)
  have vs : vp_in (nI sp) 16 := vp_in_nI f (by omega)
  have fin : i_Rel (kk + 4) (nI ms, nI lim, nI dl, nI (nc + 1), nI (sp + 1), nI n, xlr, xls, xle, xst, xnw, xtc, xtu, xtn, xcu, xtd, xtt, xsr, sm_five xno nc 5 v2 0 (-1) (-1), upd xsk sp (nI nc), xrt, xsj, xtx, xtl, xcr, eN, eC, eD, eT, eH, eR, tE, tN)
      (nI ms, nI lim, nI dl, nI (nc + 1), nI (sp + 1), nI n, xlr, xls, xle, yfc, yst, ycf, yev, yfr, ydo, upd nK nc 5, upd nA nc v2, upd nB nc 0, upd nL nc (-1), upd nR nc (-1), upd xsk sp (nI nc), xrt, xsj, xtx, xtl, xcr, fN, fC, fD, fS, fA, fB, fO, fP, fL, fM, tS, tG) :=
    sm_mk (nc := nc + 1) (sp := sp + 1) ⟨o1, o2, o3, o4, by omega, o6, sm_cxn (kk := 5) o7 p (by decide) (by decide) (fun i hi => pk_un (by omega)) (fun i hi => pk_un (by omega)) (fun i hi => pk_un (by omega)) (fun i hi => pk_un (by omega)) (fun i hi => pk_un (by omega)) pk_us pk_us pk_us pk_us pk_us (fun _ _ => nI_of2 (M := 16) (n := 16) (by decide) c0 c1) (fun a => absurd a (by decide)) (fun a => absurd a (by decide)) (fun a => absurd a (by decide)) (fun a => absurd a (by decide)), sm_stk o8 (by omega), o9, o10⟩
  exact br_f (by decide) (br_t (by decide) (br_f (by decide) (br_f (by decide) (br_f (by decide) (br_f (by decide) (br_f (by decide) (br_f (by decide) (br_t rfl (br_f (by decide) (br_f c0 (br_t c1 (br_f (by decide) (br_f (by decide) (br_f (by decide) (br_t rfl (br_f (by decide) (br_f (by decide) (br_t sx (br_t pl (br_t rfl (br_t sf (br_f (by decide) (br_t (by decide) (nm_e ⟨sm_in5 0 n32 (by omega), nm_r (sm_u5 0 rfl) (br_f (by decide) (br_f (by decide) (br_f (by decide) (br_f (by decide) (br_f (by decide) (br_f (by decide) (br_t rfl (br_f (by decide) ⟨sm_in5 1 n32 (by omega), nm_r (sm_u5 1 rfl) (br_f (by decide) (br_f (by decide) (br_f (by decide) (br_t rfl ⟨sm_in5 2 n32 (by omega), nm_r (sm_u5 2 rfl) ⟨sm_in5 3 n32 (by omega), nm_r (sm_u5 3 rfl) ⟨sm_in5 4 n32 (by omega), nm_r (sm_u5 4 rfl) (nm_r (nI_1 nc) ⟨vs, nm_r (sm_up (by omega)) (nm_r (nI_1 sp) (br_f (by decide) (br_t (by decide) (br_f (by decide) (br_f (by decide) (br_f (by decide) (br_f (by decide) (br_t rfl (br_f (by decide) (br_f (by decide) (br_f (by decide) (br_f (by decide) (br_f (by decide) (br_f c0 (br_t c1 (br_t rfl (br_t rfl (br_f (by decide) (br_t (by decide) (br_f (by decide) (br_f (by decide) (br_t rfl (br_t rfl (br_t pl (br_t rfl (br_t rfl (br_t sf (br_f (by decide) (br_f (by decide) (⟨vn, nm_r (sm_up (by omega)) (br_f (by decide) (⟨vn, nm_r (sm_up (by omega)) (br_t rfl (⟨vn, nm_r (sm_up (by omega)) ⟨vn, nm_r (sm_up (by omega)) ⟨vn, nm_r (sm_up (by omega)) (br_t rfl (br_t rfl (⟨vs, nm_r (sm_up (by omega)) (nm_r (nI_1 sp) (nm_r (nI_1 nc) (⟨rfl, fin⟩)))⟩)))⟩⟩⟩))⟩))⟩))))))))))))))))))))))))))))))⟩)⟩⟩⟩))))⟩))))))))⟩))))))))))))))))))))))))
theorem sm_push6 {kk : Nat} (J : i_Rel (kk + 4) (nI ms, nI lim, nI dl, nI nc, nI sp, nI n, xlr, xls, xle, xst, xnw, xtc, xtu, xtn, xcu, xtd, xtt, xsr, xno, xsk, xrt, xsj, xtx, xtl, xcr, eN, eC, eD, eT, eH, eR, tE, tN) (nI ms, nI lim, nI dl, nI nc, nI sp, nI n, xlr, xls, xle, yfc, yst, ycf, yev, yfr, ydo, nK, nA, nB, nL, nR, xsk, xrt, xsj, xtx, xtl, xcr, fN, fC, fD, fS, fA, fB, fO, fP, fL, fM, tS, tG)) (ok : sm_ok ms lim dl nc sp n kn xno xsk xrt xsj xtx xtl nK nA nB nL nR) (v2 v3 : Int32) :
    wpX_push (fun r u' => wpY_push (fun r' v' => r' = r ∧ i_Rel (kk + 4) u' v') (nI ms, nI lim, nI dl, nI nc, nI sp, nI n, xlr, xls, xle, yfc, yst, ycf, yev, yfr, ydo, nK, nA, nB, nL, nR, xsk, xrt, xsj, xtx, xtl, xcr, fN, fC, fD, fS, fA, fB, fO, fP, fL, fM, tS, tG) 6 v2 v3) (nI ms, nI lim, nI dl, nI nc, nI sp, nI n, xlr, xls, xle, xst, xnw, xtc, xtu, xtn, xcu, xtd, xtt, xsr, xno, xsk, xrt, xsj, xtx, xtl, xcr, eN, eC, eD, eT, eH, eR, tE, tN) 6 v2 v3 := by
  obtain ⟨o1, o2, o3, o4, o5, o6, o7, o8, o9, o10⟩ := ok
  have c32 := o7.1
  by_cases c0 : v2 < 0
  · exact br_f (by decide) (br_t (by decide) (br_f (by decide) (br_f (by decide) (br_f (by decide) (br_f (by decide) (br_f (by decide) (br_f (by decide) (br_f (by decide) (br_t rfl (br_f (by decide) (br_t c0 (br_t rfl (br_f (by decide) (br_t (by decide) (br_f (by decide) (br_f (by decide) (br_f (by decide) (br_f (by decide) (br_f (by decide) (br_t rfl (br_f (by decide) (br_f (by decide) (br_f (by decide) (br_f (by decide) (br_f (by decide) (br_t c0 (⟨rfl, J⟩)))))))))))))))))))))))))))
  by_cases c1 : v2 ≤ 16
  rotate_left
  · exact br_f (by decide) (br_t (by decide) (br_f (by decide) (br_f (by decide) (br_f (by decide) (br_f (by decide) (br_f (by decide) (br_f (by decide) (br_f (by decide) (br_t rfl (br_f (by decide) (br_f c0 (br_f c1 (br_t rfl (br_f (by decide) (br_t (by decide) (br_f (by decide) (br_f (by decide) (br_f (by decide) (br_f (by decide) (br_f (by decide) (br_t rfl (br_f (by decide) (br_f (by decide) (br_f (by decide) (br_f (by decide) (br_f (by decide) (br_f c0 (br_f c1 (⟨rfl, J⟩)))))))))))))))))))))))))))))
  have sx : (0 : Int32) ≤ nI sp := nI_pos' (by omega)
  by_cases p : nc < 32
  rotate_left
  · have pl : ¬ nI nc < 32 := nI_nlt (b := 32) (by omega) (by omega)
    exact br_f (by decide) (br_t (by decide) (br_f (by decide) (br_f (by decide) (br_f (by decide) (br_f (by decide) (br_f (by decide) (br_f (by decide) (br_f (by decide) (br_t rfl (br_f (by decide) (br_f c0 (br_t c1 (br_f (by decide) (br_f (by decide) (br_f (by decide) (br_t rfl (br_f (by decide) (br_f (by decide) (br_t sx (br_f pl (br_f (by decide) (br_t (by decide) (br_f (by decide) (br_f (by decide) (br_f (by decide) (br_f (by decide) (br_f (by decide) (br_t rfl (br_f (by decide) (br_f (by decide) (br_f (by decide) (br_f (by decide) (br_f (by decide) (br_f c0 (br_t c1 (br_t rfl (br_t rfl (br_f (by decide) (br_t (by decide) (br_f (by decide) (br_f (by decide) (br_t rfl (br_t rfl (br_f pl (⟨rfl, J⟩)))))))))))))))))))))))))))))))))))))))))))))
  have pl : nI nc < 32 := sm_lt 32 p (by omega)
  by_cases f : sp < 16
  rotate_left
  · have sf : ¬ nI sp < 16 := nI_nlt (b := 16) (by omega) (by omega)
    exact br_f (by decide) (br_t (by decide) (br_f (by decide) (br_f (by decide) (br_f (by decide) (br_f (by decide) (br_f (by decide) (br_f (by decide) (br_f (by decide) (br_t rfl (br_f (by decide) (br_f c0 (br_t c1 (br_f (by decide) (br_f (by decide) (br_f (by decide) (br_t rfl (br_f (by decide) (br_f (by decide) (br_t sx (br_t pl (br_t rfl (br_f sf (br_f (by decide) (br_t (by decide) (br_f (by decide) (br_f (by decide) (br_f (by decide) (br_f (by decide) (br_f (by decide) (br_t rfl (br_f (by decide) (br_f (by decide) (br_f (by decide) (br_f (by decide) (br_f (by decide) (br_f c0 (br_t c1 (br_t rfl (br_t rfl (br_f (by decide) (br_t (by decide) (br_f (by decide) (br_f (by decide) (br_t rfl (br_t rfl (br_t pl (br_t rfl (br_t rfl (br_f sf (⟨rfl, J⟩))))))))))))))))))))))))))))))))))))))))))))))))))
  have sf : nI sp < 16 := sm_lt 16 f (by omega)
  have n32 : nc < 32 := p
  have vn : vp_in (nI nc) 32 := vp_in_nI p (by omega)
  have vs : vp_in (nI sp) 16 := vp_in_nI f (by omega)
  have fin : i_Rel (kk + 4) (nI ms, nI lim, nI dl, nI (nc + 1), nI (sp + 1), nI n, xlr, xls, xle, xst, xnw, xtc, xtu, xtn, xcu, xtd, xtt, xsr, sm_five xno nc 6 v2 0 (-1) (-1), upd xsk sp (nI nc), xrt, xsj, xtx, xtl, xcr, eN, eC, eD, eT, eH, eR, tE, tN)
      (nI ms, nI lim, nI dl, nI (nc + 1), nI (sp + 1), nI n, xlr, xls, xle, yfc, yst, ycf, yev, yfr, ydo, upd nK nc 6, upd nA nc v2, upd nB nc 0, upd nL nc (-1), upd nR nc (-1), upd xsk sp (nI nc), xrt, xsj, xtx, xtl, xcr, fN, fC, fD, fS, fA, fB, fO, fP, fL, fM, tS, tG) :=
    sm_mk (nc := nc + 1) (sp := sp + 1) ⟨o1, o2, o3, o4, by omega, o6, sm_cxn (kk := 6) o7 p (by decide) (by decide) (fun i hi => pk_un (by omega)) (fun i hi => pk_un (by omega)) (fun i hi => pk_un (by omega)) (fun i hi => pk_un (by omega)) (fun i hi => pk_un (by omega)) pk_us pk_us pk_us pk_us pk_us (fun _ _ => nI_of2 (M := 16) (n := 16) (by decide) c0 c1) (fun a => absurd a (by decide)) (fun a => absurd a (by decide)) (fun a => absurd a (by decide)) (fun a => absurd a (by decide)), sm_stk o8 (by omega), o9, o10⟩
  exact br_f (by decide) (br_t (by decide) (br_f (by decide) (br_f (by decide) (br_f (by decide) (br_f (by decide) (br_f (by decide) (br_f (by decide) (br_f (by decide) (br_t rfl (br_f (by decide) (br_f c0 (br_t c1 (br_f (by decide) (br_f (by decide) (br_f (by decide) (br_t rfl (br_f (by decide) (br_f (by decide) (br_t sx (br_t pl (br_t rfl (br_t sf (br_f (by decide) (br_t (by decide) (nm_e ⟨sm_in5 0 n32 (by omega), nm_r (sm_u5 0 rfl) (br_f (by decide) (br_f (by decide) (br_f (by decide) (br_f (by decide) (br_f (by decide) (br_f (by decide) (br_f (by decide) (br_t rfl (br_f (by decide) ⟨sm_in5 1 n32 (by omega), nm_r (sm_u5 1 rfl) (br_f (by decide) (br_f (by decide) (br_f (by decide) (br_t rfl ⟨sm_in5 2 n32 (by omega), nm_r (sm_u5 2 rfl) ⟨sm_in5 3 n32 (by omega), nm_r (sm_u5 3 rfl) ⟨sm_in5 4 n32 (by omega), nm_r (sm_u5 4 rfl) (nm_r (nI_1 nc) ⟨vs, nm_r (sm_up (by omega)) (nm_r (nI_1 sp) (br_f (by decide) (br_t (by decide) (br_f (by decide) (br_f (by decide) (br_f (by decide) (br_f (by decide) (br_f (by decide) (br_t rfl (br_f (by decide) (br_f (by decide) (br_f (by decide) (br_f (by decide) (br_f (by decide) (br_f c0 (br_t c1 (br_t rfl (br_t rfl (br_f (by decide) (br_t (by decide) (br_f (by decide) (br_f (by decide) (br_t rfl (br_t rfl (br_t pl (br_t rfl (br_t rfl (br_t sf (br_f (by decide) (br_f (by decide) (⟨vn, nm_r (sm_up (by omega)) (br_f (by decide) (⟨vn, nm_r (sm_up (by omega)) (br_t rfl (⟨vn, nm_r (sm_up (by omega)) ⟨vn, nm_r (sm_up (by omega)) ⟨vn, nm_r (sm_up (by omega)) (br_t rfl (br_t rfl (⟨vs, nm_r (sm_up (by omega)) (nm_r (nI_1 sp) (nm_r (nI_1 nc) (⟨rfl, fin⟩)))⟩)))⟩⟩⟩))⟩))⟩)))))))))))))))))))))))))))))))⟩)⟩⟩⟩))))⟩)))))))))⟩)))))))))))))))))))))))))
theorem sm_push7 {kk : Nat} (J : i_Rel (kk + 4) (nI ms, nI lim, nI dl, nI nc, nI sp, nI n, xlr, xls, xle, xst, xnw, xtc, xtu, xtn, xcu, xtd, xtt, xsr, xno, xsk, xrt, xsj, xtx, xtl, xcr, eN, eC, eD, eT, eH, eR, tE, tN) (nI ms, nI lim, nI dl, nI nc, nI sp, nI n, xlr, xls, xle, yfc, yst, ycf, yev, yfr, ydo, nK, nA, nB, nL, nR, xsk, xrt, xsj, xtx, xtl, xcr, fN, fC, fD, fS, fA, fB, fO, fP, fL, fM, tS, tG)) (ok : sm_ok ms lim dl nc sp n kn xno xsk xrt xsj xtx xtl nK nA nB nL nR) (v2 v3 : Int32) :
    wpX_push (fun r u' => wpY_push (fun r' v' => r' = r ∧ i_Rel (kk + 4) u' v') (nI ms, nI lim, nI dl, nI nc, nI sp, nI n, xlr, xls, xle, yfc, yst, ycf, yev, yfr, ydo, nK, nA, nB, nL, nR, xsk, xrt, xsj, xtx, xtl, xcr, fN, fC, fD, fS, fA, fB, fO, fP, fL, fM, tS, tG) 7 v2 v3) (nI ms, nI lim, nI dl, nI nc, nI sp, nI n, xlr, xls, xle, xst, xnw, xtc, xtu, xtn, xcu, xtd, xtt, xsr, xno, xsk, xrt, xsj, xtx, xtl, xcr, eN, eC, eD, eT, eH, eR, tE, tN) 7 v2 v3 := by
  obtain ⟨o1, o2, o3, o4, o5, o6, o7, o8, o9, o10⟩ := ok
  have c32 := o7.1
  by_cases c0 : v2 < 0
  · exact br_f (by decide) (br_t (by decide) (br_f (by decide) (br_f (by decide) (br_f (by decide) (br_f (by decide) (br_f (by decide) (br_f (by decide) (br_f (by decide) (br_f (by decide) (br_t rfl (br_f (by decide) (br_t c0 (br_t rfl (br_f (by decide) (br_t (by decide) (br_t rfl (br_f (by decide) (br_f (by decide) (br_f (by decide) (br_f (by decide) (br_f (by decide) (br_f (by decide) (br_f (by decide) (br_t rfl (br_f (by decide) (br_t c0 (⟨rfl, J⟩)))))))))))))))))))))))))))
  by_cases c2 : v3 < v2
  · by_cases c1 : v2 ≤ 65535
    · exact br_f (by decide) (br_t (by decide) (br_f (by decide) (br_f (by decide) (br_f (by decide) (br_f (by decide) (br_f (by decide) (br_f (by decide) (br_f (by decide) (br_f (by decide) (br_t rfl (br_f (by decide) (br_f c0 (br_t c1 (br_t rfl (br_f (by decide) (br_t c2 (br_t rfl (br_f (by decide) (br_t (by decide) (br_t rfl (br_f (by decide) (br_f (by decide) (br_f (by decide) (br_f (by decide) (br_f (by decide) (br_f (by decide) (br_f (by decide) (br_t rfl (br_f (by decide) (br_f c0 (br_t c2 (⟨rfl, J⟩))))))))))))))))))))))))))))))))
    · exact br_f (by decide) (br_t (by decide) (br_f (by decide) (br_f (by decide) (br_f (by decide) (br_f (by decide) (br_f (by decide) (br_f (by decide) (br_f (by decide) (br_f (by decide) (br_t rfl (br_f (by decide) (br_f c0 (br_f c1 (br_t rfl (br_f (by decide) (br_t (by decide) (br_t rfl (br_f (by decide) (br_f (by decide) (br_f (by decide) (br_f (by decide) (br_f (by decide) (br_f (by decide) (br_f (by decide) (br_t rfl (br_f (by decide) (br_f c0 (br_t c2 (⟨rfl, J⟩)))))))))))))))))))))))))))))
  by_cases c4 : v3 ≤ 65535
  rotate_left
  · have c3 : 65535 < v3 := Int32.not_le.mp c4
    by_cases c1 : v2 ≤ 65535
    · exact br_f (by decide) (br_t (by decide) (br_f (by decide) (br_f (by decide) (br_f (by decide) (br_f (by decide) (br_f (by decide) (br_f (by decide) (br_f (by decide) (br_f (by decide) (br_t rfl (br_f (by decide) (br_f c0 (br_t c1 (br_t rfl (br_f (by decide) (br_f c2 (br_t c3 (br_t rfl (br_f (by decide) (br_t (by decide) (br_t rfl (br_f (by decide) (br_f (by decide) (br_f (by decide) (br_f (by decide) (br_f (by decide) (br_f (by decide) (br_f (by decide) (br_t rfl (br_f (by decide) (br_f c0 (br_f c2 (br_f c4 (⟨rfl, J⟩))))))))))))))))))))))))))))))))))
    · exact br_f (by decide) (br_t (by decide) (br_f (by decide) (br_f (by decide) (br_f (by decide) (br_f (by decide) (br_f (by decide) (br_f (by decide) (br_f (by decide) (br_f (by decide) (br_t rfl (br_f (by decide) (br_f c0 (br_f c1 (br_t rfl (br_f (by decide) (br_t (by decide) (br_t rfl (br_f (by decide) (br_f (by decide) (br_f (by decide) (br_f (by decide) (br_f (by decide) (br_f (by decide) (br_f (by decide) (br_t rfl (br_f (by decide) (br_f c0 (br_f c2 (br_f c4 (⟨rfl, J⟩))))))))))))))))))))))))))))))
  have c3 : ¬ 65535 < v3 := Int32.not_lt.mpr c4
  have c1 : v2 ≤ 65535 := Int32.le_trans (Int32.not_lt.mp c2) c4
  have sx : (0 : Int32) ≤ nI sp := nI_pos' (by omega)
  by_cases p : nc < 32
  rotate_left
  · have pl : ¬ nI nc < 32 := nI_nlt (b := 32) (by omega) (by omega)
    exact br_f (by decide) (br_t (by decide) (br_f (by decide) (br_f (by decide) (br_f (by decide) (br_f (by decide) (br_f (by decide) (br_f (by decide) (br_f (by decide) (br_f (by decide) (br_t rfl (br_f (by decide) (br_f c0 (br_t c1 (br_t rfl (br_f (by decide) (br_f c2 (br_f c3 (br_f (by decide) (br_f (by decide) (br_t sx (br_f pl (br_f (by decide) (br_t (by decide) (br_t rfl (br_f (by decide) (br_f (by decide) (br_f (by decide) (br_f (by decide) (br_f (by decide) (br_f (by decide) (br_f (by decide) (br_t rfl (br_f (by decide) (br_f c0 (br_f c2 (br_t c4 (br_t rfl (br_f (by decide) (br_t (by decide) (br_f (by decide) (br_f (by decide) (br_t rfl (br_t rfl (br_f pl (⟨rfl, J⟩)))))))))))))))))))))))))))))))))))))))))))))
  have pl : nI nc < 32 := sm_lt 32 p (by omega)
  by_cases f : sp < 16
  rotate_left
  · have sf : ¬ nI sp < 16 := nI_nlt (b := 16) (by omega) (by omega)
    exact br_f (by decide) (br_t (by decide) (br_f (by decide) (br_f (by decide) (br_f (by decide) (br_f (by decide) (br_f (by decide) (br_f (by decide) (br_f (by decide) (br_f (by decide) (br_t rfl (br_f (by decide) (br_f c0 (br_t c1 (br_t rfl (br_f (by decide) (br_f c2 (br_f c3 (br_f (by decide) (br_f (by decide) (br_t sx (br_t pl (br_t rfl (br_f sf (br_f (by decide) (br_t (by decide) (br_t rfl (br_f (by decide) (br_f (by decide) (br_f (by decide) (br_f (by decide) (br_f (by decide) (br_f (by decide) (br_f (by decide) (br_t rfl (br_f (by decide) (br_f c0 (br_f c2 (br_t c4 (br_t rfl (br_f (by decide) (br_t (by decide) (br_f (by decide) (br_f (by decide) (br_t rfl (br_t rfl (br_t pl (br_t rfl (br_t rfl (br_f sf (⟨rfl, J⟩))))))))))))))))))))))))))))))))))))))))))))))))))
  have sf : nI sp < 16 := sm_lt 16 f (by omega)
  have n32 : nc < 32 := p
  have vn : vp_in (nI nc) 32 := vp_in_nI p (by omega)
  have vs : vp_in (nI sp) 16 := vp_in_nI f (by omega)
  have fin : i_Rel (kk + 4) (nI ms, nI lim, nI dl, nI (nc + 1), nI (sp + 1), nI n, xlr, xls, xle, xst, xnw, xtc, xtu, xtn, xcu, xtd, xtt, xsr, sm_five xno nc 7 v2 v3 (-1) (-1), upd xsk sp (nI nc), xrt, xsj, xtx, xtl, xcr, eN, eC, eD, eT, eH, eR, tE, tN)
      (nI ms, nI lim, nI dl, nI (nc + 1), nI (sp + 1), nI n, xlr, xls, xle, yfc, yst, ycf, yev, yfr, ydo, upd nK nc 7, upd nA nc v2, upd nB nc v3, upd nL nc (-1), upd nR nc (-1), upd xsk sp (nI nc), xrt, xsj, xtx, xtl, xcr, fN, fC, fD, fS, fA, fB, fO, fP, fL, fM, tS, tG) :=
    sm_mk (nc := nc + 1) (sp := sp + 1) ⟨o1, o2, o3, o4, by omega, o6, sm_cxn (kk := 7) o7 p (by decide) (by decide) (fun i hi => pk_un (by omega)) (fun i hi => pk_un (by omega)) (fun i hi => pk_un (by omega)) (fun i hi => pk_un (by omega)) (fun i hi => pk_un (by omega)) pk_us pk_us pk_us pk_us pk_us (fun a b => absurd b (by decide)) (fun a => absurd a (by decide)) (fun a => absurd a (by decide)) (fun a => absurd a (by decide)) (fun a => absurd a (by decide)), sm_stk o8 (by omega), o9, o10⟩
  exact br_f (by decide) (br_t (by decide) (br_f (by decide) (br_f (by decide) (br_f (by decide) (br_f (by decide) (br_f (by decide) (br_f (by decide) (br_f (by decide) (br_f (by decide) (br_t rfl (br_f (by decide) (br_f c0 (br_t c1 (br_t rfl (br_f (by decide) (br_f c2 (br_f c3 (br_f (by decide) (br_f (by decide) (br_t sx (br_t pl (br_t rfl (br_t sf (br_f (by decide) (br_t (by decide) (nm_e ⟨sm_in5 0 n32 (by omega), nm_r (sm_u5 0 rfl) (br_f (by decide) (br_f (by decide) (br_f (by decide) (br_f (by decide) (br_f (by decide) (br_f (by decide) (br_f (by decide) (br_f (by decide) (br_t rfl (br_f (by decide) ⟨sm_in5 1 n32 (by omega), nm_r (sm_u5 1 rfl) (br_t rfl (br_f (by decide) ⟨sm_in5 2 n32 (by omega), nm_r (sm_u5 2 rfl) ⟨sm_in5 3 n32 (by omega), nm_r (sm_u5 3 rfl) ⟨sm_in5 4 n32 (by omega), nm_r (sm_u5 4 rfl) (nm_r (nI_1 nc) ⟨vs, nm_r (sm_up (by omega)) (nm_r (nI_1 sp) (br_f (by decide) (br_t (by decide) (br_t rfl (br_f (by decide) (br_f (by decide) (br_f (by decide) (br_f (by decide) (br_f (by decide) (br_f (by decide) (br_f (by decide) (br_t rfl (br_f (by decide) (br_f c0 (br_f c2 (br_t c4 (br_t rfl (br_f (by decide) (br_t (by decide) (br_f (by decide) (br_f (by decide) (br_t rfl (br_t rfl (br_t pl (br_t rfl (br_t rfl (br_t sf (br_f (by decide) (br_t rfl (br_f (by decide) (⟨vn, nm_r (sm_up (by omega)) (br_f (by decide) (⟨vn, nm_r (sm_up (by omega)) (br_f (by decide) (⟨vn, nm_r (sm_up (by omega)) ⟨vn, nm_r (sm_up (by omega)) ⟨vn, nm_r (sm_up (by omega)) (br_t rfl (br_t rfl (⟨vs, nm_r (sm_up (by omega)) (nm_r (nI_1 sp) (nm_r (nI_1 nc) (⟨rfl, fin⟩)))⟩)))⟩⟩⟩))⟩))⟩)))))))))))))))))))))))))))))))⟩)⟩⟩⟩))⟩))))))))))⟩))))))))))))))))))))))))))
theorem sm_push8 {kk : Nat} (J : i_Rel (kk + 4) (nI ms, nI lim, nI dl, nI nc, nI sp, nI n, xlr, xls, xle, xst, xnw, xtc, xtu, xtn, xcu, xtd, xtt, xsr, xno, xsk, xrt, xsj, xtx, xtl, xcr, eN, eC, eD, eT, eH, eR, tE, tN) (nI ms, nI lim, nI dl, nI nc, nI sp, nI n, xlr, xls, xle, yfc, yst, ycf, yev, yfr, ydo, nK, nA, nB, nL, nR, xsk, xrt, xsj, xtx, xtl, xcr, fN, fC, fD, fS, fA, fB, fO, fP, fL, fM, tS, tG)) (ok : sm_ok ms lim dl nc sp n kn xno xsk xrt xsj xtx xtl nK nA nB nL nR) (v2 v3 : Int32) :
    wpX_push (fun r u' => wpY_push (fun r' v' => r' = r ∧ i_Rel (kk + 4) u' v') (nI ms, nI lim, nI dl, nI nc, nI sp, nI n, xlr, xls, xle, yfc, yst, ycf, yev, yfr, ydo, nK, nA, nB, nL, nR, xsk, xrt, xsj, xtx, xtl, xcr, fN, fC, fD, fS, fA, fB, fO, fP, fL, fM, tS, tG) 8 v2 v3) (nI ms, nI lim, nI dl, nI nc, nI sp, nI n, xlr, xls, xle, xst, xnw, xtc, xtu, xtn, xcu, xtd, xtt, xsr, xno, xsk, xrt, xsj, xtx, xtl, xcr, eN, eC, eD, eT, eH, eR, tE, tN) 8 v2 v3 := by
  obtain ⟨o1, o2, o3, o4, o5, o6, o7, o8, o9, o10⟩ := ok
  have c32 := o7.1
  by_cases c0 : v2 < 0
  · exact br_f (by decide) (br_t (by decide) (br_f (by decide) (br_f (by decide) (br_f (by decide) (br_f (by decide) (br_f (by decide) (br_f (by decide) (br_f (by decide) (br_f (by decide) (br_f (by decide) (br_t rfl (br_f (by decide) (br_t c0 (br_t rfl (br_f (by decide) (br_t (by decide) (br_f (by decide) (br_t rfl (br_f (by decide) (br_f (by decide) (br_f (by decide) (br_f (by decide) (br_f (by decide) (br_f (by decide) (br_f (by decide) (br_t rfl (br_f (by decide) (br_t c0 (⟨rfl, J⟩)))))))))))))))))))))))))))))
  by_cases c2 : v3 < v2
  · by_cases c1 : v2 ≤ 65535
    · exact br_f (by decide) (br_t (by decide) (br_f (by decide) (br_f (by decide) (br_f (by decide) (br_f (by decide) (br_f (by decide) (br_f (by decide) (br_f (by decide) (br_f (by decide) (br_f (by decide) (br_t rfl (br_f (by decide) (br_f c0 (br_t c1 (br_f (by decide) (br_t rfl (br_f (by decide) (br_t c2 (br_t rfl (br_f (by decide) (br_t (by decide) (br_f (by decide) (br_t rfl (br_f (by decide) (br_f (by decide) (br_f (by decide) (br_f (by decide) (br_f (by decide) (br_f (by decide) (br_f (by decide) (br_t rfl (br_f (by decide) (br_f c0 (br_t c2 (⟨rfl, J⟩)))))))))))))))))))))))))))))))))))
    · exact br_f (by decide) (br_t (by decide) (br_f (by decide) (br_f (by decide) (br_f (by decide) (br_f (by decide) (br_f (by decide) (br_f (by decide) (br_f (by decide) (br_f (by decide) (br_f (by decide) (br_t rfl (br_f (by decide) (br_f c0 (br_f c1 (br_t rfl (br_f (by decide) (br_t (by decide) (br_f (by decide) (br_t rfl (br_f (by decide) (br_f (by decide) (br_f (by decide) (br_f (by decide) (br_f (by decide) (br_f (by decide) (br_f (by decide) (br_t rfl (br_f (by decide) (br_f c0 (br_t c2 (⟨rfl, J⟩)))))))))))))))))))))))))))))))
  by_cases c4 : v3 ≤ 65535
  rotate_left
  · have c3 : 65535 < v3 := Int32.not_le.mp c4
    by_cases c1 : v2 ≤ 65535
    · exact br_f (by decide) (br_t (by decide) (br_f (by decide) (br_f (by decide) (br_f (by decide) (br_f (by decide) (br_f (by decide) (br_f (by decide) (br_f (by decide) (br_f (by decide) (br_f (by decide) (br_t rfl (br_f (by decide) (br_f c0 (br_t c1 (br_f (by decide) (br_t rfl (br_f (by decide) (br_f c2 (br_t c3 (br_t rfl (br_f (by decide) (br_t (by decide) (br_f (by decide) (br_t rfl (br_f (by decide) (br_f (by decide) (br_f (by decide) (br_f (by decide) (br_f (by decide) (br_f (by decide) (br_f (by decide) (br_t rfl (br_f (by decide) (br_f c0 (br_f c2 (br_f c4 (⟨rfl, J⟩)))))))))))))))))))))))))))))))))))))
    · exact br_f (by decide) (br_t (by decide) (br_f (by decide) (br_f (by decide) (br_f (by decide) (br_f (by decide) (br_f (by decide) (br_f (by decide) (br_f (by decide) (br_f (by decide) (br_f (by decide) (br_t rfl (br_f (by decide) (br_f c0 (br_f c1 (br_t rfl (br_f (by decide) (br_t (by decide) (br_f (by decide) (br_t rfl (br_f (by decide) (br_f (by decide) (br_f (by decide) (br_f (by decide) (br_f (by decide) (br_f (by decide) (br_f (by decide) (br_t rfl (br_f (by decide) (br_f c0 (br_f c2 (br_f c4 (⟨rfl, J⟩))))))))))))))))))))))))))))))))
  have c3 : ¬ 65535 < v3 := Int32.not_lt.mpr c4
  have c1 : v2 ≤ 65535 := Int32.le_trans (Int32.not_lt.mp c2) c4
  have sx : (0 : Int32) ≤ nI sp := nI_pos' (by omega)
  by_cases p : nc < 32
  rotate_left
  · have pl : ¬ nI nc < 32 := nI_nlt (b := 32) (by omega) (by omega)
    exact br_f (by decide) (br_t (by decide) (br_f (by decide) (br_f (by decide) (br_f (by decide) (br_f (by decide) (br_f (by decide) (br_f (by decide) (br_f (by decide) (br_f (by decide) (br_f (by decide) (br_t rfl (br_f (by decide) (br_f c0 (br_t c1 (br_f (by decide) (br_t rfl (br_f (by decide) (br_f c2 (br_f c3 (br_f (by decide) (br_f (by decide) (br_t sx (br_f pl (br_f (by decide) (br_t (by decide) (br_f (by decide) (br_t rfl (br_f (by decide) (br_f (by decide) (br_f (by decide) (br_f (by decide) (br_f (by decide) (br_f (by decide) (br_f (by decide) (br_t rfl (br_f (by decide) (br_f c0 (br_f c2 (br_t c4 (br_t rfl (br_f (by decide) (br_t (by decide) (br_f (by decide) (br_f (by decide) (br_t rfl (br_t rfl (br_f pl (⟨rfl, J⟩))))))))))))))))))))))))))))))))))))))))))))))))
  have pl : nI nc < 32 := sm_lt 32 p (by omega)
  by_cases f : sp < 16
  rotate_left
  · have sf : ¬ nI sp < 16 := nI_nlt (b := 16) (by omega) (by omega)
    exact br_f (by decide) (br_t (by decide) (br_f (by decide) (br_f (by decide) (br_f (by decide) (br_f (by decide) (br_f (by decide) (br_f (by decide) (br_f (by decide) (br_f (by decide) (br_f (by decide) (br_t rfl (br_f (by decide) (br_f c0 (br_t c1 (br_f (by decide) (br_t rfl (br_f (by decide) (br_f c2 (br_f c3 (br_f (by decide) (br_f (by decide) (br_t sx (br_t pl (br_t rfl (br_f sf (br_f (by decide) (br_t (by decide) (br_f (by decide) (br_t rfl (br_f (by decide) (br_f (by decide) (br_f (by decide) (br_f (by decide) (br_f (by decide) (br_f (by decide) (br_f (by decide) (br_t rfl (br_f (by decide) (br_f c0 (br_f c2 (br_t c4 (br_t rfl (br_f (by decide) (br_t (by decide) (br_f (by decide) (br_f (by decide) (br_t rfl (br_t rfl (br_t pl (br_t rfl (br_t rfl (br_f sf (⟨rfl, J⟩)))))))))))))))))))))))))))))))))))))))))))))))))))))
  have sf : nI sp < 16 := sm_lt 16 f (by omega)
  have n32 : nc < 32 := p
  have vn : vp_in (nI nc) 32 := vp_in_nI p (by omega)
  have vs : vp_in (nI sp) 16 := vp_in_nI f (by omega)
  have fin : i_Rel (kk + 4) (nI ms, nI lim, nI dl, nI (nc + 1), nI (sp + 1), nI n, xlr, xls, xle, xst, xnw, xtc, xtu, xtn, xcu, xtd, xtt, xsr, sm_five xno nc 8 v2 v3 (-1) (-1), upd xsk sp (nI nc), xrt, xsj, xtx, xtl, xcr, eN, eC, eD, eT, eH, eR, tE, tN)
      (nI ms, nI lim, nI dl, nI (nc + 1), nI (sp + 1), nI n, xlr, xls, xle, yfc, yst, ycf, yev, yfr, ydo, upd nK nc 8, upd nA nc v2, upd nB nc v3, upd nL nc (-1), upd nR nc (-1), upd xsk sp (nI nc), xrt, xsj, xtx, xtl, xcr, fN, fC, fD, fS, fA, fB, fO, fP, fL, fM, tS, tG) :=
    sm_mk (nc := nc + 1) (sp := sp + 1) ⟨o1, o2, o3, o4, by omega, o6, sm_cxn (kk := 8) o7 p (by decide) (by decide) (fun i hi => pk_un (by omega)) (fun i hi => pk_un (by omega)) (fun i hi => pk_un (by omega)) (fun i hi => pk_un (by omega)) (fun i hi => pk_un (by omega)) pk_us pk_us pk_us pk_us pk_us (fun a b => absurd b (by decide)) (fun a => absurd a (by decide)) (fun a => absurd a (by decide)) (fun a => absurd a (by decide)) (fun a => absurd a (by decide)), sm_stk o8 (by omega), o9, o10⟩
  exact br_f (by decide) (br_t (by decide) (br_f (by decide) (br_f (by decide) (br_f (by decide) (br_f (by decide) (br_f (by decide) (br_f (by decide) (br_f (by decide) (br_f (by decide) (br_f (by decide) (br_t rfl (br_f (by decide) (br_f c0 (br_t c1 (br_f (by decide) (br_t rfl (br_f (by decide) (br_f c2 (br_f c3 (br_f (by decide) (br_f (by decide) (br_t sx (br_t pl (br_t rfl (br_t sf (br_f (by decide) (br_t (by decide) (nm_e ⟨sm_in5 0 n32 (by omega), nm_r (sm_u5 0 rfl) (br_f (by decide) (br_f (by decide) (br_f (by decide) (br_f (by decide) (br_f (by decide) (br_f (by decide) (br_f (by decide) (br_f (by decide) (br_f (by decide) (br_t rfl (br_f (by decide) ⟨sm_in5 1 n32 (by omega), nm_r (sm_u5 1 rfl) (br_f (by decide) (br_t rfl (br_f (by decide) ⟨sm_in5 2 n32 (by omega), nm_r (sm_u5 2 rfl) ⟨sm_in5 3 n32 (by omega), nm_r (sm_u5 3 rfl) ⟨sm_in5 4 n32 (by omega), nm_r (sm_u5 4 rfl) (nm_r (nI_1 nc) ⟨vs, nm_r (sm_up (by omega)) (nm_r (nI_1 sp) (br_f (by decide) (br_t (by decide) (br_f (by decide) (br_t rfl (br_f (by decide) (br_f (by decide) (br_f (by decide) (br_f (by decide) (br_f (by decide) (br_f (by decide) (br_f (by decide) (br_t rfl (br_f (by decide) (br_f c0 (br_f c2 (br_t c4 (br_t rfl (br_f (by decide) (br_t (by decide) (br_f (by decide) (br_f (by decide) (br_t rfl (br_t rfl (br_t pl (br_t rfl (br_t rfl (br_t sf (br_f (by decide) (br_t rfl (br_f (by decide) (⟨vn, nm_r (sm_up (by omega)) (br_f (by decide) (⟨vn, nm_r (sm_up (by omega)) (br_f (by decide) (⟨vn, nm_r (sm_up (by omega)) ⟨vn, nm_r (sm_up (by omega)) ⟨vn, nm_r (sm_up (by omega)) (br_t rfl (br_t rfl (⟨vs, nm_r (sm_up (by omega)) (nm_r (nI_1 sp) (nm_r (nI_1 nc) (⟨rfl, fin⟩)))⟩)))⟩⟩⟩))⟩))⟩))))))))))))))))))))))))))))))))⟩)⟩⟩⟩)))⟩)))))))))))⟩))))))))))))))))))))))))))))
theorem sm_push9 {kk : Nat} (J : i_Rel (kk + 4) (nI ms, nI lim, nI dl, nI nc, nI sp, nI n, xlr, xls, xle, xst, xnw, xtc, xtu, xtn, xcu, xtd, xtt, xsr, xno, xsk, xrt, xsj, xtx, xtl, xcr, eN, eC, eD, eT, eH, eR, tE, tN) (nI ms, nI lim, nI dl, nI nc, nI sp, nI n, xlr, xls, xle, yfc, yst, ycf, yev, yfr, ydo, nK, nA, nB, nL, nR, xsk, xrt, xsj, xtx, xtl, xcr, fN, fC, fD, fS, fA, fB, fO, fP, fL, fM, tS, tG)) (ok : sm_ok ms lim dl nc sp n kn xno xsk xrt xsj xtx xtl nK nA nB nL nR) (v2 v3 : Int32) :
    wpX_push (fun r u' => wpY_push (fun r' v' => r' = r ∧ i_Rel (kk + 4) u' v') (nI ms, nI lim, nI dl, nI nc, nI sp, nI n, xlr, xls, xle, yfc, yst, ycf, yev, yfr, ydo, nK, nA, nB, nL, nR, xsk, xrt, xsj, xtx, xtl, xcr, fN, fC, fD, fS, fA, fB, fO, fP, fL, fM, tS, tG) 9 v2 v3) (nI ms, nI lim, nI dl, nI nc, nI sp, nI n, xlr, xls, xle, xst, xnw, xtc, xtu, xtn, xcu, xtd, xtt, xsr, xno, xsk, xrt, xsj, xtx, xtl, xcr, eN, eC, eD, eT, eH, eR, tE, tN) 9 v2 v3 := by
  obtain ⟨o1, o2, o3, o4, o5, o6, o7, o8, o9, o10⟩ := ok
  have c32 := o7.1
  by_cases c0 : v2 < 0
  · exact br_f (by decide) (br_t (by decide) (br_f (by decide) (br_f (by decide) (br_f (by decide) (br_f (by decide) (br_f (by decide) (br_f (by decide) (br_f (by decide) (br_f (by decide) (br_f (by decide) (br_f (by decide) (br_t rfl (br_f (by decide) (br_t c0 (br_t rfl (br_f (by decide) (br_t (by decide) (br_f (by decide) (br_f (by decide) (br_t rfl (br_f (by decide) (br_f (by decide) (br_f (by decide) (br_f (by decide) (br_f (by decide) (br_f (by decide) (br_f (by decide) (br_t rfl (br_f (by decide) (br_t c0 (⟨rfl, J⟩)))))))))))))))))))))))))))))))
  by_cases c2 : v3 < v2
  · by_cases c1 : v2 ≤ 65535
    · exact br_f (by decide) (br_t (by decide) (br_f (by decide) (br_f (by decide) (br_f (by decide) (br_f (by decide) (br_f (by decide) (br_f (by decide) (br_f (by decide) (br_f (by decide) (br_f (by decide) (br_f (by decide) (br_t rfl (br_f (by decide) (br_f c0 (br_t c1 (br_f (by decide) (br_f (by decide) (br_t rfl (br_f (by decide) (br_t c2 (br_t rfl (br_f (by decide) (br_t (by decide) (br_f (by decide) (br_f (by decide) (br_t rfl (br_f (by decide) (br_f (by decide) (br_f (by decide) (br_f (by decide) (br_f (by decide) (br_f (by decide) (br_f (by decide) (br_t rfl (br_f (by decide) (br_f c0 (br_t c2 (⟨rfl, J⟩))))))))))))))))))))))))))))))))))))))
    · exact br_f (by decide) (br_t (by decide) (br_f (by decide) (br_f (by decide) (br_f (by decide) (br_f (by decide) (br_f (by decide) (br_f (by decide) (br_f (by decide) (br_f (by decide) (br_f (by decide) (br_f (by decide) (br_t rfl (br_f (by decide) (br_f c0 (br_f c1 (br_t rfl (br_f (by decide) (br_t (by decide) (br_f (by decide) (br_f (by decide) (br_t rfl (br_f (by decide) (br_f (by decide) (br_f (by decide) (br_f (by decide) (br_f (by decide) (br_f (by decide) (br_f (by decide) (br_t rfl (br_f (by decide) (br_f c0 (br_t c2 (⟨rfl, J⟩)))))))))))))))))))))))))))))))))
  by_cases c4 : v3 ≤ 65535
  rotate_left
  · have c3 : 65535 < v3 := Int32.not_le.mp c4
    by_cases c1 : v2 ≤ 65535
    · exact br_f (by decide) (br_t (by decide) (br_f (by decide) (br_f (by decide) (br_f (by decide) (br_f (by decide) (br_f (by decide) (br_f (by decide) (br_f (by decide) (br_f (by decide) (br_f (by decide) (br_f (by decide) (br_t rfl (br_f (by decide) (br_f c0 (br_t c1 (br_f (by decide) (br_f (by decide) (br_t rfl (br_f (by decide) (br_f c2 (br_t c3 (br_t rfl (br_f (by decide) (br_t (by decide) (br_f (by decide) (br_f (by decide) (br_t rfl (br_f (by decide) (br_f (by decide) (br_f (by decide) (br_f (by decide) (br_f (by decide) (br_f (by decide) (br_f (by decide) (br_t rfl (br_f (by decide) (br_f c0 (br_f c2 (br_f c4 (⟨rfl, J⟩))))))))))))))))))))))))))))))))))))))))
    · exact br_f (by decide) (br_t (by decide) (br_f (by decide) (br_f (by decide) (br_f (by decide) (br_f (by decide) (br_f (by decide) (br_f (by decide) (br_f (by decide) (br_f (by decide) (br_f (by decide) (br_f (by decide) (br_t rfl (br_f (by decide) (br_f c0 (br_f c1 (br_t rfl (br_f (by decide) (br_t (by decide) (br_f (by decide) (br_f (by decide) (br_t rfl (br_f (by decide) (br_f (by decide) (br_f (by decide) (br_f (by decide) (br_f (by decide) (br_f (by decide) (br_f (by decide) (br_t rfl (br_f (by decide) (br_f c0 (br_f c2 (br_f c4 (⟨rfl, J⟩))))))))))))))))))))))))))))))))))
  have c3 : ¬ 65535 < v3 := Int32.not_lt.mpr c4
  have c1 : v2 ≤ 65535 := Int32.le_trans (Int32.not_lt.mp c2) c4
  have sx : (0 : Int32) ≤ nI sp := nI_pos' (by omega)
  by_cases p : nc < 32
  rotate_left
  · have pl : ¬ nI nc < 32 := nI_nlt (b := 32) (by omega) (by omega)
    exact br_f (by decide) (br_t (by decide) (br_f (by decide) (br_f (by decide) (br_f (by decide) (br_f (by decide) (br_f (by decide) (br_f (by decide) (br_f (by decide) (br_f (by decide) (br_f (by decide) (br_f (by decide) (br_t rfl (br_f (by decide) (br_f c0 (br_t c1 (br_f (by decide) (br_f (by decide) (br_t rfl (br_f (by decide) (br_f c2 (br_f c3 (br_f (by decide) (br_f (by decide) (br_t sx (br_f pl (br_f (by decide) (br_t (by decide) (br_f (by decide) (br_f (by decide) (br_t rfl (br_f (by decide) (br_f (by decide) (br_f (by decide) (br_f (by decide) (br_f (by decide) (br_f (by decide) (br_f (by decide) (br_t rfl (br_f (by decide) (br_f c0 (br_f c2 (br_t c4 (br_t rfl (br_f (by decide) (br_t (by decide) (br_f (by decide) (br_f (by decide) (br_t rfl (br_t rfl (br_f pl (⟨rfl, J⟩)))))))))))))))))))))))))))))))))))))))))))))))))))
  have pl : nI nc < 32 := sm_lt 32 p (by omega)
  by_cases f : sp < 16
  rotate_left
  · have sf : ¬ nI sp < 16 := nI_nlt (b := 16) (by omega) (by omega)
    exact br_f (by decide) (br_t (by decide) (br_f (by decide) (br_f (by decide) (br_f (by decide) (br_f (by decide) (br_f (by decide) (br_f (by decide) (br_f (by decide) (br_f (by decide) (br_f (by decide) (br_f (by decide) (br_t rfl (br_f (by decide) (br_f c0 (br_t c1 (br_f (by decide) (br_f (by decide) (br_t rfl (br_f (by decide) (br_f c2 (br_f c3 (br_f (by decide) (br_f (by decide) (br_t sx (br_t pl (br_t rfl (br_f sf (br_f (by decide) (br_t (by decide) (br_f (by decide) (br_f (by decide) (br_t rfl (br_f (by decide) (br_f (by decide) (br_f (by decide) (br_f (by decide) (br_f (by decide) (br_f (by decide) (br_f (by decide) (br_t rfl (br_f (by decide) (br_f c0 (br_f c2 (br_t c4 (br_t rfl (br_f (by decide) (br_t (by decide) (br_f (by decide) (br_f (by decide) (br_t rfl (br_t rfl (br_t pl (br_t rfl (br_t rfl (br_f sf (⟨rfl, J⟩))))))))))))))))))))))))))))))))))))))))))))))))))))))))
  have sf : nI sp < 16 := sm_lt 16 f (by omega)
  have n32 : nc < 32 := p
  have vn : vp_in (nI nc) 32 := vp_in_nI p (by omega)
  have vs : vp_in (nI sp) 16 := vp_in_nI f (by omega)
  have fin : i_Rel (kk + 4) (nI ms, nI lim, nI dl, nI (nc + 1), nI (sp + 1), nI n, xlr, xls, xle, xst, xnw, xtc, xtu, xtn, xcu, xtd, xtt, xsr, sm_five xno nc 9 v2 v3 (-1) (-1), upd xsk sp (nI nc), xrt, xsj, xtx, xtl, xcr, eN, eC, eD, eT, eH, eR, tE, tN)
      (nI ms, nI lim, nI dl, nI (nc + 1), nI (sp + 1), nI n, xlr, xls, xle, yfc, yst, ycf, yev, yfr, ydo, upd nK nc 9, upd nA nc v2, upd nB nc v3, upd nL nc (-1), upd nR nc (-1), upd xsk sp (nI nc), xrt, xsj, xtx, xtl, xcr, fN, fC, fD, fS, fA, fB, fO, fP, fL, fM, tS, tG) :=
    sm_mk (nc := nc + 1) (sp := sp + 1) ⟨o1, o2, o3, o4, by omega, o6, sm_cxn (kk := 9) o7 p (by decide) (by decide) (fun i hi => pk_un (by omega)) (fun i hi => pk_un (by omega)) (fun i hi => pk_un (by omega)) (fun i hi => pk_un (by omega)) (fun i hi => pk_un (by omega)) pk_us pk_us pk_us pk_us pk_us (fun a b => absurd b (by decide)) (fun a => absurd a (by decide)) (fun a => absurd a (by decide)) (fun a => absurd a (by decide)) (fun a => absurd a (by decide)), sm_stk o8 (by omega), o9, o10⟩
  exact br_f (by decide) (br_t (by decide) (br_f (by decide) (br_f (by decide) (br_f (by decide) (br_f (by decide) (br_f (by decide) (br_f (by decide) (br_f (by decide) (br_f (by decide) (br_f (by decide) (br_f (by decide) (br_t rfl (br_f (by decide) (br_f c0 (br_t c1 (br_f (by decide) (br_f (by decide) (br_t rfl (br_f (by decide) (br_f c2 (br_f c3 (br_f (by decide) (br_f (by decide) (br_t sx (br_t pl (br_t rfl (br_t sf (br_f (by decide) (br_t (by decide) (nm_e ⟨sm_in5 0 n32 (by omega), nm_r (sm_u5 0 rfl) (br_f (by decide) (br_f (by decide) (br_f (by decide) (br_f (by decide) (br_f (by decide) (br_f (by decide) (br_f (by decide) (br_f (by decide) (br_f (by decide) (br_f (by decide) (br_t rfl (br_f (by decide) ⟨sm_in5 1 n32 (by omega), nm_r (sm_u5 1 rfl) (br_f (by decide) (br_f (by decide) (br_t rfl (br_f (by decide) ⟨sm_in5 2 n32 (by omega), nm_r (sm_u5 2 rfl) ⟨sm_in5 3 n32 (by omega), nm_r (sm_u5 3 rfl) ⟨sm_in5 4 n32 (by omega), nm_r (sm_u5 4 rfl) (nm_r (nI_1 nc) ⟨vs, nm_r (sm_up (by omega)) (nm_r (nI_1 sp) (br_f (by decide) (br_t (by decide) (br_f (by decide) (br_f (by decide) (br_t rfl (br_f (by decide) (br_f (by decide) (br_f (by decide) (br_f (by decide) (br_f (by decide) (br_f (by decide) (br_f (by decide) (br_t rfl (br_f (by decide) (br_f c0 (br_f c2 (br_t c4 (br_t rfl (br_f (by decide) (br_t (by decide) (br_f (by decide) (br_f (by decide) (br_t rfl (br_t rfl (br_t pl (br_t rfl (br_t rfl (br_t sf (br_f (by decide) (br_t rfl (br_f (by decide) (⟨vn, nm_r (sm_up (by omega)) (br_f (by decide) (⟨vn, nm_r (sm_up (by omega)) (br_f (by decide) (⟨vn, nm_r (sm_up (by omega)) ⟨vn, nm_r (sm_up (by omega)) ⟨vn, nm_r (sm_up (by omega)) (br_t rfl (br_t rfl (⟨vs, nm_r (sm_up (by omega)) (nm_r (nI_1 sp) (nm_r (nI_1 nc) (⟨rfl, fin⟩)))⟩)))⟩⟩⟩))⟩))⟩)))))))))))))))))))))))))))))))))⟩)⟩⟩⟩))))⟩))))))))))))⟩))))))))))))))))))))))))))))))
theorem sm_push10 {kk : Nat} (J : i_Rel (kk + 4) (nI ms, nI lim, nI dl, nI nc, nI sp, nI n, xlr, xls, xle, xst, xnw, xtc, xtu, xtn, xcu, xtd, xtt, xsr, xno, xsk, xrt, xsj, xtx, xtl, xcr, eN, eC, eD, eT, eH, eR, tE, tN) (nI ms, nI lim, nI dl, nI nc, nI sp, nI n, xlr, xls, xle, yfc, yst, ycf, yev, yfr, ydo, nK, nA, nB, nL, nR, xsk, xrt, xsj, xtx, xtl, xcr, fN, fC, fD, fS, fA, fB, fO, fP, fL, fM, tS, tG)) (ok : sm_ok ms lim dl nc sp n kn xno xsk xrt xsj xtx xtl nK nA nB nL nR) (v2 v3 : Int32) :
    wpX_push (fun r u' => wpY_push (fun r' v' => r' = r ∧ i_Rel (kk + 4) u' v') (nI ms, nI lim, nI dl, nI nc, nI sp, nI n, xlr, xls, xle, yfc, yst, ycf, yev, yfr, ydo, nK, nA, nB, nL, nR, xsk, xrt, xsj, xtx, xtl, xcr, fN, fC, fD, fS, fA, fB, fO, fP, fL, fM, tS, tG) 10 v2 v3) (nI ms, nI lim, nI dl, nI nc, nI sp, nI n, xlr, xls, xle, xst, xnw, xtc, xtu, xtn, xcu, xtd, xtt, xsr, xno, xsk, xrt, xsj, xtx, xtl, xcr, eN, eC, eD, eT, eH, eR, tE, tN) 10 v2 v3 := by
  obtain ⟨o1, o2, o3, o4, o5, o6, o7, o8, o9, o10⟩ := ok
  have c32 := o7.1
  have sx : (0 : Int32) ≤ nI sp := nI_pos' (by omega)
  by_cases p : nc < 32
  rotate_left
  · have pl : ¬ nI nc < 32 := nI_nlt (b := 32) (by omega) (by omega)
    exact br_f (by decide) (br_t (by decide) (br_f (by decide) (br_f (by decide) (br_f (by decide) (br_f (by decide) (br_f (by decide) (br_f (by decide) (br_f (by decide) (br_f (by decide) (br_f (by decide) (br_f (by decide) (br_f (by decide) (br_t rfl (br_t rfl (br_f (by decide) (br_f (by decide) (br_t sx (br_f pl (br_f (by decide) (br_t (by decide) (br_f (by decide) (br_f (by decide) (br_f (by decide) (br_f (by decide) (br_f (by decide) (br_f (by decide) (br_f (by decide) (br_f (by decide) (br_f (by decide) (br_f (by decide) (br_t rfl (br_t rfl (br_t rfl (br_f (by decide) (br_t (by decide) (br_f (by decide) (br_f (by decide) (br_t rfl (br_t rfl (br_f pl (⟨rfl, J⟩)))))))))))))))))))))))))))))))))))))))))
  have pl : nI nc < 32 := sm_lt 32 p (by omega)
  by_cases f : sp < 16
  rotate_left
  · have sf : ¬ nI sp < 16 := nI_nlt (b := 16) (by omega) (by omega)
    exact br_f (by decide) (br_t (by decide) (br_f (by decide) (br_f (by decide) (br_f (by decide) (br_f (by decide) (br_f (by decide) (br_f (by decide) (br_f (by decide) (br_f (by decide) (br_f (by decide) (br_f (by decide) (br_f (by decide) (br_t rfl (br_t rfl (br_f (by decide) (br_f (by decide) (br_t sx (br_t pl (br_t rfl (br_f sf (br_f (by decide) (br_t (by decide) (br_f (by decide) (br_f (by decide) (br_f (by decide) (br_f (by decide) (br_f (by decide) (br_f (by decide) (br_f (by decide) (br_f (by decide) (br_f (by decide) (br_f (by decide) (br_t rfl (br_t rfl (br_t rfl (br_f (by decide) (br_t (by decide) (br_f (by decide) (br_f (by decide) (br_t rfl (br_t rfl (br_t pl (br_t rfl (br_t rfl (br_f sf (⟨rfl, J⟩))))))))))))))))))))))))))))))))))))))))))))))
  have sf : nI sp < 16 := sm_lt 16 f (by omega)
  have n32 : nc < 32 := p
  have vn : vp_in (nI nc) 32 := vp_in_nI p (by omega)
  have vs : vp_in (nI sp) 16 := vp_in_nI f (by omega)
  have fin : i_Rel (kk + 4) (nI ms, nI lim, nI dl, nI (nc + 1), nI (sp + 1), nI n, xlr, xls, xle, xst, xnw, xtc, xtu, xtn, xcu, xtd, xtt, xsr, sm_five xno nc 10 0 0 (-1) (-1), upd xsk sp (nI nc), xrt, xsj, xtx, xtl, xcr, eN, eC, eD, eT, eH, eR, tE, tN)
      (nI ms, nI lim, nI dl, nI (nc + 1), nI (sp + 1), nI n, xlr, xls, xle, yfc, yst, ycf, yev, yfr, ydo, upd nK nc 10, upd nA nc 0, upd nB nc 0, upd nL nc (-1), upd nR nc (-1), upd xsk sp (nI nc), xrt, xsj, xtx, xtl, xcr, fN, fC, fD, fS, fA, fB, fO, fP, fL, fM, tS, tG) :=
    sm_mk (nc := nc + 1) (sp := sp + 1) ⟨o1, o2, o3, o4, by omega, o6, sm_cxn (kk := 10) o7 p (by decide) (by decide) (fun i hi => pk_un (by omega)) (fun i hi => pk_un (by omega)) (fun i hi => pk_un (by omega)) (fun i hi => pk_un (by omega)) (fun i hi => pk_un (by omega)) pk_us pk_us pk_us pk_us pk_us (fun a b => absurd b (by decide)) (fun a => absurd a (by decide)) (fun a => absurd a (by decide)) (fun a => absurd a (by decide)) (fun a => absurd a (by decide)), sm_stk o8 (by omega), o9, o10⟩
  exact br_f (by decide) (br_t (by decide) (br_f (by decide) (br_f (by decide) (br_f (by decide) (br_f (by decide) (br_f (by decide) (br_f (by decide) (br_f (by decide) (br_f (by decide) (br_f (by decide) (br_f (by decide) (br_f (by decide) (br_t rfl (br_t rfl (br_f (by decide) (br_f (by decide) (br_t sx (br_t pl (br_t rfl (br_t sf (br_f (by decide) (br_t (by decide) (nm_e ⟨sm_in5 0 n32 (by omega), nm_r (sm_u5 0 rfl) (br_f (by decide) (br_f (by decide) (br_f (by decide) (br_f (by decide) (br_f (by decide) (br_f (by decide) (br_f (by decide) (br_f (by decide) (br_f (by decide) (br_f (by decide) (br_f (by decide) (br_t rfl (br_t rfl ⟨sm_in5 1 n32 (by omega), nm_r (sm_u5 1 rfl) (br_f (by decide) (br_f (by decide) (br_f (by decide) (br_t rfl ⟨sm_in5 2 n32 (by omega), nm_r (sm_u5 2 rfl) ⟨sm_in5 3 n32 (by omega), nm_r (sm_u5 3 rfl) ⟨sm_in5 4 n32 (by omega), nm_r (sm_u5 4 rfl) (nm_r (nI_1 nc) ⟨vs, nm_r (sm_up (by omega)) (nm_r (nI_1 sp) (br_f (by decide) (br_t (by decide) (br_f (by decide) (br_f (by decide) (br_f (by decide) (br_f (by decide) (br_f (by decide) (br_f (by decide) (br_f (by decide) (br_f (by decide) (br_f (by decide) (br_f (by decide) (br_t rfl (br_t rfl (br_t rfl (br_f (by decide) (br_t (by decide) (br_f (by decide) (br_f (by decide) (br_t rfl (br_t rfl (br_t pl (br_t rfl (br_t rfl (br_t sf (br_f (by decide) (br_t rfl (br_t rfl (br_t rfl (br_f (by decide) (⟨vn, nm_r (sm_up (by omega)) (br_t rfl (⟨vn, nm_r (sm_up (by omega)) (br_t rfl (⟨vn, nm_r (sm_up (by omega)) ⟨vn, nm_r (sm_up (by omega)) ⟨vn, nm_r (sm_up (by omega)) (br_t rfl (br_t rfl (⟨vs, nm_r (sm_up (by omega)) (nm_r (nI_1 sp) (nm_r (nI_1 nc) (⟨rfl, fin⟩)))⟩)))⟩⟩⟩))⟩))⟩))))))))))))))))))))))))))))))))⟩)⟩⟩⟩))))⟩)))))))))))))⟩)))))))))))))))))))))))
theorem sm_push11 {kk : Nat} (J : i_Rel (kk + 4) (nI ms, nI lim, nI dl, nI nc, nI sp, nI n, xlr, xls, xle, xst, xnw, xtc, xtu, xtn, xcu, xtd, xtt, xsr, xno, xsk, xrt, xsj, xtx, xtl, xcr, eN, eC, eD, eT, eH, eR, tE, tN) (nI ms, nI lim, nI dl, nI nc, nI sp, nI n, xlr, xls, xle, yfc, yst, ycf, yev, yfr, ydo, nK, nA, nB, nL, nR, xsk, xrt, xsj, xtx, xtl, xcr, fN, fC, fD, fS, fA, fB, fO, fP, fL, fM, tS, tG)) (ok : sm_ok ms lim dl nc sp n kn xno xsk xrt xsj xtx xtl nK nA nB nL nR) (v2 v3 : Int32) :
    wpX_push (fun r u' => wpY_push (fun r' v' => r' = r ∧ i_Rel (kk + 4) u' v') (nI ms, nI lim, nI dl, nI nc, nI sp, nI n, xlr, xls, xle, yfc, yst, ycf, yev, yfr, ydo, nK, nA, nB, nL, nR, xsk, xrt, xsj, xtx, xtl, xcr, fN, fC, fD, fS, fA, fB, fO, fP, fL, fM, tS, tG) 11 v2 v3) (nI ms, nI lim, nI dl, nI nc, nI sp, nI n, xlr, xls, xle, xst, xnw, xtc, xtu, xtn, xcu, xtd, xtt, xsr, xno, xsk, xrt, xsj, xtx, xtl, xcr, eN, eC, eD, eT, eH, eR, tE, tN) 11 v2 v3 := by
  obtain ⟨o1, o2, o3, o4, o5, o6, o7, o8, o9, o10⟩ := ok
  have c32 := o7.1
  by_cases c0 : v2 < 0
  · exact br_f (by decide) (br_t (by decide) (br_f (by decide) (br_f (by decide) (br_f (by decide) (br_f (by decide) (br_f (by decide) (br_f (by decide) (br_f (by decide) (br_f (by decide) (br_f (by decide) (br_f (by decide) (br_f (by decide) (br_f (by decide) (br_t rfl (br_f (by decide) (br_t c0 (br_t rfl (br_f (by decide) (br_t (by decide) (br_f (by decide) (br_f (by decide) (br_f (by decide) (br_f (by decide) (br_f (by decide) (br_f (by decide) (br_t rfl (br_f (by decide) (br_t rfl (br_t rfl (br_f (by decide) (br_t c0 (⟨rfl, J⟩))))))))))))))))))))))))))))))))
  by_cases c1 : v2 ≤ 7
  rotate_left
  · exact br_f (by decide) (br_t (by decide) (br_f (by decide) (br_f (by decide) (br_f (by decide) (br_f (by decide) (br_f (by decide) (br_f (by decide) (br_f (by decide) (br_f (by decide) (br_f (by decide) (br_f (by decide) (br_f (by decide) (br_f (by decide) (br_t rfl (br_f (by decide) (br_f c0 (br_f c1 (br_t rfl (br_f (by decide) (br_t (by decide) (br_f (by decide) (br_f (by decide) (br_f (by decide) (br_f (by decide) (br_f (by decide) (br_f (by decide) (br_t rfl (br_f (by decide) (br_t rfl (br_t rfl (br_f (by decide) (br_f c0 (br_f c1 (⟨rfl, J⟩))))))))))))))))))))))))))))))))))
  have sx : (0 : Int32) ≤ nI sp := nI_pos' (by omega)
  by_cases p : nc < 32
  rotate_left
  · have pl : ¬ nI nc < 32 := nI_nlt (b := 32) (by omega) (by omega)
    exact br_f (by decide) (br_t (by decide) (br_f (by decide) (br_f (by decide) (br_f (by decide) (br_f (by decide) (br_f (by decide) (br_f (by decide) (br_f (by decide) (br_f (by decide) (br_f (by decide) (br_f (by decide) (br_f (by decide) (br_f (by decide) (br_t rfl (br_f (by decide) (br_f c0 (br_t c1 (br_f (by decide) (br_f (by decide) (br_f (by decide) (br_t rfl (br_f (by decide) (br_f (by decide) (br_t sx (br_f pl (br_f (by decide) (br_t (by decide) (br_f (by decide) (br_f (by decide) (br_f (by decide) (br_f (by decide) (br_f (by decide) (br_f (by decide) (br_t rfl (br_f (by decide) (br_t rfl (br_t rfl (br_f (by decide) (br_f c0 (br_t c1 (br_f (by decide) (br_t (by decide) (br_f (by decide) (br_f (by decide) (br_t rfl (br_t rfl (br_f pl (⟨rfl, J⟩))))))))))))))))))))))))))))))))))))))))))))))))
  have pl : nI nc < 32 := sm_lt 32 p (by omega)
  by_cases f : sp < 16
  rotate_left
  · have sf : ¬ nI sp < 16 := nI_nlt (b := 16) (by omega) (by omega)
    exact br_f (by decide) (br_t (by decide) (br_f (by decide) (br_f (by decide) (br_f (by decide) (br_f (by decide) (br_f (by decide) (br_f (by decide) (br_f (by decide) (br_f (by decide) (br_f (by decide) (br_f (by decide) (br_f (by decide) (br_f (by decide) (br_t rfl (br_f (by decide) (br_f c0 (br_t c1 (br_f (by decide) (br_f (by decide) (br_f (by decide) (br_t rfl (br_f (by decide) (br_f (by decide) (br_t sx (br_t pl (br_t rfl (br_f sf (br_f (by decide) (br_t (by decide) (br_f (by decide) (br_f (by decide) (br_f (by decide) (br_f (by decide) (br_f (by decide) (br_f (by decide) (br_t rfl (br_f (by decide) (br_t rfl (br_t rfl (br_f (by decide) (br_f c0 (br_t c1 (br_f (by decide) (br_t (by decide) (br_f (by decide) (br_f (by decide) (br_t rfl (br_t rfl (br_t pl (br_t rfl (br_t rfl (br_f sf (⟨rfl, J⟩)))))))))))))))))))))))))))))))))))))))))))))))))))))
  have sf : nI sp < 16 := sm_lt 16 f (by omega)
  have n32 : nc < 32 := p
  have vn : vp_in (nI nc) 32 := vp_in_nI p (by omega)
  have vs : vp_in (nI sp) 16 := vp_in_nI f (by omega)
  have fin : i_Rel (kk + 4) (nI ms, nI lim, nI dl, nI (nc + 1), nI (sp + 1), nI n, xlr, xls, xle, xst, xnw, xtc, xtu, xtn, xcu, xtd, xtt, xsr, sm_five xno nc 11 v2 0 (-1) (-1), upd xsk sp (nI nc), xrt, xsj, xtx, xtl, xcr, eN, eC, eD, eT, eH, eR, tE, tN)
      (nI ms, nI lim, nI dl, nI (nc + 1), nI (sp + 1), nI n, xlr, xls, xle, yfc, yst, ycf, yev, yfr, ydo, upd nK nc 11, upd nA nc v2, upd nB nc 0, upd nL nc (-1), upd nR nc (-1), upd xsk sp (nI nc), xrt, xsj, xtx, xtl, xcr, fN, fC, fD, fS, fA, fB, fO, fP, fL, fM, tS, tG) :=
    sm_mk (nc := nc + 1) (sp := sp + 1) ⟨o1, o2, o3, o4, by omega, o6, sm_cxn (kk := 11) o7 p (by decide) (by decide) (fun i hi => pk_un (by omega)) (fun i hi => pk_un (by omega)) (fun i hi => pk_un (by omega)) (fun i hi => pk_un (by omega)) (fun i hi => pk_un (by omega)) pk_us pk_us pk_us pk_us pk_us (fun a b => absurd b (by decide)) (fun _ => nI_of2 (M := 7) (n := 7) (by decide) c0 c1) (fun a => absurd a (by decide)) (fun a => absurd a (by decide)) (fun a => absurd a (by decide)), sm_stk o8 (by omega), o9, o10⟩
  exact br_f (by decide) (br_t (by decide) (br_f (by decide) (br_f (by decide) (br_f (by decide) (br_f (by decide) (br_f (by decide) (br_f (by decide) (br_f (by decide) (br_f (by decide) (br_f (by decide) (br_f (by decide) (br_f (by decide) (br_f (by decide) (br_t rfl (br_f (by decide) (br_f c0 (br_t c1 (br_f (by decide) (br_f (by decide) (br_f (by decide) (br_t rfl (br_f (by decide) (br_f (by decide) (br_t sx (br_t pl (br_t rfl (br_t sf (br_f (by decide) (br_t (by decide) (nm_e ⟨sm_in5 0 n32 (by omega), nm_r (sm_u5 0 rfl) (br_f (by decide) (br_f (by decide) (br_f (by decide) (br_f (by decide) (br_f (by decide) (br_f (by decide) (br_f (by decide) (br_f (by decide) (br_f (by decide) (br_f (by decide) (br_f (by decide) (br_f (by decide) (br_t rfl (br_f (by decide) ⟨sm_in5 1 n32 (by omega), nm_r (sm_u5 1 rfl) (br_f (by decide) (br_f (by decide) (br_f (by decide) (br_t rfl ⟨sm_in5 2 n32 (by omega), nm_r (sm_u5 2 rfl) ⟨sm_in5 3 n32 (by omega), nm_r (sm_u5 3 rfl) ⟨sm_in5 4 n32 (by omega), nm_r (sm_u5 4 rfl) (nm_r (nI_1 nc) ⟨vs, nm_r (sm_up (by omega)) (nm_r (nI_1 sp) (br_f (by decide) (br_t (by decide) (br_f (by decide) (br_f (by decide) (br_f (by decide) (br_f (by decide) (br_f (by decide) (br_f (by decide) (br_t rfl (br_f (by decide) (br_t rfl (br_t rfl (br_f (by decide) (br_f c0 (br_t c1 (br_f (by decide) (br_t (by decide) (br_f (by decide) (br_f (by decide) (br_t rfl (br_t rfl (br_t pl (br_t rfl (br_t rfl (br_t sf (br_f (by decide) (br_t rfl (br_t rfl (br_f (by decide) (⟨vn, nm_r (sm_up (by omega)) (br_f (by decide) (⟨vn, nm_r (sm_up (by omega)) (br_t rfl (⟨vn, nm_r (sm_up (by omega)) ⟨vn, nm_r (sm_up (by omega)) ⟨vn, nm_r (sm_up (by omega)) (br_t rfl (br_t rfl (⟨vs, nm_r (sm_up (by omega)) (nm_r (nI_1 sp) (nm_r (nI_1 nc) (⟨rfl, fin⟩)))⟩)))⟩⟩⟩))⟩))⟩)))))))))))))))))))))))))))))))⟩)⟩⟩⟩))))⟩))))))))))))))⟩))))))))))))))))))))))))))))))
theorem sm_push12 {kk : Nat} (J : i_Rel (kk + 4) (nI ms, nI lim, nI dl, nI nc, nI sp, nI n, xlr, xls, xle, xst, xnw, xtc, xtu, xtn, xcu, xtd, xtt, xsr, xno, xsk, xrt, xsj, xtx, xtl, xcr, eN, eC, eD, eT, eH, eR, tE, tN) (nI ms, nI lim, nI dl, nI nc, nI sp, nI n, xlr, xls, xle, yfc, yst, ycf, yev, yfr, ydo, nK, nA, nB, nL, nR, xsk, xrt, xsj, xtx, xtl, xcr, fN, fC, fD, fS, fA, fB, fO, fP, fL, fM, tS, tG)) (ok : sm_ok ms lim dl nc sp n kn xno xsk xrt xsj xtx xtl nK nA nB nL nR) (v2 v3 : Int32) :
    wpX_push (fun r u' => wpY_push (fun r' v' => r' = r ∧ i_Rel (kk + 4) u' v') (nI ms, nI lim, nI dl, nI nc, nI sp, nI n, xlr, xls, xle, yfc, yst, ycf, yev, yfr, ydo, nK, nA, nB, nL, nR, xsk, xrt, xsj, xtx, xtl, xcr, fN, fC, fD, fS, fA, fB, fO, fP, fL, fM, tS, tG) 12 v2 v3) (nI ms, nI lim, nI dl, nI nc, nI sp, nI n, xlr, xls, xle, xst, xnw, xtc, xtu, xtn, xcu, xtd, xtt, xsr, xno, xsk, xrt, xsj, xtx, xtl, xcr, eN, eC, eD, eT, eH, eR, tE, tN) 12 v2 v3 := by
  obtain ⟨o1, o2, o3, o4, o5, o6, o7, o8, o9, o10⟩ := ok
  have c32 := o7.1
  by_cases c0 : v2 < 0
  · exact br_f (by decide) (br_t (by decide) (br_f (by decide) (br_f (by decide) (br_f (by decide) (br_f (by decide) (br_f (by decide) (br_f (by decide) (br_f (by decide) (br_f (by decide) (br_f (by decide) (br_f (by decide) (br_f (by decide) (br_f (by decide) (br_f (by decide) (br_t rfl (br_f (by decide) (br_t c0 (br_t rfl (br_f (by decide) (br_t (by decide) (br_f (by decide) (br_f (by decide) (br_f (by decide) (br_f (by decide) (br_f (by decide) (br_f (by decide) (br_f (by decide) (br_f (by decide) (br_f (by decide) (br_f (by decide) (br_t rfl (br_t rfl (br_t rfl (br_t rfl (br_t c0 (⟨rfl, J⟩))))))))))))))))))))))))))))))))))))
  by_cases c1 : v2 ≤ 3
  rotate_left
  · exact br_f (by decide) (br_t (by decide) (br_f (by decide) (br_f (by decide) (br_f (by decide) (br_f (by decide) (br_f (by decide) (br_f (by decide) (br_f (by decide) (br_f (by decide) (br_f (by decide) (br_f (by decide) (br_f (by decide) (br_f (by decide) (br_f (by decide) (br_t rfl (br_f (by decide) (br_f c0 (br_f c1 (br_t rfl (br_f (by decide) (br_t (by decide) (br_f (by decide) (br_f (by decide) (br_f (by decide) (br_f (by decide) (br_f (by decide) (br_f (by decide) (br_f (by decide) (br_f (by decide) (br_f (by decide) (br_f (by decide) (br_t rfl (br_t rfl (br_t rfl (br_t rfl (br_f c0 (br_f c1 (⟨rfl, J⟩))))))))))))))))))))))))))))))))))))))
  have sx : (0 : Int32) ≤ nI sp := nI_pos' (by omega)
  by_cases p : nc < 32
  rotate_left
  · have pl : ¬ nI nc < 32 := nI_nlt (b := 32) (by omega) (by omega)
    exact br_f (by decide) (br_t (by decide) (br_f (by decide) (br_f (by decide) (br_f (by decide) (br_f (by decide) (br_f (by decide) (br_f (by decide) (br_f (by decide) (br_f (by decide) (br_f (by decide) (br_f (by decide) (br_f (by decide) (br_f (by decide) (br_f (by decide) (br_t rfl (br_f (by decide) (br_f c0 (br_t c1 (br_f (by decide) (br_f (by decide) (br_f (by decide) (br_t rfl (br_f (by decide) (br_f (by decide) (br_t sx (br_f pl (br_f (by decide) (br_t (by decide) (br_f (by decide) (br_f (by decide) (br_f (by decide) (br_f (by decide) (br_f (by decide) (br_f (by decide) (br_f (by decide) (br_f (by decide) (br_f (by decide) (br_f (by decide) (br_t rfl (br_t rfl (br_t rfl (br_t rfl (br_f c0 (br_t c1 (br_t (by decide) (br_f (by decide) (br_f (by decide) (br_t rfl (br_t rfl (br_f pl (⟨rfl, J⟩)))))))))))))))))))))))))))))))))))))))))))))))))))
  have pl : nI nc < 32 := sm_lt 32 p (by omega)
  by_cases f : sp < 16
  rotate_left
  · have sf : ¬ nI sp < 16 := nI_nlt (b := 16) (by omega) (by omega)
    exact br_f (by decide) (br_t (by decide) (br_f (by decide) (br_f (by decide) (br_f (by decide) (br_f (by decide) (br_f (by decide) (br_f (by decide) (br_f (by decide) (br_f (by decide) (br_f (by decide) (br_f (by decide) (br_f (by decide) (br_f (by decide) (br_f (by decide) (br_t rfl (br_f (by decide) (br_f c0 (br_t c1 (br_f (by decide) (br_f (by decide) (br_f (by decide) (br_t rfl (br_f (by decide) (br_f (by decide) (br_t sx (br_t pl (br_t rfl (br_f sf (br_f (by decide) (br_t (by decide) (br_f (by decide) (br_f (by decide) (br_f (by decide) (br_f (by decide) (br_f (by decide) (br_f (by decide) (br_f (by decide) (br_f (by decide) (br_f (by decide) (br_f (by decide) (br_t rfl (br_t rfl (br_t rfl (br_t rfl (br_f c0 (br_t c1 (br_t (by decide) (br_f (by decide) (br_f (by decide) (br_t rfl (br_t rfl (br_t pl (br_t rfl (br_t rfl (br_f sf (⟨rfl, J⟩))))))))))))))))))))))))))))))))))))))))))))))))))))))))
  have sf : nI sp < 16 := sm_lt 16 f (by omega)
  have n32 : nc < 32 := p
  have vn : vp_in (nI nc) 32 := vp_in_nI p (by omega)
  have vs : vp_in (nI sp) 16 := vp_in_nI f (by omega)
  have fin : i_Rel (kk + 4) (nI ms, nI lim, nI dl, nI (nc + 1), nI (sp + 1), nI n, xlr, xls, xle, xst, xnw, xtc, xtu, xtn, xcu, xtd, xtt, xsr, sm_five xno nc 12 v2 0 (-1) (-1), upd xsk sp (nI nc), xrt, xsj, xtx, xtl, xcr, eN, eC, eD, eT, eH, eR, tE, tN)
      (nI ms, nI lim, nI dl, nI (nc + 1), nI (sp + 1), nI n, xlr, xls, xle, yfc, yst, ycf, yev, yfr, ydo, upd nK nc 12, upd nA nc v2, upd nB nc 0, upd nL nc (-1), upd nR nc (-1), upd xsk sp (nI nc), xrt, xsj, xtx, xtl, xcr, fN, fC, fD, fS, fA, fB, fO, fP, fL, fM, tS, tG) :=
    sm_mk (nc := nc + 1) (sp := sp + 1) ⟨o1, o2, o3, o4, by omega, o6, sm_cxn (kk := 12) o7 p (by decide) (by decide) (fun i hi => pk_un (by omega)) (fun i hi => pk_un (by omega)) (fun i hi => pk_un (by omega)) (fun i hi => pk_un (by omega)) (fun i hi => pk_un (by omega)) pk_us pk_us pk_us pk_us pk_us (fun a b => absurd b (by decide)) (fun a => absurd a (by decide)) (fun _ => nI_of2 (M := 3) (n := 3) (by decide) c0 c1) (fun a => absurd a (by decide)) (fun a => absurd a (by decide)), sm_stk o8 (by omega), o9, o10⟩
  exact br_f (by decide) (br_t (by decide) (br_f (by decide) (br_f (by decide) (br_f (by decide) (br_f (by decide) (br_f (by decide) (br_f (by decide) (br_f (by decide) (br_f (by decide) (br_f (by decide) (br_f (by decide) (br_f (by decide) (br_f (by decide) (br_f (by decide) (br_t rfl (br_f (by decide) (br_f c0 (br_t c1 (br_f (by decide) (br_f (by decide) (br_f (by decide) (br_t rfl (br_f (by decide) (br_f (by decide) (br_t sx (br_t pl (br_t rfl (br_t sf (br_f (by decide) (br_t (by decide) (nm_e ⟨sm_in5 0 n32 (by omega), nm_r (sm_u5 0 rfl) (br_f (by decide) (br_f (by decide) (br_f (by decide) (br_f (by decide) (br_f (by decide) (br_f (by decide) (br_f (by decide) (br_f (by decide) (br_f (by decide) (br_f (by decide) (br_f (by decide) (br_f (by decide) (br_f (by decide) (br_t rfl (br_f (by decide) ⟨sm_in5 1 n32 (by omega), nm_r (sm_u5 1 rfl) (br_f (by decide) (br_f (by decide) (br_f (by decide) (br_t rfl ⟨sm_in5 2 n32 (by omega), nm_r (sm_u5 2 rfl) ⟨sm_in5 3 n32 (by omega), nm_r (sm_u5 3 rfl) ⟨sm_in5 4 n32 (by omega), nm_r (sm_u5 4 rfl) (nm_r (nI_1 nc) ⟨vs, nm_r (sm_up (by omega)) (nm_r (nI_1 sp) (br_f (by decide) (br_t (by decide) (br_f (by decide) (br_f (by decide) (br_f (by decide) (br_f (by decide) (br_f (by decide) (br_f (by decide) (br_f (by decide) (br_f (by decide) (br_f (by decide) (br_f (by decide) (br_t rfl (br_t rfl (br_t rfl (br_t rfl (br_f c0 (br_t c1 (br_t (by decide) (br_f (by decide) (br_f (by decide) (br_t rfl (br_t rfl (br_t pl (br_t rfl (br_t rfl (br_t sf (br_f (by decide) (br_t rfl (br_t rfl (br_t rfl (br_t rfl (⟨vn, nm_r (sm_up (by omega)) (br_f (by decide) (⟨vn, nm_r (sm_up (by omega)) (br_t rfl (⟨vn, nm_r (sm_up (by omega)) ⟨vn, nm_r (sm_up (by omega)) ⟨vn, nm_r (sm_up (by omega)) (br_t rfl (br_t rfl (⟨vs, nm_r (sm_up (by omega)) (nm_r (nI_1 sp) (nm_r (nI_1 nc) (⟨rfl, fin⟩)))⟩)))⟩⟩⟩))⟩))⟩))))))))))))))))))))))))))))))))))⟩)⟩⟩⟩))))⟩)))))))))))))))⟩)))))))))))))))))))))))))))))))
theorem sm_push13 {kk : Nat} (J : i_Rel (kk + 4) (nI ms, nI lim, nI dl, nI nc, nI sp, nI n, xlr, xls, xle, xst, xnw, xtc, xtu, xtn, xcu, xtd, xtt, xsr, xno, xsk, xrt, xsj, xtx, xtl, xcr, eN, eC, eD, eT, eH, eR, tE, tN) (nI ms, nI lim, nI dl, nI nc, nI sp, nI n, xlr, xls, xle, yfc, yst, ycf, yev, yfr, ydo, nK, nA, nB, nL, nR, xsk, xrt, xsj, xtx, xtl, xcr, fN, fC, fD, fS, fA, fB, fO, fP, fL, fM, tS, tG)) (ok : sm_ok ms lim dl nc sp n kn xno xsk xrt xsj xtx xtl nK nA nB nL nR) (v2 v3 : Int32) :
    wpX_push (fun r u' => wpY_push (fun r' v' => r' = r ∧ i_Rel (kk + 4) u' v') (nI ms, nI lim, nI dl, nI nc, nI sp, nI n, xlr, xls, xle, yfc, yst, ycf, yev, yfr, ydo, nK, nA, nB, nL, nR, xsk, xrt, xsj, xtx, xtl, xcr, fN, fC, fD, fS, fA, fB, fO, fP, fL, fM, tS, tG) 13 v2 v3) (nI ms, nI lim, nI dl, nI nc, nI sp, nI n, xlr, xls, xle, xst, xnw, xtc, xtu, xtn, xcu, xtd, xtt, xsr, xno, xsk, xrt, xsj, xtx, xtl, xcr, eN, eC, eD, eT, eH, eR, tE, tN) 13 v2 v3 := by
  obtain ⟨o1, o2, o3, o4, o5, o6, o7, o8, o9, o10⟩ := ok
  have c32 := o7.1
  by_cases u : sp < 1
  · have su : ¬ (1 : Int32) ≤ nI sp := nI_ge (b := 1) u (by omega)
    exact br_f (by decide) (br_t (by decide) (br_f (by decide) (br_f (by decide) (br_f (by decide) (br_f (by decide) (br_f (by decide) (br_f (by decide) (br_f (by decide) (br_f (by decide) (br_f (by decide) (br_f (by decide) (br_f (by decide) (br_f (by decide) (br_f (by decide) (br_f (by decide) (br_t rfl (br_t rfl (br_f (by decide) (br_t (by decide) (br_f (by decide) (br_f su (br_f (by decide) (br_t (by decide) (br_f (by decide) (br_f (by decide) (br_f (by decide) (br_f (by decide) (br_f (by decide) (br_f (by decide) (br_f (by decide) (br_f (by decide) (br_f (by decide) (br_f (by decide) (br_t rfl (br_t rfl (br_t rfl (br_f (by decide) (br_f (by decide) (br_f (by decide) (br_f (by decide) (br_f (by decide) (br_f (by decide) (br_f su (⟨rfl, J⟩))))))))))))))))))))))))))))))))))))))))))))
  have sx : (1 : Int32) ≤ nI sp := nI_le (a := 1) (by omega) (by omega)
  have sy : (1 : Int32) ≤ nI sp := sx
  by_cases p : nc < 32
  rotate_left
  · have pl : ¬ nI nc < 32 := nI_nlt (b := 32) (by omega) (by omega)
    exact br_f (by decide) (br_t (by decide) (br_f (by decide) (br_f (by decide) (br_f (by decide) (br_f (by decide) (br_f (by decide) (br_f (by decide) (br_f (by decide) (br_f (by decide) (br_f (by decide) (br_f (by decide) (br_f (by decide) (br_f (by decide) (br_f (by decide) (br_f (by decide) (br_t rfl (br_t rfl (br_f (by decide) (br_t (by decide) (br_f (by decide) (br_t sx (br_f pl (br_f (by decide) (br_t (by decide) (br_f (by decide) (br_f (by decide) (br_f (by decide) (br_f (by decide) (br_f (by decide) (br_f (by decide) (br_f (by decide) (br_f (by decide) (br_f (by decide) (br_f (by decide) (br_t rfl (br_t rfl (br_t rfl (br_f (by decide) (br_f (by decide) (br_f (by decide) (br_f (by decide) (br_f (by decide) (br_f (by decide) (br_t sy (br_t rfl (br_f pl (⟨rfl, J⟩)))))))))))))))))))))))))))))))))))))))))))))))
  have pl : nI nc < 32 := sm_lt 32 p (by omega)
  have n32 : nc < 32 := p
  have vn : vp_in (nI nc) 32 := vp_in_nI p (by omega)
  obtain ⟨s, hs⟩ : ∃ s, sp = s + 1 := ⟨sp - 1, by omega⟩
  subst hs
  have vs : vp_in (nI s) 16 := vp_in_nI (by omega) (by omega)
  obtain ⟨l, hl, el⟩ := o8 s (by omega)
  have es : xsk (nI s).toNatClampNeg = nI l := sm_cg (by omega) el
  have vy1 : vp_in (nI (s + 1) - 1) 16 := by rw [nI_pred]; exact vs
  have ey1 : upd (upd nL nc (-1)) (nI nc).toNatClampNeg (xsk (nI (s + 1) - 1).toNatClampNeg) = upd (upd nL nc (-1)) nc (nI l) := by rw [nI_pred, es, sm_up (by omega)]
  have fin : i_Rel (kk + 4) (nI ms, nI lim, nI dl, nI (nc + 1), nI (s + 1), nI n, xlr, xls, xle, xst, xnw, xtc, xtu, xtn, xcu, xtd, xtt, xsr, sm_five xno nc 13 0 0 (nI l) (-1), upd xsk s (nI nc), xrt, xsj, xtx, xtl, xcr, eN, eC, eD, eT, eH, eR, tE, tN)
      (nI ms, nI lim, nI dl, nI (nc + 1), nI (s + 1), nI n, xlr, xls, xle, yfc, yst, ycf, yev, yfr, ydo, upd nK nc 13, upd nA nc 0, upd nB nc 0, upd (upd nL nc (-1)) nc (nI l), upd nR nc (-1), upd xsk s (nI nc), xrt, xsj, xtx, xtl, xcr, fN, fC, fD, fS, fA, fB, fO, fP, fL, fM, tS, tG) :=
    sm_mk (nc := nc + 1) (sp := s + 1) ⟨o1, o2, o3, o4, by omega, o6, sm_cxn (kk := 13) o7 p (by decide) (by decide) (fun i hi => pk_un (by omega)) (fun i hi => pk_un (by omega)) (fun i hi => pk_un (by omega)) (fun i hi => by rw [pk_un (by omega), pk_un (by omega)]) (fun i hi => pk_un (by omega)) pk_us pk_us pk_us pk_us pk_us (fun a b => absurd b (by decide)) (fun a => absurd a (by decide)) (fun a => absurd a (by decide)) (fun _ => ⟨l, hl, rfl⟩) (fun a => absurd a (by decide)), sm_stk o8 (by omega), o9, o10⟩
  exact br_f (by decide) (br_t (by decide) (br_f (by decide) (br_f (by decide) (br_f (by decide) (br_f (by decide) (br_f (by decide) (br_f (by decide) (br_f (by decide) (br_f (by decide) (br_f (by decide) (br_f (by decide) (br_f (by decide) (br_f (by decide) (br_f (by decide) (br_f (by decide) (br_t rfl (br_t rfl (br_f (by decide) (br_t (by decide) (br_f (by decide) (br_t sx (br_t pl (br_f (by decide) (br_f (by decide) (br_f (by decide) (nm_r (nI_pred s) ⟨vs, nm_e ⟨sm_in5 0 n32 (by omega), nm_r (sm_u5 0 rfl) (br_f (by decide) (br_f (by decide) (br_f (by decide) (br_f (by decide) (br_f (by decide) (br_f (by decide) (br_f (by decide) (br_f (by decide) (br_f (by decide) (br_f (by decide) (br_f (by decide) (br_f (by decide) (br_f (by decide) (br_f (by decide) (br_t rfl (br_t rfl ⟨sm_in5 1 n32 (by omega), nm_r (sm_u5 1 rfl) (br_f (by decide) (br_f (by decide) (br_f (by decide) (br_t rfl ⟨sm_in5 2 n32 (by omega), nm_r (sm_u5 2 rfl) ⟨sm_in5 3 n32 (by omega), nm_r (sm_u5 3 es) ⟨sm_in5 4 n32 (by omega), nm_r (sm_u5 4 rfl) (nm_r (nI_1 nc) ⟨vs, nm_r (sm_up (by omega)) (nm_r (nI_1 s) (br_f (by decide) (br_t (by decide) (br_f (by decide) (br_f (by decide) (br_f (by decide) (br_f (by decide) (br_f (by decide) (br_f (by decide) (br_f (by decide) (br_f (by decide) (br_f (by decide) (br_f (by decide) (br_t rfl (br_t rfl (br_t rfl (br_f (by decide) (br_f (by decide) (br_f (by decide) (br_f (by decide) (br_f (by decide) (br_f (by decide) (br_t sy (br_t rfl (br_t pl (br_f (by decide) (br_f (by decide) (br_t rfl (br_t rfl (br_t rfl (br_f (by decide) (⟨vn, nm_r (sm_up (by omega)) (br_t rfl (⟨vn, nm_r (sm_up (by omega)) (br_t rfl (⟨vn, nm_r (sm_up (by omega)) ⟨vn, nm_r (sm_up (by omega)) ⟨vn, nm_r (sm_up (by omega)) (br_f (by decide) ⟨vy1, vn, nm_r ey1 (nm_r (nI_pred s) (br_t rfl (⟨vs, nm_r (sm_up (by omega)) (nm_r (nI_1 s) (nm_r (nI_1 nc) (⟨rfl, fin⟩)))⟩)))⟩)⟩⟩⟩))⟩))⟩))))))))))))))))))))))))))))))))⟩)⟩⟩⟩))))⟩))))))))))))))))⟩⟩))))))))))))))))))))))))))
theorem sm_push14 {kk : Nat} (J : i_Rel (kk + 4) (nI ms, nI lim, nI dl, nI nc, nI sp, nI n, xlr, xls, xle, xst, xnw, xtc, xtu, xtn, xcu, xtd, xtt, xsr, xno, xsk, xrt, xsj, xtx, xtl, xcr, eN, eC, eD, eT, eH, eR, tE, tN) (nI ms, nI lim, nI dl, nI nc, nI sp, nI n, xlr, xls, xle, yfc, yst, ycf, yev, yfr, ydo, nK, nA, nB, nL, nR, xsk, xrt, xsj, xtx, xtl, xcr, fN, fC, fD, fS, fA, fB, fO, fP, fL, fM, tS, tG)) (ok : sm_ok ms lim dl nc sp n kn xno xsk xrt xsj xtx xtl nK nA nB nL nR) (v2 v3 : Int32) :
    wpX_push (fun r u' => wpY_push (fun r' v' => r' = r ∧ i_Rel (kk + 4) u' v') (nI ms, nI lim, nI dl, nI nc, nI sp, nI n, xlr, xls, xle, yfc, yst, ycf, yev, yfr, ydo, nK, nA, nB, nL, nR, xsk, xrt, xsj, xtx, xtl, xcr, fN, fC, fD, fS, fA, fB, fO, fP, fL, fM, tS, tG) 14 v2 v3) (nI ms, nI lim, nI dl, nI nc, nI sp, nI n, xlr, xls, xle, xst, xnw, xtc, xtu, xtn, xcu, xtd, xtt, xsr, xno, xsk, xrt, xsj, xtx, xtl, xcr, eN, eC, eD, eT, eH, eR, tE, tN) 14 v2 v3 := by
  obtain ⟨o1, o2, o3, o4, o5, o6, o7, o8, o9, o10⟩ := ok
  have c32 := o7.1
  by_cases u : sp < 1
  · have su : ¬ (1 : Int32) ≤ nI sp := nI_ge (b := 1) u (by omega)
    exact br_f (by decide) (br_t (by decide) (br_f (by decide) (br_f (by decide) (br_f (by decide) (br_f (by decide) (br_f (by decide) (br_f (by decide) (br_f (by decide) (br_f (by decide) (br_f (by decide) (br_f (by decide) (br_f (by decide) (br_f (by decide) (br_f (by decide) (br_f (by decide) (br_f (by decide) (br_t rfl (br_t rfl (br_f (by decide) (br_t (by decide) (br_f (by decide) (br_f su (br_f (by decide) (br_t (by decide) (br_f (by decide) (br_f (by decide) (br_f (by decide) (br_f (by decide) (br_f (by decide) (br_f (by decide) (br_f (by decide) (br_f (by decide) (br_f (by decide) (br_f (by decide) (br_t rfl (br_t rfl (br_t rfl (br_f (by decide) (br_f (by decide) (br_f (by decide) (br_f (by decide) (br_f (by decide) (br_f (by decide) (br_f su (⟨rfl, J⟩)))))))))))))))))))))))))))))))))))))))))))))
  have sx : (1 : Int32) ≤ nI sp := nI_le (a := 1) (by omega) (by omega)
  have sy : (1 : Int32) ≤ nI sp := sx
  by_cases p : nc < 32
  rotate_left
  · have pl : ¬ nI nc < 32 := nI_nlt (b := 32) (by omega) (by omega)
    exact br_f (by decide) (br_t (by decide) (br_f (by decide) (br_f (by decide) (br_f (by decide) (br_f (by decide) (br_f (by decide) (br_f (by decide) (br_f (by decide) (br_f (by decide) (br_f (by decide) (br_f (by decide) (br_f (by decide) (br_f (by decide) (br_f (by decide) (br_f (by decide) (br_f (by decide) (br_t rfl (br_t rfl (br_f (by decide) (br_t (by decide) (br_f (by decide) (br_t sx (br_f pl (br_f (by decide) (br_t (by decide) (br_f (by decide) (br_f (by decide) (br_f (by decide) (br_f (by decide) (br_f (by decide) (br_f (by decide) (br_f (by decide) (br_f (by decide) (br_f (by decide) (br_f (by decide) (br_t rfl (br_t rfl (br_t rfl (br_f (by decide) (br_f (by decide) (br_f (by decide) (br_f (by decide) (br_f (by decide) (br_f (by decide) (br_t sy (br_t rfl (br_f pl (⟨rfl, J⟩))))))))))))))))))))))))))))))))))))))))))))))))
  have pl : nI nc < 32 := sm_lt 32 p (by omega)
  have n32 : nc < 32 := p
  have vn : vp_in (nI nc) 32 := vp_in_nI p (by omega)
  obtain ⟨s, hs⟩ : ∃ s, sp = s + 1 := ⟨sp - 1, by omega⟩
  subst hs
  have vs : vp_in (nI s) 16 := vp_in_nI (by omega) (by omega)
  obtain ⟨l, hl, el⟩ := o8 s (by omega)
  have es : xsk (nI s).toNatClampNeg = nI l := sm_cg (by omega) el
  have vy1 : vp_in (nI (s + 1) - 1) 16 := by rw [nI_pred]; exact vs
  have ey1 : upd (upd nL nc (-1)) (nI nc).toNatClampNeg (xsk (nI (s + 1) - 1).toNatClampNeg) = upd (upd nL nc (-1)) nc (nI l) := by rw [nI_pred, es, sm_up (by omega)]
  have fin : i_Rel (kk + 4) (nI ms, nI lim, nI dl, nI (nc + 1), nI (s + 1), nI n, xlr, xls, xle, xst, xnw, xtc, xtu, xtn, xcu, xtd, xtt, xsr, sm_five xno nc 14 0 0 (nI l) (-1), upd xsk s (nI nc), xrt, xsj, xtx, xtl, xcr, eN, eC, eD, eT, eH, eR, tE, tN)
      (nI ms, nI lim, nI dl, nI (nc + 1), nI (s + 1), nI n, xlr, xls, xle, yfc, yst, ycf, yev, yfr, ydo, upd nK nc 14, upd nA nc 0, upd nB nc 0, upd (upd nL nc (-1)) nc (nI l), upd nR nc (-1), upd xsk s (nI nc), xrt, xsj, xtx, xtl, xcr, fN, fC, fD, fS, fA, fB, fO, fP, fL, fM, tS, tG) :=
    sm_mk (nc := nc + 1) (sp := s + 1) ⟨o1, o2, o3, o4, by omega, o6, sm_cxn (kk := 14) o7 p (by decide) (by decide) (fun i hi => pk_un (by omega)) (fun i hi => pk_un (by omega)) (fun i hi => pk_un (by omega)) (fun i hi => by rw [pk_un (by omega), pk_un (by omega)]) (fun i hi => pk_un (by omega)) pk_us pk_us pk_us pk_us pk_us (fun a b => absurd b (by decide)) (fun a => absurd a (by decide)) (fun a => absurd a (by decide)) (fun _ => ⟨l, hl, rfl⟩) (fun a => absurd a (by decide)), sm_stk o8 (by omega), o9, o10⟩
  exact br_f (by decide) (br_t (by decide) (br_f (by decide) (br_f (by decide) (br_f (by decide) (br_f (by decide) (br_f (by decide) (br_f (by decide) (br_f (by decide) (br_f (by decide) (br_f (by decide) (br_f (by decide) (br_f (by decide) (br_f (by decide) (br_f (by decide) (br_f (by decide) (br_f (by decide) (br_t rfl (br_t rfl (br_f (by decide) (br_t (by decide) (br_f (by decide) (br_t sx (br_t pl (br_f (by decide) (br_f (by decide) (br_f (by decide) (nm_r (nI_pred s) ⟨vs, nm_e ⟨sm_in5 0 n32 (by omega), nm_r (sm_u5 0 rfl) (br_f (by decide) (br_f (by decide) (br_f (by decide) (br_f (by decide) (br_f (by decide) (br_f (by decide) (br_f (by decide) (br_f (by decide) (br_f (by decide) (br_f (by decide) (br_f (by decide) (br_f (by decide) (br_f (by decide) (br_f (by decide) (br_f (by decide) (br_t rfl (br_t rfl ⟨sm_in5 1 n32 (by omega), nm_r (sm_u5 1 rfl) (br_f (by decide) (br_f (by decide) (br_f (by decide) (br_t rfl ⟨sm_in5 2 n32 (by omega), nm_r (sm_u5 2 rfl) ⟨sm_in5 3 n32 (by omega), nm_r (sm_u5 3 es) ⟨sm_in5 4 n32 (by omega), nm_r (sm_u5 4 rfl) (nm_r (nI_1 nc) ⟨vs, nm_r (sm_up (by omega)) (nm_r (nI_1 s) (br_f (by decide) (br_t (by decide) (br_f (by decide) (br_f (by decide) (br_f (by decide) (br_f (by decide) (br_f (by decide) (br_f (by decide) (br_f (by decide) (br_f (by decide) (br_f (by decide) (br_f (by decide) (br_t rfl (br_t rfl (br_t rfl (br_f (by decide) (br_f (by decide) (br_f (by decide) (br_f (by decide) (br_f (by decide) (br_f (by decide) (br_t sy (br_t rfl (br_t pl (br_f (by decide) (br_f (by decide) (br_t rfl (br_t rfl (br_t rfl (br_f (by decide) (⟨vn, nm_r (sm_up (by omega)) (br_t rfl (⟨vn, nm_r (sm_up (by omega)) (br_t rfl (⟨vn, nm_r (sm_up (by omega)) ⟨vn, nm_r (sm_up (by omega)) ⟨vn, nm_r (sm_up (by omega)) (br_f (by decide) ⟨vy1, vn, nm_r ey1 (nm_r (nI_pred s) (br_t rfl (⟨vs, nm_r (sm_up (by omega)) (nm_r (nI_1 s) (nm_r (nI_1 nc) (⟨rfl, fin⟩)))⟩)))⟩)⟩⟩⟩))⟩))⟩))))))))))))))))))))))))))))))))⟩)⟩⟩⟩))))⟩)))))))))))))))))⟩⟩)))))))))))))))))))))))))))
theorem sm_push15 {kk : Nat} (J : i_Rel (kk + 4) (nI ms, nI lim, nI dl, nI nc, nI sp, nI n, xlr, xls, xle, xst, xnw, xtc, xtu, xtn, xcu, xtd, xtt, xsr, xno, xsk, xrt, xsj, xtx, xtl, xcr, eN, eC, eD, eT, eH, eR, tE, tN) (nI ms, nI lim, nI dl, nI nc, nI sp, nI n, xlr, xls, xle, yfc, yst, ycf, yev, yfr, ydo, nK, nA, nB, nL, nR, xsk, xrt, xsj, xtx, xtl, xcr, fN, fC, fD, fS, fA, fB, fO, fP, fL, fM, tS, tG)) (ok : sm_ok ms lim dl nc sp n kn xno xsk xrt xsj xtx xtl nK nA nB nL nR) (v2 v3 : Int32) :
    wpX_push (fun r u' => wpY_push (fun r' v' => r' = r ∧ i_Rel (kk + 4) u' v') (nI ms, nI lim, nI dl, nI nc, nI sp, nI n, xlr, xls, xle, yfc, yst, ycf, yev, yfr, ydo, nK, nA, nB, nL, nR, xsk, xrt, xsj, xtx, xtl, xcr, fN, fC, fD, fS, fA, fB, fO, fP, fL, fM, tS, tG) 15 v2 v3) (nI ms, nI lim, nI dl, nI nc, nI sp, nI n, xlr, xls, xle, xst, xnw, xtc, xtu, xtn, xcu, xtd, xtt, xsr, xno, xsk, xrt, xsj, xtx, xtl, xcr, eN, eC, eD, eT, eH, eR, tE, tN) 15 v2 v3 := by
  obtain ⟨o1, o2, o3, o4, o5, o6, o7, o8, o9, o10⟩ := ok
  have c32 := o7.1
  by_cases c0 : v2 < 0
  · exact br_f (by decide) (br_t (by decide) (br_f (by decide) (br_f (by decide) (br_f (by decide) (br_f (by decide) (br_f (by decide) (br_f (by decide) (br_f (by decide) (br_f (by decide) (br_f (by decide) (br_f (by decide) (br_f (by decide) (br_f (by decide) (br_f (by decide) (br_f (by decide) (br_f (by decide) (br_f (by decide) (br_t rfl (br_f (by decide) (br_t c0 (br_t rfl (br_f (by decide) (br_t (by decide) (br_f (by decide) (br_f (by decide) (br_f (by decide) (br_f (by decide) (br_f (by decide) (br_f (by decide) (br_f (by decide) (br_t rfl (br_f (by decide) (br_t rfl (br_t rfl (br_f (by decide) (br_t c0 (⟨rfl, J⟩)))))))))))))))))))))))))))))))))))))
  by_cases c1 : v2 ≤ 7
  rotate_left
  · exact br_f (by decide) (br_t (by decide) (br_f (by decide) (br_f (by decide) (br_f (by decide) (br_f (by decide) (br_f (by decide) (br_f (by decide) (br_f (by decide) (br_f (by decide) (br_f (by decide) (br_f (by decide) (br_f (by decide) (br_f (by decide) (br_f (by decide) (br_f (by decide) (br_f (by decide) (br_f (by decide) (br_t rfl (br_f (by decide) (br_f c0 (br_f c1 (br_t rfl (br_f (by decide) (br_t (by decide) (br_f (by decide) (br_f (by decide) (br_f (by decide) (br_f (by decide) (br_f (by decide) (br_f (by decide) (br_f (by decide) (br_t rfl (br_f (by decide) (br_t rfl (br_t rfl (br_f (by decide) (br_f c0 (br_f c1 (⟨rfl, J⟩)))))))))))))))))))))))))))))))))))))))
  by_cases u : sp < 1
  · have su : ¬ (1 : Int32) ≤ nI sp := nI_ge (b := 1) u (by omega)
    exact br_f (by decide) (br_t (by decide) (br_f (by decide) (br_f (by decide) (br_f (by decide) (br_f (by decide) (br_f (by decide) (br_f (by decide) (br_f (by decide) (br_f (by decide) (br_f (by decide) (br_f (by decide) (br_f (by decide) (br_f (by decide) (br_f (by decide) (br_f (by decide) (br_f (by decide) (br_f (by decide) (br_t rfl (br_f (by decide) (br_f c0 (br_t c1 (br_f (by decide) (br_f (by decide) (br_f (by decide) (br_t rfl (br_f (by decide) (br_t (by decide) (br_f (by decide) (br_f su (br_f (by decide) (br_t (by decide) (br_f (by decide) (br_f (by decide) (br_f (by decide) (br_f (by decide) (br_f (by decide) (br_f (by decide) (br_f (by decide) (br_t rfl (br_f (by decide) (br_t rfl (br_t rfl (br_f (by decide) (br_f c0 (br_t c1 (br_f (by decide) (br_f (by decide) (br_f (by decide) (br_f (by decide) (br_f (by decide) (br_f (by decide) (br_f su (⟨rfl, J⟩)))))))))))))))))))))))))))))))))))))))))))))))))))))
  have sx : (1 : Int32) ≤ nI sp := nI_le (a := 1) (by omega) (by omega)
  have sy : (1 : Int32) ≤ nI sp := sx
  by_cases p : nc < 32
  rotate_left
  · have pl : ¬ nI nc < 32 := nI_nlt (b := 32) (by omega) (by omega)
    exact br_f (by decide) (br_t (by decide) (br_f (by decide) (br_f (by decide) (br_f (by decide) (br_f (by decide) (br_f (by decide) (br_f (by decide) (br_f (by decide) (br_f (by decide) (br_f (by decide) (br_f (by decide) (br_f (by decide) (br_f (by decide) (br_f (by decide) (br_f (by decide) (br_f (by decide) (br_f (by decide) (br_t rfl (br_f (by decide) (br_f c0 (br_t c1 (br_f (by decide) (br_f (by decide) (br_f (by decide) (br_t rfl (br_f (by decide) (br_t (by decide) (br_f (by decide) (br_t sx (br_f pl (br_f (by decide) (br_t (by decide) (br_f (by decide) (br_f (by decide) (br_f (by decide) (br_f (by decide) (br_f (by decide) (br_f (by decide) (br_f (by decide) (br_t rfl (br_f (by decide) (br_t rfl (br_t rfl (br_f (by decide) (br_f c0 (br_t c1 (br_f (by decide) (br_f (by decide) (br_f (by decide) (br_f (by decide) (br_f (by decide) (br_f (by decide) (br_t sy (br_t rfl (br_f pl (⟨rfl, J⟩))))))))))))))))))))))))))))))))))))))))))))))))))))))))
  have pl : nI nc < 32 := sm_lt 32 p (by omega)
  have n32 : nc < 32 := p
  have vn : vp_in (nI nc) 32 := vp_in_nI p (by omega)
  obtain ⟨s, hs⟩ : ∃ s, sp = s + 1 := ⟨sp - 1, by omega⟩
  subst hs
  have vs : vp_in (nI s) 16 := vp_in_nI (by omega) (by omega)
  obtain ⟨l, hl, el⟩ := o8 s (by omega)
  have es : xsk (nI s).toNatClampNeg = nI l := sm_cg (by omega) el
  have vy1 : vp_in (nI (s + 1) - 1) 16 := by rw [nI_pred]; exact vs
  have ey1 : upd (upd nL nc (-1)) (nI nc).toNatClampNeg (xsk (nI (s + 1) - 1).toNatClampNeg) = upd (upd nL nc (-1)) nc (nI l) := by rw [nI_pred, es, sm_up (by omega)]
  have fin : i_Rel (kk + 4) (nI ms, nI lim, nI dl, nI (nc + 1), nI (s + 1), nI n, xlr, xls, xle, xst, xnw, xtc, xtu, xtn, xcu, xtd, xtt, xsr, sm_five xno nc 15 v2 0 (nI l) (-1), upd xsk s (nI nc), xrt, xsj, xtx, xtl, xcr, eN, eC, eD, eT, eH, eR, tE, tN)
      (nI ms, nI lim, nI dl, nI (nc + 1), nI (s + 1), nI n, xlr, xls, xle, yfc, yst, ycf, yev, yfr, ydo, upd nK nc 15, upd nA nc v2, upd nB nc 0, upd (upd nL nc (-1)) nc (nI l), upd nR nc (-1), upd xsk s (nI nc), xrt, xsj, xtx, xtl, xcr, fN, fC, fD, fS, fA, fB, fO, fP, fL, fM, tS, tG) :=
    sm_mk (nc := nc + 1) (sp := s + 1) ⟨o1, o2, o3, o4, by omega, o6, sm_cxn (kk := 15) o7 p (by decide) (by decide) (fun i hi => pk_un (by omega)) (fun i hi => pk_un (by omega)) (fun i hi => pk_un (by omega)) (fun i hi => by rw [pk_un (by omega), pk_un (by omega)]) (fun i hi => pk_un (by omega)) pk_us pk_us pk_us pk_us pk_us (fun a b => absurd b (by decide)) (fun _ => nI_of2 (M := 7) (n := 7) (by decide) c0 c1) (fun a => absurd a (by decide)) (fun _ => ⟨l, hl, rfl⟩) (fun a => absurd a (by decide)), sm_stk o8 (by omega), o9, o10⟩
  exact br_f (by decide) (br_t (by decide) (br_f (by decide) (br_f (by decide) (br_f (by decide) (br_f (by decide) (br_f (by decide) (br_f (by decide) (br_f (by decide) (br_f (by decide) (br_f (by decide) (br_f (by decide) (br_f (by decide) (br_f (by decide) (br_f (by decide) (br_f (by decide) (br_f (by decide) (br_f (by decide) (br_t rfl (br_f (by decide) (br_f c0 (br_t c1 (br_f (by decide) (br_f (by decide) (br_f (by decide) (br_t rfl (br_f (by decide) (br_t (by decide) (br_f (by decide) (br_t sx (br_t pl (br_f (by decide) (br_f (by decide) (br_f (by decide) (nm_r (nI_pred s) ⟨vs, nm_e ⟨sm_in5 0 n32 (by omega), nm_r (sm_u5 0 rfl) (br_f (by decide) (br_f (by decide) (br_f (by decide) (br_f (by decide) (br_f (by decide) (br_f (by decide) (br_f (by decide) (br_f (by decide) (br_f (by decide) (br_f (by decide) (br_f (by decide) (br_f (by decide) (br_f (by decide) (br_f (by decide) (br_f (by decide) (br_f (by decide) (br_t rfl (br_f (by decide) ⟨sm_in5 1 n32 (by omega), nm_r (sm_u5 1 rfl) (br_f (by decide) (br_f (by decide) (br_f (by decide) (br_t rfl ⟨sm_in5 2 n32 (by omega), nm_r (sm_u5 2 rfl) ⟨sm_in5 3 n32 (by omega), nm_r (sm_u5 3 es) ⟨sm_in5 4 n32 (by omega), nm_r (sm_u5 4 rfl) (nm_r (nI_1 nc) ⟨vs, nm_r (sm_up (by omega)) (nm_r (nI_1 s) (br_f (by decide) (br_t (by decide) (br_f (by decide) (br_f (by decide) (br_f (by decide) (br_f (by decide) (br_f (by decide) (br_f (by decide) (br_f (by decide) (br_t rfl (br_f (by decide) (br_t rfl (br_t rfl (br_f (by decide) (br_f c0 (br_t c1 (br_f (by decide) (br_f (by decide) (br_f (by decide) (br_f (by decide) (br_f (by decide) (br_f (by decide) (br_t sy (br_t rfl (br_t pl (br_f (by decide) (br_f (by decide) (br_t rfl (br_t rfl (br_f (by decide) (⟨vn, nm_r (sm_up (by omega)) (br_f (by decide) (⟨vn, nm_r (sm_up (by omega)) (br_t rfl (⟨vn, nm_r (sm_up (by omega)) ⟨vn, nm_r (sm_up (by omega)) ⟨vn, nm_r (sm_up (by omega)) (br_f (by decide) ⟨vy1, vn, nm_r ey1 (nm_r (nI_pred s) (br_t rfl (⟨vs, nm_r (sm_up (by omega)) (nm_r (nI_1 s) (nm_r (nI_1 nc) (⟨rfl, fin⟩)))⟩)))⟩)⟩⟩⟩))⟩))⟩))))))))))))))))))))))))))))))))⟩)⟩⟩⟩))))⟩))))))))))))))))))⟩⟩))))))))))))))))))))))))))))))))))
theorem sm_push16 {kk : Nat} (J : i_Rel (kk + 4) (nI ms, nI lim, nI dl, nI nc, nI sp, nI n, xlr, xls, xle, xst, xnw, xtc, xtu, xtn, xcu, xtd, xtt, xsr, xno, xsk, xrt, xsj, xtx, xtl, xcr, eN, eC, eD, eT, eH, eR, tE, tN) (nI ms, nI lim, nI dl, nI nc, nI sp, nI n, xlr, xls, xle, yfc, yst, ycf, yev, yfr, ydo, nK, nA, nB, nL, nR, xsk, xrt, xsj, xtx, xtl, xcr, fN, fC, fD, fS, fA, fB, fO, fP, fL, fM, tS, tG)) (ok : sm_ok ms lim dl nc sp n kn xno xsk xrt xsj xtx xtl nK nA nB nL nR) (v2 v3 : Int32) :
    wpX_push (fun r u' => wpY_push (fun r' v' => r' = r ∧ i_Rel (kk + 4) u' v') (nI ms, nI lim, nI dl, nI nc, nI sp, nI n, xlr, xls, xle, yfc, yst, ycf, yev, yfr, ydo, nK, nA, nB, nL, nR, xsk, xrt, xsj, xtx, xtl, xcr, fN, fC, fD, fS, fA, fB, fO, fP, fL, fM, tS, tG) 16 v2 v3) (nI ms, nI lim, nI dl, nI nc, nI sp, nI n, xlr, xls, xle, xst, xnw, xtc, xtu, xtn, xcu, xtd, xtt, xsr, xno, xsk, xrt, xsj, xtx, xtl, xcr, eN, eC, eD, eT, eH, eR, tE, tN) 16 v2 v3 := by
  obtain ⟨o1, o2, o3, o4, o5, o6, o7, o8, o9, o10⟩ := ok
  have c32 := o7.1
  by_cases c0 : v2 < 0
  · exact br_f (by decide) (br_t (by decide) (br_f (by decide) (br_f (by decide) (br_f (by decide) (br_f (by decide) (br_f (by decide) (br_f (by decide) (br_f (by decide) (br_f (by decide) (br_f (by decide) (br_f (by decide) (br_f (by decide) (br_f (by decide) (br_f (by decide) (br_f (by decide) (br_f (by decide) (br_f (by decide) (br_f (by decide) (br_t rfl (br_f (by decide) (br_t c0 (br_t rfl (br_f (by decide) (br_t (by decide) (br_f (by decide) (br_f (by decide) (br_f (by decide) (br_f (by decide) (br_f (by decide) (br_f (by decide) (br_f (by decide) (br_f (by decide) (br_t rfl (br_f (by decide) (br_t rfl (br_t rfl (br_f (by decide) (br_t c0 (⟨rfl, J⟩)))))))))))))))))))))))))))))))))))))))
  by_cases c1 : v2 ≤ 7
  rotate_left
  · exact br_f (by decide) (br_t (by decide) (br_f (by decide) (br_f (by decide) (br_f (by decide) (br_f (by decide) (br_f (by decide) (br_f (by decide) (br_f (by decide) (br_f (by decide) (br_f (by decide) (br_f (by decide) (br_f (by decide) (br_f (by decide) (br_f (by decide) (br_f (by decide) (br_f (by decide) (br_f (by decide) (br_f (by decide) (br_t rfl (br_f (by decide) (br_f c0 (br_f c1 (br_t rfl (br_f (by decide) (br_t (by decide) (br_f (by decide) (br_f (by decide) (br_f (by decide) (br_f (by decide) (br_f (by decide) (br_f (by decide) (br_f (by decide) (br_f (by decide) (br_t rfl (br_f (by decide) (br_t rfl (br_t rfl (br_f (by decide) (br_f c0 (br_f c1 (⟨rfl, J⟩)))))))))))))))))))))))))))))))))))))))))
  by_cases u : sp < 1
  · have su : ¬ (1 : Int32) ≤ nI sp := nI_ge (b := 1) u (by omega)
    exact br_f (by decide) (br_t (by decide) (br_f (by decide) (br_f (by decide) (br_f (by decide) (br_f (by decide) (br_f (by decide) (br_f (by decide) (br_f (by decide) (br_f (by decide) (br_f (by decide) (br_f (by decide) (br_f (by decide) (br_f (by decide) (br_f (by decide) (br_f (by decide) (br_f (by decide) (br_f (by decide) (br_f (by decide) (br_t rfl (br_f (by decide) (br_f c0 (br_t c1 (br_f (by decide) (br_f (by decide) (br_f (by decide) (br_t rfl (br_f (by decide) (br_t (by decide) (br_f (by decide) (br_f su (br_f (by decide) (br_t (by decide) (br_f (by decide) (br_f (by decide) (br_f (by decide) (br_f (by decide) (br_f (by decide) (br_f (by decide) (br_f (by decide) (br_f (by decide) (br_t rfl (br_f (by decide) (br_t rfl (br_t rfl (br_f (by decide) (br_f c0 (br_t c1 (br_f (by decide) (br_f (by decide) (br_f (by decide) (br_f (by decide) (br_f (by decide) (br_f (by decide) (br_f su (⟨rfl, J⟩)))))))))))))))))))))))))))))))))))))))))))))))))))))))
  have sx : (1 : Int32) ≤ nI sp := nI_le (a := 1) (by omega) (by omega)
  have sy : (1 : Int32) ≤ nI sp := sx
  by_cases p : nc < 32
  rotate_left
  · have pl : ¬ nI nc < 32 := nI_nlt (b := 32) (by omega) (by omega)
    exact br_f (by decide) (br_t (by decide) (br_f (by decide) (br_f (by decide) (br_f (by decide) (br_f (by decide) (br_f (by decide) (br_f (by decide) (br_f (by decide) (br_f (by decide) (br_f (by decide) (br_f (by decide) (br_f (by decide) (br_f (by decide) (br_f (by decide) (br_f (by decide) (br_f (by decide) (br_f (by decide) (br_f (by decide) (br_t rfl (br_f (by decide) (br_f c0 (br_t c1 (br_f (by decide) (br_f (by decide) (br_f (by decide) (br_t rfl (br_f (by decide) (br_t (by decide) (br_f (by decide) (br_t sx (br_f pl (br_f (by decide) (br_t (by decide) (br_f (by decide) (br_f (by decide) (br_f (by decide) (br_f (by decide) (br_f (by decide) (br_f (by decide) (br_f (by decide) (br_f (by decide) (br_t rfl (br_f (by decide) (br_t rfl (br_t rfl (br_f (by decide) (br_f c0 (br_t c1 (br_f (by decide) (br_f (by decide) (br_f (by decide) (br_f (by decide) (br_f (by decide) (br_f (by decide) (br_t sy (br_t rfl (br_f pl (⟨rfl, J⟩))))))))))))))))))))))))))))))))))))))))))))))))))))))))))
  have pl : nI nc < 32 := sm_lt 32 p (by omega)
  have n32 : nc < 32 := p
  have vn : vp_in (nI nc) 32 := vp_in_nI p (by omega)
  obtain ⟨s, hs⟩ : ∃ s, sp = s + 1 := ⟨sp - 1, by omega⟩
  subst hs
  have vs : vp_in (nI s) 16 := vp_in_nI (by omega) (by omega)
  obtain ⟨l, hl, el⟩ := o8 s (by omega)
  have es : xsk (nI s).toNatClampNeg = nI l := sm_cg (by omega) el
  have vy1 : vp_in (nI (s + 1) - 1) 16 := by rw [nI_pred]; exact vs
  have ey1 : upd (upd nL nc (-1)) (nI nc).toNatClampNeg (xsk (nI (s + 1) - 1).toNatClampNeg) = upd (upd nL nc (-1)) nc (nI l) := by rw [nI_pred, es, sm_up (by omega)]
  have fin : i_Rel (kk + 4) (nI ms, nI lim, nI dl, nI (nc + 1), nI (s + 1), nI n, xlr, xls, xle, xst, xnw, xtc, xtu, xtn, xcu, xtd, xtt, xsr, sm_five xno nc 16 v2 0 (nI l) (-1), upd xsk s (nI nc), xrt, xsj, xtx, xtl, xcr, eN, eC, eD, eT, eH, eR, tE, tN)
      (nI ms, nI lim, nI dl, nI (nc + 1), nI (s + 1), nI n, xlr, xls, xle, yfc, yst, ycf, yev, yfr, ydo, upd nK nc 16, upd nA nc v2, upd nB nc 0, upd (upd nL nc (-1)) nc (nI l), upd nR nc (-1), upd xsk s (nI nc), xrt, xsj, xtx, xtl, xcr, fN, fC, fD, fS, fA, fB, fO, fP, fL, fM, tS, tG) :=
    sm_mk (nc := nc + 1) (sp := s + 1) ⟨o1, o2, o3, o4, by omega, o6, sm_cxn (kk := 16) o7 p (by decide) (by decide) (fun i hi => pk_un (by omega)) (fun i hi => pk_un (by omega)) (fun i hi => pk_un (by omega)) (fun i hi => by rw [pk_un (by omega), pk_un (by omega)]) (fun i hi => pk_un (by omega)) pk_us pk_us pk_us pk_us pk_us (fun a b => absurd b (by decide)) (fun _ => nI_of2 (M := 7) (n := 7) (by decide) c0 c1) (fun a => absurd a (by decide)) (fun _ => ⟨l, hl, rfl⟩) (fun a => absurd a (by decide)), sm_stk o8 (by omega), o9, o10⟩
  exact br_f (by decide) (br_t (by decide) (br_f (by decide) (br_f (by decide) (br_f (by decide) (br_f (by decide) (br_f (by decide) (br_f (by decide) (br_f (by decide) (br_f (by decide) (br_f (by decide) (br_f (by decide) (br_f (by decide) (br_f (by decide) (br_f (by decide) (br_f (by decide) (br_f (by decide) (br_f (by decide) (br_f (by decide) (br_t rfl (br_f (by decide) (br_f c0 (br_t c1 (br_f (by decide) (br_f (by decide) (br_f (by decide) (br_t rfl (br_f (by decide) (br_t (by decide) (br_f (by decide) (br_t sx (br_t pl (br_f (by decide) (br_f (by decide) (br_f (by decide) (nm_r (nI_pred s) ⟨vs, nm_e ⟨sm_in5 0 n32 (by omega), nm_r (sm_u5 0 rfl) (br_f (by decide) (br_f (by decide) (br_f (by decide) (br_f (by decide) (br_f (by decide) (br_f (by decide) (br_f (by decide) (br_f (by decide) (br_f (by decide) (br_f (by decide) (br_f (by decide) (br_f (by decide) (br_f (by decide) (br_f (by decide) (br_f (by decide) (br_f (by decide) (br_f (by decide) (br_t rfl (br_f (by decide) ⟨sm_in5 1 n32 (by omega), nm_r (sm_u5 1 rfl) (br_f (by decide) (br_f (by decide) (br_f (by decide) (br_t rfl ⟨sm_in5 2 n32 (by omega), nm_r (sm_u5 2 rfl) ⟨sm_in5 3 n32 (by omega), nm_r (sm_u5 3 es) ⟨sm_in5 4 n32 (by omega), nm_r (sm_u5 4 rfl) (nm_r (nI_1 nc) ⟨vs, nm_r (sm_up (by omega)) (nm_r (nI_1 s) (br_f (by decide) (br_t (by decide) (br_f (by decide) (br_f (by decide) (br_f (by decide) (br_f (by decide) (br_f (by decide) (br_f (by decide) (br_f (by decide) (br_f (by decide) (br_t rfl (br_f (by decide) (br_t rfl (br_t rfl (br_f (by decide) (br_f c0 (br_t c1 (br_f (by decide) (br_f (by decide) (br_f (by decide) (br_f (by decide) (br_f (by decide) (br_f (by decide) (br_t sy (br_t rfl (br_t pl (br_f (by decide) (br_f (by decide) (br_t rfl (br_t rfl (br_f (by decide) (⟨vn, nm_r (sm_up (by omega)) (br_f (by decide) (⟨vn, nm_r (sm_up (by omega)) (br_t rfl (⟨vn, nm_r (sm_up (by omega)) ⟨vn, nm_r (sm_up (by omega)) ⟨vn, nm_r (sm_up (by omega)) (br_f (by decide) ⟨vy1, vn, nm_r ey1 (nm_r (nI_pred s) (br_t rfl (⟨vs, nm_r (sm_up (by omega)) (nm_r (nI_1 s) (nm_r (nI_1 nc) (⟨rfl, fin⟩)))⟩)))⟩)⟩⟩⟩))⟩))⟩)))))))))))))))))))))))))))))))))⟩)⟩⟩⟩))))⟩)))))))))))))))))))⟩⟩)))))))))))))))))))))))))))))))))))
theorem sm_push17 {kk : Nat} (J : i_Rel (kk + 4) (nI ms, nI lim, nI dl, nI nc, nI sp, nI n, xlr, xls, xle, xst, xnw, xtc, xtu, xtn, xcu, xtd, xtt, xsr, xno, xsk, xrt, xsj, xtx, xtl, xcr, eN, eC, eD, eT, eH, eR, tE, tN) (nI ms, nI lim, nI dl, nI nc, nI sp, nI n, xlr, xls, xle, yfc, yst, ycf, yev, yfr, ydo, nK, nA, nB, nL, nR, xsk, xrt, xsj, xtx, xtl, xcr, fN, fC, fD, fS, fA, fB, fO, fP, fL, fM, tS, tG)) (ok : sm_ok ms lim dl nc sp n kn xno xsk xrt xsj xtx xtl nK nA nB nL nR) (v2 v3 : Int32) :
    wpX_push (fun r u' => wpY_push (fun r' v' => r' = r ∧ i_Rel (kk + 4) u' v') (nI ms, nI lim, nI dl, nI nc, nI sp, nI n, xlr, xls, xle, yfc, yst, ycf, yev, yfr, ydo, nK, nA, nB, nL, nR, xsk, xrt, xsj, xtx, xtl, xcr, fN, fC, fD, fS, fA, fB, fO, fP, fL, fM, tS, tG) 17 v2 v3) (nI ms, nI lim, nI dl, nI nc, nI sp, nI n, xlr, xls, xle, xst, xnw, xtc, xtu, xtn, xcu, xtd, xtt, xsr, xno, xsk, xrt, xsj, xtx, xtl, xcr, eN, eC, eD, eT, eH, eR, tE, tN) 17 v2 v3 := by
  obtain ⟨o1, o2, o3, o4, o5, o6, o7, o8, o9, o10⟩ := ok
  have c32 := o7.1
  by_cases u : sp < 2
  · have su : ¬ (2 : Int32) ≤ nI sp := nI_ge (b := 2) u (by omega)
    exact br_f (by decide) (br_t (by decide) (br_f (by decide) (br_t (by decide) (br_t rfl (br_f (by decide) (br_t (by decide) (br_t (by decide) (br_f su (br_f (by decide) (br_t (by decide) (br_f (by decide) (br_f (by decide) (br_f (by decide) (br_f (by decide) (br_f (by decide) (br_f (by decide) (br_f (by decide) (br_f (by decide) (br_f (by decide) (br_f (by decide) (br_t rfl (br_t rfl (br_t rfl (br_f (by decide) (br_f (by decide) (br_t (by decide) (br_t rfl (br_t rfl (br_f (by decide) (br_f su (⟨rfl, J⟩)))))))))))))))))))))))))))))))
  have sx : (2 : Int32) ≤ nI sp := nI_le (a := 2) (by omega) (by omega)
  have sy : (2 : Int32) ≤ nI sp := sx
  by_cases p : nc < 32
  rotate_left
  · have pl : ¬ nI nc < 32 := nI_nlt (b := 32) (by omega) (by omega)
    exact br_f (by decide) (br_t (by decide) (br_f (by decide) (br_t (by decide) (br_t rfl (br_f (by decide) (br_t (by decide) (br_t (by decide) (br_t sx (br_f pl (br_f (by decide) (br_t (by decide) (br_f (by decide) (br_f (by decide) (br_f (by decide) (br_f (by decide) (br_f (by decide) (br_f (by decide) (br_f (by decide) (br_f (by decide) (br_f (by decide) (br_f (by decide) (br_t rfl (br_t rfl (br_t rfl (br_f (by decide) (br_f (by decide) (br_t (by decide) (br_t rfl (br_t rfl (br_f (by decide) (br_t sy (br_f pl (⟨rfl, J⟩)))))))))))))))))))))))))))))))))
  have pl : nI nc < 32 := sm_lt 32 p (by omega)
  have n32 : nc < 32 := p
  have vn : vp_in (nI nc) 32 := vp_in_nI p (by omega)
  obtain ⟨s, hs⟩ : ∃ s, sp = s + 1 + 1 := ⟨sp - 2, by omega⟩
  subst hs
  have vs : vp_in (nI s) 16 := vp_in_nI (by omega) (by omega)
  have vs1 : vp_in (nI (s + 1)) 16 := vp_in_nI (by omega) (by omega)
  obtain ⟨l, hl, el⟩ := o8 s (by omega)
  obtain ⟨r, hr, er⟩ := o8 (s + 1) (by omega)
  have es : xsk (nI s).toNatClampNeg = nI l := sm_cg (by omega) el
  have es1 : xsk (nI (s + 1)).toNatClampNeg = nI r := sm_cg (by omega) er
  have vy1 : vp_in (nI (s + 1 + 1) - 1) 16 := by rw [nI_pred]; exact vs1
  have vy2 : vp_in (nI (s + 1 + 1) - 2) 16 := by rw [sm_pr2]; exact vs
  have ey1 : upd (upd nR nc (-1)) (nI nc).toNatClampNeg (xsk (nI (s + 1 + 1) - 1).toNatClampNeg) = upd (upd nR nc (-1)) nc (nI r) := by rw [nI_pred, es1, sm_up (by omega)]
  have ey2 : upd (upd nL nc (-1)) (nI nc).toNatClampNeg (xsk (nI (s + 1 + 1) - 2).toNatClampNeg) = upd (upd nL nc (-1)) nc (nI l) := by rw [sm_pr2, es, sm_up (by omega)]
  have fin : i_Rel (kk + 4) (nI ms, nI lim, nI dl, nI (nc + 1), nI (s + 1), nI n, xlr, xls, xle, xst, xnw, xtc, xtu, xtn, xcu, xtd, xtt, xsr, sm_five xno nc 17 0 0 (nI l) (nI r), upd xsk s (nI nc), xrt, xsj, xtx, xtl, xcr, eN, eC, eD, eT, eH, eR, tE, tN)
      (nI ms, nI lim, nI dl, nI (nc + 1), nI (s + 1), nI n, xlr, xls, xle, yfc, yst, ycf, yev, yfr, ydo, upd nK nc 17, upd nA nc 0, upd nB nc 0, upd (upd nL nc (-1)) nc (nI l), upd (upd nR nc (-1)) nc (nI r), upd xsk s (nI nc), xrt, xsj, xtx, xtl, xcr, fN, fC, fD, fS, fA, fB, fO, fP, fL, fM, tS, tG) :=
    sm_mk (nc := nc + 1) (sp := s + 1) ⟨o1, o2, o3, o4, by omega, o6, sm_cxn (kk := 17) o7 p (by decide) (by decide) (fun i hi => pk_un (by omega)) (fun i hi => pk_un (by omega)) (fun i hi => pk_un (by omega)) (fun i hi => by rw [pk_un (by omega), pk_un (by omega)]) (fun i hi => by rw [pk_un (by omega), pk_un (by omega)]) pk_us pk_us pk_us pk_us pk_us (fun a b => absurd b (by decide)) (fun a => absurd a (by decide)) (fun a => absurd a (by decide)) (fun _ => ⟨l, hl, rfl⟩) (fun _ => ⟨r, hr, rfl⟩), sm_stk o8 (by omega), o9, o10⟩
  exact br_f (by decide) (br_t (by decide) (br_f (by decide) (br_t (by decide) (br_t rfl (br_f (by decide) (br_t (by decide) (br_t (by decide) (br_t sx (br_t pl (br_f (by decide) (br_t rfl (nm_r (nI_pred (s + 1)) ⟨vs1, br_f (by decide) (nm_r (nI_pred s) ⟨vs, nm_e ⟨sm_in5 0 n32 (by omega), nm_r (sm_u5 0 rfl) (br_f (by decide) (br_t (by decide) (br_t rfl ⟨sm_in5 1 n32 (by omega), nm_r (sm_u5 1 rfl) (br_f (by decide) (br_f (by decide) (br_f (by decide) (br_t rfl ⟨sm_in5 2 n32 (by omega), nm_r (sm_u5 2 rfl) ⟨sm_in5 3 n32 (by omega), nm_r (sm_u5 3 es) ⟨sm_in5 4 n32 (by omega), nm_r (sm_u5 4 es1) (nm_r (nI_1 nc) ⟨vs, nm_r (sm_up (by omega)) (nm_r (nI_1 s) (br_f (by decide) (br_t (by decide) (br_f (by decide) (br_f (by decide) (br_f (by decide) (br_f (by decide) (br_f (by decide) (br_f (by decide) (br_f (by decide) (br_f (by decide) (br_f (by decide) (br_f (by decide) (br_t rfl (br_t rfl (br_t rfl (br_f (by decide) (br_f (by decide) (br_t (by decide) (br_t rfl (br_t rfl (br_f (by decide) (br_t sy (br_t pl (br_t rfl (br_f (by decide) (br_f (by decide) (br_t rfl (br_t rfl (br_t rfl (br_f (by decide) (⟨vn, nm_r (sm_up (by omega)) (br_t rfl (⟨vn, nm_r (sm_up (by omega)) (br_t rfl (⟨vn, nm_r (sm_up (by omega)) ⟨vn, nm_r (sm_up (by omega)) ⟨vn, nm_r (sm_up (by omega)) (br_t rfl (br_f (by decide) ⟨vy1, vn, nm_r ey1 ⟨vy2, vn, nm_r ey2 (nm_r (sm_pr2 s) (⟨vs, nm_r (sm_up (by omega)) (nm_r (nI_1 s) (nm_r (nI_1 nc) (⟨rfl, fin⟩)))⟩))⟩⟩))⟩⟩⟩))⟩))⟩))))))))))))))))))))))))))))))))⟩)⟩⟩⟩))))⟩)))⟩⟩)⟩))))))))))))
theorem sm_push18 {kk : Nat} (J : i_Rel (kk + 4) (nI ms, nI lim, nI dl, nI nc, nI sp, nI n, xlr, xls, xle, xst, xnw, xtc, xtu, xtn, xcu, xtd, xtt, xsr, xno, xsk, xrt, xsj, xtx, xtl, xcr, eN, eC, eD, eT, eH, eR, tE, tN) (nI ms, nI lim, nI dl, nI nc, nI sp, nI n, xlr, xls, xle, yfc, yst, ycf, yev, yfr, ydo, nK, nA, nB, nL, nR, xsk, xrt, xsj, xtx, xtl, xcr, fN, fC, fD, fS, fA, fB, fO, fP, fL, fM, tS, tG)) (ok : sm_ok ms lim dl nc sp n kn xno xsk xrt xsj xtx xtl nK nA nB nL nR) (v2 v3 : Int32) :
    wpX_push (fun r u' => wpY_push (fun r' v' => r' = r ∧ i_Rel (kk + 4) u' v') (nI ms, nI lim, nI dl, nI nc, nI sp, nI n, xlr, xls, xle, yfc, yst, ycf, yev, yfr, ydo, nK, nA, nB, nL, nR, xsk, xrt, xsj, xtx, xtl, xcr, fN, fC, fD, fS, fA, fB, fO, fP, fL, fM, tS, tG) 18 v2 v3) (nI ms, nI lim, nI dl, nI nc, nI sp, nI n, xlr, xls, xle, xst, xnw, xtc, xtu, xtn, xcu, xtd, xtt, xsr, xno, xsk, xrt, xsj, xtx, xtl, xcr, eN, eC, eD, eT, eH, eR, tE, tN) 18 v2 v3 := by
  obtain ⟨o1, o2, o3, o4, o5, o6, o7, o8, o9, o10⟩ := ok
  have c32 := o7.1
  by_cases u : sp < 2
  · have su : ¬ (2 : Int32) ≤ nI sp := nI_ge (b := 2) u (by omega)
    exact br_f (by decide) (br_t (by decide) (br_f (by decide) (br_t (by decide) (br_t rfl (br_f (by decide) (br_t (by decide) (br_t (by decide) (br_f su (br_f (by decide) (br_t (by decide) (br_f (by decide) (br_f (by decide) (br_f (by decide) (br_f (by decide) (br_f (by decide) (br_f (by decide) (br_f (by decide) (br_f (by decide) (br_f (by decide) (br_f (by decide) (br_t rfl (br_t rfl (br_t rfl (br_f (by decide) (br_f (by decide) (br_t (by decide) (br_f (by decide) (br_t rfl (br_t rfl (br_f (by decide) (br_f su (⟨rfl, J⟩))))))))))))))))))))))))))))))))
  have sx : (2 : Int32) ≤ nI sp := nI_le (a := 2) (by omega) (by omega)
  have sy : (2 : Int32) ≤ nI sp := sx
  by_cases p : nc < 32
  rotate_left
  · have pl : ¬ nI nc < 32 := nI_nlt (b := 32) (by omega) (by omega)
    exact br_f (by decide) (br_t (by decide) (br_f (by decide) (br_t (by decide) (br_t rfl (br_f (by decide) (br_t (by decide) (br_t (by decide) (br_t sx (br_f pl (br_f (by decide) (br_t (by decide) (br_f (by decide) (br_f (by decide) (br_f (by decide) (br_f (by decide) (br_f (by decide) (br_f (by decide) (br_f (by decide) (br_f (by decide) (br_f (by decide) (br_f (by decide) (br_t rfl (br_t rfl (br_t rfl (br_f (by decide) (br_f (by decide) (br_t (by decide) (br_f (by decide) (br_t rfl (br_t rfl (br_f (by decide) (br_t sy (br_f pl (⟨rfl, J⟩))))))))))))))))))))))))))))))))))
  have pl : nI nc < 32 := sm_lt 32 p (by omega)
  have n32 : nc < 32 := p
  have vn : vp_in (nI nc) 32 := vp_in_nI p (by omega)
  obtain ⟨s, hs⟩ : ∃ s, sp = s + 1 + 1 := ⟨sp - 2, by omega⟩
  subst hs
  have vs : vp_in (nI s) 16 := vp_in_nI (by omega) (by omega)
  have vs1 : vp_in (nI (s + 1)) 16 := vp_in_nI (by omega) (by omega)
  obtain ⟨l, hl, el⟩ := o8 s (by omega)
  obtain ⟨r, hr, er⟩ := o8 (s + 1) (by omega)
  have es : xsk (nI s).toNatClampNeg = nI l := sm_cg (by omega) el
  have es1 : xsk (nI (s + 1)).toNatClampNeg = nI r := sm_cg (by omega) er
  have vy1 : vp_in (nI (s + 1 + 1) - 1) 16 := by rw [nI_pred]; exact vs1
  have vy2 : vp_in (nI (s + 1 + 1) - 2) 16 := by rw [sm_pr2]; exact vs
  have ey1 : upd (upd nR nc (-1)) (nI nc).toNatClampNeg (xsk (nI (s + 1 + 1) - 1).toNatClampNeg) = upd (upd nR nc (-1)) nc (nI r) := by rw [nI_pred, es1, sm_up (by omega)]
  have ey2 : upd (upd nL nc (-1)) (nI nc).toNatClampNeg (xsk (nI (s + 1 + 1) - 2).toNatClampNeg) = upd (upd nL nc (-1)) nc (nI l) := by rw [sm_pr2, es, sm_up (by omega)]
  have fin : i_Rel (kk + 4) (nI ms, nI lim, nI dl, nI (nc + 1), nI (s + 1), nI n, xlr, xls, xle, xst, xnw, xtc, xtu, xtn, xcu, xtd, xtt, xsr, sm_five xno nc 18 0 0 (nI l) (nI r), upd xsk s (nI nc), xrt, xsj, xtx, xtl, xcr, eN, eC, eD, eT, eH, eR, tE, tN)
      (nI ms, nI lim, nI dl, nI (nc + 1), nI (s + 1), nI n, xlr, xls, xle, yfc, yst, ycf, yev, yfr, ydo, upd nK nc 18, upd nA nc 0, upd nB nc 0, upd (upd nL nc (-1)) nc (nI l), upd (upd nR nc (-1)) nc (nI r), upd xsk s (nI nc), xrt, xsj, xtx, xtl, xcr, fN, fC, fD, fS, fA, fB, fO, fP, fL, fM, tS, tG) :=
    sm_mk (nc := nc + 1) (sp := s + 1) ⟨o1, o2, o3, o4, by omega, o6, sm_cxn (kk := 18) o7 p (by decide) (by decide) (fun i hi => pk_un (by omega)) (fun i hi => pk_un (by omega)) (fun i hi => pk_un (by omega)) (fun i hi => by rw [pk_un (by omega), pk_un (by omega)]) (fun i hi => by rw [pk_un (by omega), pk_un (by omega)]) pk_us pk_us pk_us pk_us pk_us (fun a b => absurd b (by decide)) (fun a => absurd a (by decide)) (fun a => absurd a (by decide)) (fun _ => ⟨l, hl, rfl⟩) (fun _ => ⟨r, hr, rfl⟩), sm_stk o8 (by omega), o9, o10⟩
  exact br_f (by decide) (br_t (by decide) (br_f (by decide) (br_t (by decide) (br_t rfl (br_f (by decide) (br_t (by decide) (br_t (by decide) (br_t sx (br_t pl (br_f (by decide) (br_t rfl (nm_r (nI_pred (s + 1)) ⟨vs1, br_f (by decide) (nm_r (nI_pred s) ⟨vs, nm_e ⟨sm_in5 0 n32 (by omega), nm_r (sm_u5 0 rfl) (br_f (by decide) (br_t (by decide) (br_t rfl ⟨sm_in5 1 n32 (by omega), nm_r (sm_u5 1 rfl) (br_f (by decide) (br_f (by decide) (br_f (by decide) (br_t rfl ⟨sm_in5 2 n32 (by omega), nm_r (sm_u5 2 rfl) ⟨sm_in5 3 n32 (by omega), nm_r (sm_u5 3 es) ⟨sm_in5 4 n32 (by omega), nm_r (sm_u5 4 es1) (nm_r (nI_1 nc) ⟨vs, nm_r (sm_up (by omega)) (nm_r (nI_1 s) (br_f (by decide) (br_t (by decide) (br_f (by decide) (br_f (by decide) (br_f (by decide) (br_f (by decide) (br_f (by decide) (br_f (by decide) (br_f (by decide) (br_f (by decide) (br_f (by decide) (br_f (by decide) (br_t rfl (br_t rfl (br_t rfl (br_f (by decide) (br_f (by decide) (br_t (by decide) (br_f (by decide) (br_t rfl (br_t rfl (br_f (by decide) (br_t sy (br_t pl (br_t rfl (br_f (by decide) (br_f (by decide) (br_t rfl (br_t rfl (br_t rfl (br_f (by decide) (⟨vn, nm_r (sm_up (by omega)) (br_t rfl (⟨vn, nm_r (sm_up (by omega)) (br_t rfl (⟨vn, nm_r (sm_up (by omega)) ⟨vn, nm_r (sm_up (by omega)) ⟨vn, nm_r (sm_up (by omega)) (br_t rfl (br_f (by decide) ⟨vy1, vn, nm_r ey1 ⟨vy2, vn, nm_r ey2 (nm_r (sm_pr2 s) (⟨vs, nm_r (sm_up (by omega)) (nm_r (nI_1 s) (nm_r (nI_1 nc) (⟨rfl, fin⟩)))⟩))⟩⟩))⟩⟩⟩))⟩))⟩)))))))))))))))))))))))))))))))))⟩)⟩⟩⟩))))⟩)))⟩⟩)⟩))))))))))))
end
theorem i_vc_push {k : Nat} {u : SX} {v : SY} (I : i_Rel k u v) (hk : k + 4 ≤ 2051) (v1 : Int32) (v2 : Int32) (v3 : Int32) : wpX_push (fun r u' => wpY_push (fun r' v' => r' = r ∧ i_Rel (k + 4) u' v') v v1 v2 v3) u v1 v2 v3 := by
  have J : i_Rel (k + 4) u v := I
  obtain ⟨ms, lim, dl, nc, sp, n, kn, xlr, xls, xle, xst, xnw, xtc, xtu, xtn, xcu, xtd, xtt, xsr, yfc, yst, ycf, yev, yfr, ydo, xno, xsk, xrt, xsj, nK, nA, nB, nL, nR, tS, tG, xtx, xtl, xcr, eN, eC, eD, eT, eH, eR, tE, tN, fN, fC, fD, fS, fA, fB, fO, fP, fL, fM, rfl, rfl, ok⟩ := I
  rcases pk_ix v1 (n := 19) (by omega) with h | h | ⟨j, hj, rfl⟩
  · have l : v1 < 1 := Int32.lt_of_lt_of_le h (by decide)
    exact br_t l (br_t l ⟨rfl, J⟩)
  · have l : ¬ v1 < 1 := Int32.not_lt.mpr (Int32.le_trans (by decide) h)
    have g : ¬ v1 ≤ 18 := sm_bn 18 h (by omega) (by omega)
    exact br_f l (br_f g (br_f l (br_f g ⟨rfl, J⟩)))
  · have ks : j = 0 ∨ j = 1 ∨ j = 2 ∨ j = 3 ∨ j = 4 ∨ j = 5 ∨ j = 6 ∨ j = 7 ∨ j = 8 ∨ j = 9 ∨ j = 10 ∨ j = 11 ∨ j = 12 ∨ j = 13 ∨ j = 14 ∨ j = 15 ∨ j = 16 ∨ j = 17 ∨ j = 18 := by omega
    rcases ks with rfl | rfl | rfl | rfl | rfl | rfl | rfl | rfl | rfl | rfl | rfl | rfl | rfl | rfl | rfl | rfl | rfl | rfl | rfl
    · exact br_t (by decide) (br_t (by decide) ⟨rfl, J⟩)
    · exact sm_push1 J ok v2 v3
    · exact sm_push2 J ok v2 v3
    · exact sm_push3 J ok v2 v3
    · exact sm_push4 J ok v2 v3
    · exact sm_push5 J ok v2 v3
    · exact sm_push6 J ok v2 v3
    · exact sm_push7 J ok v2 v3
    · exact sm_push8 J ok v2 v3
    · exact sm_push9 J ok v2 v3
    · exact sm_push10 J ok v2 v3
    · exact sm_push11 J ok v2 v3
    · exact sm_push12 J ok v2 v3
    · exact sm_push13 J ok v2 v3
    · exact sm_push14 J ok v2 v3
    · exact sm_push15 J ok v2 v3
    · exact sm_push16 J ok v2 v3
    · exact sm_push17 J ok v2 v3
    · exact sm_push18 J ok v2 v3
end
