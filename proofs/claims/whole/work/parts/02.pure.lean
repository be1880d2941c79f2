/-- the slot 0 child f of p -/
def sm_s0 (G : Nat → Nat → Nat) (f p : Nat) : Prop :=
  G 5 f = 0 ∧ G 10 p = f ∧ G 8 f = G 8 p ∧ G 2 f = G 2 p ∧
  (((G 1 p = 12 ∨ G 1 p = 18) ∧ G 6 f = G 6 p) ∨ (G 1 p ≠ 12 ∧ G 1 p ≠ 18 ∧ G 6 f = p)) ∧
  ((G 1 p = 18 ∧ G 9 p = 0 ∧ G 7 f = p) ∨ ((G 1 p ≠ 18 ∨ G 9 p ≠ 0) ∧ G 7 f = G 7 p))
/-- the slot 1 child f of p -/
def sm_s1 (G : Nat → Nat → Nat) (f p : Nat) : Prop :=
  G 5 f = 1 ∧ (G 1 p = 13 ∨ G 1 p = 17) ∧ G 11 p = f ∧
  G 15 (G 10 p) = 1 ∧ G 16 (G 10 p) = 1 ∧ G 17 (G 10 p) = f ∧ G 5 (G 10 p) = 0 ∧ G 4 (G 10 p) = p ∧ 1 ≤ G 10 p ∧
  G 8 f = G 19 (G 10 p) ∧ G 2 f = G 12 (G 10 p) ∧ G 6 f = G 6 p ∧ G 7 f = G 18 (G 10 p)
def sm_lp (G : Nat → Nat → Nat) (f p : Nat) : Prop :=
  p < f ∧ G 15 p = 1 ∧ 12 ≤ G 1 p ∧ G 20 f = G 20 p + 1 ∧ (G 16 p = 1 → G 16 f = 1) ∧
  ((G 1 p = 13 → G 9 p = 2) ∧ (G 1 p = 18 → G 9 p ≤ 1)) ∧ (sm_s0 G f p ∨ sm_s1 G f p)
/-- a frozen frame without children -/
def sm_f0 (G : Nat → Nat → Nat) (f : Nat) : Prop :=
  (G 1 f ≤ 11 ∨ (G 1 f = 13 ∧ G 9 f = 1)) ∧ G 13 f = 0 ∧ G 14 f = 0 ∧ G 19 f = G 8 f ∧
  (((G 1 f = 10 ∨ G 1 f = 13) ∧ G 18 f = f) ∨ (G 1 f ≠ 10 ∧ G 1 f ≠ 13 ∧ G 18 f = G 7 f)) ∧
  (G 1 f = 10 → G 9 f = G 12 f)
def sm_ck (G : Nat → Nat → Nat) (f c : Nat) : Prop :=
  1 ≤ c ∧ G 15 c = 1 ∧ G 16 c = 1 ∧ G 4 c = f ∧ G 17 c = G 17 f ∧ G 12 c = G 12 f
def sm_f1 (G : Nat → Nat → Nat) (f : Nat) : Prop :=
  (G 1 f = 12 ∨ G 1 f = 14 ∨ G 1 f = 15 ∨ G 1 f = 16 ∨ G 1 f = 18) ∧ sm_ck G f (G 10 f) ∧
  G 5 (G 10 f) = 0 ∧ G 13 f = G 10 f ∧ G 14 f = 0 ∧
  ((G 1 f = 16 ∧ G 19 f = G 19 (G 10 f) + 1) ∨ (G 1 f ≠ 16 ∧ G 19 f = G 19 (G 10 f))) ∧
  ((G 1 f = 14 ∧ G 18 f = G 7 f) ∨ (G 1 f ≠ 14 ∧ G 18 f = G 18 (G 10 f)))
def sm_f2 (G : Nat → Nat → Nat) (f : Nat) : Prop :=
  (G 1 f = 17 ∨ (G 1 f = 13 ∧ G 9 f = 2)) ∧ sm_ck G f (G 11 f) ∧
  G 5 (G 11 f) = 1 ∧ G 13 f = G 10 f ∧ G 14 f = G 11 f ∧ G 19 f = G 19 (G 11 f) ∧ G 18 f = G 18 (G 11 f)
def sm_fzn (K n : Nat) (G : Nat → Nat → Nat) (f : Nat) : Prop :=
  f < G 17 f ∧ G 17 f ≤ K + 1 ∧ G 19 f + f ≤ G 8 f + G 17 f ∧ G 2 f ≤ G 12 f ∧ G 12 f ≤ n ∧
  (sm_f0 G f ∨ sm_f1 G f ∨ sm_f2 G f)
def sm_i0 (G : Nat → Nat → Nat) : Prop :=
  G 15 0 = 1 ∧ G 16 0 ≠ 1 ∧ G 1 0 = 12 ∧ G 4 0 = 0 ∧ G 6 0 = 0 ∧ G 7 0 = 0 ∧ G 8 0 = 0 ∧ G 20 0 = 0
def sm_b (K n : Nat) (G : Nat → Nat → Nat) (f : Nat) : Prop :=
  f ≤ K ∧ G 8 f ≤ f - 1 ∧ G 2 f ≤ n ∧ G 20 f ≤ f ∧ G 1 f ≤ 18 ∧ (G 1 f ≠ 13 → G 1 f ≠ 17 → G 14 f = 0) ∧
  G 11 f ≤ K ∧ (G 11 f = 0 ∨ G 5 (G 11 f) = 1)
def sm_inv (K n : Nat) (G : Nat → Nat → Nat) : Prop :=
  sm_i0 G ∧ (∀ f, G 15 f = 1 → sm_b K n G f) ∧ (∀ f, 1 ≤ f → G 15 f = 1 → sm_lp G f (G 4 f)) ∧
  (∀ f, G 15 f = 1 → G 16 f = 1 → sm_fzn K n G f) ∧
  (∀ g h, G 15 g = 1 → G 15 h = 1 → g < h → g ≤ G 4 h ∨ (G 16 g = 1 ∧ G 17 g ≤ h)) ∧
  (∀ g h, G 15 g = 1 → G 16 g = 1 → G 15 h = 1 → G 17 g ≤ h → G 19 g ≤ G 8 h)
def sm_e0 (K : Nat) (G : Nat → Nat → Nat) : Prop :=
  1 ≤ K ∧ G 15 K = 1 ∧ G 16 K ≠ 1 ∧ G 13 K = 0 ∧ G 14 K = 0 ∧ G 9 K = 0
def sm_e1 (G : Nat → Nat → Nat) (x : Nat) : Prop :=
  1 ≤ x ∧ G 15 x = 1 ∧ G 16 x = 1 ∧ G 16 (G 4 x) ≠ 1 ∧ ∀ g, G 15 g = 1 → g < G 17 x
def sm_e2 (K : Nat) (G : Nat → Nat → Nat) (f : Nat) : Prop :=
  1 ≤ f ∧ G 15 f = 1 ∧ G 16 f = 1 ∧ G 17 f = K + 1 ∧ G 16 (G 4 f) ≠ 1 ∧
  (∀ g, G 15 g = 1 → G 16 g = 1 → G 19 g ≤ G 19 f) ∧ (∀ g, G 15 g = 1 → G 16 g ≠ 1 → g ≤ G 4 f)
def sm_e3 (K : Nat) (G : Nat → Nat → Nat) (f : Nat) : Prop :=
  1 ≤ f ∧ f ≤ K ∧ sm_lp G f (G 4 f) ∧ G 16 (G 4 f) ≠ 1 ∧ ∀ g, G 15 g = 1 → g < f

theorem sm_lp_c {G H : Nat → Nat → Nat} {f p : Nat} (L : sm_lp G f p)
    (hf : ∀ i, i ≤ 8 ∨ i = 20 → H i f = G i f) (hp : ∀ i, i ≤ 11 ∨ i = 20 → H i p = G i p)
    (lp : H 15 p = 1) (zz : H 16 p = 1 → H 16 f = 1)
    (ha : G 5 f = 1 → (∀ i, i ≤ 12 ∨ 17 ≤ i → H i (G 10 p) = G i (G 10 p)) ∧ H 15 (G 10 p) = 1 ∧ H 16 (G 10 p) = 1) :
    sm_lp H f p := by
  obtain ⟨h1, h2, h3, h4, h5, h6, h7⟩ := L
  have f2 := hf 2 (by omega)
  have f5 := hf 5 (by omega)
  have f6 := hf 6 (by omega)
  have f7 := hf 7 (by omega)
  have f8 := hf 8 (by omega)
  have f20 := hf 20 (by omega)
  have p1 := hp 1 (by omega)
  have p2 := hp 2 (by omega)
  have p6 := hp 6 (by omega)
  have p7 := hp 7 (by omega)
  have p8 := hp 8 (by omega)
  have p9 := hp 9 (by omega)
  have p10 := hp 10 (by omega)
  have p11 := hp 11 (by omega)
  have p20 := hp 20 (by omega)
  obtain ⟨h6a, h6b⟩ := h6
  refine ⟨h1, lp, by omega, by omega, zz, ⟨by omega, by omega⟩, ?_⟩
  rcases h7 with h7 | h7
  · left
    unfold sm_s0 at h7 ⊢
    rw [f2, f5, f6, f7, f8, p1, p2, p6, p7, p8, p9, p10]
    exact h7
  · right
    obtain ⟨a1, a2, a3, a4, a5, a6, a7, a8, a9, a10, a11, a12, a13⟩ := h7
    obtain ⟨q, ql, qz⟩ := ha a1
    have q4 := q 4 (by omega)
    have q5 := q 5 (by omega)
    have q12 := q 12 (by omega)
    have q17 := q 17 (by omega)
    have q18 := q 18 (by omega)
    have q19 := q 19 (by omega)
    unfold sm_s1
    rw [p10]
    refine ⟨by omega, by omega, by omega, ql, qz, by omega, by omega, by omega, a9, by omega, by omega, by omega, by omega⟩

theorem sm_fz_c {K K' n f : Nat} {G H : Nat → Nat → Nat} (F : sm_fzn K n G f) (hK : K ≤ K')
    (hf : ∀ i, i ≠ 15 → i ≠ 16 → H i f = G i f)
    (hc : ∀ c, sm_ck G f c → (∀ i, i ≠ 15 → i ≠ 16 → H i c = G i c) ∧ H 15 c = 1 ∧ H 16 c = 1) :
    sm_fzn K' n H f := by
  obtain ⟨h1, h2, h3, h4, h5, h6⟩ := F
  have f1 := hf 1 (by omega) (by omega)
  have f2 := hf 2 (by omega) (by omega)
  have f7 := hf 7 (by omega) (by omega)
  have f8 := hf 8 (by omega) (by omega)
  have f9 := hf 9 (by omega) (by omega)
  have f10 := hf 10 (by omega) (by omega)
  have f11 := hf 11 (by omega) (by omega)
  have f12 := hf 12 (by omega) (by omega)
  have f13 := hf 13 (by omega) (by omega)
  have f14 := hf 14 (by omega) (by omega)
  have f17 := hf 17 (by omega) (by omega)
  have f18 := hf 18 (by omega) (by omega)
  have f19 := hf 19 (by omega) (by omega)
  refine ⟨by omega, by omega, by omega, by omega, by omega, ?_⟩
  rcases h6 with h6 | h6 | h6
  · left
    unfold sm_f0 at h6 ⊢
    rw [f1, f7, f8, f9, f12, f13, f14, f18, f19]
    exact h6
  · right; left
    obtain ⟨a1, a2, a3, a4, a5, a6, a7⟩ := h6
    obtain ⟨q, ql, qz⟩ := hc _ a2
    obtain ⟨b1, b2, b3, b4, b5, b6⟩ := a2
    have q4 := q 4 (by omega) (by omega)
    have q5 := q 5 (by omega) (by omega)
    have q12 := q 12 (by omega) (by omega)
    have q17 := q 17 (by omega) (by omega)
    have q18 := q 18 (by omega) (by omega)
    have q19 := q 19 (by omega) (by omega)
    unfold sm_f1 sm_ck
    rw [f10]
    refine ⟨by omega, ⟨b1, ql, qz, by omega, by omega, by omega⟩, by omega, by omega, by omega, by omega, by omega⟩
  · right; right
    obtain ⟨a1, a2, a3, a4, a5, a6, a7⟩ := h6
    obtain ⟨q, ql, qz⟩ := hc _ a2
    obtain ⟨b1, b2, b3, b4, b5, b6⟩ := a2
    have q4 := q 4 (by omega) (by omega)
    have q5 := q 5 (by omega) (by omega)
    have q12 := q 12 (by omega) (by omega)
    have q17 := q 17 (by omega) (by omega)
    have q18 := q 18 (by omega) (by omega)
    have q19 := q 19 (by omega) (by omega)
    unfold sm_f2 sm_ck
    rw [f11]
    refine ⟨by omega, ⟨b1, ql, qz, by omega, by omega, by omega⟩, by omega, by omega, by omega, by omega, by omega⟩

/-- what stands frozen ahead of an unfrozen frame ended ahead of it -/
theorem sm_out {K n : Nat} {G : Nat → Nat → Nat} (I : sm_inv K n G) : ∀ b h, h ≤ b → G 15 h = 1 → G 16 h ≠ 1 →
    ∀ g, G 15 g = 1 → G 16 g = 1 → g < h → G 17 g ≤ h := by
  intro b
  induction b with
  | zero => intro h hb _ _ g _ _ hg; omega
  | succ b ih =>
    intro h hb lh oh g lg zg hg
    obtain ⟨i0, ib, il, iz, iN, iM⟩ := I
    rcases iN g h lg lh hg with q | q
    · obtain ⟨h1, h2, h3, h4, h5, h6, h7⟩ := il h (by omega) lh
      have op : G 16 (G 4 h) ≠ 1 := fun z => oh (h5 z)
      have ne : g ≠ G 4 h := fun z => op (z ▸ zg)
      have := ih (G 4 h) (by omega) h2 op g lg zg (by omega)
      omega
    · exact q.2
theorem sm_outx {K n x : Nat} {G : Nat → Nat → Nat} (I : sm_inv K n G) (hx : 1 ≤ x) (lx : G 15 x = 1) (px : G 16 (G 4 x) ≠ 1) :
    ∀ g, G 15 g = 1 → G 16 g = 1 → g < x → G 17 g ≤ x := by
  intro g lg zg hg
  have I' := I
  obtain ⟨i0, ib, il, iz, iN, iM⟩ := I'
  rcases iN g x lg lx hg with q | q
  · obtain ⟨h1, h2, h3, h4, h5, h6, h7⟩ := il x (by omega) lx
    have ne : g ≠ G 4 x := fun z => px (z ▸ zg)
    have := sm_out I (G 4 x) (G 4 x) (by omega) h2 px g lg zg (by omega)
    omega
  · exact q.2
