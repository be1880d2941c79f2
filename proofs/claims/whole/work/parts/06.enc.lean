/-- what the frozen frames' outcome cells hold -/
def sm_eo (G : Nat → Nat → Nat) (A : Nat → Int32) : Prop := ∀ f, 1 ≤ f → G 15 f = 1 → G 16 f = 1 → A (f - 1) = nI (G 12 f)
/-- the reference's frames -/
def sm_Y (K : Nat) (G : Nat → Nat → Nat) (fN fC fD fS fA fB fO fP fL fM : Nat → Int32) : Prop :=
  sm_en K fN (G 0) ∧ sm_en K fC (G 2) ∧ sm_en K fD (G 3) ∧ sm_en K fS (G 9) ∧ sm_ep K fA (G 10) ∧ sm_ep K fB (G 11) ∧
  sm_eo G fO ∧ sm_ep K fP (G 4) ∧ sm_ep K fL (G 13) ∧ sm_ep K fM (G 14)
def sm_ec (G : Nat → Nat → Nat) (f : Nat) : Nat := if G 1 f = 10 then G 9 f else G 2 f
/-- the component's elements -/
def sm_X (K : Nat) (G : Nat → Nat → Nat) (eN eC eD eT eH eR : Nat → Int32) : Prop :=
  sm_en K eN (G 0) ∧ sm_en K eC (sm_ec G) ∧ sm_en K eD (G 3) ∧ sm_ep K eT (G 6) ∧ sm_ep K eH (G 7) ∧ sm_en K eR (G 8)
/-- the triples -/
def sm_T (G : Nat → Nat → Nat) (tE tN : Nat → Int32) : Prop :=
  ∀ f, 1 ≤ f → G 15 f = 1 → G 16 f = 1 → G 1 f = 16 → tE (G 19 f - 1) = nI (f - 1) ∧ tN (G 19 f - 1) = nI (G 12 f)
/-- the frames' nodes -/
def sm_N (K nc : Nat) (kn : Nat → Nat) (G : Nat → Nat → Nat) : Prop := G 10 0 = 1 ∧ ∀ f, 1 ≤ f → f ≤ K → G 0 f < nc ∧ G 1 f = kn (G 0 f) ∧ G 3 f ≤ 8

theorem sm_Y_s {K : Nat} {G H : Nat → Nat → Nat} {fN fC fD fS fA fB fO fP fL fM : Nat → Int32} (h : sm_Y K G fN fC fD fS fA fB fO fP fL fM)
    (e : ∀ i, i ≤ 14 → H i = G i) (z : ∀ f, H 15 f = 1 → H 16 f = 1 → G 15 f = 1 ∧ G 16 f = 1) : sm_Y K H fN fC fD fS fA fB fO fP fL fM := by
  obtain ⟨h1, h2, h3, h4, h5, h6, h7, h8, h9, h10⟩ := h
  unfold sm_Y
  rw [e 0 (by omega), e 2 (by omega), e 3 (by omega), e 9 (by omega), e 10 (by omega), e 11 (by omega), e 4 (by omega), e 13 (by omega), e 14 (by omega)]
  refine ⟨h1, h2, h3, h4, h5, h6, ?_, h8, h9, h10⟩
  intro f hf lf zf
  obtain ⟨l, q⟩ := z f lf zf
  rw [e 12 (by omega)]
  exact h7 f hf l q
theorem sm_X_s {K : Nat} {G H : Nat → Nat → Nat} {eN eC eD eT eH eR : Nat → Int32} (h : sm_X K G eN eC eD eT eH eR)
    (e : ∀ i, i ≤ 9 → H i = G i) : sm_X K H eN eC eD eT eH eR := by
  obtain ⟨h1, h2, h3, h4, h5, h6⟩ := h
  have ec : sm_ec H = sm_ec G := by
    funext f
    unfold sm_ec
    rw [e 1 (by omega), e 2 (by omega), e 9 (by omega)]
  unfold sm_X
  rw [e 0 (by omega), e 3 (by omega), e 6 (by omega), e 7 (by omega), e 8 (by omega), ec]
  exact ⟨h1, h2, h3, h4, h5, h6⟩
theorem sm_T_s {G H : Nat → Nat → Nat} {tE tN : Nat → Int32} (h : sm_T G tE tN) (e1 : H 1 = G 1)
    (z : ∀ f, H 15 f = 1 → H 16 f = 1 → G 15 f = 1 ∧ G 16 f = 1 ∧ (G 1 f = 16 → H 12 f = G 12 f ∧ H 19 f = G 19 f)) : sm_T H tE tN := by
  intro f hf lf zf kf
  rw [e1] at kf
  obtain ⟨l, q, r⟩ := z f lf zf
  rw [(r kf).1, (r kf).2]
  exact h f hf l q kf
theorem sm_N_s {K nc : Nat} {kn : Nat → Nat} {G H : Nat → Nat → Nat} (h : sm_N K nc kn G) (e0 : H 0 = G 0) (e1 : H 1 = G 1) (ea : H 10 = G 10) (e3 : H 3 = G 3) : sm_N K nc kn H := by
  unfold sm_N
  rw [e0, e1, ea, e3]
  exact h
/-- a frame frozen -/
theorem sm_Y_fr {K p v la lb k a t : Nat} {G : Nat → Nat → Nat} {fN fC fD fS fA fB fO fP fL fM fO' fL' fM' : Nat → Int32}
    (h : sm_Y K G fN fC fD fS fA fB fO fP fL fM) (h1 : 1 ≤ p) (h2 : p ≤ K)
    (o : ∀ i, i ≠ p - 1 → fO' i = fO i) (o' : fO' (p - 1) = nI v) (l : ∀ i, i ≠ p - 1 → fL' i = fL i) (l' : fL' (p - 1) = sm_p la)
    (m : ∀ i, i ≠ p - 1 → fM' i = fM i) (m' : fM' (p - 1) = sm_p lb) :
    sm_Y K (sm_fr G p v la lb k a t) fN fC fD fS fA fB fO' fP fL' fM' := by
  obtain ⟨a1, a2, a3, a4, a5, a6, a7, a8, a9, a10⟩ := h
  unfold sm_Y
  rw [sm_fr_o (i := 0) (by omega), sm_fr_o (i := 2) (by omega), sm_fr_o (i := 3) (by omega), sm_fr_o (i := 9) (by omega), sm_fr_o (i := 10) (by omega), sm_fr_o (i := 11) (by omega), sm_fr_o (i := 4) (by omega)]
  refine ⟨a1, a2, a3, a4, a5, a6, ?_, a8, ?_, ?_⟩
  · intro f hf lf zf
    by_cases q : f = p
    · rw [q, sm_fr_12]; exact o'
    · rw [sm_fr_n q] at lf zf ⊢
      rw [o (f - 1) (by omega)]
      exact a7 f hf lf zf
  · intro i hi
    by_cases q : i = p - 1
    · have : i + 1 = p := by omega
      rw [this, sm_fr_13, q]; exact l'
    · rw [l i q, sm_fr_n (by omega)]; exact a9 i hi
  · intro i hi
    by_cases q : i = p - 1
    · have : i + 1 = p := by omega
      rw [this, sm_fr_14, q]; exact m'
    · rw [m i q, sm_fr_n (by omega)]; exact a10 i hi
theorem sm_X_fr {K p v la lb k a t : Nat} {G : Nat → Nat → Nat} {eN eC eD eT eH eR : Nat → Int32} (h : sm_X K G eN eC eD eT eH eR) :
    sm_X K (sm_fr G p v la lb k a t) eN eC eD eT eH eR := sm_X_s h (fun _ hi => sm_fr_o (by omega))
/-- a state cell set -/
theorem sm_Y_st {K p s : Nat} {G : Nat → Nat → Nat} {fN fC fD fS fA fB fO fP fL fM : Nat → Int32}
    (h : sm_Y K G fN fC fD fS fA fB fO fP fL fM) (h1 : 1 ≤ p) {v : Int32} (hv : v = nI s) : sm_Y K (sm_st G p s) fN fC fD (upd fS (p - 1) v) fA fB fO fP fL fM := by
  obtain ⟨a1, a2, a3, a4, a5, a6, a7, a8, a9, a10⟩ := h
  unfold sm_Y
  rw [sm_st_o (i := 0) (by omega), sm_st_o (i := 2) (by omega), sm_st_o (i := 3) (by omega), sm_st_o (i := 10) (by omega), sm_st_o (i := 11) (by omega), sm_st_o (i := 4) (by omega), sm_st_o (i := 13) (by omega), sm_st_o (i := 14) (by omega)]
  refine ⟨a1, a2, a3, sm_en_u a4 h1 (fun j hj => sm_st_n hj) (by rw [sm_st_e]; exact hv), a5, a6, ?_, a8, a9, a10⟩
  intro f hf lf zf
  rw [sm_st_o (by omega)] at lf zf ⊢
  exact a7 f hf lf zf
/-- a new frame -/
theorem sm_Y_nw {K p q : Nat} {r : Nat → Nat} {G : Nat → Nat → Nat} {fN fC fD fS fA fB fO fP fL fM fA' fB' fO' : Nat → Int32} {vN vC vD vS vP vL vM : Int32}
    (h : sm_Y K G fN fC fD fS fA fB fO fP fL fM) (hp : p ≤ K) (hl : ∀ g, G 15 g = 1 → g ≤ K) (hz : r 16 ≠ 1)
    (hq : q = 10 ∨ q = 11) (hN : vN = nI (r 0)) (hC : vC = nI (r 2)) (hD : vD = nI (r 3)) (hS : vS = nI (r 9)) (hP : vP = sm_p (r 4))
    (hL : vL = sm_p (r 13)) (hM : vM = sm_p (r 14)) (oo : ∀ i, i < K → fO' i = fO i)
    (hA : sm_ep (K + 1) fA' (sm_nw G (K + 1) p q r 10)) (hB : sm_ep (K + 1) fB' (sm_nw G (K + 1) p q r 11)) :
    sm_Y (K + 1) (sm_nw G (K + 1) p q r) (upd fN K vN) (upd fC K vC) (upd fD K vD) (upd fS K vS) fA' fB' fO' (upd fP K vP) (upd fL K vL) (upd fM K vM) := by
  obtain ⟨a1, a2, a3, a4, a5, a6, a7, a8, a9, a10⟩ := h
  have e : ∀ i j, i ≠ 10 → i ≠ 11 → 1 ≤ j → j ≤ K → sm_nw G (K + 1) p q r i j = G i j := fun i j h1 h2 _ h3 => sm_nw_n (by omega) (Or.inr (by omega))
  refine ⟨sm_en_n a1 (fun j => e 0 j (by omega) (by omega)) (by rw [sm_nw_k]; exact hN), sm_en_n a2 (fun j => e 2 j (by omega) (by omega)) (by rw [sm_nw_k]; exact hC), sm_en_n a3 (fun j => e 3 j (by omega) (by omega)) (by rw [sm_nw_k]; exact hD), sm_en_n a4 (fun j => e 9 j (by omega) (by omega)) (by rw [sm_nw_k]; exact hS), hA, hB, ?_, sm_ep_n a8 (fun j => e 4 j (by omega) (by omega)) (by rw [sm_nw_k]; exact hP), sm_ep_n a9 (fun j => e 13 j (by omega) (by omega)) (by rw [sm_nw_k]; exact hL), sm_ep_n a10 (fun j => e 14 j (by omega) (by omega)) (by rw [sm_nw_k]; exact hM)⟩
  intro f hf lf zf
  by_cases s : f = K + 1
  · rw [s, sm_nw_k] at zf; exact absurd zf hz
  · rw [sm_nw_n s (Or.inr (by omega))] at lf zf ⊢
    have := hl f lf
    rw [oo (f - 1) (by omega)]
    exact a7 f hf lf zf
theorem sm_X_nw {K p q : Nat} {r : Nat → Nat} {G : Nat → Nat → Nat} {eN eC eD eT eH eR : Nat → Int32} (h : sm_X K G eN eC eD eT eH eR) (hq : q = 10 ∨ q = 11) :
    sm_X K (sm_nw G (K + 1) p q r) eN eC eD eT eH eR := by
  obtain ⟨h1, h2, h3, h4, h5, h6⟩ := h
  have e : ∀ i j, i ≤ 9 → 1 ≤ j → j ≤ K → sm_nw G (K + 1) p q r i j = G i j := fun i j h1 _ h3 => sm_nw_n (by omega) (Or.inr (by omega))
  refine ⟨sm_en_c h1 (fun j => e 0 j (by omega)), sm_en_c h2 ?_, sm_en_c h3 (fun j => e 3 j (by omega)), sm_ep_c h4 (fun j => e 6 j (by omega)), sm_ep_c h5 (fun j => e 7 j (by omega)), sm_en_c h6 (fun j => e 8 j (by omega))⟩
  intro j j1 j2
  unfold sm_ec
  rw [e 1 j (by omega) j1 j2, e 2 j (by omega) j1 j2, e 9 j (by omega) j1 j2]
theorem sm_T_nw {K p q : Nat} {r : Nat → Nat} {G : Nat → Nat → Nat} {tE tN : Nat → Int32} (h : sm_T G tE tN) (hz : r 16 ≠ 1) (hq : q = 10 ∨ q = 11) :
    sm_T (sm_nw G (K + 1) p q r) tE tN := by
  intro f hf lf zf kf
  by_cases s : f = K + 1
  · rw [s, sm_nw_k] at zf; exact absurd zf hz
  · rw [sm_nw_n s (Or.inr (by omega))] at lf zf kf
    rw [sm_nw_n s (Or.inr (by omega)), sm_nw_n s (Or.inr (by omega))]
    exact h f hf lf zf kf
theorem sm_N_nw {K p q nc : Nat} {kn r : Nat → Nat} {G : Nat → Nat → Nat} (h : sm_N K nc kn G) (hr : r 0 < nc ∧ r 1 = kn (r 0) ∧ r 3 ≤ 8) (hq : q = 10 ∨ q = 11) (hp : 1 ≤ p) :
    sm_N (K + 1) nc kn (sm_nw G (K + 1) p q r) := by
  refine ⟨by rw [sm_nw_n (by omega) (Or.inl (by omega))]; exact h.1, ?_⟩
  intro f h1 h2
  by_cases s : f = K + 1
  · rw [s, sm_nw_k, sm_nw_k, sm_nw_k]; exact hr
  · rw [sm_nw_n s (Or.inr (by omega)), sm_nw_n s (Or.inr (by omega)), sm_nw_n s (Or.inr (by omega))]
    exact h.2 f h1 (by omega)
