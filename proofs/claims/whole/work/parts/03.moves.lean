theorem sm_open {K n x : Nat} {G H : Nat → Nat → Nat} (I : sm_inv K n G) (X : sm_e1 G x)
    (e : ∀ i, i ≠ 16 → H i = G i) (ez : ∀ g, g ≠ x → H 16 g = G 16 g) (ex : H 16 x ≠ 1) : sm_inv K n H := by
  obtain ⟨hx, lx, fx, px, bx⟩ := X
  obtain ⟨i0, ib, il, iz, iN, iM⟩ := I
  have e1 := e 1 (by omega)
  have e2 := e 2 (by omega)
  have e4 := e 4 (by omega)
  have e5 := e 5 (by omega)
  have e11 := e 11 (by omega)
  have e6 := e 6 (by omega)
  have e7 := e 7 (by omega)
  have e8 := e 8 (by omega)
  have e14 := e 14 (by omega)
  have e15 := e 15 (by omega)
  have e17 := e 17 (by omega)
  have e19 := e 19 (by omega)
  have e20 := e 20 (by omega)
  have fr : ∀ g, H 16 g = 1 → g ≠ x ∧ G 16 g = 1 := by
    intro g hg
    have q : g ≠ x := fun q => ex (q ▸ hg)
    exact ⟨q, by rw [← ez g q]; exact hg⟩
  refine ⟨?_, ?_, ?_, ?_, ?_, ?_⟩
  · unfold sm_i0 at i0 ⊢
    rw [e15, ez 0 (by omega), e1, e4, e6, e7, e8, e20]
    exact i0
  · intro f lf
    rw [e15] at lf
    have := ib f lf
    unfold sm_b at this ⊢
    rw [e1, e2, e5, e8, e11, e14, e20]
    exact this
  · intro f hf lf
    rw [e15] at lf
    have L := il f hf lf
    rw [e4]
    refine sm_lp_c L (fun i hi => by rw [e i (by omega)]) (fun i hi => by rw [e i (by omega)]) (by rw [e15]; exact L.2.1) ?_ ?_
    · intro hp
      obtain ⟨q, hp⟩ := fr _ hp
      have hz := L.2.2.2.2.1 hp
      have r : f ≠ x := fun r => px (r ▸ hp)
      rw [ez _ r]; exact hz
    · intro s
      obtain ⟨h1, h2, h3, h4, h5, h6, h7⟩ := L
      rcases h7 with h7 | h7
      · have := h7.1; omega
      · obtain ⟨a1, a2, a3, a4, a5, a6, a7, a8, a9, a10, a11, a12, a13⟩ := h7
        have q : G 10 (G 4 f) ≠ x := by
          intro q
          have := bx f lf
          rw [← q] at this
          omega
        exact ⟨fun i hi => by rw [e i (by omega)], by rw [e15]; exact a4, by rw [ez _ q]; exact a5⟩
  · intro f lf zf
    rw [e15] at lf
    obtain ⟨q, zf⟩ := fr _ zf
    refine sm_fz_c (iz f lf zf) (Nat.le_refl K) (fun i h5 h6 => by rw [e i h6]) ?_
    intro c hc
    obtain ⟨b1, b2, b3, b4, b5, b6⟩ := hc
    have r : c ≠ x := by
      intro r
      rw [← r, b4] at px
      exact px zf
    exact ⟨fun i h5 h6 => by rw [e i h6], by rw [e15]; exact b2, by rw [ez _ r]; exact b3⟩
  · intro g h lg lh hg
    rw [e15] at lg lh
    rw [e4, e17]
    rcases iN g h lg lh hg with q | q
    · exact Or.inl q
    · by_cases r : g = x
      · have := bx h lh
        rw [r] at q
        omega
      · right
        rw [ez _ r]
        exact q
  · intro g h lg zg lh hg
    rw [e15] at lg lh
    rw [e17] at hg
    rw [e19, e8]
    exact iM g h lg (fr g zg).2 lh hg

theorem sm_cutlp {K n b f : Nat} {G H : Nat → Nat → Nat} (I : sm_inv K n G) (fb : f ≤ b) (L : sm_lp G f (G 4 f))
    (e : ∀ i, i ≠ 15 → H i = G i) (el : ∀ g, H 15 g = 1 ↔ (G 15 g = 1 ∧ g < b)) : sm_lp H f (H 4 f) := by
  obtain ⟨i0, ib, il, iz, iN, iM⟩ := I
  rw [e 4 (by omega)]
  have h1 := L.1
  refine sm_lp_c L (fun i hi => by rw [e i (by omega)]) (fun i hi => by rw [e i (by omega)]) ?_ ?_ ?_
  · rw [el]; exact ⟨L.2.1, by omega⟩
  · rw [e 16 (by omega)]; exact L.2.2.2.2.1
  · intro s
    obtain ⟨h1, h2, h3, h4, h5, h6, h7⟩ := L
    rcases h7 with h7 | h7
    · have := h7.1; omega
    · obtain ⟨a1, a2, a3, a4, a5, a6, a7, a8, a9, a10, a11, a12, a13⟩ := h7
      have := (iz _ a4 a5).1
      exact ⟨fun i hi => by rw [e i (by omega)], by rw [el]; exact ⟨a4, by omega⟩, by rw [e 16 (by omega)]; exact a5⟩
theorem sm_cut {K n b : Nat} {G H : Nat → Nat → Nat} (I : sm_inv K n G) (hb : 1 ≤ b)
    (ho : ∀ g, G 15 g = 1 → G 16 g = 1 → g < b → G 17 g ≤ b)
    (e : ∀ i, i ≠ 15 → H i = G i) (el : ∀ g, H 15 g = 1 ↔ (G 15 g = 1 ∧ g < b)) : sm_inv K n H := by
  have I' := I
  obtain ⟨i0, ib, il, iz, iN, iM⟩ := I'
  have e1 := e 1 (by omega)
  have e2 := e 2 (by omega)
  have e4 := e 4 (by omega)
  have e5 := e 5 (by omega)
  have e11 := e 11 (by omega)
  have e6 := e 6 (by omega)
  have e7 := e 7 (by omega)
  have e8 := e 8 (by omega)
  have e14 := e 14 (by omega)
  have e16 := e 16 (by omega)
  have e17 := e 17 (by omega)
  have e19 := e 19 (by omega)
  have e20 := e 20 (by omega)
  refine ⟨?_, ?_, ?_, ?_, ?_, ?_⟩
  · unfold sm_i0 at i0 ⊢
    rw [el, e16, e1, e4, e6, e7, e8, e20]
    exact ⟨⟨i0.1, by omega⟩, i0.2⟩
  · intro f lf
    rw [el] at lf
    have := ib f lf.1
    unfold sm_b at this ⊢
    rw [e1, e2, e5, e8, e11, e14, e20]
    exact this
  · intro f hf lf
    rw [el] at lf
    exact sm_cutlp I (by omega) (il f hf lf.1) e el
  · intro f lf zf
    rw [el] at lf
    rw [e16] at zf
    refine sm_fz_c (iz f lf.1 zf) (Nat.le_refl K) (fun i h5 h6 => by rw [e i h5]) ?_
    intro c hc
    obtain ⟨b1, b2, b3, b4, b5, b6⟩ := hc
    have h1 := ho f lf.1 zf lf.2
    have h2 := (iz c b2 b3).1
    exact ⟨fun i h5 h6 => by rw [e i h5], by rw [el]; exact ⟨b2, by omega⟩, by rw [e16]; exact b3⟩
  · intro g h lg lh hg
    rw [el] at lg lh
    rw [e4, e16, e17]
    exact iN g h lg.1 lh.1 hg
  · intro g h lg zg lh hg
    rw [el] at lg lh
    rw [e16] at zg
    rw [e17] at hg
    rw [e19, e8]
    exact iM g h lg.1 zg lh.1 hg

theorem sm_setst {K n p : Nat} {G H : Nat → Nat → Nat} (I : sm_inv K n G) (op : G 16 p ≠ 1)
    (top : ∀ h, G 15 h = 1 → h ≤ p) (e : ∀ i, i ≠ 9 → H i = G i) (es : ∀ g, g ≠ p → H 9 g = G 9 g) : sm_inv K n H := by
  obtain ⟨i0, ib, il, iz, iN, iM⟩ := I
  have e1 := e 1 (by omega)
  have e2 := e 2 (by omega)
  have e4 := e 4 (by omega)
  have e5 := e 5 (by omega)
  have e11 := e 11 (by omega)
  have e6 := e 6 (by omega)
  have e7 := e 7 (by omega)
  have e8 := e 8 (by omega)
  have e14 := e 14 (by omega)
  have e15 := e 15 (by omega)
  have e16 := e 16 (by omega)
  have e17 := e 17 (by omega)
  have e19 := e 19 (by omega)
  have e20 := e 20 (by omega)
  have ea : ∀ i g, g ≠ p → H i g = G i g := by
    intro i g hg
    by_cases q : i = 9
    · rw [q]; exact es g hg
    · rw [e i q]
  refine ⟨?_, ?_, ?_, ?_, ?_, ?_⟩
  · unfold sm_i0 at i0 ⊢
    rw [e15, e16, e1, e4, e6, e7, e8, e20]
    exact i0
  · intro f lf
    rw [e15] at lf
    have := ib f lf
    unfold sm_b at this ⊢
    rw [e1, e2, e5, e8, e11, e14, e20]
    exact this
  · intro f hf lf
    rw [e15] at lf
    have L := il f hf lf
    rw [e4]
    have h1 := L.1
    have h2 := top f lf
    refine sm_lp_c L (fun i hi => by rw [e i (by omega)]) (fun i hi => ea i _ (by omega)) (by rw [e15]; exact L.2.1) (by rw [e16]; exact L.2.2.2.2.1) ?_
    intro s
    obtain ⟨h1, h2, h3, h4, h5, h6, h7⟩ := L
    rcases h7 with h7 | h7
    · have := h7.1; omega
    · obtain ⟨a1, a2, a3, a4, a5, a6, a7, a8, a9, a10, a11, a12, a13⟩ := h7
      have q : G 10 (G 4 f) ≠ p := fun q => op (q ▸ a5)
      exact ⟨fun i hi => ea i _ q, by rw [e15]; exact a4, by rw [e16]; exact a5⟩
  · intro f lf zf
    rw [e15] at lf
    rw [e16] at zf
    have q : f ≠ p := fun q => op (q ▸ zf)
    refine sm_fz_c (iz f lf zf) (Nat.le_refl K) (fun i h5 h6 => ea i _ q) ?_
    intro c hc
    obtain ⟨b1, b2, b3, b4, b5, b6⟩ := hc
    have r : c ≠ p := fun q => op (q ▸ b3)
    exact ⟨fun i h5 h6 => ea i _ r, by rw [e15]; exact b2, by rw [e16]; exact b3⟩
  · intro g h lg lh hg
    rw [e15] at lg lh
    rw [e4, e16, e17]
    exact iN g h lg lh hg
  · intro g h lg zg lh hg
    rw [e15] at lg lh
    rw [e16] at zg
    rw [e17] at hg
    rw [e19, e8]
    exact iM g h lg zg lh hg

/-- a new frame under p; a slot's cell of p is the only other change -/
theorem sm_new {K n p : Nat} {G H : Nat → Nat → Nat} (I : sm_inv K n G) (lp : G 15 p = 1) (op : G 16 p ≠ 1)
    (nol : ∀ h, G 15 h = 1 → 1 ≤ h → G 4 h = p → H 10 p = G 10 p ∧ G 5 h = 0)
    (e : ∀ i g, g ≤ K → g ≠ p → H i g = G i g) (ep : ∀ i, i ≠ 10 → i ≠ 11 → H i p = G i p)
    (nlv : H 15 (K + 1) = 1) (nup : ∀ g, K + 1 < g → H 15 g ≠ 1) (nfz : H 16 (K + 1) ≠ 1) (npr : H 4 (K + 1) = p)
    (nb : H 8 (K + 1) ≤ K + 1 - 1 ∧ H 2 (K + 1) ≤ n ∧ H 20 (K + 1) ≤ K + 1 ∧ H 1 (K + 1) ≤ 18 ∧ H 14 (K + 1) = 0)
    (nfb : H 11 (K + 1) = 0 ∧ (H 11 p = G 11 p ∨ (H 11 p = K + 1 ∧ H 5 (K + 1) = 1)))
    (nl : sm_lp H (K + 1) p) (nN : ∀ g, G 15 g = 1 → p < g → G 16 g = 1)
    (nM : ∀ g, G 15 g = 1 → G 16 g = 1 → G 19 g ≤ H 8 (K + 1)) : sm_inv (K + 1) n H := by
  obtain ⟨i0, ib, il, iz, iN, iM⟩ := I
  have pK : p ≤ K := (ib p lp).1
  have lo : ∀ g, H 15 g = 1 → g ≤ K → G 15 g = 1 := by
    intro g hg hk
    by_cases q : g = p
    · rw [q]; exact lp
    · rw [← e 15 g hk q]; exact hg
  have em : ∀ i g, i ≠ 10 → i ≠ 11 → g ≤ K → H i g = G i g := by
    intro i g h1 h2 hk
    by_cases q : g = p
    · rw [q]; exact ep i h1 h2
    · exact e i g hk q
  have cas : ∀ g, H 15 g = 1 → g = K + 1 ∨ (g ≤ K ∧ G 15 g = 1) := by
    intro g hg
    by_cases q : g = K + 1
    · exact Or.inl q
    · have : g ≤ K := by
        by_cases r : K + 1 < g
        · exact absurd hg (nup g r)
        · omega
      exact Or.inr ⟨this, lo g hg this⟩
  refine ⟨?_, ?_, ?_, ?_, ?_, ?_⟩
  · unfold sm_i0 at i0 ⊢
    rw [em 15 0 (by omega) (by omega) (by omega), em 16 0 (by omega) (by omega) (by omega), em 1 0 (by omega) (by omega) (by omega), em 4 0 (by omega) (by omega) (by omega), em 6 0 (by omega) (by omega) (by omega), em 7 0 (by omega) (by omega) (by omega), em 8 0 (by omega) (by omega) (by omega), em 20 0 (by omega) (by omega) (by omega)]
    exact i0
  · intro f lf
    rcases cas f lf with q | ⟨q, lf⟩
    · rw [q]
      obtain ⟨n1, n2, n3, n4, n5⟩ := nb
      exact ⟨by omega, n1, n2, n3, n4, fun _ _ => n5, by omega, Or.inl nfb.1⟩
    · obtain ⟨b1, b2, b3, b4, b5, b6, b7, b8⟩ := ib f lf
      have b9 : H 11 f ≤ K + 1 ∧ (H 11 f = 0 ∨ H 5 (H 11 f) = 1) := by
        by_cases r : f = p
        · rcases nfb.2 with s | ⟨s, s'⟩
          · rw [r] at b7 b8 ⊢
            rw [s, em 5 _ (by omega) (by omega) b7]
            exact ⟨by omega, b8⟩
          · rw [r, s]
            exact ⟨by omega, Or.inr s'⟩
        · rw [e 11 f q r, em 5 _ (by omega) (by omega) b7]
          exact ⟨by omega, b8⟩
      unfold sm_b
      rw [em 8 f (by omega) (by omega) q, em 2 f (by omega) (by omega) q, em 20 f (by omega) (by omega) q, em 1 f (by omega) (by omega) q, em 14 f (by omega) (by omega) q]
      exact ⟨by omega, b2, b3, b4, b5, b6, b9⟩
  · intro f hf lf
    rcases cas f lf with q | ⟨q, lf⟩
    · rw [q, npr]; exact nl
    · have L := il f hf lf
      have h1 := L.1
      rw [em 4 f (by omega) (by omega) q]
      have ha : G 5 f = 1 → (∀ i, i ≤ 12 ∨ 17 ≤ i → H i (G 10 (G 4 f)) = G i (G 10 (G 4 f))) ∧ H 15 (G 10 (G 4 f)) = 1 ∧ H 16 (G 10 (G 4 f)) = 1 := by
        intro s
        obtain ⟨h1, h2, h3, h4, h5, h6, h7⟩ := L
        rcases h7 with h7 | h7
        · have := h7.1; omega
        · obtain ⟨a1, a2, a3, a4, a5, a6, a7, a8, a9, a10, a11, a12, a13⟩ := h7
          have r : G 10 (G 4 f) ≠ p := fun r => op (r ▸ a5)
          have := (ib _ a4).1
          exact ⟨fun i hi => e i _ this r, by rw [e 15 _ this r]; exact a4, by rw [e 16 _ this r]; exact a5⟩
      have zz : H 16 (G 4 f) = 1 → H 16 f = 1 := by
        rw [em 16 _ (by omega) (by omega) (by omega), em 16 f (by omega) (by omega) (by omega)]
        exact L.2.2.2.2.1
      by_cases r : G 4 f = p
      · obtain ⟨n1, n2⟩ := nol f lf hf r
        obtain ⟨h1, h2, h3, h4, h5, h6, h7⟩ := L
        rcases h7 with h7 | h7
        · refine ⟨h1, by rw [em 15 _ (by omega) (by omega) (by omega)]; exact h2, by rw [em 1 _ (by omega) (by omega) (by omega)]; exact h3, by rw [em 20 f (by omega) (by omega) (by omega), em 20 _ (by omega) (by omega) (by omega)]; exact h4, zz, by rw [em 1 _ (by omega) (by omega) (by omega), em 9 _ (by omega) (by omega) (by omega)]; exact h6, Or.inl ?_⟩
          unfold sm_s0 at h7 ⊢
          rw [em 5 f (by omega) (by omega) (by omega), em 8 f (by omega) (by omega) (by omega), em 2 f (by omega) (by omega) (by omega), em 6 f (by omega) (by omega) (by omega), em 7 f (by omega) (by omega) (by omega)]
          rw [r] at h7 ⊢
          rw [n1, ep 1 (by omega) (by omega), ep 2 (by omega) (by omega), ep 6 (by omega) (by omega), ep 7 (by omega) (by omega), ep 8 (by omega) (by omega), ep 9 (by omega) (by omega)]
          exact h7
        · have := h7.1; omega
      · exact sm_lp_c L (fun i hi => em i f (by omega) (by omega) q) (fun i hi => e i _ (by omega) r) (by rw [e 15 _ (by omega) r]; exact L.2.1) zz ha
  · intro f lf zf
    rcases cas f lf with q | ⟨q, lf⟩
    · rw [q] at zf; exact absurd zf nfz
    · rw [em 16 f (by omega) (by omega) q] at zf
      have r : f ≠ p := fun r => op (r ▸ zf)
      refine sm_fz_c (iz f lf zf) (by omega) (fun i h5 h6 => e i f q r) ?_
      intro c hc
      obtain ⟨b1, b2, b3, b4, b5, b6⟩ := hc
      have r : c ≠ p := fun r => op (r ▸ b3)
      have s := (ib c b2).1
      exact ⟨fun i h5 h6 => e i c s r, by rw [e 15 c s r]; exact b2, by rw [e 16 c s r]; exact b3⟩
  · intro g h lg lh hg
    rcases cas h lh with q | ⟨q, lh⟩
    · rcases cas g lg with r | ⟨r, lg⟩
      · omega
      · rw [q, npr, em 16 g (by omega) (by omega) r, em 17 g (by omega) (by omega) r]
        by_cases s : g ≤ p
        · exact Or.inl s
        · have z := nN g lg (by omega)
          exact Or.inr ⟨z, (iz g lg z).2.1⟩
    · rcases cas g lg with r | ⟨r, lg⟩
      · omega
      · rw [em 4 h (by omega) (by omega) q, em 16 g (by omega) (by omega) r, em 17 g (by omega) (by omega) r]
        exact iN g h lg lh hg
  · intro g h lg zg lh hg
    rcases cas g lg with r | ⟨r, lg⟩
    · rw [r] at zg; exact absurd zg nfz
    · rw [em 16 g (by omega) (by omega) r] at zg
      rw [em 17 g (by omega) (by omega) r] at hg
      rw [em 19 g (by omega) (by omega) r]
      rcases cas h lh with q | ⟨q, lh⟩
      · rw [q]; exact nM g lg zg
      · rw [em 8 h (by omega) (by omega) q]
        exact iM g h lg zg lh hg

theorem sm_frz {K n p : Nat} {G H : Nat → Nat → Nat} (I : sm_inv K n G) (hp : 1 ≤ p) (lp : G 15 p = 1) (op : G 16 p ≠ 1)
    (top : ∀ g, G 15 g = 1 → G 16 g ≠ 1 → g ≤ p) (e : ∀ i g, g ≠ p → H i g = G i g)
    (ep : ∀ i, i ≤ 11 ∨ i = 15 ∨ i = 20 → H i p = G i p) (hh : H 17 p = K + 1)
    (hl : G 1 p ≠ 13 → G 1 p ≠ 17 → H 14 p = 0) (F : sm_fzn K n H p) : sm_inv K n H := by
  obtain ⟨i0, ib, il, iz, iN, iM⟩ := I
  have eq : ∀ i g, i ≤ 11 ∨ i = 15 ∨ i = 20 → H i g = G i g := by
    intro i g hi
    by_cases q : g = p
    · rw [q]; exact ep i hi
    · exact e i g q
  have el : ∀ g, H 15 g = G 15 g := fun g => eq 15 g (by omega)
  refine ⟨?_, ?_, ?_, ?_, ?_, ?_⟩
  · unfold sm_i0 at i0 ⊢
    rw [eq 15 0 (by omega), e 16 0 (by omega), eq 1 0 (by omega), eq 4 0 (by omega), eq 6 0 (by omega), eq 7 0 (by omega), eq 8 0 (by omega), eq 20 0 (by omega)]
    exact i0
  · intro f lf
    rw [el] at lf
    obtain ⟨b1, b2, b3, b4, b5, b6, b7⟩ := ib f lf
    unfold sm_b
    rw [eq 1 f (by omega), eq 2 f (by omega), eq 8 f (by omega), eq 20 f (by omega), eq 11 f (by omega), eq 5 _ (by omega)]
    refine ⟨b1, b2, b3, b4, b5, fun h1 h2 => ?_, b7⟩
    by_cases q : f = p
    · rw [q] at h1 h2 ⊢; exact hl h1 h2
    · rw [e 14 f q]; exact b6 h1 h2
  · intro f hf lf
    rw [el] at lf
    have L := il f hf lf
    rw [eq 4 f (by omega)]
    refine sm_lp_c L (fun i hi => eq i f (by omega)) (fun i hi => eq i _ (by omega)) (by rw [el]; exact L.2.1) ?_ ?_
    · intro hz
      by_cases q : G 4 f = p
      · have h1 := L.1
        have r : f ≠ p := by omega
        rw [e 16 f r]
        by_cases s : G 16 f = 1
        · exact s
        · have := top f lf s
          omega
      · rw [e 16 _ q] at hz
        have hz := L.2.2.2.2.1 hz
        by_cases r : f = p
        · rw [r] at hz; exact absurd hz op
        · rw [e 16 _ r]; exact hz
    · intro s
      obtain ⟨h1, h2, h3, h4, h5, h6, h7⟩ := L
      rcases h7 with h7 | h7
      · have := h7.1; omega
      · obtain ⟨a1, a2, a3, a4, a5, a6, a7, a8, a9, a10, a11, a12, a13⟩ := h7
        have r : G 10 (G 4 f) ≠ p := fun r => op (r ▸ a5)
        exact ⟨fun i hi => e i _ r, by rw [el]; exact a4, by rw [e 16 _ r]; exact a5⟩
  · intro f lf zf
    by_cases q : f = p
    · rw [q]; exact F
    · rw [el] at lf
      rw [e 16 f q] at zf
      refine sm_fz_c (iz f lf zf) (Nat.le_refl K) (fun i h5 h6 => e i f q) ?_
      intro c hc
      obtain ⟨b1, b2, b3, b4, b5, b6⟩ := hc
      have r : c ≠ p := fun r => op (r ▸ b3)
      exact ⟨fun i h5 h6 => e i c r, by rw [el]; exact b2, by rw [e 16 c r]; exact b3⟩
  · intro g h lg lh hg
    rw [el] at lg lh
    rw [eq 4 h (by omega)]
    rcases iN g h lg lh hg with q | q
    · exact Or.inl q
    · have r : g ≠ p := fun r => op (r ▸ q.1)
      rw [e 16 g r, e 17 g r]
      exact Or.inr q
  · intro g h lg zg lh hg
    rw [el] at lg lh
    rw [eq 8 h (by omega)]
    by_cases q : g = p
    · rw [q, hh] at hg
      have := (ib h lh).1
      omega
    · rw [e 16 g q] at zg
      rw [e 17 g q] at hg
      rw [e 19 g q]
      exact iM g h lg zg lh hg
