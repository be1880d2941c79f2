/-- under p, unfrozen and the last of the live frames, a child in slot 0 -/
theorem sm_des {K n p nd kd dd tk ch : Nat} {G : Nat → Nat → Nat} (I : sm_inv K n G) (lp : G 15 p = 1) (op : G 16 p ≠ 1)
    (top : ∀ h, G 15 h = 1 → h ≤ p) (k12 : 12 ≤ G 1 p) (k13 : G 1 p = 13 → G 9 p = 2) (k18 : G 1 p = 18 → G 9 p ≤ 1) (hk : kd ≤ 18)
    (ht : ((G 1 p = 12 ∨ G 1 p = 18) ∧ tk = G 6 p) ∨ (G 1 p ≠ 12 ∧ G 1 p ≠ 18 ∧ tk = p))
    (hc : (G 1 p = 18 ∧ G 9 p = 0 ∧ ch = p) ∨ ((G 1 p ≠ 18 ∨ G 9 p ≠ 0) ∧ ch = G 7 p)) :
    sm_inv (K + 1) n (sm_nw G (K + 1) p 10 (sm_rw nd kd (G 2 p) dd p 0 tk ch (G 8 p) (G 20 p + 1))) ∧
    sm_e0 (K + 1) (sm_nw G (K + 1) p 10 (sm_rw nd kd (G 2 p) dd p 0 tk ch (G 8 p) (G 20 p + 1))) := by
  have I' := I
  obtain ⟨i0, ib, il, iz, iN, iM⟩ := I'
  obtain ⟨b1, b2, b3, b4, b5, b6, b7, b8⟩ := ib p lp
  generalize hH : sm_nw G (K + 1) p 10 (sm_rw nd kd (G 2 p) dd p 0 tk ch (G 8 p) (G 20 p + 1)) = H
  have e : ∀ i g, g ≤ K → g ≠ p → H i g = G i g := fun i g hg hp => by rw [← hH, sm_nw_n (by omega) (Or.inl hp)]
  have ep : ∀ i, i ≠ 10 → H i p = G i p := fun i hi => by rw [← hH, sm_nw_n (by omega) (Or.inr hi)]
  have ep10 : H 10 p = K + 1 := by rw [← hH, sm_nw_p (by omega)]
  have r : ∀ i, H i (K + 1) = sm_rw nd kd (G 2 p) dd p 0 tk ch (G 8 p) (G 20 p + 1) i := fun i => by rw [← hH, sm_nw_k]
  have r1 : H 1 (K + 1) = kd := by rw [r]; rfl
  have r2 : H 2 (K + 1) = G 2 p := by rw [r]; rfl
  have r4 : H 4 (K + 1) = p := by rw [r]; rfl
  have r5 : H 5 (K + 1) = 0 := by rw [r]; rfl
  have r6 : H 6 (K + 1) = tk := by rw [r]; rfl
  have r7 : H 7 (K + 1) = ch := by rw [r]; rfl
  have r8 : H 8 (K + 1) = G 8 p := by rw [r]; rfl
  have r9 : H 9 (K + 1) = 0 := by rw [r]; rfl
  have r11 : H 11 (K + 1) = 0 := by rw [r]; rfl
  have r13 : H 13 (K + 1) = 0 := by rw [r]; rfl
  have r14 : H 14 (K + 1) = 0 := by rw [r]; rfl
  have r15 : H 15 (K + 1) = 1 := by rw [r]; rfl
  have r16 : H 16 (K + 1) = 0 := by rw [r]; rfl
  have r20 : H 20 (K + 1) = G 20 p + 1 := by rw [r]; rfl
  have nup : ∀ g, K + 1 < g → H 15 g ≠ 1 := fun g hg => by
    rw [← hH, sm_nw_n (by omega) (Or.inl (by omega))]; exact fun z => by have := (ib g z).1; omega
  refine ⟨?_, by omega, r15, by omega, r13, r14, r9⟩
  refine sm_new I lp op ?_ e (fun i h1 _ => ep i h1) r15 nup (by omega) r4 ⟨by omega, by omega, by omega, by omega, r14⟩ ⟨r11, Or.inl (ep 11 (by omega))⟩ ?_ ?_ ?_
  · intro h lh h1 hp
    have := top h lh
    have := (il h h1 lh).1
    omega
  · have p1 := ep 1 (by omega)
    have p2 := ep 2 (by omega)
    have p6 := ep 6 (by omega)
    have p7 := ep 7 (by omega)
    have p8 := ep 8 (by omega)
    have p9 := ep 9 (by omega)
    have p15 := ep 15 (by omega)
    have p16 := ep 16 (by omega)
    have p20 := ep 20 (by omega)
    refine ⟨by omega, by omega, by omega, by omega, fun z => absurd (p16 ▸ z) op, ⟨by omega, by omega⟩, Or.inl ?_⟩
    refine ⟨r5, ep10, by omega, by omega, by omega, by omega⟩
  · intro g lg hg
    have := top g lg
    omega
  · intro g lg zg
    have := top g lg
    have q : g ≠ p := fun q => op (q ▸ zg)
    rw [r8]
    exact iM g p lg zg lp (sm_out I p p (Nat.le_refl _) lp op g lg zg (by omega))

/-- the slot 0 child f of p has yielded: a child in slot 1 -/
theorem sm_nx {K n f p nd kd dd : Nat} {G : Nat → Nat → Nat} (I : sm_inv K n G) (E : sm_e2 K G f) (hp : G 4 f = p)
    (sf : G 5 f = 0) (kp : G 1 p = 13 ∨ G 1 p = 17) (hk : kd ≤ 18) :
    sm_inv (K + 1) n (sm_nw G (K + 1) p 11 (sm_rw nd kd (G 12 f) dd p 1 (G 6 p) (G 18 f) (G 19 f) (G 20 p + 1))) ∧
    sm_e0 (K + 1) (sm_nw G (K + 1) p 11 (sm_rw nd kd (G 12 f) dd p 1 (G 6 p) (G 18 f) (G 19 f) (G 20 p + 1))) := by
  have I' := I
  obtain ⟨i0, ib, il, iz, iN, iM⟩ := I'
  obtain ⟨hf, lf, zf, hif, op, mf, tf⟩ := E
  rw [hp] at op tf
  have L := il f hf lf
  rw [hp] at L
  obtain ⟨l1, lp, l3, l4, l5, l6, l7⟩ := L
  have l7 : sm_s0 G f p := by
    rcases l7 with q | q
    · exact q
    · have := q.1; omega
  obtain ⟨c1, c2, c3, c4, c5, c6⟩ := l7
  obtain ⟨b1, b2, b3, b4, b5, b6, b7, b8⟩ := ib p lp
  obtain ⟨z1, z2, z3, z4, z5, z6⟩ := iz f lf zf
  have fb := ib f lf
  have fb2 := fb.2.1
  have fb1 := fb.1
  generalize hH : sm_nw G (K + 1) p 11 (sm_rw nd kd (G 12 f) dd p 1 (G 6 p) (G 18 f) (G 19 f) (G 20 p + 1)) = H
  have e : ∀ i g, g ≤ K → g ≠ p → H i g = G i g := fun i g hg hp => by rw [← hH, sm_nw_n (by omega) (Or.inl hp)]
  have ep : ∀ i, i ≠ 11 → H i p = G i p := fun i hi => by rw [← hH, sm_nw_n (by omega) (Or.inr hi)]
  have ep11 : H 11 p = K + 1 := by rw [← hH, sm_nw_p (by omega)]
  have r : ∀ i, H i (K + 1) = sm_rw nd kd (G 12 f) dd p 1 (G 6 p) (G 18 f) (G 19 f) (G 20 p + 1) i := fun i => by rw [← hH, sm_nw_k]
  have r1 : H 1 (K + 1) = kd := by rw [r]; rfl
  have r2 : H 2 (K + 1) = G 12 f := by rw [r]; rfl
  have r4 : H 4 (K + 1) = p := by rw [r]; rfl
  have r5 : H 5 (K + 1) = 1 := by rw [r]; rfl
  have r6 : H 6 (K + 1) = G 6 p := by rw [r]; rfl
  have r7 : H 7 (K + 1) = G 18 f := by rw [r]; rfl
  have r8 : H 8 (K + 1) = G 19 f := by rw [r]; rfl
  have r9 : H 9 (K + 1) = 0 := by rw [r]; rfl
  have r11 : H 11 (K + 1) = 0 := by rw [r]; rfl
  have r13 : H 13 (K + 1) = 0 := by rw [r]; rfl
  have r14 : H 14 (K + 1) = 0 := by rw [r]; rfl
  have r15 : H 15 (K + 1) = 1 := by rw [r]; rfl
  have r16 : H 16 (K + 1) = 0 := by rw [r]; rfl
  have r20 : H 20 (K + 1) = G 20 p + 1 := by rw [r]; rfl
  have nup : ∀ g, K + 1 < g → H 15 g ≠ 1 := fun g hg => by
    rw [← hH, sm_nw_n (by omega) (Or.inl (by omega))]; exact fun z => by have := (ib g z).1; omega
  refine ⟨?_, by omega, r15, by omega, r13, r14, r9⟩
  refine sm_new I lp op ?_ e (fun i _ h1 => ep i h1) r15 nup (by omega) r4 ⟨by omega, by omega, by omega, by omega, r14⟩ ⟨r11, Or.inr ⟨ep11, r5⟩⟩ ?_ ?_ ?_
  · intro h lh h1 hp'
    refine ⟨ep 10 (by omega), ?_⟩
    have L := il h h1 lh
    rw [hp'] at L
    rcases L.2.2.2.2.2.2 with q | q
    · exact q.1
    · obtain ⟨a1, a2, a3, a4, a5, a6, a7⟩ := q
      have := (ib h lh).1
      rw [c2] at a6
      omega
  · have p1 := ep 1 (by omega)
    have p6 := ep 6 (by omega)
    have p9 := ep 9 (by omega)
    have p10 := ep 10 (by omega)
    have p15 := ep 15 (by omega)
    have p16 := ep 16 (by omega)
    have p20 := ep 20 (by omega)
    have q : f ≠ p := by omega
    have f4 := e 4 f fb1 q
    have f5 := e 5 f fb1 q
    have f12 := e 12 f fb1 q
    have f15 := e 15 f fb1 q
    have f16 := e 16 f fb1 q
    have f17 := e 17 f fb1 q
    have f18 := e 18 f fb1 q
    have f19 := e 19 f fb1 q
    refine ⟨by omega, by omega, by omega, by omega, fun z => absurd (p16 ▸ z) op, ⟨by have := l6.1; omega, by omega⟩, Or.inr ?_⟩
    unfold sm_s1
    rw [p10, c2]
    exact ⟨r5, by omega, ep11, by omega, by omega, by omega, by omega, by omega, hf, by omega, by omega, by omega, by omega⟩
  · intro g lg hg
    by_cases z : G 16 g = 1
    · exact z
    · have := tf g lg z
      omega
  · intro g lg zg
    rw [r8]
    exact mf g lg zg

/-- f has yielded and p hands it on -/
theorem sm_pas {K n f p la lb a t : Nat} {G : Nat → Nat → Nat} (I : sm_inv K n G) (E : sm_e2 K G f) (hp : G 4 f = p) (p1 : 1 ≤ p)
    (hc : (G 5 f = 0 ∧ (G 1 p = 12 ∨ G 1 p = 14 ∨ G 1 p = 15 ∨ G 1 p = 16 ∨ G 1 p = 18) ∧ la = f ∧ lb = 0 ∧
        ((G 1 p = 14 ∧ a = G 7 p) ∨ (G 1 p ≠ 14 ∧ a = G 18 f)) ∧ ((G 1 p = 16 ∧ t = G 19 f + 1) ∨ (G 1 p ≠ 16 ∧ t = G 19 f))) ∨
      (G 5 f = 1 ∧ la = G 10 p ∧ lb = f ∧ a = G 18 f ∧ t = G 19 f)) :
    sm_inv K n (sm_fr G p (G 12 f) la lb (K + 1) a t) ∧ sm_e2 K (sm_fr G p (G 12 f) la lb (K + 1) a t) p := by
  have I' := I
  obtain ⟨i0, ib, il, iz, iN, iM⟩ := I'
  obtain ⟨hf, lf, zf, hif, op, mf, tf⟩ := E
  rw [hp] at op tf
  have L := il f hf lf
  rw [hp] at L
  obtain ⟨l1, lp, l3, l4, l5, l6, l7⟩ := L
  obtain ⟨b1, b2, b3, b4, b5, b6, b7, b8⟩ := ib p lp
  obtain ⟨z1, z2, z3, z4, z5, z6⟩ := iz f lf zf
  have Lp := il p p1 lp
  have opp : G 16 (G 4 p) ≠ 1 := fun z => op (Lp.2.2.2.2.1 z)
  have lpp := Lp.1
  generalize hH : sm_fr G p (G 12 f) la lb (K + 1) a t = H
  have e : ∀ i g, g ≠ p → H i g = G i g := fun i g hg => by rw [← hH, sm_fr_n hg]
  have ep : ∀ i, i ≤ 11 ∨ i = 15 ∨ i = 20 → H i p = G i p := fun i hi => by rw [← hH, sm_fr_o hi]
  have a12 : H 12 p = G 12 f := by rw [← hH, sm_fr_12]
  have a13 : H 13 p = la := by rw [← hH, sm_fr_13]
  have a14 : H 14 p = lb := by rw [← hH, sm_fr_14]
  have a16 : H 16 p = 1 := by rw [← hH, sm_fr_16]
  have a17 : H 17 p = K + 1 := by rw [← hH, sm_fr_17]
  have a18 : H 18 p = a := by rw [← hH, sm_fr_18]
  have a19 : H 19 p = t := by rw [← hH, sm_fr_19]
  have a15 : ∀ g, H 15 g = G 15 g := by intro g; rw [← hH, sm_fr_o (by omega)]
  have q : f ≠ p := by omega
  have f4 := e 4 f q
  have f5 := e 5 f q
  have f12 := e 12 f q
  have f15 := e 15 f q
  have f16 := e 16 f q
  have f17 := e 17 f q
  have f18 := e 18 f q
  have f19 := e 19 f q
  have h1 := ep 1 (by omega)
  have h2 := ep 2 (by omega)
  have h4 := ep 4 (by omega)
  have h7 := ep 7 (by omega)
  have h8 := ep 8 (by omega)
  have h9 := ep 9 (by omega)
  have h10 := ep 10 (by omega)
  have h11 := ep 11 (by omega)
  have ck : sm_ck H p f := ⟨hf, by omega, by omega, by omega, by omega, by omega⟩
  have tt : G 19 f ≤ t := by omega
  have F : sm_fzn K n H p := by
    rcases hc with ⟨c1, c2, c3, c4, c5, c6⟩ | ⟨c1, c2, c3, c4, c5⟩
    · have l7 : sm_s0 G f p := by
        rcases l7 with q | q
        · exact q
        · have := q.1; omega
      obtain ⟨d1, d2, d3, d4, d5, d6⟩ := l7
      refine ⟨by omega, by omega, by omega, by omega, by omega, Or.inr (Or.inl ?_)⟩
      unfold sm_f1
      rw [h10, d2]
      exact ⟨by omega, ck, by omega, by omega, by omega, by omega, by omega⟩
    · have l7 : sm_s1 G f p := by
        rcases l7 with q | q
        · have := q.1; omega
        · exact q
      obtain ⟨d1, d2, d3, d4, d5, d6, d7, d8, d9, d10, d11, d12, d13⟩ := l7
      have LA := il _ d9 d4
      rw [d8] at LA
      obtain ⟨m1, m2, m3, m4, m5, m6, m7⟩ := LA
      have m7 : sm_s0 G (G 10 p) p := by
        rcases m7 with q | q
        · exact q
        · have := q.1; omega
      obtain ⟨y1, y2, y3, y4, y5, y6⟩ := iz _ d4 d5
      obtain ⟨k1, k2, k3, k4, k5, k6⟩ := m7
      refine ⟨by omega, by omega, by omega, by omega, by omega, Or.inr (Or.inr ?_)⟩
      unfold sm_f2
      rw [h11, d3]
      exact ⟨by omega, ck, by omega, by omega, by omega, by omega, by omega⟩
  refine ⟨?_, ?_⟩
  · refine sm_frz I p1 lp op tf e ep a17 ?_ F
    intro k1 k2
    rcases hc with ⟨c1, c2, c3, c4, c5, c6⟩ | ⟨c1, c2, c3, c4, c5⟩
    · omega
    · rcases l7 with q | q
      · have := q.1; omega
      · have := q.2.1; omega
  · refine ⟨p1, by rw [a15]; exact lp, a16, a17, ?_, ?_, ?_⟩
    · rw [h4, e 16 _ (by omega)]; exact opp
    · intro g lg zg
      rw [a15] at lg
      by_cases r : g = p
      · rw [r]; exact Nat.le_refl _
      · rw [e 16 g r] at zg
        rw [e 19 g r, a19]
        have := mf g lg zg
        omega
    · intro g lg zg
      rw [a15] at lg
      have r : g ≠ p := fun r => zg (r ▸ a16)
      rw [e 16 g r] at zg
      have := tf g lg zg
      rw [h4]
      rcases iN g p lg lp (by omega) with s | s
      · exact s
      · exact absurd s.1 zg

/-- x is asked and asks its child c -/
theorem sm_ask {K n x c : Nat} {G : Nat → Nat → Nat} (I : sm_inv K n G) (E : sm_e1 G x) (ck : sm_ck G x c) :
    sm_inv K n (sm_op G x) ∧ sm_e1 (sm_op G x) c := by
  have I1 := sm_open I E (H := sm_op G x) (fun i hi => sm_op_o hi) (fun g hg => sm_op_n hg) (by rw [sm_op_e]; omega)
  obtain ⟨i0, ib, il, iz, iN, iM⟩ := I
  obtain ⟨hx, lx, fx, px, bx⟩ := E
  obtain ⟨b1, b2, b3, b4, b5, b6⟩ := ck
  have l1 := (il c b1 b2).1
  rw [b4] at l1
  refine ⟨I1, b1, by rw [sm_op_o (by omega)]; exact b2, by rw [sm_op_n (by omega)]; exact b3, ?_, ?_⟩
  · rw [sm_op_o (i := 4) (by omega), b4, sm_op_e]; omega
  · rw [sm_op_o (i := 15) (by omega), sm_op_o (i := 17) (by omega), b5]; exact bx

/-- x is asked: unfrozen, and all behind it gone -/
theorem sm_top {K n x : Nat} {G : Nat → Nat → Nat} (I : sm_inv K n G) (E : sm_e1 G x) :
    sm_inv K n (sm_ct (sm_op G x) (x + 1)) ∧ ∀ h, sm_ct (sm_op G x) (x + 1) 15 h = 1 → h ≤ x := by
  have I1 := sm_open I E (H := sm_op G x) (fun i hi => sm_op_o hi) (fun g hg => sm_op_n hg) (by rw [sm_op_e]; omega)
  exact sm_cutb I1 (by rw [sm_op_o (by omega)]; exact E.2.1) (by rw [sm_op_e]; omega)

/-- the slot 1 child f of p is exhausted: the slot 0 child is asked -/
theorem sm_31 {K n f : Nat} {G : Nat → Nat → Nat} (_I : sm_inv K n G) (E : sm_e3 K G f) (s : G 5 f = 1) :
    sm_e1 G (G 10 (G 4 f)) := by
  obtain ⟨h1, h2, h3, h4, h5⟩ := E
  rcases h3.2.2.2.2.2.2 with q | q
  · have := q.1; omega
  · obtain ⟨d1, d2, d3, d4, d5, d6, d7, d8, d9, d10, d11, d12, d13⟩ := q
    exact ⟨d9, d4, d5, by rw [d8]; exact h4, by rw [d6]; exact h5⟩
