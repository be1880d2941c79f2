def sm_st (G : Nat → Nat → Nat) (p s : Nat) : Nat → Nat → Nat := fun i g => if i = 9 then (if g = p then s else G 9 g) else G i g
def sm_op (G : Nat → Nat → Nat) (x : Nat) : Nat → Nat → Nat := fun i g => if i = 16 then (if g = x then 0 else G 16 g) else G i g
def sm_ct (G : Nat → Nat → Nat) (b : Nat) : Nat → Nat → Nat := fun i g => if i = 15 then (if g < b then G 15 g else 0) else G i g
def sm_fr (G : Nat → Nat → Nat) (p v la lb k a t : Nat) : Nat → Nat → Nat := fun i g =>
  if g = p then (if i = 12 then v else if i = 13 then la else if i = 14 then lb else if i = 16 then 1 else if i = 17 then k else if i = 18 then a else if i = 19 then t else G i p) else G i g
def sm_nw (G : Nat → Nat → Nat) (k p q : Nat) (r : Nat → Nat) : Nat → Nat → Nat := fun i g =>
  if g = k then r i else if g = p ∧ i = q then k else G i g
def sm_rw (nd kd cc dd p sl tk ch tr dp : Nat) : Nat → Nat := fun i =>
  if i = 0 then nd else if i = 1 then kd else if i = 2 then cc else if i = 3 then dd else if i = 4 then p else if i = 5 then sl
  else if i = 6 then tk else if i = 7 then ch else if i = 8 then tr else if i = 15 then 1 else if i = 20 then dp else 0

theorem sm_st_o {G : Nat → Nat → Nat} {p s i : Nat} (h : i ≠ 9) : sm_st G p s i = G i := by funext g; exact if_neg h
theorem sm_st_n {G : Nat → Nat → Nat} {p s g : Nat} (h : g ≠ p) : sm_st G p s 9 g = G 9 g := by
  unfold sm_st; rw [if_pos rfl, if_neg h]
theorem sm_st_e {G : Nat → Nat → Nat} {p s : Nat} : sm_st G p s 9 p = s := by
  unfold sm_st; rw [if_pos rfl, if_pos rfl]
theorem sm_op_o {G : Nat → Nat → Nat} {x i : Nat} (h : i ≠ 16) : sm_op G x i = G i := by funext g; exact if_neg h
theorem sm_op_n {G : Nat → Nat → Nat} {x g : Nat} (h : g ≠ x) : sm_op G x 16 g = G 16 g := by
  unfold sm_op; rw [if_pos rfl, if_neg h]
theorem sm_op_e {G : Nat → Nat → Nat} {x : Nat} : sm_op G x 16 x = 0 := by
  unfold sm_op; rw [if_pos rfl, if_pos rfl]
theorem sm_ct_o {G : Nat → Nat → Nat} {b i : Nat} (h : i ≠ 15) : sm_ct G b i = G i := by funext g; exact if_neg h
theorem sm_ct_l {G : Nat → Nat → Nat} {b g : Nat} : sm_ct G b 15 g = 1 ↔ (G 15 g = 1 ∧ g < b) := by
  unfold sm_ct
  rw [if_pos rfl]
  by_cases h : g < b
  · rw [if_pos h]; exact ⟨fun z => ⟨z, h⟩, fun z => z.1⟩
  · rw [if_neg h]; exact ⟨fun z => by omega, fun z => absurd z.2 h⟩
theorem sm_fr_n {G : Nat → Nat → Nat} {p v la lb k a t i g : Nat} (h : g ≠ p) : sm_fr G p v la lb k a t i g = G i g := by
  unfold sm_fr; rw [if_neg h]
theorem sm_fr_o {G : Nat → Nat → Nat} {p v la lb k a t i : Nat} (h : i ≤ 11 ∨ i = 15 ∨ i = 20) : sm_fr G p v la lb k a t i = G i := by
  funext g
  unfold sm_fr
  by_cases q : g = p
  · rw [if_pos q, if_neg (by omega), if_neg (by omega), if_neg (by omega), if_neg (by omega), if_neg (by omega), if_neg (by omega), if_neg (by omega), q]
  · rw [if_neg q]
theorem sm_fr_12 {G : Nat → Nat → Nat} {p v la lb k a t : Nat} : sm_fr G p v la lb k a t 12 p = v := by
  unfold sm_fr; rw [if_pos rfl, if_pos rfl]
theorem sm_fr_13 {G : Nat → Nat → Nat} {p v la lb k a t : Nat} : sm_fr G p v la lb k a t 13 p = la := by
  unfold sm_fr; rw [if_pos rfl, if_neg (by omega), if_pos rfl]
theorem sm_fr_14 {G : Nat → Nat → Nat} {p v la lb k a t : Nat} : sm_fr G p v la lb k a t 14 p = lb := by
  unfold sm_fr; rw [if_pos rfl, if_neg (by omega), if_neg (by omega), if_pos rfl]
theorem sm_fr_16 {G : Nat → Nat → Nat} {p v la lb k a t : Nat} : sm_fr G p v la lb k a t 16 p = 1 := by
  unfold sm_fr; rw [if_pos rfl, if_neg (by omega), if_neg (by omega), if_neg (by omega), if_pos rfl]
theorem sm_fr_17 {G : Nat → Nat → Nat} {p v la lb k a t : Nat} : sm_fr G p v la lb k a t 17 p = k := by
  unfold sm_fr; rw [if_pos rfl, if_neg (by omega), if_neg (by omega), if_neg (by omega), if_neg (by omega), if_pos rfl]
theorem sm_fr_18 {G : Nat → Nat → Nat} {p v la lb k a t : Nat} : sm_fr G p v la lb k a t 18 p = a := by
  unfold sm_fr; rw [if_pos rfl, if_neg (by omega), if_neg (by omega), if_neg (by omega), if_neg (by omega), if_neg (by omega), if_pos rfl]
theorem sm_fr_19 {G : Nat → Nat → Nat} {p v la lb k a t : Nat} : sm_fr G p v la lb k a t 19 p = t := by
  unfold sm_fr; rw [if_pos rfl, if_neg (by omega), if_neg (by omega), if_neg (by omega), if_neg (by omega), if_neg (by omega), if_neg (by omega), if_pos rfl]
theorem sm_nw_k {G : Nat → Nat → Nat} {k p q i : Nat} {r : Nat → Nat} : sm_nw G k p q r i k = r i := by
  unfold sm_nw; rw [if_pos rfl]
theorem sm_nw_n {G : Nat → Nat → Nat} {k p q i g : Nat} {r : Nat → Nat} (h : g ≠ k) (h' : g ≠ p ∨ i ≠ q) : sm_nw G k p q r i g = G i g := by
  unfold sm_nw; rw [if_neg h, if_neg (by omega)]
theorem sm_nw_p {G : Nat → Nat → Nat} {k p q : Nat} {r : Nat → Nat} (h : p ≠ k) : sm_nw G k p q r q p = k := by
  unfold sm_nw; rw [if_neg h, if_pos ⟨rfl, rfl⟩]

/-- x, unfrozen and the last of the live frames, yields v -/
theorem sm_yld {K n x v s a : Nat} {G : Nat → Nat → Nat} (I : sm_inv K n G) (hx : 1 ≤ x) (lx : G 15 x = 1) (ox : G 16 x ≠ 1)
    (top : ∀ h, G 15 h = 1 → h ≤ x) (hv1 : G 2 x ≤ v) (hv2 : v ≤ n)
    (hk : (G 1 x ≤ 11 ∧ G 1 x ≠ 10 ∧ a = G 7 x) ∨ (G 1 x = 10 ∧ a = x ∧ s = v) ∨ (G 1 x = 13 ∧ a = x ∧ s = 1)) :
    sm_inv K n (sm_fr (sm_st G x s) x v 0 0 (K + 1) a (G 8 x)) ∧ sm_e2 K (sm_fr (sm_st G x s) x v 0 0 (K + 1) a (G 8 x)) x := by
  have I' := I
  obtain ⟨i0, ib, il, iz, iN, iM⟩ := I'
  have I1 : sm_inv K n (sm_st G x s) := sm_setst I ox top (fun i hi => sm_st_o hi) (fun g hg => sm_st_n hg)
  have bK := (ib x lx).1
  have L := il x hx lx
  have hp := L.1
  have op : G 16 (G 4 x) ≠ 1 := fun z => ox (L.2.2.2.2.1 z)
  generalize hH : sm_fr (sm_st G x s) x v 0 0 (K + 1) a (G 8 x) = H
  have a1 : H 1 x = G 1 x := by rw [← hH, sm_fr_o (by omega), sm_st_o (by omega)]
  have a2 : H 2 x = G 2 x := by rw [← hH, sm_fr_o (by omega), sm_st_o (by omega)]
  have a4 : H 4 x = G 4 x := by rw [← hH, sm_fr_o (by omega), sm_st_o (by omega)]
  have a7 : H 7 x = G 7 x := by rw [← hH, sm_fr_o (by omega), sm_st_o (by omega)]
  have a8 : H 8 x = G 8 x := by rw [← hH, sm_fr_o (by omega), sm_st_o (by omega)]
  have a9 : H 9 x = s := by rw [← hH, sm_fr_o (by omega), sm_st_e]
  have a12 : H 12 x = v := by rw [← hH, sm_fr_12]
  have a13 : H 13 x = 0 := by rw [← hH, sm_fr_13]
  have a14 : H 14 x = 0 := by rw [← hH, sm_fr_14]
  have a15 : ∀ g, H 15 g = G 15 g := by intro g; rw [← hH, sm_fr_o (by omega), sm_st_o (by omega)]
  have a16 : H 16 x = 1 := by rw [← hH, sm_fr_16]
  have a17 : H 17 x = K + 1 := by rw [← hH, sm_fr_17]
  have a18 : H 18 x = a := by rw [← hH, sm_fr_18]
  have a19 : H 19 x = G 8 x := by rw [← hH, sm_fr_19]
  have ne : ∀ i g, g ≠ x → i ≠ 9 → H i g = G i g := by
    intro i g hg hi
    rw [← hH, sm_fr_n hg, sm_st_o hi]
  refine ⟨?_, ?_⟩
  · refine sm_frz I1 hx (by rw [sm_st_o (by omega)]; exact lx) (by rw [sm_st_o (by omega)]; exact ox) (by rw [sm_st_o (by omega)]; exact fun g lg _ => top g lg) (fun i g hg => by rw [← hH, sm_fr_n hg]) (fun i hi => by rw [← hH, sm_fr_o hi]) a17 (fun _ _ => a14) ?_
    refine ⟨by omega, by omega, by omega, by omega, by omega, Or.inl ?_⟩
    refine ⟨by omega, a13, a14, by omega, by omega, by omega⟩
  · refine ⟨hx, by rw [a15]; exact lx, a16, a17, ?_, ?_, ?_⟩
    · rw [a4, ne 16 _ (by omega) (by omega)]; exact op
    · intro g lg zg
      rw [a15] at lg
      by_cases q : g = x
      · rw [q]; exact Nat.le_refl _
      · have := top g lg
        rw [ne 16 g q (by omega)] at zg
        have ho := sm_out I x x (Nat.le_refl _) lx ox g lg zg (by omega)
        rw [ne 19 g q (by omega), a19]
        exact iM g x lg zg lx ho
    · intro g lg zg
      rw [a15] at lg
      have q : g ≠ x := fun q => zg (q ▸ a16)
      have := top g lg
      rw [ne 16 g q (by omega)] at zg
      rw [a4]
      rcases iN g x lg lx (by omega) with r | r
      · exact r
      · exact absurd r.1 zg

/-- x, live, under an unfrozen frame, is exhausted -/
theorem sm_die {K n x : Nat} {G : Nat → Nat → Nat} (I : sm_inv K n G) (hx : 1 ≤ x) (lx : G 15 x = 1) (px : G 16 (G 4 x) ≠ 1) :
    sm_inv K n (sm_ct G x) ∧ sm_e3 K (sm_ct G x) x := by
  have I' := I
  obtain ⟨i0, ib, il, iz, iN, iM⟩ := I'
  refine ⟨sm_cut I hx (sm_outx I hx lx px) (fun i hi => sm_ct_o hi) (fun g => sm_ct_l), hx, (ib x lx).1, ?_, ?_, ?_⟩
  · exact sm_cutlp I (Nat.le_refl x) (il x hx lx) (fun i hi => sm_ct_o hi) (fun g => sm_ct_l)
  · rw [sm_ct_o (by omega), sm_ct_o (by omega)]; exact px
  · intro g lg
    exact (sm_ct_l.mp lg).2

/-- cut behind an unfrozen frame -/
theorem sm_cutb {K n x : Nat} {G : Nat → Nat → Nat} (I : sm_inv K n G) (lx : G 15 x = 1) (ox : G 16 x ≠ 1) :
    sm_inv K n (sm_ct G (x + 1)) ∧ ∀ h, sm_ct G (x + 1) 15 h = 1 → h ≤ x := by
  refine ⟨sm_cut I (by omega) ?_ (fun i hi => sm_ct_o hi) (fun g => sm_ct_l), ?_⟩
  · intro g lg zg hg
    have q : g ≠ x := fun q => ox (q ▸ zg)
    have := sm_out I x x (Nat.le_refl _) lx ox g lg zg (by omega)
    omega
  · intro h lh
    have := (sm_ct_l.mp lh).2
    omega
