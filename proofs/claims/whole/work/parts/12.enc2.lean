theorem sm_st_id {G : Nat → Nat → Nat} {x : Nat} : sm_st G x (G 9 x) = G := by
  funext i g
  unfold sm_st
  by_cases h : i = 9
  · rw [if_pos h]
    by_cases q : g = x
    · rw [if_pos q, h, q]
    · rw [if_neg q, h]
  · rw [if_neg h]
theorem sm_rw16 {nd kd cc dd p sl tk ch tr dp : Nat} : sm_rw nd kd cc dd p sl tk ch tr dp 16 = 0 := rfl
section
variable {K j nd kd cc dd tk ch tr dp : Nat} {G : Nat → Nat → Nat} {fN fC fD fS fA fB fO fP fL fM : Nat → Int32}
theorem sm_Y_nwA (h : sm_Y K G fN fC fD fS fA fB fO fP fL fM) (hj : j < K) (hl : ∀ g, G 15 g = 1 → g ≤ K) :
    sm_Y (K + 1) (sm_nw G (K + 1) (j + 1) 10 (sm_rw nd kd cc dd (j + 1) 0 tk ch tr dp)) (upd fN K (nI nd)) (upd fC K (nI cc)) (upd fD K (nI dd)) (upd fS K 0)
      (upd (upd fA K (-1)) j (nI K)) (upd fB K (-1)) (upd fO K (-1)) (upd fP K (nI j)) (upd fL K (-1)) (upd fM K (-1)) := by
  have h' := h
  obtain ⟨a1, a2, a3, a4, a5, a6, a7, a8, a9, a10⟩ := h'
  refine sm_Y_nw h (by omega) hl (by rw [sm_rw16]; omega) (Or.inl rfl) rfl rfl rfl rfl (sm_ps j).symm rfl rfl (fun i hi => pk_un (by omega)) ?_ ?_
  · intro i hi
    by_cases q : i = j
    · rw [q, pk_us, sm_nw_p (by omega), sm_ps]
    · rw [pk_un q]
      by_cases r : i = K
      · rw [r, pk_us, sm_nw_k]; rfl
      · rw [pk_un r, sm_nw_n (by omega) (Or.inl (by omega))]
        exact a5 i (by omega)
  · exact sm_ep_n a6 (fun k k1 k2 => sm_nw_n (by omega) (Or.inr (by omega))) (by rw [sm_nw_k]; rfl)
theorem sm_Y_nwB (h : sm_Y K G fN fC fD fS fA fB fO fP fL fM) (hj : j < K) (hl : ∀ g, G 15 g = 1 → g ≤ K) :
    sm_Y (K + 1) (sm_nw G (K + 1) (j + 1) 11 (sm_rw nd kd cc dd (j + 1) 1 tk ch tr dp)) (upd fN K (nI nd)) (upd fC K (nI cc)) (upd fD K (nI dd)) (upd fS K 0)
      (upd fA K (-1)) (upd (upd fB K (-1)) j (nI K)) (upd fO K (-1)) (upd fP K (nI j)) (upd fL K (-1)) (upd fM K (-1)) := by
  have h' := h
  obtain ⟨a1, a2, a3, a4, a5, a6, a7, a8, a9, a10⟩ := h'
  refine sm_Y_nw h (by omega) hl (by rw [sm_rw16]; omega) (Or.inr rfl) rfl rfl rfl rfl (sm_ps j).symm rfl rfl (fun i hi => pk_un (by omega)) ?_ ?_
  · exact sm_ep_n a5 (fun k k1 k2 => sm_nw_n (by omega) (Or.inr (by omega))) (by rw [sm_nw_k]; rfl)
  · intro i hi
    by_cases q : i = j
    · rw [q, pk_us, sm_nw_p (by omega), sm_ps]
    · rw [pk_un q]
      by_cases r : i = K
      · rw [r, pk_us, sm_nw_k]; rfl
      · rw [pk_un r, sm_nw_n (by omega) (Or.inl (by omega))]
        exact a6 i (by omega)
/-- x yields: its outcome cell, and its state cell if it changes -/
theorem sm_Y_yld {v s a k t : Nat} {fS' : Nat → Int32} (h : sm_Y K G fN fC fD fS fA fB fO fP fL fM) (hj : j < K) (la : G 13 (j + 1) = 0) (lb : G 14 (j + 1) = 0)
    (hs : (fS' = fS ∧ s = G 9 (j + 1)) ∨ fS' = upd fS j (nI s)) :
    sm_Y K (sm_fr (sm_st G (j + 1) s) (j + 1) v 0 0 k a t) fN fC fD fS' fA fB (upd fO j (nI v)) fP fL fM := by
  have h1 : sm_Y K (sm_st G (j + 1) s) fN fC fD fS' fA fB fO fP fL fM := by
    rcases hs with ⟨q, r⟩ | q
    · rw [q, r, sm_st_id]; exact h
    · rw [q]; exact sm_Y_st h (p := j + 1) (by omega) rfl
  obtain ⟨a1, a2, a3, a4, a5, a6, a7, a8, a9, a10⟩ := h
  refine sm_Y_fr h1 (by omega) (by omega) (fun i hi => pk_un hi) pk_us (fun i _ => rfl) ?_ (fun i _ => rfl) ?_
  · have := a9 j hj
    rw [la] at this
    exact this
  · have := a10 j hj
    rw [lb] at this
    exact this
/-- an element stored -/
theorem sm_X_push {k : Nat} {H : Nat → Nat → Nat} {eN eC eD eT eH eR : Nat → Int32} (h : sm_X k G eN eC eD eT eH eR)
    (e : ∀ i g, i ≤ 8 → H i g = G i g) (e9 : ∀ g, g ≠ k + 1 → H 9 g = G 9 g) (ec : G 1 (k + 1) = 10 → H 9 (k + 1) = G 2 (k + 1)) :
    sm_X (k + 1) H (upd eN k (nI (G 0 (k + 1)))) (upd eC k (nI (G 2 (k + 1)))) (upd eD k (nI (G 3 (k + 1)))) (upd eT k (sm_p (G 6 (k + 1)))) (upd eH k (sm_p (G 7 (k + 1)))) (upd eR k (nI (G 8 (k + 1)))) := by
  obtain ⟨h1, h2, h3, h4, h5, h6⟩ := h
  refine ⟨sm_en_n h1 (fun j _ _ => e 0 j (by omega)) (by rw [e 0 _ (by omega)]), sm_en_n h2 ?_ ?_, sm_en_n h3 (fun j _ _ => e 3 j (by omega)) (by rw [e 3 _ (by omega)]), sm_ep_n h4 (fun j _ _ => e 6 j (by omega)) (by rw [e 6 _ (by omega)]), sm_ep_n h5 (fun j _ _ => e 7 j (by omega)) (by rw [e 7 _ (by omega)]), sm_en_n h6 (fun j _ _ => e 8 j (by omega)) (by rw [e 8 _ (by omega)])⟩
  · intro j j1 j2
    unfold sm_ec
    rw [e 1 j (by omega), e 2 j (by omega), e9 j (by omega)]
  · unfold sm_ec
    rw [e 1 _ (by omega), e 2 _ (by omega)]
    by_cases q : G 1 (k + 1) = 10
    · rw [if_pos q, ec q]
    · rw [if_neg q]
/-- an element's outcome lengthened -/
theorem sm_X_arb {v : Nat} {H : Nat → Nat → Nat} {eN eC eD eT eH eR : Nat → Int32} (h : sm_X K G eN eC eD eT eH eR)
    (e : ∀ i g, i ≤ 8 → H i g = G i g) (e9 : ∀ g, g ≠ j + 1 → H 9 g = G 9 g) (k10 : G 1 (j + 1) = 10) (ev : H 9 (j + 1) = v) :
    sm_X K H eN (upd eC j (nI v)) eD eT eH eR := by
  obtain ⟨h1, h2, h3, h4, h5, h6⟩ := h
  have f : ∀ i, i ≤ 8 → H i = G i := fun i hi => by funext g; exact e i g hi
  refine ⟨by rw [f 0 (by omega)]; exact h1, ?_, by rw [f 3 (by omega)]; exact h3, by rw [f 6 (by omega)]; exact h4, by rw [f 7 (by omega)]; exact h5, by rw [f 8 (by omega)]; exact h6⟩
  refine sm_en_u (f := j + 1) h2 (by omega) ?_ ?_
  · intro g hg
    unfold sm_ec
    rw [e 1 g (by omega), e 2 g (by omega), e9 g hg]
  · unfold sm_ec
    rw [e 1 _ (by omega), if_pos k10, ev]
end
