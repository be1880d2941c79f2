section
variable {K n nc j : Nat} {kn : Nat → Nat} {G : Nat → Nat → Nat} {fN fC fD fS fA fB fO fP fL fM tE tN : Nat → Int32}
/-- the frame j + 1, unfrozen and last, yields v -/
theorem sm_T2 {v s a : Nat} {fS' : Nat → Int32} (I : sm_inv K n G) (Y : sm_Y K G fN fC fD fS fA fB fO fP fL fM) (T : sm_T G tE tN) (N : sm_N K nc kn G)
    (lx : G 15 (j + 1) = 1) (ox : G 16 (j + 1) ≠ 1) (top : ∀ h, G 15 h = 1 → h ≤ j + 1) (hv1 : G 2 (j + 1) ≤ v) (hv2 : v ≤ n)
    (la : G 13 (j + 1) = 0) (lb : G 14 (j + 1) = 0) (hs : (fS' = fS ∧ s = G 9 (j + 1)) ∨ fS' = upd fS j (nI s))
    (hk : (G 1 (j + 1) ≤ 11 ∧ G 1 (j + 1) ≠ 10 ∧ a = G 7 (j + 1)) ∨ (G 1 (j + 1) = 10 ∧ a = j + 1 ∧ s = v) ∨ (G 1 (j + 1) = 13 ∧ a = j + 1 ∧ s = 1)) :
    ∃ H, sm_inv K n H ∧ sm_e2 K H (j + 1) ∧ sm_Y K H fN fC fD fS' fA fB (upd fO j (nI v)) fP fL fM ∧ sm_T H tE tN ∧ sm_N K nc kn H ∧
      (∀ i g, i ≤ 8 → H i g = G i g) ∧ (∀ g, g ≠ j + 1 → H 9 g = G 9 g) ∧ H 9 (j + 1) = s ∧ H 12 (j + 1) = v ∧ H 18 (j + 1) = a ∧
      H 19 (j + 1) = G 8 (j + 1) ∧ (∀ g, H 20 g = G 20 g) := by
  have jK := (I.2.1 _ lx).1
  obtain ⟨I1, E1⟩ := sm_yld (s := s) (a := a) I (by omega) lx ox top hv1 hv2 hk
  refine ⟨_, I1, E1, sm_Y_yld Y (by omega) la lb hs, ?_, ?_, ?_, ?_, ?_, ?_, ?_, ?_, ?_⟩
  · intro f hf lf zf kf
    have q : f ≠ j + 1 := by
      intro q
      rw [q, sm_fr_o (by omega), sm_st_o (by omega)] at kf
      omega
    rw [sm_fr_n q, sm_st_o (by omega)] at lf zf kf
    rw [sm_fr_n q, sm_fr_n q, sm_st_o (by omega), sm_st_o (by omega)]
    exact T f hf lf zf kf
  · exact sm_N_s N (by rw [sm_fr_o (by omega), sm_st_o (by omega)]) (by rw [sm_fr_o (by omega), sm_st_o (by omega)]) (by rw [sm_fr_o (by omega), sm_st_o (by omega)]) (by rw [sm_fr_o (by omega), sm_st_o (by omega)])
  · intro i g hi
    rw [sm_fr_o (by omega), sm_st_o (by omega)]
  · intro g hg
    rw [sm_fr_n hg, sm_st_n hg]
  · rw [sm_fr_o (by omega), sm_st_e]
  · rw [sm_fr_12]
  · rw [sm_fr_18]
  · rw [sm_fr_19]
  · intro g
    rw [sm_fr_o (by omega), sm_st_o (by omega)]
/-- the frame j + 1 is exhausted -/
theorem sm_T3 (I : sm_inv K n G) (Y : sm_Y K G fN fC fD fS fA fB fO fP fL fM) (T : sm_T G tE tN) (N : sm_N K nc kn G)
    (lx : G 15 (j + 1) = 1) (px : G 16 (G 4 (j + 1)) ≠ 1) :
    ∃ H, sm_inv K n H ∧ sm_e3 K H (j + 1) ∧ sm_Y K H fN fC fD fS fA fB fO fP fL fM ∧ sm_T H tE tN ∧ sm_N K nc kn H ∧ (∀ i, i ≠ 15 → H i = G i) := by
  obtain ⟨I1, E1⟩ := sm_die I (by omega) lx px
  refine ⟨_, I1, E1, sm_Y_s Y (fun i hi => sm_ct_o (by omega)) ?_, sm_T_s T (sm_ct_o (by omega)) ?_, sm_N_s N (sm_ct_o (by omega)) (sm_ct_o (by omega)) (sm_ct_o (by omega)) (sm_ct_o (by omega)), fun i hi => sm_ct_o hi⟩
  · intro f lf zf
    rw [sm_ct_o (by omega)] at zf
    exact ⟨(sm_ct_l.mp lf).1, zf⟩
  · intro f lf zf
    rw [sm_ct_o (by omega)] at zf
    rw [sm_ct_o (by omega), sm_ct_o (by omega)]
    exact ⟨(sm_ct_l.mp lf).1, zf, fun _ => ⟨rfl, rfl⟩⟩
/-- under the frame j + 1, unfrozen and last, a child in slot 0 -/
theorem sm_TA {nd dd tk ch : Nat} (I : sm_inv K n G) (Y : sm_Y K G fN fC fD fS fA fB fO fP fL fM) (T : sm_T G tE tN) (N : sm_N K nc kn G)
    (lp : G 15 (j + 1) = 1) (op : G 16 (j + 1) ≠ 1) (top : ∀ h, G 15 h = 1 → h ≤ j + 1) (k12 : 12 ≤ G 1 (j + 1)) (k13 : G 1 (j + 1) = 13 → G 9 (j + 1) = 2) (k18 : G 1 (j + 1) = 18 → G 9 (j + 1) ≤ 1)
    (hn : nd < nc) (hk : kn nd ≤ 18) (hd8 : dd ≤ 8)
    (ht : ((G 1 (j + 1) = 12 ∨ G 1 (j + 1) = 18) ∧ tk = G 6 (j + 1)) ∨ (G 1 (j + 1) ≠ 12 ∧ G 1 (j + 1) ≠ 18 ∧ tk = j + 1))
    (hc : (G 1 (j + 1) = 18 ∧ G 9 (j + 1) = 0 ∧ ch = j + 1) ∨ ((G 1 (j + 1) ≠ 18 ∨ G 9 (j + 1) ≠ 0) ∧ ch = G 7 (j + 1))) :
    ∃ H, sm_inv (K + 1) n H ∧ sm_e0 (K + 1) H ∧
      sm_Y (K + 1) H (upd fN K (nI nd)) (upd fC K (nI (G 2 (j + 1)))) (upd fD K (nI dd)) (upd fS K 0) (upd (upd fA K (-1)) j (nI K)) (upd fB K (-1)) (upd fO K (-1)) (upd fP K (nI j)) (upd fL K (-1)) (upd fM K (-1)) ∧
      sm_T H tE tN ∧ sm_N (K + 1) nc kn H ∧ (∀ eN eC eD eT eH eR, sm_X K G eN eC eD eT eH eR → sm_X K H eN eC eD eT eH eR) ∧
      H 0 (K + 1) = nd ∧ H 2 (K + 1) = G 2 (j + 1) ∧ H 3 (K + 1) = dd ∧ H 6 (K + 1) = tk ∧ H 7 (K + 1) = ch ∧ H 8 (K + 1) = G 8 (j + 1) := by
  have jK := (I.2.1 _ lp).1
  obtain ⟨I1, E1⟩ := sm_des (nd := nd) (dd := dd) I lp op top k12 k13 k18 hk ht hc
  refine ⟨_, I1, E1, sm_Y_nwA Y (by omega) (fun g hg => (I.2.1 g hg).1), sm_T_nw T (by rw [sm_rw16]; omega) (Or.inl rfl), sm_N_nw N ⟨hn, rfl, hd8⟩ (Or.inl rfl) (by omega), fun eN eC eD eT eH eR h => sm_X_nw h (Or.inl rfl), ?_, ?_, ?_, ?_, ?_, ?_⟩
  all_goals rw [sm_nw_k]; rfl
/-- the slot 0 child f + 1 of j + 1 has yielded: a child in slot 1 -/
theorem sm_TB {nd dd f : Nat} (I : sm_inv K n G) (E : sm_e2 K G (f + 1)) (Y : sm_Y K G fN fC fD fS fA fB fO fP fL fM) (T : sm_T G tE tN) (N : sm_N K nc kn G)
    (hp : G 4 (f + 1) = j + 1) (sf : G 5 (f + 1) = 0) (kp : G 1 (j + 1) = 13 ∨ G 1 (j + 1) = 17) (hn : nd < nc) (hk : kn nd ≤ 18) (hd8 : dd ≤ 8) :
    ∃ H, sm_inv (K + 1) n H ∧ sm_e0 (K + 1) H ∧
      sm_Y (K + 1) H (upd fN K (nI nd)) (upd fC K (nI (G 12 (f + 1)))) (upd fD K (nI dd)) (upd fS K 0) (upd fA K (-1)) (upd (upd fB K (-1)) j (nI K)) (upd fO K (-1)) (upd fP K (nI j)) (upd fL K (-1)) (upd fM K (-1)) ∧
      sm_T H tE tN ∧ sm_N (K + 1) nc kn H ∧ (∀ eN eC eD eT eH eR, sm_X K G eN eC eD eT eH eR → sm_X K H eN eC eD eT eH eR) ∧
      H 0 (K + 1) = nd ∧ H 2 (K + 1) = G 12 (f + 1) ∧ H 3 (K + 1) = dd ∧ H 6 (K + 1) = G 6 (j + 1) ∧ H 7 (K + 1) = G 18 (f + 1) ∧ H 8 (K + 1) = G 19 (f + 1) := by
  have l1 := (I.2.2.1 (f + 1) (by omega) E.2.1).1
  have fK := (I.2.1 _ E.2.1).1
  rw [hp] at l1
  obtain ⟨I1, E1⟩ := sm_nx (nd := nd) (dd := dd) I E hp sf kp hk
  refine ⟨_, I1, E1, sm_Y_nwB Y (by omega) (fun g hg => (I.2.1 g hg).1), sm_T_nw T (by rw [sm_rw16]; omega) (Or.inr rfl), sm_N_nw N ⟨hn, rfl, hd8⟩ (Or.inr rfl) (by omega), fun eN eC eD eT eH eR h => sm_X_nw h (Or.inr rfl), ?_, ?_, ?_, ?_, ?_, ?_⟩
  all_goals rw [sm_nw_k]; rfl
/-- the frame f + 1 has yielded and j + 1 hands it on -/
theorem sm_TP {f la lb a t : Nat} {fL' fM' tE' tN' : Nat → Int32} (I : sm_inv K n G) (E : sm_e2 K G (f + 1)) (Y : sm_Y K G fN fC fD fS fA fB fO fP fL fM) (T : sm_T G tE tN) (N : sm_N K nc kn G)
    (hp : G 4 (f + 1) = j + 1)
    (hc : (G 5 (f + 1) = 0 ∧ (G 1 (j + 1) = 12 ∨ G 1 (j + 1) = 14 ∨ G 1 (j + 1) = 15 ∨ G 1 (j + 1) = 16 ∨ G 1 (j + 1) = 18) ∧ la = f + 1 ∧ lb = 0 ∧
        ((G 1 (j + 1) = 14 ∧ a = G 7 (j + 1)) ∨ (G 1 (j + 1) ≠ 14 ∧ a = G 18 (f + 1))) ∧ ((G 1 (j + 1) = 16 ∧ t = G 19 (f + 1) + 1) ∨ (G 1 (j + 1) ≠ 16 ∧ t = G 19 (f + 1)))) ∨
      (G 5 (f + 1) = 1 ∧ la = G 10 (j + 1) ∧ lb = f + 1 ∧ a = G 18 (f + 1) ∧ t = G 19 (f + 1)))
    (hL : fL' = upd fL j (sm_p la)) (hM : (fM' = fM ∧ lb = 0) ∨ fM' = upd fM j (sm_p lb))
    (hT : (G 1 (j + 1) ≠ 16 ∧ tE' = tE ∧ tN' = tN) ∨ (tE' = upd tE (G 19 (f + 1)) (nI j) ∧ tN' = upd tN (G 19 (f + 1)) (nI (G 12 (f + 1))))) :
    ∃ H, sm_inv K n H ∧ sm_e2 K H (j + 1) ∧ sm_Y K H fN fC fD fS fA fB (upd fO j (nI (G 12 (f + 1)))) fP fL' fM' ∧ sm_T H tE' tN' ∧ sm_N K nc kn H ∧
      (∀ i, i ≤ 9 → H i = G i) ∧ H 12 (j + 1) = G 12 (f + 1) ∧ H 18 (j + 1) = a ∧ H 19 (j + 1) = t ∧ H 20 = G 20 := by
  have l := I.2.2.1 (f + 1) (by omega) E.2.1
  have l1 := l.1
  have lj := l.2.1
  have fK := (I.2.1 _ E.2.1).1
  have bj := I.2.1 _ lj
  rw [hp] at l1 lj bj
  have k16 : G 1 (j + 1) = 16 → t = G 19 (f + 1) + 1 := by
    intro z
    rcases hc with ⟨c1, c2, c3, c4, c5, c6⟩ | ⟨c1, c2⟩
    · omega
    · rcases l.2.2.2.2.2.2 with q | q
      · have := q.1; omega
      · have := q.2.1; rw [hp] at this; omega
  have lb0 : lb = 0 → G 14 (j + 1) = 0 := by
    intro z
    rcases hc with ⟨c1, c2, c3, c4, c5, c6⟩ | ⟨c1, c2, c3, c4⟩
    · exact bj.2.2.2.2.2.1 (by omega) (by omega)
    · omega
  obtain ⟨I1, E1⟩ := sm_pas (la := la) (lb := lb) (a := a) (t := t) I E hp (by omega) hc
  have Y' := Y
  obtain ⟨a1, a2, a3, a4, a5, a6, a7, a8, a9, a10⟩ := Y'
  refine ⟨_, I1, E1, ?_, ?_, ?_, ?_, ?_, ?_, ?_, ?_⟩
  · refine sm_Y_fr Y (by omega) (by omega) (fun i hi => pk_un hi) pk_us (fun i hi => by rw [hL]; exact pk_un hi) (by rw [hL]; exact pk_us) ?_ ?_
    · intro i hi
      rcases hM with ⟨q, _⟩ | q
      · rw [q]
      · rw [q]; exact pk_un hi
    · rcases hM with ⟨q, z⟩ | q
      · rw [q, z]
        have := a10 j (by omega)
        rw [lb0 z] at this
        exact this
      · rw [q]; exact pk_us
  · intro g hg lg zg kg
    by_cases q : g = j + 1
    · rw [q, sm_fr_o (by omega)] at kg
      rw [q, sm_fr_19, sm_fr_12, k16 kg]
      rcases hT with ⟨r, _⟩ | ⟨r, s⟩
      · exact absurd kg r
      · rw [r, s]
        exact ⟨pk_us, pk_us⟩
    · rw [sm_fr_n q] at lg zg kg
      rw [sm_fr_n q, sm_fr_n q]
      have tg := T g hg lg zg kg
      rcases hT with ⟨_, r, s⟩ | ⟨r, s⟩
      · rw [r, s]; exact tg
      · have m := E.2.2.2.2.2.1 g lg zg
        have c : 1 ≤ G 19 g := by
          obtain ⟨z1, z2, z3, z4, z5, z6⟩ := I.2.2.2.1 g lg zg
          rcases z6 with z6 | z6 | z6
          · have := z6.1; omega
          · obtain ⟨y1, y2, y3, y4, y5, y6, y7⟩ := z6
            omega
          · have := z6.1; omega
        rw [r, s, pk_un (by omega), pk_un (by omega)]
        exact tg
  · exact sm_N_s N (sm_fr_o (by omega)) (sm_fr_o (by omega)) (sm_fr_o (by omega)) (sm_fr_o (by omega))
  · intro i hi
    exact sm_fr_o (by omega)
  · rw [sm_fr_12]
  · rw [sm_fr_18]
  · rw [sm_fr_19]
  · exact sm_fr_o (by omega)
/-- x is asked and asks its child c -/
theorem sm_TK {x c : Nat} (I : sm_inv K n G) (E : sm_e1 G x) (Y : sm_Y K G fN fC fD fS fA fB fO fP fL fM) (T : sm_T G tE tN) (N : sm_N K nc kn G) (ck : sm_ck G x c) :
    ∃ H, sm_inv K n H ∧ sm_e1 H c ∧ sm_Y K H fN fC fD fS fA fB fO fP fL fM ∧ sm_T H tE tN ∧ sm_N K nc kn H ∧ (∀ i, i ≠ 16 → H i = G i) := by
  obtain ⟨I1, E1⟩ := sm_ask I E ck
  have z : ∀ f, sm_op G x 16 f = 1 → G 16 f = 1 := by
    intro f zf
    by_cases q : f = x
    · rw [q, sm_op_e] at zf; omega
    · rw [sm_op_n q] at zf; exact zf
  refine ⟨_, I1, E1, sm_Y_s Y (fun i hi => sm_op_o (by omega)) ?_, sm_T_s T (sm_op_o (by omega)) ?_, sm_N_s N (sm_op_o (by omega)) (sm_op_o (by omega)) (sm_op_o (by omega)) (sm_op_o (by omega)), fun i hi => sm_op_o hi⟩
  · intro f lf zf
    rw [sm_op_o (by omega)] at lf
    exact ⟨lf, z f zf⟩
  · intro f lf zf
    rw [sm_op_o (by omega)] at lf
    rw [sm_op_o (by omega), sm_op_o (by omega)]
    exact ⟨lf, z f zf, fun _ => ⟨rfl, rfl⟩⟩
/-- x is asked, and everything behind it is gone -/
theorem sm_TT {x : Nat} (I : sm_inv K n G) (E : sm_e1 G x) (Y : sm_Y K G fN fC fD fS fA fB fO fP fL fM) (T : sm_T G tE tN) (N : sm_N K nc kn G) :
    ∃ H, sm_inv K n H ∧ H 15 x = 1 ∧ H 16 x ≠ 1 ∧ (∀ h, H 15 h = 1 → h ≤ x) ∧ sm_Y K H fN fC fD fS fA fB fO fP fL fM ∧ sm_T H tE tN ∧ sm_N K nc kn H ∧ (∀ i, i ≠ 15 → i ≠ 16 → H i = G i) := by
  obtain ⟨I1, E1⟩ := sm_top I E
  have e : ∀ i, i ≠ 15 → i ≠ 16 → sm_ct (sm_op G x) (x + 1) i = G i := fun i h1 h2 => by rw [sm_ct_o h1, sm_op_o h2]
  have z : ∀ f, sm_ct (sm_op G x) (x + 1) 15 f = 1 → sm_ct (sm_op G x) (x + 1) 16 f = 1 → G 15 f = 1 ∧ G 16 f = 1 := by
    intro f lf zf
    have lf := (sm_ct_l.mp lf).1
    rw [sm_op_o (by omega)] at lf
    rw [sm_ct_o (by omega)] at zf
    by_cases q : f = x
    · rw [q, sm_op_e] at zf; omega
    · rw [sm_op_n q] at zf; exact ⟨lf, zf⟩
  refine ⟨_, I1, ?_, ?_, E1, sm_Y_s Y (fun i hi => e i (by omega) (by omega)) z, sm_T_s T (e 1 (by omega) (by omega)) ?_, sm_N_s N (e 0 (by omega) (by omega)) (e 1 (by omega) (by omega)) (e 10 (by omega) (by omega)) (e 3 (by omega) (by omega)), e⟩
  · rw [sm_ct_l]
    refine ⟨?_, by omega⟩
    rw [sm_op_o (by omega)]
    exact E.2.1
  · rw [sm_ct_o (by omega), sm_op_e]; omega
  · intro f lf zf
    obtain ⟨l, r⟩ := z f lf zf
    rw [e 12 (by omega) (by omega), e 19 (by omega) (by omega)]
    exact ⟨l, r, fun _ => ⟨rfl, rfl⟩⟩
/-- everything behind the unfrozen frame x is gone -/
theorem sm_TC {x : Nat} (I : sm_inv K n G) (lx : G 15 x = 1) (ox : G 16 x ≠ 1) (Y : sm_Y K G fN fC fD fS fA fB fO fP fL fM) (T : sm_T G tE tN) (N : sm_N K nc kn G) :
    ∃ H, sm_inv K n H ∧ H 15 x = 1 ∧ H 16 x ≠ 1 ∧ (∀ h, H 15 h = 1 → h ≤ x) ∧ sm_Y K H fN fC fD fS fA fB fO fP fL fM ∧ sm_T H tE tN ∧ sm_N K nc kn H ∧ (∀ i, i ≠ 15 → H i = G i) := by
  obtain ⟨I1, E1⟩ := sm_cutb I lx ox
  have e : ∀ i, i ≠ 15 → sm_ct G (x + 1) i = G i := fun i h1 => by rw [sm_ct_o h1]
  refine ⟨_, I1, ?_, ?_, E1, sm_Y_s Y (fun i hi => e i (by omega)) ?_, sm_T_s T (e 1 (by omega)) ?_, sm_N_s N (e 0 (by omega)) (e 1 (by omega)) (e 10 (by omega)) (e 3 (by omega)), e⟩
  · rw [sm_ct_l]
    exact ⟨lx, by omega⟩
  · rw [sm_ct_o (by omega)]; exact ox
  · intro f lf zf
    rw [e 16 (by omega)] at zf
    exact ⟨(sm_ct_l.mp lf).1, zf⟩
  · intro f lf zf
    rw [e 16 (by omega)] at zf
    rw [e 12 (by omega), e 19 (by omega)]
    exact ⟨(sm_ct_l.mp lf).1, zf, fun _ => ⟨rfl, rfl⟩⟩
/-- the state cell of the unfrozen last frame j + 1 is set -/
theorem sm_TS {s : Nat} (I : sm_inv K n G) (ox : G 16 (j + 1) ≠ 1) (top : ∀ h, G 15 h = 1 → h ≤ j + 1) (Y : sm_Y K G fN fC fD fS fA fB fO fP fL fM) (T : sm_T G tE tN) (N : sm_N K nc kn G) (k10 : G 1 (j + 1) ≠ 10) :
    ∃ H, sm_inv K n H ∧ sm_Y K H fN fC fD (upd fS j (nI s)) fA fB fO fP fL fM ∧ sm_T H tE tN ∧ sm_N K nc kn H ∧ (∀ i, i ≠ 9 → H i = G i) ∧ H 9 (j + 1) = s ∧
      (∀ eN eC eD eT eH eR, sm_X K G eN eC eD eT eH eR → sm_X K H eN eC eD eT eH eR) := by
  have e : ∀ i, i ≠ 9 → sm_st G (j + 1) s i = G i := fun i h1 => sm_st_o h1
  refine ⟨_, sm_setst I ox top e (fun g hg => sm_st_n hg), sm_Y_st (p := j + 1) Y (by omega) rfl, sm_T_s T (e 1 (by omega)) ?_, sm_N_s N (e 0 (by omega)) (e 1 (by omega)) (e 10 (by omega)) (e 3 (by omega)), e, sm_st_e, ?_⟩
  · intro f lf zf
    rw [e 15 (by omega)] at lf
    rw [e 16 (by omega)] at zf
    rw [e 12 (by omega), e 19 (by omega)]
    exact ⟨lf, zf, fun _ => ⟨rfl, rfl⟩⟩
  · intro eN eC eD eT eH eR h
    obtain ⟨h1, h2, h3, h4, h5, h6⟩ := h
    have ec : sm_ec (sm_st G (j + 1) s) = sm_ec G := by
      funext f
      unfold sm_ec
      rw [e 1 (by omega), e 2 (by omega)]
      by_cases q : f = j + 1
      · rw [q, if_neg k10, if_neg k10]
      · rw [sm_st_n q]
    unfold sm_X
    rw [e 0 (by omega), e 3 (by omega), e 6 (by omega), e 7 (by omega), e 8 (by omega), ec]
    exact ⟨h1, h2, h3, h4, h5, h6⟩
end
