theorem pk_us {f : Nat → Int32} {k : Nat} {x : Int32} : upd f k x k = x := by unfold upd; rw [if_pos rfl]
theorem pk_un {f : Nat → Int32} {k j : Nat} {x : Int32} (h : j ≠ k) : upd f k x j = f j := by unfold upd; rw [if_neg h]
/-- pointers: the code 0 is none, the code c + 1 is c -/
def sm_p (c : Nat) : Int32 := if c = 0 then -1 else nI (c - 1)
theorem sm_p0 : sm_p 0 = -1 := rfl
theorem sm_ps (c : Nat) : sm_p (c + 1) = nI c := by unfold sm_p; rw [if_neg (by omega)]; rfl
theorem sm_p1 {c : Nat} (h : 1 ≤ c) : sm_p c = nI (c - 1) := by unfold sm_p; rw [if_neg (by omega)]
theorem sm_z0 : (0 : Int32).toInt = 0 := by decide
theorem sm_m1 : (-1 : Int32).toInt = -1 := by decide
theorem sm_toInt {c : Nat} (h : c < 2 ^ 31) : (sm_p c).toInt = (c : Int) - 1 := by
  unfold sm_p
  by_cases q : c = 0
  · rw [if_pos q, sm_m1, q]; rfl
  · rw [if_neg q, nI_toInt (by omega)]; omega
theorem sm_peq {a b : Nat} (ha : a < 2 ^ 31) (hb : b < 2 ^ 31) : sm_p a = sm_p b ↔ a = b := by
  rw [← Int32.toInt_inj, sm_toInt ha, sm_toInt hb]; omega
theorem sm_plt {c : Nat} (h : c < 2 ^ 31) : sm_p c < 0 ↔ c = 0 := by
  rw [Int32.lt_iff_toInt_lt, sm_toInt h, sm_z0]
  omega
theorem sm_peq1 {c : Nat} (h : c < 2 ^ 31) : sm_p c = -1 ↔ c = 0 := by
  rw [← sm_p0, sm_peq h (by omega)]
def sm_en (K : Nat) (A : Nat → Int32) (g : Nat → Nat) : Prop := ∀ i, i < K → A i = nI (g (i + 1))
def sm_ep (K : Nat) (A : Nat → Int32) (g : Nat → Nat) : Prop := ∀ i, i < K → A i = sm_p (g (i + 1))
theorem sm_en_g {K f : Nat} {A : Nat → Int32} {g : Nat → Nat} (h : sm_en K A g) (h1 : 1 ≤ f) (h2 : f ≤ K) : A (f - 1) = nI (g f) := by
  have := h (f - 1) (by omega)
  rw [this]
  congr 2
  omega
theorem sm_ep_g {K f : Nat} {A : Nat → Int32} {g : Nat → Nat} (h : sm_ep K A g) (h1 : 1 ≤ f) (h2 : f ≤ K) : A (f - 1) = sm_p (g f) := by
  have := h (f - 1) (by omega)
  rw [this]
  congr 2
  omega
/-- one cell changes -/
theorem sm_en_u {K f : Nat} {A : Nat → Int32} {g g' : Nat → Nat} (h : sm_en K A g) (h1 : 1 ≤ f) (e : ∀ j, j ≠ f → g' j = g j) {v : Int32} (hv : v = nI (g' f)) : sm_en K (upd A (f - 1) v) g' := by
  intro i hi
  by_cases q : i = f - 1
  · rw [q, pk_us, hv]
    congr 2
    omega
  · rw [pk_un q, h i hi, e (i + 1) (by omega)]
theorem sm_ep_u {K f : Nat} {A : Nat → Int32} {g g' : Nat → Nat} (h : sm_ep K A g) (h1 : 1 ≤ f) (e : ∀ j, j ≠ f → g' j = g j) {v : Int32} (hv : v = sm_p (g' f)) : sm_ep K (upd A (f - 1) v) g' := by
  intro i hi
  by_cases q : i = f - 1
  · rw [q, pk_us, hv]
    congr 2
    omega
  · rw [pk_un q, h i hi, e (i + 1) (by omega)]
theorem sm_en_c {K : Nat} {A : Nat → Int32} {g g' : Nat → Nat} (h : sm_en K A g) (e : ∀ j, 1 ≤ j → j ≤ K → g' j = g j) : sm_en K A g' := by
  intro i hi
  rw [h i hi, e (i + 1) (by omega) (by omega)]
theorem sm_ep_c {K : Nat} {A : Nat → Int32} {g g' : Nat → Nat} (h : sm_ep K A g) (e : ∀ j, 1 ≤ j → j ≤ K → g' j = g j) : sm_ep K A g' := by
  intro i hi
  rw [h i hi, e (i + 1) (by omega) (by omega)]
/-- one cell more -/
theorem sm_en_n {K : Nat} {A : Nat → Int32} {g g' : Nat → Nat} (h : sm_en K A g) (e : ∀ j, 1 ≤ j → j ≤ K → g' j = g j) {v : Int32} (hv : v = nI (g' (K + 1))) : sm_en (K + 1) (upd A K v) g' := by
  intro i hi
  by_cases q : i = K
  · rw [q, pk_us, hv]
  · rw [pk_un q, h i (by omega), e (i + 1) (by omega) (by omega)]
theorem sm_ep_n {K : Nat} {A : Nat → Int32} {g g' : Nat → Nat} (h : sm_ep K A g) (e : ∀ j, 1 ≤ j → j ≤ K → g' j = g j) {v : Int32} (hv : v = sm_p (g' (K + 1))) : sm_ep (K + 1) (upd A K v) g' := by
  intro i hi
  by_cases q : i = K
  · rw [q, pk_us, hv]
  · rw [pk_un q, h i (by omega), e (i + 1) (by omega) (by omega)]
