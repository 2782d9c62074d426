/-! the pure layer: no machine from here on. Numbers of Int32 as integers; the class's invariant -/
theorem pz_lt {x y : Int32} : x < y ↔ x.toInt < y.toInt := Int32.lt_iff_toInt_lt
theorem pz_le {x y : Int32} : x ≤ y ↔ x.toInt ≤ y.toInt := Int32.le_iff_toInt_le
theorem pz_eq {x y : Int32} : x = y ↔ x.toInt = y.toInt := Int32.toInt_inj.symm
theorem pz_in {x : Int32} {n : Nat} : vp_in x n ↔ 0 ≤ x.toInt ∧ x.toInt < n := vp_in_iff
theorem pz_b (x : Int32) : -2147483648 ≤ x.toInt ∧ x.toInt < 2147483648 := ⟨Int32.le_toInt x, Int32.toInt_lt x⟩
theorem pz_cl (x : Int32) : x.toNatClampNeg = x.toInt.toNat := rfl
theorem pz_add {x y : Int32} (h : -2147483648 ≤ x.toInt + y.toInt ∧ x.toInt + y.toInt < 2147483648) : (x + y).toInt = x.toInt + y.toInt := by
  rw [Int32.toInt_add]
  exact Int.bmod_eq_of_le (by omega) (by omega)
theorem pz_sub {x y : Int32} (h : -2147483648 ≤ x.toInt - y.toInt ∧ x.toInt - y.toInt < 2147483648) : (x - y).toInt = x.toInt - y.toInt := by
  rw [Int32.toInt_sub]
  exact Int.bmod_eq_of_le (by omega) (by omega)
theorem pz_1 {x : Int32} (h : x.toInt < 2147483647) : (x + 1).toInt = x.toInt + 1 := by
  have h2 := pz_b x
  have h1 : (1 : Int32).toInt = 1 := by decide
  rw [pz_add (by rw [h1]; omega), h1]
theorem pz_nI {n : Nat} (h : n < 2147483648) : (nI n).toInt = n := nI_toInt h
theorem pu_at (σ : io_M) (k j : Nat) (v : Int32) (k' j' : Nat) : io_up σ k j v k' j' = if k' = k then (if j' = j then v else σ k j') else σ k' j' := by
  unfold io_up va_up
  by_cases h : k' = k
  · rw [if_pos h, if_pos h]
  · rw [if_neg h, if_neg h]
theorem pu_ne {σ : io_M} {k j : Nat} {v : Int32} {k' : Nat} (h : k' ≠ k) : io_up σ k j v k' = σ k' := by
  unfold io_up va_up
  rw [if_neg h]
theorem pu_self {σ : io_M} {k j : Nat} {v : Int32} : io_up σ k j v k j = v := by rw [pu_at, if_pos rfl, if_pos rfl]
theorem pu_same {σ : io_M} {k j j' : Nat} {v : Int32} (h : j' ≠ j) : io_up σ k j v k j' = σ k j' := by rw [pu_at, if_pos rfl, if_neg h]
/-- what a place of the class's memory may hold -/
def io_ok (k j : Nat) (v : Int32) : Prop :=
  if k < 20 then (j = 2 → 0 ≤ v.toInt ∧ v.toInt ≤ 20) ∧ (j = 4 → 0 ≤ v.toInt ∧ v.toInt ≤ 7)
  else if k < 40 then True
  else if k < 60 then (j = 1 → v.toInt ≤ 19) ∧ (j = 2 → 0 ≤ v.toInt ∧ v.toInt ≤ 40)
  else if k < 89 then True
  else if k = 89 then io_bl v
  else if k = 91 then 0 ≤ v.toInt ∧ v.toInt ≤ 40
  else if k = 93 then (j = 2 → 0 ≤ v.toInt ∧ v.toInt ≤ 100) ∧ (j = 3 → 0 ≤ v.toInt ∧ v.toInt ≤ 100)
  else if k = 101 then (j = 2 → 0 ≤ v.toInt ∧ v.toInt ≤ 20)
  else if k = 103 then (j = 1 → 0 ≤ v.toInt ∧ v.toInt ≤ 20)
  else True
def io_CI (σ : io_M) : Prop := ∀ k j, io_ok k j (σ k j)
theorem io_CI.up {σ : io_M} (h : io_CI σ) {k j : Nat} {v : Int32} (hv : io_ok k j v) : io_CI (io_up σ k j v) := by
  intro k' j'
  rw [pu_at]
  by_cases hk : k' = k
  · rw [if_pos hk]
    by_cases hj : j' = j
    · rw [if_pos hj, hk, hj]
      exact hv
    · rw [if_neg hj, hk]
      exact h k j'
  · rw [if_neg hk]
    exact h k' j'
theorem ok_H {h j : Nat} {v : Int32} (hh : h < 20) (h2 : j = 2 → 0 ≤ v.toInt ∧ v.toInt ≤ 20) (h4 : j = 4 → 0 ≤ v.toInt ∧ v.toInt ≤ 7) : io_ok h j v := by
  unfold io_ok
  rw [if_pos hh]
  exact ⟨h2, h4⟩
theorem ok_B {h j : Nat} {v : Int32} (hh : h < 20) : io_ok (20 + h) j v := by
  unfold io_ok
  rw [if_neg (by omega), if_pos (by omega)]
  trivial
theorem ok_L {h j : Nat} {v : Int32} (hh : h < 20) (h2 : j = 1 → v.toInt ≤ 19) (h4 : j = 2 → 0 ≤ v.toInt ∧ v.toInt ≤ 40) : io_ok (40 + h) j v := by
  unfold io_ok
  rw [if_neg (by omega), if_neg (by omega), if_pos (by omega)]
  exact ⟨h2, h4⟩
theorem ok_I {h j : Nat} {v : Int32} (hh : h < 20) : io_ok (20 + (40 + h)) j v := by
  unfold io_ok
  rw [if_neg (by omega), if_neg (by omega), if_neg (by omega), if_pos (by omega)]
  trivial
theorem ok_R {h j : Nat} {v : Int32} (hh : h < 8) : io_ok (80 + h) j v := by
  unfold io_ok
  rw [if_neg (by omega), if_neg (by omega), if_neg (by omega), if_pos (by omega)]
  trivial
theorem ok_88 {j : Nat} {v : Int32} : io_ok 88 j v := trivial
theorem ok_89 {j : Nat} {v : Int32} (h : io_bl v) : io_ok 89 j v := h
theorem ok_91 {j : Nat} {v : Int32} (h : 0 ≤ v.toInt ∧ v.toInt ≤ 40) : io_ok 91 j v := h
theorem CI_w {σ : io_M} (h : io_CI σ) {k : Nat} (hk : k < 20) : 0 ≤ (σ k 2).toInt ∧ (σ k 2).toInt ≤ 20 := by
  have q := h k 2
  unfold io_ok at q
  rw [if_pos hk] at q
  exact q.1 rfl
theorem CI_f {σ : io_M} (h : io_CI σ) {k : Nat} (hk : k < 20) : 0 ≤ (σ k 4).toInt ∧ (σ k 4).toInt ≤ 7 := by
  have q := h k 4
  unfold io_ok at q
  rw [if_pos hk] at q
  exact q.2 rfl
theorem CI_s {σ : io_M} (h : io_CI σ) {k : Nat} (hk : k < 20) : (σ (40 + k) 1).toInt ≤ 19 := by
  have q := h (40 + k) 1
  unfold io_ok at q
  rw [if_neg (by omega), if_neg (by omega), if_pos (by omega)] at q
  exact q.1 rfl
theorem CI_l {σ : io_M} (h : io_CI σ) {k : Nat} (hk : k < 20) : 0 ≤ (σ (40 + k) 2).toInt ∧ (σ (40 + k) 2).toInt ≤ 40 := by
  have q := h (40 + k) 2
  unfold io_ok at q
  rw [if_neg (by omega), if_neg (by omega), if_pos (by omega)] at q
  exact q.2 rfl
theorem CI_89 {σ : io_M} (h : io_CI σ) (j : Nat) : io_bl (σ 89 j) := h 89 j
theorem CI_91 {σ : io_M} (h : io_CI σ) (j : Nat) : 0 ≤ (σ 91 j).toInt ∧ (σ 91 j).toInt ≤ 40 := h 91 j
theorem CI_come {σ : io_M} (h : io_CI σ) : 0 ≤ (σ 93 2).toInt ∧ (σ 93 2).toInt ≤ 100 := (h 93 2).1 rfl
theorem CI_gone {σ : io_M} (h : io_CI σ) : 0 ≤ (σ 93 3).toInt ∧ (σ 93 3).toInt ≤ 100 := (h 93 3).2 rfl
theorem CI_hc {σ : io_M} (h : io_CI σ) : 0 ≤ (σ 101 2).toInt ∧ (σ 101 2).toInt ≤ 20 := h 101 2 rfl
theorem CI_lc {σ : io_M} (h : io_CI σ) : 0 ≤ (σ 103 1).toInt ∧ (σ 103 1).toInt ≤ 20 := h 103 1 rfl
/-- nothing but disk, handles, buffers, lists changed -/
def io_F1 (σ σ' : io_M) : Prop := σ' 90 = σ 90 ∧ ∀ k, 92 ≤ k → σ' k = σ k
/-- nothing but the disk changed -/
def io_F0 (σ σ' : io_M) : Prop := σ' 90 = σ 90 ∧ (∀ k, k < 80 → σ' k = σ k) ∧ ∀ k, 92 ≤ k → σ' k = σ k
theorem io_F1.rf {σ : io_M} : io_F1 σ σ := ⟨rfl, fun _ _ => rfl⟩
theorem io_F1.tr {a b c : io_M} (h : io_F1 a b) (g : io_F1 b c) : io_F1 a c := ⟨g.1.trans h.1, fun k hk => (g.2 k hk).trans (h.2 k hk)⟩
theorem io_F0.rf {σ : io_M} : io_F0 σ σ := ⟨rfl, fun _ _ => rfl, fun _ _ => rfl⟩
theorem io_F0.tr {a b c : io_M} (h : io_F0 a b) (g : io_F0 b c) : io_F0 a c := ⟨g.1.trans h.1, fun k hk => (g.2.1 k hk).trans (h.2.1 k hk), fun k hk => (g.2.2 k hk).trans (h.2.2 k hk)⟩
theorem io_F0.to1 {a b : io_M} (h : io_F0 a b) : io_F1 a b := ⟨h.1, h.2.2⟩
theorem io_F1.up {σ σ' : io_M} (h : io_F1 σ σ') {k j : Nat} {v : Int32} (hk : k < 90 ∨ k = 91) : io_F1 σ (io_up σ' k j v) := ⟨by rw [pu_ne (by omega)]; exact h.1, fun z hz => by rw [pu_ne (by omega)]; exact h.2 z hz⟩
theorem io_F0.up {σ σ' : io_M} (h : io_F0 σ σ') {k j : Nat} {v : Int32} (hk : (80 ≤ k ∧ k < 90) ∨ k = 91) : io_F0 σ (io_up σ' k j v) := ⟨by rw [pu_ne (by omega)]; exact h.1, fun z hz => by rw [pu_ne (by omega)]; exact h.2.1 z hz, fun z hz => by rw [pu_ne (by omega)]; exact h.2.2 z hz⟩
theorem pz_nlt {x y : Int32} (h : ¬ x < y) : y.toInt ≤ x.toInt := Int.not_lt.mp (fun q => h (pz_lt.mpr q))
theorem pz_nle {x y : Int32} (h : ¬ x ≤ y) : y.toInt < x.toInt := Int.not_le.mp (fun q => h (pz_le.mpr q))
theorem sp_within {σ : io_M} {x n : Int32} {post : Int32 → io_M → Prop} (h0 : ¬ (0 ≤ x.toInt ∧ x.toInt < n.toInt) → post 0 σ) (h1 : 0 ≤ x.toInt ∧ x.toInt < n.toInt → post 1 σ) : wp_X9_within σ x n post := by
  have hz : (0 : Int32).toInt = 0 := by decide
  refine ⟨fun c => h0 (fun q => ?_), fun c => ⟨fun d => h0 (fun q => ?_), fun d => h1 ?_⟩⟩
  · have := pz_lt.mp c
    omega
  · have := pz_le.mp d
    omega
  · have h2 := pz_nlt c
    have h3 := pz_nle d
    omega
theorem vz_1 : vp_nar .boolean 1 = 1 := by decide
theorem vz_0 : vp_nar .boolean 0 = 0 := by decide
