/-! the reference: its invariant -/
theorem pz_mul40 {x : Int32} (h : 0 ≤ x.toInt ∧ x.toInt ≤ 1000) : (40 * x).toInt = 40 * x.toInt := by
  rw [Int32.toInt_mul, l_40]
  exact Int.bmod_eq_of_le (by omega) (by omega)
theorem pz_mul20 {x : Int32} (h : 0 ≤ x.toInt ∧ x.toInt ≤ 1000) : (20 * x).toInt = 20 * x.toInt := by
  rw [Int32.toInt_mul, l_20]
  exact Int.bmod_eq_of_le (by omega) (by omega)
theorem pz_41 {x y : Int32} (h : 0 ≤ x.toInt ∧ x.toInt ≤ 1000) (h2 : 0 ≤ y.toInt ∧ y.toInt ≤ 1000) : (40 * x + y).toInt = 40 * x.toInt + y.toInt := by
  have e := pz_mul40 h
  rw [pz_add (by omega), e]
theorem pz_21 {x y : Int32} (h : 0 ≤ x.toInt ∧ x.toInt ≤ 1000) (h2 : 0 ≤ y.toInt ∧ y.toInt ≤ 1000) : (20 * x + y).toInt = 20 * x.toInt + y.toInt := by
  have e := pz_mul20 h
  rw [pz_add (by omega), e]
theorem pz_s1 {x : Int32} (h : -2147483648 < x.toInt) : (x - 1).toInt = x.toInt - 1 := by
  have h2 := pz_b x
  have h1 := l_1
  rw [pz_sub (by omega), h1]
def ru (f : Nat → Int32) (p : Nat) (v : Int32) : Nat → Int32 := fun j => if j = p then v else f j
theorem ru_self {f : Nat → Int32} {p : Nat} {v : Int32} : ru f p v p = v := if_pos rfl
theorem ru_ne {f : Nat → Int32} {p j : Nat} {v : Int32} (h : j ≠ p) : ru f p v j = f j := if_neg h
theorem pu_row {σ : io_M} {k j : Nat} {v : Int32} : io_up σ k j v k = ru (σ k) j v := by
  funext j'
  rw [pu_at, if_pos rfl]
  rfl
/-- how many of the first n handles are not open -/
def rc_n (st : Nat → Int32) : Nat → Int
  | 0 => 0
  | n + 1 => rc_n st n + (if st n = 0 then 0 else 1)
theorem rc_le (st : Nat → Int32) : ∀ n : Nat, rc_n st n ≤ n := by
  intro n
  induction n with
  | zero => exact Int.le_refl _
  | succ n ih =>
    unfold rc_n
    by_cases h : st n = 0
    · rw [if_pos h]; omega
    · rw [if_neg h]; omega
theorem rc_cg {st st' : Nat → Int32} : ∀ n : Nat, (∀ j, j < n → st' j = st j) → rc_n st' n = rc_n st n := by
  intro n
  induction n with
  | zero => intro _; rfl
  | succ n ih =>
    intro h
    unfold rc_n
    rw [ih (fun j hj => h j (by omega)), h n (by omega)]
theorem rc_mono {st : Nat → Int32} {p : Nat} {v : Int32} (hv : ¬ v = 0) : ∀ n : Nat, rc_n st n ≤ rc_n (ru st p v) n := by
  intro n
  induction n with
  | zero => exact Int.le_refl _
  | succ n ih =>
    unfold rc_n
    by_cases h : n = p
    · subst h
      rw [ru_self, if_neg hv]
      by_cases h2 : st n = 0
      · rw [if_pos h2]; omega
      · rw [if_neg h2]; omega
    · rw [ru_ne h]; omega
theorem rc_strict {st : Nat → Int32} {p : Nat} {v : Int32} (hv : ¬ v = 0) (h0 : st p = 0) : ∀ n : Nat, p < n → rc_n st n + 1 ≤ rc_n (ru st p v) n := by
  intro n
  induction n with
  | zero => intro h; omega
  | succ n ih =>
    intro hp
    unfold rc_n
    by_cases h : n = p
    · subst h
      rw [ru_self, if_neg hv, if_pos h0]
      have := rc_mono (st := st) (p := n) hv n
      omega
    · rw [ru_ne h]
      have := ih (by omega)
      omega
def rw_c (e : Prop) (b w : Int) : Prop := (0 ≤ b ∧ b ≤ 9) ∧ (0 ≤ w ∧ w ≤ 20) ∧ (¬ e → w ≤ 19 ∧ (b = 0 → w = 0) ∧ (1 < b → w < b))
def rh_c (e : Prop) (f p b w : Int) (s : Int32) (n : Int) : Prop := (0 ≤ f ∧ f ≤ 7) ∧ 0 ≤ p ∧ (¬ s = 2 → p ≤ n) ∧ rw_c e b w
def rH (e : Nat) (hn : Int32) (nb fi pl st bu wa : Nat → Int32) : Prop :=
  (0 ≤ hn.toInt ∧ hn.toInt ≤ 20) ∧ ∀ h : Nat, (h : Int) < hn.toInt → rh_c (h = e) (fi h).toInt (pl h).toInt (bu h).toInt (wa h).toInt (st h) (nb (fi h).toNatClampNeg).toInt
def rl_c (hn lh it : Int) (st : Int32) (pl : Int) : Prop := (0 ≤ lh ∧ lh < hn) ∧ ¬ st = 0 ∧ (0 ≤ it ∧ it ≤ 40) ∧ (¬ st = 2 → it ≤ pl)
def rL (hn ln : Int32) (st pl lh it : Nat → Int32) : Prop :=
  (0 ≤ ln.toInt ∧ ln.toInt ≤ 20) ∧ ln.toInt ≤ rc_n st hn.toInt.toNat ∧ ∀ l : Nat, (l : Int) < ln.toInt → rl_c hn.toInt (lh l).toInt (it l).toInt (st (lh l).toNatClampNeg) (pl (lh l).toNatClampNeg).toInt
def tv (hn ln s v : Int32) : Prop := (s = 1 → 0 ≤ v.toInt ∧ v.toInt < hn.toInt) ∧ (s = 2 → 0 ≤ v.toInt ∧ v.toInt < ln.toInt)
theorem tv.mono {hn ln hn' ln' s v : Int32} (h : tv hn ln s v) (h1 : hn.toInt ≤ hn'.toInt) (h2 : ln.toInt ≤ ln'.toInt) : tv hn' ln' s v := ⟨fun q => by have := h.1 q; omega, fun q => by have := h.2 q; omega⟩
theorem tv_0 {hn ln v : Int32} : tv hn ln 0 v := ⟨fun q => absurd q (by decide), fun q => absurd q (by decide)⟩
def rV (hn ln : Int32) (vs va : Nat → Int32) : Prop := ∀ j, j < 6 → tv hn ln (vs j) (va j)
def rD (nb : Nat → Int32) : Prop := ∀ j, 0 ≤ (nb j).toInt ∧ (nb j).toInt ≤ 40
def rI (e : Nat) (σ : io_M) : Prop := rD (σ 113) ∧ rH e (σ 111 16) (σ 113) (σ 124) (σ 126) (σ 127) (σ 129) (σ 130) ∧ rL (σ 111 16) (σ 111 28) (σ 127) (σ 126) (σ 135) (σ 136) ∧ rV (σ 111 16) (σ 111 28) (σ 122) (σ 123)
def rC (σ : io_M) : Prop := 0 ≤ (σ 111 5).toInt ∧ (σ 111 5).toInt ≤ (σ 111 4).toInt ∧ (σ 111 4).toInt ≤ 100
def rN (σ : io_M) : Prop := 0 ≤ (σ 111 9).toInt ∧ (σ 111 9).toInt ≤ 60 ∧ ∀ n : Nat, (n : Int) < (σ 111 9).toInt → nd_ok (σ 118 n) (σ 119 n) (σ 120 n) (σ 121 n) n
theorem rI_cg {e : Nat} {σ σ' : io_M} (h : rI e σ) (hk : ∀ k, (k = 113 ∨ k = 122 ∨ k = 123 ∨ k = 124 ∨ k = 126 ∨ k = 127 ∨ k = 129 ∨ k = 130 ∨ k = 135 ∨ k = 136) → σ' k = σ k) (h16 : σ' 111 16 = σ 111 16) (h28 : σ' 111 28 = σ 111 28) : rI e σ' := by
  unfold rI
  rw [hk 113 (by omega), hk 122 (by omega), hk 123 (by omega), hk 124 (by omega), hk 126 (by omega), hk 127 (by omega), hk 129 (by omega), hk 130 (by omega), hk 135 (by omega), hk 136 (by omega), h16, h28]
  exact h
/-- what a doing at the top leaves as it was -/
def rF (σ0 σ : io_M) : Prop := (∀ k, k < 111 ∨ k = 115 ∨ (118 ≤ k ∧ k ≤ 121) ∨ 140 ≤ k → σ k = σ0 k) ∧ σ 111 9 = σ0 111 9 ∧ (σ0 111 16).toInt ≤ (σ 111 16).toInt ∧ (σ0 111 28).toInt ≤ (σ 111 28).toInt ∧ σ 111 35 = σ0 111 35
theorem rF.rf {σ : io_M} : rF σ σ := ⟨fun _ _ => rfl, rfl, Int.le_refl _, Int.le_refl _, rfl⟩
def rB (b0 : Int) (P : Int) (σ : io_M) : Prop := (0 ≤ (σ 111 35).toInt ∧ (σ 111 35).toInt ≤ 600) ∧ 0 ≤ (σ 111 33).toInt ∧ (σ 111 33).toInt + 41 * P ≤ 41 * (σ 111 35).toInt ∧ 0 ≤ (σ 111 7).toInt ∧ (σ 111 7).toInt + P ≤ b0 + (σ 111 35).toInt
/-- in the midst of a doing at the top: m notes may still be made -/
def rX (b0 : Int) (P : Nat) (m : Int) (σ0 σ : io_M) : Prop := rC σ ∧ rF σ0 σ ∧ ((σ 111 38).toInt = P + 1 ∧ σ 111 48 = 0) ∧ (0 ≤ (σ 111 35).toInt ∧ (σ 111 35).toInt ≤ 600) ∧ 0 ≤ (σ 111 33).toInt ∧ (σ 111 33).toInt + 41 * P + m ≤ 41 * (σ 111 35).toInt ∧ 0 ≤ (σ 111 7).toInt ∧ (σ 111 7).toInt + P ≤ b0 + (σ 111 35).toInt
def rM (b0 : Int) (P : Nat) (m : Int) (σ0 σ : io_M) : Prop := rI 99 σ ∧ rX b0 P m σ0 σ
/-- the doing is over: the top is gone -/
def rP (b0 : Int) (P : Nat) (σ0 σ : io_M) : Prop := rI 99 σ ∧ rC σ ∧ rF σ0 σ ∧ (σ 111 38).toInt = P ∧ ((σ 111 48 = 0 ∧ tv (σ 111 16) (σ 111 28) (σ 111 46) (σ 111 47)) ∨ σ 111 48 = 1 ∨ σ 111 48 = 2) ∧ rB b0 P σ
theorem rX_up {b0 : Int} {P : Nat} {m : Int} {σ0 σ : io_M} (h : rX b0 P m σ0 σ) {k j : Nat} {v : Int32} (hk : 111 < k ∧ k ≠ 115 ∧ (k < 118 ∨ 121 < k) ∧ k < 140) : rX b0 P m σ0 (io_up σ k j v) := by
  obtain ⟨h1, h2, h3⟩ := h
  have e : io_up σ k j v 111 = σ 111 := pu_ne (by omega)
  refine ⟨?_, ⟨?_, ?_⟩, ?_⟩
  · unfold rC; rw [e]; exact h1
  · intro k' hk'
    rw [pu_ne (by omega)]
    exact h2.1 k' hk'
  · rw [e]; exact h2.2
  · rw [e]; exact h3
theorem rI_up {e : Nat} {σ : io_M} (h : rI e σ) {k j : Nat} {v : Int32} (hk : k ≠ 111 ∧ k ≠ 113 ∧ k ≠ 122 ∧ k ≠ 123 ∧ k ≠ 124 ∧ k ≠ 126 ∧ k ≠ 127 ∧ k ≠ 129 ∧ k ≠ 130 ∧ k ≠ 135 ∧ k ≠ 136) : rI e (io_up σ k j v) :=
  rI_cg h (fun z hz => pu_ne (by omega)) (by rw [pu_ne (by omega)]) (by rw [pu_ne (by omega)])
theorem rM_up {b0 : Int} {P : Nat} {m : Int} {σ0 σ : io_M} (h : rM b0 P m σ0 σ) {k j : Nat} {v : Int32} (hk : k = 112 ∨ k = 114 ∨ k = 116 ∨ k = 117 ∨ k = 125 ∨ k = 128 ∨ k = 131 ∨ k = 132 ∨ k = 133 ∨ k = 134 ∨ k = 137 ∨ k = 138 ∨ k = 139) : rM b0 P m σ0 (io_up σ k j v) := ⟨rI_up h.1 (by omega), rX_up h.2 (by omega)⟩
theorem rX.le {b0 : Int} {P : Nat} {m m' : Int} {σ0 σ : io_M} (h : rX b0 P m σ0 σ) (hm : m' ≤ m) : rX b0 P m' σ0 σ := by
  obtain ⟨h1, h2, h3, h4, h5, h6, h7⟩ := h
  exact ⟨h1, h2, h3, h4, h5, by omega, h7⟩
/-- a slot of the reference's own: its free ones -/
theorem pu_s {σ : io_M} {j : Nat} {v : Int32} {j' : Nat} (h : j' ≠ j) : io_up σ 111 j v 111 j' = σ 111 j' := pu_same h
theorem rI_s {e : Nat} {σ : io_M} (h : rI e σ) {j : Nat} {v : Int32} (hj : j ≠ 16 ∧ j ≠ 28) : rI e (io_up σ 111 j v) :=
  rI_cg h (fun z hz => pu_ne (by omega)) (pu_s (by omega)) (pu_s (by omega))
