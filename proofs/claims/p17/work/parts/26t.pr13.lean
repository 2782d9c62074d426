/-! the reference's calls -/
def rZ (b0 : Int) (σ : io_M) : Prop := rD (σ 113) ∧ rC σ ∧ rN σ ∧ (0 ≤ (σ 111 7).toInt ∧ (σ 111 7).toInt ≤ b0) ∧ (0 ≤ (σ 111 16).toInt ∧ (σ 111 16).toInt ≤ 20) ∧ 0 ≤ (σ 111 33).toInt
def rK (σ σ' : io_M) : Prop := (∀ k, k < 111 ∨ k = 115 → σ' k = σ k) ∧ σ' 111 9 = σ 111 9
theorem rK.rf {σ : io_M} : rK σ σ := ⟨fun _ _ => rfl, rfl⟩
theorem rZ.mono {b0 b1 : Int} {σ : io_M} (h : rZ b0 σ) (q : b0 ≤ b1) : rZ b1 σ := by
  obtain ⟨h1, h2, h3, h4, h5⟩ := h
  exact ⟨h1, h2, h3, by omega, h5⟩
section RK
variable {b0 d : Int} {P Q k : Nat} {m : Int} {σ s t : io_M} {p1 p2 p3 p4 v n x c T st : Int32} {pv : io_M → Prop} {post : Int32 → io_M → Prop} {e : Nat}
theorem l_7 : (7 : Int32).toInt = 7 := by decide
theorem rZ.dk (h : rZ b0 σ) (hD : rD (t 113)) (h111 : t 111 = σ 111) (hk : ∀ k, 118 ≤ k → k ≤ 121 → t k = σ k) : rZ b0 t := by
  obtain ⟨h1, h2, h3, h4⟩ := h
  refine ⟨hD, ?_, ?_, ?_⟩
  · unfold rC; rw [h111]; exact h2
  · unfold rN; rw [h111, hk 118 (by omega) (by omega), hk 119 (by omega) (by omega), hk 120 (by omega) (by omega), hk 121 (by omega) (by omega)]; exact h3
  · rw [h111]; exact h4
theorem rD.up {nb : Nat → Int32} {p : Nat} (h : rD nb) (hv : 0 ≤ v.toInt ∧ v.toInt ≤ 40) : rD (ru nb p v) := by
  intro j
  by_cases q : j = p
  · rw [q, ru_self]; exact hv
  · rw [ru_ne q]; exact h j
theorem sz_lay43 {y : Int32} (h : rZ b0 σ) (hf : 0 ≤ p1.toInt ∧ p1.toInt ≤ 7) (hy : 0 ≤ y.toInt ∧ y.toInt ≤ 40) (hp : ∀ r σ', rZ b0 σ' → rK σ σ' → post r σ') : wj_X10_lay_43 σ p1 p2 y post := by
  have z40 := l_40
  have hi : vp_in p1 8 := pz_in.mpr ⟨hf.1, by show p1.toInt < 8; omega⟩
  refine ⟨fun _ => hp _ _ h rK.rf, fun c => sr_allBytes (fun r => ⟨fun _ => hp _ _ h rK.rf, fun _ => ⟨hi, fun s1 e1 => ⟨pz_in.mpr ?_, fun s2 e2 => ⟨hi, fun s3 e3 => ?_⟩⟩⟩⟩)⟩
  · have : ¬ y.toInt = 40 := fun q => c (pz_eq.mpr (by omega))
    rw [pz_41 (by omega) (by omega)]
    show _ ∧ _ < (320 : Int)
    omega
  · have : ¬ y.toInt = 40 := fun q => c (pz_eq.mpr (by omega))
    have r : ∀ k, k ≠ 112 → k ≠ 113 → k ≠ 114 → s3 k = σ k := fun k a b c => by rw [e3, pu_ne b, e2, pu_ne c, e1, pu_ne a]
    refine hp _ _ (h.dk ?_ (r 111 (by decide) (by decide) (by decide)) (fun k a b => r k (by omega) (by omega) (by omega))) ⟨fun k q => r k (by omega) (by omega) (by omega), by rw [r 111 (by decide) (by decide) (by decide)]⟩
    rw [e3, pu_row, e2, pu_ne (by decide), e1, pu_ne (by decide)]
    have e4 := pz_1 (x := y) (by omega)
    exact h.1.up (by omega)
theorem sz_lay (h : rZ b0 σ) (hp : ∀ r σ', rZ b0 σ' → rK σ σ' → post r σ') : wp_X10_lay σ p1 p2 post := by
  have z0 := l_0
  have z7 := l_7
  have k0 : post (-2) σ := hp _ _ h rK.rf
  refine sr_in (fun _ => ⟨fun _ => k0, fun q => absurd rfl q⟩) (fun hf => ⟨fun q => absurd q (by decide), fun _ => sr_in (fun _ => ⟨fun _ => k0, fun q => absurd rfl q⟩) (fun hv => ⟨fun q => absurd q (by decide), fun _ => ?_⟩)⟩)
  have hf' : 0 ≤ p1.toInt ∧ p1.toInt ≤ 7 := by omega
  have hi : vp_in p1 8 := pz_in.mpr ⟨hf'.1, by show p1.toInt < 8; omega⟩
  exact ⟨hi, fun _ => sz_lay43 h hf' (by omega) hp, fun _ => ⟨hi, sz_lay43 h hf' (h.1 _) hp⟩⟩
theorem sz_there (h : rZ b0 σ) (hp : ∀ r σ', rZ b0 σ' → rK σ σ' → post r σ') : wp_X10_there σ p1 p2 post := by
  have z0 := l_0
  have z7 := l_7
  refine sr_in (fun _ => ⟨fun _ => hp _ _ h rK.rf, fun q => absurd rfl q⟩) (fun hf => ⟨fun q => absurd q (by decide), fun _ => ?_⟩)
  have hi : vp_in p1 8 := pz_in.mpr ⟨by omega, by show p1.toInt < 8; omega⟩
  refine ⟨hi, fun _ => ⟨fun _ => hp _ _ h rK.rf, fun _ => hp _ _ h rK.rf⟩, fun _ => ⟨hi, fun s1 e1 => ⟨hi, fun s2 e2 => ?_⟩⟩⟩
  have r : ∀ k, k ≠ 112 → k ≠ 113 → s2 k = σ k := fun k a b => by rw [e2, pu_ne b, e1, pu_ne a]
  have hZ : rZ b0 s2 := by
    refine h.dk ?_ (r 111 (by decide) (by decide)) (fun k a b => r k (by omega) (by omega))
    rw [e2, pu_row, e1, pu_ne (by decide)]
    exact h.1.up (by omega)
  have hk : rK σ s2 := ⟨fun k q => r k (by omega) (by omega), by rw [r 111 (by decide) (by decide)]⟩
  exact ⟨fun _ => hp _ _ hZ hk, fun _ => hp _ _ hZ hk⟩
theorem sz_permit (h : rZ b0 σ) (h0 : ¬ ((0 ≤ p1.toInt ∧ p1.toInt < 8) ∧ 0 ≤ p2.toInt ∧ p2.toInt < 4) → post (-2) σ) (h1 : (0 ≤ p1.toInt ∧ p1.toInt < 8) → 0 ≤ p2.toInt ∧ p2.toInt < 4 → rZ b0 (io_up σ 115 p1.toNatClampNeg p2) → post (σ 115 p1.toNatClampNeg) (io_up σ 115 p1.toNatClampNeg p2)) : wp_X10_permit σ p1 p2 post := by
  have z0 := l_0
  have z7 := l_7
  have z3 := l_3
  refine sr_in (fun q => ⟨fun _ => h0 (by omega), fun q => absurd rfl q⟩) (fun hf => ⟨fun q => absurd q (by decide), fun _ => sr_in (fun q => ⟨fun _ => h0 (by omega), fun q => absurd rfl q⟩) (fun hv => ⟨fun q => absurd q (by decide), fun _ => ?_⟩)⟩)
  have hi : vp_in p1 8 := pz_in.mpr ⟨by omega, by show p1.toInt < 8; omega⟩
  refine ⟨hi, hi, fun s e => ?_⟩
  rw [e]
  refine h1 (by omega) (by omega) (h.dk ?_ (pu_ne (by decide)) (fun k a b => pu_ne (by omega)))
  rw [pu_ne (by decide)]
  exact h.1
theorem sz_input (h : rZ b0 σ) (hp : ∀ r σ', rZ b0 σ' → rK σ σ' → post r σ') : wp_X10_input σ p1 post := by
  have k0 : ∀ r, post r σ := fun r => hp _ _ h rK.rf
  have z := l_100
  refine sr_in (fun _ => ⟨fun _ => k0 _, fun q => absurd rfl q⟩) (fun hf => ⟨fun q => absurd q (by decide), fun _ => ⟨fun _ => k0 _, fun c => ?_⟩⟩)
  obtain ⟨hD, ⟨c1, c2, c3⟩, hN, h4, h5⟩ := h
  have : ¬ (σ 111 4).toInt = 100 := fun q => c (pz_eq.mpr (by omega))
  refine ⟨pz_in.mpr ⟨by omega, by show (σ 111 4).toInt < 100; omega⟩, fun s1 e1 s2 e2 => ?_⟩
  have e11 : s1 111 = σ 111 := by rw [e1, pu_ne (by decide)]
  have hs : ∀ j, j ≠ 4 → s2 111 j = σ 111 j := fun j a => by rw [e2, pu_s a, e11]
  have hk : ∀ k, k ≠ 111 → k ≠ 116 → s2 k = σ k := fun k a b => by rw [e2, pu_ne a, e1, pu_ne b]
  refine hp _ _ ⟨by rw [hk 113 (by decide) (by decide)]; exact hD, ?_, ?_, by rw [hs 7 (by decide)]; exact h4, by rw [hs 16 (by decide), hs 33 (by decide)]; exact h5⟩ ⟨fun k q => hk k (by omega) (by omega), hs 9 (by decide)⟩
  · unfold rC
    rw [hs 5 (by decide), e2, pu_self, e11, pz_1 (by omega)]
    omega
  · unfold rN
    rw [hs 9 (by decide), hk 118 (by decide) (by decide), hk 119 (by decide) (by decide), hk 120 (by decide) (by decide), hk 121 (by decide) (by decide)]
    exact hN
theorem sz_clear (h : rZ b0 σ) (hb : 0 ≤ b0) (hp : ∀ σ', rZ b0 σ' → (∀ k, k < 111 ∨ k = 115 → σ' k = σ k) → σ' 111 9 = 0 → post (σ 111 9) σ') : wp_X10_clear σ post := by
  have z0 := l_0
  intro s1 e1 s2 e2 s3 e3 s4 e4
  obtain ⟨hD, ⟨c1, c2, c3⟩, hN, h4, h5⟩ := h
  have hk : ∀ k, k ≠ 111 → s4 k = σ k := fun k a => by rw [e4, pu_ne a, e3, pu_ne a, e2, pu_ne a, e1, pu_ne a]
  have hs : ∀ j, j ≠ 9 → j ≠ 4 → j ≠ 5 → j ≠ 7 → s4 111 j = σ 111 j := fun j a b c d => by rw [e4, pu_s d, e3, pu_s c, e2, pu_s b, e1, pu_s a]
  have e9 : s4 111 9 = 0 := by rw [e4, pu_s (by decide), e3, pu_s (by decide), e2, pu_s (by decide), e1, pu_self]
  have e44 : s4 111 4 = 0 := by rw [e4, pu_s (by decide), e3, pu_s (by decide), e2, pu_self]
  have e55 : s4 111 5 = 0 := by rw [e4, pu_s (by decide), e3, pu_self]
  have e77 : s4 111 7 = 0 := by rw [e4, pu_self]
  refine hp s4 ⟨by rw [hk 113 (by decide)]; exact hD, ?_, ?_, by rw [e77]; omega, by rw [hs 16 (by decide) (by decide) (by decide) (by decide), hs 33 (by decide) (by decide) (by decide) (by decide)]; exact h5⟩ (fun k q => hk k (by omega)) e9
  · unfold rC
    rw [e44, e55]
    omega
  · unfold rN
    rw [e9]
    exact ⟨by omega, by omega, fun n q => absurd q (by omega)⟩
theorem sz_value (hp : ∀ r, post r σ) : wp_X10_value σ post := hp _
theorem sz_where (hp : ∀ r, post r σ) : wp_X10_where σ post := hp _
theorem sz_worked (hp : ∀ r, post r σ) : wp_X10_worked σ post := hp _
theorem sz_order (h : rZ b0 σ) (hp : ∀ r, post r σ) : wp_X10_order σ p1 post := by
  have z0 := l_0
  have z3 := l_300
  have h6 := h.2.2.2.2.2
  refine ⟨fun _ => sr_in (fun _ => ⟨fun _ => hp _, fun q => absurd rfl q⟩) (fun q => ⟨fun q => absurd q (by decide), fun _ => ⟨pz_in.mpr ?_, hp _⟩⟩), fun c => sr_in (fun _ => ⟨fun _ => hp _, fun q => absurd rfl q⟩) (fun q => ⟨fun q => absurd q (by decide), fun _ => ⟨pz_in.mpr ?_, hp _⟩⟩)⟩
  · have e : ((300 : Int32) - 1).toInt = 299 := by decide
    rw [e] at q
    show _ ∧ _ < (300 : Int)
    omega
  · have := pz_nle c
    rw [pz_s1 (by omega)] at q
    show _ ∧ _ < (300 : Int)
    omega
theorem sz_handle (h : rZ b0 σ) (hp : ∀ r, post r σ) : wp_X10_handle σ p1 p2 post := by
  have z0 := l_0
  have h6 := h.2.2.2.2.1
  refine sr_in (fun _ => ⟨fun _ => hp _, fun q => absurd rfl q⟩) (fun q => ⟨fun q => absurd q (by decide), fun _ => ?_⟩)
  rw [pz_s1 (by omega)] at q
  have hi : vp_in p1 20 := pz_in.mpr ⟨by omega, by show p1.toInt < 20; omega⟩
  exact ⟨fun _ => ⟨hi, hp _⟩, fun _ => ⟨fun _ => ⟨hi, hp _⟩, fun _ => ⟨fun _ => ⟨hi, hp _⟩, fun _ => ⟨fun _ => ⟨hi, hp _⟩, fun _ => ⟨fun _ => ⟨hi, hp _⟩, fun _ => ⟨fun _ => ⟨hi, hp _⟩, fun _ => hp _⟩⟩⟩⟩⟩⟩
theorem sz_content (h : rZ b0 σ) (hp : ∀ r, post r σ) : wp_X10_content σ p1 p2 post := by
  have z0 := l_0
  have z7 := l_7
  refine sr_in (fun _ => ⟨fun _ => hp _, fun q => absurd rfl q⟩) (fun hf => ⟨fun q => absurd q (by decide), fun _ => ?_⟩)
  have hi : vp_in p1 8 := pz_in.mpr ⟨by omega, by show p1.toInt < 8; omega⟩
  have hD := h.1 p1.toNatClampNeg
  refine ⟨hi, fun _ => hp _, fun _ => ⟨hi, sr_in (fun _ => ⟨fun _ => hp _, fun q => absurd rfl q⟩) (fun q => ⟨fun q => absurd q (by decide), fun _ => ⟨pz_in.mpr ?_, hp _⟩⟩)⟩⟩
  rw [pz_s1 (by omega)] at q
  rw [pz_41 (by omega) (by omega)]
  show _ ∧ _ < (320 : Int)
  omega
theorem sz_size (hp : ∀ r, post r σ) : wp_X10_size σ p1 post := by
  have z0 := l_0
  have z7 := l_7
  refine sr_in (fun _ => ⟨fun _ => hp _, fun q => absurd rfl q⟩) (fun hf => ⟨fun q => absurd q (by decide), fun _ => ?_⟩)
  have hi : vp_in p1 8 := pz_in.mpr ⟨by omega, by show p1.toInt < 8; omega⟩
  exact ⟨hi, fun _ => hp _, fun _ => ⟨hi, hp _⟩⟩
theorem sz_printed (h : rZ b0 σ) (hp : ∀ r, post r σ) : wp_X10_printed σ p1 post := by
  have z0 := l_0
  have z2 := l_200
  have h6 := h.2.2.2.1
  refine ⟨fun _ => sr_in (fun _ => ⟨fun _ => hp _, fun q => absurd rfl q⟩) (fun q => ⟨fun q => absurd q (by decide), fun _ => ⟨pz_in.mpr ?_, hp _⟩⟩), fun c => sr_in (fun _ => ⟨fun _ => hp _, fun q => absurd rfl q⟩) (fun q => ⟨fun q => absurd q (by decide), fun _ => ⟨pz_in.mpr ?_, hp _⟩⟩)⟩
  · have e : ((200 : Int32) - 1).toInt = 199 := by decide
    rw [e] at q
    show _ ∧ _ < (200 : Int)
    omega
  · have := pz_nle c
    rw [pz_s1 (by omega)] at q
    show _ ∧ _ < (200 : Int)
    omega
theorem sz_told (hp : ∀ r, post r σ) : wp_X10_told σ p1 post := ⟨fun _ => hp _, fun _ => ⟨fun _ => hp _, fun _ => ⟨fun _ => hp _, fun _ => ⟨fun _ => sr_allBytes hp, fun _ => ⟨fun _ => hp _, fun _ => ⟨fun _ => hp _, fun _ => ⟨fun _ => hp _, fun _ => hp _⟩⟩⟩⟩⟩⟩⟩
end RK
