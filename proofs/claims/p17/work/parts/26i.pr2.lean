section RA
variable {b0 : Int} {P : Nat} {m : Int} {σ0 σ : io_M} {s v n x : Int32} {pv : io_M → Prop} {post : Int32 → io_M → Prop} {e : Nat}
theorem sr_gives (h : rM b0 P m σ0 σ) (hm : 0 ≤ m) (ht : tv (σ 111 16) (σ 111 28) s v) (hp : ∀ s', rP b0 P σ0 s' → pv s') : wp_X10_gives σ s v pv := by
  intro s1 e1 s2 e2 s3 e3
  obtain ⟨hI, hC, hF, ⟨h38, h48⟩, hw, ho, ho2, hu, hu2⟩ := h
  have e38 : s2 111 38 = σ 111 38 := by rw [e2, pu_s (by decide), e1, pu_s (by decide)]
  have hs : ∀ j, j ≠ 46 → j ≠ 47 → j ≠ 38 → s3 111 j = σ 111 j := fun j a b c => by rw [e3, pu_s c, e2, pu_s b, e1, pu_s a]
  have hk : ∀ k, k ≠ 111 → s3 k = σ k := fun k a => by rw [e3, pu_ne a, e2, pu_ne a, e1, pu_ne a]
  refine hp s3 ⟨rI_cg hI (fun k hk2 => hk k (by omega)) (hs 16 (by decide) (by decide) (by decide)) (hs 28 (by decide) (by decide) (by decide)), ?_, ⟨fun k hk2 => ?_, ?_⟩, ?_, Or.inl ⟨?_, ?_⟩, ?_⟩
  · unfold rC
    rw [hs 4 (by decide) (by decide) (by decide), hs 5 (by decide) (by decide) (by decide)]
    exact hC
  · rw [hk k (by omega)]
    exact hF.1 k hk2
  · rw [hs 9 (by decide) (by decide) (by decide), hs 16 (by decide) (by decide) (by decide), hs 28 (by decide) (by decide) (by decide), hs 35 (by decide) (by decide) (by decide)]
    exact hF.2
  · rw [e3, pu_self, e38, pz_s1 (by omega)]
    omega
  · rw [hs 48 (by decide) (by decide) (by decide)]
    exact h48
  · rw [hs 16 (by decide) (by decide) (by decide), hs 28 (by decide) (by decide) (by decide)]
    have e46 : s3 111 46 = s := by rw [e3, pu_s (by decide), e2, pu_s (by decide), e1, pu_self]
    have e47 : s3 111 47 = v := by rw [e3, pu_s (by decide), e2, pu_self]
    rw [e46, e47]
    exact ht
  · unfold rB
    rw [hs 35 (by decide) (by decide) (by decide), hs 33 (by decide) (by decide) (by decide), hs 7 (by decide) (by decide) (by decide)]
    omega
theorem sr_fails (h : rM b0 P m σ0 σ) (hm : 0 ≤ m) (hp : ∀ s', rP b0 P σ0 s' → pv s') : wp_X10_fails σ n v pv := by
  intro s1 e1 s2 e2 s3 e3 s4 e4
  obtain ⟨hI, hC, hF, ⟨h38, h48⟩, hw, ho, ho2, hu, hu2⟩ := h
  have e38 : s3 111 38 = σ 111 38 := by rw [e3, pu_s (by decide), e2, pu_s (by decide), e1, pu_s (by decide)]
  have hs : ∀ j, j ≠ 48 → j ≠ 49 → j ≠ 50 → j ≠ 38 → s4 111 j = σ 111 j := fun j a b c d => by rw [e4, pu_s d, e3, pu_s c, e2, pu_s b, e1, pu_s a]
  have hk : ∀ k, k ≠ 111 → s4 k = σ k := fun k a => by rw [e4, pu_ne a, e3, pu_ne a, e2, pu_ne a, e1, pu_ne a]
  refine hp s4 ⟨rI_cg hI (fun k hk2 => hk k (by omega)) (hs 16 (by decide) (by decide) (by decide) (by decide)) (hs 28 (by decide) (by decide) (by decide) (by decide)), ?_, ⟨fun k hk2 => ?_, ?_⟩, ?_, Or.inr (Or.inl ?_), ?_⟩
  · unfold rC
    rw [hs 4 (by decide) (by decide) (by decide) (by decide), hs 5 (by decide) (by decide) (by decide) (by decide)]
    exact hC
  · rw [hk k (by omega)]
    exact hF.1 k hk2
  · rw [hs 9 (by decide) (by decide) (by decide) (by decide), hs 16 (by decide) (by decide) (by decide) (by decide), hs 28 (by decide) (by decide) (by decide) (by decide), hs 35 (by decide) (by decide) (by decide) (by decide)]
    exact hF.2
  · rw [e4, pu_self, e38, pz_s1 (by omega)]
    omega
  · rw [e4, pu_s (by decide), e3, pu_s (by decide), e2, pu_s (by decide), e1, pu_self]
  · unfold rB
    rw [hs 35 (by decide) (by decide) (by decide) (by decide), hs 33 (by decide) (by decide) (by decide) (by decide), hs 7 (by decide) (by decide) (by decide) (by decide)]
    omega
theorem sr_note (h : rM b0 P (m + 1) σ0 σ) (hm : 0 ≤ m) (hp : ∀ s', rM b0 P m σ0 s' → (∀ k, k ≠ 111 → k ≠ 139 → s' k = σ k) → (∀ j, j ≠ 33 → s' 111 j = σ 111 j) → pv s') : wp_X10_note σ n pv := by
  obtain ⟨hI, hC, hF, ⟨h38, h48⟩, hw, ho, ho2, hu, hu2⟩ := h
  have key : ∀ s5 s7 : io_M, s5 111 = σ 111 → (∀ k, k ≠ 139 → s5 k = σ k) → s7 = io_up s5 111 33 ((s5 111 33) + 1) → pv s7 := by
    intro s5 s7 h5 hk5 e7
    have hs : ∀ j, j ≠ 33 → s7 111 j = σ 111 j := fun j a => by rw [e7, pu_s a, h5]
    have hk : ∀ k, k ≠ 111 → k ≠ 139 → s7 k = σ k := fun k a b => by rw [e7, pu_ne a, hk5 k b]
    refine hp s7 ⟨rI_cg hI (fun k hk2 => hk k (by omega) (by omega)) (hs 16 (by decide)) (hs 28 (by decide)), ?_, ⟨fun k hk2 => ?_, ?_⟩, ⟨?_, ?_⟩, ?_⟩ hk hs
    · unfold rC
      rw [hs 4 (by decide), hs 5 (by decide)]
      exact hC
    · rw [hk k (by omega) (by omega)]
      exact hF.1 k hk2
    · rw [hs 9 (by decide), hs 16 (by decide), hs 28 (by decide), hs 35 (by decide)]
      exact hF.2
    · rw [hs 38 (by decide)]; exact h38
    · rw [hs 48 (by decide)]; exact h48
    · have e33 : (s7 111 33).toInt = (σ 111 33).toInt + 1 := by
        rw [e7, pu_self, h5, pz_1 (by omega)]
      rw [hs 35 (by decide), hs 7 (by decide), e33]
      omega
  refine ⟨fun _ s3 e3 => key σ s3 rfl (fun _ _ => rfl) e3, fun c => ⟨pz_in.mpr ⟨ho, ?_⟩, fun s5 e5 s7 e7 => ?_⟩⟩
  · have := pz_nle c
    have := l_300
    show (σ 111 33).toInt < 300
    omega
  · have h5 : s5 111 = σ 111 := by rw [e5, pu_ne (by decide)]
    exact key s5 s7 h5 (fun k hk => by rw [e5, pu_ne hk]) e7
theorem sr_in (h0 : ¬ (s.toInt ≤ x.toInt ∧ x.toInt ≤ v.toInt) → post 0 σ) (h1 : s.toInt ≤ x.toInt ∧ x.toInt ≤ v.toInt → post 1 σ) : wp_X10_in σ x s v post := by
  refine ⟨fun c => h0 (fun q => ?_), fun c => ⟨fun d => h0 (fun q => ?_), fun d => h1 ?_⟩⟩
  · have := pz_lt.mp c
    omega
  · have := pz_lt.mp d
    omega
  · have h2 := pz_nlt c
    have h3 := pz_nlt d
    omega
theorem sr_allBytesL (hp : ∀ r, post r σ) : ∀ (k : Nat) (x y : Int32), 0 ≤ y.toInt → y.toInt ≤ 8 → 8 - y.toInt < k → wl_X10_allBytes_4 k σ x y post := by
  intro k
  have z : (8 : Int32).toInt = 8 := by decide
  induction k with
  | zero => intro x y _ h1 h2; exact absurd h2 (by omega)
  | succ k ih =>
    intro x y h0 h1 h2
    unfold wl_X10_allBytes_4
    refine ⟨fun _ => hp _, fun c => ?_⟩
    have hc := pz_nle c
    have hi : vp_in y 8 := pz_in.mpr ⟨h0, by show y.toInt < 8; omega⟩
    have e2 := pz_1 (x := y) (by omega)
    exact ⟨hi, fun _ => ih _ _ (by omega) (by omega) (by omega), fun _ => ⟨hi, ih _ _ (by omega) (by omega) (by omega)⟩⟩
theorem sr_allBytes (hp : ∀ r, post r σ) : wp_X10_allBytes σ post := ⟨9, sr_allBytesL hp 9 0 0 (by rw [l_0]; omega) (by rw [l_0]; omega) (by rw [l_0]; omega)⟩
theorem sr_isHeldL (hh : (σ 111 16).toInt ≤ 20) (h1 : post 1 σ) (hp : (∀ h : Nat, (h : Int) < (σ 111 16).toInt → σ 124 h = x → σ 127 h = 2) → post 0 σ) : ∀ (k : Nat) (y : Int32), 0 ≤ y.toInt → y.toInt ≤ 20 → 20 - y.toInt < k → (∀ h : Nat, (h : Int) < (σ 111 16).toInt → (h : Int) < y.toInt → σ 124 h = x → σ 127 h = 2) → wl_X10_isHeld_2 k σ x y post := by
  intro k
  induction k with
  | zero => intro y _ h1 h2; exact absurd h2 (by omega)
  | succ k ih =>
    intro y h0 h2 h3 hall
    unfold wl_X10_isHeld_2
    refine ⟨fun c => hp (fun h q => hall h q ?_), fun c => ?_⟩
    · have := pz_le.mp c
      omega
    · have hc := pz_nle c
      have hi : vp_in y 20 := pz_in.mpr ⟨h0, by show y.toInt < 20; omega⟩
      have e2 := pz_1 (x := y) (by omega)
      have go : (σ 124 y.toNatClampNeg = x → σ 127 y.toNatClampNeg = 2) → wl_X10_isHeld_2 k σ x (y + 1) post := by
        intro q
        refine ih _ (by omega) (by omega) (by omega) (fun h a b d => ?_)
        by_cases t : (h : Int) < y.toInt
        · exact hall h a t d
        · have : h = y.toNatClampNeg := by rw [pz_cl]; omega
          rw [this] at d ⊢
          exact q d
      exact ⟨hi, fun c1 => ⟨hi, fun c2 => go (fun _ => c2), fun _ => h1⟩, fun c1 => go (fun q => absurd q c1)⟩
theorem sr_isHeld (hh : (σ 111 16).toInt ≤ 20) (h1 : post 1 σ) (hp : (∀ h : Nat, (h : Int) < (σ 111 16).toInt → σ 124 h = x → σ 127 h = 2) → post 0 σ) : wp_X10_isHeld σ x post :=
  ⟨21, sr_isHeldL hh h1 hp 21 0 (by rw [l_0]; omega) (by rw [l_0]; omega) (by rw [l_0]; omega) (fun h _ b => absurd b (by rw [l_0]; omega))⟩
theorem sr_isHeldToWriteL (hh : (σ 111 16).toInt ≤ 20) (hp : ∀ r, post r σ) : ∀ (k : Nat) (y : Int32), 0 ≤ y.toInt → y.toInt ≤ 20 → 20 - y.toInt < k → wl_X10_isHeldToWrite_2 k σ x y post := by
  intro k
  induction k with
  | zero => intro y _ h1 h2; exact absurd h2 (by omega)
  | succ k ih =>
    intro y h0 h2 h3
    unfold wl_X10_isHeldToWrite_2
    refine ⟨fun c => hp _, fun c => ?_⟩
    have hc := pz_nle c
    have hi : vp_in y 20 := pz_in.mpr ⟨h0, by show y.toInt < 20; omega⟩
    have e2 := pz_1 (x := y) (by omega)
    have go : wl_X10_isHeldToWrite_2 k σ x (y + 1) post := ih _ (by omega) (by omega) (by omega)
    exact ⟨hi, fun c1 => ⟨hi, fun c2 => go, fun _ => ⟨hi, fun _ => go, fun _ => hp _⟩⟩, fun c1 => go⟩
theorem sr_isHeldToWrite (hh : (σ 111 16).toInt ≤ 20) (hp : ∀ r, post r σ) : wp_X10_isHeldToWrite σ x post :=
  ⟨21, sr_isHeldToWriteL hh hp 21 0 (by rw [l_0]; omega) (by rw [l_0]; omega) (by rw [l_0]; omega)⟩
end RA
