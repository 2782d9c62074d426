theorem rX_cg {b0 : Int} {P : Nat} {m : Int} {σ0 σ σ' : io_M} (h : rX b0 P m σ0 σ) (hk : ∀ k, k < 111 ∨ k = 115 ∨ (118 ≤ k ∧ k ≤ 121) ∨ 140 ≤ k → σ' k = σ k) (hs : ∀ j, (j = 4 ∨ j = 5 ∨ j = 7 ∨ j = 9 ∨ j = 33 ∨ j = 35 ∨ j = 38 ∨ j = 48) → σ' 111 j = σ 111 j) (h16 : (σ 111 16).toInt ≤ (σ' 111 16).toInt) (h28 : (σ 111 28).toInt ≤ (σ' 111 28).toInt) : rX b0 P m σ0 σ' := by
  obtain ⟨h1, h2, h3⟩ := h
  refine ⟨?_, ⟨fun k q => (hk k q).trans (h2.1 k q), ?_⟩, ?_⟩
  · unfold rC
    rw [hs 4 (by omega), hs 5 (by omega)]
    exact h1
  · rw [hs 9 (by omega), hs 35 (by omega)]
    exact ⟨h2.2.1, Int.le_trans h2.2.2.1 h16, Int.le_trans h2.2.2.2.1 h28, h2.2.2.2.2⟩
  · rw [hs 38 (by omega), hs 48 (by omega), hs 35 (by omega), hs 33 (by omega), hs 7 (by omega)]
    exact h3
theorem pz_ne8 {f g : Int32} (hf : 0 ≤ f.toInt) (hg : 0 ≤ g.toInt) (e : f.toNatClampNeg = g.toNatClampNeg) : f = g := by
  rw [pz_cl, pz_cl] at e
  exact pz_eq.mpr (by omega)
/-- a file that nobody holds may take any length -/
theorem rI_bytes {e : Nat} {σ σ' : io_M} (f v : Int32) (h : rI e σ) (hf : 0 ≤ f.toInt) (h113 : σ' 113 = ru (σ 113) f.toNatClampNeg v) (hk : ∀ k, (k = 122 ∨ k = 123 ∨ k = 124 ∨ k = 126 ∨ k = 127 ∨ k = 129 ∨ k = 130 ∨ k = 135 ∨ k = 136) → σ' k = σ k) (h16 : σ' 111 16 = σ 111 16) (h28 : σ' 111 28 = σ 111 28) (hv : 0 ≤ v.toInt ∧ v.toInt ≤ 40) (hx : ∀ h : Nat, (h : Int) < (σ 111 16).toInt → σ 124 h = f → σ 127 h = 2) : rI e σ' := by
  obtain ⟨hD, hH, hL, hV⟩ := h
  unfold rI
  rw [h113, hk 122 (by omega), hk 123 (by omega), hk 124 (by omega), hk 126 (by omega), hk 127 (by omega), hk 129 (by omega), hk 130 (by omega), hk 135 (by omega), hk 136 (by omega), h16, h28]
  refine ⟨fun j => ?_, ⟨hH.1, fun h hh => ?_⟩, hL, hV⟩
  · by_cases c : j = f.toNatClampNeg
    · rw [c, ru_self]
      exact hv
    · rw [ru_ne c]
      exact hD j
  · obtain ⟨g1, g2, g3, g4⟩ := hH.2 h hh
    refine ⟨g1, g2, fun c => ?_, g4⟩
    rw [ru_ne (fun q => c (hx h hh (pz_ne8 g1.1 hf q)))]
    exact g3 c
/-- one more handle -/
theorem rI_new {σ σ' : io_M} (f y : Int32) (h : rI 99 σ) (h124 : σ' 124 = ru (σ 124) (σ 111 16).toNatClampNeg f) (h126 : σ' 126 = ru (σ 126) (σ 111 16).toNatClampNeg y) (h127 : σ' 127 = ru (σ 127) (σ 111 16).toNatClampNeg 0) (h129 : σ' 129 = ru (σ 129) (σ 111 16).toNatClampNeg 0) (h130 : σ' 130 = ru (σ 130) (σ 111 16).toNatClampNeg 0) (hk : ∀ k, (k = 113 ∨ k = 122 ∨ k = 123 ∨ k = 135 ∨ k = 136) → σ' k = σ k) (h16 : (σ' 111 16).toInt = (σ 111 16).toInt + 1) (h28 : σ' 111 28 = σ 111 28) (hf : 0 ≤ f.toInt ∧ f.toInt ≤ 7) (hy : 0 ≤ y.toInt ∧ y.toInt ≤ (σ 113 f.toNatClampNeg).toInt) (hlt : (σ 111 16).toInt < 20) : rI 99 σ' := by
  obtain ⟨hD, hH, hL, hV⟩ := h
  have z0 := l_0
  have hcl := pz_cl (σ 111 16)
  have h0 := hH.1
  unfold rI
  rw [h124, h126, h127, h129, h130, hk 113 (by omega), hk 122 (by omega), hk 123 (by omega), hk 135 (by omega), hk 136 (by omega), h28]
  refine ⟨hD, ⟨by omega, fun h hh => ?_⟩, ⟨hL.1, ?_, fun l hl => ?_⟩, fun j hj => (hV j hj).mono (by omega) (Int.le_refl _)⟩
  · by_cases c : h = (σ 111 16).toNatClampNeg
    · rw [c, ru_self, ru_self, ru_self, ru_self, ru_self]
      exact ⟨hf, hy.1, fun _ => hy.2, by omega, by omega, fun _ => by omega⟩
    · rw [ru_ne c, ru_ne c, ru_ne c, ru_ne c, ru_ne c]
      exact hH.2 h (by rw [hcl] at c; omega)
  · have e1 : (σ' 111 16).toInt.toNat = (σ 111 16).toInt.toNat + 1 := by omega
    rw [e1]
    show _ ≤ rc_n _ (σ 111 16).toInt.toNat + _
    rw [rc_cg (st := σ 127) (σ 111 16).toInt.toNat (fun j hj => ru_ne (by rw [hcl]; omega))]
    rw [hcl, ru_self, if_pos rfl]
    have := hL.2.1
    omega
  · obtain ⟨g1, g2, g3, g4⟩ := hL.2.2 l hl
    have c : (σ 135 l).toNatClampNeg ≠ (σ 111 16).toNatClampNeg := by rw [pz_cl, pz_cl]; omega
    rw [ru_ne c, ru_ne c]
    exact ⟨⟨g1.1, by omega⟩, g2, g3, g4⟩
/-- a handle is closed, or half closed -/
theorem rI_state {e : Nat} {σ σ' : io_M} (hN : Nat) (v : Int32) (h : rI e σ) (h127 : σ' 127 = ru (σ 127) hN v) (hk : ∀ k, (k = 113 ∨ k = 122 ∨ k = 123 ∨ k = 124 ∨ k = 126 ∨ k = 129 ∨ k = 130 ∨ k = 135 ∨ k = 136) → σ' k = σ k) (h16 : σ' 111 16 = σ 111 16) (h28 : σ' 111 28 = σ 111 28) (hv : ¬ v = 0) (hq : v = 2 ∨ σ 127 hN = 0) : rI e σ' := by
  obtain ⟨hD, hH, hL, hV⟩ := h
  unfold rI
  rw [h127, hk 113 (by omega), hk 122 (by omega), hk 123 (by omega), hk 124 (by omega), hk 126 (by omega), hk 129 (by omega), hk 130 (by omega), hk 135 (by omega), hk 136 (by omega), h16, h28]
  refine ⟨hD, ⟨hH.1, fun h hh => ?_⟩, ⟨hL.1, ?_, fun l hl => ?_⟩, hV⟩
  · obtain ⟨g1, g2, g3, g4⟩ := hH.2 h hh
    refine ⟨g1, g2, fun c => g3 (fun d => ?_), g4⟩
    by_cases t : h = hN
    · rw [t, ru_self] at c
      rw [t] at d
      rcases hq with q | q
      · exact c q
      · rw [q] at d
        exact absurd d (by decide)
    · rw [ru_ne t] at c
      exact c d
  · have := rc_mono (st := σ 127) (p := hN) hv (σ 111 16).toInt.toNat
    have := hL.2.1
    omega
  · obtain ⟨g1, g2, g3, g4⟩ := hL.2.2 l hl
    by_cases t : (σ 135 l).toNatClampNeg = hN
    · rw [t, ru_self]
      refine ⟨g1, hv, g3, fun c => ?_⟩
      rcases hq with q | q
      · exact absurd q c
      · rw [t] at g2
        exact absurd q g2
    · rw [ru_ne t]
      exact ⟨g1, g2, g3, g4⟩
/-- a place is sought -/
theorem rI_seek {e : Nat} {σ σ' : io_M} (hN : Nat) (y : Int32) (h : rI e σ) (h126 : σ' 126 = ru (σ 126) hN y) (hk : ∀ k, (k = 113 ∨ k = 122 ∨ k = 123 ∨ k = 124 ∨ k = 127 ∨ k = 129 ∨ k = 130 ∨ k = 135 ∨ k = 136) → σ' k = σ k) (h16 : σ' 111 16 = σ 111 16) (h28 : σ' 111 28 = σ 111 28) (hy : 0 ≤ y.toInt ∧ y.toInt ≤ (σ 113 (σ 124 hN).toNatClampNeg).toInt) (hq : σ 127 hN = 0) : rI e σ' := by
  obtain ⟨hD, hH, hL, hV⟩ := h
  unfold rI
  rw [h126, hk 113 (by omega), hk 122 (by omega), hk 123 (by omega), hk 124 (by omega), hk 127 (by omega), hk 129 (by omega), hk 130 (by omega), hk 135 (by omega), hk 136 (by omega), h16, h28]
  refine ⟨hD, ⟨hH.1, fun h hh => ?_⟩, ⟨hL.1, hL.2.1, fun l hl => ?_⟩, hV⟩
  · obtain ⟨g1, g2, g3, g4⟩ := hH.2 h hh
    by_cases t : h = hN
    · subst t
      rw [ru_self]
      exact ⟨g1, hy.1, fun _ => hy.2, g4⟩
    · rw [ru_ne t]
      exact ⟨g1, g2, g3, g4⟩
  · obtain ⟨g1, g2, g3, g4⟩ := hL.2.2 l hl
    by_cases t : (σ 135 l).toNatClampNeg = hN
    · rw [t] at g2
      exact absurd hq g2
    · rw [ru_ne t]
      exact ⟨g1, g2, g3, g4⟩
/-- a buffer of another kind, with nothing waiting -/
theorem rI_buf {σ σ' : io_M} (hN : Nat) (v : Int32) (h : rI 99 σ) (h129 : σ' 129 = ru (σ 129) hN v) (hk : ∀ k, (k = 113 ∨ k = 122 ∨ k = 123 ∨ k = 124 ∨ k = 126 ∨ k = 127 ∨ k = 130 ∨ k = 135 ∨ k = 136) → σ' k = σ k) (h16 : σ' 111 16 = σ 111 16) (h28 : σ' 111 28 = σ 111 28) (hv : (hN : Int) < (σ 111 16).toInt → rw_c False v.toInt (σ 130 hN).toInt) : rI 99 σ' := by
  obtain ⟨hD, hH, hL, hV⟩ := h
  unfold rI
  rw [h129, hk 113 (by omega), hk 122 (by omega), hk 123 (by omega), hk 124 (by omega), hk 126 (by omega), hk 127 (by omega), hk 130 (by omega), hk 135 (by omega), hk 136 (by omega), h16, h28]
  refine ⟨hD, ⟨hH.1, fun h hh => ?_⟩, hL, hV⟩
  obtain ⟨g1, g2, g3, g4⟩ := hH.2 h hh
  refine ⟨g1, g2, g3, ?_⟩
  by_cases t : h = hN
  · subst t
    rw [ru_self]
    have q := hv hh
    exact ⟨q.1, q.2.1, fun _ => q.2.2 id⟩
  · rw [ru_ne t]
    exact g4
/-- a list begins -/
theorem rI_lazy {σ σ' : io_M} (hN : Nat) (p : Int32) (h : rI 99 σ) (hp : hN = p.toNatClampNeg) (hr : 0 ≤ p.toInt ∧ p.toInt < (σ 111 16).toInt) (h127 : σ' 127 = ru (σ 127) hN 1) (h135 : σ' 135 = ru (σ 135) (σ 111 28).toNatClampNeg p) (h136 : σ' 136 = ru (σ 136) (σ 111 28).toNatClampNeg 0) (hk : ∀ k, (k = 113 ∨ k = 122 ∨ k = 123 ∨ k = 124 ∨ k = 126 ∨ k = 129 ∨ k = 130) → σ' k = σ k) (h16 : σ' 111 16 = σ 111 16) (h28 : (σ' 111 28).toInt = (σ 111 28).toInt + 1) (hq : σ 127 hN = 0) : rI 99 σ' := by
  obtain ⟨hD, hH, hL, hV⟩ := h
  have z0 := l_0
  have hcl := pz_cl (σ 111 28)
  have hcp := pz_cl p
  have h0 := hL.1
  have h1 := hL.2.1
  have h2 := rc_strict (st := σ 127) (p := hN) (v := 1) (by decide) hq (σ 111 16).toInt.toNat (by omega)
  have h3 := rc_le (ru (σ 127) hN 1) (σ 111 16).toInt.toNat
  have h4 := hH.1
  unfold rI
  rw [h127, h135, h136, hk 113 (by omega), hk 122 (by omega), hk 123 (by omega), hk 124 (by omega), hk 126 (by omega), hk 129 (by omega), hk 130 (by omega), h16]
  refine ⟨hD, ⟨hH.1, fun h hh => ?_⟩, ⟨by omega, by omega, fun l hl => ?_⟩, fun j hj => (hV j hj).mono (Int.le_refl _) (by omega)⟩
  · obtain ⟨g1, g2, g3, g4⟩ := hH.2 h hh
    refine ⟨g1, g2, fun c => g3 (fun d => ?_), g4⟩
    by_cases t : h = hN
    · rw [t, hq] at d
      exact absurd d (by decide)
    · rw [ru_ne t] at c
      exact c d
  · by_cases t : l = (σ 111 28).toNatClampNeg
    · rw [t, ru_self, ru_self, ← hp, ru_self]
      refine ⟨hr, by decide, by omega, fun _ => ?_⟩
      have := (hH.2 hN (by omega)).2.1
      omega
    · rw [ru_ne t, ru_ne t]
      obtain ⟨g1, g2, g3, g4⟩ := hL.2.2 l (by rw [hcl] at t; omega)
      have t2 : (σ 135 l).toNatClampNeg ≠ hN := fun d => by rw [d] at g2; exact g2 hq
      rw [ru_ne t2]
      exact ⟨g1, g2, g3, g4⟩
/-- a list grows -/
theorem rI_item {σ σ' : io_M} (lN hN : Nat) (u q : Int32) (h : rI 99 σ) (hl : (lN : Int) < (σ 111 28).toInt) (hh : hN = (σ 135 lN).toNatClampNeg) (h126 : σ' 126 = ru (σ 126) hN q) (h136 : σ' 136 = ru (σ 136) lN u) (hk : ∀ k, (k = 113 ∨ k = 122 ∨ k = 123 ∨ k = 124 ∨ k = 127 ∨ k = 129 ∨ k = 130 ∨ k = 135) → σ' k = σ k) (h16 : σ' 111 16 = σ 111 16) (h28 : σ' 111 28 = σ 111 28) (hq : (σ 126 hN).toInt ≤ q.toInt ∧ q.toInt ≤ (σ 113 (σ 124 hN).toNatClampNeg).toInt) (hu : 0 ≤ u.toInt ∧ u.toInt ≤ q.toInt) : rI 99 σ' := by
  obtain ⟨hD, hH, hL, hV⟩ := h
  have hb := hD (σ 124 hN).toNatClampNeg
  unfold rI
  rw [h126, h136, hk 113 (by omega), hk 122 (by omega), hk 123 (by omega), hk 124 (by omega), hk 127 (by omega), hk 129 (by omega), hk 130 (by omega), hk 135 (by omega), h16, h28]
  refine ⟨hD, ⟨hH.1, fun h hh2 => ?_⟩, ⟨hL.1, hL.2.1, fun l hl2 => ?_⟩, hV⟩
  · obtain ⟨g1, g2, g3, g4⟩ := hH.2 h hh2
    have hp := ru_ge (f := σ 126) (p := hN) (v := q) hq.1 h
    refine ⟨g1, by omega, fun c => ?_, g4⟩
    by_cases t : h = hN
    · rw [t, ru_self]
      exact hq.2
    · rw [ru_ne t]
      exact g3 c
  · obtain ⟨g1, g2, g3, g4⟩ := hL.2.2 l hl2
    have hp := ru_ge (f := σ 126) (p := hN) (v := q) hq.1 (σ 135 l).toNatClampNeg
    by_cases t : l = lN
    · rw [t, ← hh]
      rw [t] at g1 g2
      rw [← hh] at g2
      refine ⟨g1, g2, ?_, fun _ => ?_⟩
      · rw [ru_self]; omega
      · rw [ru_self, ru_self]; exact hu.2
    · rw [ru_ne t]
      exact ⟨g1, g2, g3, fun c => by have := g4 c; omega⟩
theorem rI_ok {e : Nat} {σ : io_M} (h : rI e σ) (hx : (e : Int) < (σ 111 16).toInt → (σ 130 e).toInt ≤ 19 ∧ ((σ 129 e).toInt = 0 → (σ 130 e).toInt = 0) ∧ (1 < (σ 129 e).toInt → (σ 130 e).toInt < (σ 129 e).toInt)) : rI 99 σ := by
  obtain ⟨hD, hH, hL, hV⟩ := h
  refine ⟨hD, ⟨hH.1, fun h hh => ?_⟩, hL, hV⟩
  obtain ⟨g1, g2, g3, g4, g5, g6⟩ := hH.2 h hh
  refine ⟨g1, g2, g3, g4, g5, fun _ => ?_⟩
  by_cases t : h = e
  · subst t
    exact hx hh
  · exact g6 t
