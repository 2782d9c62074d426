section RE
variable {b0 : Int} {P : Nat} {m : Int} {σ0 σ : io_M} {p1 p2 p3 p4 s v n x : Int32} {pv : io_M → Prop} {post : Int32 → io_M → Prop} {e : Nat}
theorem sr_putByte (h : rM b0 P 41 σ0 σ) (hl : 0 ≤ p2.toInt ∧ p2.toInt < (σ 111 16).toInt) (ho : σ 127 p2.toNatClampNeg = 0) (hp : ∀ s', rP b0 P σ0 s' → pv s') : wp_X10_putByte σ p1 p2 p3 pv := by
  have hn := h.hn
  have z0 := l_0
  have z1 := l_1
  have z20 := l_20
  have hi : vp_in p2 20 := pz_in.mpr ⟨hl.1, by show p2.toInt < 20; omega⟩
  have hcl := pz_cl p2
  obtain ⟨g1, g2, g3, g4, g5, g6⟩ := h.1.2.1.2 p2.toNatClampNeg (by omega)
  have g6 := g6 (by omega)
  refine ⟨hi, fun _ => sr_fails h (by omega) hp, fun _ => ⟨hi, pz_in.mpr ?_, fun s3 e3 => ⟨hi, hi, fun s5 e5 => ⟨hi, hi, fun s7 e7 => ?_⟩⟩⟩⟩
  · rw [pz_21 (by omega) (by omega)]
    show _ ∧ _ < (400 : Int)
    omega
  · have r3 : ∀ k, k ≠ 131 → s3 k = σ k := fun k a => by rw [e3, pu_ne a]
    have r130 : s7 130 = ru (σ 130) p2.toNatClampNeg (σ 130 p2.toNatClampNeg + 1) := by rw [e7, pu_ne (by decide), e5, pu_row, r3 130 (by decide)]
    have rk : ∀ k, k ≠ 130 → k ≠ 131 → k ≠ 132 → s7 k = σ k := fun k a b c => by rw [e7, pu_ne c, e5, pu_ne a, r3 k b]
    have ew := pz_1 (x := σ 130 p2.toNatClampNeg) (by omega)
    have ew7 : (s7 130 p2.toNatClampNeg).toInt = (σ 130 p2.toNatClampNeg).toInt + 1 := by rw [r130, ru_self, ew]
    have e129 : s7 129 = σ 129 := rk 129 (by decide) (by decide) (by decide)
    have e111 : s7 111 = σ 111 := rk 111 (by decide) (by decide) (by decide)
    have e127 : s7 127 = σ 127 := rk 127 (by decide) (by decide) (by decide)
    have hI : rI p2.toNatClampNeg s7 := rI_wait (e := p2.toNatClampNeg) p2.toNatClampNeg _ (by
        obtain ⟨hD, hH, hL, hV⟩ := h.1
        exact (⟨hD, ⟨hH.1, fun h hh => ⟨(hH.2 h hh).1, (hH.2 h hh).2.1, (hH.2 h hh).2.2.1, (hH.2 h hh).2.2.2.1, (hH.2 h hh).2.2.2.2.1, fun _ => (hH.2 h hh).2.2.2.2.2 (by omega)⟩⟩, hL, hV⟩ : rI p2.toNatClampNeg σ)) r130 (fun k q => rk k (by omega) (by omega) (by omega)) (by rw [e111]) (by rw [e111]) (Or.inl rfl) (fun _ => ⟨g4, by omega, fun q => absurd rfl q⟩)
    have hX : rX b0 P 41 σ0 s7 := by
      rw [e7, e5, e3]
      exact rX_up (rX_up (rX_up h.2 (by omega)) (by omega)) (by omega)
    have due : wj_X10_putByte_111 s7 p1 p2 pv := by
      refine ⟨fun q => absurd q (by decide), fun _ => sr_flush hI hX (Or.inr rfl) (by rw [e111]; exact hl) (by rw [e127, ho]; decide) (fun r s hb hM hk hz => ⟨fun _ => sr_fails hM (by omega) hp, fun _ => sr_note (m := 40) hM (by omega) (fun s9 h9 _ _ => sr_gives h9 (by omega) tv_0 hp)⟩)⟩
    have not : ((s7 130 p2.toNatClampNeg).toInt ≤ 19 ∧ ((σ 129 p2.toNatClampNeg).toInt = 0 → (s7 130 p2.toNatClampNeg).toInt = 0) ∧ (1 < (σ 129 p2.toNatClampNeg).toInt → (s7 130 p2.toNatClampNeg).toInt < (σ 129 p2.toNatClampNeg).toInt)) → wj_X10_putByte_115 s7 p1 p2 pv := by
      intro hq
      have hM : rM b0 P (40 + 1) σ0 s7 := ⟨rI_ok hI (fun _ => by rw [e129]; exact hq), hX⟩
      exact ⟨fun _ => sr_note hM (by omega) (fun s9 h9 _ _ => sr_gives h9 (by omega) tv_0 hp), fun q => absurd rfl q⟩
    have k94 : ¬ s7 129 p2.toNatClampNeg = 0 → ((s7 129 p2.toNatClampNeg).toInt ≤ 1 → ¬ (s7 130 p2.toNatClampNeg).toInt = 20) → wj_X10_putByte_94 s7 p1 p2 (s7 129 p2.toNatClampNeg) pv := by
      intro c0 c20
      rw [e129] at c0 c20 ⊢
      have c0' : ¬ (σ 129 p2.toNatClampNeg).toInt = 0 := fun q => c0 (pz_eq.mpr (by omega))
      refine ⟨fun c => not ?_, fun c => ⟨hi, fun _ => due, fun c2 => not ?_⟩⟩
      · have := pz_le.mp c
        have := c20 (by omega)
        omega
      · have := pz_nle c
        have : ¬ (s7 130 p2.toNatClampNeg).toInt = (σ 129 p2.toNatClampNeg).toInt := fun q => c2 (pz_eq.mpr q)
        omega
    refine ⟨hi, fun _ => due, fun c0 => ⟨fun c1 => ⟨fun _ => due, fun _ => ⟨hi, fun _ => due, fun c2 => k94 c0 (fun _ q => c2 (pz_eq.mpr (by omega)))⟩⟩, fun c1 => k94 c0 (fun q => ?_)⟩⟩
    have : ¬ (s7 129 p2.toNatClampNeg).toInt = 1 := fun q => c1 (pz_eq.mpr (by omega))
    have : ¬ (s7 129 p2.toNatClampNeg).toInt = 0 := fun q => c0 (pz_eq.mpr (by omega))
    rw [e129] at *
    omega
theorem sr_list178 {l i : Int32} (h : rM b0 P m σ0 σ) (hm : 0 ≤ m) (hi60 : vp_in p1 60) (hl : 0 ≤ l.toInt ∧ l.toInt < (σ 111 28).toInt) (hi0 : 0 ≤ i.toInt) (hp : ∀ s', rP b0 P σ0 s' → pv s') : wj_X10_list_178 σ p1 l i pv := by
  have hcl := pz_cl l
  have h1 := h.1.2.2.1.1
  obtain ⟨g1, g2, g3, g4⟩ := h.1.2.2.1.2.2 l.toNatClampNeg (by omega)
  have hi : vp_in l 20 := pz_in.mpr ⟨hl.1, by show l.toInt < 20; omega⟩
  refine ⟨hi60, fun _ => ⟨hi, sr_gives h hm tv_0 hp⟩, fun _ => ⟨hi, fun _ => sr_gives h hm tv_0 hp, fun c => ⟨pz_in.mpr ?_, sr_gives h hm tv_0 hp⟩⟩⟩
  have := pz_nle c
  rw [pz_41 (by omega) (by omega)]
  show _ ∧ _ < (800 : Int)
  omega
theorem sr_listL {l i : Int32} {H : Int32} (hi60 : vp_in p1 60) (hi0 : 0 ≤ i.toInt) (hp : ∀ s', rP b0 P σ0 s' → pv s') : ∀ (k : Nat) (σ : io_M), rM b0 P (41 - (σ 136 l.toNatClampNeg).toInt) σ0 σ → (0 ≤ l.toInt ∧ l.toInt < (σ 111 28).toInt) → σ 135 l.toNatClampNeg = H → 1 ≤ k → (σ 138 l.toNatClampNeg = 0 → 42 - (σ 136 l.toNatClampNeg).toInt ≤ k) → wl_X10_list_19 k σ p1 l i H pv := by
  intro k
  have z0 := l_0
  induction k with
  | zero => intro σ _ _ _ h1; exact absurd h1 (by omega)
  | succ k ih =>
    intro σ h hl hH hk1 hk2
    have hcl := pz_cl l
    have h1 := h.1.2.2.1.1
    have hn := h.hn
    obtain ⟨g1, g2, g3, g4⟩ := h.1.2.2.1.2.2 l.toNatClampNeg (by omega)
    rw [hH] at g1 g2 g4
    have hclH := pz_cl H
    have hi : vp_in l 20 := pz_in.mpr ⟨hl.1, by show l.toInt < 20; omega⟩
    have hiH : vp_in H 20 := pz_in.mpr ⟨g1.1, by show H.toInt < 20; omega⟩
    obtain ⟨f1, f2, f3, f4⟩ := h.1.2.1.2 H.toNatClampNeg (by omega)
    have hi8 : vp_in (σ 124 H.toNatClampNeg) 8 := pz_in.mpr ⟨f1.1, by have := f1.2; show (σ 124 H.toNatClampNeg).toInt < 8; omega⟩
    have hD := h.1.1 (σ 124 H.toNatClampNeg).toNatClampNeg
    have fin : wj_X10_list_178 σ p1 l i pv := sr_list178 h (by omega) hi60 hl hi0 hp
    unfold wl_X10_list_19
    refine ⟨hi, fun _ => fin, fun _ => ⟨hi, fun c0 => ⟨hiH, fun c2 => ⟨hi, fun s1 e1 => ?_⟩, fun c2 => ⟨hiH, hiH, hi8, fun c => ⟨hi, hiH, hiH, pz_in.mpr ?_, pz_in.mpr ?_, fun s5 e5 => ⟨hi, hi, fun s7 e7 => ⟨hiH, hiH, fun s9 e9 => ⟨hiH, hiH, fun s11 e11 => ?_⟩⟩⟩⟩, fun c => ⟨hi, fun s5 e5 => ⟨hiH, fun s7 e7 => ?_⟩⟩⟩⟩, fun _ => fin⟩⟩
    · have r : ∀ k, k ≠ 138 → s1 k = σ k := fun k a => by rw [e1, pu_ne a]
      refine ih s1 ?_ (by rw [r 111 (by decide)]; exact hl) (by rw [r 135 (by decide)]; exact hH) (by have := hk2 c0; omega) (fun q => ?_)
      · rw [r 136 (by decide), e1]
        exact rM_up h (by omega)
      · rw [e1, pu_self] at q
        exact absurd q (by decide)
    · have := pz_lt.mp c
      rw [pz_41 (by omega) (by omega)]
      show _ ∧ _ < (320 : Int)
      omega
    · have := pz_lt.mp c
      have := g4 c2
      rw [pz_41 (by omega) (by omega)]
      show _ ∧ _ < (800 : Int)
      omega
    · have hc := pz_lt.mp c
      have hit := g4 c2
      have eu := pz_1 (x := σ 136 l.toNatClampNeg) (by omega)
      have eq := pz_1 (x := σ 126 H.toNatClampNeg) (by omega)
      have r5 : ∀ k, k ≠ 137 → s5 k = σ k := fun k a => by rw [e5, pu_ne a]
      have r136 : s11 136 = ru (σ 136) l.toNatClampNeg (σ 136 l.toNatClampNeg + 1) := by rw [e11, pu_ne (by decide), e9, pu_ne (by decide), e7, pu_row, r5 136 (by decide)]
      have r126 : s11 126 = ru (σ 126) H.toNatClampNeg (σ 126 H.toNatClampNeg + 1) := by rw [e11, pu_ne (by decide), e9, pu_row, e7, pu_ne (by decide), r5 126 (by decide)]
      have rk : ∀ k, k ≠ 126 → k ≠ 133 → k ≠ 136 → k ≠ 137 → s11 k = σ k := fun k a b c d => by rw [e11, pu_ne b, e9, pu_ne a, e7, pu_ne c, r5 k d]
      have hM : rM b0 P (40 - (σ 136 l.toNatClampNeg).toInt + 1) σ0 s11 := by
        refine ⟨rI_item l.toNatClampNeg H.toNatClampNeg _ _ h.1 (by omega) (by rw [hH]) r126 r136 (fun k q => rk k (by omega) (by omega) (by omega) (by omega)) (by rw [rk 111 (by decide) (by decide) (by decide) (by decide)]) (by rw [rk 111 (by decide) (by decide) (by decide) (by decide)]) (by omega) (by omega), ?_⟩
        rw [e11, e9, e7, e5]
        exact rX_up (rX_up (rX_up (rX_up (h.2.le (by omega)) (by omega)) (by omega)) (by omega)) (by omega)
      refine sr_note hM (by omega) (fun s h9 hk9 hs9 => ?_)
      have e136 : s 136 l.toNatClampNeg = σ 136 l.toNatClampNeg + 1 := by rw [hk9 136 (by decide) (by decide), r136, ru_self]
      have e138 : s 138 = σ 138 := by rw [hk9 138 (by decide) (by decide), rk 138 (by decide) (by decide) (by decide) (by decide)]
      refine ih s ?_ ?_ ?_ (by have := hk2 c0; omega) (fun _ => ?_)
      · rw [e136, eu]
        exact ⟨h9.1, h9.2.le (by omega)⟩
      · rw [hs9 28 (by decide), rk 111 (by decide) (by decide) (by decide) (by decide)]
        exact hl
      · rw [hk9 135 (by decide) (by decide), rk 135 (by decide) (by decide) (by decide) (by decide)]
        exact hH
      · rw [e136, eu]
        have := hk2 c0
        omega
    · have r : ∀ k, k ≠ 138 → k ≠ 127 → s7 k = σ k := fun k a b => by rw [e7, pu_ne b, e5, pu_ne a]
      refine ih s7 ?_ (by rw [r 111 (by decide) (by decide)]; exact hl) (by rw [r 135 (by decide) (by decide)]; exact hH) (by have := hk2 c0; omega) (fun q => ?_)
      · rw [r 136 (by decide) (by decide)]
        refine ⟨rI_state H.toNatClampNeg 2 h.1 (by rw [e7, pu_row, e5, pu_ne (by decide)]) (fun k q => r k (by omega) (by omega)) (by rw [r 111 (by decide) (by decide)]) (by rw [r 111 (by decide) (by decide)]) (by decide) (Or.inl rfl), ?_⟩
        rw [e7, e5]
        exact rX_up (rX_up h.2 (by omega)) (by omega)
      · rw [e7, pu_ne (by decide), e5, pu_self] at q
        exact absurd q (by decide)
theorem sr_list {l i : Int32} (h : rM b0 P 41 σ0 σ) (hi60 : vp_in p1 60) (hl : 0 ≤ l.toInt ∧ l.toInt < (σ 111 28).toInt) (hp : ∀ s', rP b0 P σ0 s' → pv s') : wp_X10_list σ p1 l i pv := by
  have h1 := h.1.2.2.1.1
  have z0 := l_0
  have hcl := pz_cl l
  obtain ⟨g1, g2, g3, g4⟩ := h.1.2.2.1.2.2 l.toNatClampNeg (by omega)
  refine ⟨fun c => ⟨pz_in.mpr ⟨hl.1, by show l.toInt < 20; omega⟩, 43, sr_listL hi60 (by have := pz_le.mp c; omega) hp 43 σ ⟨h.1, h.2.le (by omega)⟩ hl rfl (by omega) (fun _ => by omega)⟩, fun _ => sr_fails h (by omega) hp⟩
theorem sr_pair (h : rM b0 P 41 σ0 σ) (hi60 : vp_in p1 60) (hl : p2 = 8 → 0 ≤ p3.toInt ∧ p3.toInt < (σ 111 28).toInt) (hh : ¬ p2 = 8 → 0 ≤ p3.toInt ∧ p3.toInt < (σ 111 16).toInt) (hp : ∀ s', rP b0 P σ0 s' → pv s') : wp_X10_pair σ p1 p2 p3 p4 pv :=
  ⟨fun c => sr_list h hi60 (hl c) hp, fun c => sr_isOpen h (by omega) (hh c) (fun ho => ⟨fun q => absurd q (by decide), fun _ => ⟨fun _ => sr_putByte h (hh c) ho hp, fun _ => sr_seek h (hh c) ho hp⟩⟩) (fun s' q => ⟨fun _ => hp s' q, fun t => absurd rfl t⟩)⟩
end RE
