/-! input, nodes, clear; what is told -/
section FD
variable {b0 : Int} {σ s t : io_M} {x y p1 p2 p3 p4 : Int32} {post : Int32 → io_M → Prop}
theorem pe_input {A : Prop} {N : Int32 → Int32 → io_M → Prop} (hA : A) (h : io_E b0 σ) (hp : ∀ r s, io_E b0 s → N r r s) : wp_X9_input σ x (fun r s => (A ∧ wp_X10_input s x (fun r' s' => N r r' s'))) := by
  have z0 := l_0
  have z100 := l_100
  have z255 := l_255
  have z256 := l_256
  have h' := h
  obtain ⟨⟨hw, hZ, hPm, e9⟩, hD, hJ, hCo, hS, h101, h103, h10, h8, h7⟩ := h'
  obtain ⟨⟨o2, o3, o4⟩, oI, oO⟩ := hCo
  have hC := hZ.2.1
  unfold rC at hC
  refine sp_within (fun q => ⟨fun _ => ⟨hA, sr_in (fun _ => ⟨fun _ => hp _ _ h, fun z => absurd rfl z⟩) (fun hf => absurd (show _ from ⟨by omega, by omega⟩) q)⟩, fun z => absurd rfl z⟩) (fun qf => ⟨fun z => absurd z (by decide), fun _ => ⟨fun c => ⟨pz_in.mpr ⟨by rw [o2]; omega, ?_⟩, fun s3 e3 s5 e5 => ⟨fun z => absurd z (by decide), fun _ => ⟨hA, ?_⟩⟩⟩, fun c => ⟨fun _ => ⟨hA, sr_in (fun q => absurd (show _ from ⟨by omega, by omega⟩) q) (fun _ => ⟨fun z => absurd z (by decide), fun _ => ⟨fun _ => hp _ _ h, fun z => ?_⟩⟩)⟩, fun z => absurd rfl z⟩⟩⟩)
  · have := pz_lt.mp c
    show (σ 93 2).toInt < 100
    omega
  · have hc := pz_lt.mp c
    have hv : 0 ≤ x.toInt ∧ x.toInt < 256 := by omega
    rw [o2] at hc e3
    have k93 : s3 93 = σ 93 := by rw [e3, pu_ne (by decide)]
    rw [k93, o2] at e5
    have g : ∀ k, k ≠ 93 → k ≠ 94 → s5 k = σ k := fun k a b => by rw [e5, pu_ne a, e3, pu_ne b]
    have g2 : s5 93 2 = σ 111 4 + 1 := by rw [e5, pu_self]
    have gj : ∀ j, j ≠ 2 → s5 93 j = σ 93 j := fun j a => by rw [e5, pu_same a, k93]
    have g94 : s5 94 = ru (σ 94) (σ 111 4).toNatClampNeg x := by rw [e5, pu_ne (by decide), e3, pu_row]
    have e111 : s5 111 = σ 111 := g 111 (by decide) (by decide)
    have hC5 : io_CI s5 := by
      rw [e5, e3]
      exact (hw.1.up (ok_94 (Or.inl rfl))).up (ok_93 (fun _ => by rw [pz_1 (by omega)]; omega) (fun q => by omega))
    have ep := pz_1 (x := σ 111 4) (by omega)
    have hcl := pz_cl (σ 111 4)
    refine sr_in (fun q => absurd (show _ from ⟨by omega, by omega⟩) q) (fun _ => ⟨fun z => absurd z (by decide), fun _ => ?_⟩)
    rw [e111]
    refine ⟨fun z => ?_, fun _ => ⟨pz_in.mpr ⟨by omega, by show (σ 111 4).toInt < 100; omega⟩, fun t1 f1 t2 f2 => ?_⟩⟩
    · rw [z] at hc; omega
    · have k111 : t1 111 = σ 111 := by rw [f1, pu_ne (by decide), e111]
      rw [k111] at f2
      have q : ∀ k, k ≠ 111 → k ≠ 116 → t2 k = s5 k := fun k a b => by rw [f2, pu_ne a, f1, pu_ne b]
      have q4 : t2 111 4 = σ 111 4 + 1 := by rw [f2, pu_self]
      have qj : ∀ j, j ≠ 4 → t2 111 j = σ 111 j := fun j a => by rw [f2, pu_s a, k111]
      have q116 : t2 116 = ru (σ 116) (σ 111 4).toNatClampNeg x.toInt8.toInt32.toInt8.toInt32 := by rw [f2, pu_ne (by decide), f1, pu_row, g 116 (by decide) (by decide)]
      have gt : ∀ k, k ≠ 93 → k ≠ 94 → k ≠ 111 → k ≠ 116 → t2 k = σ k := fun k a b c d => by rw [q k c d, g k a b]
      show N (s5 93 2 - s5 93 3) (t2 111 4 - t2 111 5) t2
      rw [g2, gj 3 (by decide), o3, q4, qj 5 (by decide)]
      have e93 : t2 93 = s5 93 := q 93 (by decide) (by decide)
      have e107 : t2 107 = σ 107 := gt 107 (by decide) (by decide) (by decide) (by decide)
      refine hp _ _ ⟨⟨⟨?_, hw.2.1.of' (fun k a b => gt k (by omega) (by omega) (by omega) (by omega)), by rw [e93, gj 4 (by decide)]; exact hw.2.2⟩, ⟨by rw [gt 113 (by decide) (by decide) (by decide) (by decide)]; exact hZ.1, ?_, ?_, by rw [qj 7 (by decide)]; exact hZ.2.2.2.1, by rw [qj 16 (by decide), qj 33 (by decide)]; exact hZ.2.2.2.2⟩, fun j hj => by rw [gt 90 (by decide) (by decide) (by decide) (by decide), gt 115 (by decide) (by decide) (by decide) (by decide)]; exact hPm j hj, by rw [gt 96 (by decide) (by decide) (by decide) (by decide), qj 9 (by decide)]; exact e9⟩, hD.cg (fun k a b => gt k (by omega) (by omega) (by omega) (by omega)) (fun k a b => gt k (by omega) (by omega) (by omega) (by omega)), hJ.cg (by rw [gt 105 (by decide) (by decide) (by decide) (by decide)]) (gt 106 (by decide) (by decide) (by decide) (by decide)) (qj 33 (by decide)) (gt 139 (by decide) (by decide) (by decide) (by decide)), ⟨⟨by rw [e93, g2, q4], by rw [e93, gj 3 (by decide), qj 5 (by decide)]; exact o3, by rw [e93, gj 4 (by decide), qj 7 (by decide)]; exact o4⟩, fun i hi => ?_, fun i hi hj => ?_⟩, hS.cg (fun k a b => gt k (by omega) (by omega) (by omega) (by omega)) (qj 9 (by decide)) (fun k a b => gt k (by omega) (by omega) (by omega) (by omega)), by rw [gt 101 (by decide) (by decide) (by decide) (by decide), qj 16 (by decide)]; exact h101, by rw [gt 103 (by decide) (by decide) (by decide) (by decide), qj 28 (by decide)]; exact h103, by rw [e107, qj 35 (by decide)]; exact h10, by rw [e107, qj 36 (by decide)]; exact h8, by rw [e107, qj 37 (by decide)]; exact h7⟩
      · intro k j
        by_cases c : k < 111
        · rw [q k (by omega) (by omega)]; exact hC5 k j
        · exact ok_w (by omega)
      · unfold rC
        rw [q4, qj 5 (by decide), ep]; omega
      · unfold rN
        rw [qj 9 (by decide), gt 118 (by decide) (by decide) (by decide) (by decide), gt 119 (by decide) (by decide) (by decide) (by decide), gt 120 (by decide) (by decide) (by decide) (by decide), gt 121 (by decide) (by decide) (by decide) (by decide)]; exact hZ.2.2.1
      · rw [q4, ep] at hi
        rw [q 94 (by decide) (by decide), g94, q116]
        by_cases u : i = (σ 111 4).toNatClampNeg
        · rw [u, ru_self, ru_self, bp_b, bp_b, by_id hv]
        · rw [ru_ne u, ru_ne u]; exact oI i (by omega)
      · rw [qj 7 (by decide)] at hj
        rw [gt 95 (by decide) (by decide) (by decide) (by decide), gt 117 (by decide) (by decide) (by decide) (by decide)]
        exact oO i hi hj
  · have hc := pz_nlt c
    rw [o2] at hc
    exact absurd (pz_eq.mpr (by omega)) z
theorem xz_node (h : rZ b0 σ) (h0 : ¬ nd_ok p1 p2 p3 p4 (σ 111 9).toNatClampNeg → post (-2) σ) (h3 : nd_ok p1 p2 p3 p4 (σ 111 9).toNatClampNeg → 60 ≤ (σ 111 9).toInt → post (-3) σ) (h1 : nd_ok p1 p2 p3 p4 (σ 111 9).toNatClampNeg → (σ 111 9).toInt < 60 → ∀ r s5, r = σ 111 9 → s5 111 9 = σ 111 9 + 1 → (∀ j, j ≠ 9 → s5 111 j = σ 111 j) → (∀ k, k ≠ 111 → k ≠ 118 → k ≠ 119 → k ≠ 120 → k ≠ 121 → s5 k = σ k) → s5 118 = ru (σ 118) (σ 111 9).toNatClampNeg p1 → s5 119 = ru (σ 119) (σ 111 9).toNatClampNeg p2 → s5 120 = ru (σ 120) (σ 111 9).toNatClampNeg p3 → s5 121 = ru (σ 121) (σ 111 9).toNatClampNeg p4 → rN s5 → post r s5) : wp_X10_node σ p1 p2 p3 p4 post := by
  have z0 := l_0
  have z28 := l_28
  have z60 := l_60
  obtain ⟨hD, hC, hN, h4, h5⟩ := h
  have hcl := pz_cl (σ 111 9)
  refine sr_in (fun q => ⟨fun _ => h0 (fun w => q (by have := w.1; have := w.2.1; omega)), fun q => absurd rfl q⟩) (fun hc => ⟨fun q => absurd q (by decide), fun _ => sr_areParts hN.1 (by omega) (fun w => ⟨fun _ => h0 w, fun q => absurd rfl q⟩) (fun w => ⟨fun q => absurd q (by decide), fun _ => ⟨fun c => h3 w (by rw [c]; omega), fun c => ?_⟩⟩)⟩)
  have hlt : (σ 111 9).toInt < 60 := by
    have : ¬ (σ 111 9).toInt = 60 := fun q => c (pz_eq.mpr (by omega))
    have := hN.2.1
    omega
  have hi : vp_in (σ 111 9) 60 := pz_in.mpr ⟨hN.1, hlt⟩
  refine ⟨hi, fun s1 e1 => ?_⟩
  have e91 : s1 111 = σ 111 := by rw [e1, pu_ne (by decide)]
  refine ⟨by rw [e91]; exact hi, fun s2 e2 => ?_⟩
  have e92 : s2 111 = σ 111 := by rw [e2, pu_ne (by decide), e91]
  refine ⟨by rw [e92]; exact hi, fun s3 e3 => ?_⟩
  have e93 : s3 111 = σ 111 := by rw [e3, pu_ne (by decide), e92]
  refine ⟨by rw [e93]; exact hi, fun s4 e4 s5 e5 => ?_⟩
  have e94 : s4 111 = σ 111 := by rw [e4, pu_ne (by decide), e93]
  rw [e91] at e2
  rw [e92] at e3
  rw [e93] at e4
  rw [e94] at e5
  have e9 : s5 111 9 = σ 111 9 + 1 := by rw [e5, pu_self]
  have e9' := pz_1 (x := σ 111 9) (by omega)
  have r118 : s5 118 = ru (σ 118) (σ 111 9).toNatClampNeg p1 := by rw [e5, pu_ne (by decide), e4, pu_ne (by decide), e3, pu_ne (by decide), e2, pu_ne (by decide), e1, pu_row]
  have r119 : s5 119 = ru (σ 119) (σ 111 9).toNatClampNeg p2 := by rw [e5, pu_ne (by decide), e4, pu_ne (by decide), e3, pu_ne (by decide), e2, pu_row, e1, pu_ne (by decide)]
  have r120 : s5 120 = ru (σ 120) (σ 111 9).toNatClampNeg p3 := by rw [e5, pu_ne (by decide), e4, pu_ne (by decide), e3, pu_row, e2, pu_ne (by decide), e1, pu_ne (by decide)]
  have r121 : s5 121 = ru (σ 121) (σ 111 9).toNatClampNeg p4 := by rw [e5, pu_ne (by decide), e4, pu_row, e3, pu_ne (by decide), e2, pu_ne (by decide), e1, pu_ne (by decide)]
  refine h1 w hlt _ s5 ?_ e9 (fun j a => by rw [e5, pu_s a, e94]) (fun k a b c d f => by rw [e5, pu_ne a, e4, pu_ne f, e3, pu_ne d, e2, pu_ne c, e1, pu_ne b]) r118 r119 r120 r121 ?_
  · rw [e9]
    apply pz_eq.mpr
    rw [pz_s1 (by have := hN.1; omega), e9']
    omega
  · have hn1 := hN.1
    unfold rN
    rw [e9, e9', r118, r119, r120, r121]
    refine ⟨by omega, by omega, fun n hn => ?_⟩
    by_cases c : n = (σ 111 9).toNatClampNeg
    · rw [c, ru_self, ru_self, ru_self, ru_self]
      exact w
    · rw [ru_ne c, ru_ne c, ru_ne c, ru_ne c]
      exact hN.2.2 n (by omega)
theorem va_ru {f : Nat → Int32} {j : Nat} {v : Int32} : va_up f j v = ru f j v := by
  funext k
  unfold va_up ru
  rfl
theorem pe_node {A B C D : Prop} {z w : Int32} {N : Int32 → Int32 → io_M → Prop} (hA : A) (hB : B) (hC : C) (hD' : D) (h : io_E b0 σ) (hp : ∀ r s, io_E b0 s → N r r s) : wp_X9_node σ x y z w (fun r s => (A ∧ (B ∧ (C ∧ (D ∧ wp_X10_node s x y z w (fun r' s' => N r r' s')))))) := by
  have h' := h
  obtain ⟨⟨hw, hZ, hPm, e9⟩, hD, hJ, hCo, hS, h101, h103, h10, h8, h7⟩ := h'
  refine sf_node hw (fun q => ⟨hA, hB, hC, hD', xz_node hZ (fun _ => hp _ _ h) (fun a => absurd (by rw [← e9] at a; exact a) q) (fun a => absurd (by rw [← e9] at a; exact a) q)⟩) (fun a q => ⟨hA, hB, hC, hD', xz_node hZ (fun b => absurd a (by rw [← e9] at b; exact b)) (fun _ _ => hp _ _ h) (fun _ b => absurd b (by rw [← e9]; omega))⟩) (fun a q r s hws hF hr h1 b7 b8 b9 b10 => ⟨hA, hB, hC, hD', ?_⟩)
  have hz : rZ b0 s := hZ.of (fun k q => hF k (by omega))
  have e111 : s 111 = σ 111 := hF 111 (by omega)
  have e9s : s 111 9 = σ 96 4 := by rw [e111]; exact e9.symm
  have hSc := hw.2.1.1
  refine xz_node hz (fun b => absurd a (by rw [e9s] at b; exact b)) (fun _ b => absurd b (by rw [e9s]; omega)) (fun _ _ r' s' hr2 h92 hs5 hk5 r118 r119 r120 r121 hN' => ?_)
  have er : r' = r := by
    rw [hr2, e9s]
    exact (pz_eq.mpr hr).symm
  rw [er]
  have hk : ∀ k, k ≠ 111 → (k < 96 ∨ 100 < k) → (k < 118 ∨ 121 < k) → s' k = σ k := fun k a b c => by rw [hk5 k a (by omega) (by omega) (by omega) (by omega), hF k (by omega)]
  have hc : ∀ k, k < 111 → s' k = s k := fun k a => hk5 k (by omega) (by omega) (by omega) (by omega) (by omega)
  have hsl : ∀ j, j ≠ 9 → s' 111 j = σ 111 j := fun j a => by rw [hs5 j a, e111]
  have l96 : s' 96 4 = σ 96 4 + 1 := by
    rw [hc 96 (by omega)]
    apply pz_eq.mpr
    rw [h1, pz_1 (by omega)]
  have l9 : s' 111 9 = σ 96 4 + 1 := by rw [h92, e9s]
  have e107 : s' 107 = σ 107 := hk 107 (by decide) (by omega) (by omega)
  rw [e9s] at r118 r119 r120 r121
  rw [hF 118 (by omega)] at r118
  rw [hF 119 (by omega)] at r119
  rw [hF 120 (by omega)] at r120
  rw [hF 121 (by omega)] at r121
  have ep := pz_1 (x := σ 96 4) (by omega)
  have hcl := pz_cl (σ 96 4)
  refine hp _ _ ⟨⟨hws.of hc, ⟨by rw [hk 113 (by decide) (by omega) (by omega)]; exact hZ.1, ?_, hN', by rw [hsl 7 (by decide)]; exact hZ.2.2.2.1, by rw [hsl 16 (by decide), hsl 33 (by decide)]; exact hZ.2.2.2.2⟩, fun j hj => by rw [hk 90 (by decide) (by omega) (by omega), hk 115 (by decide) (by omega) (by omega)]; exact hPm j hj, by rw [l96, l9]⟩, hD.cg (fun k a b => hk k (by omega) (by omega) (by omega)) (fun k a b => hk k (by omega) (by omega) (by omega)), hJ.cg (by rw [hk 105 (by decide) (by omega) (by omega)]) (hk 106 (by decide) (by omega) (by omega)) (hsl 33 (by decide)) (hk 139 (by decide) (by omega) (by omega)), hCo.cg (hk 93 (by decide) (by omega) (by omega)) (hk 94 (by decide) (by omega) (by omega)) (hk 95 (by decide) (by omega) (by omega)) (fun j a => ?_) (hk 116 (by decide) (by omega) (by omega)) (hk 117 (by decide) (by omega) (by omega)), ⟨by rw [l96, l9], fun m hm => ?_⟩, by rw [hk 101 (by decide) (by omega) (by omega), hsl 16 (by decide)]; exact h101, by rw [hk 103 (by decide) (by omega) (by omega), hsl 28 (by decide)]; exact h103, by rw [e107, hsl 35 (by decide)]; exact h10, by rw [e107, hsl 36 (by decide)]; exact h8, by rw [e107, hsl 37 (by decide)]; exact h7⟩
  · unfold rC; rw [hsl 4 (by decide), hsl 5 (by decide)]; exact hZ.2.1
  · exact hsl j (by omega)
  · rw [l9, ep] at hm
    rw [hc 97 (by omega), hc 98 (by omega), hc 99 (by omega), hc 100 (by omega), b7, b8, b9, b10, va_ru, va_ru, va_ru, va_ru, r118, r119, r120, r121]
    by_cases u : m = (σ 96 4).toNatClampNeg
    · rw [u, ru_self, ru_self, ru_self, ru_self, ru_self, ru_self, ru_self, ru_self]
      exact ⟨rfl, rfl, rfl, rfl⟩
    · rw [ru_ne u, ru_ne u, ru_ne u, ru_ne u, ru_ne u, ru_ne u, ru_ne u, ru_ne u]
      exact hS.2 m (by rw [← e9]; omega)
theorem pe_clear {N : Int32 → Int32 → io_M → Prop} (hb : 0 ≤ b0) (h : io_E b0 σ) (hp : ∀ r s, io_E b0 s → N r r s) : wp_X9_clear σ (fun r s => wp_X10_clear s (fun r' s' => N r r' s')) := by
  have z0 := l_0
  obtain ⟨⟨hw, hZ, hPm, e9⟩, hD, hJ, hCo, hS, h101, h103, h10, h8, h7⟩ := h
  intro s1 e1 s2 e2 s3 e3 s4 e4 t1 f1 t2 f2 t3 f3 t4 f4
  have g : ∀ k, k ≠ 93 → k ≠ 96 → s4 k = σ k := fun k a b => by rw [e4, pu_ne a, e3, pu_ne a, e2, pu_ne a, e1, pu_ne b]
  have g96 : s4 96 4 = 0 := by rw [e4, pu_ne (by decide), e3, pu_ne (by decide), e2, pu_ne (by decide), e1, pu_self]
  have g2 : s4 93 2 = 0 := by rw [e4, pu_same (by decide), e3, pu_same (by decide), e2, pu_self]
  have g3 : s4 93 3 = 0 := by rw [e4, pu_same (by decide), e3, pu_self]
  have g4 : s4 93 4 = 0 := by rw [e4, pu_self]
  have hC4 : io_CI s4 := by
    rw [e4, e3, e2, e1]
    exact (((hw.1.up (ok_s (by omega))).up (ok_93 (fun _ => by omega) (fun q => by omega))).up (ok_93 (fun q => by omega) (fun _ => by omega))).up (ok_93 (fun q => by omega) (fun q => by omega))
  have q : ∀ k, k ≠ 111 → t4 k = s4 k := fun k a => by rw [f4, pu_ne a, f3, pu_ne a, f2, pu_ne a, f1, pu_ne a]
  have qs : ∀ j, j ≠ 9 → j ≠ 4 → j ≠ 5 → j ≠ 7 → t4 111 j = σ 111 j := fun j a b c d => by rw [f4, pu_s d, f3, pu_s c, f2, pu_s b, f1, pu_s a, g 111 (by decide) (by decide)]
  have q9 : t4 111 9 = 0 := by rw [f4, pu_s (by decide), f3, pu_s (by decide), f2, pu_s (by decide), f1, pu_self]
  have q4 : t4 111 4 = 0 := by rw [f4, pu_s (by decide), f3, pu_s (by decide), f2, pu_self]
  have q5 : t4 111 5 = 0 := by rw [f4, pu_s (by decide), f3, pu_self]
  have q7 : t4 111 7 = 0 := by rw [f4, pu_self]
  have gt : ∀ k, k ≠ 93 → k ≠ 96 → k ≠ 111 → t4 k = σ k := fun k a b c => by rw [q k c, g k a b]
  have e93 : t4 93 = s4 93 := q 93 (by decide)
  have e96 : t4 96 = s4 96 := q 96 (by decide)
  have e107 : t4 107 = σ 107 := gt 107 (by decide) (by decide) (by decide)
  rw [g 111 (by decide) (by decide), ← e9]
  refine hp _ _ ⟨⟨⟨?_, ⟨by rw [e96, g96]; omega, by rw [e96, g96]; omega, fun n hn => ?_⟩, by rw [e93, g4]; omega⟩, ⟨by rw [gt 113 (by decide) (by decide) (by decide)]; exact hZ.1, ?_, ⟨by rw [q9]; omega, by rw [q9]; omega, fun n hn => ?_⟩, by rw [q7]; omega, by rw [qs 16 (by decide) (by decide) (by decide) (by decide), qs 33 (by decide) (by decide) (by decide) (by decide)]; exact hZ.2.2.2.2⟩, fun j hj => by rw [gt 90 (by decide) (by decide) (by decide), gt 115 (by decide) (by decide) (by decide)]; exact hPm j hj, by rw [e96, g96, q9]⟩, hD.cg (fun k a b => gt k (by omega) (by omega) (by omega)) (fun k a b => gt k (by omega) (by omega) (by omega)), hJ.cg (by rw [gt 105 (by decide) (by decide) (by decide)]) (gt 106 (by decide) (by decide) (by decide)) (qs 33 (by decide) (by decide) (by decide) (by decide)) (gt 139 (by decide) (by decide) (by decide)), ⟨⟨by rw [e93, g2, q4], by rw [e93, g3, q5], by rw [e93, g4, q7]⟩, fun i hi => ?_, fun i hi hj => ?_⟩, ⟨by rw [e96, g96, q9], fun n hn => ?_⟩, by rw [gt 101 (by decide) (by decide) (by decide), qs 16 (by decide) (by decide) (by decide) (by decide)]; exact h101, by rw [gt 103 (by decide) (by decide) (by decide), qs 28 (by decide) (by decide) (by decide) (by decide)]; exact h103, by rw [e107, qs 35 (by decide) (by decide) (by decide) (by decide)]; exact h10, by rw [e107, qs 36 (by decide) (by decide) (by decide) (by decide)]; exact h8, by rw [e107, qs 37 (by decide) (by decide) (by decide) (by decide)]; exact h7⟩
  · intro k j
    by_cases c : k < 111
    · rw [q k (by omega)]; exact hC4 k j
    · exact ok_w (by omega)
  · rw [e96, g96] at hn; omega
  · unfold rC; rw [q4, q5]; omega
  · rw [q9] at hn; omega
  · rw [q4] at hi; omega
  · rw [q7] at hj; omega
  · rw [q9] at hn; omega
theorem pe_value {N : Int32 → Int32 → io_M → Prop} (h : io_E b0 σ) (hp : ∀ r s, io_E b0 s → N r r s) : wp_X9_value σ (fun r s => wp_X10_value s (fun r' s' => N r r' s')) := by
  show N (σ 107 8) (σ 111 36) σ
  rw [h.2.2.2.2.2.2.2.2.1]
  exact hp _ _ h
theorem pe_where {N : Int32 → Int32 → io_M → Prop} (h : io_E b0 σ) (hp : ∀ r s, io_E b0 s → N r r s) : wp_X9_where σ (fun r s => wp_X10_where s (fun r' s' => N r r' s')) := by
  refine ⟨fun q => ?_, fun q => ?_⟩
  · show N (σ 107 9) (σ 111 37) σ
    rcases h.2.2.2.2.2.2.2.2.2 with w | w
    · rw [w.2]; exact hp _ _ h
    · exact absurd q w.1
  · show N (-1) (σ 111 37) σ
    rcases h.2.2.2.2.2.2.2.2.2 with w | w
    · exact absurd w.1 q
    · rw [w.2]; exact hp _ _ h
theorem pe_worked {N : Int32 → Int32 → io_M → Prop} (h : io_E b0 σ) (hp : ∀ r s, io_E b0 s → N r r s) : wp_X9_worked σ (fun r s => wp_X10_worked s (fun r' s' => N r r' s')) := by
  show N (σ 107 10) (σ 111 35) σ
  rw [h.2.2.2.2.2.2.2.1]
  exact hp _ _ h
theorem pe_order {A : Prop} {N : Int32 → Int32 → io_M → Prop} (hA : A) (h : io_E b0 σ) (hp : ∀ r s, io_E b0 s → N r r s) : wp_X9_order σ x (fun r s => (A ∧ wp_X10_order s x (fun r' s' => N r r' s'))) := by
  have z0 := l_0
  have z300 := l_300
  have e299 : ((300 : Int32) - 1).toInt = 299 := by decide
  have hJ := h.2.2.1
  have h33 := h.1.2.1.2.2.2.2.2
  have ef := hJ.1
  have hcl := pz_cl x
  -- the reference's answer
  have ref : ∀ r0 : Int32, (¬ (0 ≤ x.toInt ∧ x.toInt < 300 ∧ x.toInt < (σ 111 33).toInt) → r0 = -1) → ((0 ≤ x.toInt ∧ x.toInt < 300 ∧ x.toInt < (σ 111 33).toInt) → r0 = σ 139 x.toNatClampNeg) → A ∧ wp_X10_order σ x (fun r' s' => N r0 r' s') := by
    intro r0 h0 h1
    refine ⟨hA, fun c => sr_in (fun q => ⟨fun _ => ?_, fun z => absurd rfl z⟩) (fun q => ⟨fun z => absurd z (by decide), fun _ => ⟨pz_in.mpr ?_, ?_⟩⟩), fun c => sr_in (fun q => ⟨fun _ => ?_, fun z => absurd rfl z⟩) (fun q => ⟨fun z => absurd z (by decide), fun _ => ⟨pz_in.mpr ?_, ?_⟩⟩)⟩
    · have := pz_le.mp c
      rw [e299] at q
      rw [h0 (by omega)]; exact hp _ _ h
    · rw [e299] at q
      show _ ∧ _ < (300 : Int)
      omega
    · have := pz_le.mp c
      rw [e299] at q
      rw [h1 (by omega)]; exact hp _ _ h
    · have := pz_nle c
      rw [pz_s1 (by omega)] at q
      rw [h0 (by omega)]; exact hp _ _ h
    · have := pz_nle c
      rw [pz_s1 (by omega)] at q
      show _ ∧ _ < (300 : Int)
      omega
    · have := pz_nle c
      rw [pz_s1 (by omega)] at q
      rw [h1 (by omega)]; exact hp _ _ h
  have em : (if 300 < σ 105 1 then (300 : Int32) else σ 105 1).toInt = if (σ 111 33).toInt < 300 then (σ 111 33).toInt else 300 := by
    rw [ef]
    by_cases c : 300 < σ 111 33
    · have := pz_lt.mp c
      rw [if_pos c, if_neg (by omega)]; exact z300
    · have := pz_nlt c
      rw [if_neg c]
      by_cases d : (σ 111 33).toInt < 300
      · rw [if_pos d]
      · rw [if_neg d]; omega
  unfold wp_X9_order wp_X4_entry
  refine sp_within (fun q => ⟨fun _ => ref _ (fun _ => rfl) (fun t => ?_), fun z => absurd rfl z⟩) (fun q => ⟨fun z => absurd z (by decide), fun _ => ⟨pz_in.mpr ?_, ref _ (fun t => ?_) (fun t => ?_)⟩⟩)
  · exfalso
    rw [em] at q
    apply q
    refine ⟨t.1, ?_⟩
    by_cases d : (σ 111 33).toInt < 300
    · rw [if_pos d]; omega
    · rw [if_neg d]; omega
  · rw [em] at q
    by_cases d : (σ 111 33).toInt < 300
    · rw [if_pos d] at q; show _ ∧ _ < (300 : Int); omega
    · rw [if_neg d] at q; exact q
  · exfalso
    rw [em] at q
    apply t
    by_cases d : (σ 111 33).toInt < 300
    · rw [if_pos d] at q; omega
    · rw [if_neg d] at q; omega
  · exact hJ.2 x.toNatClampNeg (by omega) (by omega)
theorem pe_handle {A B : Prop} {N : Int32 → Int32 → io_M → Prop} (hA : A) (hB : B) (h : io_E b0 σ) (hp : ∀ r r' s, io_E b0 s → N r r' s) : wp_X9_handle σ x y (fun r s => (A ∧ (B ∧ wp_X10_handle s x y (fun r' s' => N r r' s')))) :=
  sf_handle h.1.1.1 (fun r => ⟨hA, hB, sz_handle h.1.2.1 (fun r' => hp _ _ _ h)⟩)
theorem pe_content {A B : Prop} {N : Int32 → Int32 → io_M → Prop} (hA : A) (hB : B) (h : io_E b0 σ) (hp : ∀ r s, io_E b0 s → N r r s) : wp_X9_content σ x y (fun r s => (A ∧ (B ∧ wp_X10_content s x y (fun r' s' => N r r' s')))) := by
  have z0 := l_0
  have z7 := l_7
  have z8 := l_8
  have hD := h.2.1
  refine sp_within (fun q => ⟨fun _ => ⟨hA, hB, sr_in (fun _ => ⟨fun _ => hp _ _ h, fun z => absurd rfl z⟩) (fun hf => absurd (show _ from ⟨by omega, by omega⟩) q)⟩, fun z => absurd rfl z⟩) (fun qf => ⟨fun z => absurd z (by decide), fun _ => ?_⟩)
  have hf : 0 ≤ x.toInt ∧ x.toInt < 8 := by omega
  have hi := pz_in (n := 8).mpr hf
  have hF := pn_8 hf
  obtain ⟨d1, d2, d3, d4, d5, d6, d7⟩ := hD.1 _ hF
  have hycl := pz_cl y
  have ref : ∀ r0 : Int32, (¬ (0 ≤ y.toInt ∧ y.toInt < (σ 113 x.toNatClampNeg).toInt) → r0 = -1) → ((0 ≤ y.toInt ∧ y.toInt < (σ 113 x.toNatClampNeg).toInt) → r0 = σ 114 (40 * x.toNatClampNeg + y.toNatClampNeg) &&& 255) → A ∧ (B ∧ wp_X10_content σ x y (fun r' s' => N r0 r' s')) := by
    intro r0 h0 h1
    refine ⟨hA, hB, sr_in (fun q => absurd (show _ from ⟨by omega, by omega⟩) q) (fun _ => ⟨fun z => absurd z (by decide), fun _ => ⟨hi, fun t => ?_, fun t => ⟨hi, sr_in (fun q => ⟨fun _ => ?_, fun z => absurd rfl z⟩) (fun q => ⟨fun z => absurd z (by decide), fun _ => ⟨pz_in.mpr ?_, ?_⟩⟩)⟩⟩⟩)⟩
    · have := d5 t
      rw [h0 (by rw [this]; omega)]; exact hp _ _ h
    · rw [pz_s1 (by omega)] at q
      rw [h0 (by omega)]; exact hp _ _ h
    · rw [pz_s1 (by omega)] at q
      rw [pz_41 (by omega) (by omega)]
      show _ ∧ _ < (320 : Int)
      omega
    · rw [pz_s1 (by omega)] at q
      have i41 := pn_41 (f := x) (p := y) (by omega) (by omega)
      rw [h1 (by omega), i41]; exact hp _ _ h
  refine ⟨fun q => ref _ (fun _ => rfl) (fun t => ?_), fun q => ⟨hi, fun q2 => ref _ (fun _ => rfl) (fun t => ?_), fun q2 => ⟨hi, pz_in.mpr ?_, ref _ (fun t => ?_) (fun t => ?_)⟩⟩⟩
  · have := pz_lt.mp q
    omega
  · have := pz_le.mp q2
    rw [d3] at this
    omega
  · have a := pz_nlt q
    have b := pz_nle q2
    rw [d3] at b
    show _ ∧ _ < (40 : Int)
    omega
  · have a := pz_nlt q
    have b := pz_nle q2
    rw [d3] at b
    exact absurd (show _ from ⟨by omega, by omega⟩) t
  · exact d7 _ (by omega)
theorem pe_size {A : Prop} {N : Int32 → Int32 → io_M → Prop} (hA : A) (h : io_E b0 σ) (hp : ∀ r s, io_E b0 s → N r r s) : wp_X9_size σ x (fun r s => (A ∧ wp_X10_size s x (fun r' s' => N r r' s'))) := by
  have z0 := l_0
  have z7 := l_7
  have z8 := l_8
  have hD := h.2.1
  refine sp_within (fun q => ⟨fun _ => ⟨hA, sr_in (fun _ => ⟨fun _ => hp _ _ h, fun z => absurd rfl z⟩) (fun hf => absurd (show _ from ⟨by omega, by omega⟩) q)⟩, fun z => absurd rfl z⟩) (fun qf => ⟨fun z => absurd z (by decide), fun _ => ?_⟩)
  have hf : 0 ≤ x.toInt ∧ x.toInt < 8 := by omega
  have hi := pz_in (n := 8).mpr hf
  obtain ⟨d1, d2, d3, d4, d5, d6, d7⟩ := hD.1 _ (pn_8 hf)
  refine ⟨hi, CI_89 h.1.1.1 _, fun t => ⟨hA, sr_in (fun q => absurd (show _ from ⟨by omega, by omega⟩) q) (fun _ => ⟨fun z => absurd z (by decide), fun _ => ⟨hi, fun _ => hp _ _ h, fun u => absurd (d1.symm.trans t) u⟩⟩)⟩, fun t => ⟨hi, hA, sr_in (fun q => absurd (show _ from ⟨by omega, by omega⟩) q) (fun _ => ⟨fun z => absurd z (by decide), fun _ => ⟨hi, fun u => absurd (d1.trans u) t, fun _ => ⟨hi, ?_⟩⟩⟩)⟩⟩
  rw [d3]
  exact hp _ _ h
theorem pe_printed {A : Prop} {N : Int32 → Int32 → io_M → Prop} (hA : A) (h : io_E b0 σ) (hp : ∀ r s, io_E b0 s → N r r s) : wp_X9_printed σ x (fun r s => (A ∧ wp_X10_printed s x (fun r' s' => N r r' s'))) := by
  have z0 := l_0
  have z200 := l_200
  have e199 : ((200 : Int32) - 1).toInt = 199 := by decide
  have hCo := h.2.2.2.1
  have h7 := h.1.2.1.2.2.2.1
  have ef := hCo.1.2.2
  have hcl := pz_cl x
  have ref : ∀ r0 : Int32, (¬ (0 ≤ x.toInt ∧ x.toInt < 200 ∧ x.toInt < (σ 111 7).toInt) → r0 = -1) → ((0 ≤ x.toInt ∧ x.toInt < 200 ∧ x.toInt < (σ 111 7).toInt) → r0 = σ 117 x.toNatClampNeg &&& 255) → A ∧ wp_X10_printed σ x (fun r' s' => N r0 r' s') := by
    intro r0 h0 h1
    refine ⟨hA, fun c => sr_in (fun q => ⟨fun _ => ?_, fun z => absurd rfl z⟩) (fun q => ⟨fun z => absurd z (by decide), fun _ => ⟨pz_in.mpr ?_, ?_⟩⟩), fun c => sr_in (fun q => ⟨fun _ => ?_, fun z => absurd rfl z⟩) (fun q => ⟨fun z => absurd z (by decide), fun _ => ⟨pz_in.mpr ?_, ?_⟩⟩)⟩
    · have := pz_le.mp c
      rw [e199] at q
      rw [h0 (by omega)]; exact hp _ _ h
    · rw [e199] at q
      show _ ∧ _ < (200 : Int)
      omega
    · have := pz_le.mp c
      rw [e199] at q
      rw [h1 (by omega)]; exact hp _ _ h
    · have := pz_nle c
      rw [pz_s1 (by omega)] at q
      rw [h0 (by omega)]; exact hp _ _ h
    · have := pz_nle c
      rw [pz_s1 (by omega)] at q
      show _ ∧ _ < (200 : Int)
      omega
    · have := pz_nle c
      rw [pz_s1 (by omega)] at q
      rw [h1 (by omega)]; exact hp _ _ h
  have em : (if 200 < σ 93 4 then (200 : Int32) else σ 93 4).toInt = if (σ 111 7).toInt < 200 then (σ 111 7).toInt else 200 := by
    rw [ef]
    by_cases c : 200 < σ 111 7
    · have := pz_lt.mp c
      rw [if_pos c, if_neg (by omega)]; exact z200
    · have := pz_nlt c
      rw [if_neg c]
      by_cases d : (σ 111 7).toInt < 200
      · rw [if_pos d]
      · rw [if_neg d]; omega
  unfold wp_X9_printed wp_X0_printedByte
  refine sp_within (fun q => ⟨fun _ => ref _ (fun _ => rfl) (fun t => ?_), fun z => absurd rfl z⟩) (fun q => ⟨fun z => absurd z (by decide), fun _ => ⟨pz_in.mpr ?_, ref _ (fun t => ?_) (fun t => ?_)⟩⟩)
  · exfalso
    rw [em] at q
    apply q
    refine ⟨t.1, ?_⟩
    by_cases d : (σ 111 7).toInt < 200
    · rw [if_pos d]; omega
    · rw [if_neg d]; omega
  · rw [em] at q
    by_cases d : (σ 111 7).toInt < 200
    · rw [if_pos d] at q; show _ ∧ _ < (200 : Int); omega
    · rw [if_neg d] at q; exact q
  · exfalso
    rw [em] at q
    apply t
    by_cases d : (σ 111 7).toInt < 200
    · rw [if_pos d] at q; omega
    · rw [if_neg d] at q; omega
  · exact hCo.2.2 x.toNatClampNeg (by omega) (by omega)
theorem pe_told {A : Prop} {N : Int32 → Int32 → io_M → Prop} (hA : A) (h : io_E b0 σ) (hp : ∀ r s, io_E b0 s → N r r s) : wp_X9_told σ x (fun r s => (A ∧ wp_X10_told s x (fun r' s' => N r r' s'))) := by
  have hE := h.2
  have same : ∀ r0 r1 : Int32, r0 = r1 → N r0 r1 σ := fun r0 r1 e => by rw [e]; exact hp _ _ h
  refine ⟨fun q => ⟨hA, fun _ => same _ _ hE.2.2.2.1.1, fun z => absurd q z⟩, fun q0 => ⟨fun q => ⟨hA, fun z => absurd z q0, fun _ => ⟨fun _ => same _ _ (by rw [hE.2.2.1.1.1, hE.2.2.1.1.2.1]), fun z => absurd q z⟩⟩, fun q1 => ⟨fun q => ⟨hA, fun z => absurd z q0, fun _ => ⟨fun z => absurd z q1, fun _ => ⟨fun _ => same _ _ hE.2.2.1.1.2.2, fun z => absurd q z⟩⟩⟩, fun q2 => ⟨fun q => ⟨hA, fun z => absurd z q0, fun _ => ⟨fun z => absurd z q1, fun _ => ⟨fun z => absurd z q2, fun _ => ⟨fun _ => sx_all hE.1 (fun r er => same _ _ (pz_eq.mpr er.symm)), fun z => absurd q z⟩⟩⟩⟩, fun q3 => ⟨fun q => ⟨hA, fun z => absurd z q0, fun _ => ⟨fun z => absurd z q1, fun _ => ⟨fun z => absurd z q2, fun _ => ⟨fun z => absurd z q3, fun _ => ⟨fun _ => same _ _ hE.2.2.2.2.1, fun z => absurd q z⟩⟩⟩⟩⟩, fun q4 => ⟨fun q => ⟨hA, fun z => absurd z q0, fun _ => ⟨fun z => absurd z q1, fun _ => ⟨fun z => absurd z q2, fun _ => ⟨fun z => absurd z q3, fun _ => ⟨fun z => absurd z q4, fun _ => ⟨fun _ => same _ _ hE.2.2.2.2.2.1, fun z => absurd q z⟩⟩⟩⟩⟩⟩, fun q5 => ⟨fun q => ⟨hA, fun z => absurd z q0, fun _ => ⟨fun z => absurd z q1, fun _ => ⟨fun z => absurd z q2, fun _ => ⟨fun z => absurd z q3, fun _ => ⟨fun z => absurd z q4, fun _ => ⟨fun z => absurd z q5, fun _ => ⟨fun _ => same _ _ hE.2.1.1, fun z => absurd q z⟩⟩⟩⟩⟩⟩⟩, fun q6 => ⟨hA, fun z => absurd z q0, fun _ => ⟨fun z => absurd z q1, fun _ => ⟨fun z => absurd z q2, fun _ => ⟨fun z => absurd z q3, fun _ => ⟨fun z => absurd z q4, fun _ => ⟨fun z => absurd z q5, fun _ => ⟨fun z => absurd z q6, fun _ => same _ _ rfl⟩⟩⟩⟩⟩⟩⟩⟩⟩⟩⟩⟩⟩⟩
end FD
/-- at first -/
theorem io_E0 (fp fm : Nat → Int32) (hp : ∀ j, j < 8 → fp j = 3) (hm : ∀ j, j < 8 → fm j = 3) : io_E 0 (io_s0 fp fm) := by
  have z0 := l_0
  have ez : ∀ k, 60 ≤ k → k ≠ 90 → k ≠ 107 → k ≠ 111 → k ≠ 115 → io_s0 fp fm k = io_z0 := fun k a b c d f => by
    unfold io_s0
    rw [if_neg (by omega), if_neg (by omega), if_neg (by omega), if_neg b, if_neg c, if_neg d, if_neg f]
  have e0 : ∀ j, io_z0 j = 0 := fun j => rfl
  have m0 : ∀ j, j ≠ 37 → io_s0 fp fm 111 j = 0 := fun j q => by
    have e111 : io_s0 fp fm 111 = io_rM := rfl
    rw [e111]; exact if_neg q
  have z : ∀ k j, 60 ≤ k → k ≠ 90 → k ≠ 107 → k ≠ 111 → k ≠ 115 → io_s0 fp fm k j = 0 := fun k j a b c d f => by rw [ez k a b c d f]; exact e0 j
  have sz : ∀ n : Nat, sN (io_s0 fp fm 113) n = 0 := by
    intro n
    induction n with
    | zero => rfl
    | succ n ih =>
      unfold sN
      rw [ih, z 113 n (by omega) (by decide) (by decide) (by decide) (by decide)]; exact z0
  refine ⟨io_J0 fp fm hp hm, ⟨fun f hf => ⟨?_, ?_, ?_, ?_, fun _ => ?_, ?_, fun i hi => ?_⟩, ?_, ?_⟩, ⟨?_, fun i hi hj => ?_⟩, ⟨⟨?_, ?_, ?_⟩, fun i hi => ?_, fun i hi hj => ?_⟩, ⟨?_, fun n hn => ?_⟩, ?_, ?_, ?_, ?_, Or.inr ⟨?_, ?_⟩⟩
  · rw [z 89 f (by omega) (by decide) (by decide) (by decide) (by decide), z 112 f (by omega) (by decide) (by decide) (by decide) (by decide)]
  · have e90 : io_s0 fp fm 90 = fp := rfl
    have e115 : io_s0 fp fm 115 = fm := rfl
    rw [e90, e115, hp f hf, hm f hf]
  · rw [z 91 f (by omega) (by decide) (by decide) (by decide) (by decide), z 113 f (by omega) (by decide) (by decide) (by decide) (by decide)]
  · rw [z 112 f (by omega) (by decide) (by decide) (by decide) (by decide)]; exact Or.inl rfl
  · exact z 113 f (by omega) (by decide) (by decide) (by decide) (by decide)
  · rw [z 113 f (by omega) (by decide) (by decide) (by decide) (by decide)]; omega
  · rw [z 113 f (by omega) (by decide) (by decide) (by decide) (by decide)] at hi; omega
  · rw [sz 8, z 88 4 (by omega) (by decide) (by decide) (by decide) (by decide)]; exact z0
  · rw [z 88 4 (by omega) (by decide) (by decide) (by decide) (by decide)]; omega
  · rw [z 105 1 (by omega) (by decide) (by decide) (by decide) (by decide), m0 33 (by decide)]
  · rw [m0 33 (by decide)] at hj; omega
  · rw [z 93 2 (by omega) (by decide) (by decide) (by decide) (by decide), m0 4 (by decide)]
  · rw [z 93 3 (by omega) (by decide) (by decide) (by decide) (by decide), m0 5 (by decide)]
  · rw [z 93 4 (by omega) (by decide) (by decide) (by decide) (by decide), m0 7 (by decide)]
  · rw [m0 4 (by decide)] at hi; omega
  · rw [m0 7 (by decide)] at hj; omega
  · rw [z 96 4 (by omega) (by decide) (by decide) (by decide) (by decide), m0 9 (by decide)]
  · rw [m0 9 (by decide)] at hn; omega
  · rw [z 101 2 (by omega) (by decide) (by decide) (by decide) (by decide), m0 16 (by decide)]
  · rw [z 103 1 (by omega) (by decide) (by decide) (by decide) (by decide), m0 28 (by decide)]
  · rw [m0 35 (by decide)]; rfl
  · rw [m0 36 (by decide)]; rfl
  · have e : io_s0 fp fm 107 7 = 0 := rfl
    rw [e]; decide
  · rfl
