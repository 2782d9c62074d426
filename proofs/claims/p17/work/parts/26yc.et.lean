/-! the other calls, on both sides: files -/
section FC
variable {b0 : Int} {σ s t : io_M} {x y : Int32}
theorem l_8 : (8 : Int32).toInt = 8 := by decide
theorem l_255 : (255 : Int32).toInt = 255 := by decide
theorem l_256 : (256 : Int32).toInt = 256 := by decide
theorem l_120 : (120 : Int32).toInt = 120 := by decide
/-- the disk alone moved, on both sides -/
theorem io_E.dk (h : io_E b0 σ) (hC : io_CI s) (hR : rD (s 113)) (hc : ∀ k, k < 80 ∨ (92 ≤ k ∧ k < 112) ∨ 116 ≤ k → s k = σ k) (hD : oD s s) : io_E b0 s := by
  obtain ⟨⟨hw, hZ, _, e9⟩, _, hJ, hCo, hS, h101, h103, h10, h8, h7⟩ := h
  have e111 : s 111 = σ 111 := hc 111 (by omega)
  have e107 : s 107 = σ 107 := hc 107 (by omega)
  refine ⟨⟨⟨hC, hw.2.1.of' (fun k a b => hc k (by omega)), by rw [hc 93 (by omega)]; exact hw.2.2⟩, hZ.dk hR e111 (fun k a b => hc k (by omega)), fun j hj => (hD.1 j hj).2.1, by rw [hc 96 (by omega), e111]; exact e9⟩, hD, hJ.cg (by rw [hc 105 (by omega)]) (hc 106 (by omega)) (by rw [e111]) (hc 139 (by omega)), hCo.cg (hc 93 (by omega)) (hc 94 (by omega)) (hc 95 (by omega)) (fun j a => by rw [e111]) (hc 116 (by omega)) (hc 117 (by omega)), hS.cg (fun k a b => hc k (by omega)) (by rw [e111]) (fun k a b => hc k (by omega)), by rw [hc 101 (by omega), e111]; exact h101, by rw [hc 103 (by omega), e111]; exact h103, by rw [e107, e111]; exact h10, by rw [e107, e111]; exact h8, by rw [e107, e111]; exact h7⟩
theorem pe_lay {A B : Prop} {N : Int32 → Int32 → io_M → Prop} (hA : A) (hB : B) (h : io_E b0 σ) (hp : ∀ r s, io_E b0 s → N r r s) : wp_X9_lay σ x y (fun r s => (A ∧ (B ∧ wp_X10_lay s x y (fun r' s' => N r r' s')))) := by
  have z0 := l_0
  have z7 := l_7
  have z8 := l_8
  have z40 := l_40
  have z120 := l_120
  have z255 := l_255
  have z256 := l_256
  have hw := h.1.1
  have hZ := h.1.2.1
  have hD := h.2.1
  have out : ¬ ((0 ≤ x.toInt ∧ x.toInt < 8) ∧ 0 ≤ y.toInt ∧ y.toInt < 256) → A ∧ (B ∧ wp_X10_lay σ x y (fun r' s' => N (-2) r' s')) := fun q => ⟨hA, hB, sr_in (fun _ => ⟨fun _ => hp _ _ h, fun z => absurd rfl z⟩) (fun hf => ⟨fun z => absurd z (by decide), fun _ => sr_in (fun _ => ⟨fun _ => hp _ _ h, fun z => absurd rfl z⟩) (fun hv => absurd (show _ from ⟨⟨by omega, by omega⟩, by omega, by omega⟩) q)⟩)⟩
  refine sp_within (fun q => ⟨fun _ => out (by omega), fun z => absurd rfl z⟩) (fun qf => ⟨fun z => absurd z (by decide), fun _ => sp_within (fun q => ⟨fun _ => out (by omega), fun z => absurd rfl z⟩) (fun qv => ⟨fun z => absurd z (by decide), fun _ => ?_⟩)⟩)
  have hf : 0 ≤ x.toInt ∧ x.toInt < 8 := by omega
  have hv : 0 ≤ y.toInt ∧ y.toInt < 256 := by omega
  have hi := pz_in (n := 8).mpr hf
  have hF := pn_8 hf
  obtain ⟨d1, d2, d3, d4, d5, d6, d7⟩ := hD.1 _ hF
  have hu := hD.2.2
  have hsum := hD.2.1
  have hsub := sN_b (r := σ 113) 8 (fun j hj => (hD.1 j hj).2.2.2.2.2.1)
  have inn : ∀ (s : io_M) (r0 : Int32), s 112 = σ 112 → s 113 = σ 113 → wj_X10_lay_43 s x y (σ 113 x.toNatClampNeg) (fun r' s' => N r0 r' s') → A ∧ (B ∧ wp_X10_lay s x y (fun r' s' => N r0 r' s')) := by
    intro s r0 h112 h113 hh
    refine ⟨hA, hB, sr_in (fun q => absurd (show _ from ⟨by omega, by omega⟩) q) (fun _ => ⟨fun z => absurd z (by decide), fun _ => sr_in (fun q => absurd (show _ from ⟨by omega, by omega⟩) q) (fun _ => ⟨fun z => absurd z (by decide), fun _ => ⟨hi, fun t => ?_, fun t => ⟨hi, ?_⟩⟩⟩)⟩)⟩
    · rw [h112] at t
      rw [d5 t] at hh
      exact hh
    · rw [h113]
      exact hh
  have room : (40 ≤ (σ 91 x.toNatClampNeg).toInt ∨ 120 ≤ (σ 88 4).toInt) → A ∧ (B ∧ wp_X10_lay σ x y (fun r' s' => N (-3) r' s')) := by
    intro q
    refine inn σ (-3) rfl rfl ⟨fun _ => hp _ _ h, fun n40 => sx_all hD (fun r er => ⟨fun _ => hp _ _ h, fun n120 => ?_⟩)⟩
    exfalso
    rw [d3] at q
    rcases q with q | q
    · exact n40 (pz_eq.mpr (by omega))
    · exact n120 (pz_eq.mpr (by omega))
  refine ⟨hi, fun c40 => ⟨fun _ => room (Or.inl (by have := pz_le.mp c40; omega)), fun z => absurd rfl z⟩, fun n40 => ⟨fun c120 => ⟨hi, pz_in.mpr ⟨by rw [d3]; exact d6.1, ?_⟩, fun s5 e5 => ⟨hi, fun s7 e7 s9 e9 => ⟨hi, fun s11 e11 => ⟨fun z => absurd z (by decide), fun _ => ⟨hi, ?_⟩⟩⟩⟩⟩, fun n120 => ⟨fun _ => room (Or.inr (by have := pz_nlt n120; omega)), fun z => absurd rfl z⟩⟩⟩
  · have := pz_nle n40
    show (σ 91 x.toNatClampNeg).toInt < 40
    omega
  · have h40 := pz_nle n40
    have h120 := pz_lt.mp c120
    have e40 : ¬ σ 113 x.toNatClampNeg = 40 := fun q => by rw [d3, q] at h40; omega
    rw [vz_1] at e11
    rw [d3] at e5 e7 h40
    have k88 : s7 88 4 = σ 88 4 := by rw [e7, pu_ne (by decide), e5, pu_ne (by omega)]
    rw [k88] at e9
    have g : ∀ k, k ≠ 80 + x.toNatClampNeg → k ≠ 91 → k ≠ 88 → k ≠ 89 → s11 k = σ k := fun k a b c d => by rw [e11, pu_ne d, e9, pu_ne c, e7, pu_ne b, e5, pu_ne a]
    have g91 : s11 91 = ru (σ 91) x.toNatClampNeg (σ 113 x.toNatClampNeg + 1) := by rw [e11, pu_ne (by decide), e9, pu_ne (by decide), e7, pu_row, e5, pu_ne (by omega)]
    have g89 : s11 89 = ru (σ 89) x.toNatClampNeg 1 := by rw [e11, pu_row, e9, pu_ne (by decide), e7, pu_ne (by decide), e5, pu_ne (by omega)]
    have g88 : s11 88 4 = σ 88 4 + 1 := by rw [e11, pu_ne (by decide), e9, pu_self]
    have g80 : s11 (80 + x.toNatClampNeg) = ru (σ (80 + x.toNatClampNeg)) (σ 113 x.toNatClampNeg).toNatClampNeg y := by rw [e11, pu_ne (by omega), e9, pu_ne (by omega), e7, pu_ne (by omega), e5, pu_row]
    have hC11 : io_CI s11 := by
      rw [e11, e9, e7, e5]
      exact (((hw.1.up (ok_R hF)).up (ok_91 (by rw [pz_1 (by omega)]; omega))).up ok_88).up (ok_89 (Or.inr rfl))
    have ea : s11 91 x.toNatClampNeg = σ 113 x.toNatClampNeg + 1 := by rw [g91, ru_self]
    rw [ea]
    have hcl := pz_cl (σ 113 x.toNatClampNeg)
    have hxcl := pz_cl x
    have i41 := pn_41 (f := x) (p := σ 113 x.toNatClampNeg) (by omega) (by omega)
    have e41 := pz_41 (x := x) (y := σ 113 x.toNatClampNeg) (by omega) (by omega)
    have ep := pz_1 (x := σ 113 x.toNatClampNeg) (by omega)
    have eu := pz_1 (x := σ 88 4) (by omega)
    refine inn s11 _ (g 112 (by omega) (by decide) (by decide) (by decide)) (g 113 (by omega) (by decide) (by decide) (by decide)) ⟨fun z => absurd z e40, fun _ => sx_all (c := σ) (hD.cg (fun _ _ _ => rfl) (fun k a b => g k (by omega) (by omega) (by omega) (by omega))) (fun r er => ⟨fun z => ?_, fun _ => ⟨hi, fun t1 f1 => ⟨pz_in.mpr ?_, fun t2 f2 => ⟨hi, fun t3 f3 => ?_⟩⟩⟩⟩)⟩
    · exfalso
      rw [z] at er
      omega
    · rw [e41]; show _ ∧ _ < (320 : Int); omega
    · rw [vz_1] at f1
      rw [i41] at f2
      have q : ∀ k, k ≠ 112 → k ≠ 113 → k ≠ 114 → t3 k = s11 k := fun k a b c => by rw [f3, pu_ne b, f2, pu_ne c, f1, pu_ne a]
      have q112 : t3 112 = ru (σ 112) x.toNatClampNeg 1 := by rw [f3, pu_ne (by decide), f2, pu_ne (by decide), f1, pu_row, g 112 (by omega) (by decide) (by decide) (by decide)]
      have q113 : t3 113 = ru (σ 113) x.toNatClampNeg (σ 113 x.toNatClampNeg + 1) := by rw [f3, pu_row, f2, pu_ne (by decide), f1, pu_ne (by decide), g 113 (by omega) (by decide) (by decide) (by decide)]
      have q114 : t3 114 = ru (σ 114) (40 * x.toNatClampNeg + (σ 113 x.toNatClampNeg).toNatClampNeg) y.toInt8.toInt32.toInt8.toInt32 := by rw [f3, pu_ne (by decide), f2, pu_row, f1, pu_ne (by decide), g 114 (by omega) (by decide) (by decide) (by decide)]
      refine hp _ _ (h.dk ?_ ?_ (fun k a => by rw [q k (by omega) (by omega) (by omega), g k (by omega) (by omega) (by omega) (by omega)]) ?_)
      · rw [f3, f2, f1]
        exact ((hC11.up (ok_w (by omega))).up (ok_w (by omega))).up (ok_w (by omega))
      · rw [q113]
        exact hZ.1.up (by omega)
      · refine hD.set x.toNatClampNeg hF (by rw [q 90 (by decide) (by decide) (by decide), g 90 (by omega) (by decide) (by decide) (by decide)]) (by rw [q 115 (by decide) (by decide) (by decide), g 115 (by omega) (by decide) (by decide) (by decide)]) (fun f a b => ⟨?_, ?_, ?_, ?_, ?_, fun i hi => ?_⟩) ?_ ?_ ?_ ?_ ?_ (fun i hi => ?_) ?_ ?_
        · rw [q 89 (by decide) (by decide) (by decide), g89, ru_ne b]
        · rw [q 91 (by decide) (by decide) (by decide), g91, ru_ne b]
        · rw [q (80 + f) (by omega) (by omega) (by omega), g (80 + f) (by omega) (by omega) (by omega) (by omega)]
        · rw [q112, ru_ne b]
        · rw [q113, ru_ne b]
        · rw [q114, ru_ne (by omega)]
        · rw [q 89 (by decide) (by decide) (by decide), g89, ru_self, q112, ru_self]
        · rw [q 91 (by decide) (by decide) (by decide), g91, ru_self, q113, ru_self]
        · rw [q112, ru_self]; exact Or.inr rfl
        · rw [q112, ru_self]; exact fun z => absurd z (by decide)
        · rw [q113, ru_self]; omega
        · rw [q113, ru_self, ep] at hi
          rw [q (80 + x.toNatClampNeg) (by omega) (by omega) (by omega), g80, q114]
          by_cases u : i = (σ 113 x.toNatClampNeg).toNatClampNeg
          · rw [u, ru_self, ru_self, bp_b, bp_b, by_id hv]
          · rw [ru_ne u, ru_ne (by omega)]
            exact d7 i (by omega)
        · rw [q 88 (by decide) (by decide) (by decide), g88, eu, q113, ru_self, ep]; omega
        · rw [q 88 (by decide) (by decide) (by decide), g88, eu]; omega
theorem pe_permit {A B : Prop} {N : Int32 → Int32 → io_M → Prop} (hA : A) (hB : B) (h : io_E b0 σ) (hp : ∀ r s, io_E b0 s → N r r s) : wp_X9_permit σ x y (fun r s => (A ∧ (B ∧ wp_X10_permit s x y (fun r' s' => N r r' s')))) := by
  have hD := h.2.1
  refine sf_permit h.1.1 (fun q => ⟨hA, hB, sz_permit h.1.2.1 (fun _ => hp _ _ h) (fun a b _ => absurd ⟨a, b⟩ q)⟩) (fun a b hw => ⟨hA, hB, ?_⟩)
  have hF := pn_8 a
  have hz : rZ b0 (io_up σ 90 x.toNatClampNeg y) := h.1.2.1.of (fun k q => pu_ne (by omega))
  refine sz_permit hz (fun q => absurd ⟨a, b⟩ q) (fun _ _ hz2 => ?_)
  have e : io_up σ 90 x.toNatClampNeg y 115 x.toNatClampNeg = σ 90 x.toNatClampNeg := by
    rw [pu_ne (by decide)]
    exact ((hD.1 _ hF).2.1).symm
  rw [e]
  have g : ∀ k, k ≠ 90 → k ≠ 115 → io_up (io_up σ 90 x.toNatClampNeg y) 115 x.toNatClampNeg y k = σ k := fun k a b => by rw [pu_ne b, pu_ne a]
  refine hp _ _ (h.dk (hw.1.up (ok_w (by omega))) (by rw [g 113 (by decide) (by decide)]; exact h.1.2.1.1) (fun k a => g k (by omega) (by omega)) ⟨fun f hf => ?_, ?_⟩)
  · obtain ⟨d1, d2, d3, d4, d5, d6, d7⟩ := hD.1 f hf
    rw [g 89 (by decide) (by decide), g 91 (by decide) (by decide), g 112 (by decide) (by decide), g 113 (by decide) (by decide), g 114 (by decide) (by decide), g (80 + f) (by omega) (by omega), pu_row, pu_ne (k' := 90) (by decide), pu_row, pu_ne (k' := 115) (by decide)]
    refine ⟨d1, ?_, d3, d4, d5, d6, d7⟩
    by_cases u : f = x.toNatClampNeg
    · rw [u, ru_self, ru_self]
    · rw [ru_ne u, ru_ne u]; exact d2
  · rw [g 88 (by decide) (by decide), g 113 (by decide) (by decide)]
    exact hD.2
theorem bl_n0 {v : Int32} (h : io_bl v) (q : ¬ v = 0) : v = 1 := by
  rcases h with z | z
  · exact absurd z q
  · exact z
/-- there, with is: 0 or 1 -/
theorem pe_there {W : Int32 → io_M → Prop} {N : Int32 → Int32 → io_M → Prop} (h : io_E b0 σ) (hy : y = 0 ∨ y = 1) (hW : ∀ r s, wp_X10_there s x y (fun r' s' => N r r' s') → W r s) (hp : ∀ r s, io_E b0 s → N r r s) : wp_X9_there σ x y W := by
  have z0 := l_0
  have z7 := l_7
  have z8 := l_8
  have hw := h.1.1
  have hZ := h.1.2.1
  have hD := h.2.1
  refine sp_within (fun q => ⟨fun _ => hW _ _ (sr_in (fun _ => ⟨fun _ => hp _ _ h, fun z => absurd rfl z⟩) (fun hf => absurd (show _ from ⟨by omega, by omega⟩) q)), fun z => absurd rfl z⟩) (fun qf => ⟨fun z => absurd z (by decide), fun _ => ?_⟩)
  have hf : 0 ≤ x.toInt ∧ x.toInt < 8 := by omega
  have hi := pz_in (n := 8).mpr hf
  have hF := pn_8 hf
  obtain ⟨d1, d2, d3, d4, d5, d6, d7⟩ := hD.1 _ hF
  have hu := hD.2.2
  have hsum := hD.2.1
  have hsub := sN_le (r := σ 113) 8 hF (fun j hj => (hD.1 j hj).2.2.2.2.2.1)
  have hb9 := CI_89 hw.1 x.toNatClampNeg
  -- what both come to
  have fin : ∀ (s t : io_M) (v : Int32), io_CI s → (v = 0 ∨ v = 1) → (∀ k, k ≠ 88 → k ≠ 89 → k ≠ 91 → k ≠ 112 → k ≠ 113 → t k = σ k) → (∀ k, k < 111 → t k = s k) → t 89 = ru (σ 89) x.toNatClampNeg v → t 112 = ru (σ 112) x.toNatClampNeg v → (t 91 x.toNatClampNeg = t 113 x.toNatClampNeg) → (∀ f, f ≠ x.toNatClampNeg → t 91 f = σ 91 f ∧ t 113 f = σ 113 f) → ((t 113 x.toNatClampNeg = σ 113 x.toNatClampNeg ∧ (v = 0 → σ 113 x.toNatClampNeg = 0)) ∨ t 113 x.toNatClampNeg = 0) → (t 88 4).toInt = (σ 88 4).toInt + (t 113 x.toNatClampNeg).toInt - (σ 113 x.toNatClampNeg).toInt → io_E b0 t := by
    intro s t v hCs hv g gs t89 t112 t91 tn t113 tu
    have hr : 0 ≤ (t 113 x.toNatClampNeg).toInt ∧ (t 113 x.toNatClampNeg).toInt ≤ (σ 113 x.toNatClampNeg).toInt := by
      rcases t113 with z | z
      · rw [z.1]; omega
      · rw [z]; omega
    refine h.dk ?_ ?_ (fun k a => g k (by omega) (by omega) (by omega) (by omega) (by omega)) ?_
    · intro k j
      by_cases c : k < 111
      · rw [gs k c]; exact hCs k j
      · exact ok_w (by omega)
    · intro j
      by_cases u : j = x.toNatClampNeg
      · rw [u]; omega
      · rw [(tn j u).2]; exact hZ.1 j
    · refine hD.set x.toNatClampNeg hF (g 90 (by decide) (by decide) (by decide) (by decide) (by decide)) (g 115 (by decide) (by decide) (by decide) (by decide) (by decide)) (fun f a b => ⟨by rw [t89, ru_ne b], (tn f b).1, g (80 + f) (by omega) (by omega) (by omega) (by omega) (by omega), by rw [t112, ru_ne b], (tn f b).2, fun i hi => by rw [g 114 (by decide) (by decide) (by decide) (by decide) (by decide)]⟩) (by rw [t89, ru_self, t112, ru_self]) t91 (by rw [t112, ru_self]; exact hv) (fun z => ?_) (by omega) (fun i hi => ?_) tu (by omega)
      · rw [t112, ru_self] at z
        rcases t113 with w | w
        · rw [w.1]; exact w.2 z
        · exact w
      · rw [g (80 + x.toNatClampNeg) (by omega) (by omega) (by omega) (by omega) (by omega), g 114 (by decide) (by decide) (by decide) (by decide) (by decide)]
        exact d7 i (by omega)
  -- the reference, when the class is at s
  have ref : ∀ (s : io_M) (r0 : Int32), (σ 112 x.toNatClampNeg = 0 ∧ r0 = 0 ∨ σ 112 x.toNatClampNeg = 1 ∧ r0 = 1) → s 112 = σ 112 → s 113 = σ 113 → (y = σ 112 x.toNatClampNeg → io_E b0 s) → (¬ y = σ 112 x.toNatClampNeg → ∀ t, t = io_up (io_up s 112 x.toNatClampNeg y) 113 x.toNatClampNeg 0 → io_E b0 t) → W r0 s := by
    intro s r0 h0 h112 h113 k1 k2
    have nr : vp_nar .boolean y = y := by rcases hy with z | z <;> rw [z] <;> decide
    refine hW _ _ (sr_in (fun q => absurd (show _ from ⟨by omega, by omega⟩) q) (fun _ => ⟨fun z => absurd z (by decide), fun _ => ?_⟩))
    rw [h112]
    refine ⟨hi, fun q => ⟨fun t => ?_, fun t => ?_⟩, fun q => ⟨hi, fun s1 e1 => ⟨hi, fun s2 e2 => ⟨fun t => ?_, fun t => ?_⟩⟩⟩⟩
    · rcases h0 with w | w
      · rw [w.2]; exact hp _ _ (k1 q)
      · rw [w.1] at t; exact absurd t (by decide)
    · rcases h0 with w | w
      · exact absurd w.1 t
      · rw [w.2]; exact hp _ _ (k1 q)
    · rw [nr] at e1
      rcases h0 with w | w
      · rw [w.2]; exact hp _ _ (k2 q s2 (by rw [e2, e1]))
      · rw [w.1] at t; exact absurd t (by decide)
    · rw [nr] at e1
      rcases h0 with w | w
      · exact absurd w.1 t
      · rw [w.2]; exact hp _ _ (k2 q s2 (by rw [e2, e1]))
  -- the class
  have cls : ∀ r0 : Int32, (σ 112 x.toNatClampNeg = 0 ∧ r0 = 0 ∨ σ 112 x.toNatClampNeg = 1 ∧ r0 = 1) → wj_X9_there_28 σ x y r0 W := by
    intro r0 h0
    refine ⟨fun c0 => ⟨hi, fun s1 e1 => ⟨hi, fun s2 e2 => ⟨hi, fun s3 e3 => ?_⟩⟩⟩, fun c1 => ⟨hi, fun s1 e1 => ?_⟩⟩
    · rw [vz_0] at e3
      have k91 : s1 91 = σ 91 := by rw [e1, pu_ne (by decide)]
      have g : ∀ k, k ≠ 88 → k ≠ 89 → k ≠ 91 → s3 k = σ k := fun k a b c => by rw [e3, pu_ne b, e2, pu_ne c, e1, pu_ne a]
      have g89 : s3 89 = ru (σ 89) x.toNatClampNeg 0 := by rw [e3, pu_row, e2, pu_ne (by decide), e1, pu_ne (by decide)]
      have g91 : s3 91 = ru (σ 91) x.toNatClampNeg 0 := by rw [e3, pu_ne (by decide), e2, pu_row, k91]
      have g88 : (s3 88 4).toInt = (σ 88 4).toInt - (σ 113 x.toNatClampNeg).toInt := by rw [e3, pu_ne (by decide), e2, pu_ne (by decide), e1, pu_self, d3, pz_sub (by omega)]
      have hC3 : io_CI s3 := by
        rw [e3, e2, e1]
        exact ((hw.1.up ok_88).up (ok_91 (by omega))).up (ok_89 (Or.inl rfl))
      refine ref s3 r0 h0 (g 112 (by decide) (by decide) (by decide)) (g 113 (by decide) (by decide) (by decide)) (fun q => ?_) (fun q t et => ?_)
      · have w0 : σ 112 x.toNatClampNeg = 0 := by rw [← q]; exact c0
        have w3 := d5 w0
        refine fin s3 s3 0 hC3 (Or.inl rfl) (fun k a b c _ _ => g k a b c) (fun _ _ => rfl) g89 ?_ ?_ (fun f u => ⟨by rw [g91, ru_ne u], by rw [g 113 (by decide) (by decide) (by decide)]⟩) (Or.inr ?_) ?_
        · rw [g 112 (by decide) (by decide) (by decide), ← w0, ru_id]
        · rw [g91, ru_self, g 113 (by decide) (by decide) (by decide), w3]
        · rw [g 113 (by decide) (by decide) (by decide), w3]
        · rw [g88, g 113 (by decide) (by decide) (by decide), w3]; omega
      · have q112 : t 112 = ru (σ 112) x.toNatClampNeg 0 := by rw [et, pu_ne (by decide), pu_row, g 112 (by decide) (by decide) (by decide), c0]
        have q113 : t 113 = ru (σ 113) x.toNatClampNeg 0 := by rw [et, pu_row, pu_ne (by decide), g 113 (by decide) (by decide) (by decide)]
        have tk : ∀ k, k ≠ 112 → k ≠ 113 → t k = s3 k := fun k a b => by rw [et, pu_ne b, pu_ne a]
        refine fin s3 t 0 hC3 (Or.inl rfl) (fun k a b c d f => by rw [tk k d f, g k a b c]) (fun k a => tk k (by omega) (by omega)) (by rw [tk 89 (by decide) (by decide)]; exact g89) q112 ?_ (fun f u => ⟨by rw [tk 91 (by decide) (by decide), g91, ru_ne u], by rw [q113, ru_ne u]⟩) (Or.inr (by rw [q113, ru_self])) ?_
        · rw [tk 91 (by decide) (by decide), g91, ru_self, q113, ru_self]
        · rw [tk 88 (by decide) (by decide), g88, q113, ru_self]; omega
    · have cy : y = 1 := by
        rcases hy with z | z
        · exact absurd z c1
        · exact z
      rw [vz_1] at e1
      have g : ∀ k, k ≠ 89 → s1 k = σ k := fun k a => by rw [e1, pu_ne a]
      have g89 : s1 89 = ru (σ 89) x.toNatClampNeg 1 := by rw [e1, pu_row]
      have hC1 : io_CI s1 := by rw [e1]; exact hw.1.up (ok_89 (Or.inr rfl))
      refine ref s1 r0 h0 (g 112 (by decide)) (g 113 (by decide)) (fun q => ?_) (fun q t et => ?_)
      · have w1 : σ 112 x.toNatClampNeg = 1 := by rw [← q]; exact cy
        refine fin s1 s1 1 hC1 (Or.inr rfl) (fun k a b c _ _ => g k b) (fun _ _ => rfl) g89 ?_ ?_ (fun f u => ⟨by rw [g 91 (by decide)], by rw [g 113 (by decide)]⟩) (Or.inl ⟨by rw [g 113 (by decide)], fun z => absurd z (by decide)⟩) ?_
        · rw [g 112 (by decide), ← w1, ru_id]
        · rw [g 91 (by decide), g 113 (by decide)]; exact d3
        · rw [g 88 (by decide), g 113 (by decide)]; omega
      · have w0 : σ 112 x.toNatClampNeg = 0 := by
          rcases d4 with z | z
          · exact z
          · exact absurd (cy.trans z.symm) q
        have w3 := d5 w0
        have q112 : t 112 = ru (σ 112) x.toNatClampNeg 1 := by rw [et, pu_ne (by decide), pu_row, g 112 (by decide), cy]
        have q113 : t 113 = σ 113 := by rw [et, pu_row, pu_ne (by decide), g 113 (by decide), ← w3, ru_id]
        have tk : ∀ k, k ≠ 112 → k ≠ 113 → t k = s1 k := fun k a b => by rw [et, pu_ne b, pu_ne a]
        refine fin s1 t 1 hC1 (Or.inr rfl) (fun k a b c d f => by rw [tk k d f, g k b]) (fun k a => tk k (by omega) (by omega)) (by rw [tk 89 (by decide) (by decide)]; exact g89) q112 ?_ (fun f u => ⟨by rw [tk 91 (by decide) (by decide), g 91 (by decide)], by rw [q113]⟩) (Or.inr (by rw [q113]; exact w3)) ?_
        · rw [tk 91 (by decide) (by decide), g 91 (by decide), q113]; exact d3
        · rw [tk 88 (by decide) (by decide), g 88 (by decide), q113]; omega
  refine ⟨hi, hb9, fun t => cls 0 (Or.inl ⟨by rw [← d1]; exact t, rfl⟩), fun t => cls 1 (Or.inr ⟨by rw [← d1]; exact bl_n0 hb9 t, rfl⟩)⟩
end FC
