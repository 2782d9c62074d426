section RL
variable {b0 d : Int} {P Q k : Nat} {m : Int} {σ s t : io_M} {p1 p2 p3 p4 v n x c T st : Int32} {pv : io_M → Prop} {post : Int32 → io_M → Prop} {e : Nat}
theorem sr_isNode (hN : 0 ≤ (σ 111 9).toInt) (h0 : ¬ (0 ≤ x.toInt ∧ x.toInt < ((σ 111 9).toNatClampNeg : Nat)) → post 0 σ) (h1 : 0 ≤ x.toInt ∧ x.toInt < ((σ 111 9).toNatClampNeg : Nat) → post 1 σ) : wp_X10_isNode σ x post := by
  have z0 := l_0
  have hcl := pz_cl (σ 111 9)
  have hs := pz_s1 (x := σ 111 9) (by omega)
  exact sr_in (fun q => h0 (fun t => q (by omega))) (fun q => h1 (by omega))
theorem nf_m {x : Int32} {n : Nat} : nd_f x (-1) n := Or.inl rfl
theorem nf_0 {x : Int32} {n : Nat} : nd_f x 0 n ↔ (0 ≤ x.toInt ∧ x.toInt < n) := ⟨fun h => nd_0 h rfl, fun h => Or.inr (Or.inl ⟨rfl, h⟩)⟩
theorem nf_b {x : Int32} {n : Nat} (bd : Int32) (m : Int) (e : bd.toInt = m) (hm : 0 < m) : nd_f x bd n ↔ (0 ≤ x.toInt ∧ x.toInt < m) := by
  refine ⟨fun h => nd_b h m e hm, fun h => Or.inr (Or.inr ⟨?_, ?_, h.1, by omega⟩)⟩
  · intro q; rw [q] at e; have := l_m1; omega
  · intro q; rw [q] at e; have := l_0; omega
theorem nd_mk (b1 b2 b3 : Int32) {c x y z : Int32} {n : Nat} (e1 : io_b1 c.toNatClampNeg = b1) (e2 : io_b2 c.toNatClampNeg = b2) (e3 : io_b3 c.toNatClampNeg = b3) (hc : 0 ≤ c.toInt ∧ c.toInt ≤ 28) : nd_ok c x y z n ↔ (nd_f x b1 n ∧ nd_f y b2 n ∧ nd_f z b3 n) := by
  unfold nd_ok
  rw [e1, e2, e3]
  exact ⟨fun h => h.2.2, fun h => ⟨hc.1, hc.2, h⟩⟩
theorem nd_dk2 : ∀ m : Nat, m < 29 → (nI m = 0 ∨ nI m = 18) ∨ nI m = 1 ∨ nI m = 2 ∨ nI m = 3 ∨ (nI m = 4 ∨ nI m = 6 ∨ nI m = 7 ∨ nI m = 9 ∨ nI m = 11 ∨ nI m = 12 ∨ nI m = 14 ∨ nI m = 17 ∨ nI m = 25) ∨ nI m = 13 ∨ nI m = 15 ∨ nI m = 16 ∨ (nI m = 20 ∨ nI m = 28) ∨ nI m = 24 ∨ nI m = 26 ∨ (io_b1 m = 0 ∧ io_b2 m = 0 ∧ io_b3 m = -1) := by decide
theorem sr_areParts (hN : 0 ≤ (σ 111 9).toInt) (hc : 0 ≤ p1.toInt ∧ p1.toInt ≤ 28) (h0 : ¬ nd_ok p1 p2 p3 p4 (σ 111 9).toNatClampNeg → post 0 σ) (h1 : nd_ok p1 p2 p3 p4 (σ 111 9).toNatClampNeg → post 1 σ) : wp_X10_areParts σ p1 p2 p3 p4 post := by
  have z0 := l_0
  have z5 := l_5
  have z7 := l_7
  have z3 := l_3
  have z9 : (9 : Int32).toInt = 9 := by decide
  have z6 : (6 : Int32).toInt = 6 := by decide
  have z127 : (127 : Int32).toInt = 127 := by decide
  have ab : ∀ {A B : Prop}, ((1 : Int32) = 0 → A) ∧ (¬ ((1 : Int32) = 0) → B) ↔ B := fun {A B} => ⟨fun h => h.2 (by decide), fun h => ⟨fun q => absurd q (by decide), fun _ => h⟩⟩
  have az : ∀ {A B : Prop}, ((0 : Int32) = 0 → A) ∧ (¬ ((0 : Int32) = 0) → B) ↔ A := fun {A B} => ⟨fun h => h.1 rfl, fun h => ⟨fun _ => h, fun q => absurd rfl q⟩⟩
  refine ⟨fun q => h1 ?_, fun n0 => ⟨fun q => ?_, fun n1 => ⟨fun q => ?_, fun n2 => ⟨fun q => ?_, fun n3 => ⟨fun q => ?_, fun n4 => ⟨fun q => ?_, fun n13 => ⟨fun q => ?_, fun n15 => ⟨fun q => ?_, fun n16 => ⟨fun q => ?_, fun n20 => ⟨fun q => ?_, fun n24 => ⟨fun q => ?_, fun n26 => ?_⟩⟩⟩⟩⟩⟩⟩⟩⟩⟩⟩
  · rcases q with q | q
    · exact (nd_mk (-1) (-1) (-1) (by rw [q]; decide) (by rw [q]; decide) (by rw [q]; decide) hc).mpr ⟨nf_m, nf_m, nf_m⟩
    · exact (nd_mk (-1) (-1) (-1) (by rw [q]; decide) (by rw [q]; decide) (by rw [q]; decide) hc).mpr ⟨nf_m, nf_m, nf_m⟩
  · have k := nd_mk (x := p2) (y := p3) (z := p4) (n := (σ 111 9).toNatClampNeg) 6 (-1) (-1) (by rw [q]; decide) (by rw [q]; decide) (by rw [q]; decide) hc
    rw [nf_b 6 6 z6 (by omega)] at k
    exact sr_in (fun t => h0 (fun w => by have := (k.mp w).1; omega)) (fun t => h1 (k.mpr ⟨by omega, nf_m, nf_m⟩))
  · have k := nd_mk (x := p2) (y := p3) (z := p4) (n := (σ 111 9).toNatClampNeg) 6 0 (-1) (by rw [q]; decide) (by rw [q]; decide) (by rw [q]; decide) hc
    rw [nf_b 6 6 z6 (by omega), nf_0] at k
    exact sr_in (fun t => az.mpr (h0 (fun w => by have := (k.mp w).1; omega))) (fun t => ab.mpr (sr_isNode hN (fun u => az.mpr (h0 (fun w => u (k.mp w).2.1))) (fun u => ab.mpr (h1 (k.mpr ⟨by omega, u, nf_m⟩)))))
  · have k := nd_mk (x := p2) (y := p3) (z := p4) (n := (σ 111 9).toNatClampNeg) 8 4 (-1) (by rw [q]; decide) (by rw [q]; decide) (by rw [q]; decide) hc
    rw [nf_b 8 8 (by decide) (by omega), nf_b 4 4 (by decide) (by omega)] at k
    exact sr_in (fun t => az.mpr (h0 (fun w => by have := (k.mp w).1; omega))) (fun t => ab.mpr (sr_in (fun u => az.mpr (h0 (fun w => by have := (k.mp w).2.1; omega))) (fun u => ab.mpr (h1 (k.mpr ⟨by omega, by omega, nf_m⟩)))))
  · have k := nd_mk (x := p2) (y := p3) (z := p4) (n := (σ 111 9).toNatClampNeg) 0 (-1) (-1) (by rcases q with q | q | q | q | q | q | q | q | q <;> rw [q] <;> decide) (by rcases q with q | q | q | q | q | q | q | q | q <;> rw [q] <;> decide) (by rcases q with q | q | q | q | q | q | q | q | q <;> rw [q] <;> decide) hc
    rw [nf_0] at k
    exact sr_isNode hN (fun u => h0 (fun w => u (k.mp w).1)) (fun u => h1 (k.mpr ⟨u, nf_m, nf_m⟩))
  · have k := nd_mk (x := p2) (y := p3) (z := p4) (n := (σ 111 9).toNatClampNeg) 0 10 (-1) (by rw [q]; decide) (by rw [q]; decide) (by rw [q]; decide) hc
    rw [nf_b 10 10 (by decide) (by omega), nf_0] at k
    exact sr_isNode hN (fun u => az.mpr (h0 (fun w => u (k.mp w).1))) (fun u => ab.mpr (sr_in (fun t => az.mpr (h0 (fun w => by have := (k.mp w).2.1; omega))) (fun t => ab.mpr (h1 (k.mpr ⟨u, by omega, nf_m⟩)))))
  · have k := nd_mk (x := p2) (y := p3) (z := p4) (n := (σ 111 9).toNatClampNeg) 8 (-1) (-1) (by rw [q]; decide) (by rw [q]; decide) (by rw [q]; decide) hc
    rw [nf_b 8 8 (by decide) (by omega)] at k
    exact sr_in (fun t => h0 (fun w => by have := (k.mp w).1; omega)) (fun t => h1 (k.mpr ⟨by omega, nf_m, nf_m⟩))
  · have k := nd_mk (x := p2) (y := p3) (z := p4) (n := (σ 111 9).toNatClampNeg) 8 8 (-1) (by rw [q]; decide) (by rw [q]; decide) (by rw [q]; decide) hc
    rw [nf_b 8 8 (by decide) (by omega), nf_b 8 8 (by decide) (by omega)] at k
    exact sr_in (fun t => az.mpr (h0 (fun w => by have := (k.mp w).1; omega))) (fun t => ab.mpr (sr_in (fun u => az.mpr (h0 (fun w => by have := (k.mp w).2.1; omega))) (fun u => ab.mpr (h1 (k.mpr ⟨by omega, by omega, nf_m⟩)))))
  · have k := nd_mk (x := p2) (y := p3) (z := p4) (n := (σ 111 9).toNatClampNeg) 0 0 0 (by rcases q with q | q <;> rw [q] <;> decide) (by rcases q with q | q <;> rw [q] <;> decide) (by rcases q with q | q <;> rw [q] <;> decide) hc
    rw [nf_0, nf_0, nf_0] at k
    exact sr_isNode hN (fun u => az.mpr (h0 (fun w => u (k.mp w).1))) (fun u => ab.mpr (sr_isNode hN (fun u => az.mpr (h0 (fun w => u (k.mp w).2.1))) (fun u2 => ab.mpr (sr_isNode hN (fun u => az.mpr (h0 (fun w => u (k.mp w).2.2))) (fun u3 => ab.mpr (h1 (k.mpr ⟨u, u2, u3⟩)))))))
  · have k := nd_mk (x := p2) (y := p3) (z := p4) (n := (σ 111 9).toNatClampNeg) 7 (-1) (-1) (by rw [q]; decide) (by rw [q]; decide) (by rw [q]; decide) hc
    rw [nf_b 7 7 (by decide) (by omega)] at k
    exact sr_in (fun t => h0 (fun w => by have := (k.mp w).1; omega)) (fun t => h1 (k.mpr ⟨by omega, nf_m, nf_m⟩))
  · have k := nd_mk (x := p2) (y := p3) (z := p4) (n := (σ 111 9).toNatClampNeg) 0 0 128 (by rw [q]; decide) (by rw [q]; decide) (by rw [q]; decide) hc
    rw [nf_b 128 128 (by decide) (by omega), nf_0, nf_0] at k
    exact sr_isNode hN (fun u => az.mpr (h0 (fun w => u (k.mp w).1))) (fun u => ab.mpr (sr_isNode hN (fun u => az.mpr (h0 (fun w => u (k.mp w).2.1))) (fun u2 => ab.mpr (sr_in (fun t => az.mpr (h0 (fun w => by have := (k.mp w).2.2; omega))) (fun t => ab.mpr (h1 (k.mpr ⟨u, u2, by omega⟩)))))))
  · have e := pz_nI_of hc.1
    have hd : io_b1 p1.toNatClampNeg = 0 ∧ io_b2 p1.toNatClampNeg = 0 ∧ io_b3 p1.toNatClampNeg = -1 := by
      have w := nd_dk2 p1.toNatClampNeg (by rw [pz_cl]; omega)
      rw [← e] at w
      rcases w with w | w | w | w | w | w | w | w | w | w | w | w
      · exact absurd w n0
      · exact absurd w n1
      · exact absurd w n2
      · exact absurd w n3
      · exact absurd w n4
      · exact absurd w n13
      · exact absurd w n15
      · exact absurd w n16
      · exact absurd w n20
      · exact absurd w n24
      · exact absurd w n26
      · exact w
    have k := nd_mk (x := p2) (y := p3) (z := p4) (n := (σ 111 9).toNatClampNeg) 0 0 (-1) hd.1 hd.2.1 hd.2.2 hc
    rw [nf_0, nf_0] at k
    exact sr_isNode hN (fun u => az.mpr (h0 (fun w => u (k.mp w).1))) (fun u => ab.mpr (sr_isNode hN (fun u => az.mpr (h0 (fun w => u (k.mp w).2.1))) (fun u2 => ab.mpr (h1 (k.mpr ⟨u, u2, nf_m⟩)))))
theorem sz_node (h : rZ b0 σ) (h0 : ¬ nd_ok p1 p2 p3 p4 (σ 111 9).toNatClampNeg → post (-2) σ) (h3 : nd_ok p1 p2 p3 p4 (σ 111 9).toNatClampNeg → 60 ≤ (σ 111 9).toInt → post (-3) σ) (h1 : nd_ok p1 p2 p3 p4 (σ 111 9).toNatClampNeg → (σ 111 9).toInt < 60 → ∀ r σ', rZ b0 σ' → (∀ k, k < 111 ∨ k = 115 → σ' k = σ k) → r = σ 111 9 → σ' 111 9 = σ 111 9 + 1 → post r σ') : wp_X10_node σ p1 p2 p3 p4 post := by
  have z0 := l_0
  have z28 := l_28
  have z60 := l_60
  obtain ⟨hD, hC, hN, h4, h5⟩ := h
  have hcl := pz_cl (σ 111 9)
  refine sr_in (fun q => ⟨fun _ => h0 (fun w => q (by have := w.1; have := w.2.1; omega)), fun q => absurd rfl q⟩) (fun hc => ⟨fun q => absurd q (by decide), fun _ => sr_areParts hN.1 (by omega) (fun w => ⟨fun _ => h0 w, fun q => absurd rfl q⟩) (fun w => ⟨fun q => absurd q (by decide), fun _ => ⟨fun c => h3 w (by rw [c]; omega), fun c => ?_⟩⟩)⟩)
  have hlt : (σ 111 9).toInt < 60 := by
    have : ¬ (σ 111 9).toInt = 60 := fun q => c (pz_eq.mpr (by omega))
    have := hN.2.1
    omega
  have hi : vp_in (σ 111 9) 60 := pz_in.mpr ⟨hN.1, hlt⟩
  refine ⟨hi, fun s1 e1 => ?_⟩
  have e91 : s1 111 = σ 111 := by rw [e1, pu_ne (by decide)]
  refine ⟨by rw [e91]; exact hi, fun s2 e2 => ?_⟩
  have e92 : s2 111 = σ 111 := by rw [e2, pu_ne (by decide), e91]
  refine ⟨by rw [e92]; exact hi, fun s3 e3 => ?_⟩
  have e93 : s3 111 = σ 111 := by rw [e3, pu_ne (by decide), e92]
  refine ⟨by rw [e93]; exact hi, fun s4 e4 s5 e5 => ?_⟩
  have e94 : s4 111 = σ 111 := by rw [e4, pu_ne (by decide), e93]
  rw [e91] at e2
  rw [e92] at e3
  rw [e93] at e4
  rw [e94] at e5
  have hs : ∀ j, j ≠ 9 → s5 111 j = σ 111 j := fun j a => by rw [e5, pu_s a, e94]
  have hk : ∀ k, k ≠ 111 → k ≠ 118 → k ≠ 119 → k ≠ 120 → k ≠ 121 → s5 k = σ k := fun k a b c d f => by rw [e5, pu_ne a, e4, pu_ne f, e3, pu_ne d, e2, pu_ne c, e1, pu_ne b]
  have e9 : s5 111 9 = σ 111 9 + 1 := by rw [e5, pu_self]
  have e9' := pz_1 (x := σ 111 9) (by omega)
  have r118 : s5 118 = ru (σ 118) (σ 111 9).toNatClampNeg p1 := by rw [e5, pu_ne (by decide), e4, pu_ne (by decide), e3, pu_ne (by decide), e2, pu_ne (by decide), e1, pu_row]
  have r119 : s5 119 = ru (σ 119) (σ 111 9).toNatClampNeg p2 := by rw [e5, pu_ne (by decide), e4, pu_ne (by decide), e3, pu_ne (by decide), e2, pu_row, e1, pu_ne (by decide)]
  have r120 : s5 120 = ru (σ 120) (σ 111 9).toNatClampNeg p3 := by rw [e5, pu_ne (by decide), e4, pu_ne (by decide), e3, pu_row, e2, pu_ne (by decide), e1, pu_ne (by decide)]
  have r121 : s5 121 = ru (σ 121) (σ 111 9).toNatClampNeg p4 := by rw [e5, pu_ne (by decide), e4, pu_row, e3, pu_ne (by decide), e2, pu_ne (by decide), e1, pu_ne (by decide)]
  refine h1 w hlt _ s5 ⟨by rw [hk 113 (by decide) (by decide) (by decide) (by decide) (by decide)]; exact hD, ?_, ?_, by rw [hs 7 (by decide)]; exact h4, by rw [hs 16 (by decide), hs 33 (by decide)]; exact h5⟩ (fun k q => hk k (by omega) (by omega) (by omega) (by omega) (by omega)) ?_ e9
  · unfold rC
    rw [hs 5 (by decide), hs 4 (by decide)]
    exact hC
  · have hn1 := hN.1
    unfold rN
    rw [e9, e9', r118, r119, r120, r121]
    refine ⟨by omega, by omega, fun n hn => ?_⟩
    by_cases c : n = (σ 111 9).toNatClampNeg
    · rw [c, ru_self, ru_self, ru_self, ru_self]
      exact w
    · rw [ru_ne c, ru_ne c, ru_ne c, ru_ne c]
      exact hN.2.2 n (by omega)
  · rw [e9]
    apply pz_eq.mpr
    rw [pz_s1 (by have := hN.1; omega), e9']
    omega
end RL
