/-! class and reference side by side: what is alike between two calls -/
def io_J (b0 : Int) (σ : io_M) : Prop := io_FI b0 σ ∧ rZ b0 σ ∧ (∀ j, j < 8 → σ 90 j = σ 115 j) ∧ σ 96 4 = σ 111 9
section RN
variable {b0 b1 : Int} {σ s s' : io_M}
theorem rZ.of (h : rZ b0 σ) (hk : ∀ k, 111 ≤ k → s k = σ k) : rZ b0 s := by
  unfold rZ rC rN
  rw [hk 111 (by omega), hk 113 (by omega), hk 118 (by omega), hk 119 (by omega), hk 120 (by omega), hk 121 (by omega)]
  exact h
theorem io_FI.of (h : io_FI b0 σ) (hk : ∀ k, k < 111 → s k = σ k) : io_FI b0 s := by
  refine ⟨fun k j => ?_, h.2.1.of' (fun k a b => hk k (by omega)), by rw [hk 93 (by omega)]; exact h.2.2⟩
  by_cases c : k < 111
  · rw [hk k c]; exact h.1 k j
  · exact ok_w (by omega)
theorem io_J.c (h : io_J b0 σ) (hw : io_FI b1 s) (hb : b0 ≤ b1) (hk : ∀ k, 111 ≤ k → s k = σ k) (h90 : s 90 = σ 90) (h96 : s 96 4 = σ 96 4) : io_J b1 s :=
  ⟨hw, (h.2.1.of hk).mono hb, fun j hj => by rw [h90, hk 115 (by omega)]; exact h.2.2.1 j hj, by rw [h96, hk 111 (by omega)]; exact h.2.2.2⟩
theorem io_J.r (h : io_J b0 σ) (hz : rZ b1 s) (hb : b0 ≤ b1) (hk : rK σ s) : io_J b1 s :=
  ⟨(h.1.of (fun k q => hk.1 k (by omega))).mono hb, hz, fun j hj => by rw [hk.1 90 (by omega), hk.1 115 (by omega)]; exact h.2.2.1 j hj, by rw [hk.1 96 (by omega), hk.2]; exact h.2.2.2⟩
theorem io_J.mono (h : io_J b0 σ) (hb : b0 ≤ b1) : io_J b1 σ := h.r (h.2.1.mono hb) hb rK.rf
theorem io_J.f0 (h : io_J b0 σ) (hw : io_FI b0 s) (hF : io_F0 σ s) : io_J b0 s := h.c hw (Int.le_refl _) (fun k q => hF.2.2 k (by omega)) hF.1 (by rw [hF.2.2 96 (by omega)])
theorem io_J.fc (h : io_J b0 σ) (hw : io_FI b0 s) (hF : io_Fc σ s) : io_J b0 s := h.c hw (Int.le_refl _) (fun k q => hF k (by omega)) (hF 90 (by omega)) (by rw [hF 96 (by omega)])
theorem io_J.fr (h : io_J b0 σ) (hw : io_FI b1 s) (hb : b0 ≤ b1) (hF : io_Fr σ s) : io_J b1 s := h.c hw hb (fun k q => hF.2.2 k (by omega)) hF.1 (by rw [hF.2.1 96 (by omega) (by omega)])
/-- permit answers alike -/
theorem pj_permit {A B : Prop} {x y : Int32} {N : Int32 → Int32 → io_M → Prop} (hA : A) (hB : B) (h : io_J b0 σ) (hp : ∀ r s, io_J b0 s → N r r s) : wp_X9_permit σ x y (fun r s => (A ∧ (B ∧ wp_X10_permit s x y (fun r' s' => N r r' s')))) := by
  refine sf_permit h.1 (fun q => ⟨hA, hB, sz_permit h.2.1 (fun _ => hp _ _ h) (fun a b _ => absurd ⟨a, b⟩ q)⟩) (fun a b hw => ⟨hA, hB, ?_⟩)
  have hz : rZ b0 (io_up σ 90 x.toNatClampNeg y) := h.2.1.of (fun k q => pu_ne (by omega))
  refine sz_permit hz (fun q => absurd ⟨a, b⟩ q) (fun _ _ hz2 => ?_)
  have hcl := pz_cl x
  have e : io_up σ 90 x.toNatClampNeg y 115 x.toNatClampNeg = σ 90 x.toNatClampNeg := by
    rw [pu_ne (by decide)]
    exact (h.2.2.1 _ (by omega)).symm
  rw [e]
  refine hp _ _ ⟨hw.of (fun k q => pu_ne (by omega)), hz2, fun j hj => ?_, ?_⟩
  · rw [pu_ne (k' := 90) (by decide), pu_row, pu_row, pu_ne (k' := 115) (by decide)]
    by_cases c : j = x.toNatClampNeg
    · rw [c, ru_self, ru_self]
    · rw [ru_ne c, ru_ne c]
      exact h.2.2.1 j hj
  · rw [pu_ne (k' := 96) (by decide), pu_ne (k' := 96) (by decide), pu_ne (k' := 111) (by decide), pu_ne (k' := 111) (by decide)]
    exact h.2.2.2
/-- node answers alike -/
theorem pj_node {A B C D : Prop} {x y z w : Int32} {N : Int32 → Int32 → io_M → Prop} (hA : A) (hB : B) (hC : C) (hD : D) (h : io_J b0 σ) (hp : ∀ r s, io_J b0 s → N r r s) : wp_X9_node σ x y z w (fun r s => (A ∧ (B ∧ (C ∧ (D ∧ wp_X10_node s x y z w (fun r' s' => N r r' s')))))) := by
  have e9 := h.2.2.2
  refine sf_node h.1 (fun q => ⟨hA, hB, hC, hD, sz_node h.2.1 (fun _ => hp _ _ h) (fun a => absurd (by rw [← e9] at a; exact a) q) (fun a => absurd (by rw [← e9] at a; exact a) q)⟩) (fun a q => ⟨hA, hB, hC, hD, sz_node h.2.1 (fun b => absurd a (by rw [← e9] at b; exact b)) (fun _ _ => hp _ _ h) (fun _ b => absurd b (by rw [← e9]; omega))⟩) (fun a q r s hw hF hr h1 _ _ _ _ => ⟨hA, hB, hC, hD, ?_⟩)
  have hz : rZ b0 s := h.2.1.of (fun k q => hF k (by omega))
  have e9s : s 111 9 = σ 96 4 := by rw [hF 111 (by omega)]; exact e9.symm
  refine sz_node hz (fun b => absurd a (by rw [e9s] at b; exact b)) (fun _ b => absurd b (by rw [e9s]; omega)) (fun _ _ r' s' hz2 hk hr2 h92 => ?_)
  have er : r' = r := by
    rw [hr2, e9s]
    exact (pz_eq.mpr hr).symm
  rw [er]
  have hS := h.1.2.1.1
  refine hp _ _ ⟨hw.of (fun k q => hk k (by omega)), hz2, fun j hj => ?_, ?_⟩
  · rw [hk 90 (by omega), hk 115 (by omega), hF 90 (by omega), hF 115 (by omega)]
    exact h.2.2.1 j hj
  · rw [hk 96 (by omega), h92, e9s]
    apply pz_eq.mpr
    rw [h1, pz_1 (by omega)]
/-- clear answers alike -/
theorem pj_clear {N : Int32 → Int32 → io_M → Prop} (hb : 0 ≤ b0) (h : io_J b0 σ) (hp : ∀ r s, io_J b0 s → N r r s) : wp_X9_clear σ (fun r s => wp_X10_clear s (fun r' s' => N r r' s')) := by
  refine sf_clear h.1 hb (fun s hw hk h0 => sz_clear (h.2.1.of (fun k q => hk k (by omega))) hb (fun s' hz hk2 h9 => ?_))
  have e : s 111 9 = σ 96 4 := by rw [hk 111 (by omega)]; exact h.2.2.2.symm
  rw [e]
  refine hp _ _ ⟨hw.of (fun k q => hk2 k (by omega)), hz, fun j hj => ?_, ?_⟩
  · rw [hk2 90 (by omega), hk2 115 (by omega), hk 90 (by omega), hk 115 (by omega)]
    exact h.2.2.1 j hj
  · rw [hk2 96 (by omega), h9]
    apply pz_eq.mpr
    rw [h0, l_0]
end RN
theorem io_J0 (fp fm : Nat → Int32) (hp : ∀ j, j < 8 → fp j = 3) (hm : ∀ j, j < 8 → fm j = 3) : io_J 0 (io_s0 fp fm) := by
  have z0 := l_0
  have zm := l_m1
  have e111 : io_s0 fp fm 111 = io_rM := rfl
  have e96 : io_s0 fp fm 96 = io_z0 := rfl
  have e93 : io_s0 fp fm 93 = io_z0 := rfl
  have e113 : io_s0 fp fm 113 = io_z0 := rfl
  have m0 : ∀ j, j ≠ 37 → io_s0 fp fm 111 j = 0 := fun j q => by rw [e111]; exact if_neg q
  refine ⟨⟨fun k j => ?_, ⟨?_, ?_, fun n hn => ?_⟩, ?_⟩, ⟨fun j => ?_, ?_, ⟨?_, ?_, fun n hn => ?_⟩, ?_, ?_, ?_⟩, fun j hj => ?_, ?_⟩
  · have ez : ∀ k, 60 ≤ k → k ≠ 90 → k ≠ 107 → k ≠ 111 → k ≠ 115 → io_s0 fp fm k = io_z0 := fun k a b c d f => by
      unfold io_s0
      rw [if_neg (by omega), if_neg (by omega), if_neg (by omega), if_neg b, if_neg c, if_neg d, if_neg f]
    by_cases c1 : k < 20
    · have e : io_s0 fp fm k = io_rH := if_pos c1
      rw [e]
      refine ok_H c1 (fun q => ?_) (fun q => ?_)
      · rw [q]; decide
      · rw [q]; decide
    · by_cases c2 : k < 40
      · unfold io_ok; rw [if_neg c1, if_pos c2]; trivial
      · by_cases c3 : k < 60
        · have e : io_s0 fp fm k = io_rL := by unfold io_s0; rw [if_neg c1, if_neg c2, if_pos c3]
          unfold io_ok
          rw [e, if_neg c1, if_neg c2, if_pos c3]
          refine ⟨fun q => ?_, fun q => ?_⟩
          · rw [q]; decide
          · rw [q]; decide
        · by_cases c4 : 104 ≤ k
          · exact ok_w c4
          · by_cases c5 : k = 90
            · rw [c5]; trivial
            · rw [ez k (by omega) c5 (by omega) (by omega) (by omega)]
              have e0 : io_z0 j = 0 := rfl
              rw [e0]
              unfold io_ok
              rw [if_neg c1, if_neg c2, if_neg c3]
              by_cases d1 : k < 89
              · rw [if_pos d1]; trivial
              · rw [if_neg d1]
                by_cases d2 : k = 89
                · rw [if_pos d2]; exact Or.inl rfl
                · rw [if_neg d2]
                  by_cases d3 : k = 91
                  · rw [if_pos d3]; omega
                  · rw [if_neg d3]
                    by_cases d4 : k = 93
                    · rw [if_pos d4]; exact ⟨fun _ => by omega, fun _ => by omega⟩
                    · rw [if_neg d4]
                      by_cases d5 : k = 101
                      · rw [if_pos d5]; exact fun _ => by omega
                      · rw [if_neg d5]
                        by_cases d6 : k = 103
                        · rw [if_pos d6]; exact fun _ => by omega
                        · rw [if_neg d6]; trivial
  · rw [e96]; decide
  · rw [e96]; decide
  · rw [e96] at hn; exact absurd hn (by show ¬ ((n : Int) < (0 : Int32).toInt); omega)
  · rw [e93]; decide
  · rw [e113]; show 0 ≤ (0 : Int32).toInt ∧ (0 : Int32).toInt ≤ 40; decide
  · unfold rC; rw [m0 4 (by decide), m0 5 (by decide)]; decide
  · rw [m0 9 (by decide)]; decide
  · rw [m0 9 (by decide)]; decide
  · rw [m0 9 (by decide)] at hn; omega
  · rw [m0 7 (by decide)]; decide
  · rw [m0 16 (by decide)]; decide
  · rw [m0 33 (by decide)]; decide
  · have e90 : io_s0 fp fm 90 = fp := rfl
    have e115 : io_s0 fp fm 115 = fm := rfl
    rw [e90, e115, hp j hj, hm j hj]
  · rw [e96, m0 9 (by decide)]; rfl
