section RM
variable {b0 d : Int} {P Q k : Nat} {m : Int} {σ s t σ1 : io_M} {p1 p2 p3 p4 v n x c T st : Int32} {pv : io_M → Prop} {post : Int32 → io_M → Prop} {e : Nat}
def rY (σ1 σ : io_M) : Prop := ∀ k, k ≠ 113 → k ≠ 114 → k ≠ 126 → k ≠ 127 → k ≠ 128 → k ≠ 130 → k ≠ 134 → σ k = σ1 k
theorem rY.up {j z : Nat} (h : rY σ1 σ) (hz : z = 113 ∨ z = 114 ∨ z = 126 ∨ z = 127 ∨ z = 128 ∨ z = 130 ∨ z = 134) : rY σ1 (io_up σ z j v) := fun k a1 a2 a3 a4 a5 a6 a7 => by
  rw [pu_ne (by omega)]
  exact h k a1 a2 a3 a4 a5 a6 a7
theorem rY.sx (h : rY σ1 σ) : σ 111 = σ1 111 := h 111 (by decide) (by decide) (by decide) (by decide) (by decide) (by decide) (by decide)
theorem sz_202 (hp : ∀ σ', rI 99 σ' → rY σ1 σ' → post x σ') : ∀ (k : Nat) (σ : io_M) (y : Int32), rI 99 σ → rY σ1 σ → 0 ≤ y.toInt → y.toInt ≤ 20 → 20 - y.toInt < k → wl_X10_run_202 k σ x y post := by
  intro k
  induction k with
  | zero => intro σ y _ _ _ h1 h2; exact absurd h2 (by omega)
  | succ k ih =>
    intro σ y hI hY h0 h1 h2
    have hn := hI.2.1.1
    unfold wl_X10_run_202
    refine ⟨fun _ => hp _ hI hY, fun c => ?_⟩
    have hc := pz_nle c
    have e1 := pz_1 (x := y) (by omega)
    have hi : vp_in y 20 := pz_in.mpr ⟨h0, by show y.toInt < 20; omega⟩
    have key : ∀ s s', rI 99 s → rY σ1 s → s' = io_up s 127 y.toNatClampNeg 2 → wl_X10_run_202 k s' x (y + 1) post := by
      intro s s' hI2 hY2 e2
      refine ih s' (y + 1) (rI_state y.toNatClampNeg 2 hI2 (by rw [e2, pu_row]) (fun k q => by rw [e2, pu_ne (by omega)]) (by rw [e2, pu_ne (by decide)]) (by rw [e2, pu_ne (by decide)]) (by decide) (Or.inl rfl)) (by rw [e2]; exact hY2.up (by omega)) (by omega) (by omega) (by omega)
    refine ⟨hi, fun c0 => sr_flushG (X := rY σ1) (fun σ k j v hk h => h.up (by omega)) hI hY (Or.inl rfl) ⟨h0, hc⟩ (by rw [c0]; decide) (fun r s hb hM hk hz => ⟨fun _ => ⟨hi, fun s' e' => key s s' hM.1 hM.2 e'⟩, fun _ => ⟨hi, fun s' e' => key s s' hM.1 hM.2 e'⟩⟩), fun _ => ⟨hi, fun s' e' => key σ s' hI hY e'⟩⟩
theorem sz_174 (hp : ∀ σ', rI 99 σ' → rY σ1 σ' → post x σ') : ∀ (k : Nat) (σ : io_M) (y : Int32), rI 99 σ → rY σ1 σ → 0 ≤ y.toInt → y.toInt ≤ 20 → 20 - y.toInt < k → wl_X10_run_174 k σ x y post := by
  intro k
  have z0 := l_0
  induction k with
  | zero => intro σ y _ _ _ h1 h2; exact absurd h2 (by omega)
  | succ k ih =>
    intro σ y hI hY h0 h1 h2
    have hn := hI.2.1.1
    unfold wl_X10_run_174
    refine ⟨fun _ => ⟨21, sz_202 hp 21 σ 0 hI hY (by omega) (by omega) (by omega)⟩, fun c => ?_⟩
    have hc := pz_nle c
    have e1 := pz_1 (x := y) (by omega)
    have hi : vp_in y 20 := pz_in.mpr ⟨h0, by show y.toInt < 20; omega⟩
    refine ⟨hi, hi, fun s e2 => ih s (y + 1) (by rw [e2]; exact rI_up hI (by omega)) (by rw [e2]; exact hY.up (by omega)) (by omega) (by omega) (by omega)⟩
theorem sz_fin (hI : rI 99 σ) (hC : rC σ) (hN : rN σ) (hB : rB b0 0 σ) (hp : ∀ r σ', rZ (b0 + 600) σ' → rK σ σ' → post r σ') : ∀ y : Int32, wj_X10_run_95 σ y post := by
  intro y s1 e1
  have z0 := l_0
  have key : ∀ (w : Int32), wj_X10_run_129 s1 w post := by
    intro w s2 e2
    have hs : ∀ j, j ≠ 36 → j ≠ 37 → s2 111 j = σ 111 j := fun j a b => by rw [e2, pu_s a, e1, pu_s b]
    have hk : ∀ k, k ≠ 111 → s2 k = σ k := fun k a => by rw [e2, pu_ne a, e1, pu_ne a]
    have hI2 : rI 99 s2 := rI_cg hI (fun k q => hk k (by omega)) (hs 16 (by decide) (by decide)) (hs 28 (by decide) (by decide))
    have go : ∀ x : Int32, ∃ n, wl_X10_run_174 n s2 x 0 post := by
      intro x
      refine ⟨21, sz_174 (σ1 := s2) (fun σ' hI' hY => hp _ _ ?_ ⟨fun k q => (hY k (by omega) (by omega) (by omega) (by omega) (by omega) (by omega) (by omega)).trans (hk k (by omega)), ?_⟩) 21 s2 0 hI2 (fun _ _ _ _ _ _ _ _ => rfl) (by omega) (by omega) (by omega)⟩
      · obtain ⟨b1, b2, b3, b4, b5⟩ := hB
        have g : ∀ k, 118 ≤ k → k ≤ 121 → σ' k = σ k := fun k a b => (hY k (by omega) (by omega) (by omega) (by omega) (by omega) (by omega) (by omega)).trans (hk k (by omega))
        refine ⟨hI'.1, ?_, ?_, ?_, ?_, ?_⟩
        · unfold rC; rw [hY.sx, hs 4 (by decide) (by decide), hs 5 (by decide) (by decide)]; exact hC
        · unfold rN; rw [hY.sx, hs 9 (by decide) (by decide), g 118 (by omega) (by omega), g 119 (by omega) (by omega), g 120 (by omega) (by omega), g 121 (by omega) (by omega)]; exact hN
        · rw [hY.sx, hs 7 (by decide) (by decide)]; omega
        · exact hI'.2.1.1
        · rw [hY.sx, hs 33 (by decide) (by decide)]; exact b2
      · rw [hY.sx, hs 9 (by decide) (by decide)]
    exact ⟨fun _ => go _, fun _ => ⟨fun _ => go _, fun _ => ⟨fun _ => go _, fun _ => go _⟩⟩⟩
  exact ⟨fun _ => key _, fun _ => ⟨fun _ => key _, fun _ => key _⟩⟩
theorem sz_13 (hb : 0 ≤ b0 ∧ b0 ≤ 1000000) (hn : 0 ≤ p1.toInt ∧ p1.toInt < (σ1 111 9).toInt) (h : rZ b0 σ1) (hp : ∀ r σ', rZ (b0 + 600) σ' → rK σ1 σ' → post r σ') : ∀ (k : Nat) (σ : io_M) (y : Int32), (∀ k, k ≠ 122 → k ≠ 123 → σ k = σ1 k) → (∀ j : Nat, (j : Int) < y.toInt → σ 122 j = 0) → 0 ≤ y.toInt → y.toInt ≤ 6 → 6 - y.toInt < k → wl_X10_run_13 k σ p1 y post := by
  intro k
  have z0 := l_0
  have z6 : (6 : Int32).toInt = 6 := by decide
  induction k with
  | zero => intro σ y _ _ _ h1 h2; exact absurd h2 (by omega)
  | succ k ih =>
    intro σ y hk hv h0 h1 h2
    unfold wl_X10_run_13
    refine ⟨fun c s1 e1 s2 e2 s3 e3 s4 e4 s5 e5 s6 e6 => ?_, fun c => ?_⟩
    · have hc := pz_le.mp c
      obtain ⟨hD, hC, hN, h4, h5⟩ := h
      have r : ∀ k, k ≠ 111 → k ≠ 122 → k ≠ 123 → s6 k = σ1 k := fun k a b c => by rw [e6, pu_ne a, e5, pu_ne a, e4, pu_ne a, e3, pu_ne a, e2, pu_ne a, e1, pu_ne a, hk k b c]
      have hs : ∀ j, j ≠ 16 → j ≠ 28 → j ≠ 33 → j ≠ 35 → j ≠ 48 → j ≠ 38 → s6 111 j = σ1 111 j := fun j a b c d f g => by rw [e6, pu_s g, e5, pu_s f, e4, pu_s d, e3, pu_s c, e2, pu_s b, e1, pu_s a, hk 111 (by decide) (by decide)]
      have s16 : s6 111 16 = 0 := by rw [e6, pu_s (by decide), e5, pu_s (by decide), e4, pu_s (by decide), e3, pu_s (by decide), e2, pu_s (by decide), e1, pu_self]
      have s28 : s6 111 28 = 0 := by rw [e6, pu_s (by decide), e5, pu_s (by decide), e4, pu_s (by decide), e3, pu_s (by decide), e2, pu_self]
      have s33 : s6 111 33 = 0 := by rw [e6, pu_s (by decide), e5, pu_s (by decide), e4, pu_s (by decide), e3, pu_self]
      have s35 : s6 111 35 = 0 := by rw [e6, pu_s (by decide), e5, pu_s (by decide), e4, pu_self]
      have s48 : s6 111 48 = 0 := by rw [e6, pu_s (by decide), e5, pu_self]
      have s38 : s6 111 38 = 0 := by rw [e6, pu_self]
      have e122 : s6 122 = σ 122 := by rw [e6, pu_ne (by decide), e5, pu_ne (by decide), e4, pu_ne (by decide), e3, pu_ne (by decide), e2, pu_ne (by decide), e1, pu_ne (by decide)]
      have hI : rI 99 s6 := by
        unfold rI
        rw [s16, s28, r 113 (by decide) (by decide) (by decide)]
        refine ⟨hD, ⟨by omega, fun h q => absurd q (by omega)⟩, ⟨by omega, ?_, fun l q => absurd q (by omega)⟩, fun j hj => ?_⟩
        · rw [z0]; exact Int.le_refl _
        · rw [e122, hv j (by omega)]; exact tv_0
      have hC6 : rC s6 := by unfold rC; rw [hs 4 (by decide) (by decide) (by decide) (by decide) (by decide) (by decide), hs 5 (by decide) (by decide) (by decide) (by decide) (by decide) (by decide)]; exact hC
      have hN6 : rN s6 := by unfold rN; rw [hs 9 (by decide) (by decide) (by decide) (by decide) (by decide) (by decide), r 118 (by decide) (by decide) (by decide), r 119 (by decide) (by decide) (by decide), r 120 (by decide) (by decide) (by decide), r 121 (by decide) (by decide) (by decide)]; exact hN
      have hB6 : rB b0 0 s6 := by
        unfold rB
        rw [s35, s33, hs 7 (by decide) (by decide) (by decide) (by decide) (by decide) (by decide)]
        omega
      have hS6 : rS b0 0 s6 := ⟨hI, hC6, hN6, by rw [s38]; exact z0, hB6⟩
      have hK1 : rK σ1 s6 := ⟨fun k q => r k (by omega) (by omega) (by omega), hs 9 (by decide) (by decide) (by decide) (by decide) (by decide) (by decide)⟩
      have FIN : ∀ s7, rI 99 s7 → rC s7 → rMo s6 s7 → rB b0 0 s7 → ((s7 111 48 = 1 → wj_X10_run_95 s7 (s7 111 50) post) ∧ (¬ (s7 111 48 = 1) → wj_X10_run_95 s7 (-1) post)) := by
        intro s7 g1 g2 g3 g4
        have := sz_fin g1 g2 (hN6.of g3) g4 (post := post) (fun r σ' a b => hp r σ' a ⟨fun k q => (b.1 k q).trans ((g3.1 k (by omega)).trans (hK1.1 k q)), b.2.trans (g3.2.1.trans hK1.2)⟩)
        exact ⟨fun _ => this _, fun _ => this _⟩
      refine sr_begin hS6 s48 (by omega) (fun a1 a2 a3 a4 a5 => ⟨1, ?_⟩) (fun s' b1 b2 b3 b4 b5 b6 b7 b8 => ⟨1203, ?_⟩)
      · have := FIN _ a1 a2 a3 a5
        exact ⟨fun _ => this, fun _ => ⟨fun _ => this, fun q => absurd a4 q⟩⟩
      · have h38 := b1.2.2.2.1
        rw [s35] at b8
        have hnn := hN.2.1
        refine sr_nodes hb.2 60 p1.toInt hn.1 (by omega) 0 s' p1 b1 b4 b5 rfl b6 b7 (by omega) (by rw [b2.2.1, hK1.2]; exact hn.2) (fun σ' q k hk0 hfu => ?_) 1203 (by omega) (fun _ => by omega)
        obtain ⟨q1, q2, q3, q4⟩ := q
        obtain ⟨k', rfl⟩ : ∃ k', k = k' + 1 := ⟨k - 1, by omega⟩
        unfold wl_X10_work_0
        rcases q4 with ⟨q5, q6⟩ | ⟨q5, q6, q7, q8⟩
        · have := FIN σ' q1 q2 (b2.tr q3) q6
          exact ⟨fun _ => this, fun _ => ⟨fun _ => this, fun q => absurd q5 q⟩⟩
        · have := FIN σ' q1 q2 (b2.tr q3) q7
          refine ⟨fun _ => this, fun c => absurd (pz_le.mpr ?_) c⟩
          omega
    · have hc := pz_nle c
      have e2 := pz_1 (x := y) (by omega)
      have hcl := pz_cl y
      have hi : vp_in y 6 := pz_in.mpr ⟨h0, by show y.toInt < 6; omega⟩
      refine ⟨hi, fun s1 e1 => ⟨hi, fun s2 e3 => ih s2 (y + 1) (fun k a b => by rw [e3, pu_ne a, e1, pu_ne b, hk k a b]) (fun j hj => ?_) (by omega) (by omega) (by omega)⟩⟩
      rw [e3, pu_row]
      by_cases q : j = y.toNatClampNeg
      · rw [q, ru_self]
      · rw [ru_ne q, e1, pu_ne (by decide)]
        exact hv j (by omega)
theorem sz_run (hb : 0 ≤ b0 ∧ b0 ≤ 1000000) (h : rZ b0 σ) (hp : ∀ r σ', rZ (b0 + 600) σ' → rK σ σ' → post r σ') : wp_X10_run σ p1 post := by
  have z0 := l_0
  have hcl := pz_cl (σ 111 9)
  have h9 := h.2.2.1.1
  refine sr_isNode h9 (fun _ => ⟨fun _ => hp _ _ (h.mono (by omega)) rK.rf, fun q => absurd rfl q⟩) (fun q => ⟨fun q => absurd q (by decide), fun _ => ⟨7, sz_13 hb (by omega) h hp 7 σ 0 (fun _ _ _ => rfl) (fun j q => absurd q (by omega)) (by omega) (by omega) (by omega)⟩⟩)
end RM
