/-! flush, on both sides -/
theorem pn_41 {f p : Int32} (h : 0 ≤ f.toInt ∧ f.toInt ≤ 1000) (h2 : 0 ≤ p.toInt ∧ p.toInt ≤ 1000) : (40 * f + p).toNatClampNeg = 40 * f.toNatClampNeg + p.toNatClampNeg := by
  rw [pz_cl, pz_cl, pz_cl, pz_41 h h2]
  omega
theorem pn_21 {f p : Int32} (h : 0 ≤ f.toInt ∧ f.toInt ≤ 1000) (h2 : 0 ≤ p.toInt ∧ p.toInt ≤ 1000) : (20 * f + p).toNatClampNeg = 20 * f.toNatClampNeg + p.toNatClampNeg := by
  rw [pz_cl, pz_cl, pz_cl, pz_21 h h2]
  omega
theorem pn_1 {y : Int32} (h : 0 ≤ y.toInt ∧ y.toInt < 2147483647) : (y + 1).toNatClampNeg = y.toNatClampNeg + 1 := by
  rw [pz_cl, pz_cl, pz_1 h.2]
  omega
section EB
variable {c x c' x' : io_M} {post : Int32 → io_M → Prop} {h : Nat}
theorem sx_allL (hx : ∀ f : Nat, f < 8 → (x 112 f = 0 → x 113 f = 0) ∧ 0 ≤ (x 113 f).toInt ∧ (x 113 f).toInt ≤ 40) (hp : ∀ r : Int32, r.toInt = sN (x 113) 8 → post r x) : ∀ (k : Nat) (a y : Int32), 0 ≤ y.toInt → y.toInt ≤ 8 → 8 - y.toInt < k → a.toInt = sN (x 113) y.toNatClampNeg → wl_X10_allBytes_4 k x a y post := by
  intro k
  have z : (8 : Int32).toInt = 8 := by decide
  have z0 := l_0
  induction k with
  | zero => intro a y _ h1 h2; exact absurd h2 (by omega)
  | succ k ih =>
    intro a y h0 h1 h2 h3
    unfold wl_X10_allBytes_4
    refine ⟨fun q => hp _ ?_, fun q => ?_⟩
    · have := pz_le.mp q
      have e : y.toNatClampNeg = 8 := by rw [pz_cl]; omega
      rw [h3, e]
    · have hq := pz_nle q
      have hi : vp_in y 8 := pz_in.mpr ⟨h0, by show y.toInt < 8; omega⟩
      have e2 := pz_1 (x := y) (by omega)
      have e3 := pn_1 (y := y) (by omega)
      have hlt : y.toNatClampNeg < 8 := by rw [pz_cl]; omega
      obtain ⟨g1, g2, g3⟩ := hx y.toNatClampNeg hlt
      have hb := sN_b (r := x 113) y.toNatClampNeg (fun j hj => (hx j (by omega)).2)
      have eS : sN (x 113) (y + 1).toNatClampNeg = sN (x 113) y.toNatClampNeg + (x 113 y.toNatClampNeg).toInt := by rw [e3]; rfl
      refine ⟨hi, fun t => ih _ _ (by omega) (by omega) (by omega) ?_, fun t => ⟨hi, ih _ _ (by omega) (by omega) (by omega) ?_⟩⟩
      · rw [eS, g1 t, pz_add (by omega), h3]
      · rw [eS, pz_add (by omega), h3]
theorem sx_all (hD : oD c x) (hp : ∀ r : Int32, r.toInt = (c 88 4).toInt → post r x) : wp_X10_allBytes x post :=
  ⟨9, sx_allL (fun f hf => ⟨(hD.1 f hf).2.2.2.2.1, (hD.1 f hf).2.2.2.2.2.1⟩) (fun r e => hp r (by rw [e, hD.2.1])) 9 0 0 (by rw [l_0]; omega) (by rw [l_0]; omega) (by rw [l_0]; omega) (by rw [l_0]; rfl)⟩
/-- one handle moved -/
theorem oH.one (hH : oH c x) (h0 : Nat) (hh0 : h0 < 20) (hw : ∀ h : Nat, (h : Int) < (x 111 16).toInt → (x 130 h).toInt ≤ 20) (hc : ∀ k, k < 40 → k ≠ h0 → k ≠ 20 + h0 → c' k = c k) (h101 : c' 101 2 = c 101 2) (h16 : x' 111 16 = x 111 16) (hx : ∀ h, h ≠ h0 → x' 124 h = x 124 h ∧ x' 125 h = x 125 h ∧ x' 126 h = x 126 h ∧ x' 127 h = x 127 h ∧ x' 129 h = x 129 h ∧ x' 130 h = x 130 h ∧ ∀ i, i < 20 → x' 131 (20 * h + i) = x 131 (20 * h + i)) (hn : (h0 : Int) < (x 111 16).toInt → c' h0 4 = x' 124 h0 ∧ c' h0 5 = x' 125 h0 ∧ c' h0 6 = x' 126 h0 ∧ c' h0 7 = x' 127 h0 ∧ c' h0 3 = x' 129 h0 ∧ c' h0 2 = x' 130 h0 ∧ ∀ i : Nat, (i : Int) < (x' 130 h0).toInt → c' (20 + h0) i = x' 131 (20 * h0 + i) &&& 255) : oH c' x' := by
  obtain ⟨h1, h2, h3⟩ := hH
  unfold oH
  rw [h101, h16]
  refine ⟨h1, h2, fun h hh => ?_⟩
  by_cases e : h = h0
  · subst e
    exact hn hh
  · obtain ⟨b1, b2, b3, b4, b5, b6, b7⟩ := hx h e
    rw [b1, b2, b3, b4, b5, b6, hc h (by omega) e (by omega), hc (20 + h) (by omega) (by omega) (by omega)]
    obtain ⟨a1, a2, a3, a4, a5, a6, a7⟩ := h3 h hh
    have := hw h hh
    exact ⟨a1, a2, a3, a4, a5, a6, fun i hi => by rw [b7 i (by omega)]; exact a7 i hi⟩
theorem rI.w {e : Nat} {σ : io_M} (hI : rI e σ) : ∀ h : Nat, (h : Int) < (σ 111 16).toInt → (σ 130 h).toInt ≤ 20 := fun h hh => (hI.2.1.2 h hh).2.2.2.2.1.2
def flS (h : Nat) (c : io_M) (y r : Int32) (c' : io_M) : Prop := ∀ (x : io_M) (p1 : Int32) (X : io_M → Prop) (post : Int32 → io_M → Prop) (k : Nat), (∀ (σ : io_M) (k j : Nat) (v : Int32), (k = 113 ∨ k = 114 ∨ k = 126 ∨ k = 130 ∨ k = 134) → X σ → X (io_up σ k j v)) → rI h x → X x → oD c x → oH c x → oT x → p1.toNatClampNeg = h → 0 ≤ p1.toInt → p1.toInt < (x 111 16).toInt → x 127 h = 0 → 21 - y.toInt < k → (∀ rr x', rI 99 x' → X x' → rfl_k x x' → x' 130 h = 0 → oD c' x' → oH c' x' → oT x' → (rr = 0 ∧ ¬ r = 0 ∨ rr = 1 ∧ r = 0) → post rr x') → wl_X10_flush_12 k x p1 (x 124 h) 1 y post
theorem xf_stop {p1 f y : Int32} (hi : vp_in p1 20) (hp : post 0 (io_up x 130 p1.toNatClampNeg 0)) : ∀ k : Nat, 0 < k → wl_X10_flush_12 k x p1 f 0 y post := by
  intro k hk
  cases k with
  | zero => omega
  | succ k =>
    unfold wl_X10_flush_12
    exact ⟨hi, fun _ => ⟨hi, fun s e => ⟨Or.inl rfl, by rw [e]; exact hp⟩⟩, fun _ => ⟨fun _ => ⟨hi, fun s e => ⟨Or.inl rfl, by rw [e]; exact hp⟩⟩, fun q => absurd rfl q⟩⟩
/-- nothing waits any more -/
theorem xf_end (hh : h < 20) (hI : rI h x) (hD : oD c x) (hH : oH c x) (hT : oT x) (hk : ∀ k, k ≠ h → c' k = c k) (hs : ∀ j, j ≠ 2 → j ≠ 10 → c' h j = c h j) (h2 : c' h 2 = 0) (hlt : (h : Int) < (x 111 16).toInt) : rI 99 (io_up x 130 h 0) ∧ rfl_k x (io_up x 130 h 0) ∧ (io_up x 130 h 0) 130 h = 0 ∧ oD c' (io_up x 130 h 0) ∧ oH c' (io_up x 130 h 0) ∧ oT (io_up x 130 h 0) := by
  have z0 := l_0
  obtain ⟨g1, g2, g3, gb, gw, gx⟩ := hI.2.1.2 h hlt
  refine ⟨?_, fun k a b d e f => pu_ne e, pu_self, ?_, ?_, ?_⟩
  · exact rI_wait (e := h) h 0 hI (by rw [pu_row]) (fun k hk => by rw [pu_ne (by omega)]) (by rw [pu_ne (by decide)]) (by rw [pu_ne (by decide)]) (Or.inr rfl) (fun _ => ⟨gb, by omega, fun _ => ⟨by omega, fun _ => by omega, fun _ => by omega⟩⟩)
  · exact hD.cg (fun k a b => hk k (by omega)) (fun k a b => pu_ne (by omega))
  · refine hH.one h hh hI.w (fun k a b d => hk k b) (by rw [hk 101 (by omega)]) (by rw [pu_ne (by decide)]) (fun h' e => ?_) (fun q => ?_)
    · rw [pu_ne (k' := 124) (by decide), pu_ne (k' := 125) (by decide), pu_ne (k' := 126) (by decide), pu_ne (k' := 127) (by decide), pu_ne (k' := 129) (by decide), pu_ne (k' := 131) (by decide), pu_same e]
      exact ⟨rfl, rfl, rfl, rfl, rfl, rfl, fun _ _ => rfl⟩
    · obtain ⟨a1, a2, a3, a4, a5, a6, a7⟩ := hH.2.2 h q
      rw [pu_ne (k' := 124) (by decide), pu_ne (k' := 125) (by decide), pu_ne (k' := 126) (by decide), pu_ne (k' := 127) (by decide), pu_ne (k' := 129) (by decide), pu_self, hs 4 (by decide) (by decide), hs 5 (by decide) (by decide), hs 6 (by decide) (by decide), hs 7 (by decide) (by decide), hs 3 (by decide) (by decide)]
      exact ⟨a1, a2, a3, a4, a5, h2, fun i hi => by omega⟩
  · exact hT.cg (by rw [pu_ne (by decide)]) (fun k a => pu_ne (by omega))
/-- a byte is laid: in place of another, or behind the last -/
theorem xf_step {s t : io_M} {p1 y : Int32} {v : Int32} (hh : h < 20) (hI : rI h x) (hD : oD c x) (hH : oH c x) (hT : oT x) (hp1 : p1.toNatClampNeg = h) (hp0 : 0 ≤ p1.toInt) (hlt : p1.toInt < (x 111 16).toInt) (hst : x 127 h = 0) (hy : 0 ≤ y.toInt ∧ y.toInt < (x 130 h).toInt) (hpl : (x 126 h).toInt < 40) (hv : (x 113 (x 124 h).toNatClampNeg).toInt ≤ v.toInt ∧ v.toInt ≤ (x 113 (x 124 h).toNatClampNeg).toInt + 1 ∧ v.toInt ≤ 40 ∧ (x 126 h).toInt + 1 ≤ v.toInt ∧ (v.toInt = (x 113 (x 124 h).toNatClampNeg).toInt ∨ (x 113 (x 124 h).toNatClampNeg).toInt ≤ (x 126 h).toInt))
    (hs : ∀ k, k ≠ 80 + (c h 4).toNatClampNeg → k ≠ h → k ≠ 88 → k ≠ 89 → k ≠ 91 → s k = c k) (hs0 : s (80 + (c h 4).toNatClampNeg) = ru (c (80 + (c h 4).toNatClampNeg)) (c h 6).toNatClampNeg (c (20 + h) y.toNatClampNeg)) (hsh : s h = ru (c h) 6 (c h 6 + 1)) (hs91 : s 91 = ru (c 91) (c h 4).toNatClampNeg v) (hs89 : s 89 = ru (c 89) (c h 4).toNatClampNeg 1) (hs88 : (s 88 4).toInt = (c 88 4).toInt + v.toInt - (x 113 (x 124 h).toNatClampNeg).toInt) (hu : (s 88 4).toInt ≤ 120)
    (ht : ∀ k, k ≠ 113 → k ≠ 114 → k ≠ 126 → k ≠ 134 → t k = x k) (ht114 : t 114 = ru (x 114) ((40 * x 124 h) + x 126 h).toNatClampNeg (x 131 ((20 * p1) + y).toNatClampNeg).toInt8.toInt32) (ht126 : t 126 = ru (x 126) h (x 126 h + 1)) (ht113 : t 113 = ru (x 113) (x 124 h).toNatClampNeg v) :
    rI h t ∧ oD s t ∧ oH s t ∧ oT t ∧ rfl_k x t := by
  have hcl := pz_cl p1
  have hhi : (h : Int) = p1.toInt := by rw [← hp1, hcl]; omega
  have hlt' : (h : Int) < (x 111 16).toInt := by omega
  obtain ⟨⟨f1, f2⟩, g1, g2, gb, gw, gx⟩ := hI.2.1.2 h hlt'
  obtain ⟨a1, a2, a3, a4, a5, a6, a7⟩ := hH.2.2 h hlt'
  have g2 := g2 (by rw [hst]; decide)
  have hn := pn_8 (f := x 124 h) ⟨f1, by omega⟩
  have h20 := hH.2.1
  have i41 := pn_41 (f := x 124 h) (p := x 126 h) (by omega) (by omega)
  have i21 := pn_21 (f := p1) (p := y) (by omega) (by omega)
  rw [hp1] at i21
  have hycl := pz_cl y
  have hpcl := pz_cl (x 126 h)
  rw [a1] at hs hs0 hs91 hs89
  rw [a3] at hs0 hsh
  rw [i41] at ht114
  rw [i21] at ht114
  have ep := pz_1 (x := x 126 h) (by omega)
  generalize hF : (x 124 h).toNatClampNeg = F at *
  refine ⟨?_, ?_, ?_, ?_, fun k b1 b2 b3 b4 b5 => ht k b1 b2 b3 b5⟩
  · exact rI_adv h F v (x 126 h + 1) hI hF.symm ht113 ht126 (fun k hk => ht k (by omega) (by omega) (by omega) (by omega)) (by rw [ht 111 (by decide) (by decide) (by decide) (by decide)]) (by rw [ht 111 (by decide) (by decide) (by decide) (by decide)]) (by omega) (by omega)
  · obtain ⟨d1, d2, d3, d4, d5, d6, d7⟩ := hD.1 F hn
    have dT : x 112 F = 1 := by
      have := (hT h hlt').2 (by rw [hst]; decide)
      rw [hF] at this
      exact this
    refine hD.set F hn (hs 90 (by omega) (by omega) (by decide) (by decide) (by decide)) (ht 115 (by decide) (by decide) (by decide) (by decide)) (fun f b1 b2 => ⟨?_, ?_, ?_, ?_, ?_, fun i hi => ?_⟩) ?_ ?_ ?_ ?_ ?_ (fun i hi => ?_) ?_ hu
    · rw [hs89, ru_ne b2]
    · rw [hs91, ru_ne b2]
    · exact hs (80 + f) (by omega) (by omega) (by omega) (by omega) (by omega)
    · rw [ht 112 (by decide) (by decide) (by decide) (by decide)]
    · rw [ht113, ru_ne b2]
    · rw [ht114, ru_ne (by omega)]
    · rw [hs89, ru_self, ht 112 (by decide) (by decide) (by decide) (by decide), dT]
    · rw [hs91, ru_self, ht113, ru_self]
    · rw [ht 112 (by decide) (by decide) (by decide) (by decide), dT]; exact Or.inr rfl
    · rw [ht 112 (by decide) (by decide) (by decide) (by decide), dT]; exact fun q => absurd q (by decide)
    · rw [ht113, ru_self]; omega
    · rw [ht113, ru_self] at hi
      rw [hs0, ht114]
      by_cases e : i = (x 126 h).toNatClampNeg
      · rw [e, ru_self, ru_self, bp_b]
        exact a7 y.toNatClampNeg (by omega)
      · rw [ru_ne e, ru_ne (by omega)]
        exact d7 i (by omega)
    · rw [hs88, ht113, ru_self]
  · refine hH.one h hh hI.w (fun k b1 b2 b3 => hs k (by omega) b2 (by omega) (by omega) (by omega)) (by rw [hs 101 (by omega) (by omega) (by decide) (by decide) (by decide)]) (by rw [ht 111 (by decide) (by decide) (by decide) (by decide)]) (fun h' e => ?_) (fun q => ?_)
    · rw [ht 124 (by decide) (by decide) (by decide) (by decide), ht 125 (by decide) (by decide) (by decide) (by decide), ht 127 (by decide) (by decide) (by decide) (by decide), ht 129 (by decide) (by decide) (by decide) (by decide), ht 130 (by decide) (by decide) (by decide) (by decide), ht 131 (by decide) (by decide) (by decide) (by decide), ht126, ru_ne e]
      exact ⟨rfl, rfl, rfl, rfl, rfl, rfl, fun _ _ => rfl⟩
    · rw [ht 124 (by decide) (by decide) (by decide) (by decide), ht 125 (by decide) (by decide) (by decide) (by decide), ht 127 (by decide) (by decide) (by decide) (by decide), ht 129 (by decide) (by decide) (by decide) (by decide), ht 130 (by decide) (by decide) (by decide) (by decide), ht 131 (by decide) (by decide) (by decide) (by decide), ht126, ru_self, hsh, ru_self, ru_ne (by decide), ru_ne (by decide), ru_ne (by decide), ru_ne (by decide), ru_ne (by decide), hs (20 + h) (by omega) (by omega) (by omega) (by omega) (by omega)]
      exact ⟨a1, a2, rfl, a4, a5, a6, a7⟩
  · exact hT.cg (by rw [ht 111 (by decide) (by decide) (by decide) (by decide)]) (fun k a => ht k (by omega) (by omega) (by omega) (by omega))
end EB
