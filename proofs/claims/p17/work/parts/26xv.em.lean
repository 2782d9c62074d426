/-! ends on both sides: finally, bracket -/
section EV
variable {b0 e d : Int} {P Q k : Nat} {c c' c1 c2 c3 c4 x x0 x' t : io_M} {n a r r1 r3 T v s w : Int32} {pv : io_M → Prop}
theorem oO.not5 (h : oO r c x) (ho : rOut x) : ¬ c 107 7 = 5 := by
  rcases h with q | q | q | q
  · rcases q.2.2.2.2 with z | z | z <;> rw [z] <;> decide
  · rw [q.2.2.1]; decide
  · rw [q.2.2.1]; decide
  · rcases ho with z | z | z
    · rw [z.1] at q; exact absurd q.2.1 (by decide)
    · rw [z] at q; exact absurd q.2.1 (by decide)
    · rw [z] at q; exact absurd q.2.1 (by decide)
theorem oO.is5 (h : oO r c x) (h3 : x 111 48 = 3) : r = 0 ∧ c 107 7 = 5 ∧ c 107 8 = 0 := by
  rcases h with q | q | q | q
  · rw [h3] at q; exact absurd q.2.1 (by decide)
  · rw [h3] at q; exact absurd q.2.1 (by decide)
  · rw [h3] at q; exact absurd q.2.1 (by decide)
  · exact ⟨q.1, q.2.2⟩
/-- finally: its first part was stopped -/
theorem nS_fin5 (hn : io_nd c n) (hq : c 97 n.toNatClampNeg = 27) (ha : 0 ≤ (c 98 n.toNatClampNeg).toInt ∧ (c 98 n.toNatClampNeg).toInt < n.toNatClampNeg) (hS : cS b0 (e + 1) c (c 98 n.toNatClampNeg) r1 c1) (h5 : c1 107 7 = 5) : nS b0 e c n 0 c1 := by
  intro P x pv hP hSx hg h140 h141 h144 hPn hn0 hn1 hR hK
  obtain ⟨s97, s98, s99, s100⟩ := nd_s hR hn
  rw [s98] at ha hS
  have hcl := pz_cl n
  have hF : fF b0 P n x x := ⟨hSx, h140, rMo.rf, rFr.rf, hn0, hn1, hPn⟩
  refine st_0 hF hg h141 hR (Or.inr (Or.inr (Or.inr (by rw [← s97, hq]; decide)))) hS (by omega) (by omega) (fun x' q1 q2 q3 q4 => hK x' q1 q2 ?_) (fun x' q1 q2 q3 q4 q5 q6 q7 q8 => absurd h5 (q3.not5 q4))
  have z := (q3.is5 q4).1
  rw [z] at q3
  exact q3
/-- finally: the end is worked behind whatever came -/
theorem nS_fin (hn : io_nd c n) (hq : c 97 n.toNatClampNeg = 27) (ha : 0 ≤ (c 98 n.toNatClampNeg).toInt ∧ (c 98 n.toNatClampNeg).toInt < n.toNatClampNeg) (hS : cS b0 (e + 1) c (c 98 n.toNatClampNeg) r1 c1) (h5 : ¬ c1 107 7 = 5) (hE : eS 143 142 2 b0 e c1 n (c 99 n.toNatClampNeg) r c') : nS b0 e c n r c' := by
  intro P x pv hP hSx hg h140 h141 h144 hPn hn0 hn1 hR hK
  obtain ⟨s97, s98, s99, s100⟩ := nd_s hR hn
  rw [s98] at ha hS
  rw [s99] at hE
  have hcl := pz_cl n
  have hF : fF b0 P n x x := ⟨hSx, h140, rMo.rf, rFr.rf, hn0, hn1, hPn⟩
  refine st_0 hF hg h141 hR (Or.inr (Or.inr (Or.inr (by rw [← s97, hq]; decide)))) hS (by omega) (by omega) (fun x' q1 q2 q3 q4 => absurd (q3.is5 q4).2.1 h5) (fun x' q1 q2 q3 q4 q5 q6 q7 q8 => ?_)
  have e118 : x' 118 n.toNatClampNeg = 27 := by rw [q7.1 118 (by omega), ← s97]; exact hq
  have e120 : x' 120 = x 120 := q7.1 120 (by omega)
  have e144 : x' 144 P = 0 := by rw [q6 144 (by omega) (by decide)]; exact h144
  have val : oO 1 c1 x' → rLo pv x' := by
    intro hO
    have g := hO.g0
    refine lo_go q1 g.1 (fun T k hPT hT hG => go_E hPT hT hG.in (by rw [e118]; decide) (fun t et => ?_))
    have hin := hG.in
    have hG' : rG b0 P n x 600 k t := by rw [et]; exact hG.up (by omega)
    have rt : ∀ k, k ≠ 141 → t k = x' k := fun k q => by rw [et, pu_ne q]
    rw [e118, q5]
    refine ⟨fun z => absurd z (by decide), fun _ => ⟨fun z => absurd z (by decide), fun _ => ⟨fun z => absurd z (by decide), fun _ => ⟨fun z => absurd z (by decide), fun _ => ⟨fun _ => ⟨hin, fun _ => ⟨hT, fun u1 f1 => ⟨hT, fun u2 f2 => ?_⟩⟩, fun z => absurd rfl z⟩, fun z => absurd rfl z⟩⟩⟩⟩⟩
    rw [hPT] at f1 f2
    have k1 : u1 111 = x' 111 := by rw [f1, pu_ne (by decide), rt 111 (by decide)]
    rw [rt 111 (by decide)] at f1
    rw [k1] at f2
    have r2 : ∀ k, k ≠ 141 → k ≠ 142 → k ≠ 143 → u2 k = x' k := fun k a b d => by rw [f2, pu_ne d, f1, pu_ne b, rt k a]
    have hG2 : rG b0 P n x 600 k u2 := by rw [f2, f1]; exact (hG'.up (by omega)).up (by omega)
    have e111 : u2 111 = x' 111 := r2 111 (by decide) (by decide) (by decide)
    have w143 : u2 143 P = x' 111 46 := by rw [f2, pu_self]
    have w142 : u2 142 P = x' 111 47 := by rw [f2, pu_ne (by decide), f1, pu_self]
    have w141 : u2 141 P = 2 := by rw [f2, pu_ne (by decide), f1, pu_ne (by decide), et, pu_self, q5]; rfl
    rw [rt 120 (by decide), e120]
    refine hE P x u2 pv k hP hG2 hPn (by rw [e111]; exact g.1) (q2.fr (fun _ _ _ => rfl) rfl (fun k a b => r2 k (by omega) (by omega) (by omega)) (fun j a => by rw [e111]) (Or.inr (q2.v (by rw [g.1]; decide)))) w141 (Or.inl ⟨by rw [r2 144 (by decide) (by decide) (by decide)]; exact e144, by rw [w143]; exact g.2.1, by rw [w142]; exact g.2.2.1, g.2.2.2, ?_⟩) hK
    rw [e111, w143, w142]
    exact q4.tt g.1
  have err : (x' 111 48 = 1 ∧ c1 107 7 = 3 ∧ c1 107 8 = x' 111 49 ∧ c1 107 9 = x' 111 50) ∨ (x' 111 48 = 2 ∧ c1 107 7 = 4 ∧ c1 107 8 = x' 111 49) → rLo pv x' := by
    intro hO
    have hgo : x' 111 48 = 1 ∨ x' 111 48 = 2 := by
      rcases hO with q | q
      · exact Or.inl q.1
      · exact Or.inr q.1
    have hn3 : ¬ x' 111 48 = 3 := by rcases hgo with q | q <;> rw [q] <;> decide
    have n26 : ¬ x' 118 n.toNatClampNeg = 26 := by rw [e118]; decide
    have n28 : ¬ x' 118 n.toNatClampNeg = 28 := by rw [e118]; decide
    refine lo_un q1 hgo (fun T k hPT hT hG => ?_)
    have hin := hG.in
    unfold wp_X10_unwind
    rw [hPT, q1.2.1]
    refine ⟨hT, hin, hT, fun z => absurd z n26, fun _ => ⟨fun _ => ⟨fun _ => ⟨fun z => absurd z (by decide), fun _ => ⟨hT, fun u1 f1 => ⟨hT, fun u2 f2 => ⟨hT, fun u3 f3 u4 f4 => ⟨hT, fun u5 f5 => ⟨fun z => absurd z n28, fun _ => ⟨hin, ?_⟩⟩⟩⟩⟩⟩⟩, fun z => absurd q5 z⟩, fun z => absurd e118 z⟩⟩
    rw [hPT] at f1 f2 f3 f5
    have k1 : u1 111 = x' 111 := by rw [f1, pu_ne (by decide)]
    have k2 : u2 111 = x' 111 := by rw [f2, pu_ne (by decide), k1]
    have k3 : u3 111 = x' 111 := by rw [f3, pu_ne (by decide), k2]
    rw [k1] at f2
    rw [k2] at f3
    have rk : ∀ k, k ≠ 111 → k ≠ 141 → k ≠ 144 → k ≠ 145 → k ≠ 146 → u5 k = x' k := fun k a b d f h => by rw [f5, pu_ne b, f4, pu_ne a, f3, pu_ne h, f2, pu_ne f, f1, pu_ne d]
    have rs : ∀ j, j ≠ 48 → u5 111 j = x' 111 j := fun j a => by rw [f5, pu_ne (by decide), f4, pu_s a, k3]
    have g0 : u5 111 48 = 0 := by rw [f5, pu_ne (by decide), f4, pu_self]
    have hG5 : rG b0 P n x 600 k u5 := by
      rw [f5, f4, f3, f2, f1]
      exact (((((hG.up (by omega)).up (by omega)).up (by omega)).goes).up (by omega))
    have w141 : u5 141 P = 2 := by rw [f5, pu_self, q5]; rfl
    have w144 : u5 144 P = x' 111 48 := by rw [f5, pu_ne (by decide), f4, pu_ne (by decide), f3, pu_ne (by decide), f2, pu_ne (by decide), f1, pu_self]
    have w145 : u5 145 P = x' 111 49 := by rw [f5, pu_ne (by decide), f4, pu_ne (by decide), f3, pu_ne (by decide), f2, pu_self]
    have w146 : u5 146 P = x' 111 50 := by rw [f5, pu_ne (by decide), f4, pu_ne (by decide), f3, pu_self]
    rw [rk 120 (by decide) (by decide) (by decide) (by decide) (by decide), e120]
    refine hE P x u5 pv k hP hG5 hPn g0 (q2.fr (fun _ _ _ => rfl) rfl (fun k a b => rk k (by omega) (by omega) (by omega) (by omega) (by omega)) (fun j a => rs j (by omega)) (Or.inr (q2.v hn3))) w141 ?_ hK
    rcases hO with q | q
    · exact Or.inr (Or.inl ⟨by rw [w144]; exact q.1, q.2.1, by rw [w145]; exact q.2.2.1, by rw [w146]; exact q.2.2.2⟩)
    · exact Or.inr (Or.inr ⟨by rw [w144]; exact q.1, q.2.1, by rw [w145]; exact q.2.2⟩)
  rcases q3 with q | q | q | q
  · exact val (Or.inl ⟨rfl, q.2⟩)
  · exact err (Or.inl q.2)
  · exact err (Or.inr q.2)
  · exact absurd q.2.2.1 h5
/-- behind a stop the variables are nobody's -/
theorem oR.vars3 (hR : oR c x) (hg : x 111 48 = 3) (hc : ∀ k, k ≠ 108 → k ≠ 109 → c' k = c k) : oR c' x := by
  obtain ⟨r1, r2, r3, r4, r5, r6, r7, r8, r9⟩ := hR
  exact ⟨r1.cg (fun k a b => hc k (by omega) (by omega)) (fun _ _ _ => rfl), r2.cg (fun k a => hc k (by omega) (by omega)) (by rw [hc 101 (by decide) (by decide)]) rfl (fun _ _ => rfl), r3, r4.cg (fun k a b => hc k (by omega) (by omega)) (by rw [hc 103 (by decide) (by decide)]) rfl (fun _ _ => rfl), r5.cg (by rw [hc 105 (by decide) (by decide)]) (hc 106 (by decide) (by decide)) rfl rfl, r6.cg (hc 93 (by decide) (by decide)) (hc 94 (by decide) (by decide)) (hc 95 (by decide) (by decide)) (fun _ _ => rfl) rfl rfl, r7.cg (fun k a b => hc k (by omega) (by omega)) rfl (fun _ _ _ => rfl), by rw [hc 107 (by decide) (by decide)]; exact r8, Or.inl hg⟩
theorem e5_5 : (5 : Int32).toNatClampNeg = 5 := by decide
/-- bracket: behind the first value the third part is worked -/
theorem st_br (h : fF b0 P n x0 x) (hR : oR c x) (hO : oO 1 c x) (ho : rOut x) (h141 : x 141 P = 1) (h118 : x 118 n.toNatClampNeg = 28) (h2 : c2 = io_up (io_up c 108 5 (c 107 7)) 109 5 (c 107 8)) (hS : cS b0 e c2 (x 121 n.toNatClampNeg) r1 c3) (he : e = P + 1) (ha : 0 ≤ (x 121 n.toNatClampNeg).toInt ∧ (x 121 n.toNatClampNeg).toInt < n.toInt) (h3 : ∀ x', rQ b0 P x0 x' → oR c3 x' → oO r1 c3 x' → x' 111 48 = 3 → rLo pv x') (hn : ∀ x', fF b0 P n x0 x' → oR c3 x' → oO r1 c3 x' → rOut x' → x' 141 P = 2 → x' 142 P = c 107 8 → x' 143 P = c 107 7 → x' 144 P = x 144 P → rMo x x' → rLo pv x') : rLo pv x := by
  have g := hO.g0
  refine lo_go h g.1 (fun T k hPT hT hG => go_E hPT hT hG.in (by rw [h118]; decide) (fun t et => ?_))
  have hin := hG.in
  have hG' : rG b0 P n x0 600 k t := by rw [et]; exact hG.up (by omega)
  have rt : ∀ k, k ≠ 141 → t k = x k := fun k q => by rw [et, pu_ne q]
  rw [h118, h141]
  refine ⟨fun z => absurd z (by decide), fun _ => ⟨fun z => absurd z (by decide), fun _ => ⟨fun z => absurd z (by decide), fun _ => ⟨fun z => absurd z (by decide), fun _ => ⟨fun z => absurd z (by decide), fun _ => ⟨fun _ => ⟨hT, fun u1 f1 => ⟨hT, fun u2 f2 => ⟨i56, fun u3 f3 => ⟨i56, fun u4 f4 => ⟨hin, ?_⟩⟩⟩⟩⟩, fun z => absurd rfl z⟩⟩⟩⟩⟩⟩
  rw [hPT] at f1 f2
  rw [e5_5] at f3 f4
  have k1 : u1 111 = x 111 := by rw [f1, pu_ne (by decide), rt 111 (by decide)]
  have k2 : u2 111 = x 111 := by rw [f2, pu_ne (by decide), k1]
  have k3 : u3 111 = x 111 := by rw [f3, pu_ne (by decide), k2]
  rw [rt 111 (by decide), ← g.2.2.1] at f1
  rw [k1, ← g.2.1] at f2
  rw [k2, ← g.2.2.1] at f3
  rw [k3, ← g.2.1] at f4
  have q2 : ∀ k, k ≠ 141 → k ≠ 142 → k ≠ 143 → u2 k = x k := fun k d f h => by rw [f2, pu_ne h, f1, pu_ne f, rt k d]
  have q4 : ∀ k, k ≠ 122 → k ≠ 123 → u4 k = u2 k := fun k a b => by rw [f4, pu_ne a, f3, pu_ne b]
  have r4 : ∀ k, k ≠ 122 → k ≠ 123 → k ≠ 141 → k ≠ 142 → k ≠ 143 → u4 k = x k := fun k a b d f h => by rw [q4 k a b, q2 k d f h]
  have e111 : u4 111 = x 111 := r4 111 (by decide) (by decide) (by decide) (by decide) (by decide)
  have hG4 : rG b0 P n x0 600 k u4 := by
    have hG2 : rG b0 P n x0 600 k u2 := by rw [f2, f1]; exact (hG'.up (by omega)).up (by omega)
    rw [f4, f3]
    refine hG2.var' 5 (c 107 7) (c 107 8) ?_
    rw [k2, g.2.1, g.2.2.1]
    exact ho.tt g.1
  have hRa : oR c u2 := hR.fr (fun _ _ _ => rfl) rfl (fun k a b => q2 k (by omega) (by omega) (by omega)) (fun j a => by rw [k2]) (Or.inr (hR.v (by rw [g.1]; decide)))
  have hR4 : oR c2 u4 := hRa.var (A := 5) (s := c 107 7) (v := c 107 8) (by rw [k2]; exact g.1) g.2.2.2 (by rw [h2, pu_ne (by decide), pu_row]) (by rw [h2, pu_row, pu_ne (by decide)]) (fun k a b => by rw [h2, pu_ne b, pu_ne a]) (by rw [f4, pu_row, f3, pu_ne (by decide)]) (by rw [f4, pu_ne (by decide), f3, pu_row]) q4
  have hmo : rMo x u4 := ⟨fun k q => r4 k (by omega) (by omega) (by omega) (by omega) (by omega), by rw [e111], by rw [e111]; exact Int.le_refl _, by rw [e111]; exact Int.le_refl _, by rw [e111]; exact Int.le_refl _⟩
  rw [r4 121 (by decide) (by decide) (by decide) (by decide) (by decide)]
  refine lo_call hG4 h.2.2.2.2.2.2 (by rw [e111]; exact g.1) hR4 hS he ha h3 (fun x' p1 p2 p3 p4 p5 p6 p7 => hn x' p1 p2 p3 p4 ?_ ?_ ?_ ?_ (hmo.tr p6))
  · rw [p5 141 (by omega), q4 141 (by decide) (by decide), f2, pu_ne (by decide), f1, pu_ne (by decide), et, pu_self, h141]; rfl
  · rw [p5 142 (by omega), q4 142 (by decide) (by decide), f2, pu_ne (by decide), f1, pu_self]
  · rw [p5 143 (by omega), q4 143 (by decide) (by decide), f2, pu_self]
  · rw [p5 144 (by omega), r4 144 (by decide) (by decide) (by decide) (by decide) (by decide)]
/-- bracket: its third part was stopped -/
theorem mS_br5 (hn : io_nd c n) (hq : c 97 n.toNatClampNeg = 28) (hc : 0 ≤ (c 100 n.toNatClampNeg).toInt ∧ (c 100 n.toNatClampNeg).toInt < n.toNatClampNeg) (h2 : c2 = io_up (io_up c 108 5 (c 107 7)) 109 5 (c 107 8)) (hS : cS b0 (e + 1) c2 (c 100 n.toNatClampNeg) r1 c3) (h4 : c4 = io_up (io_up c3 108 5 (c 107 7)) 109 5 (c 107 8)) (h5 : c4 107 7 = 5) : mS b0 e c n F1 0 c4 := by
  intro P x0 x pv hP hF hR hO ho hF1 hK
  obtain ⟨s97, s98, s99, s100⟩ := nd_s hR hn
  rw [s100] at hc hS
  have hcl := pz_cl n
  have h0 := hF.2.2.2.2.1
  have e107 : c4 107 = c3 107 := by rw [h4, pu_ne (by decide), pu_ne (by decide)]
  rw [e107] at h5
  refine st_br hF hR hO ho hF1.1 (by rw [← s97]; exact hq) h2 hS (by omega) (by omega) (fun x' q1 q2 q3 q4 => hK x' q1 (q2.vars3 q4 (fun k a b => by rw [h4, pu_ne b, pu_ne a])) ?_) (fun x' q1 q2 q3 q4 _ _ _ _ _ => absurd h5 (q3.not5 q4))
  have g := q3.is5 q4
  exact Or.inr (Or.inr (Or.inr ⟨rfl, q4, by rw [e107]; exact g.2.1, by rw [e107]; exact g.2.2⟩))
/-- bracket: the end is worked behind whatever the third part came to -/
theorem mS_br (hn : io_nd c n) (hq : c 97 n.toNatClampNeg = 28) (hc : 0 ≤ (c 100 n.toNatClampNeg).toInt ∧ (c 100 n.toNatClampNeg).toInt < n.toNatClampNeg) (h2 : c2 = io_up (io_up c 108 5 (c 107 7)) 109 5 (c 107 8)) (hS : cS b0 (e + 1) c2 (c 100 n.toNatClampNeg) r1 c3) (h4 : c4 = io_up (io_up c3 108 5 (c 107 7)) 109 5 (c 107 8)) (h5 : ¬ c4 107 7 = 5) (hE : eS 148 147 3 b0 e c4 n (c 99 n.toNatClampNeg) r c') : mS b0 e c n F1 r c' := by
  intro P x0 x pv hP hF hR hO ho hF1 hK
  obtain ⟨s97, s98, s99, s100⟩ := nd_s hR hn
  rw [s100] at hc hS
  rw [s99] at hE
  have hcl := pz_cl n
  have h0 := hF.2.2.2.2.1
  have hPn := hF.2.2.2.2.2.2
  have g := hO.g0
  have e107 : c4 107 = c3 107 := by rw [h4, pu_ne (by decide), pu_ne (by decide)]
  rw [e107] at h5
  have c8 : c4 108 = ru (c3 108) 5 (c 107 7) := by rw [h4, pu_ne (by decide), pu_row]
  have c9 : c4 109 = ru (c3 109) 5 (c 107 8) := by rw [h4, pu_row, pu_ne (by decide)]
  have cc : ∀ k, k ≠ 108 → k ≠ 109 → c4 k = c3 k := fun k a b => by rw [h4, pu_ne b, pu_ne a]
  refine st_br hF hR hO ho hF1.1 (by rw [← s97]; exact hq) h2 hS (by omega) (by omega) (fun x' q1 q2 q3 q4 => absurd (q3.is5 q4).2.1 h5) (fun x' q1 q2 q3 q4 q5 q6 q7 q8 q9 => ?_)
  have e118 : x' 118 n.toNatClampNeg = 28 := by rw [q9.1 118 (by omega), ← s97]; exact hq
  have e120 : x' 120 = x 120 := q9.1 120 (by omega)
  have e144 : x' 144 P = 0 := q8.trans hF1.2
  have ttv : tv (x' 111 16) (x' 111 28) (c 107 7) (c 107 8) := by
    rw [g.2.1, g.2.2.1]
    exact (ho.tt g.1).mono q9.2.2.1 q9.2.2.2.1
  have val : oO 1 c3 x' → rLo pv x' := by
    intro hO3
    have g3 := hO3.g0
    refine lo_go q1 g3.1 (fun T k hPT hT hG => go_E hPT hT hG.in (by rw [e118]; decide) (fun t et => ?_))
    have hin := hG.in
    have hG' : rG b0 P n x0 600 k t := by rw [et]; exact hG.up (by omega)
    have rt : ∀ k, k ≠ 141 → t k = x' k := fun k q => by rw [et, pu_ne q]
    rw [e118, q5]
    refine ⟨fun z => absurd z (by decide), fun _ => ⟨fun z => absurd z (by decide), fun _ => ⟨fun z => absurd z (by decide), fun _ => ⟨fun z => absurd z (by decide), fun _ => ⟨fun z => absurd z (by decide), fun _ => ⟨fun z => absurd z (by decide), fun _ => ⟨fun _ => ⟨hT, fun u1 f1 => ⟨hT, fun u2 f2 => ⟨hT, i56, fun u3 f3 => ⟨hT, i56, fun u4 f4 => ⟨hin, ?_⟩⟩⟩⟩⟩, fun z => absurd rfl z⟩⟩⟩⟩⟩⟩⟩
    rw [hPT] at f1 f2 f3 f4
    rw [e5_5] at f3 f4
    have k1 : u1 111 = x' 111 := by rw [f1, pu_ne (by decide), rt 111 (by decide)]
    have k2 : u2 111 = x' 111 := by rw [f2, pu_ne (by decide), k1]
    rw [rt 111 (by decide)] at f1
    rw [k1] at f2
    have k3 : u2 142 P = c 107 8 := by rw [f2, pu_ne (by decide), f1, pu_ne (by decide), rt 142 (by decide)]; exact q6
    rw [k3] at f3
    have k4 : u3 143 P = c 107 7 := by rw [f3, pu_ne (by decide), f2, pu_ne (by decide), f1, pu_ne (by decide), rt 143 (by decide)]; exact q7
    rw [k4] at f4
    have v2 : ∀ k, k ≠ 141 → k ≠ 147 → k ≠ 148 → u2 k = x' k := fun k d f h => by rw [f2, pu_ne h, f1, pu_ne f, rt k d]
    have v4 : ∀ k, k ≠ 122 → k ≠ 123 → u4 k = u2 k := fun k a b => by rw [f4, pu_ne a, f3, pu_ne b]
    have e111 : u4 111 = x' 111 := by rw [v4 111 (by decide) (by decide), k2]
    have hG4 : rG b0 P n x0 600 k u4 := by
      have hG2 : rG b0 P n x0 600 k u2 := by rw [f2, f1]; exact (hG'.up (by omega)).up (by omega)
      rw [f4, f3]
      refine hG2.var' 5 (c 107 7) (c 107 8) ?_
      rw [k2]
      exact ttv
    have hRa : oR c3 u2 := q2.fr (fun _ _ _ => rfl) rfl (fun k a b => v2 k (by omega) (by omega) (by omega)) (fun j a => by rw [k2]) (Or.inr (q2.v (by rw [g3.1]; decide)))
    have hR4 : oR c4 u4 := hRa.var (A := 5) (s := c 107 7) (v := c 107 8) (by rw [k2]; exact g3.1) g.2.2.2 c8 c9 cc (by rw [f4, pu_row, f3, pu_ne (by decide)]) (by rw [f4, pu_ne (by decide), f3, pu_row]) v4
    have w141 : u4 141 P = 3 := by rw [v4 141 (by decide) (by decide), f2, pu_ne (by decide), f1, pu_ne (by decide), et, pu_self, q5]; rfl
    have w144 : u4 144 P = 0 := by rw [v4 144 (by decide) (by decide), v2 144 (by decide) (by decide) (by decide)]; exact e144
    have w147 : u4 147 P = x' 111 47 := by rw [v4 147 (by decide) (by decide), f2, pu_ne (by decide), f1, pu_self]
    have w148 : u4 148 P = x' 111 46 := by rw [v4 148 (by decide) (by decide), f2, pu_self]
    rw [v4 120 (by decide) (by decide), v2 120 (by decide) (by decide) (by decide), e120]
    refine hE P x0 u4 pv k hP hG4 hPn (by rw [e111]; exact g3.1) hR4 w141 (Or.inl ⟨w144, by rw [w148, e107]; exact g3.2.1, by rw [w147, e107]; exact g3.2.2.1, by rw [e107]; exact g3.2.2.2, ?_⟩) hK
    rw [e111, w148, w147]
    exact q4.tt g3.1
  have err : (x' 111 48 = 1 ∧ c3 107 7 = 3 ∧ c3 107 8 = x' 111 49 ∧ c3 107 9 = x' 111 50) ∨ (x' 111 48 = 2 ∧ c3 107 7 = 4 ∧ c3 107 8 = x' 111 49) → rLo pv x' := by
    intro hO3
    have hgo : x' 111 48 = 1 ∨ x' 111 48 = 2 := by
      rcases hO3 with q | q
      · exact Or.inl q.1
      · exact Or.inr q.1
    have hn3 : ¬ x' 111 48 = 3 := by rcases hgo with q | q <;> rw [q] <;> decide
    have n26 : ¬ x' 118 n.toNatClampNeg = 26 := by rw [e118]; decide
    have n27 : ¬ x' 118 n.toNatClampNeg = 27 := by rw [e118]; decide
    refine lo_un q1 hgo (fun T k hPT hT hG => ?_)
    have hin := hG.in
    unfold wp_X10_unwind
    rw [hPT, q1.2.1]
    refine ⟨hT, hin, hT, fun z => absurd z n26, fun _ => ⟨fun z => absurd z n27, fun _ => ⟨fun _ => ⟨fun _ => ⟨fun z => absurd z (by decide), fun _ => ⟨hT, fun u1 f1 => ⟨hT, fun u2 f2 => ⟨hT, fun u3 f3 u4 f4 => ⟨hT, fun u5 f5 => ⟨fun _ => ⟨hT, i56, fun u6 f6 => ⟨hT, i56, fun u7 f7 => ⟨hin, ?_⟩⟩⟩, fun z => absurd e118 z⟩⟩⟩⟩⟩⟩, fun z => absurd q5 z⟩, fun z => absurd e118 z⟩⟩⟩
    rw [hPT] at f1 f2 f3 f5 f6 f7
    rw [e5_5] at f6 f7
    have k1 : u1 111 = x' 111 := by rw [f1, pu_ne (by decide)]
    have k2 : u2 111 = x' 111 := by rw [f2, pu_ne (by decide), k1]
    have k3 : u3 111 = x' 111 := by rw [f3, pu_ne (by decide), k2]
    rw [k1] at f2
    rw [k2] at f3
    have rk : ∀ k, k ≠ 111 → k ≠ 141 → k ≠ 144 → k ≠ 145 → k ≠ 146 → u5 k = x' k := fun k a b d f h => by rw [f5, pu_ne b, f4, pu_ne a, f3, pu_ne h, f2, pu_ne f, f1, pu_ne d]
    have rs : ∀ j, j ≠ 48 → u5 111 j = x' 111 j := fun j a => by rw [f5, pu_ne (by decide), f4, pu_s a, k3]
    have k5 : u5 142 P = c 107 8 := by rw [rk 142 (by decide) (by decide) (by decide) (by decide) (by decide)]; exact q6
    rw [k5] at f6
    have k6 : u6 143 P = c 107 7 := by rw [f6, pu_ne (by decide), rk 143 (by decide) (by decide) (by decide) (by decide) (by decide)]; exact q7
    rw [k6] at f7
    have v7 : ∀ k, k ≠ 122 → k ≠ 123 → u7 k = u5 k := fun k a b => by rw [f7, pu_ne a, f6, pu_ne b]
    have e111 : u7 111 = u5 111 := v7 111 (by decide) (by decide)
    have g0 : u5 111 48 = 0 := by rw [f5, pu_ne (by decide), f4, pu_self]
    have hG5 : rG b0 P n x0 600 k u5 := by
      rw [f5, f4, f3, f2, f1]
      exact (((((hG.up (by omega)).up (by omega)).up (by omega)).goes).up (by omega))
    have hG7 : rG b0 P n x0 600 k u7 := by
      rw [f7, f6]
      refine hG5.var' 5 (c 107 7) (c 107 8) ?_
      rw [rs 16 (by decide), rs 28 (by decide)]
      exact ttv
    have hRa : oR c3 u5 := q2.fr (fun _ _ _ => rfl) rfl (fun k a b => rk k (by omega) (by omega) (by omega) (by omega) (by omega)) (fun j a => rs j (by omega)) (Or.inr (q2.v hn3))
    have hR7 : oR c4 u7 := hRa.var (A := 5) (s := c 107 7) (v := c 107 8) g0 g.2.2.2 c8 c9 cc (by rw [f7, pu_row, f6, pu_ne (by decide)]) (by rw [f7, pu_ne (by decide), f6, pu_row]) v7
    have w141 : u7 141 P = 3 := by rw [v7 141 (by decide) (by decide), f5, pu_self, q5]; rfl
    have w144 : u7 144 P = x' 111 48 := by rw [v7 144 (by decide) (by decide), f5, pu_ne (by decide), f4, pu_ne (by decide), f3, pu_ne (by decide), f2, pu_ne (by decide), f1, pu_self]
    have w145 : u7 145 P = x' 111 49 := by rw [v7 145 (by decide) (by decide), f5, pu_ne (by decide), f4, pu_ne (by decide), f3, pu_ne (by decide), f2, pu_self]
    have w146 : u7 146 P = x' 111 50 := by rw [v7 146 (by decide) (by decide), f5, pu_ne (by decide), f4, pu_ne (by decide), f3, pu_self]
    rw [v7 120 (by decide) (by decide), rk 120 (by decide) (by decide) (by decide) (by decide) (by decide), e120]
    refine hE P x0 u7 pv k hP hG7 hPn (by rw [e111]; exact g0) hR7 w141 ?_ hK
    unfold eF
    rw [e107]
    rcases hO3 with q | q
    · exact Or.inr (Or.inl ⟨by rw [w144]; exact q.1, q.2.1, by rw [w145]; exact q.2.2.1, by rw [w146]; exact q.2.2.2⟩)
    · exact Or.inr (Or.inr ⟨by rw [w144]; exact q.1, q.2.1, by rw [w145]; exact q.2.2⟩)
  rcases q3 with q | q | q | q
  · exact val (Or.inl ⟨rfl, q.2⟩)
  · exact err (Or.inl q.2)
  · exact err (Or.inr q.2)
  · exact absurd q.2.2.1 h5
end EV
