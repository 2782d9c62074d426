section ET
variable {K : io_M → Int32 → Int32 → (Int32 → io_M → Prop) → Prop} {b0 e d lim : Int} {P Q k A : Nat} {m : Int} {c c' c1 c2 x x0 x' t : io_M} {n a r r1 T v s w k0 p1 p2 p3 q1 y : Int32} {pv Z : io_M → Prop} {post : Int32 → io_M → Prop}
/-- the node goes, with its part's value -/
theorem lo_gopop (hK : ∀ x', rQ b0 P x0 x' → oR c' x' → oO 1 c' x' → rLo pv x') (h : fF b0 P n x0 x) (hR : oR c' x) (hO : oO 1 c' x) (ho : rOut x) (hq : (x 118 n.toNatClampNeg = 19 ∧ x 141 P = 2) ∨ (x 118 n.toNatClampNeg = 20 ∧ x 141 P = 2) ∨ (x 118 n.toNatClampNeg = 26 ∧ ¬ x 141 P = 0)) : rLo pv x := by
  have g := hO.g0
  refine lo_go h g.1 (fun T k hPT hT hG => ?_)
  have pop : ∀ t, t = io_up x 141 P (x 141 P + 1) → ∀ u, u = io_up t 111 38 ((t 111 38) - 1) → wl_X10_work_0 k u pv := by
    intro t et u eu
    have hG' : rG b0 P n x0 600 k t := by rw [et]; exact hG.up (by omega)
    have r1 : t 111 = x 111 := by rw [et, pu_ne (by decide)]
    refine lo_pop hK hG' (by rw [et]; exact hR.fm g.1 (by omega)) ?_ ?_ u eu
    · unfold oO; rw [r1]; exact hO
    · unfold rOut; rw [r1]; exact ho
  rcases hq with ⟨q, st⟩ | ⟨q, st⟩ | ⟨q, st⟩
  · refine go_P hPT hT hG.in (by rw [q]; decide) (fun t et => ?_)
    rw [q, st]
    exact ⟨fun z => absurd z (by decide), fun _ => ⟨fun _ => ⟨fun z => absurd z (by decide), fun _ => pop t et⟩, fun z => absurd rfl z⟩⟩
  · refine go_P hPT hT hG.in (by rw [q]; decide) (fun t et => ?_)
    rw [q, st]
    exact ⟨fun z => absurd z (by decide), fun _ => ⟨fun z => absurd z (by decide), fun _ => ⟨fun _ => ⟨fun _ => pop t et, fun z => absurd rfl z⟩, fun z => absurd rfl z⟩⟩⟩
  · refine go_E hPT hT hG.in (by rw [q]; decide) (fun t et => ?_)
    rw [q]
    exact ⟨fun z => absurd z (by decide), fun _ => ⟨fun z => absurd z st, fun _ => ⟨fun z => absurd z (by decide), fun _ => ⟨fun _ => pop t et, fun z => absurd rfl z⟩⟩⟩⟩
/-- if and then: the second part is the node's end -/
theorem mS_q (hn : io_nd c n) (hq : (c 97 n.toNatClampNeg = 19 ∧ a = c 99 n.toNatClampNeg) ∨ (c 97 n.toNatClampNeg = 20 ∧ c 107 7 = 0 ∧ ((c 107 8 = 0 ∧ a = c 100 n.toNatClampNeg) ∨ (¬ c 107 8 = 0 ∧ a = c 99 n.toNatClampNeg)))) (ha : 0 ≤ a.toInt ∧ a.toInt < n.toNatClampNeg) (hS : cS b0 (e + 1) c a r c') : mS b0 e c n F1 r c' := by
  intro P x0 x pv hP hF hR hO ho hF1 hK
  have g := hO.g0
  obtain ⟨s97, s98, s99, s100⟩ := nd_s hR hn
  have h0 := hF.2.2.2.2.1
  have hcl := pz_cl n
  have hc : x 118 n.toNatClampNeg = 19 ∨ x 118 n.toNatClampNeg = 20 := by
    rw [← s97]
    rcases hq with q | q
    · exact Or.inl q.1
    · exact Or.inr q.1
  refine st_q (st := 2) hF g.1 hR (fun T k t hPT hT hin et hb => ?_) (by rw [hF1.1]; rfl) hS (by omega) (by omega) hK (fun x' q1 q2 q3 q4 q5 q6 => ?_)
  · have r : ∀ k, k ≠ 141 → t k = x k := fun k q => by rw [et, pu_ne q]
    rcases hq with ⟨q, ea⟩ | ⟨q, h7, ea⟩
    · refine go_P hPT hT hin (by rw [← s97, q]; decide) (fun t' et' => ?_)
      rw [et'.trans et.symm, hF1.1, ← s97, q]
      refine ⟨fun z => absurd z (by decide), fun _ => ⟨fun _ => ⟨fun _ => ⟨hin, ?_⟩, fun z => absurd rfl z⟩, fun z => absurd rfl z⟩⟩
      rw [r 120 (by decide), ← s99, ← ea]
      exact hb
    · refine go_P hPT hT hin (by rw [← s97, q]; decide) (fun t' et' => ?_)
      rw [et'.trans et.symm, hF1.1, ← s97, q]
      refine ⟨fun z => absurd z (by decide), fun _ => ⟨fun z => absurd z (by decide), fun _ => ⟨fun _ => ⟨fun z => absurd z (by decide), fun _ => ⟨fun _ => ⟨fun z => absurd z (by decide), fun _ => ?_⟩, fun z => absurd (by rw [r 111 (by decide), ← g.2.1]; exact h7) z⟩⟩, fun z => absurd rfl z⟩⟩⟩
      rw [r 111 (by decide), ← g.2.2.1, r 120 (by decide), r 121 (by decide), ← s99, ← s100]
      rcases ea with ⟨z, ea⟩ | ⟨z, ea⟩
      · exact ⟨fun _ => ⟨hin, by rw [← ea]; exact hb⟩, fun u => absurd z u⟩
      · exact ⟨fun u => absurd u z, fun _ => ⟨hin, by rw [← ea]; exact hb⟩⟩
  · have e118 : x' 118 = x 118 := q6.1 118 (by omega)
    rcases q3.r01 with hr | hr
    · rw [hr] at q3 hK
      refine lo_prop hK q1 q2 q3 q4 (fun z => ?_) (fun z => ?_) (fun z => ?_)
      · rw [e118] at z; rw [z] at hc; exact absurd hc (by decide)
      · rw [e118] at z; rw [z] at hc; exact absurd hc (by decide)
      · rw [e118] at z; rw [z] at hc; exact absurd hc (by decide)
    · rw [hr] at q3 hK
      refine lo_gopop hK q1 q2 q3 q4 ?_
      rw [e118]
      rcases hc with z | z
      · exact Or.inl ⟨z, q5⟩
      · exact Or.inr (Or.inl ⟨z, q5⟩)
/-- a variable is set on both sides -/
theorem oR.var (hR : oR c x) (hg : x 111 48 = 0) (hs : s = 0 ∨ s = 1 ∨ s = 2) (c8 : c' 108 = ru (c 108) A s) (c9 : c' 109 = ru (c 109) A v) (hc : ∀ k, k ≠ 108 → k ≠ 109 → c' k = c k) (x2 : x' 122 = ru (x 122) A s) (x3 : x' 123 = ru (x 123) A v) (hx : ∀ k, k ≠ 122 → k ≠ 123 → x' k = x k) : oR c' x' := by
  have hv := hR.v (by rw [hg]; decide)
  obtain ⟨r1, r2, r3, r4, r5, r6, r7, r8, r9⟩ := hR
  have gc : ∀ k, k < 108 → c' k = c k := fun k a => hc k (by omega) (by omega)
  have e111 : x' 111 = x 111 := hx 111 (by decide) (by decide)
  refine ⟨r1.cg (fun k a b => gc k (by omega)) (fun k a b => hx k (by omega) (by omega)), r2.cg (fun k a => gc k (by omega)) (by rw [gc 101 (by omega)]) (by rw [e111]) (fun k a => hx k (by omega) (by omega)), r3.cg (by rw [e111]) (fun k a => hx k (by omega) (by omega)), r4.cg (fun k a b => gc k (by omega)) (by rw [gc 103 (by omega)]) (by rw [e111]) (fun k a => hx k (by omega) (by omega)), r5.cg (by rw [gc 105 (by omega)]) (gc 106 (by omega)) (by rw [e111]) (hx 139 (by decide) (by decide)), r6.cg (gc 93 (by omega)) (gc 94 (by omega)) (gc 95 (by omega)) (fun j a => by rw [e111]) (hx 116 (by decide) (by decide)) (hx 117 (by decide) (by decide)), r7.cg (fun k a b => gc k (by omega)) (by rw [e111]) (fun k a b => hx k (by omega) (by omega)), by rw [gc 107 (by omega), e111]; exact r8, Or.inr (fun j hj => ?_)⟩
  rw [c8, c9, x2, x3]
  by_cases t : j = A
  · rw [t, ru_self, ru_self, ru_self, ru_self]
    exact ⟨rfl, rfl, hs⟩
  · rw [ru_ne t, ru_ne t, ru_ne t, ru_ne t]
    exact hv j hj
theorem kx_set (hK : kS b0 (e + 1) lim K) (hd : p2.toInt = e + 1) (he : 0 ≤ e ∧ e ≤ 59) (hl : lim ≤ e + 2) (hw : io_WI b0 (e + 1) c) (hn : io_nd c n) (hq : c 97 n.toNatClampNeg = 2) (ha : 0 ≤ (c 98 n.toNatClampNeg).toInt ∧ (c 98 n.toNatClampNeg).toInt < 6) (hb : 0 ≤ (c 99 n.toNatClampNeg).toInt ∧ (c 99 n.toNatClampNeg).toInt < n.toNatClampNeg) (hp : ∀ r c', io_WI b0 e c' → io_Fr c c' → nS b0 e c n r c' → post r c') : wp_X8_workSet K c n p2 post := by
  have hin := hn.in hw.2.1
  have hi6 := pz_in (n := 6).mpr ha
  -- the part is begun
  have first : ∀ (r1 : Int32) (c1 : io_M) (P : Nat) (x : io_M) (pv : io_M → Prop), cS b0 (e + 1) c (c 99 n.toNatClampNeg) r1 c1 → (P : Int) = e → fF b0 P n x x → x 111 48 = 0 → x 141 P = 0 → oR c x → (∀ x', rQ b0 P x x' → oR c1 x' → oO r1 c1 x' → x' 111 48 = 3 → rLo pv x') → (∀ x', fF b0 P n x x' → oR c1 x' → oO r1 c1 x' → rOut x' → x' 141 P = 1 → rMo x x' → rLo pv x') → rLo pv x := by
    intro r1 c1 P x pv hS hP hF hg h141 hR h3 hnx
    obtain ⟨s97, s98, s99, s100⟩ := nd_s hR hn
    rw [s99] at hS hb
    have hcl := pz_cl n
    have h0 := hF.2.2.2.2.1
    refine lo_go hF hg (fun T k hPT hT hG => ?_)
    unfold wp_X10_go
    rw [hPT]
    refine ⟨hT, hT, fun t et => ?_⟩
    have hG' : rG b0 P n x 600 k t := by rw [et]; exact hG.up (by omega)
    have r : ∀ k, k ≠ 141 → t k = x k := fun k q => by rw [et, pu_ne q]
    have hmo : rMo x t := by rw [et]; exact rMo.fm (by omega)
    rw [r 118 (by decide), ← s97, hq, h141]
    refine ⟨hin, fun z => absurd z (by decide), fun _ => ⟨fun z => absurd z (by decide), fun _ => ⟨fun _ => ⟨fun _ => ⟨hin, ?_⟩, fun z => absurd rfl z⟩, fun z => absurd rfl z⟩⟩⟩
    rw [r 120 (by decide)]
    exact lo_call hG' hF.2.2.2.2.2.2 (by rw [r 111 (by decide)]; exact hg) (by rw [et]; exact hR.fm hg (by omega)) hS (by omega) (by omega) h3 (fun x' q1 q2 q3 q4 q5 q6 q7 => hnx x' q1 q2 q3 q4 (by rw [q5 141 (by omega), et, pu_self, h141]; rfl) (hmo.tr q6))
  refine ⟨hin, kx_call hK hd he hl hw (nd_lt hn hb) (fun r1 c1 a b hS => ⟨fun h0 => hp _ _ (a.le (by omega)) b ?_, fun h1 => ⟨(hn.of b).in a.2.1, ?_⟩⟩)⟩
  · rw [h0] at hS
    intro P x pv hP hSx hg h140 h141 h144 hPn hn0 hn1 hR hKf
    have hF : fF b0 P n x x := ⟨hSx, h140, rMo.rf, rFr.rf, hn0, hn1, hPn⟩
    obtain ⟨s97, s98, s99, s100⟩ := nd_s hR hn
    refine first 0 c1 P x pv hS hP hF hg h141 hR (fun x' q1 q2 q3 _ => hKf x' q1 q2 q3) (fun x' q1 q2 q3 q4 q5 q6 => lo_prop hKf q1 q2 q3 q4 (fun z => ?_) (fun z => ?_) (fun z => ?_))
    · rw [q6.1 118 (by omega), ← s97, hq] at z; exact absurd z (by decide)
    · rw [q6.1 118 (by omega), ← s97, hq] at z; exact absurd z (by decide)
    · rw [q6.1 118 (by omega), ← s97, hq] at z; exact absurd z (by decide)
  · have hS := hS.one h1
    have e98 : c1 98 = c 98 := b.2.1 98 (by omega) (by omega)
    rw [e98]
    refine ⟨hi6, fun s2 e2 => ⟨hi6, fun s4 e4 => ?_⟩⟩
    have hF4 : io_Fr c s4 := by rw [e4, e2]; exact (b.up (by omega)).up (by omega)
    have hw4 : io_WI b0 e s4 := by rw [e4, e2]; exact ((a.w (by omega)).w (by omega)).le (by omega)
    refine hp _ _ hw4 hF4 ?_
    intro P x pv hP hSx hg h140 h141 h144 hPn hn0 hn1 hR hKf
    have hF : fF b0 P n x x := ⟨hSx, h140, rMo.rf, rFr.rf, hn0, hn1, hPn⟩
    obtain ⟨s97, s98, s99, s100⟩ := nd_s hR hn
    refine first 1 c1 P x pv hS hP hF hg h141 hR (fun x' q1 q2 q3 q4 => ?_) (fun x' q1 q2 q3 q4 q5 q6 => ?_)
    · have := q3.g0.1
      rw [q4] at this
      exact absurd this (by decide)
    · have g := q3.g0
      have e119 : x' 119 n.toNatClampNeg = c 98 n.toNatClampNeg := by rw [q6.1 119 (by omega), ← s98]
      refine lo_go q1 g.1 (fun T k hPT hT hG => ?_)
      unfold wp_X10_go
      rw [hPT]
      refine ⟨hT, hT, fun t et => ?_⟩
      have hG' : rG b0 P n x 600 k t := by rw [et]; exact hG.up (by omega)
      have r : ∀ k, k ≠ 141 → t k = x' k := fun k q => by rw [et, pu_ne q]
      have hRt : oR c1 t := by rw [et]; exact q2.fm g.1 (by omega)
      rw [r 118 (by decide), q6.1 118 (by omega), ← s97, hq, q5]
      refine ⟨hin, fun z => absurd z (by decide), fun _ => ⟨fun z => absurd z (by decide), fun _ => ⟨fun _ => ⟨fun z => absurd z (by decide), fun _ => ⟨hin, ?_, fun u1 f1 => ⟨hin, ?_, fun u2 f2 u3 f3 => ?_⟩⟩⟩, fun z => absurd rfl z⟩⟩⟩
      · rw [r 119 (by decide), e119]; exact hi6
      · rw [f1, pu_ne (by decide), r 119 (by decide), e119]; exact hi6
      · rw [r 119 (by decide), e119, r 111 (by decide)] at f1
        have g1 : u1 119 n.toNatClampNeg = c 98 n.toNatClampNeg := by rw [f1, pu_ne (by decide), r 119 (by decide), e119]
        have g2 : u1 111 = x' 111 := by rw [f1, pu_ne (by decide), r 111 (by decide)]
        rw [g1, g2] at f2
        have tt := q4.tt g.1
        have hG2 : rG b0 P n x 600 k u2 := by
          rw [f2, f1]
          exact hG'.var _ _ _ (by rw [r 111 (by decide)]; exact tt)
        have r111 : u2 111 = x' 111 := by rw [f2, pu_ne (by decide), g2]
        have gk : ∀ k, k ≠ 122 → k ≠ 123 → u2 k = t k := fun k a b => by rw [f2, pu_ne b, f1, pu_ne a]
        have g0 : t 111 48 = 0 := by rw [r 111 (by decide)]; exact g.1
        have e107 : s4 107 = c1 107 := by rw [e4, pu_ne (by decide), e2, pu_ne (by decide)]
        have e2' : s2 107 = c1 107 := by rw [e2, pu_ne (by decide)]
        refine lo_pop hKf hG2 (hRt.var (A := (c 98 n.toNatClampNeg).toNatClampNeg) (s := c1 107 7) (v := c1 107 8) g0 g.2.2.2 ?_ ?_ (fun k a b => by rw [e4, pu_ne b, e2, pu_ne a]) ?_ ?_ gk) ?_ ?_ u3 f3
        · rw [e4, pu_ne (by decide), e2, pu_row]
        · rw [e4, pu_row, e2, pu_ne (by decide)]
        · rw [f2, pu_ne (by decide), f1, pu_row, g.2.1]
        · rw [f2, pu_row, f1, pu_ne (by decide), g.2.2.1]
        · unfold oO; rw [r111, e107]; exact q3
        · unfold rOut; rw [r111]; exact q4
end ET
