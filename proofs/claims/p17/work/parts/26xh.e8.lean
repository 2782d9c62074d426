def vSk (n y : Int32) (x : io_M) (p : Int32) (pv : io_M → Prop) : Prop := wp_X10_isOpen x n p (fun r s => (r = 0 → pv s) ∧ (¬ r = 0 → wp_X10_seek s n p y pv))
def vPt (n y : Int32) (x : io_M) (p : Int32) (pv : io_M → Prop) : Prop := wp_X10_isOpen x n p (fun r s => (r = 0 → pv s) ∧ (¬ r = 0 → wp_X10_putByte s n p y pv))
def gSk (n y : Int32) (x : io_M) (p : Int32) (pv : io_M → Prop) : Prop := (vp_in p 20 ∧ (((x 125 p.toNatClampNeg) = 2 → (wp_X10_fails x n 4 pv)) ∧ (¬ ((x 125 p.toNatClampNeg) = 2) → (vp_in p 20 ∧ (vp_in (x 124 p.toNatClampNeg) 8 ∧ (wp_X10_in x y 0 (x 113 ((x 124 p.toNatClampNeg)).toNatClampNeg) (fun r9 s10 => ((r9 = 0 → (wp_X10_fails s10 n 4 pv)) ∧ (¬ (r9 = 0) → (vp_in p 20 ∧ ∀ s13, s13 = io_up s10 126 p.toNatClampNeg y → (wp_X10_note s13 n (fun s16 => (wp_X10_gives s16 0 0 pv)))))))))))))
section EH
variable {c x c' x' c1 σ0 s : io_M} {post Q : Int32 → io_M → Prop} {pv : io_M → Prop} {i : Nat} {p y v n k r w : Int32} {b0 e m : Int} {P : Nat}
theorem vSk_n : vN (vSk n y) n := fun x p pv hi h0 hf => ⟨hi, fun q => absurd q h0, fun _ s1 e1 s2 e2 s3 e3 s4 e4 => ⟨fun _ => hf s1 e1 s2 e2 s3 e3 s4 e4, fun q => absurd rfl q⟩⟩
theorem vPt_n : vN (vPt n y) n := fun x p pv hi h0 hf => ⟨hi, fun q => absurd q h0, fun _ s1 e1 s2 e2 s3 e3 s4 e4 => ⟨fun _ => hf s1 e1 s2 e2 s3 e3 s4 e4, fun q => absurd rfl q⟩⟩
theorem vF_seek : vF (fun _ => True) (vSk n y) (gSk n y) n := fun x p pv T hi hm h0 hf h5 hg => ⟨hi, fun _ => ⟨fun q => absurd q (by decide), fun _ => hf _ (fun rr t hT => ⟨fun q => h5 t (by rw [q] at hT; exact hT), fun q => hg rr t q hT⟩)⟩, fun q => absurd h0 q⟩
theorem xd_seek (hi : i < 20) (hw : io_WI b0 (e + 1) c) (he : 0 ≤ e) (hp : ∀ r c', io_WI b0 e c' → io_Fr c c' → hS c i r c' (vSk n y) → post r c') : wp_X2_seek c i y (fun r s => wp_X8_act s n 0 r post) := by
  refine xk_flush hi hw trivial (vF_seek (n := n) (y := y)) vSk_n hp (fun s hws hF hS => ⟨fun _ => ?_, fun q => absurd rfl q⟩) (fun r s k hr hk hws hpost => ⟨fun q => by rw [q, l_0] at hr; omega, fun _ => xa_actF hws hr hk hpost⟩)
  have hfl := CI_f hws.1 hi
  have hf8 : 0 ≤ (s i 4).toInt ∧ (s i 4).toInt < 8 := ⟨hfl.1, by omega⟩
  have hlen := CI_91 hws.1 (s i 4).toNatClampNeg
  have z0 := l_0
  have hFr := hF.to3.toR
  have ill : (s i 5 = 2 ∨ ¬ (0 ≤ y.toInt ∧ y.toInt ≤ (s 91 (s i 4).toNatClampNeg).toInt)) → wp_X8_act s n 0 ((-1) - 4) post := by
    intro q
    refine xa_actF (k := 4) hws (by decide) (by decide) (fun a b => hp _ _ a (hFr.tr b) (hS _ _ ?_))
    intro b0 P σ0 x p pv hM hR hp1 h0 hlt st wt hk
    have hlt' := hx_i hp1 h0 hlt
    have hinp := hx_in hM.1 h0 hlt
    obtain ⟨a1, a2, a3, a4, a5, a6, a7⟩ := hR.2.1.2.2 i hlt'
    have d3 := (hR.1.1 _ (pn_8 hf8)).2.2.1
    rw [d3, a1, a2] at q
    rw [a1] at hf8
    have hf := en_fail hM (by omega) hR hk
    unfold gSk
    rw [hp1]
    refine ⟨hinp, fun _ => hf, fun q1 => ⟨hinp, pz_in (n := 8).mpr hf8, sr_in (fun _ => ⟨fun _ => hf, fun q => absurd rfl q⟩) (fun q2 => ?_)⟩⟩
    rcases q with q | q
    · exact absurd q q1
    · exact absurd ⟨by omega, q2.2⟩ q
  refine ⟨fun q => ill (Or.inl q), fun q1 => ⟨fun q => ill (Or.inr (fun t => by have := pz_lt.mp q; omega)), fun q2 => ⟨pz_in (n := 8).mpr hf8, fun q3 s14 e14 => ?_, fun q => ill (Or.inr (fun t => by have := pz_nle q; omega))⟩⟩⟩
  have hF5 : io_F2 s s14 := by rw [e14]; exact io_F2.rf.up (by omega)
  have hC5 : io_CI s14 := by rw [e14]; exact hws.1.up (ok_H hi (fun q => by omega) (fun q => by omega))
  have hw5 := hws.f3 hC5 hF5.to3
  refine xa_actG hw5 he (by rw [l_0]; omega) (fun c1 hN a b => hp _ _ a ((hFr.tr hF5.to3.toR).tr b) (hS _ _ ?_))
  intro b0 P σ0 x p pv hM hR hp1 h0 hlt st wt hk
  have hlt' := hx_i hp1 h0 hlt
  have hinp := hx_in hM.1 h0 hlt
  obtain ⟨a1, a2, a3, a4, a5, a6, a7⟩ := hR.2.1.2.2 i hlt'
  have d3 := (hR.1.1 _ (pn_8 hf8)).2.2.1
  have hy0 := pz_nlt q2
  have hy1 := pz_le.mp q3
  rw [d3, a1] at hy1
  rw [a1] at hf8
  rw [a2] at q1
  unfold gSk
  rw [hp1]
  refine ⟨hinp, fun q => absurd q q1, fun _ => ⟨hinp, pz_in (n := 8).mpr hf8, sr_in (fun q => absurd (show _ from ⟨by omega, hy1⟩) q) (fun _ => ⟨fun q => absurd q (by decide), fun _ => ⟨hinp, fun s13 e13 => ?_⟩⟩)⟩⟩
  have gx : ∀ k, k ≠ 126 → s13 k = x k := fun k a => by rw [e13, pu_ne a]
  have r126 : s13 126 = ru (x 126) i y := by rw [e13, pu_row]
  have hM13 : rM b0 P 41 σ0 s13 := ⟨rI_seek i y hM.1 r126 (fun k q => gx k (by omega)) (by rw [gx 111 (by decide)]) (by rw [gx 111 (by decide)]) (by omega) st, by rw [e13]; exact rX_up hM.2 (by omega)⟩
  have hR13 : oR s14 s13 := hR.pl (p := p) (w := y) hM hp1 hi hlt' (fun k q => by rw [e14, pu_ne q]) (by rw [e14, pu_self]) (fun j q1 q2 => by rw [e14, pu_same q2]) (fun k a _ => gx k a) r126
  exact en_ng (m := 40) hM13 (by omega) hR13 hN hk
theorem xd_lazy (hi : i < 20) (hw : io_WI b0 (e + 1) c) (hp : ∀ r c', io_WI b0 e c' → io_Fr c c' → hS c i r c' (vO n 7) → post r c') : wp_X6_begin c i (fun r s => wp_X8_settle s n 2 r post) := by
  have hw' := hw.le (e' := e) (by omega)
  have hlc := CI_lc hw.1
  have z20 := l_20
  have z0 := l_0
  have z1 := l_1
  have ill : (20 ≤ (c 103 1).toInt ∨ ¬ c i 7 = 0 ∨ ¬ c i 5 = 0) → wp_X8_settle c n 2 ((-1) - 4) post := by
    intro q
    refine xa_setF (k := 4) hw' (by decide) (by decide) (fun a b => hp _ _ a b ?_)
    by_cases h7 : c i 7 = 0
    · intro b0 P x p pv hM hR hp1 h0 hlt hk
      have hlt' := hx_i hp1 h0 hlt
      obtain ⟨a1, a2, a3, a4, a5, a6, a7⟩ := hR.2.1.2.2 i hlt'
      have hin := hx_in hM.1 h0 hlt
      have st : x 127 i = 0 := by rw [← a4]; exact h7
      refine vO_y hin (by rw [hp1]; exact st) ⟨fun q => absurd q (by decide), fun _ => ⟨fun _ => ⟨hin, fun q2 => ?_, fun _ => en_fail hM (by omega) hR hk⟩, fun q => absurd rfl q⟩⟩
      exfalso
      rw [hp1, ← a2] at q2
      rcases q with q | q | q
      · have l1 := hM.1.2.2.1.2.1
        have l2 := rc_strict (st := x 127) (p := i) (v := 1) (by decide) st (x 111 16).toInt.toNat (by omega)
        have l3 := rc_le (ru (x 127) i 1) (x 111 16).toInt.toNat
        have l4 := hR.2.1.2.1
        have l5 := hR.2.2.2.1.1
        rw [l5] at q
        omega
      · exact q h7
      · exact q q2
    · exact xk_ill h7 vO_n
  refine ⟨fun q => ill (Or.inl (by have := pz_le.mp q; omega)), fun q => ⟨fun h7 => ⟨fun h5 s4 e4 => ⟨fun q => absurd q (by decide), fun _ => ?_⟩, fun h5 => ⟨fun _ => ill (Or.inr (Or.inr h5)), fun q => absurd rfl q⟩⟩, fun h7 => ⟨fun _ => ill (Or.inr (Or.inl h7)), fun q => absurd rfl q⟩⟩⟩
  have hq := pz_nle q
  have e103 : s4 103 = c 103 := by rw [e4, pu_ne (by omega)]
  have hC4 : io_CI s4 := by rw [e4]; exact hw.1.up (ok_H hi (fun q => by omega) (fun q => by omega))
  have hv : vp_in (s4 103 1) 20 := pz_in.mpr (by rw [e103]; exact ⟨hlc.1, by show (c 103 1).toInt < 20; omega⟩)
  refine ⟨hv, fun s9 e9 s10 e10 s12 e12 => ?_⟩
  have hj := io_lt hv
  have hcl := pz_cl (c 103 1)
  rw [e103] at e9 e10 hj
  have e103' : s10 103 = c 103 := by rw [e10, pu_ne (by omega), e9, pu_ne (by omega), e103]
  have hC3 : io_CI s10 := by
    rw [e10, e9]
    exact (hC4.up (ok_L hj (fun _ => by rw [pz_nI (by omega)]; omega) (fun q => by omega))).up (ok_L hj (fun q => by omega) (fun _ => by omega))
  have hC12 : io_CI s12 := by rw [e12]; exact hC3.up (ok_103 (by rw [e103', pz_1 (by omega)]; omega))
  have hF12 : io_F3 c s12 := by
    rw [e12, e10, e9, e4]
    exact (((io_F3.rf.up (by omega)).up (by omega)).up (by omega)).up (by omega)
  have hw12 : io_WI b0 e s12 := (hw'.f3 hC12 hF12)
  have ev : s12 103 1 = c 103 1 + 1 := by rw [e12, pu_self, e103']
  have ev2 : (c 103 1 + 1 - 1).toInt = (c 103 1).toInt := by rw [pz_s1 (by rw [pz_1 (by omega)]; omega), pz_1 (by omega)]; omega
  show wp_X8_settle s12 n 2 (s12 103 1 - 1) post
  rw [ev]
  refine xa_setG hw12 (by rw [ev2]; exact hlc.1) (fun a b => hp _ _ a (hF12.toR.tr b) ?_)
  intro b0 P x p pv hM hR hp1 h0 hlt hk
  have hlt' := hx_i hp1 h0 hlt
  have hinp := hx_in hM.1 h0 hlt
  obtain ⟨a1, a2, a3, a4, a5, a6, a7⟩ := hR.2.1.2.2 i hlt'
  have st : x 127 i = 0 := by rw [← a4]; exact h7
  have l5 := hR.2.2.2.1.1
  have lr := hR.2.2.2.1.2.1
  rw [l5] at ev ev2 hq hk hcl hj e9 e10 hlc
  have hRs : oR s4 (io_up x 127 i 1) := by rw [e4]; exact hR.st hM hi hlt' (Or.inr ⟨rfl, by rw [st]; decide⟩)
  refine vO_y hinp (by rw [hp1]; exact st) ⟨fun q => absurd q (by decide), fun _ => ⟨fun _ => ⟨hinp, fun _ => ⟨hinp, fun t7 f7 => ?_⟩, fun q => absurd (by rw [hp1, ← a2]; exact h5) q⟩, fun q => absurd rfl q⟩⟩
  rw [hp1] at f7
  have g7 : t7 111 = x 111 := by rw [f7, pu_ne (by decide)]
  have hv7 : vp_in (t7 111 28) 20 := by rw [g7]; exact pz_in.mpr ⟨lr.1, by show (x 111 28).toInt < 20; omega⟩
  refine ⟨hv7, fun t9 f9 => ?_⟩
  rw [g7] at f9
  have g9 : t9 111 = x 111 := by rw [f9, pu_ne (by decide), g7]
  refine ⟨by rw [g9, ← g7]; exact hv7, fun t11 f11 => ?_⟩
  rw [g9] at f11
  have g11 : t11 111 = x 111 := by rw [f11, pu_ne (by decide), g9]
  refine ⟨by rw [g11, ← g7]; exact hv7, fun t13 f13 t15 f15 => ?_⟩
  rw [g11] at f13
  have g13 : t13 111 = x 111 := by rw [f13, pu_ne (by decide), g11]
  rw [g13] at f15
  have g28 : t15 111 28 = x 111 28 + 1 := by rw [f15, pu_self]
  have gs : ∀ j, j ≠ 28 → t15 111 j = x 111 j := fun j q => by rw [f15, pu_s q, g13]
  have gk : ∀ k, k ≠ 111 → k ≠ 127 → k ≠ 135 → k ≠ 136 → k ≠ 138 → t15 k = x k := fun k q1 q2 q3 q4 q5 => by rw [f15, pu_ne q1, f13, pu_ne q5, f11, pu_ne q4, f9, pu_ne q3, f7, pu_ne q2]
  have r127 : t15 127 = ru (x 127) i 1 := by rw [f15, pu_ne (by decide), f13, pu_ne (by decide), f11, pu_ne (by decide), f9, pu_ne (by decide), f7, pu_row]
  have r135 : t15 135 = ru (x 135) (x 111 28).toNatClampNeg p := by rw [f15, pu_ne (by decide), f13, pu_ne (by decide), f11, pu_ne (by decide), f9, pu_row, f7, pu_ne (by decide)]
  have r136 : t15 136 = ru (x 136) (x 111 28).toNatClampNeg 0 := by rw [f15, pu_ne (by decide), f13, pu_ne (by decide), f11, pu_row, f9, pu_ne (by decide), f7, pu_ne (by decide)]
  have r138 : t15 138 = ru (x 138) (x 111 28).toNatClampNeg 0 := by rw [f15, pu_ne (by decide), f13, pu_row, f11, pu_ne (by decide), f9, pu_ne (by decide), f7, pu_ne (by decide), vz_0]
  have e28 := pz_1 (x := x 111 28) (by omega)
  have hM15 : rM b0 P 41 x t15 := by
    refine ⟨rI_lazy i p hM.1 hp1.symm ⟨h0, hlt⟩ r127 r135 r136 (fun k q => gk k (by omega) (by omega) (by omega) (by omega) (by omega)) (gs 16 (by decide)) (by rw [g28, e28]) st, rX_cg hM.2 (fun k q => gk k (by omega) (by omega) (by omega) (by omega) (by omega)) (fun j q => gs j (by omega)) (by rw [gs 16 (by decide)]; exact Int.le_refl _) (by rw [g28, e28]; omega)⟩
  have gA : ∀ k, k ≠ 111 → k ≠ 135 → k ≠ 136 → k ≠ 138 → t15 k = (io_up x 127 i 1) k := fun k q1 q3 q4 q5 => by
    by_cases q2 : k = 127
    · rw [q2, r127, pu_row]
    · rw [gk k q1 q2 q3 q4 q5, pu_ne q2]
  have gB : ∀ j, j ≠ 28 → t15 111 j = (io_up x 127 i 1) 111 j := fun j q => by rw [gs j q, pu_ne (by decide)]
  have gC : ∀ k, k ≠ 40 + (x 111 28).toNatClampNeg → k ≠ 103 → s12 k = s4 k := fun k q1 q2 => by rw [e12, pu_ne q2, e10, pu_ne q1, e9, pu_ne q1]
  have hR15 : oR s12 t15 := by
    obtain ⟨r1, r2, r3, r4, r5, r6, r7, r8, r9⟩ := hRs
    refine ⟨r1.cg (fun k a b => gC k (by omega) (by omega)) (fun k a b => gA k (by omega) (by omega) (by omega) (by omega)), r2.cg (fun k a => gC k (by omega) (by omega)) (by rw [gC 101 (by omega) (by decide)]) (gB 16 (by decide)) (fun k a => gA k (by omega) (by omega) (by omega) (by omega)), r3.cg (gB 16 (by decide)) (fun k a => gA k (by omega) (by omega) (by omega) (by omega)), ?_, r5.cg (by rw [gC 105 (by omega) (by decide)]) (gC 106 (by omega) (by decide)) (gB 33 (by decide)) (gA 139 (by decide) (by decide) (by decide) (by decide)), r6.cg (gC 93 (by omega) (by decide)) (gC 94 (by omega) (by decide)) (gC 95 (by omega) (by decide)) (fun j a => gB j (by omega)) (gA 116 (by decide) (by decide) (by decide) (by decide)) (gA 117 (by decide) (by decide) (by decide) (by decide)), r7.cg (fun k a b => gC k (by omega) (by omega)) (gB 9 (by decide)) (fun k a b => gA k (by omega) (by omega) (by omega) (by omega)), by rw [gC 107 (by omega) (by decide), gB 35 (by decide)]; exact r8, ?_⟩
    · refine ⟨by rw [ev, g28], by rw [g28, e28]; omega, fun l hl => ?_⟩
      rw [g28, e28] at hl
      rw [r127, r135, r136, r138, gk 137 (by decide) (by decide) (by decide) (by decide) (by decide)]
      by_cases t : l = (x 111 28).toNatClampNeg
      · rw [t, ru_self, ru_self, ru_self]
        refine ⟨?_, ?_, fun i' hi' => by omega, fun q => absurd rfl q⟩
        · rw [e12, pu_ne (by omega), e10, pu_same (by decide), e9, pu_self, ← hp1]
          exact (pz_nI_of h0).symm
        · rw [e12, pu_ne (by omega), e10, pu_self]
      · rw [ru_ne t, ru_ne t, ru_ne t]
        have q1 := r4.2.2 l (by rw [pu_ne (by decide)]; omega)
        rw [pu_row, pu_ne (k' := 135) (by decide), pu_ne (k' := 136) (by decide), pu_ne (k' := 137) (by decide), pu_ne (k' := 138) (by decide)] at q1
        rw [gC (40 + l) (by omega) (by omega), gC (20 + (40 + l)) (by omega) (by omega)]
        exact q1
    · rcases r9 with q | q
      · rw [pu_ne (by decide), hM.2.2.2.1.2] at q; exact absurd q (by decide)
      · exact Or.inr (q.cg (gC 108 (by omega) (by decide)) (gC 109 (by omega) (by decide)) (gA 122 (by decide) (by decide) (by decide) (by decide)) (gA 123 (by decide) (by decide) (by decide) (by decide)))
  rw [g28]
  refine en_give hM15 (by omega) hR15 ⟨fun q => absurd q (by decide), fun _ => ?_⟩ (Or.inr (Or.inr rfl)) hk
  rw [g28, e28, ev2]
  omega
end EH
