section EI
variable {c x c' x' c1 σ0 s : io_M} {post Q : Int32 → io_M → Prop} {pv : io_M → Prop} {i : Nat} {p y v n k r w : Int32} {b0 e m : Int} {P : Nat}
/-- is a flush due? -/
def duC (k w l : Int32) : Prop := (k = 1 ∧ (l = 10 ∨ ¬ w < 20)) ∨ k = 0 ∨ (¬ k = 1 ∧ ¬ k = 0 ∧ ¬ w < k)
theorem xp_due (h1 : duC (c i 3) (c i 2) v → post 1 c) (h0 : ¬ duC (c i 3) (c i 2) v → post 0 c) : wp_X2_isDue c i v post := by
  refine ⟨fun q => ⟨fun t => h1 (Or.inl ⟨q, Or.inl t⟩), fun t => ⟨fun u => h0 (fun d => ?_), fun u => h1 (Or.inl ⟨q, Or.inr u⟩)⟩⟩, fun q => ⟨fun t => h1 (Or.inr (Or.inl t)), fun t => ⟨fun u => h0 (fun d => ?_), fun u => h1 (Or.inr (Or.inr ⟨q, t, u⟩))⟩⟩⟩
  · rcases d with ⟨_, d | d⟩ | d | d
    · exact t d
    · exact d u
    · rw [q] at d; exact absurd d (by decide)
    · exact d.1 q
  · rcases d with d | d | d
    · exact q d.1
    · exact t d
    · exact d.2.2 u
theorem xd_put (hi : i < 20) (hw : io_WI b0 (e + 1) c) (he : 0 ≤ e) (hp : ∀ r c', io_WI b0 e c' → io_Fr c c' → hS c i r c' (vPt n y) → post r c') : wp_X2_put c i y (fun r s => wp_X8_act s n 0 r post) := by
  have hwc := CI_w hw.1 hi
  have z20 := l_20
  have z0 := l_0
  have z1 := l_1
  have ill : c i 7 = 0 → (c i 5 = 0 ∨ 20 ≤ (c i 2).toInt) → wp_X8_act c n 0 ((-1) - 4) post := by
    intro h7 q
    refine xa_actF (k := 4) hw (by decide) (by decide) (fun a b => hp _ _ a b ?_)
    intro b0 P x p pv hM hR hp1 h0 hlt hk
    have hlt' := hx_i hp1 h0 hlt
    have hin := hx_in hM.1 h0 hlt
    obtain ⟨a1, a2, a3, a4, a5, a6, a7⟩ := hR.2.1.2.2 i hlt'
    refine ⟨hin, fun _ => ⟨fun q => absurd q (by decide), fun _ => ⟨hin, fun _ => en_fail hM (by omega) hR hk, fun q2 => ?_⟩⟩, fun q => absurd (by rw [hp1, ← a4]; exact h7) q⟩
    exfalso
    rw [hp1, ← a2] at q2
    rcases q with q | q
    · exact q2 q
    · have g := (hM.1.2.1.2 i hlt').2.2.2.2.2 (by omega)
      rw [a6] at q
      omega
  refine ⟨fun h7 => ⟨fun h5 => ⟨fun _ => ill h7 (Or.inl h5), fun q => absurd rfl q⟩, fun h5 => ⟨fun q => absurd q (by decide), fun _ => ⟨fun q20 => ⟨pz_in.mpr ⟨hwc.1, by have := pz_lt.mp q20; show (c i 2).toInt < 20; omega⟩, fun s12 e12 s14 e14 s16 e16 => ?_⟩, fun q => ill h7 (Or.inr (by have := pz_nlt q; omega))⟩⟩⟩, fun h7 => xa_actF (k := 4) hw (by decide) (by decide) (fun a b => hp _ _ a b (xk_ill h7 vPt_n))⟩
  have hq20 := pz_lt.mp q20
  have f12 : s12 i = c i := by rw [e12, pu_ne (by omega)]
  have gC : ∀ k, k ≠ i → k ≠ 20 + i → s16 k = c k := fun k q1 q2 => by rw [e16, pu_ne q1, e14, pu_ne q1, e12, pu_ne q2]
  have gB : s16 (20 + i) = ru (c (20 + i)) (c i 2).toNatClampNeg (y &&& 255) := by rw [e16, pu_ne (by omega), e14, pu_ne (by omega), e12, pu_row]
  have gj : ∀ j, j ≠ 2 → j ≠ 8 → s16 i j = c i j := fun j q1 q2 => by rw [e16, pu_same q2, e14, pu_same q1, f12]
  have g2 : s16 i 2 = c i 2 + 1 := by rw [e16, pu_same (by decide), e14, pu_self, f12]
  have hF16 : io_F2 c s16 := ⟨gC 90 (by omega) (by omega), fun k a b => gC k (by omega) (by omega), fun k a => gC k (by omega) (by omega)⟩
  have ew := pz_1 (x := c i 2) (by omega)
  have hC16 : io_CI s16 := by
    rw [e16, e14, e12]
    refine ((hw.1.up (ok_B hi)).up (ok_H hi (fun _ => ?_) (fun q => by omega))).up (ok_H hi (fun q => by omega) (fun q => by omega))
    rw [pu_ne (by omega), ew]; omega
  have hw16 := hw.f3 hC16 hF16.to3
  have hFr := hF16.to3.toR
  have sim : ∀ (b0 : Int) (P : Nat) (x : io_M) (p : Int32) (pv : io_M → Prop), rM b0 P 41 x x → oR c x → p.toNatClampNeg = i → 0 ≤ p.toInt → p.toInt < (x 111 16).toInt → (duC (s16 i 3) (s16 i 2) (y &&& 255) → ∀ x7, rI i x7 → rX b0 P 41 x x7 → oR s16 x7 → x7 127 i = 0 → x7 111 = x 111 → wj_X10_putByte_111 x7 n p pv) → (¬ duC (s16 i 3) (s16 i 2) (y &&& 255) → ∀ x7, rM b0 P 41 x x7 → oR s16 x7 → wj_X10_putByte_115 x7 n p pv) → vPt n y x p pv := by
    intro b0 P x p pv hM hR hp1 h0 hlt hd hn
    have hlt' := hx_i hp1 h0 hlt
    have hin := hx_in hM.1 h0 hlt
    have hcl := pz_cl p
    obtain ⟨a1, a2, a3, a4, a5, a6, a7⟩ := hR.2.1.2.2 i hlt'
    obtain ⟨k1, k2, k3, k4, k5, k6⟩ := hM.1.2.1.2 i hlt'
    have k6 := k6 (by omega)
    rw [a6] at ew gB g2
    have a5' : s16 i 3 = x 129 i := by rw [gj 3 (by decide) (by decide)]; exact a5
    have i21 := pn_21 (f := p) (p := x 130 i) (by have := hR.2.1.2.1; omega) (by omega)
    have e21 := pz_21 (x := p) (y := x 130 i) (by have := hR.2.1.2.1; omega) (by omega)
    rw [hp1] at i21
    have hwcl := pz_cl (x 130 i)
    unfold vPt wp_X10_isOpen wp_X10_putByte
    rw [hp1]
    refine ⟨hin, fun _ => ⟨fun q => absurd q (by decide), fun _ => ⟨hin, fun q => absurd (a2.trans q) h5, fun _ => ⟨hin, pz_in.mpr ?_, fun s3 e3 => ⟨hin, hin, fun s5 e5 => ⟨hin, hin, fun s7 e7 => ?_⟩⟩⟩⟩⟩, fun q => absurd (a4.symm.trans h7) q⟩
    · rw [e21]; have := hR.2.1.2.1; show _ ∧ _ < (400 : Int); omega
    · rw [i21] at e3
      have r3 : ∀ k, k ≠ 131 → s3 k = x k := fun k a => by rw [e3, pu_ne a]
      have r130 : s7 130 = ru (x 130) i (x 130 i + 1) := by rw [e7, pu_ne (by decide), e5, pu_row, r3 130 (by decide)]
      have r131 : s7 131 = ru (x 131) (20 * i + (x 130 i).toNatClampNeg) y.toInt8.toInt32.toInt8.toInt32 := by rw [e7, pu_ne (by decide), e5, pu_ne (by decide), e3, pu_row]
      have rk : ∀ k, k ≠ 130 → k ≠ 131 → k ≠ 132 → s7 k = x k := fun k a b c => by rw [e7, pu_ne c, e5, pu_ne a, r3 k b]
      have e129 : s7 129 = x 129 := rk 129 (by decide) (by decide) (by decide)
      have e111 : s7 111 = x 111 := rk 111 (by decide) (by decide) (by decide)
      have e127 : s7 127 = x 127 := rk 127 (by decide) (by decide) (by decide)
      have ew7 : s7 130 i = x 130 i + 1 := by rw [r130, ru_self]
      have hI : rI i s7 := rI_wait (e := i) i _ (by
          obtain ⟨hD, hH, hL, hV⟩ := hM.1
          exact (⟨hD, ⟨hH.1, fun h hh => ⟨(hH.2 h hh).1, (hH.2 h hh).2.1, (hH.2 h hh).2.2.1, (hH.2 h hh).2.2.2.1, (hH.2 h hh).2.2.2.2.1, fun _ => (hH.2 h hh).2.2.2.2.2 (by have := hH.1; omega)⟩⟩, hL, hV⟩ : rI i x)) r130 (fun k q => rk k (by omega) (by omega) (by omega)) (by rw [e111]) (by rw [e111]) (Or.inl rfl) (fun _ => ⟨k4, by omega, fun q => absurd rfl q⟩)
      have hX : rX b0 P 41 x s7 := by
        rw [e7, e5, e3]
        exact rX_up (rX_up (rX_up hM.2 (by omega)) (by omega)) (by omega)
      have hR7 : oR s16 s7 := by
        refine hR.dh (by rw [hM.2.2.2.1.2]; decide) hF16 (fun k b1 b2 b3 b4 b5 b6 b7 b8 b9 b10 => rk k b6 b7 b8) (hR.1.cg (fun k a b => gC k (by omega) (by omega)) (fun k a b => rk k (by omega) (by omega) (by omega))) (hR.2.1.one i hi hM.1.w (fun k a b d => gC k b d) (by rw [gC 101 (by omega) (by omega)]) (by rw [e111]) (fun h' q => ?_) (fun _ => ?_)) (hR.2.2.1.cg (by rw [e111]) (fun k a => rk k (by omega) (by omega) (by omega)))
        · rw [rk 124 (by decide) (by decide) (by decide), rk 125 (by decide) (by decide) (by decide), rk 126 (by decide) (by decide) (by decide), e127, e129, r130, r131, ru_ne q]
          exact ⟨rfl, rfl, rfl, rfl, rfl, rfl, fun j hj => ru_ne (by omega)⟩
        · rw [rk 124 (by decide) (by decide) (by decide), rk 125 (by decide) (by decide) (by decide), rk 126 (by decide) (by decide) (by decide), e127, e129, r130, r131, ru_self, g2, gB, gj 4 (by decide) (by decide), gj 5 (by decide) (by decide), gj 6 (by decide) (by decide), gj 7 (by decide) (by decide), gj 3 (by decide) (by decide)]
          refine ⟨a1, a2, a3, a4, a5, rfl, fun j hj => ?_⟩
          rw [ew] at hj
          by_cases t : j = (x 130 i).toNatClampNeg
          · rw [t, ru_self, ru_self, bp_b, bp_b]
          · rw [ru_ne t, ru_ne (by omega)]
            exact a7 j (by omega)
      have du : duC (s16 i 3) (s16 i 2) (y &&& 255) → wj_X10_putByte_111 s7 n p pv := fun q => hd q s7 hI hX hR7 (by rw [e127, ← a4]; exact h7) e111
      have no : ¬ duC (s16 i 3) (s16 i 2) (y &&& 255) → ((x 130 i).toInt + 1 ≤ 19 ∧ ¬ (x 129 i).toInt = 0 ∧ (1 < (x 129 i).toInt → (x 130 i).toInt + 1 < (x 129 i).toInt)) → wj_X10_putByte_115 s7 n p pv := by
        intro q hq
        refine hn q s7 ⟨rI_ok hI (fun _ => ?_), hX⟩ hR7
        rw [e129, ew7, ew]
        omega
      rw [a5', g2] at du no
      have k94 : ¬ x 129 i = 0 → (x 129 i = 1 → ¬ y &&& 255 = 10 ∧ ¬ x 130 i + 1 = 20) → wj_X10_putByte_94 s7 n p (x 129 i) pv := by
        intro c0 c20
        have c0' : ¬ (x 129 i).toInt = 0 := fun q => c0 (pz_eq.mpr (by omega))
        unfold wj_X10_putByte_94
        rw [hp1, ew7]
        refine ⟨fun c => ?_, fun c => ⟨hin, fun c1 => du (Or.inr (Or.inr ⟨fun q => ?_, c0, fun q => ?_⟩)), fun c2 => no (fun d => ?_) ?_⟩⟩
        · have h1 := pz_le.mp c
          have e1 : x 129 i = 1 := pz_eq.mpr (by omega)
          obtain ⟨c21, c22⟩ := c20 e1
          have c22' : ¬ (x 130 i + 1).toInt = 20 := fun q => c22 (pz_eq.mpr (by omega))
          rw [ew] at c22'
          refine no (fun d => ?_) ⟨by omega, c0', fun _ => by rw [e1, z1] at *; omega⟩
          rcases d with ⟨_, d | d⟩ | d | d
          · exact c21 d
          · have := pz_nlt d
            rw [ew] at this
            omega
          · exact c0 d
          · exact d.1 e1
        · rw [q] at c; exact c (by decide)
        · have := pz_lt.mp q
          rw [c1] at this
          omega
        · have h1 := pz_nle c
          rcases d with d | d | d
          · rw [d.1] at h1; omega
          · exact c0 d
          · have := pz_nlt d.2.2
            rw [ew] at this
            exact c2 (pz_eq.mpr (by rw [ew]; omega))
        · have h1 := pz_nle c
          have : ¬ (x 130 i + 1).toInt = (x 129 i).toInt := fun q => c2 (pz_eq.mpr q)
          rw [ew] at this
          omega
      rw [e129, ew7]
      refine ⟨hin, fun c0 => du (Or.inr (Or.inl c0)), fun c0 => ⟨fun c1 => ⟨fun cl => du (Or.inl ⟨c1, Or.inl cl⟩), fun cl => ⟨hin, fun c2 => du (Or.inl ⟨c1, Or.inr (fun q => ?_)⟩), fun c2 => k94 c0 (fun _ => ⟨cl, c2⟩)⟩⟩, fun c1 => k94 c0 (fun q => absurd q c1)⟩⟩
      have := pz_lt.mp q
      rw [c2] at this
      omega
  refine xp_due (fun hd => ⟨fun q => absurd q (by decide), fun _ => xo_flush hi hw16.1 (fun r s hC hF hq => ?_)⟩) (fun hd => ⟨fun _ => ?_, fun q => absurd rfl q⟩)
  · have hws := hw16.f3 hC hF.to3
    rcases hq with ⟨_, hr, hf⟩ | ⟨h7', _, _⟩
    · rcases hr with hr | hr
      · rw [hr] at hf ⊢
        refine xa_actG hws he (by rw [l_0]; omega) (fun c1 hN a b => hp _ _ a ((hFr.tr hF.to3.toR).tr b) ?_)
        intro b0 P x p pv hM hR hp1 h0 hlt hk
        refine sim b0 P x p pv hM hR hp1 h0 hlt (fun _ x7 hI hX hR7 st e111 => ⟨fun q => absurd q (by decide), fun _ => ?_⟩) (fun q => absurd hd q)
        refine xo_rflush hf hI hX (Or.inr rfl) hR7 hF hp1 h0 (by rw [e111]; exact hlt) st (fun rr t b1 b2 _ _ b5 => ?_)
        rcases b5 with ⟨_, z2⟩ | ⟨z1, _⟩
        · exact absurd rfl z2
        · exact ⟨fun q => absurd (z1.symm.trans q) (by decide), fun _ => en_ng (m := 40) b1 (by omega) b2 hN hk⟩
      · rw [hr] at hf ⊢
        refine xa_actF (k := 5) hws (by decide) (by decide) (fun a b => hp _ _ a ((hFr.tr hF.to3.toR).tr b) ?_)
        intro b0 P x p pv hM hR hp1 h0 hlt hk
        refine sim b0 P x p pv hM hR hp1 h0 hlt (fun _ x7 hI hX hR7 st e111 => ⟨fun q => absurd q (by decide), fun _ => ?_⟩) (fun q => absurd hd q)
        refine xo_rflush hf hI hX (Or.inr rfl) hR7 hF hp1 h0 (by rw [e111]; exact hlt) st (fun rr t b1 b2 _ _ b5 => ?_)
        rcases b5 with ⟨z1, _⟩ | ⟨_, z2⟩
        · exact ⟨fun _ => en_fail b1 (by omega) b2 hk, fun q => absurd z1 q⟩
        · exact absurd z2 (by decide)
    · exact absurd (by rw [gj 7 (by decide) (by decide)]; exact h7) h7'
  · refine xa_actG hw16 he (by rw [l_0]; omega) (fun c1 hN a b => hp _ _ a (hFr.tr b) ?_)
    intro b0 P x p pv hM hR hp1 h0 hlt hk
    exact sim b0 P x p pv hM hR hp1 h0 hlt (fun q => absurd q hd) (fun _ x7 hM7 hR7 => ⟨fun _ => en_ng (m := 40) hM7 (by omega) hR7 hN hk, fun q => absurd rfl q⟩)
end EI
