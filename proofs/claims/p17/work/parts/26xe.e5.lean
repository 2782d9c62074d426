/-! doings of a handle -/
def hS (c : io_M) (i : Nat) (r : Int32) (c' : io_M) (V : io_M → Int32 → (io_M → Prop) → Prop) : Prop := ∀ (b0 : Int) (P : Nat) (x : io_M) (p : Int32) (pv : io_M → Prop), rM b0 P 41 x x → oR c x → p.toNatClampNeg = i → 0 ≤ p.toInt → p.toInt < (x 111 16).toInt → (∀ x', rP b0 P x x' → oR c' x' → oO r c' x' → pv x') → V x p pv
/-- behind a good flush -/
def gS (c : io_M) (i : Nat) (r : Int32) (c' : io_M) (G : io_M → Int32 → (io_M → Prop) → Prop) : Prop := ∀ (b0 : Int) (P : Nat) (σ0 x : io_M) (p : Int32) (pv : io_M → Prop), rM b0 P 41 σ0 x → oR c x → p.toNatClampNeg = i → 0 ≤ p.toInt → p.toInt < (x 111 16).toInt → x 127 i = 0 → x 130 i = 0 → (∀ x', rP b0 P σ0 x' → oR c' x' → oO r c' x' → pv x') → G x p pv
def vF (M : Int32 → Prop) (V G : io_M → Int32 → (io_M → Prop) → Prop) (n : Int32) : Prop := ∀ (x : io_M) (p : Int32) (pv : io_M → Prop) (T : Int32 → io_M → Prop), vp_in p 20 → M (x 125 p.toNatClampNeg) → x 127 p.toNatClampNeg = 0 → (∀ Q : Int32 → io_M → Prop, (∀ rr t, T rr t → Q rr t) → wp_X10_flush x p Q) → (∀ t, T 0 t → wp_X10_fails t n 5 pv) → (∀ rr t, ¬ rr = 0 → T rr t → G t p pv) → V x p pv
def vN (V : io_M → Int32 → (io_M → Prop) → Prop) (n : Int32) : Prop := ∀ (x : io_M) (p : Int32) (pv : io_M → Prop), vp_in p 20 → ¬ x 127 p.toNatClampNeg = 0 → wp_X10_fails x n 4 pv → V x p pv
def vO (n k : Int32) (x : io_M) (p : Int32) (pv : io_M → Prop) : Prop := wp_X10_isOpen x n p (fun r s => (r = 0 → pv s) ∧ (¬ r = 0 → wp_X10_opened s n k p pv))
section EE
variable {c x c' x' c1 σ0 s : io_M} {post Q : Int32 → io_M → Prop} {pv : io_M → Prop} {i : Nat} {p y v n k r : Int32} {b0 e m : Int} {P : Nat} {M : Int32 → Prop} {V G : io_M → Int32 → (io_M → Prop) → Prop}
theorem hx_i {z : Int} (hp : p.toNatClampNeg = i) (h0 : 0 ≤ p.toInt) (hlt : p.toInt < z) : (i : Int) < z := by rw [← hp, pz_cl]; omega
theorem hx_in {e : Nat} (hI : rI e x) (h0 : 0 ≤ p.toInt) (hlt : p.toInt < (x 111 16).toInt) : vp_in p 20 := pz_in.mpr ⟨h0, by have := hI.2.1.1; show p.toInt < 20; omega⟩
theorem vO_n : vN (vO n k) n := fun x p pv hi h0 hf => ⟨hi, fun q => absurd q h0, fun _ s1 e1 s2 e2 s3 e3 s4 e4 => ⟨fun _ => hf s1 e1 s2 e2 s3 e3 s4 e4, fun q => absurd rfl q⟩⟩
theorem vO_y (hi : vp_in p 20) (h0 : x 127 p.toNatClampNeg = 0) (h : wp_X10_opened x n k p pv) : vO n k x p pv := ⟨hi, fun _ => ⟨fun q => absurd q (by decide), fun _ => h⟩, fun q => absurd h0 q⟩
theorem xk_ill (h7 : ¬ c i 7 = 0) (hV : vN V n) : hS c i 0 (fl3 c 4 n) V := by
  intro b0 P x p pv hM hR hp1 h0 hlt hk
  have a4 := (hR.2.1.2.2 i (hx_i hp1 h0 hlt)).2.2.2.1
  exact hV x p pv (hx_in hM.1 h0 hlt) (by rw [hp1, ← a4]; exact h7) (en_fail hM (by omega) hR hk)
theorem xk_good (hf : flS i c 0 0 s) (hF : io_F2 c s) (h7 : c i 7 = 0) (hm : M (c i 5)) (hV : vF M V G n) (hg : gS s i r c' G) : hS c i r c' V := by
  intro b0 P x p pv hM hR hp1 h0 hlt hk
  obtain ⟨a1, a2, a3, a4, a5, a6, a7⟩ := hR.2.1.2.2 i (hx_i hp1 h0 hlt)
  have st : x 127 i = 0 := by rw [← a4]; exact h7
  refine hV x p pv (fun rr t => rr = 1 ∧ rM b0 P 41 x t ∧ oR s t ∧ rfl_k x t ∧ t 130 i = 0) (hx_in hM.1 h0 hlt) (by rw [hp1, ← a2]; exact hm) (by rw [hp1]; exact st) (fun Q hQ => xo_rflush hf hM.1 hM.2 (Or.inl rfl) hR hF hp1 h0 hlt st (fun rr t b1 b2 b3 b4 b5 => hQ rr t ?_)) (fun t q => absurd q.1 (by decide)) (fun rr t _ q => hg b0 P x t p pv q.2.1 q.2.2.1 hp1 h0 ?_ ?_ q.2.2.2.2 hk)
  · rcases b5 with w | w
    · exact absurd rfl w.2
    · exact ⟨w.1, b1, b2, b3, b4⟩
  · rw [q.2.2.2.1 111 (by decide) (by decide) (by decide) (by decide) (by decide)]; exact hlt
  · rw [q.2.2.2.1 127 (by decide) (by decide) (by decide) (by decide) (by decide)]; exact st
theorem xk_bad (hf : flS i c 0 r s) (hr : ¬ r = 0) (hF : io_F2 c s) (h7 : c i 7 = 0) (hm : M (c i 5)) (hV : vF M V G n) : hS c i 0 (fl3 s 5 n) V := by
  intro b0 P x p pv hM hR hp1 h0 hlt hk
  obtain ⟨a1, a2, a3, a4, a5, a6, a7⟩ := hR.2.1.2.2 i (hx_i hp1 h0 hlt)
  have st : x 127 i = 0 := by rw [← a4]; exact h7
  refine hV x p pv (fun rr t => rr = 0 ∧ rM b0 P 41 x t ∧ oR s t) (hx_in hM.1 h0 hlt) (by rw [hp1, ← a2]; exact hm) (by rw [hp1]; exact st) (fun Q hQ => xo_rflush hf hM.1 hM.2 (Or.inl rfl) hR hF hp1 h0 hlt st (fun rr t b1 b2 b3 b4 b5 => hQ rr t ?_)) (fun t q => en_fail q.2.1 (by omega) q.2.2 hk) (fun rr t h q => absurd q.1 h)
  rcases b5 with w | w
  · exact ⟨w.1, b1, b2⟩
  · exact absurd w.2 hr
/-- flush, then what is wanted -/
theorem xk_flush (hi : i < 20) (hw : io_WI b0 (e + 1) c) (hm : M (c i 5)) (hV : vF M V G n) (hN : vN V n) (hp : ∀ r c', io_WI b0 e c' → io_Fr c c' → hS c i r c' V → post r c') (hg : ∀ s, io_WI b0 (e + 1) s → io_F2 c s → (∀ r c', gS s i r c' G → hS c i r c' V) → Q 0 s) (hb : ∀ r s k, r.toInt < 0 → (-1) - r = k → io_WI b0 (e + 1) s → (io_WI b0 e (fl3 s k n) → io_Fr s (fl3 s k n) → post 0 (fl3 s k n)) → Q r s) : wp_X2_flush c i Q := by
  refine xo_flush hi hw.1 (fun r s hC hF hq => ?_)
  have hws := hw.f3 hC hF.to3
  rcases hq with ⟨h7, hr, hf⟩ | ⟨h7, hr, hs⟩
  · rcases hr with hr | hr
    · rw [hr] at hf ⊢
      exact hg s hws hF (fun r c' q => xk_good hf hF h7 hm hV q)
    · rw [hr] at hf ⊢
      exact hb _ s 5 (by decide) (by decide) hws (fun a b => hp _ _ a (hF.to3.toR.tr b) (xk_bad hf (by decide) hF h7 hm hV))
  · rw [hr, hs]
    exact hb _ c 4 (by decide) (by decide) hw (fun a b => hp _ _ a b (xk_ill h7 hN))
/-- a handle's place goes on by one, what is waiting, its kind, stay -/
theorem oR.pl {w : Int32} (hR : oR c x) (hM : rM b0 P m σ0 x) (hp1 : p.toNatClampNeg = i) (hi : i < 20) (hlt : (i : Int) < (x 111 16).toInt) (hc : ∀ k, k ≠ i → c' k = c k) (h6 : c' i 6 = w) (hs : ∀ j, j < 8 → j ≠ 6 → c' i j = c i j) (hx : ∀ k, k ≠ 126 → k ≠ 133 → x' k = x k) (h126 : x' 126 = ru (x 126) i w) : oR c' x' := by
  have h0 := hM.2.2.2.1.2
  obtain ⟨a1, a2, a3, a4, a5, a6, a7⟩ := hR.2.1.2.2 i hlt
  have gx : ∀ k, k ≠ 126 → k ≠ 133 → x' k = x k := hx
  refine hR.dh (by rw [h0]; decide) ⟨hc 90 (by omega), fun k a b => hc k (by omega), fun k a => hc k (by omega)⟩ (fun k b1 b2 b3 b4 b5 b6 b7 b8 b9 b10 => gx k b4 b9) (hR.1.cg (fun k a b => hc k (by omega)) (fun k a b => gx k (by omega) (by omega))) (hR.2.1.one i hi hM.1.w (fun k a b d => hc k b) (by rw [hc 101 (by omega)]) (by rw [gx 111 (by decide) (by decide)]) (fun h' q => ?_) (fun _ => ?_)) (hR.2.2.1.cg (by rw [gx 111 (by decide) (by decide)]) (fun k a => gx k (by omega) (by omega)))
  · rw [gx 124 (by decide) (by decide), gx 125 (by decide) (by decide), gx 127 (by decide) (by decide), gx 129 (by decide) (by decide), gx 130 (by decide) (by decide), gx 131 (by decide) (by decide), h126, ru_ne q]
    exact ⟨rfl, rfl, rfl, rfl, rfl, rfl, fun _ _ => rfl⟩
  · rw [gx 124 (by decide) (by decide), gx 125 (by decide) (by decide), gx 127 (by decide) (by decide), gx 129 (by decide) (by decide), gx 130 (by decide) (by decide), gx 131 (by decide) (by decide), h126, ru_self, h6, hs 4 (by decide) (by decide), hs 5 (by decide) (by decide), hs 7 (by decide) (by decide), hs 3 (by decide) (by decide), hs 2 (by decide) (by decide), hc (20 + i) (by omega)]
    exact ⟨a1, a2, rfl, a4, a5, a6, a7⟩
def gTk (n : Int32) (x : io_M) (p : Int32) (pv : io_M → Prop) : Prop := (vp_in p 20 ∧ (vp_in p 20 ∧ (vp_in (x 124 (p).toNatClampNeg) 8 ∧ (((x 126 (p).toNatClampNeg) < (x 113 ((x 124 (p).toNatClampNeg)).toNatClampNeg) → (vp_in p 20 ∧ (vp_in p 20 ∧ (vp_in ((40 * (x 124 (p).toNatClampNeg)) + (x 126 (p).toNatClampNeg)) 320 ∧ (vp_in p 20 ∧ (vp_in p 20 ∧ ∀ s11, s11 = io_up x 126 (p).toNatClampNeg (((x 126 (p).toNatClampNeg) + 1)) → (vp_in p 20 ∧ (vp_in p 20 ∧ ∀ s13, s13 = io_up s11 133 (p).toNatClampNeg (((s11 133 (p).toNatClampNeg) + 1)) → (wp_X10_note s13 n (fun s16 => (wp_X10_gives s16 0 ((x 114 (((40 * (x 124 (p).toNatClampNeg)) + (x 126 (p).toNatClampNeg))).toNatClampNeg) &&& 255) pv))))))))))) ∧ (¬ ((x 126 (p).toNatClampNeg) < (x 113 ((x 124 (p).toNatClampNeg)).toNatClampNeg)) → (wp_X10_fails x n 3 pv))))))
theorem vF_take : vF (fun m => ¬ m = 1 ∧ ¬ m = 2) (vO n 6) (gTk n) n := fun x p pv T hi hm h0 hf h5 hg => vO_y hi h0 ⟨fun _ => ⟨hi, fun q => absurd q hm.1, fun _ => ⟨hi, fun q => absurd q hm.2, fun _ => hf _ (fun rr t hT => ⟨fun q => h5 t (by rw [q] at hT; exact hT), fun q => hg rr t q hT⟩)⟩⟩, fun q => absurd rfl q⟩
theorem gS_end (hq : ¬ (0 ≤ (c i 6).toInt ∧ (c i 6).toInt < (c 91 (c i 4).toNatClampNeg).toInt)) (hf : 0 ≤ (c i 4).toInt ∧ (c i 4).toInt < 8) : gS c i 0 (fl3 c 3 n) (gTk n) := by
  intro b0 P σ0 x p pv hM hR hp1 h0 hlt st wt hk
  have hlt' := hx_i hp1 h0 hlt
  have hi := hx_in hM.1 h0 hlt
  obtain ⟨a1, a2, a3, a4, a5, a6, a7⟩ := hR.2.1.2.2 i hlt'
  have d3 := (hR.1.1 _ (pn_8 hf)).2.2.1
  have gp := (hM.1.2.1.2 i hlt').2.1
  rw [d3, a1, a3] at hq
  rw [a1] at hf
  unfold gTk
  rw [hp1]
  refine ⟨hi, hi, pz_in.mpr hf, fun q => absurd ⟨gp, pz_lt.mp q⟩ hq, fun _ => en_fail hM (by omega) hR hk⟩
theorem gS_no {hv : Prop} (hq : 0 ≤ (c i 6).toInt ∧ (c i 6).toInt < (c 91 (c i 4).toNatClampNeg).toInt) (hf : 0 ≤ (c i 4).toInt ∧ (c i 4).toInt < 8) (hn : (c (80 + (c i 4).toNatClampNeg) (c i 6).toNatClampNeg).toInt < 0) : gS c i r c' G := by
  intro b0 P σ0 x p pv hM hR hp1 h0 hlt st wt hk
  have hlt' := hx_i hp1 h0 hlt
  obtain ⟨a1, a2, a3, a4, a5, a6, a7⟩ := hR.2.1.2.2 i hlt'
  obtain ⟨d1, d2, d3, d4, d5, d6, d7⟩ := hR.1.1 _ (pn_8 hf)
  have hcl := pz_cl (c i 6)
  rw [d3] at hq
  have := d7 (c i 6).toNatClampNeg (by omega)
  rw [this] at hn
  have := by_r (x 114 (40 * (c i 4).toNatClampNeg + (c i 6).toNatClampNeg))
  omega
theorem xd_take (hi : i < 20) (hw : io_WI b0 (e + 1) c) (he : 0 ≤ e) (hp : ∀ r c', io_WI b0 e c' → io_Fr c c' → hS c i r c' (vO n 6) → post r c') : wp_X2_take c i (fun r s => wp_X8_act s n 0 r post) := by
  have ill : (c i 5 = 1 ∨ c i 5 = 2) → wp_X8_act c n 0 ((-1) - 4) post := by
    intro q
    refine xa_actF (k := 4) hw (by decide) (by decide) (fun a b => hp _ _ a b ?_)
    by_cases h7 : c i 7 = 0
    · intro b0 P x p pv hM hR hp1 h0 hlt hk
      obtain ⟨a1, a2, a3, a4, a5, a6, a7⟩ := hR.2.1.2.2 i (hx_i hp1 h0 hlt)
      have hin := hx_in hM.1 h0 hlt
      have hf := en_fail hM (by omega) hR hk
      refine vO_y hin (by rw [hp1, ← a4]; exact h7) ⟨fun _ => ⟨hin, fun _ => hf, fun q1 => ⟨hin, fun _ => hf, fun q2 => ?_⟩⟩, fun q => absurd rfl q⟩
      rw [hp1, ← a2] at q1 q2
      rcases q with q | q
      · exact absurd q q1
      · exact absurd q q2
    · exact xk_ill h7 vO_n
  have key : (¬ c i 5 = 1 ∧ ¬ c i 5 = 2) → wp_X2_flush c i (fun r6 s7 => ((r6 = 0 → (wp_X2_nextByte s7 i (fun r9 s10 => ((r9 = (-1) → (wp_X9_turned s10 3 (fun r12 s13 => wp_X8_act s13 n 0 r12 post))) ∧ (¬ (r9 = (-1)) → wp_X8_act s10 n 0 r9 post))))) ∧ (¬ (r6 = 0) → wp_X8_act s7 n 0 r6 post))) := by
    intro hm
    refine xk_flush hi hw hm (vF_take (n := n)) vO_n hp (fun s hws hF hS => ⟨fun _ => ?_, fun q => absurd rfl q⟩) (fun r s k hr hk hws hpost => ⟨fun q => by rw [q, l_0] at hr; omega, fun _ => xa_actF hws hr hk hpost⟩)
    have hfl := CI_f hws.1 hi
    have hf8 : 0 ≤ (s i 4).toInt ∧ (s i 4).toInt < 8 := ⟨hfl.1, by omega⟩
    have hin := pz_in (n := 8).mpr hf8
    have hlen := CI_91 hws.1 (s i 4).toNatClampNeg
    have z0 := l_0
    have hFr := hF.to3.toR
    have none : ¬ (0 ≤ (s i 6).toInt ∧ (s i 6).toInt < (s 91 (s i 4).toNatClampNeg).toInt) → (((-1 : Int32) = (-1) → ((((-1 : Int32) = (-1) → (wp_X9_turned s 3 (fun r12 s13 => wp_X8_act s13 n 0 r12 post))) ∧ (¬ ((-1 : Int32) = (-1)) → wp_X8_act s n 0 (-1) post)))) ∧ (¬ ((-1 : Int32) = (-1)) → (∀ s5, s5 = io_up s i 6 ((s i 6) + 1) → (∀ s7, s7 = io_up s5 i 9 ((s5 i 9) + 1) → ((((-1 : Int32) = (-1) → (wp_X9_turned s7 3 (fun r12 s13 => wp_X8_act s13 n 0 r12 post))) ∧ (¬ ((-1 : Int32) = (-1)) → wp_X8_act s7 n 0 (-1) post))))))) := fun q => ⟨fun _ => ⟨fun _ => xa_actF (k := 3) hws (by decide) (by decide) (fun a b => hp _ _ a (hFr.tr b) (hS _ _ (gS_end q hf8))), fun q => absurd rfl q⟩, fun q => absurd rfl q⟩
    refine ⟨fun q => none (fun t => by have := pz_lt.mp q; omega), fun q => ⟨hin, fun q2 => none (fun t => by have := pz_le.mp q2; omega), fun q2 => ⟨hin, ?_, ?_⟩⟩⟩
    · have a := pz_nlt q
      have b := pz_nle q2
      exact pz_in.mpr ⟨by omega, by show (s i 6).toInt < 40; omega⟩
    · have a := pz_nlt q
      have b := pz_nle q2
      have hq : 0 ≤ (s i 6).toInt ∧ (s i 6).toInt < (s 91 (s i 4).toNatClampNeg).toInt := ⟨by omega, b⟩
      refine ⟨fun t => ⟨fun _ => ?_, fun t2 => absurd t t2⟩, fun t s5 e5 s7 e7 => ⟨fun t2 => absurd t2 t, fun _ => ?_⟩⟩
      · refine xa_actF (k := 3) hws (by decide) (by decide) (fun a b => hp _ _ a (hFr.tr b) (hS _ _ (gS_no (hv := True) hq hf8 ?_)))
        rw [t, l_m1]; omega
      · have hF7 : io_F2 s s7 := by rw [e7, e5]; exact (io_F2.rf.up (by omega)).up (by omega)
        have hC7 : io_CI s7 := by rw [e7, e5]; exact (hws.1.up (ok_H hi (fun q => by omega) (fun q => by omega))).up (ok_H hi (fun q => by omega) (fun q => by omega))
        have hw7 := hws.f3 hC7 hF7.to3
        by_cases hneg : (s (80 + (s i 4).toNatClampNeg) (s i 6).toNatClampNeg).toInt < 0
        · exact xa_actF hw7 hneg rfl (fun a b => hp _ _ a ((hFr.tr hF7.to3.toR).tr b) (hS _ _ (gS_no (hv := True) hq hf8 hneg)))
        · refine xa_actG hw7 he (by omega) (fun c1 hN a b => hp _ _ a ((hFr.tr hF7.to3.toR).tr b) (hS _ _ ?_))
          intro b0 P σ0 x p pv hM hR hp1 h0 hlt st wt hk
          have hlt' := hx_i hp1 h0 hlt
          have hinp := hx_in hM.1 h0 hlt
          obtain ⟨a1, a2, a3, a4, a5, a6, a7⟩ := hR.2.1.2.2 i hlt'
          obtain ⟨d1, d2, d3, d4, d5, d6, d7⟩ := hR.1.1 _ (pn_8 hf8)
          have hcl := pz_cl (s i 6)
          rw [d3] at hq
          have d8 := d7 (s i 6).toNatClampNeg (by omega)
          rw [d8] at hk
          rw [a1] at hf8 hq hk d6
          rw [a3] at hq hk
          have i41 := pn_41 (f := x 124 i) (p := x 126 i) (by omega) (by omega)
          have e41 := pz_41 (x := x 124 i) (y := x 126 i) (by omega) (by omega)
          have ep := pz_1 (x := x 126 i) (by omega)
          unfold gTk
          rw [hp1, i41]
          refine ⟨hinp, hinp, pz_in.mpr hf8, fun _ => ⟨hinp, hinp, pz_in.mpr ?_, hinp, hinp, fun s11 e11 => ⟨hinp, hinp, fun s13 e13 => ?_⟩⟩, fun q => absurd (pz_lt.mpr hq.2) q⟩
          · rw [e41]; show _ ∧ _ < (320 : Int); omega
          · have gx : ∀ k, k ≠ 126 → k ≠ 133 → s13 k = x k := fun k a b => by rw [e13, pu_ne b, e11, pu_ne a]
            have r126 : s13 126 = ru (x 126) i (x 126 i + 1) := by rw [e13, pu_ne (by decide), e11, pu_row]
            have hM13 : rM b0 P 41 σ0 s13 := by
              refine ⟨rI_adv i (x 124 i).toNatClampNeg (x 113 (x 124 i).toNatClampNeg) (x 126 i + 1) hM.1 rfl (by rw [gx 113 (by decide) (by decide), ru_id]) r126 (fun k q => gx k (by omega) (by omega)) (by rw [gx 111 (by decide) (by decide)]) (by rw [gx 111 (by decide) (by decide)]) (by omega) (by omega), ?_⟩
              rw [e13, e11]
              exact rX_up (rX_up hM.2 (by omega)) (by omega)
            have hR13 : oR s7 s13 := by
              refine hR.pl (p := p) (w := x 126 i + 1) hM hp1 hi hlt' (fun k q => by rw [e7, pu_ne q, e5, pu_ne q]) ?_ (fun j q1 q2 => ?_) gx r126
              · rw [e7, pu_same (by decide), e5, pu_self, a3]
              · rw [e7, pu_same (by omega), e5, pu_same q2]
            exact en_ng (m := 40) hM13 (by omega) hR13 hN hk
  exact ⟨fun q => ⟨fun _ => ill (Or.inl q), fun q => absurd rfl q⟩, fun q1 => ⟨fun q => ⟨fun _ => ill (Or.inr q), fun q => absurd rfl q⟩, fun q2 => ⟨fun q => absurd q (by decide), fun _ => key ⟨q1, q2⟩⟩⟩⟩
end EE
