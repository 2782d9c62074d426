section EF
variable {c x c' x' c1 σ0 s : io_M} {post Q : Int32 → io_M → Prop} {pv : io_M → Prop} {i : Nat} {p y v n k r w : Int32} {b0 e m : Int} {P : Nat}
theorem pu_id {σ : io_M} {k j : Nat} : io_up σ k j (σ k j) = σ := by
  funext k' j'
  rw [pu_at]
  by_cases h : k' = k
  · rw [if_pos h]
    by_cases g : j' = j
    · rw [if_pos g, h, g]
    · rw [if_neg g, h]
  · rw [if_neg h]
def gSz (n : Int32) (x : io_M) (p : Int32) (pv : io_M → Prop) : Prop := vp_in p 20 ∧ vp_in (x 124 p.toNatClampNeg) 8 ∧ wp_X10_gives x 0 (x 113 (x 124 p.toNatClampNeg).toNatClampNeg) pv
theorem vF_size : vF (fun _ => True) (vO n 12) (gSz n) n := fun x p pv T hi hm h0 hf h5 hg => vO_y hi h0 ⟨fun q => absurd q (by decide), fun _ => ⟨fun q => absurd q (by decide), fun _ => ⟨fun q => absurd q (by decide), fun _ => hf _ (fun rr t hT => ⟨fun q => h5 t (by rw [q] at hT; exact hT), fun q => ⟨fun _ => hg rr t q hT, fun q => absurd rfl q⟩⟩)⟩⟩⟩
theorem xd_size (hi : i < 20) (hw : io_WI b0 (e + 1) c) (hp : ∀ r c', io_WI b0 e c' → io_Fr c c' → hS c i r c' (vO n 12) → post r c') : wp_X2_measure c i (fun r s => wp_X8_settle s n 0 r post) := by
  refine xk_flush hi hw trivial (vF_size (n := n)) vO_n hp (fun s hws hF hS => ⟨fun _ => ?_, fun q => absurd rfl q⟩) (fun r s k hr hk hws hpost => ⟨fun q => by rw [q, l_0] at hr; omega, fun _ => xa_setF (hws.le (by omega)) hr hk hpost⟩)
  have hfl := CI_f hws.1 hi
  have hf8 : 0 ≤ (s i 4).toInt ∧ (s i 4).toInt < 8 := ⟨hfl.1, by omega⟩
  have hlen := CI_91 hws.1 (s i 4).toNatClampNeg
  refine ⟨pz_in (n := 8).mpr hf8, xa_setG (hws.le (by omega)) hlen.1 (fun a b => hp _ _ a (hF.to3.toR.tr b) (hS _ _ ?_))⟩
  intro b0 P σ0 x p pv hM hR hp1 h0 hlt st wt hk
  have hlt' := hx_i hp1 h0 hlt
  have hinp := hx_in hM.1 h0 hlt
  obtain ⟨a1, a2, a3, a4, a5, a6, a7⟩ := hR.2.1.2.2 i hlt'
  have d3 := (hR.1.1 _ (pn_8 hf8)).2.2.1
  rw [d3, a1] at hk
  rw [a1] at hf8
  unfold gSz
  rw [hp1]
  exact ⟨hinp, pz_in (n := 8).mpr hf8, en_give hM (by omega) hR tv_0 (Or.inl rfl) hk⟩
def gBf (n : Int32) (x : io_M) (p : Int32) (pv : io_M → Prop) : Prop := vp_in n 60 ∧ (vp_in p 20 ∧ ∀ s36, s36 = io_up x 129 p.toNatClampNeg (x 120 n.toNatClampNeg) → wp_X10_note s36 n (fun s39 => wp_X10_gives s39 0 0 pv))
theorem vF_buf : vF (fun _ => True) (vO n 13) (gBf n) n := fun x p pv T hi hm h0 hf h5 hg => vO_y hi h0 ⟨fun q => absurd q (by decide), fun _ => ⟨fun q => absurd q (by decide), fun _ => ⟨fun q => absurd q (by decide), fun _ => hf _ (fun rr t hT => ⟨fun q => h5 t (by rw [q] at hT; exact hT), fun q => ⟨fun q => absurd q (by decide), fun _ => ⟨fun _ => hg rr t q hT, fun q => absurd rfl q⟩⟩⟩)⟩⟩⟩
theorem xd_buf (hi : i < 20) (hw : io_WI b0 (e + 1) c) (he : 0 ≤ e) (hn : io_nd c n) (hw9 : 0 ≤ (c 99 n.toNatClampNeg).toInt ∧ (c 99 n.toNatClampNeg).toInt < 10) (hp : ∀ r c', io_WI b0 e c' → io_Fr c c' → hS c i r c' (vO n 13) → post r c') : wp_X2_changeBuffer c i (c 99 n.toNatClampNeg) (fun r s => wp_X8_act s n 0 r post) := by
  refine xk_flush hi hw trivial (vF_buf (n := n)) vO_n hp (fun s hws hF hS => ⟨fun _ s5 e5 => ?_, fun q => absurd rfl q⟩) (fun r s k hr hk hws hpost => ⟨fun q => by rw [q, l_0] at hr; omega, fun _ => xa_actF hws hr hk hpost⟩)
  have hF5 : io_F2 s s5 := by rw [e5]; exact io_F2.rf.up (by omega)
  have hC5 : io_CI s5 := by rw [e5]; exact hws.1.up (ok_H hi (fun q => by omega) (fun q => by omega))
  have hw5 := hws.f3 hC5 hF5.to3
  refine xa_actG hw5 he (by rw [l_0]; omega) (fun c1 hN a b => hp _ _ a ((hF.to3.toR.tr hF5.to3.toR).tr b) (hS _ _ ?_))
  intro b0 P σ0 x p pv hM hR hp1 h0 hlt st wt hk
  have hlt' := hx_i hp1 h0 hlt
  have hinp := hx_in hM.1 h0 hlt
  have g0 := hM.2.2.2.1.2
  obtain ⟨a1, a2, a3, a4, a5, a6, a7⟩ := hR.2.1.2.2 i hlt'
  have hns : io_nd s n := hn.of hF.to3.toR
  have hin60 := hns.in hws.2.1
  have e99 : c 99 n.toNatClampNeg = x 120 n.toNatClampNeg := by
    rw [← hF.2.2 99 (by omega)]
    refine (hR.2.2.2.2.2.2.1.2 n.toNatClampNeg ?_).2.2.1
    rw [← hR.2.2.2.2.2.2.1.1, pz_cl]
    have := hns.1
    have := hns.2
    omega
  rw [e99] at e5 hw9
  unfold gBf
  rw [hp1]
  refine ⟨hin60, hinp, fun s36 e36 => ?_⟩
  have gx : ∀ k, k ≠ 129 → s36 k = x k := fun k a => by rw [e36, pu_ne a]
  have r129 : s36 129 = ru (x 129) i (x 120 n.toNatClampNeg) := by rw [e36, pu_row]
  have hM36 : rM b0 P 41 σ0 s36 := by
    refine ⟨rI_buf i (x 120 n.toNatClampNeg) hM.1 r129 (fun k q => gx k (by omega)) (by rw [gx 111 (by decide)]) (by rw [gx 111 (by decide)]) (fun _ => ?_), by rw [e36]; exact rX_up hM.2 (by omega)⟩
    rw [wt, l_0]
    exact ⟨by omega, by omega, fun _ => ⟨by omega, fun _ => by omega, fun _ => by omega⟩⟩
  have gc : ∀ k, k ≠ i → s5 k = s k := fun k q => by rw [e5, pu_ne q]
  have hR36 : oR s5 s36 := by
    refine hR.dh (by rw [g0]; decide) hF5 (fun k b1 b2 b3 b4 b5 b6 b7 b8 b9 b10 => gx k b5) (hR.1.cg (fun k a b => gc k (by omega)) (fun k a b => gx k (by omega))) (hR.2.1.one i hi hM.1.w (fun k a b d => gc k b) (by rw [gc 101 (by omega)]) (by rw [gx 111 (by decide)]) (fun h' q => ?_) (fun _ => ?_)) (hR.2.2.1.cg (by rw [gx 111 (by decide)]) (fun k a => gx k (by omega)))
    · rw [gx 124 (by decide), gx 125 (by decide), gx 126 (by decide), gx 127 (by decide), gx 130 (by decide), gx 131 (by decide), r129, ru_ne q]
      exact ⟨rfl, rfl, rfl, rfl, rfl, rfl, fun _ _ => rfl⟩
    · rw [gx 124 (by decide), gx 125 (by decide), gx 126 (by decide), gx 127 (by decide), gx 130 (by decide), gx 131 (by decide), r129, ru_self, gc (20 + i) (by omega), e5, pu_self, pu_same (by decide), pu_same (by decide), pu_same (by decide), pu_same (by decide), pu_same (by decide)]
      exact ⟨a1, a2, a3, a4, rfl, a6, a7⟩
  exact en_ng (m := 40) hM36 (by omega) hR36 hN hk
def gFl (n : Int32) (x : io_M) (p : Int32) (pv : io_M → Prop) : Prop := vp_in p 20 ∧ (vp_in p 20 ∧ ∀ s30, s30 = io_up x 129 p.toNatClampNeg (x 129 p.toNatClampNeg) → wp_X10_note s30 n (fun s33 => wp_X10_gives s33 0 0 pv))
theorem vF_fl : vF (fun _ => True) (vO n 14) (gFl n) n := fun x p pv T hi hm h0 hf h5 hg => vO_y hi h0 ⟨fun q => absurd q (by decide), fun _ => ⟨fun q => absurd q (by decide), fun _ => ⟨fun q => absurd q (by decide), fun _ => hf _ (fun rr t hT => ⟨fun q => h5 t (by rw [q] at hT; exact hT), fun q => ⟨fun q => absurd q (by decide), fun _ => ⟨fun q => absurd q (by decide), fun _ => hg rr t q hT⟩⟩⟩)⟩⟩⟩
theorem xd_fl (hi : i < 20) (hw : io_WI b0 (e + 1) c) (he : 0 ≤ e) (hp : ∀ r c', io_WI b0 e c' → io_Fr c c' → hS c i r c' (vO n 14) → post r c') : wp_X2_flush c i (fun r s => wp_X8_act s n 0 r post) := by
  refine xk_flush hi hw trivial (vF_fl (n := n)) vO_n hp (fun s hws hF hS => ?_) (fun r s k hr hk hws hpost => xa_actF hws hr hk hpost)
  refine xa_actG hws he (by rw [l_0]; omega) (fun c1 hN a b => hp _ _ a (hF.to3.toR.tr b) (hS _ _ ?_))
  intro b0 P σ0 x p pv hM hR hp1 h0 hlt st wt hk
  have hinp := hx_in hM.1 h0 hlt
  refine ⟨hinp, hinp, fun s30 e30 => ?_⟩
  rw [pu_id] at e30
  rw [e30]
  exact en_ng (m := 40) hM (by omega) hR hN hk
theorem xd_where (hw : io_WI b0 (e + 1) c) (hp : ∀ r c', io_WI b0 e c' → io_Fr c c' → hS c i r c' (vO n 11) → post r c') : wp_X2_tellPlace c i (fun r s => wp_X8_settle s n 0 r post) := by
  have hw' := hw.le (e' := e) (by omega)
  refine ⟨fun h7 => ?_, fun h7 => xa_setF (k := 4) hw' (by decide) (by decide) (fun a b => hp _ _ a b (xk_ill h7 vO_n))⟩
  have pos : ∀ (b0 : Int) (P : Nat) (x : io_M), rM b0 P 41 x x → oR c x → (i : Int) < (x 111 16).toInt → c i 6 + c i 2 = x 126 i + x 130 i ∧ 0 ≤ (c i 6 + c i 2).toInt := by
    intro b0 P x hM hR hlt'
    obtain ⟨a1, a2, a3, a4, a5, a6, a7⟩ := hR.2.1.2.2 i hlt'
    obtain ⟨g1, g2, g3, gb, gw, gx⟩ := hM.1.2.1.2 i hlt'
    have g3 := g3 (by rw [← a4, h7]; decide)
    have := hM.1.1 (x 124 i).toNatClampNeg
    rw [a3, a6]
    refine ⟨rfl, ?_⟩
    rw [pz_add (by omega)]
    omega
  have sim : ∀ (b0 : Int) (P : Nat) (x : io_M) (p : Int32) (pv : io_M → Prop), rM b0 P 41 x x → oR c x → p.toNatClampNeg = i → 0 ≤ p.toInt → p.toInt < (x 111 16).toInt → (∀ x', rP b0 P x x' → oR (gv2 c 0 (c i 6 + c i 2)) x' → oO 1 (gv2 c 0 (c i 6 + c i 2)) x' → pv x') → vO n 11 x p pv := by
    intro b0 P x p pv hM hR hp1 h0 hlt hk
    have hlt' := hx_i hp1 h0 hlt
    have hinp := hx_in hM.1 h0 hlt
    have a4 := (hR.2.1.2.2 i hlt').2.2.2.1
    rw [(pos b0 P x hM hR hlt').1] at hk
    refine vO_y hinp (by rw [hp1, ← a4]; exact h7) ⟨fun q => absurd q (by decide), fun _ => ⟨fun q => absurd q (by decide), fun _ => ⟨fun _ => ⟨hinp, hinp, ?_⟩, fun q => absurd rfl q⟩⟩⟩
    rw [hp1]
    exact en_give hM (by omega) hR tv_0 (Or.inl rfl) hk
  by_cases hneg : (c i 6 + c i 2).toInt < 0
  · refine xa_setF hw' hneg rfl (fun a b => hp _ _ a b ?_)
    intro b0 P x p pv hM hR hp1 h0 hlt hk
    have := (pos b0 P x hM hR (hx_i hp1 h0 hlt)).2
    omega
  · exact xa_setG hw' (by omega) (fun a b => hp _ _ a b sim)
/-- a handle's state: closed, or half closed -/
theorem oH.st (r2 : oH c x) (hw : ∀ h : Nat, (h : Int) < (x 111 16).toInt → (x 130 h).toInt ≤ 20) (hi : i < 20) (hlt : (i : Int) < (x 111 16).toInt) : oH (io_up c i 7 v) (io_up x 127 i v) := by
  have gx : ∀ k, k ≠ 127 → (io_up x 127 i v) k = x k := fun k a => pu_ne a
  have gc : ∀ k, k ≠ i → (io_up c i 7 v) k = c k := fun k a => pu_ne a
  obtain ⟨a1, a2, a3, a4, a5, a6, a7⟩ := r2.2.2 i hlt
  refine r2.one i hi hw (fun k a b d => gc k b) (by rw [gc 101 (by omega)]) (by rw [gx 111 (by decide)]) (fun h' q => ?_) (fun _ => ?_)
  · rw [gx 124 (by decide), gx 125 (by decide), gx 126 (by decide), gx 129 (by decide), gx 130 (by decide), gx 131 (by decide), pu_same q]
    exact ⟨rfl, rfl, rfl, rfl, rfl, rfl, fun _ _ => rfl⟩
  · rw [gx 124 (by decide), gx 125 (by decide), gx 126 (by decide), gx 129 (by decide), gx 130 (by decide), gx 131 (by decide), pu_self, gc (20 + i) (by omega), pu_self, pu_same (by decide), pu_same (by decide), pu_same (by decide), pu_same (by decide), pu_same (by decide)]
    exact ⟨a1, a2, a3, rfl, a5, a6, a7⟩
theorem oT.st (r3 : oT x) (hlt : (i : Int) < (x 111 16).toInt) (hv : v = 2 ∨ (v = 1 ∧ ¬ x 127 i = 2)) : oT (io_up x 127 i v) := by
  intro h' hh
  have gx : ∀ k, k ≠ 127 → (io_up x 127 i v) k = x k := fun k a => pu_ne a
  rw [gx 111 (by decide)] at hh
  rw [gx 112 (by decide), gx 124 (by decide)]
  by_cases t : h' = i
  · rw [t, pu_self]
    rcases hv with z | z
    · exact ⟨Or.inr (Or.inr z), fun q => absurd z q⟩
    · exact ⟨Or.inr (Or.inl z.1), fun _ => (r3 i hlt).2 z.2⟩
  · rw [pu_same t]
    exact r3 h' hh
theorem oL.st (r4 : oL c x) (hi : i < 20) (hv : v = 2 ∨ (v = 1 ∧ ¬ x 127 i = 2)) : oL (io_up c i 7 v) (io_up x 127 i v) := by
  have gx : ∀ k, k ≠ 127 → (io_up x 127 i v) k = x k := fun k a => pu_ne a
  have gc : ∀ k, k ≠ i → (io_up c i 7 v) k = c k := fun k a => pu_ne a
  unfold oL
  rw [gc 103 (by omega), gx 111 (by decide), gx 135 (by decide), gx 136 (by decide), gx 137 (by decide), gx 138 (by decide)]
  refine ⟨r4.1, r4.2.1, fun l hl => ?_⟩
  have := r4.2.1
  obtain ⟨b1, b2, b3, b4⟩ := r4.2.2 l hl
  rw [gc (40 + l) (by omega), gc (20 + (40 + l)) (by omega)]
  refine ⟨b1, b2, b3, fun q => ?_⟩
  have := b4 q
  by_cases t : (x 135 l).toNatClampNeg = i
  · rw [t] at this ⊢
    rw [pu_self]
    rcases hv with z | z
    · exact z
    · exact absurd this z.2
  · rw [pu_same t]
    exact this
theorem oR.st (hR : oR c x) (hM : rM b0 P m σ0 x) (hi : i < 20) (hlt : (i : Int) < (x 111 16).toInt) (hv : v = 2 ∨ (v = 1 ∧ ¬ x 127 i = 2)) : oR (io_up c i 7 v) (io_up x 127 i v) := by
  have g0 := hM.2.2.2.1.2
  obtain ⟨r1, r2, r3, r4, r5, r6, r7, r8, r9⟩ := hR
  have gx : ∀ k, k ≠ 127 → (io_up x 127 i v) k = x k := fun k a => pu_ne a
  have gc : ∀ k, k ≠ i → (io_up c i 7 v) k = c k := fun k a => pu_ne a
  refine ⟨r1.cg (fun k a b => gc k (by omega)) (fun k a b => gx k (by omega)), r2.st hM.1.w hi hlt, r3.st hlt hv, r4.st hi hv, r5.cg (by rw [gc 105 (by omega)]) (gc 106 (by omega)) (by rw [gx 111 (by decide)]) (gx 139 (by decide)), r6.cg (gc 93 (by omega)) (gc 94 (by omega)) (gc 95 (by omega)) (fun j a => by rw [gx 111 (by decide)]) (gx 116 (by decide)) (gx 117 (by decide)), r7.cg (fun k a b => gc k (by omega)) (by rw [gx 111 (by decide)]) (fun k a b => gx k (by omega)), by rw [gc 107 (by omega), gx 111 (by decide)]; exact r8, ?_⟩
  rcases r9 with q | q
  · rw [g0] at q; exact absurd q (by decide)
  · exact Or.inr (q.cg (gc 108 (by omega)) (gc 109 (by omega)) (gx 122 (by decide)) (gx 123 (by decide)))
end EF
