/-! lists -/
/-- a count and its row, n noted m times -/
def jm (a : Int32) (f : Nat → Int32) (n : Int32) (m : Int) (a' : Int32) (f' : Nat → Int32) : Prop := a'.toInt = a.toInt + m ∧ ∀ i : Nat, i < 300 → f' i = if a.toInt ≤ i ∧ (i : Int) < a.toInt + m then n else f i
/-- all that is alike but the order -/
def oQ (c x : io_M) : Prop := oD c x ∧ oH c x ∧ oT x ∧ oL c x ∧ oC c x ∧ oS c x ∧ c 107 10 = x 111 35 ∧ oV c x
section EJ
variable {c x c' x' c1 σ0 s : io_M} {post Q : Int32 → io_M → Prop} {pv : io_M → Prop} {i j : Nat} {p y v n k r w : Int32} {b0 e m : Int} {P : Nat}
theorem jm_0 {a : Int32} {f : Nat → Int32} : jm a f n 0 a f := ⟨by omega, fun i _ => by rw [if_neg (by omega)]⟩
theorem jm_1 {a a' : Int32} {f f' : Nat → Int32} (hb : 0 ≤ a.toInt ∧ a.toInt < 100000) (h : a' = a + 1) (h1 : a.toInt < 300 → f' = ru f a.toNatClampNeg n) (h2 : 300 ≤ a.toInt → f' = f) : jm a f n 1 a' f' := by
  have hcl := pz_cl a
  refine ⟨by rw [h, pz_1 (by omega)], fun i hi => ?_⟩
  by_cases q : a.toInt < 300
  · rw [h1 q]
    by_cases t : i = a.toNatClampNeg
    · rw [t, ru_self, if_pos (by omega)]
    · rw [ru_ne t, if_neg (by omega)]
  · rw [h2 (by omega), if_neg (by omega)]
theorem jm_tr {a a1 a2 : Int32} {f f1 f2 : Nat → Int32} {m' : Int} (h : jm a f n m a1 f1) (g : jm a1 f1 n m' a2 f2) (hm : 0 ≤ m) (hm' : 0 ≤ m') : jm a f n (m + m') a2 f2 := by
  obtain ⟨h1, h2⟩ := h
  obtain ⟨g1, g2⟩ := g
  refine ⟨by omega, fun i hi => ?_⟩
  rw [g2 i hi]
  by_cases q : a1.toInt ≤ i ∧ (i : Int) < a1.toInt + m'
  · rw [if_pos q, if_pos (by omega)]
  · rw [if_neg q, h2 i hi]
    by_cases t : a.toInt ≤ i ∧ (i : Int) < a.toInt + m
    · rw [if_pos t, if_pos (by omega)]
    · rw [if_neg t, if_neg (by omega)]
theorem jm_o {a b' a' : Int32} {f g f' g' : Nat → Int32} (h : ∀ i : Nat, i < 300 → (i : Int) < a.toInt → f i = g i) (h1 : jm a f n m a' f') (h2 : jm a g n m b' g') : a' = b' ∧ ∀ i : Nat, i < 300 → (i : Int) < b'.toInt → f' i = g' i := by
  obtain ⟨a1, a2⟩ := h1
  obtain ⟨b1, b2⟩ := h2
  refine ⟨pz_eq.mpr (by omega), fun i hi hj => ?_⟩
  rw [a2 i hi, b2 i hi]
  by_cases q : a.toInt ≤ i ∧ (i : Int) < a.toInt + m
  · rw [if_pos q, if_pos q]
  · rw [if_neg q, if_neg q]
    exact h i hi (by omega)
theorem oR.q (h : oR c x) (hg : ¬ x 111 48 = 3) : oQ c x := ⟨h.1, h.2.1, h.2.2.1, h.2.2.2.1, h.2.2.2.2.2.1, h.2.2.2.2.2.2.1, h.2.2.2.2.2.2.2.1, h.v hg⟩
theorem oQ.toR (h : oQ c x) (hJ : oJ c x) : oR c x := ⟨h.1, h.2.1, h.2.2.1, h.2.2.2.1, hJ, h.2.2.2.2.1, h.2.2.2.2.2.1, h.2.2.2.2.2.2.1, Or.inr h.2.2.2.2.2.2.2⟩
theorem oQ.toJ (h : oQ c x) (hc : ∀ k, k ≠ 105 → k ≠ 106 → c' k = c k) (hx : ∀ k, k ≠ 111 → k ≠ 139 → x' k = x k) (hs : ∀ j, j ≠ 33 → x' 111 j = x 111 j) : oQ c' x' := by
  obtain ⟨r1, r2, r3, r4, r6, r7, r8, r9⟩ := h
  have gc : ∀ k, k < 105 → c' k = c k := fun k a => hc k (by omega) (by omega)
  have gx : ∀ k, 112 ≤ k → k < 139 → x' k = x k := fun k a b => hx k (by omega) (by omega)
  have gs : ∀ j, j < 33 → x' 111 j = x 111 j := fun j a => hs j (by omega)
  exact ⟨r1.cg (fun k a b => gc k (by omega)) (fun k a b => gx k (by omega) (by omega)), r2.cg (fun k a => gc k (by omega)) (by rw [gc 101 (by omega)]) (gs 16 (by omega)) (fun k a => gx k (by omega) (by omega)), r3.cg (gs 16 (by omega)) (fun k a => gx k (by omega) (by omega)), r4.cg (fun k a b => gc k (by omega)) (by rw [gc 103 (by omega)]) (gs 28 (by omega)) (fun k a => gx k (by omega) (by omega)), r6.cg (gc 93 (by omega)) (gc 94 (by omega)) (gc 95 (by omega)) (fun j a => gs j (by omega)) (gx 116 (by omega) (by omega)) (gx 117 (by omega) (by omega)), r7.cg (fun k a b => gc k (by omega)) (gs 9 (by omega)) (fun k a b => gx k (by omega) (by omega)), by rw [hc 107 (by decide) (by decide), hs 35 (by decide)]; exact r8, r9.cg (hc 108 (by decide) (by decide)) (hc 109 (by decide) (by decide)) (gx 122 (by omega) (by omega)) (gx 123 (by omega) (by omega))⟩
theorem xa_note1 (hC : io_CI c) (hS : io_Sc c) (hj : 0 ≤ (c 105 1).toInt ∧ (c 105 1).toInt < 100000) (hp : ∀ c1, io_CI c1 → io_Fr c c1 → cN c n c1 → pv c1) : wp_X4_note c n pv := by
  have hs := sp_note1 (x := n) (pv := fun s => io_CI s ∧ io_Fr c s) hC hS hj (fun s a b _ _ => ⟨a, b⟩)
  have z := l_300
  refine ⟨fun q s3 e3 => ?_, fun q => ⟨(hs.2 q).1, fun s5 e5 s7 e7 => ?_⟩⟩
  · have g := hs.1 q s3 e3
    have hq := pz_le.mp q
    refine hp s3 g.1 g.2 ⟨fun k a b => by rw [e3, pu_ne a], by rw [e3, pu_self], fun t => by omega, fun _ => by rw [e3, pu_ne (by decide)]⟩
  · have g := (hs.2 q).2 s5 e5 s7 e7
    have hq := pz_nle q
    refine hp s7 g.1 g.2 ⟨fun k a b => by rw [e7, pu_ne a, e5, pu_ne b], by rw [e7, pu_self, e5, pu_ne (by decide)], fun _ => by rw [e7, pu_ne (by decide), e5, pu_row], fun t => by omega⟩
theorem xa_ntL {c0 : io_M} (he : 0 ≤ e) (hv : 0 ≤ v.toInt ∧ v.toInt ≤ 40) (hp : ∀ c1, io_WI b0 e c1 → io_Fr c0 c1 → (∀ k, k ≠ 105 → k ≠ 106 → c1 k = c0 k) → jm (c0 105 1) (c0 106) n v.toInt (c1 105 1) (c1 106) → pv c1) : ∀ (f : Nat) (c : io_M) (y : Int32), io_CI c → io_Sc c → io_Fr c0 c → 0 ≤ y.toInt → y.toInt ≤ v.toInt → 40 - y.toInt < f → (∀ k, k ≠ 105 → k ≠ 106 → c k = c0 k) → jm (c0 105 1) (c0 106) n y.toInt (c 105 1) (c 106) → (0 ≤ (c 107 10).toInt ∧ (c 107 10).toInt ≤ 600 ∧ 0 ≤ (c 105 1).toInt ∧ (c 105 1).toInt + 41 * e + (41 - y.toInt) ≤ 41 * (c 107 10).toInt ∧ 0 ≤ (c 93 4).toInt ∧ (c 93 4).toInt + e ≤ b0 + (c 107 10).toInt) → wl_X8_noteTimes_2 f c n v y pv := by
  intro f
  induction f with
  | zero => intro c y _ _ _ _ h1 h2; exact absurd h2 (by omega)
  | succ f ih =>
    intro c y hC hS hF h0 h1 h2 hk hj h3
    unfold wl_X8_noteTimes_2
    refine ⟨fun q => hp c ⟨hC, hS, ?_⟩ hF hk ?_, fun q => xa_note1 hC hS ⟨h3.2.2.1, by omega⟩ (fun c1 hC' hF' hN => ?_)⟩
    · unfold io_Bd; omega
    · have := pz_le.mp q
      have e1 : v.toInt = y.toInt := by omega
      rw [e1]; exact hj
    · have hc := pz_nle q
      have e2 := pz_1 (x := y) (by omega)
      have j1 := jm_1 (a := c 105 1) (f := c 106) ⟨h3.2.2.1, by omega⟩ hN.2.1 hN.2.2.1 hN.2.2.2
      have j2 := jm_tr hj j1 h0 (by omega)
      refine ih c1 _ hC' (hS.of hF') (hF.tr hF') (by omega) (by omega) (by omega) (fun k a b => (hN.1 k a b).trans (hk k a b)) (by rw [e2]; exact j2) ?_
      rw [hN.1 107 (by decide) (by decide), hN.1 93 (by decide) (by decide), j1.1]
      omega
theorem xa_noteTimes (hw : io_WI b0 (e + 1) c) (he : 0 ≤ e) (hv : 0 ≤ v.toInt ∧ v.toInt ≤ 40) (hp : ∀ c1, io_WI b0 e c1 → io_Fr c c1 → (∀ k, k ≠ 105 → k ≠ 106 → c1 k = c k) → jm (c 105 1) (c 106) n v.toInt (c1 105 1) (c1 106) → pv c1) : wp_X8_noteTimes c n v pv := by
  have hb := hw.bd (by omega)
  obtain ⟨h1, h2, a, b, d, g, f, l⟩ := hw
  have z := l_0
  exact ⟨41, xa_ntL he hv hp 41 c 0 h1 h2 io_Fr.rf (by omega) (by omega) (by omega) (fun _ _ _ => rfl) (by rw [z]; exact jm_0) (by omega)⟩
/-- the reference notes, its order apart -/
theorem en_noteQ (hM : rM b0 P (m + 1) σ0 x) (hm : 0 ≤ m) (hR : oQ c x) (hp : ∀ x', rM b0 P m σ0 x' → oQ c x' → jm (x 111 33) (x 139) n 1 (x' 111 33) (x' 139) → (∀ k, k ≠ 111 → k ≠ 139 → x' k = x k) → (∀ j, j ≠ 33 → x' 111 j = x 111 j) → pv x') : wp_X10_note x n pv := by
  have hs := sr_note (n := n) (pv := fun s => rM b0 P m σ0 s ∧ (∀ k, k ≠ 111 → k ≠ 139 → s k = x k) ∧ (∀ j, j ≠ 33 → s 111 j = x 111 j)) hM hm (fun s a b d => ⟨a, b, d⟩)
  have hb1 := hM.2.2.2.2.2.1
  have hb2 := hM.2.2.2.2.2.2.1
  have hb3 := hM.2.2.2.2.1
  have z := l_300
  have key : ∀ x', rM b0 P m σ0 x' ∧ (∀ k, k ≠ 111 → k ≠ 139 → x' k = x k) ∧ (∀ j, j ≠ 33 → x' 111 j = x 111 j) → x' 111 33 = x 111 33 + 1 → ((x 111 33).toInt < 300 → x' 139 = ru (x 139) (x 111 33).toNatClampNeg n) → (300 ≤ (x 111 33).toInt → x' 139 = x 139) → pv x' := by
    intro x' g h33 h1 h2
    exact hp x' g.1 (hR.toJ (fun _ _ _ => rfl) g.2.1 g.2.2) (jm_1 ⟨hb1, by omega⟩ h33 h1 h2) g.2.1 g.2.2
  refine ⟨fun q s3 e3 => ?_, fun q => ⟨(hs.2 q).1, fun s5 e5 s7 e7 => ?_⟩⟩
  · have hq := pz_le.mp q
    exact key s3 (hs.1 q s3 e3) (by rw [e3, pu_self]) (fun t => by omega) (fun _ => by rw [e3, pu_ne (by decide)])
  · have hq := pz_nle q
    exact key s7 ((hs.2 q).2 s5 e5 s7 e7) (by rw [e7, pu_self, e5, pu_ne (by decide)]) (fun _ => by rw [e7, pu_ne (by decide), e5, pu_row]) (fun t => by omega)
end EJ
