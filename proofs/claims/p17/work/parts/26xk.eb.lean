def lS (n : Int32) (j : Nat) (q : Int32) (c : io_M) (m : Int) (c' : io_M) : Prop := ∀ (b0 : Int) (P : Nat) (σ0 x : io_M) (l : Int32) (pv : io_M → Prop) (f : Nat), rM b0 P (41 - (x 136 j).toInt) σ0 x → oQ c x → l.toNatClampNeg = j → 0 ≤ l.toInt → l.toInt < (x 111 28).toInt → 1 ≤ f → (x 138 j = 0 → 42 - (x 136 j).toInt ≤ f) → (∀ x', rM b0 P 0 σ0 x' → oQ c' x' → jm (x 111 33) (x 139) n m (x' 111 33) (x' 139) → x' 111 28 = x 111 28 → wj_X10_list_178 x' n l q pv) → wl_X10_list_19 f x n l q (x 135 j) pv
section EK
variable {c x c' x' c1 σ0 s : io_M} {post : Int32 → io_M → Prop} {pv : io_M → Prop} {i j : Nat} {p y v n k r w q x2 x3 : Int32} {b0 e m : Int} {P : Nat}
theorem oQ.hl (h : oQ c x) (hc : ∀ k, 80 ≤ k → k < 110 → c' k = c k) (h111 : x' 111 = x 111) (hx : ∀ k, 112 ≤ k → k ≤ 123 → x' k = x k) (hH : oH c' x') (hT : oT x') (hL : oL c' x') : oQ c' x' := by
  obtain ⟨r1, r2, r3, r4, r6, r7, r8, r9⟩ := h
  exact ⟨r1.cg (fun k a b => hc k (by omega) (by omega)) (fun k a b => hx k (by omega) (by omega)), hH, hT, hL, r6.cg (hc 93 (by omega) (by omega)) (hc 94 (by omega) (by omega)) (hc 95 (by omega) (by omega)) (fun j a => by rw [h111]) (hx 116 (by omega) (by omega)) (hx 117 (by omega) (by omega)), r7.cg (fun k a b => hc k (by omega) (by omega)) (by rw [h111]) (fun k a b => hx k (by omega) (by omega)), by rw [hc 107 (by omega) (by omega), h111]; exact r8, r9.cg (hc 108 (by omega) (by omega)) (hc 109 (by omega) (by omega)) (hx 122 (by omega) (by omega)) (hx 123 (by omega) (by omega))⟩
/-- the list has ended -/
theorem oL.en (h : oL c x) (hst : x 127 (x 135 j).toNatClampNeg = 2) : oL c (io_up x 138 j 1) := by
  have gx : ∀ k, k ≠ 138 → (io_up x 138 j 1) k = x k := fun k a => pu_ne a
  unfold oL
  rw [gx 111 (by decide), gx 127 (by decide), gx 135 (by decide), gx 136 (by decide), gx 137 (by decide)]
  refine ⟨h.1, h.2.1, fun l hl => ?_⟩
  obtain ⟨b1, b2, b3, b4⟩ := h.2.2 l hl
  refine ⟨b1, b2, b3, fun q => ?_⟩
  by_cases t : l = j
  · rw [t]; exact hst
  · rw [pu_same t] at q
    exact b4 q
theorem ls_end {l : Int32} {f : Nat} {H : Int32} (hi : vp_in l 20) (hl : l.toNatClampNeg = j) (hf : 1 ≤ f) (he : ¬ x 138 j = 0) (h : wj_X10_list_178 x n l q pv) : wl_X10_list_19 f x n l q H pv := by
  cases f with
  | zero => omega
  | succ f =>
    unfold wl_X10_list_19
    rw [hl]
    exact ⟨hi, fun _ => h, fun _ => ⟨hi, fun t => absurd t he, fun _ => h⟩⟩
theorem lx_in {l : Int32} (hM : rM b0 P m σ0 x) (h0 : 0 ≤ l.toInt) (hlt : l.toInt < (x 111 28).toInt) : vp_in l 20 := pz_in.mpr ⟨h0, by have := hM.1.2.2.1.1; show l.toInt < 20; omega⟩
/-- enough is there already -/
theorem ls_have (h : q.toInt < (c (40 + j) 2).toInt) : lS n j q c 0 c := by
  intro b0 P σ0 x l pv f hM hQ hl h0 hlt hf1 hf2 hk
  have hlt' := hx_i hl h0 hlt
  obtain ⟨b1, b2, b3, b4⟩ := hQ.2.2.2.1.2.2 j hlt'
  have hi := lx_in hM h0 hlt
  have g3 := (hM.1.2.2.1.2.2 j hlt').2.2.1
  rw [b2] at h
  cases f with
  | zero => omega
  | succ f =>
    unfold wl_X10_list_19
    rw [hl]
    exact ⟨hi, fun _ => hk x ⟨hM.1, hM.2.le (by omega)⟩ hQ jm_0 rfl, fun t => absurd (pz_lt.mpr h) t⟩
/-- its handle has been closed -/
theorem ls_shut (hq : (c (40 + j) 2).toInt ≤ q.toInt) (hc : c (40 + j) 1 < 0 ∨ ¬ c (c (40 + j) 1).toNatClampNeg 7 = 1) : lS n j q c 0 c := by
  intro b0 P σ0 x l pv f hM hQ hl h0 hlt hf1 hf2 hk
  have hlt' := hx_i hl h0 hlt
  obtain ⟨b1, b2, b3, b4⟩ := hQ.2.2.2.1.2.2 j hlt'
  have hi := lx_in hM h0 hlt
  obtain ⟨g1, g2, g3, g4⟩ := hM.1.2.2.1.2.2 j hlt'
  have z0 := l_0
  have hclH := pz_cl (x 135 j)
  rw [b1] at hc
  have hHlt : ((x 135 j).toNatClampNeg : Int) < (x 111 16).toInt := by omega
  obtain ⟨a1, a2, a3, a4, a5, a6, a7⟩ := hQ.2.1.2.2 _ hHlt
  rw [a4] at hc
  have st : x 127 (x 135 j).toNatClampNeg = 2 := by
    rcases hc with hc | hc
    · have := pz_lt.mp hc
      omega
    · rcases (hQ.2.2.1 _ hHlt).1 with t | t | t
      · exact absurd t g2
      · exact absurd t hc
      · exact t
  have h20 := hQ.2.1.2.1
  have hiH : vp_in (x 135 j) 20 := pz_in.mpr ⟨g1.1, by show (x 135 j).toInt < 20; omega⟩
  by_cases he : x 138 j = 0
  · have hf := hf2 he
    cases f with
    | zero => omega
    | succ f =>
      unfold wl_X10_list_19
      rw [hl]
      refine ⟨hi, fun _ => hk x ⟨hM.1, hM.2.le (by omega)⟩ hQ jm_0 rfl, fun _ => ⟨hi, fun _ => ⟨hiH, fun _ => ⟨hi, fun s1 e1 => ?_⟩, fun t => absurd st t⟩, fun t => absurd he t⟩⟩
      rw [vz_1] at e1
      have r : ∀ k, k ≠ 138 → s1 k = x k := fun k a => by rw [e1, pu_ne a]
      refine ls_end hi hl (by omega) (by rw [e1, pu_self]; decide) (hk s1 ?_ ?_ (by rw [r 111 (by decide), r 139 (by decide)]; exact jm_0) (by rw [r 111 (by decide)]))
      · rw [e1]; exact rM_up ⟨hM.1, hM.2.le (by omega)⟩ (by omega)
      · exact hQ.hl (fun _ _ _ => rfl) (r 111 (by decide)) (fun k a b => r k (by omega)) (hQ.2.1.cg (fun _ _ => rfl) rfl (by rw [r 111 (by decide)]) (fun k a => r k (by omega))) (hQ.2.2.1.cg (by rw [r 111 (by decide)]) (fun k a => r k (by omega))) (by rw [e1]; exact hQ.2.2.2.1.en st)
  · exact ls_end hi hl hf1 he (hk x ⟨hM.1, hM.2.le (by omega)⟩ hQ jm_0 rfl)
/-- the file has ended -/
theorem ls_eof (hq : (c (40 + j) 2).toInt ≤ q.toInt) (hs0 : ¬ c (40 + j) 1 < 0) (hst : c (c (40 + j) 1).toNatClampNeg 7 = 1) (h20 : (c (40 + j) 1).toNatClampNeg < 20) (hf : 0 ≤ (c (c (40 + j) 1).toNatClampNeg 4).toInt ∧ (c (c (40 + j) 1).toNatClampNeg 4).toInt < 8) (hpl : ¬ (0 ≤ (c (c (40 + j) 1).toNatClampNeg 6).toInt ∧ (c (c (40 + j) 1).toNatClampNeg 6).toInt < (c 91 (c (c (40 + j) 1).toNatClampNeg 4).toNatClampNeg).toInt)) : lS n j q c 0 (io_up c (c (40 + j) 1).toNatClampNeg 7 2) := by
  intro b0 P σ0 x l pv f hM hQ hl h0 hlt hf1 hf2 hk
  have hlt' := hx_i hl h0 hlt
  obtain ⟨b1, b2, b3, b4⟩ := hQ.2.2.2.1.2.2 j hlt'
  have hi := lx_in hM h0 hlt
  obtain ⟨g1, g2, g3, g4⟩ := hM.1.2.2.1.2.2 j hlt'
  have z0 := l_0
  have hclH := pz_cl (x 135 j)
  rw [b1] at hst hf hpl h20 hk
  rw [b2] at hq
  have hHlt : ((x 135 j).toNatClampNeg : Int) < (x 111 16).toInt := by omega
  obtain ⟨a1, a2, a3, a4, a5, a6, a7⟩ := hQ.2.1.2.2 _ hHlt
  have d3 := (hQ.1.1 _ (pn_8 hf)).2.2.1
  have gp := (hM.1.2.1.2 _ hHlt).2.1
  rw [d3, a1, a3] at hpl
  rw [a1] at hf
  rw [a4] at hst
  have h16 := hQ.2.1.2.1
  have hiH : vp_in (x 135 j) 20 := pz_in.mpr ⟨g1.1, by show (x 135 j).toInt < 20; omega⟩
  have he : x 138 j = 0 := by
    by_cases t : x 138 j = 0
    · exact t
    · have := b4 t
      rw [hst] at this
      exact absurd this (by decide)
  have hf3 := hf2 he
  cases f with
  | zero => omega
  | succ f =>
    unfold wl_X10_list_19
    rw [hl]
    refine ⟨hi, fun t => absurd (pz_lt.mp t) (by omega), fun _ => ⟨hi, fun _ => ⟨hiH, fun t => absurd t (by rw [hst]; decide), fun _ => ⟨hiH, hiH, pz_in (n := 8).mpr hf, fun t => absurd ⟨gp, pz_lt.mp t⟩ hpl, fun _ => ⟨hi, fun s5 e5 => ⟨hiH, fun s7 e7 => ?_⟩⟩⟩⟩, fun t => absurd he t⟩⟩
    rw [vz_1] at e5
    have r : ∀ k, k ≠ 138 → k ≠ 127 → s7 k = x k := fun k a b => by rw [e7, pu_ne b, e5, pu_ne a]
    have e138 : s7 138 j = 1 := by rw [e7, pu_ne (by decide), e5, pu_self]
    refine ls_end hi hl (by omega) (by rw [e138]; decide) (hk s7 ?_ ?_ (by rw [r 111 (by decide) (by decide), r 139 (by decide) (by decide)]; exact jm_0) (by rw [r 111 (by decide) (by decide)]))
    · refine ⟨rI_state (x 135 j).toNatClampNeg 2 hM.1 (by rw [e7, pu_row, e5, pu_ne (by decide)]) (fun k q => r k (by omega) (by omega)) (by rw [r 111 (by decide) (by decide)]) (by rw [r 111 (by decide) (by decide)]) (by decide) (Or.inl rfl), ?_⟩
      rw [e7, e5]
      exact rX_up (rX_up (hM.2.le (by omega)) (by omega)) (by omega)
    · have e8 : s7 = io_up (io_up x 127 (x 135 j).toNatClampNeg 2) 138 j 1 := by
        rw [e7, e5]
        funext k'
        by_cases t1 : k' = 127
        · rw [t1, pu_row, pu_ne (by decide), pu_ne (by decide), pu_row]
        · by_cases t2 : k' = 138
          · rw [t2, pu_ne (by decide), pu_row, pu_row, pu_ne (by decide)]
          · rw [pu_ne t1, pu_ne t2, pu_ne t2, pu_ne t1]
      have gc : ∀ k, k ≠ (x 135 j).toNatClampNeg → (io_up c (x 135 j).toNatClampNeg 7 2) k = c k := fun k a => pu_ne a
      refine hQ.hl (fun k a b => gc k (by omega)) (r 111 (by decide) (by decide)) (fun k a b => r k (by omega) (by omega)) ?_ ?_ ?_
      · exact (hQ.2.1.st (v := 2) hM.1.w h20 hHlt).cg (fun _ _ => rfl) rfl (by rw [e8, pu_ne (by decide)]) (fun k a => by rw [e8, pu_ne (by omega)])
      · exact (hQ.2.2.1.st (v := 2) hHlt (Or.inl rfl)).cg (by rw [e8, pu_ne (by decide)]) (fun k a => by rw [e8, pu_ne (by omega)])
      · rw [e8]
        refine (hQ.2.2.2.1.st (v := 2) h20 (Or.inl rfl)).en ?_
        rw [pu_ne (k' := 135) (by decide), pu_self]
theorem ls_imp (h : ∀ (b0 : Int) (P : Nat) (σ0 x : io_M), rI 99 x → oQ c x → (j : Int) < (x 111 28).toInt → False) : lS n j q c m c' := fun b0 P σ0 x l pv f hM hQ hl h0 hlt hf1 hf2 hk => (h b0 P σ0 x hM.1 hQ (hx_i hl h0 hlt)).elim
end EK
