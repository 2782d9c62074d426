/-- all but the order from s -/
def nj (c s : io_M) : io_M := fun k => if k = 105 ∨ k = 106 then c k else s k
theorem nj_o {c s : io_M} {k : Nat} (h1 : k ≠ 105) (h2 : k ≠ 106) : nj c s k = s k := if_neg (by omega)
theorem nj_j {c s : io_M} {k : Nat} (h : k = 105 ∨ k = 106) : nj c s k = c k := if_pos h
section EG
variable {c x c' x' c1 σ0 s : io_M} {post Q : Int32 → io_M → Prop} {pv : io_M → Prop} {h i : Nat} {p p1 y v n k r w : Int32} {b0 e m : Int} {P : Nat}
theorem xo_rflush0 {e : Nat} (hS : flS h c 0 r c') (hI : rI e x) (hX : rX b0 P m σ0 x) (he : e = 99 ∨ e = h) (hD : oD c x) (hH : oH c x) (hT : oT x) (hp1 : p1.toNatClampNeg = h) (hp0 : 0 ≤ p1.toInt) (hlt : p1.toInt < (x 111 16).toInt) (hst : x 127 h = 0) (hp : ∀ rr x', rM b0 P m σ0 x' → oD c' x' → oH c' x' → oT x' → rfl_k x x' → x' 130 h = 0 → (rr = 0 ∧ ¬ r = 0 ∨ rr = 1 ∧ r = 0) → post rr x') : wp_X10_flush x p1 post := by
  have hn20 := hI.2.1.1
  have z0 := l_0
  have hI' : rI h x := by
    obtain ⟨hD, hH, hL, hV⟩ := hI
    refine ⟨hD, ⟨hH.1, fun h' hh => ?_⟩, hL, hV⟩
    obtain ⟨g1, g2, g3, g4, g5, g6⟩ := hH.2 h' hh
    refine ⟨g1, g2, g3, g4, g5, fun q => g6 (fun t => ?_)⟩
    rcases he with z | z
    · omega
    · exact q (t.trans z)
  refine ⟨pz_in.mpr ⟨hp0, by show p1.toInt < 20; omega⟩, 22, ?_⟩
  rw [hp1]
  exact hS x p1 (rX b0 P m σ0) post 22 (fun σ k j v hk h => rX_up h (by omega)) hI' hX hD hH hT hp1 hp0 hlt hst (by omega) (fun rr x' a1 a2 a3 a4 a5 a6 a7 a8 => hp rr x' ⟨a1, a2⟩ a5 a6 a7 a3 a4 a8)
theorem cN.up {k j : Nat} (h : cN c n c1) (h1 : k ≠ 105) (h2 : k ≠ 106) : cN (io_up c k j v) n (io_up c1 k j v) := by
  obtain ⟨a1, a2, a3, a4⟩ := h
  refine ⟨fun k' b1 b2 => ?_, ?_, ?_, ?_⟩
  · by_cases q : k' = k
    · rw [q, pu_row, pu_row, a1 k h1 h2]
    · rw [pu_ne q, pu_ne q]; exact a1 k' b1 b2
  · rw [pu_ne (Ne.symm h1), pu_ne (Ne.symm h1)]; exact a2
  · rw [pu_ne (Ne.symm h1), pu_ne (Ne.symm h2), pu_ne (Ne.symm h2)]; exact a3
  · rw [pu_ne (Ne.symm h1), pu_ne (Ne.symm h2), pu_ne (Ne.symm h2)]; exact a4
theorem rM.st (hM : rM b0 P m σ0 x) : rM b0 P m σ0 (io_up x 127 i 2) := ⟨rI_state i 2 hM.1 (by rw [pu_row]) (fun k q => pu_ne (by omega)) (by rw [pu_ne (by decide)]) (by rw [pu_ne (by decide)]) (by decide) (Or.inl rfl), rX_up hM.2 (by omega)⟩
theorem xd_close (hi : i < 20) (hw : io_WI b0 (e + 1) c) (he : 0 ≤ e) (hp : ∀ r c', io_WI b0 e c' → io_Fr c c' → hS c i r c' (fun x p pv => wp_X10_close x n p pv) → post r c') : wp_X8_noteClosing c n i (fun s13 => wp_X2_close s13 i (fun r s => wp_X8_settle s n 0 r post)) := by
  refine ⟨fun h2 => ⟨fun q => absurd q (by decide), fun _ => ⟨fun h7 => absurd h7 (by rw [h2]; decide), fun _ s3 e3 => ?_⟩⟩, fun h2 => ⟨fun _ => xa_note hw he (fun c1 hw1 hF1 hN => ?_), fun q => absurd rfl q⟩⟩
  · have e4 : s3 = c := by rw [e3, ← h2, pu_id]
    rw [e4]
    refine xa_setG (hw.le (by omega)) (by rw [l_0]; omega) (fun a b => hp _ _ a b ?_)
    intro b0 P x p pv hM hR hp1 h0 hlt hk
    have a4 := (hR.2.1.2.2 i (hx_i hp1 h0 hlt)).2.2.2.1
    exact ⟨hx_in hM.1 h0 hlt, fun _ => en_give hM (by omega) hR tv_0 (Or.inl rfl) hk, fun q => absurd (by rw [hp1, ← a4]; exact h2) q⟩
  · have ei : c1 i = c i := hN.1 i (by omega) (by omega)
    refine ⟨fun h7 => xo_flush hi hw1.1 (fun r s hC hF hq s7 e7 => ?_), fun h7 s3 e3 => ?_⟩
    · have hF7 : io_F2 c1 s7 := by rw [e7]; exact hF.up (by omega)
      have hC7 : io_CI s7 := by rw [e7]; exact hC.up (ok_H hi (fun q => by omega) (fun q => by omega))
      have hw7 := hw1.f3 hC7 hF7.to3
      have hFr := hF1.tr hF7.to3.toR
      rw [ei] at h7 hq
      rcases hq with ⟨_, hr, hf⟩ | ⟨h7', _, _⟩
      · -- what the reference does, up to the note
        have sim : ∀ (b0 : Int) (P : Nat) (x : io_M) (p : Int32) (pv : io_M → Prop), rM b0 P 41 x x → oR c x → p.toNatClampNeg = i → 0 ≤ p.toInt → p.toInt < (x 111 16).toInt → (∀ x', r = 0 → rM b0 P 40 x x' → oR s7 x' → wp_X10_gives x' 0 0 pv) → (∀ x', ¬ r = 0 → rM b0 P 40 x x' → oR s7 x' → wp_X10_fails x' n 5 pv) → wp_X10_close x n p pv := by
          intro b0 P x p pv hM hR hp1 h0 hlt k1 k2
          have hlt' := hx_i hp1 h0 hlt
          have hinp := hx_in hM.1 h0 hlt
          have a4 := (hR.2.1.2.2 i hlt').2.2.2.1
          have st : x 127 i = 0 := by rw [← a4]; exact h7
          have go : ∀ (rr : Int32) (t : io_M), rM b0 P 41 x t → oD s t → oH s t → oT t → rfl_k x t → (rr = 0 ∧ ¬ r = 0 ∨ rr = 1 ∧ r = 0) → wj_X10_close_40 t n p rr pv := by
            intro rr t b1 b2 b3 b4 b5 b6
            have e16 : t 111 = x 111 := b5 111 (by decide) (by decide) (by decide) (by decide) (by decide)
            have hRu : oR (nj c s) t := by
              refine hR.dh (by rw [hM.2.2.2.1.2]; decide) ⟨?_, fun k q1 q2 => ?_, fun k q1 => ?_⟩ (fun k q1 q2 q3 q4 q5 q6 q7 q8 q9 q10 => b5 k q2 q3 q4 q6 q10) (b2.cg (fun k q1 q2 => nj_o (by omega) (by omega)) (fun _ _ _ => rfl)) (b3.cg (fun k q => nj_o (by omega) (by omega)) (by rw [nj_o (by decide) (by decide)]) rfl (fun _ _ => rfl)) b4
              · rw [nj_o (by decide) (by decide), hF.1, hN.1 90 (by decide) (by decide)]
              · rw [nj_o (by omega) (by omega), hF.2.1 k q1 q2, hN.1 k (by omega) (by omega)]
              · by_cases t1 : k = 105 ∨ k = 106
                · exact nj_j t1
                · rw [nj_o (by omega) (by omega), hF.2.2 k q1, hN.1 k (by omega) (by omega)]
            have hNu : cN (nj c s) n s := by
              obtain ⟨n1, n2, n3, n4⟩ := hN
              refine ⟨fun k q1 q2 => (nj_o q1 q2).symm, ?_, ?_, ?_⟩
              · rw [nj_j (Or.inl rfl), hF.2.2 105 (by omega)]; exact n2
              · rw [nj_j (Or.inl rfl), nj_j (Or.inr rfl), hF.2.2 106 (by omega)]; exact n3
              · rw [nj_j (Or.inl rfl), nj_j (Or.inr rfl), hF.2.2 106 (by omega)]; exact n4
            refine ⟨hinp, fun s101 e101 => ?_⟩
            rw [hp1] at e101
            rw [e101]
            refine en_note (m := 40) (c := io_up (nj c s) i 7 2) (c1 := s7) b1.st (by omega) (hRu.st b1 hi (by rw [e16]; exact hlt') (Or.inl rfl)) (by rw [e7]; exact hNu.up (by omega) (by omega)) (fun x3 g1 g2 _ _ => ?_)
            rcases b6 with ⟨z1, z2⟩ | ⟨z1, z2⟩
            · exact ⟨fun _ => k2 x3 z2 g1 g2, fun q => absurd z1 q⟩
            · exact ⟨fun q => absurd (z1.symm.trans q) (by decide), fun _ => k1 x3 z2 g1 g2⟩
          refine ⟨hinp, fun q => absurd q (by rw [hp1, st]; decide), fun _ => ⟨hinp, fun q => absurd q (by rw [hp1, st]; decide), fun _ => ?_⟩⟩
          refine xo_rflush0 hf hM.1 hM.2 (Or.inl rfl) (hR.1.cg (fun k q1 q2 => hN.1 k (by omega) (by omega)) (fun _ _ _ => rfl)) (hR.2.1.cg (fun k q => hN.1 k (by omega) (by omega)) (by rw [hN.1 101 (by decide) (by decide)]) rfl (fun _ _ => rfl)) hR.2.2.1 hp1 h0 hlt st (fun rr t b1 b2 b3 b4 b5 _ b6 => ?_)
          rcases b6 with ⟨z1, z2⟩ | ⟨z1, z2⟩
          · exact ⟨fun _ => go 0 t b1 b2 b3 b4 b5 (Or.inl ⟨rfl, z2⟩), fun q => absurd z1 q⟩
          · exact ⟨fun q => absurd (z1.symm.trans q) (by decide), fun _ => go 1 t b1 b2 b3 b4 b5 (Or.inr ⟨rfl, z2⟩)⟩
        rcases hr with hr | hr
        · rw [hr]
          refine xa_setG hw7 (by rw [l_0]; omega) (fun a b => hp _ _ a (hFr.tr b) ?_)
          intro b0 P x p pv hM hR hp1 h0 hlt hk
          exact sim b0 P x p pv hM hR hp1 h0 hlt (fun x' _ g1 g2 => en_give g1 (by omega) g2 tv_0 (Or.inl rfl) hk) (fun x' q => absurd hr q)
        · rw [hr]
          refine xa_setF (k := 5) hw7 (by decide) (by decide) (fun a b => hp _ _ a (hFr.tr b) ?_)
          intro b0 P x p pv hM hR hp1 h0 hlt hk
          exact sim b0 P x p pv hM hR hp1 h0 hlt (fun x' q => absurd (hr.symm.trans q) (by decide)) (fun x' _ g1 g2 => en_fail g1 (by omega) g2 hk)
      · exact absurd h7 h7'
    · rw [ei] at h7
      have hF7 : io_F2 c1 s3 := by rw [e3]; exact io_F2.rf.up (by omega)
      have hC7 : io_CI s3 := by rw [e3]; exact hw1.1.up (ok_H hi (fun q => by omega) (fun q => by omega))
      have hw7 := hw1.f3 hC7 hF7.to3
      have hFr := hF1.tr hF7.to3.toR
      refine xa_setG hw7 (by rw [l_0]; omega) (fun a b => hp _ _ a (hFr.tr b) ?_)
      intro b0 P x p pv hM hR hp1 h0 hlt hk
      have hlt' := hx_i hp1 h0 hlt
      have hinp := hx_in hM.1 h0 hlt
      have a4 := (hR.2.1.2.2 i hlt').2.2.2.1
      rw [a4] at h2 h7
      have st : x 127 i = 1 := by
        rcases (hR.2.2.1 i hlt').1 with q | q | q
        · exact absurd q h7
        · exact q
        · exact absurd q h2
      refine ⟨hinp, fun q => absurd q (by rw [hp1, st]; decide), fun _ => ⟨hinp, fun _ => ⟨hinp, fun s101 e101 => ?_⟩, fun q => absurd (by rw [hp1]; exact st) q⟩⟩
      rw [hp1] at e101
      rw [e101]
      exact en_note (m := 40) (c := io_up c i 7 2) (c1 := s3) hM.st (by omega) (hR.st hM hi hlt' (Or.inl rfl)) (by rw [e3]; exact hN.up (by omega) (by omega)) (fun x3 g1 g2 _ _ => ⟨fun q => absurd q (by decide), fun _ => en_give g1 (by omega) g2 tv_0 (Or.inl rfl) hk⟩)
end EG
