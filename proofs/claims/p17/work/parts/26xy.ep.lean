section EY
variable {K : io_M → Int32 → Int32 → (Int32 → io_M → Prop) → Prop} {b0 e lim : Int} {P : Nat} {c c' c1 c2 x t : io_M} {n a r p p2 T y : Int32} {post : Int32 → io_M → Prop} {Z : io_M → Prop}
theorem e0_0 : (0 : Int32).toNatClampNeg = 0 := by decide
theorem kx_catch (hK : kS b0 (e + 1) lim K) (hd : p2.toInt = e + 1) (he : 0 ≤ e ∧ e ≤ 59) (hl : lim ≤ e + 2) (hw : io_WI b0 (e + 1) c) (hn : io_nd c n) (hq : c 97 n.toNatClampNeg = 26) (ha : 0 ≤ (c 98 n.toNatClampNeg).toInt ∧ (c 98 n.toNatClampNeg).toInt < n.toNatClampNeg) (hb : 0 ≤ (c 99 n.toNatClampNeg).toInt ∧ (c 99 n.toNatClampNeg).toInt < n.toNatClampNeg) (hp : ∀ r c', io_WI b0 e c' → io_Fr c c' → nS b0 e c n r c' → post r c') : wp_X8_workCatch K c n p2 post := by
  refine ⟨hn.in hw.2.1, kx_call hK hd he hl hw (nd_lt hn ha) (fun r1 c1 a b hX => ⟨fun h0 => ⟨fun h7 => ⟨(hn.of b).in a.2.1, fun q => ?_, fun q => ⟨i06, fun s2 e2 => ⟨i06, fun s4 e4 => ?_⟩⟩⟩, fun h7 => ?_⟩, fun h1 => ?_⟩)⟩
  · have e100 : c1 100 = c 100 := b.2.1 100 (by omega) (by omega)
    rw [e100] at q
    rw [h0] at hX
    refine hp _ _ (a.le (by omega)) b (nS_catch0 hn hq ha hX (fun _ => Or.inr (fun z => ?_)))
    rw [q] at z
    exact absurd z (by decide)
  · have e100 : c1 100 = c 100 := b.2.1 100 (by omega) (by omega)
    rw [e100] at q
    rw [h0] at hX
    rw [e0_0] at e2 e4
    have b4 : io_Fr c s4 := by rw [e4, e2]; exact (b.up (by omega)).up (by omega)
    have a4 : io_WI b0 (e + 1) s4 := by rw [e4, e2]; exact (a.w (by omega)).w (by omega)
    have hn4 := hn.of b4
    refine ⟨hn4.in a4.2.1, ?_⟩
    rw [b4.2.1 99 (by omega) (by omega)]
    refine kx_call hK hd he hl a4 ((nd_lt hn hb).of b4) (fun r2 c2 a2 b2 hX2 => hp _ _ (a2.le (by omega)) (b4.tr b2) (nS_catch hn hq ha hb hX h7 (by_1n q) ?_ hX2))
    rw [e4, e2]
  · rw [h0] at hX
    exact hp _ _ (a.le (by omega)) b (nS_catch0 hn hq ha hX (fun _ => Or.inl h7))
  · exact hp _ _ (a.le (by omega)) b (nS_catch0 hn hq ha (hX.one h1) (fun z => absurd z (by decide)))
theorem kx_fin (hK : kS b0 (e + 1) lim K) (hd : p2.toInt = e + 1) (he : 0 ≤ e ∧ e ≤ 59) (hl : lim ≤ e + 2) (hw : io_WI b0 (e + 1) c) (hn : io_nd c n) (hq : c 97 n.toNatClampNeg = 27) (ha : 0 ≤ (c 98 n.toNatClampNeg).toInt ∧ (c 98 n.toNatClampNeg).toInt < n.toNatClampNeg) (hb : 0 ≤ (c 99 n.toNatClampNeg).toInt ∧ (c 99 n.toNatClampNeg).toInt < n.toNatClampNeg) (hp : ∀ r c', io_WI b0 e c' → io_Fr c c' → nS b0 e c n r c' → post r c') : K c (c 98 n.toNatClampNeg) (p2 + 1) (fun r79 s80 => (wp_X7_second s80 n (fun r82 s83 => (wp_X8_workEnd K s83 r82 p2 post)))) := by
  refine kx_call hK hd he hl hw (nd_lt hn ha) (fun r1 c1 a b hX => ⟨(hn.of b).in a.2.1, ?_⟩)
  rw [b.2.1 99 (by omega) (by omega)]
  refine kx_end (n := n) (zs := 143) (zv := 142) (st := 2) hK hd he hl a ((nd_lt hn hb).of b) (fun x hR => Or.inl ⟨?_, rfl, rfl, rfl⟩) hb (fun h5 => hp _ _ (a.le (by omega)) b (nS_fin5 hn hq ha hX h5)) (fun h5 r c' a2 b2 hE => hp _ _ a2 (b.tr b2) (nS_fin hn hq ha hX h5 hE))
  rw [← (nd_s hR (hn.of b)).1, b.2.1 97 (by omega) (by omega)]
  exact hq
theorem kx_bracket (hK : kS b0 (e + 1) lim K) (hd : p2.toInt = e + 1) (he : 0 ≤ e ∧ e ≤ 59) (hl : lim ≤ e + 2) (hw : io_WI b0 (e + 1) c) (hn : io_nd c n) (hq : c 97 n.toNatClampNeg = 28) (ha : 0 ≤ (c 98 n.toNatClampNeg).toInt ∧ (c 98 n.toNatClampNeg).toInt < n.toNatClampNeg) (hb : 0 ≤ (c 99 n.toNatClampNeg).toInt ∧ (c 99 n.toNatClampNeg).toInt < n.toNatClampNeg) (hc : 0 ≤ (c 100 n.toNatClampNeg).toInt ∧ (c 100 n.toNatClampNeg).toInt < n.toNatClampNeg) (hp : ∀ r c', io_WI b0 e c' → io_Fr c c' → nS b0 e c n r c' → post r c') : wp_X8_workBracket K c n p2 post := by
  refine ⟨hn.in hw.2.1, kx_call hK hd he hl hw (nd_lt hn ha) (fun r1 c1 a b hX => ⟨fun h0 => hp _ _ (a.le (by omega)) b (nS_bad hn (by rw [hq]; decide) ha (by rw [h0] at hX; exact hX)), fun h1 => ⟨i56, fun s2 e2 => ⟨i56, fun s4 e4 => ?_⟩⟩⟩)⟩
  have good : ∀ r c', mS b0 e c1 n F1 r c' → nS b0 e c n r c' := fun r c' hM => nS_good hn (by rw [hq]; decide) ha (hX.one h1) hM
  have hn1 := hn.of b
  rw [e5_5] at e2 e4
  have h2 : s4 = io_up (io_up c1 108 5 (c1 107 7)) 109 5 (c1 107 8) := by rw [e4, e2]
  have b4 : io_Fr c1 s4 := by rw [h2]; exact (io_Fr.rf.up (by omega)).up (by omega)
  have a4 : io_WI b0 (e + 1) s4 := by rw [h2]; exact (a.w (by omega)).w (by omega)
  have hn4 := hn1.of b4
  have e97 : c1 97 = c 97 := b.2.1 97 (by omega) (by omega)
  have e99 : c1 99 = c 99 := b.2.1 99 (by omega) (by omega)
  have e100 : c1 100 = c 100 := b.2.1 100 (by omega) (by omega)
  rw [← e97] at hq
  rw [← e99] at hb
  rw [← e100] at hc
  refine ⟨hn4.in a4.2.1, ?_⟩
  rw [b4.2.1 100 (by omega) (by omega)]
  refine kx_call hK hd he hl a4 ((nd_lt hn1 hc).of b4) (fun r3 c3 a3 b3 hX3 => ⟨i56, fun s6 e6 => ⟨i56, fun s8 e8 => ?_⟩⟩)
  rw [e5_5] at e6 e8
  have h4 : s8 = io_up (io_up c3 108 5 (c1 107 7)) 109 5 (c1 107 8) := by rw [e8, e6]
  have b8 : io_Fr c1 s8 := by rw [h4]; exact ((b4.tr b3).up (by omega)).up (by omega)
  have a8 : io_WI b0 (e + 1) s8 := by rw [h4]; exact (a3.w (by omega)).w (by omega)
  have hn8 := hn1.of b8
  refine ⟨hn8.in a8.2.1, ?_⟩
  rw [b8.2.1 99 (by omega) (by omega)]
  refine kx_end (n := n) (zs := 148) (zv := 147) (st := 3) hK hd he hl a8 ((nd_lt hn1 hb).of b8) (fun x hR => Or.inr ⟨?_, rfl, rfl, rfl⟩) hb (fun h5 => hp _ _ (a8.le (by omega)) (b.tr b8) (good _ _ (mS_br5 hn1 hq hc h2 hX3 h4 h5))) (fun h5 r c' a2 b2 hE => hp _ _ a2 ((b.tr b8).tr b2) (good _ _ (mS_br hn1 hq hc h2 hX3 h4 h5 hE)))
  rw [← (nd_s hR hn8).1, b8.2.1 97 (by omega) (by omega)]
  exact hq
theorem xa_stop (hw : io_WI b0 e c) (hp : io_WI b0 e (io_up (io_up c 107 7 5) 107 8 0) → io_Fr c (io_up (io_up c 107 7 5) 107 8 0) → post 0 (io_up (io_up c 107 7 5) 107 8 0)) : wp_X8_stop c post := by
  have hs := sp_stop (post := fun _ s => io_WI b0 e s ∧ io_Fr c s) hw (fun s a b => ⟨a, b⟩)
  have g := hs _ rfl _ rfl
  intro s1 e1 s2 e2
  rw [e2, e1]
  exact hp g.1 g.2
theorem nd_dk3 : ∀ m : Nat, m < 29 → (nI m = 0 ∨ nI m = 1 ∨ nI m = 2 ∨ nI m = 3 ∨ nI m = 15 ∨ nI m = 16 ∨ nI m = 18 ∨ nI m = 5 ∨ nI m = 10 ∨ nI m = 8 ∨ nI m = 9 ∨ nI m = 17 ∨ nI m = 20 ∨ nI m = 23 ∨ nI m = 25 ∨ nI m = 19 ∨ nI m = 21 ∨ nI m = 22 ∨ nI m = 24 ∨ nI m = 26 ∨ nI m = 27 ∨ nI m = 28) ∨ (nI m = 4 ∨ nI m = 6 ∨ nI m = 7 ∨ nI m = 11 ∨ nI m = 12 ∨ nI m = 13 ∨ nI m = 14) := by decide
theorem nd_def {c : Int32} (h0 : 0 ≤ c.toInt) (h28 : c.toInt ≤ 28) (n0 : ¬ c = 0) (n1 : ¬ c = 1) (n2 : ¬ c = 2) (n3 : ¬ (c = 3 ∨ c = 15 ∨ c = 16 ∨ c = 18)) (n5 : ¬ (c = 5 ∨ c = 10)) (n8 : ¬ c = 8) (n9 : ¬ c = 9) (n17 : ¬ (c = 17 ∨ c = 20 ∨ c = 23 ∨ c = 25)) (n19 : ¬ c = 19) (n21 : ¬ (c = 21 ∨ c = 22)) (n24 : ¬ c = 24) (n26 : ¬ c = 26) (n27 : ¬ c = 27) (n28 : ¬ c = 28) : c = 4 ∨ c = 6 ∨ c = 7 ∨ c = 11 ∨ c = 12 ∨ c = 13 ∨ c = 14 := by
  have e := pz_nI_of h0
  rcases nd_dk3 c.toNatClampNeg (by rw [pz_cl]; omega) with q | q
  · rw [← e] at q
    exfalso
    rcases q with q | q | q | q | q | q | q | q | q | q | q | q | q | q | q | q | q | q | q | q | q | q
    · exact n0 q
    · exact n1 q
    · exact n2 q
    · exact n3 (Or.inl q)
    · exact n3 (Or.inr (Or.inl q))
    · exact n3 (Or.inr (Or.inr (Or.inl q)))
    · exact n3 (Or.inr (Or.inr (Or.inr q)))
    · exact n5 (Or.inl q)
    · exact n5 (Or.inr q)
    · exact n8 q
    · exact n9 q
    · exact n17 (Or.inl q)
    · exact n17 (Or.inr (Or.inl q))
    · exact n17 (Or.inr (Or.inr (Or.inl q)))
    · exact n17 (Or.inr (Or.inr (Or.inr q)))
    · exact n19 q
    · exact n21 (Or.inl q)
    · exact n21 (Or.inr q)
    · exact n24 q
    · exact n26 q
    · exact n27 q
    · exact n28 q
  · rw [← e] at q
    exact q
theorem kx_work (hb0 : b0 ≤ 1000000) (hK : kS b0 (e + 1) lim K) (hd : p2.toInt = e + 1) (he : 0 ≤ e) (hl : lim ≤ e + 2) (hw : io_WI b0 e c) (hn : io_nd c n) (hp : ∀ r c', io_WI b0 e c' → io_Fr c c' → cS b0 e c n r c' → post r c') : wb_X8_work K c n p2 post := by
  have z6 := l_600
  have z60 := l_60
  refine ⟨fun q => xa_stop hw (fun a b => hp _ _ a b (cS.stop (by have := pz_le.mp q; omega))), fun q => ⟨fun d s7 e7 => ?_, fun d => xa_stop hw (fun a b => hp _ _ a b (cS.deep (by have := pz_nle d; omega)))⟩⟩
  have hc := pz_nle q
  have hd60 := pz_le.mp d
  have he2 : 0 ≤ e ∧ e ≤ 59 := by omega
  have hF7 : io_Fr c s7 := by rw [e7]; exact io_Fr.rf.up (by omega)
  have hw7 : io_WI b0 (e + 1) s7 := by
    obtain ⟨h1, h2, g1, g2, g3, g4, g5, g6⟩ := hw
    refine ⟨by rw [e7]; exact h1.up (ok_w (by omega)), h2.of hF7, ?_⟩
    unfold io_Bd
    rw [e7, pu_self, pu_ne (k' := 105) (by decide), pu_ne (k' := 93) (by decide), pz_1 (by omega)]
    omega
  have hn7 := hn.of hF7
  have hk := hn7.ok hw7.2.1
  have hin := hn7.in hw7.2.1
  have hp7 : ∀ r c', io_WI b0 e c' → io_Fr s7 c' → nS b0 e s7 n r c' → post r c' := by
    intro r c' a b hX
    rw [e7] at hX
    exact hp r c' a (hF7.tr b) (hX.call (by omega) (by omega))
  have na : io_b1 (s7 97 n.toNatClampNeg).toNatClampNeg = 0 → 0 ≤ (s7 98 n.toNatClampNeg).toInt ∧ (s7 98 n.toNatClampNeg).toInt < n.toNatClampNeg := fun q => nd_0 hk.2.2.1 q
  have nb : io_b2 (s7 97 n.toNatClampNeg).toNatClampNeg = 0 → 0 ≤ (s7 99 n.toNatClampNeg).toInt ∧ (s7 99 n.toNatClampNeg).toInt < n.toNatClampNeg := fun q => nd_0 hk.2.2.2.1 q
  have nc : io_b3 (s7 97 n.toNatClampNeg).toNatClampNeg = 0 → 0 ≤ (s7 100 n.toNatClampNeg).toInt ∧ (s7 100 n.toNatClampNeg).toInt < n.toNatClampNeg := fun q => nd_0 hk.2.2.2.2 q
  refine ⟨hin, fun c0 => ⟨hin, kx_n0 hw7 hn7 c0 hp7⟩, fun n0 => ⟨fun c1 => ?_, fun n1 => ⟨fun c2 => ?_, fun n2 => ⟨fun c3 => ?_, fun n3 => ⟨fun c5 => ?_, fun n5 => ⟨fun c8 => ?_, fun n8 => ⟨fun c9 => ?_, fun n9 => ⟨fun c17 => ?_, fun n17 => ⟨fun c19 => ?_, fun n19 => ⟨fun c21 => ?_, fun n21 => ⟨fun c24 => ⟨hin, kx_n24 hw7 hn7 c24 hp7⟩, fun n24 => ⟨fun c26 => ?_, fun n26 => ⟨fun c27 => ?_, fun n27 => ⟨fun c28 => ?_, fun n28 => ?_⟩⟩⟩⟩⟩⟩⟩⟩⟩⟩⟩⟩⟩⟩
  · have h6 := hk.2.2.1
    rw [c1] at h6
    have h6 := nd_b h6 6 (by decide) (by decide)
    have h6i := pz_in (n := 6).mpr h6
    exact ⟨hin, h6i, hin, h6i, kx_n1 hw7 hn7 c1 h6 hp7⟩
  · have h6 := hk.2.2.1
    rw [c2] at h6
    exact kx_set hK hd he2 hl hw7 hn7 c2 (nd_b h6 6 (by decide) (by decide)) (nb (by rw [c2]; decide)) hp7
  · refine kx_alone he hw7 hn7 (fun q => ?_) (fun q => ?_) (fun q => ?_) c3 hp7
    · have h8 := hk.2.2.1
      have h9 := hk.2.2.2.1
      rw [q] at h8 h9
      exact ⟨nd_b h8 8 (by decide) (by decide), nd_b h9 4 (by decide) (by decide)⟩
    · have h8 := hk.2.2.1
      rw [q] at h8
      exact nd_b h8 8 (by decide) (by decide)
    · have h8 := hk.2.2.1
      have h9 := hk.2.2.2.1
      rw [q] at h8 h9
      exact ⟨nd_b h8 8 (by decide) (by decide), nd_b h9 8 (by decide) (by decide)⟩
  · refine kx_handleNum hK hd he2 hl hw7 hn7 c5 (na ?_) (nb ?_) hp7
    · rcases c5 with q | q <;> rw [q] <;> decide
    · rcases c5 with q | q <;> rw [q] <;> decide
  · exact kx_item hK hd he2 hl hw7 hn7 c8 (na (by rw [c8]; decide)) (nb (by rw [c8]; decide)) hp7
  · exact kx_length hK hd he2 hl hw7 hn7 c9 (na (by rw [c9]; decide)) hp7
  · refine kx_numFirst hb0 hK hd he2 hl hw7 hn7 c17 (na ?_) (fun q1 q2 => nb ?_) (fun q => nc (by rw [q]; decide)) hp7
    · rcases c17 with q | q | q | q <;> rw [q] <;> decide
    · rcases c17 with q | q | q | q
      · exact absurd q q1
      · rw [q]; decide
      · rw [q]; decide
      · exact absurd q q2
  · exact ⟨hin, kx_then hK hd he2 hl hw7 hn7 c19 (na (by rw [c19]; decide)) (nb (by rw [c19]; decide)) hp7⟩
  · refine kx_two hK hd he2 hl hw7 hn7 c21 (na ?_) (nb ?_) hp7
    · rcases c21 with q | q <;> rw [q] <;> decide
    · rcases c21 with q | q <;> rw [q] <;> decide
  · exact kx_catch hK hd he2 hl hw7 hn7 c26 (na (by rw [c26]; decide)) (nb (by rw [c26]; decide)) hp7
  · exact ⟨hin, kx_fin hK hd he2 hl hw7 hn7 c27 (na (by rw [c27]; decide)) (nb (by rw [c27]; decide)) hp7⟩
  · exact kx_bracket hK hd he2 hl hw7 hn7 c28 (na (by rw [c28]; decide)) (nb (by rw [c28]; decide)) (nc (by rw [c28]; decide)) hp7
  · refine kx_handle hK hd he2 hl hw7 hn7 (nd_def hk.1 hk.2.1 n0 n1 n2 n3 n5 n8 n9 n17 n19 n21 n24 n26 n27 n28) (na (nd_dflt hk.1 hk.2.1 n0 n1 n2 n3 n24)) (fun q => ?_) hp7
    have h9 := hk.2.2.2.1
    rw [q] at h9
    exact nd_b h9 10 (by decide) (by decide)
/-- the class's work and the reference's are alike -/
theorem px_work (hb0 : b0 ≤ 1000000) : ∀ (d : Nat) (e : Int), 0 ≤ e → kS b0 e (62 - d) (wp_X8_work d) := by
  intro d
  induction d with
  | zero =>
    intro e he c n dp post h1 h2 h3
    omega
  | succ d ih =>
    intro e he c n dp post h1 h2 h3 hw hn hp
    exact kx_work hb0 (ih (e + 1) (by omega)) h1 he (by omega) hw hn hp
end EY
