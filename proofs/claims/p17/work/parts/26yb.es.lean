section FB
variable {b0 b1 : Int} {σ s : io_M} {p1 : Int32}
theorem io_E.mono (h : io_E b0 σ) (hb : b0 ≤ b1) : io_E b1 σ := ⟨h.1.mono hb, h.2⟩
/-- run answers alike -/
theorem pe_run {A : Prop} {N : Int32 → Int32 → io_M → Prop} (hA : A) (hb : 0 ≤ b0 ∧ b0 ≤ 1000000) (h : io_E b0 σ) (hp : ∀ r s, io_E (b0 + 600) s → N r r s) : wp_X9_run σ p1 (fun r s => (A ∧ wp_X10_run s p1 (fun r' s' => N r r' s'))) := by
  have z0 := l_0
  have z1 := l_1
  have hw := h.1.1
  have hZ := h.1.2.1
  have e9 := h.1.2.2.2
  have h9 := hZ.2.2.1.1
  have hcl := pz_cl (σ 111 9)
  unfold wp_X9_run wp_X7_length
  refine sp_within (fun q => ⟨fun _ => ⟨hA, sr_isNode h9 (fun _ => ⟨fun _ => hp _ _ (h.mono (by omega)), fun z => absurd rfl z⟩) (fun t => absurd (show _ from ⟨t.1, by rw [e9]; omega⟩) q)⟩, fun z => absurd rfl z⟩) (fun q => ⟨fun z => absurd z (by decide), fun _ => ?_⟩)
  have hn : io_nd σ p1 := q
  refine ⟨7, xa_fill108L (fun s1 hC1 hk1 hv1 => ⟨7, xa_fill109L (fun s2 hC2 hk2 hv2 => ?_) 7 s1 0 hC1 (fun _ _ => rfl) (fun j q => absurd q (by omega)) (by omega) (by omega) (by omega)⟩) 7 σ 0 hw.1 (fun _ _ => rfl) (fun j q => absurd q (by omega)) (by omega) (by omega) (by omega)⟩
  intro s3 e3 s4 e4 s5 e5 s6 e6
  have hk : ∀ k, k ≠ 108 → k ≠ 109 → k ≠ 101 → k ≠ 103 → k ≠ 105 → k ≠ 107 → s6 k = σ k := by
    intro k a b c d f g
    rw [e6, pu_ne g, e5, pu_ne f, e4, pu_ne d, e3, pu_ne c, hk2 k b, hk1 k a]
  have hF : io_Fr σ s6 := ⟨hk 90 (by decide) (by decide) (by decide) (by decide) (by decide) (by decide), fun k h1 h2 => hk k (by omega) (by omega) (by omega) (by omega) (by omega) (by omega), fun k h1 => hk k (by omega) (by omega) (by omega) (by omega) (by omega) (by omega)⟩
  have hC6 : io_CI s6 := by
    rw [e6, e5, e4, e3]
    exact (((hC2.up (ok_101 (by omega))).up (ok_103 (by omega))).up (ok_w (by omega))).up (ok_w (by omega))
  have c101 : s6 101 2 = 0 := by rw [e6, pu_ne (by decide), e5, pu_ne (by decide), e4, pu_ne (by decide), e3, pu_self]
  have c103 : s6 103 1 = 0 := by rw [e6, pu_ne (by decide), e5, pu_ne (by decide), e4, pu_self]
  have c105 : s6 105 1 = 0 := by rw [e6, pu_ne (by decide), e5, pu_self]
  have c107 : s6 107 10 = 0 := by rw [e6, pu_self]
  have c108 : ∀ j : Nat, j < 6 → s6 108 j = 0 := fun j hj => by rw [e6, pu_ne (by decide), e5, pu_ne (by decide), e4, pu_ne (by decide), e3, pu_ne (by decide), hk2 108 (by decide)]; exact hv1 j hj
  have c109 : ∀ j : Nat, j < 6 → s6 109 j = 0 := fun j hj => by rw [e6, pu_ne (by decide), e5, pu_ne (by decide), e4, pu_ne (by decide), e3, pu_ne (by decide)]; exact hv2 j hj
  have hw6 : io_WI b0 0 s6 := by
    refine ⟨hC6, hw.2.1.of hF, ?_⟩
    unfold io_Bd
    rw [hk 93 (by decide) (by decide) (by decide) (by decide) (by decide) (by decide), c107, c105]
    have h3 := hw.2.2.1
    have h4 := hw.2.2.2
    omega
  refine px_work hb.2 62 0 (by omega) s6 p1 1 _ (by omega) (by omega) (by omega) hw6 (hn.of hF) (fun r c7 hw7 hF7 hX => ?_)
  refine ⟨21, xb_close 21 c7 0 _ hw7.1 (by omega) (by omega) (by omega) (fun c8 hC8 hF8 hB => ⟨hA, ?_⟩)⟩
  rw [z0] at hB
  have rg : ∀ k, 111 ≤ k → c8 k = σ k := fun k a => by rw [hF8.2.2 k (by omega), hF7.2.2 k (by omega), hF.2.2 k (by omega)]
  have e107 : c8 107 = c7 107 := hF8.2.2 107 (by omega)
  rw [e9] at q
  refine sr_isNode (by rw [rg 111 (by omega)]; exact h9) (fun t => absurd (show _ from ⟨q.1, by rw [rg 111 (by omega)]; omega⟩) t) (fun _ => ⟨fun z => absurd z (by decide), fun _ => ⟨7, xz_13 (σ1 := c8) (fun t6 r1 r2 t16 t28 t33 t35 t48 t38 tz => ?_) 7 c8 0 (fun _ _ _ => rfl) (fun j q => absurd q (by omega)) (by omega) (by omega) (by omega)⟩⟩)
  have r6 : ∀ k, 112 ≤ k → k ≠ 122 → k ≠ 123 → t6 k = σ k := fun k a b d => by rw [r1 k (by omega) b d, rg k (by omega)]
  have rs : ∀ j, j ≠ 16 → j ≠ 28 → j ≠ 33 → j ≠ 35 → j ≠ 48 → j ≠ 38 → t6 111 j = σ 111 j := fun j a b c d f g => by rw [r2 j a b c d f g, rg 111 (by omega)]
  obtain ⟨hD0, hC0, hN0, h40, h50⟩ := hZ
  have hI6 : rI 99 t6 := by
    unfold rI
    rw [t16, t28, r6 113 (by omega) (by decide) (by decide)]
    refine ⟨hD0, ⟨by omega, fun h q => absurd q (by omega)⟩, ⟨by omega, ?_, fun l q => absurd q (by omega)⟩, fun j hj => ?_⟩
    · rw [z0]; exact Int.le_refl _
    · rw [(tz j hj).1]; exact tv_0
  have hC6' : rC t6 := by unfold rC; rw [rs 4 (by decide) (by decide) (by decide) (by decide) (by decide) (by decide), rs 5 (by decide) (by decide) (by decide) (by decide) (by decide) (by decide)]; exact hC0
  have t9 : t6 111 9 = σ 111 9 := rs 9 (by decide) (by decide) (by decide) (by decide) (by decide) (by decide)
  have hN6 : rN t6 := by unfold rN; rw [t9, r6 118 (by omega) (by decide) (by decide), r6 119 (by omega) (by decide) (by decide), r6 120 (by omega) (by decide) (by decide), r6 121 (by omega) (by decide) (by decide)]; exact hN0
  have hB6 : rB b0 0 t6 := by
    unfold rB
    rw [t35, t33, rs 7 (by decide) (by decide) (by decide) (by decide) (by decide) (by decide)]
    omega
  have hS6 : rS b0 0 t6 := ⟨hI6, hC6', hN6, by rw [t38]; exact z0, hB6⟩
  have hR6 : oR s6 t6 := ⟨h.2.1.cg (fun k a b => hk k (by omega) (by omega) (by omega) (by omega) (by omega) (by omega)) (fun k a b => r6 k (by omega) (by omega) (by omega)), ⟨by rw [c101, t16], by rw [t16]; omega, fun h hh => absurd hh (by rw [t16]; omega)⟩, fun h hh => absurd hh (by rw [t16]; omega), ⟨by rw [c103, t28], by rw [t28]; omega, fun l hl => absurd hl (by rw [t28]; omega)⟩, ⟨by rw [c105, t33], fun i hi hj => absurd hj (by rw [t33]; omega)⟩, h.2.2.2.1.cg (hk 93 (by decide) (by decide) (by decide) (by decide) (by decide) (by decide)) (hk 94 (by decide) (by decide) (by decide) (by decide) (by decide) (by decide)) (hk 95 (by decide) (by decide) (by decide) (by decide) (by decide) (by decide)) (fun j a => rs j (by omega) (by omega) (by omega) (by omega) (by omega) (by omega)) (r6 116 (by omega) (by decide) (by decide)) (r6 117 (by omega) (by decide) (by decide)), h.2.2.2.2.1.cg (fun k a b => hk k (by omega) (by omega) (by omega) (by omega) (by omega) (by omega)) t9 (fun k a b => r6 k (by omega) (by omega) (by omega)), by rw [c107, t35], Or.inr (fun j hj => ⟨by rw [c108 j hj, (tz j hj).1], by rw [c109 j hj, (tz j hj).2], Or.inl (c108 j hj)⟩)⟩
  have hnn := hN0.2.1
  refine bg_mono (hX 0 t6 _ 1203 rfl hS6 t48 (by omega) q.1 (by rw [t9]; exact q.2) hR6 (by rw [t35, z0]; omega) (by omega) (fun x' q1 q2 q3 q4 k hk0 hfu => ?_)) (fun s hs => ⟨1203, hs⟩)
  obtain ⟨k', rfl⟩ : ∃ k', k = k' + 1 := ⟨k - 1, by omega⟩
  have hmo := q1.2.2.1
  have hB' : rB b0 0 x' := by
    rcases q1.2.2.2 with ⟨u1, u2⟩ | ⟨u1, u2, u3, u4⟩
    · exact u2
    · exact u3
  have fin := xz_fin (r := r) (c := c7) (c8 := c8) (post := fun r' s' => N (c8 107 7) r' s') q1.1 q2.1 q2.2.1 q2.2.2.1 q3 hB (fun x2 g2 i1 i2 i3 i4 i5 i6 i7 => ?_)
  · unfold wl_X10_work_0
    rcases q1.2.2.2 with ⟨u1, u2⟩ | ⟨u1, u2, u3, u4⟩
    · exact ⟨fun _ => fin, fun _ => ⟨fun _ => fin, fun z => absurd u1 z⟩⟩
    · exact ⟨fun _ => fin, fun z => absurd (pz_le.mpr (by omega)) z⟩
  · show N (c8 107 7) (c7 107 7) (sw x2 g2)
    rw [e107]
    have Fk : ∀ k, k ≠ 127 → sw x2 g2 k = x2 k := fun k a => sw_ne a
    have Fx : ∀ k, k ≠ 111 → k ≠ 113 → k ≠ 114 → k ≠ 126 → k ≠ 127 → k ≠ 128 → k ≠ 130 → k ≠ 134 → sw x2 g2 k = x' k := fun k a1 a2 a3 a4 a5 a6 a7 a8 => by rw [Fk k a5, i4 k a1 a2 a3 a4 a6 a7 a8]
    have Fs : ∀ j, j ≠ 36 → j ≠ 37 → sw x2 g2 111 j = x' 111 j := fun j a b => by rw [Fk 111 (by decide), i5 j a b]
    have Fc : ∀ k, k < 111 → sw x2 g2 k = c8 k := fun k a => by rw [Fx k (by omega) (by omega) (by omega) (by omega) (by omega) (by omega) (by omega) (by omega), hmo.1 k (Or.inl a), r1 k (by omega) (by omega) (by omega)]
    have c87 : ∀ k, 92 ≤ k → c8 k = c7 k := fun k a => hF8.2.2 k a
    have F7 : ∀ k, 92 ≤ k → k < 111 → sw x2 g2 k = c7 k := fun k a b => by rw [Fc k b, c87 k a]
    have hFI : io_FI (b0 + 600) c8 := by
      refine ⟨hC8, hw7.2.1.of hF8.to3.toR, ?_⟩
      obtain ⟨_, _, g1, g2, g3, g4, g5, g6⟩ := hw7
      rw [hF8.2.2 93 (by omega)]
      omega
    have hN' := hN6.of hmo
    have oS' := q2.2.2.2.2.2.2.1
    refine hp _ _ ⟨⟨hFI.of Fc, ⟨?_, ?_, ?_, ?_, ?_, ?_⟩, fun j hj => ?_, ?_⟩, ⟨i2.cg (fun k a b => Fc k (by omega)) (fun k a b => Fk k (by omega)), q2.2.2.2.2.1.cg (by rw [F7 105 (by omega) (by omega)]) (F7 106 (by omega) (by omega)) (Fs 33 (by decide) (by decide)) (Fx 139 (by decide) (by decide) (by decide) (by decide) (by decide) (by decide) (by decide) (by decide)), q2.2.2.2.2.2.1.cg (F7 93 (by omega) (by omega)) (F7 94 (by omega) (by omega)) (F7 95 (by omega) (by omega)) (fun j a => Fs j (by omega) (by omega)) (Fx 116 (by decide) (by decide) (by decide) (by decide) (by decide) (by decide) (by decide) (by decide)) (Fx 117 (by decide) (by decide) (by decide) (by decide) (by decide) (by decide) (by decide) (by decide)), oS'.cg (fun k a b => F7 k (by omega) (by omega)) (Fs 9 (by decide) (by decide)) (fun k a b => Fx k (by omega) (by omega) (by omega) (by omega) (by omega) (by omega) (by omega) (by omega)), ?_, ?_, ?_, ?_, ?_⟩⟩
    · rw [Fk 113 (by decide)]; exact i1.1
    · unfold rC; rw [Fs 4 (by decide) (by decide), Fs 5 (by decide) (by decide)]; exact q1.2.1
    · unfold rN; rw [Fs 9 (by decide) (by decide), Fx 118 (by decide) (by decide) (by decide) (by decide) (by decide) (by decide) (by decide) (by decide), Fx 119 (by decide) (by decide) (by decide) (by decide) (by decide) (by decide) (by decide) (by decide), Fx 120 (by decide) (by decide) (by decide) (by decide) (by decide) (by decide) (by decide) (by decide), Fx 121 (by decide) (by decide) (by decide) (by decide) (by decide) (by decide) (by decide) (by decide)]; exact hN'
    · obtain ⟨g1, g2, g3, g4, g5⟩ := hB'
      rw [Fs 7 (by decide) (by decide)]; omega
    · rw [Fk 111 (by decide)]; exact i1.2.1.1
    · rw [Fs 33 (by decide) (by decide)]; exact hB'.2.1
    · rw [Fc 90 (by omega), Fk 115 (by decide)]; exact (i2.1 j hj).2.1
    · rw [F7 96 (by omega) (by omega), Fs 9 (by decide) (by decide)]; exact oS'.1
    · rw [Fc 101 (by omega), Fk 111 (by decide)]; exact i3.1
    · rw [F7 103 (by omega) (by omega), Fs 28 (by decide) (by decide)]; exact q2.2.2.2.1.1
    · rw [F7 107 (by omega) (by omega), Fs 35 (by decide) (by decide)]; exact q2.2.2.2.2.2.2.2.1
    · rw [F7 107 (by omega) (by omega), Fk 111 (by decide)]; exact i6.symm
    · rw [F7 107 (by omega) (by omega), Fk 111 (by decide)]; exact i7
end FB
