theorem nd_dk : ∀ m : Nat, m < 29 → (nI m = 0 ∨ nI m = 1 ∨ nI m = 2 ∨ nI m = 3 ∨ nI m = 15 ∨ nI m = 16 ∨ nI m = 18 ∨ nI m = 24) ∨ io_b1 m = 0 := by decide
theorem pz_nI_of {c : Int32} (h : 0 ≤ c.toInt) : c = nI c.toNatClampNeg := by
  apply Int32.toInt_inj.mp
  have hb := pz_b c
  rw [pz_cl, pz_nI (by omega)]
  omega
theorem nd_dflt {c : Int32} (h0 : 0 ≤ c.toInt) (h28 : c.toInt ≤ 28) (n0 : ¬ c = 0) (n1 : ¬ c = 1) (n2 : ¬ c = 2) (n3 : ¬ (c = 3 ∨ c = 15 ∨ c = 16 ∨ c = 18)) (n4 : ¬ c = 24) : io_b1 c.toNatClampNeg = 0 := by
  have e := pz_nI_of h0
  rcases nd_dk c.toNatClampNeg (by rw [pz_cl]; omega) with q | q
  · rw [← e] at q
    rcases q with q | q | q | q | q | q | q | q
    · exact absurd q n0
    · exact absurd q n1
    · exact absurd q n2
    · exact absurd (Or.inl q) n3
    · exact absurd (Or.inr (Or.inl q)) n3
    · exact absurd (Or.inr (Or.inr (Or.inl q))) n3
    · exact absurd (Or.inr (Or.inr (Or.inr q))) n3
    · exact absurd q n4
  · exact q
section PX
variable {K : io_M → Int32 → Int32 → (Int32 → io_M → Prop) → Prop} {σ : io_M} {p1 p2 p3 p4 x : Int32} {post : Int32 → io_M → Prop} {pv : io_M → Prop} {b0 e lim : Int}
theorem sk_work (hb : b0 ≤ 1000000) (hK : io_KS b0 (e + 1) lim K) (hd : p2.toInt = e + 1) (he : 0 ≤ e) (hl : lim ≤ e + 2) (hw : io_WI b0 e σ) (hn : io_nd σ p1) (hp : ∀ r σ', io_WI b0 e σ' → io_Fr σ σ' → post r σ') : wb_X8_work K σ p1 p2 post := by
  have z6 := l_600
  have z60 := l_60
  refine ⟨fun _ => sp_stop hw (fun s a b => hp _ _ a b), fun c => ⟨fun d s7 e7 => ?_, fun _ => sp_stop hw (fun s a b => hp _ _ a b)⟩⟩
  have hc := pz_nle c
  have hd60 := pz_le.mp d
  have he2 : 0 ≤ e ∧ e ≤ 59 := by omega
  have hF7 : io_Fr σ s7 := by rw [e7]; exact io_Fr.rf.up (by omega)
  have hw7 : io_WI b0 (e + 1) s7 := by
    obtain ⟨h1, h2, g1, g2, g3, g4, g5, g6⟩ := hw
    refine ⟨by rw [e7]; exact h1.up (ok_w (by omega)), h2.of hF7, ?_⟩
    unfold io_Bd
    rw [e7, pu_self, pu_ne (k' := 105) (by decide), pu_ne (k' := 93) (by decide), pz_1 (by omega)]
    omega
  have hn7 := hn.of hF7
  have hk := hn7.ok hw7.2.1
  have hin := hn7.in hw7.2.1
  have hp7 : ∀ r σ', io_WI b0 e σ' → io_Fr s7 σ' → post r σ' := fun r s a b => hp r s a (hF7.tr b)
  have hp7' : ∀ r σ', io_WI b0 (e + 1) σ' → io_Fr s7 σ' → post r σ' := fun r s a b => hp7 r s (a.le (by omega)) b
  have na : io_b1 (s7 97 p1.toNatClampNeg).toNatClampNeg = 0 → io_nd s7 (s7 98 p1.toNatClampNeg) := fun q => nd_lt hn7 (nd_0 hk.2.2.1 q)
  have nb : io_b2 (s7 97 p1.toNatClampNeg).toNatClampNeg = 0 → io_nd s7 (s7 99 p1.toNatClampNeg) := fun q => nd_lt hn7 (nd_0 hk.2.2.2.1 q)
  have nc : io_b3 (s7 97 p1.toNatClampNeg).toNatClampNeg = 0 → io_nd s7 (s7 100 p1.toNatClampNeg) := fun q => nd_lt hn7 (nd_0 hk.2.2.2.2 q)
  refine ⟨hin, fun _ => ⟨hin, sp_give hw7 (fun s a b => hp7' _ _ a b)⟩, fun n0 => ⟨fun c1 => ?_, fun n1 => ⟨fun c2 => ?_, fun n2 => ⟨fun c3 => ?_, fun n3 => ⟨fun c5 => ?_, fun n5 => ⟨fun c8 => ?_, fun n8 => ⟨fun c9 => ?_, fun n9 => ⟨fun c17 => ?_, fun n17 => ⟨fun c19 => ?_, fun n19 => ⟨fun c21 => ?_, fun n21 => ⟨fun c24 => ⟨hin, sp_fail hw7 (fun s a b => hp7' _ _ a b)⟩, fun n24 => ⟨fun c26 => ?_, fun n26 => ⟨fun c27 => ?_, fun n27 => ⟨fun c28 => ?_, fun n28 => ?_⟩⟩⟩⟩⟩⟩⟩⟩⟩⟩⟩⟩⟩⟩
  · have h6 := hk.2.2.1
    rw [c1] at h6
    have h6 := pz_in (n := 6).mpr (nd_b h6 6 (by decide) (by decide))
    exact ⟨hin, h6, hin, h6, sp_give hw7 (fun s a b => hp7' _ _ a b)⟩
  · have h6 := hk.2.2.1
    rw [c2] at h6
    exact sk_set hK hd he2 hl hw7 hn7 (nd_b h6 6 (by decide) (by decide)) (nb (by rw [c2]; decide)) hp7
  · refine sk_alone he hw7 hn7 (fun q => ?_) (fun q => ?_) (fun q => ?_) hp7
    · have h8 := hk.2.2.1
      rw [q] at h8
      exact nd_b h8 8 (by decide) (by decide)
    · have h8 := hk.2.2.1
      rw [q] at h8
      exact nd_b h8 8 (by decide) (by decide)
    · have h8 := hk.2.2.1
      have h9 := hk.2.2.2.1
      rw [q] at h8 h9
      exact ⟨nd_b h8 8 (by decide) (by decide), nd_b h9 8 (by decide) (by decide)⟩
  · refine sk_handleNum hK hd he2 hl hw7 hn7 (na ?_) (nb ?_) hp7
    · rcases c5 with q | q <;> rw [q] <;> decide
    · rcases c5 with q | q <;> rw [q] <;> decide
  · exact sk_item hK hd he2 hl hw7 hn7 (na (by rw [c8]; decide)) (nb (by rw [c8]; decide)) hp7
  · exact sk_length hK hd he2 hl hw7 hn7 (na (by rw [c9]; decide)) hp7
  · refine sk_numFirst hb hK hd he2 hl hw7 hn7 (na ?_) (fun q => ⟨nb (by rw [q]; decide), nc (by rw [q]; decide)⟩) (fun q1 q2 => nb ?_) hp7
    · rcases c17 with q | q | q | q <;> rw [q] <;> decide
    · rcases c17 with q | q | q | q
      · exact absurd q q1
      · rw [q]; decide
      · rw [q]; decide
      · exact absurd q q2
  · refine ⟨hin, sk_call hK hd he2 hl hw7 (na (by rw [c19]; decide)) (fun r s a b => ⟨fun _ => hp7' _ _ a b, fun _ => ⟨(hn7.of b).in a.2.1, sk_call hK hd he2 hl a ?_ (fun r s2 a2 b2 => ⟨fun _ => hp7' _ _ a2 (b.tr b2), fun _ => hp7' _ _ a2 (b.tr b2)⟩)⟩⟩)⟩
    rw [b.2.1 99 (by omega) (by omega)]
    exact (nb (by rw [c19]; decide)).of b
  · refine sk_two hK hd he2 hl hw7 hn7 (na ?_) (nb ?_) hp7
    · rcases c21 with q | q <;> rw [q] <;> decide
    · rcases c21 with q | q <;> rw [q] <;> decide
  · exact sk_catch hK hd he2 hl hw7 hn7 (na (by rw [c26]; decide)) (nb (by rw [c26]; decide)) hp7
  · refine ⟨hin, sk_call hK hd he2 hl hw7 (na (by rw [c27]; decide)) (fun r s a b => ⟨(hn7.of b).in a.2.1, sk_end hK hd he2 hl a ?_ (fun r s2 a2 b2 => hp7 _ _ a2 (b.tr b2))⟩)⟩
    rw [b.2.1 99 (by omega) (by omega)]
    exact (nb (by rw [c27]; decide)).of b
  · exact sk_bracket hK hd he2 hl hw7 hn7 (na (by rw [c28]; decide)) (nb (by rw [c28]; decide)) (nc (by rw [c28]; decide)) hp7
  · exact sk_handle hK hd he2 hl hw7 hn7 (na (nd_dflt hk.1 hk.2.1 n0 n1 n2 n3 n24)) hp7
theorem sp_work (hb : b0 ≤ 1000000) : ∀ (d : Nat) (e : Int), 0 ≤ e → io_KS b0 e (62 - d) (wp_X8_work d) := by
  intro d
  induction d with
  | zero =>
    intro e he σ n dp post h1 h2 h3
    omega
  | succ d ih =>
    intro e he σ n dp post h1 h2 h3 hw hn hp
    exact sk_work hb (ih (e + 1) (by omega)) h1 he (by omega) hw hn hp
theorem sp_fill108L {σ0 : io_M} (hp : ∀ σ', io_CI σ' → (∀ k, k ≠ 108 → σ' k = σ0 k) → pv σ') : ∀ (n : Nat) (σ : io_M) (y : Int32), io_CI σ → (∀ k, k ≠ 108 → σ k = σ0 k) → 0 ≤ y.toInt → y.toInt ≤ 6 → 6 - y.toInt < n → wl_J7_fill_53178_108_5 n σ x y 6 pv := by
  intro n
  induction n with
  | zero => intro σ y _ _ _ h1 h2; exact absurd h2 (by omega)
  | succ n ih =>
    intro σ y hC hk h0 h1 h2
    have z : (6 : Int32).toInt = 6 := by decide
    unfold wl_J7_fill_53178_108_5
    refine ⟨fun _ => hp _ hC hk, fun c => ⟨pz_in.mpr ⟨h0, ?_⟩, fun s e => ?_⟩⟩
    · have := pz_nle c
      show y.toInt < 6
      omega
    · have hc := pz_nle c
      have e2 := pz_1 (x := y) (by omega)
      subst e
      exact ih _ _ (hC.up (ok_w (by omega))) (fun k hk2 => by rw [pu_ne hk2]; exact hk k hk2) (by omega) (by omega) (by omega)
theorem sp_fill109L {σ0 : io_M} (hp : ∀ σ', io_CI σ' → (∀ k, k ≠ 109 → σ' k = σ0 k) → pv σ') : ∀ (n : Nat) (σ : io_M) (y : Int32), io_CI σ → (∀ k, k ≠ 109 → σ k = σ0 k) → 0 ≤ y.toInt → y.toInt ≤ 6 → 6 - y.toInt < n → wl_J7_fill_53178_109_5 n σ x y 6 pv := by
  intro n
  induction n with
  | zero => intro σ y _ _ _ h1 h2; exact absurd h2 (by omega)
  | succ n ih =>
    intro σ y hC hk h0 h1 h2
    have z : (6 : Int32).toInt = 6 := by decide
    unfold wl_J7_fill_53178_109_5
    refine ⟨fun _ => hp _ hC hk, fun c => ⟨pz_in.mpr ⟨h0, ?_⟩, fun s e => ?_⟩⟩
    · have := pz_nle c
      show y.toInt < 6
      omega
    · have hc := pz_nle c
      have e2 := pz_1 (x := y) (by omega)
      subst e
      exact ih _ _ (hC.up (ok_w (by omega))) (fun k hk2 => by rw [pu_ne hk2]; exact hk k hk2) (by omega) (by omega) (by omega)
/-- between two calls -/
def io_FI (b0 : Int) (σ : io_M) : Prop := io_CI σ ∧ io_Sc σ ∧ 0 ≤ (σ 93 4).toInt ∧ (σ 93 4).toInt ≤ b0
theorem sp_perform (hb : 0 ≤ b0 ∧ b0 ≤ 1000000) (hw : io_FI b0 σ) (hn : io_nd σ p1) (hp : ∀ r σ', io_FI (b0 + 600) σ' → io_Fr σ σ' → post r σ') : wp_X8_perform σ p1 post := by
  have z := l_0
  have z1 := l_1
  refine ⟨7, sp_fill108L (fun s1 hC1 hk1 => ⟨7, sp_fill109L (fun s2 hC2 hk2 => ?_) 7 s1 0 hC1 (fun _ _ => rfl) (by omega) (by omega) (by omega)⟩) 7 σ 0 hw.1 (fun _ _ => rfl) (by omega) (by omega) (by omega)⟩
  intro s3 e3 s4 e4 s5 e5 s6 e6
  have hk : ∀ k, k ≠ 108 → k ≠ 109 → k ≠ 101 → k ≠ 103 → k ≠ 105 → k ≠ 107 → s6 k = σ k := by
    intro k a b c d f g
    rw [e6, pu_ne g, e5, pu_ne f, e4, pu_ne d, e3, pu_ne c, hk2 k b, hk1 k a]
  have hF : io_Fr σ s6 := ⟨hk 90 (by decide) (by decide) (by decide) (by decide) (by decide) (by decide), fun k h1 h2 => hk k (by omega) (by omega) (by omega) (by omega) (by omega) (by omega), fun k h1 => hk k (by omega) (by omega) (by omega) (by omega) (by omega) (by omega)⟩
  have hC6 : io_CI s6 := by
    rw [e6, e5, e4, e3]
    exact (((hC2.up (ok_101 (by omega))).up (ok_103 (by omega))).up (ok_w (by omega))).up (ok_w (by omega))
  have hw6 : io_WI b0 0 s6 := by
    refine ⟨hC6, hw.2.1.of hF, ?_⟩
    unfold io_Bd
    rw [hk 93 (by decide) (by decide) (by decide) (by decide) (by decide) (by decide), e6, pu_self, pu_ne (k' := 105) (by decide), e5, pu_self]
    have h3 := hw.2.2.1
    have h4 := hw.2.2.2
    omega
  refine sp_work hb.2 62 0 (by omega) s6 p1 1 _ (by omega) (by omega) (by omega) hw6 (hn.of hF) (fun r s7 hw7 hF7 => sp_cbr hw7.1 (fun s8 hC8 hF8 => hp _ _ ⟨hC8, ?_, ?_⟩ ((hF.tr hF7).tr hF8.to3.toR)))
  · exact hw7.2.1.of hF8.to3.toR
  · obtain ⟨q1, q2, g1, g2, g3, g4, g5, g6⟩ := hw7
    rw [hF8.2.2 93 (by omega)]
    omega
end PX
