/-! a run, on both sides -/
def oB (c x : io_M) : Prop := oD c x ∧ oJ c x ∧ oC c x ∧ oS c x ∧ c 101 2 = x 111 16 ∧ c 103 1 = x 111 28 ∧ c 107 10 = x 111 35 ∧ c 107 8 = x 111 36 ∧ ((c 107 7 = 3 ∧ x 111 37 = c 107 9) ∨ (¬ c 107 7 = 3 ∧ x 111 37 = -1))
def io_E (b0 : Int) (σ : io_M) : Prop := io_J b0 σ ∧ oB σ σ
section FA
variable {b0 e : Int} {h j k : Nat} {c c' c8 x x' s σ σ0 σ1 : io_M} {n a r p1 y w v : Int32} {post Q : Int32 → io_M → Prop} {pv qv : io_M → Prop}
theorem bg_mono (h : wp_X10_begin x n pv) (hq : ∀ s, pv s → qv s) : wp_X10_begin x n qv := by
  refine ⟨fun q s e => hq _ (h.1 q s e), fun q s3 e3 => ?_⟩
  have g := h.2 q s3 e3
  refine ⟨g.1, fun s5 e5 => ?_⟩
  have g := g.2 s5 e5
  refine ⟨g.1, fun s7 e7 => ?_⟩
  have g := g.2 s7 e7
  exact ⟨g.1, fun s9 e9 s11 e11 => hq _ (g.2 s9 e9 s11 e11)⟩
theorem sw_id : sw x (x 127) = x := by
  funext k
  by_cases u : k = 127
  · rw [u, sw_127]
  · rw [sw_ne u]
theorem xz_13 (hp : ∀ s6, (∀ k, k ≠ 111 → k ≠ 122 → k ≠ 123 → s6 k = σ1 k) → (∀ j, j ≠ 16 → j ≠ 28 → j ≠ 33 → j ≠ 35 → j ≠ 48 → j ≠ 38 → s6 111 j = σ1 111 j) → s6 111 16 = 0 → s6 111 28 = 0 → s6 111 33 = 0 → s6 111 35 = 0 → s6 111 48 = 0 → s6 111 38 = 0 → (∀ j : Nat, j < 6 → s6 122 j = 0 ∧ s6 123 j = 0) → wp_X10_begin s6 p1 (fun s515 => (wp_X10_work s515 (fun s517 => (((s517 111 48) = 1 → wj_X10_run_95 s517 (s517 111 50) post) ∧ (¬ ((s517 111 48) = 1) → wj_X10_run_95 s517 (-1) post)))))) : ∀ (k : Nat) (σ : io_M) (y : Int32), (∀ k, k ≠ 122 → k ≠ 123 → σ k = σ1 k) → (∀ j : Nat, (j : Int) < y.toInt → σ 122 j = 0 ∧ σ 123 j = 0) → 0 ≤ y.toInt → y.toInt ≤ 6 → 6 - y.toInt < k → wl_X10_run_13 k σ p1 y post := by
  intro k
  have z6 : (6 : Int32).toInt = 6 := by decide
  induction k with
  | zero => intro σ y _ _ _ h1 h2; exact absurd h2 (by omega)
  | succ k ih =>
    intro σ y hk hv h0 h1 h2
    unfold wl_X10_run_13
    refine ⟨fun c s1 e1 s2 e2 s3 e3 s4 e4 s5 e5 s6 e6 => ?_, fun c => ?_⟩
    · have hc := pz_le.mp c
      have g : ∀ k, k ≠ 111 → s6 k = σ k := fun k a => by rw [e6, pu_ne a, e5, pu_ne a, e4, pu_ne a, e3, pu_ne a, e2, pu_ne a, e1, pu_ne a]
      refine hp s6 (fun k a b c => by rw [g k a, hk k b c]) (fun j a b c d f g => ?_) ?_ ?_ ?_ ?_ ?_ ?_ (fun j hj => ?_)
      · rw [e6, pu_s g, e5, pu_s f, e4, pu_s d, e3, pu_s c, e2, pu_s b, e1, pu_s a, hk 111 (by decide) (by decide)]
      · rw [e6, pu_s (by decide), e5, pu_s (by decide), e4, pu_s (by decide), e3, pu_s (by decide), e2, pu_s (by decide), e1, pu_self]
      · rw [e6, pu_s (by decide), e5, pu_s (by decide), e4, pu_s (by decide), e3, pu_s (by decide), e2, pu_self]
      · rw [e6, pu_s (by decide), e5, pu_s (by decide), e4, pu_s (by decide), e3, pu_self]
      · rw [e6, pu_s (by decide), e5, pu_s (by decide), e4, pu_self]
      · rw [e6, pu_s (by decide), e5, pu_self]
      · rw [e6, pu_self]
      · rw [g 122 (by decide), g 123 (by decide)]
        exact hv j (by omega)
    · have hc := pz_nle c
      have e2 := pz_1 (x := y) (by omega)
      have hcl := pz_cl y
      have hi : vp_in y 6 := pz_in.mpr ⟨h0, by show y.toInt < 6; omega⟩
      refine ⟨hi, fun s1 e1 => ⟨hi, fun s2 e3 => ih s2 (y + 1) (fun k a b => by rw [e3, pu_ne a, e1, pu_ne b, hk k a b]) (fun j hj => ?_) (by omega) (by omega) (by omega)⟩⟩
      rw [e3, pu_row, pu_ne (k' := 123) (by decide), e1, pu_row, pu_ne (k' := 122) (by decide)]
      by_cases q : j = y.toNatClampNeg
      · rw [q, ru_self, ru_self]
        exact ⟨rfl, rfl⟩
      · rw [ru_ne q, ru_ne q]
        exact hv j (by omega)
/-- behind the work: value, where, closing, the answer -/
theorem xz_fin (hI : rI 99 x) (hD : oD c x) (hH : oH c x) (hT : oT x) (hO : oO r c x) (hb : bS 0 c c8) (hp : ∀ x' g', rI 99 x' → oD c8 x' → oH c8 x' → (∀ k, k ≠ 111 → k ≠ 113 → k ≠ 114 → k ≠ 126 → k ≠ 128 → k ≠ 130 → k ≠ 134 → x' k = x k) → (∀ j, j ≠ 36 → j ≠ 37 → x' 111 j = x 111 j) → x' 111 36 = c 107 8 → ((c 107 7 = 3 ∧ x' 111 37 = c 107 9) ∨ (¬ c 107 7 = 3 ∧ x' 111 37 = -1)) → post (c 107 7) (sw x' g')) : (((x 111 48) = 1 → wj_X10_run_95 x (x 111 50) post) ∧ (¬ ((x 111 48) = 1) → wj_X10_run_95 x (-1) post)) := by
  have z0 := l_0
  have key : ∀ (w7 w6 an : Int32) (s2 : io_M), s2 = io_up (io_up x 111 37 w7) 111 36 w6 → w6 = c 107 8 → ((c 107 7 = 3 ∧ w7 = c 107 9) ∨ (¬ c 107 7 = 3 ∧ w7 = -1)) → an = c 107 7 → ∃ n, wl_X10_run_174 n s2 an 0 post := by
    intro w7 w6 an s2 e2 h6 h7 ha
    have s2k : ∀ k, k ≠ 111 → s2 k = x k := fun k a => by rw [e2, pu_ne a, pu_ne a]
    have s2s : ∀ j, j ≠ 36 → j ≠ 37 → s2 111 j = x 111 j := fun j a b => by rw [e2, pu_s a, pu_s b]
    have t36 : s2 111 36 = c 107 8 := by rw [e2, pu_self]; exact h6
    have t37 : s2 111 37 = w7 := by rw [e2, pu_s (by decide), pu_self]
    have go : ∀ (k : Nat) (t : io_M) (y : Int32), (∀ k, k ≠ 128 → t k = s2 k) → 0 ≤ y.toInt → y.toInt ≤ 20 → 20 - y.toInt < k → wl_X10_run_174 k t an y post := by
      intro k
      induction k with
      | zero => intro t y _ _ h1 h2; exact absurd h2 (by omega)
      | succ k ih =>
        intro t y ht h0 h1 h2
        have hn := hI.2.1.1
        unfold wl_X10_run_174
        rw [ht 111 (by decide), s2s 16 (by decide) (by decide)]
        have tk : ∀ k, k ≠ 111 → k ≠ 128 → t k = x k := fun k a b => by rw [ht k b, s2k k a]
        have ts : ∀ j, j ≠ 36 → j ≠ 37 → t 111 j = x 111 j := fun j a b => by rw [ht 111 (by decide), s2s j a b]
        refine ⟨fun _ => ⟨21, ?_⟩, fun q => ?_⟩
        · have g := hb t (t 127) post an 0 21 z0 (by omega) (fun _ _ => rfl) (rI_cg hI (fun k q => tk k (by omega) (by omega)) (ts 16 (by decide) (by decide)) (ts 28 (by decide) (by decide))) (hD.cg (fun _ _ _ => rfl) (fun k a b => tk k (by omega) (by omega))) (hH.cg (fun _ _ => rfl) rfl (ts 16 (by decide) (by decide)) (fun k a => tk k (by omega) (by omega))) (hT.cg (ts 16 (by decide) (by decide)) (fun k a => tk k (by omega) (by omega))) (fun x' g' i1 i2 i3 i4 => ?_)
          · rw [sw_id] at g
            exact g
          · rw [ha]
            have e111 : x' 111 = t 111 := i4 111 (by decide) (by decide) (by decide) (by decide) (by decide)
            refine hp x' g' i1 i2 i3 (fun k a1 a2 a3 a4 a5 a6 a7 => by rw [i4 k a2 a3 a4 a6 a7, tk k a1 a5]) (fun j a b => by rw [e111, ts j a b]) ?_ ?_
            · rw [e111, ht 111 (by decide)]; exact t36
            · rw [e111, ht 111 (by decide), t37]; exact h7
        · have hq := pz_nle q
          have e1 := pz_1 (x := y) (by omega)
          have hi : vp_in y 20 := pz_in.mpr ⟨h0, by show y.toInt < 20; omega⟩
          exact ⟨hi, hi, fun s e => ih s (y + 1) (fun k a => by rw [e, pu_ne a, ht k a]) (by omega) (by omega) (by omega)⟩
    exact ⟨21, go 21 s2 0 (fun _ _ => rfl) (by omega) (by omega) (by omega)⟩
  have v48 : ∀ (s1 : io_M) (y0 : Int32), s1 = io_up x 111 37 y0 → s1 111 48 = x 111 48 ∧ s1 111 47 = x 111 47 ∧ s1 111 49 = x 111 49 := fun s1 y0 e1 => ⟨by rw [e1, pu_s (by decide)], by rw [e1, pu_s (by decide)], by rw [e1, pu_s (by decide)]⟩
  have u48 : ∀ (s1 s2 : io_M) (y0 y1 : Int32), s1 = io_up x 111 37 y0 → s2 = io_up s1 111 36 y1 → s2 111 48 = x 111 48 ∧ s2 111 46 = x 111 46 := fun s1 s2 y0 y1 e1 e2 => ⟨by rw [e2, pu_s (by decide), e1, pu_s (by decide)], by rw [e2, pu_s (by decide), e1, pu_s (by decide)]⟩
  rcases hO with ⟨_, h48, h46, h47, hs⟩ | ⟨_, h48, h46, h47, h9⟩ | ⟨_, h48, h46, h47⟩ | ⟨_, h48, h46, h47⟩
  · have n3 : ¬ c 107 7 = 3 := by rcases hs with z | z | z <;> rw [z] <;> decide
    refine ⟨fun q => absurd (h48.symm.trans q) (by decide), fun _ s1 e1 => ?_⟩
    obtain ⟨v1, v2, v3⟩ := v48 s1 _ e1
    rw [v1, h48]
    refine ⟨fun _ s2 e2 => ?_, fun z => absurd rfl z⟩
    obtain ⟨u1, u2⟩ := u48 s1 s2 _ _ e1 e2
    rw [u1, h48]
    refine ⟨fun _ => key _ _ _ s2 (by rw [e2, e1]) ?_ (Or.inr ⟨n3, rfl⟩) ?_, fun z => absurd rfl z⟩
    · rw [pu_s (by decide)]; exact h47.symm
    · rw [u2]; exact h46.symm
  · refine ⟨fun _ s1 e1 => ?_, fun q => absurd h48 q⟩
    obtain ⟨v1, v2, v3⟩ := v48 s1 _ e1
    rw [v1, h48]
    refine ⟨fun z => absurd z (by decide), fun _ => ⟨fun z => absurd z (by decide), fun _ s2 e2 => ?_⟩⟩
    obtain ⟨u1, u2⟩ := u48 s1 s2 _ _ e1 e2
    rw [u1, h48]
    refine ⟨fun z => absurd z (by decide), fun _ => ⟨fun _ => key _ _ _ s2 (by rw [e2, e1]) ?_ (Or.inl ⟨h46, h9.symm⟩) h46.symm, fun z => absurd rfl z⟩⟩
    rw [pu_s (by decide)]; exact h47.symm
  · have n3 : ¬ c 107 7 = 3 := by rw [h46]; decide
    refine ⟨fun q => absurd (h48.symm.trans q) (by decide), fun _ s1 e1 => ?_⟩
    obtain ⟨v1, v2, v3⟩ := v48 s1 _ e1
    rw [v1, h48]
    refine ⟨fun z => absurd z (by decide), fun _ => ⟨fun z => absurd z (by decide), fun _ s2 e2 => ?_⟩⟩
    obtain ⟨u1, u2⟩ := u48 s1 s2 _ _ e1 e2
    rw [u1, h48]
    refine ⟨fun z => absurd z (by decide), fun _ => ⟨fun z => absurd z (by decide), fun _ => ⟨fun _ => key _ _ _ s2 (by rw [e2, e1]) ?_ (Or.inr ⟨n3, rfl⟩) h46.symm, fun z => absurd rfl z⟩⟩⟩
    rw [pu_s (by decide)]; exact h47.symm
  · have n3 : ¬ c 107 7 = 3 := by rw [h46]; decide
    refine ⟨fun q => absurd (h48.symm.trans q) (by decide), fun _ s1 e1 => ?_⟩
    obtain ⟨v1, v2, v3⟩ := v48 s1 _ e1
    rw [v1, h48]
    refine ⟨fun z => absurd z (by decide), fun _ => ⟨fun _ s2 e2 => ?_, fun z => absurd rfl z⟩⟩
    obtain ⟨u1, u2⟩ := u48 s1 s2 _ _ e1 e2
    rw [u1, h48]
    exact ⟨fun z => absurd z (by decide), fun _ => ⟨fun z => absurd z (by decide), fun _ => ⟨fun z => absurd z (by decide), fun _ => key _ _ _ s2 (by rw [e2, e1]) h47.symm (Or.inr ⟨n3, rfl⟩) h46.symm⟩⟩⟩
theorem xa_fill108L (hp : ∀ σ', io_CI σ' → (∀ k, k ≠ 108 → σ' k = σ0 k) → (∀ j : Nat, j < 6 → σ' 108 j = v) → pv σ') : ∀ (n : Nat) (σ : io_M) (y : Int32), io_CI σ → (∀ k, k ≠ 108 → σ k = σ0 k) → (∀ j : Nat, (j : Int) < y.toInt → σ 108 j = v) → 0 ≤ y.toInt → y.toInt ≤ 6 → 6 - y.toInt < n → wl_J7_fill_53178_108_5 n σ v y 6 pv := by
  intro n
  induction n with
  | zero => intro σ y _ _ _ _ h1 h2; exact absurd h2 (by omega)
  | succ n ih =>
    intro σ y hC hk hv h0 h1 h2
    have z : (6 : Int32).toInt = 6 := by decide
    have hcl := pz_cl y
    unfold wl_J7_fill_53178_108_5
    refine ⟨fun c => hp _ hC hk (fun j hj => hv j (by have := pz_le.mp c; omega)), fun c => ⟨pz_in.mpr ⟨h0, ?_⟩, fun s e => ?_⟩⟩
    · have := pz_nle c
      show y.toInt < 6
      omega
    · have hc := pz_nle c
      have e2 := pz_1 (x := y) (by omega)
      subst e
      refine ih _ _ (hC.up (ok_w (by omega))) (fun k hk2 => by rw [pu_ne hk2]; exact hk k hk2) (fun j hj => ?_) (by omega) (by omega) (by omega)
      rw [pu_row]
      by_cases q : j = y.toNatClampNeg
      · rw [q, ru_self]
      · rw [ru_ne q]; exact hv j (by omega)
theorem xa_fill109L (hp : ∀ σ', io_CI σ' → (∀ k, k ≠ 109 → σ' k = σ0 k) → (∀ j : Nat, j < 6 → σ' 109 j = v) → pv σ') : ∀ (n : Nat) (σ : io_M) (y : Int32), io_CI σ → (∀ k, k ≠ 109 → σ k = σ0 k) → (∀ j : Nat, (j : Int) < y.toInt → σ 109 j = v) → 0 ≤ y.toInt → y.toInt ≤ 6 → 6 - y.toInt < n → wl_J7_fill_53178_109_5 n σ v y 6 pv := by
  intro n
  induction n with
  | zero => intro σ y _ _ _ _ h1 h2; exact absurd h2 (by omega)
  | succ n ih =>
    intro σ y hC hk hv h0 h1 h2
    have z : (6 : Int32).toInt = 6 := by decide
    have hcl := pz_cl y
    unfold wl_J7_fill_53178_109_5
    refine ⟨fun c => hp _ hC hk (fun j hj => hv j (by have := pz_le.mp c; omega)), fun c => ⟨pz_in.mpr ⟨h0, ?_⟩, fun s e => ?_⟩⟩
    · have := pz_nle c
      show y.toInt < 6
      omega
    · have hc := pz_nle c
      have e2 := pz_1 (x := y) (by omega)
      subst e
      refine ih _ _ (hC.up (ok_w (by omega))) (fun k hk2 => by rw [pu_ne hk2]; exact hk k hk2) (fun j hj => ?_) (by omega) (by omega) (by omega)
      rw [pu_row]
      by_cases q : j = y.toNatClampNeg
      · rw [q, ru_self]
      · rw [ru_ne q]; exact hv j (by omega)
end FA
