def tS (c : io_M) (j : Nat) (r : Int32) (c' : io_M) (V : io_M → Int32 → (io_M → Prop) → Prop) : Prop := ∀ (b0 : Int) (P : Nat) (x : io_M) (l : Int32) (pv : io_M → Prop), rM b0 P 41 x x → oR c x → l.toNatClampNeg = j → 0 ≤ l.toInt → l.toInt < (x 111 28).toInt → (∀ x', rP b0 P x x' → oR c' x' → oO r c' x' → pv x') → V x l pv
section EL
variable {c x c' x' c1 σ0 s : io_M} {post : Int32 → io_M → Prop} {pv : io_M → Prop} {i j S : Nat} {p y v n k r w q x2 x3 : Int32} {b0 e m : Int} {P : Nat}
theorem ls_step (hq : (c (40 + j) 2).toInt ≤ q.toInt) (hj : j < 20) (hS : (c (40 + j) 1).toNatClampNeg = S) (h20 : S < 20) (hst : c S 7 = 1) (hf : 0 ≤ (c S 4).toInt ∧ (c S 4).toInt < 8) (hpl : 0 ≤ (c S 6).toInt ∧ (c S 6).toInt < (c 91 (c S 4).toNatClampNeg).toInt) (gC : ∀ k, k ≠ S → k ≠ 20 + (40 + j) → k ≠ 40 + j → s k = c k) (g6 : s S 6 = c S 6 + 1) (gs : ∀ j, j < 8 → j ≠ 6 → s S j = c S j) (gi : s (20 + (40 + j)) = ru (c (20 + (40 + j))) (c (40 + j) 2).toNatClampNeg (c (80 + (c S 4).toNatClampNeg) (c S 6).toNatClampNeg)) (g1 : s (40 + j) 1 = c (40 + j) 1) (g2 : s (40 + j) 2 = c (40 + j) 2 + 1) (hm : 0 ≤ m) (hI : lS n j q s m c') : lS n j q c (1 + m) c' := by
  intro b0 P σ0 x l pv f hM hQ hl h0 hlt hf1 hf2 hk
  have hlt' := hx_i hl h0 hlt
  obtain ⟨b1, b2, b3, b4⟩ := hQ.2.2.2.1.2.2 j hlt'
  have hi := lx_in hM h0 hlt
  obtain ⟨k1, k2, k3, k4⟩ := hM.1.2.2.1.2.2 j hlt'
  have z0 := l_0
  have hclH := pz_cl (x 135 j)
  have hcll := pz_cl l
  rw [b1] at hS
  have hHlt : ((x 135 j).toNatClampNeg : Int) < (x 111 16).toInt := by omega
  rw [hS] at hHlt k2 k4
  obtain ⟨a1, a2, a3, a4, a5, a6, a7⟩ := hQ.2.1.2.2 _ hHlt
  obtain ⟨d1, d2, d3, d4, d5, d6, d7⟩ := hQ.1.1 _ (pn_8 hf)
  obtain ⟨f1, f2, f3, f4⟩ := hM.1.2.1.2 _ hHlt
  have h16 := hQ.2.1.2.1
  have h28 := hQ.2.2.2.1.2.1
  rw [d3] at hpl
  have hcl6 := pz_cl (c S 6)
  have d8 := d7 (c S 6).toNatClampNeg (by omega)
  rw [d8] at gi
  rw [a1] at hf hpl gi d6
  rw [a3] at hpl gi g6
  rw [a4] at hst
  rw [b2] at hq gi g2
  have hiH : vp_in (x 135 j) 20 := pz_in.mpr ⟨k1.1, by show (x 135 j).toInt < 20; omega⟩
  have he : x 138 j = 0 := by
    by_cases t : x 138 j = 0
    · exact t
    · have := b4 t
      rw [hS, hst] at this
      exact absurd this (by decide)
  have hf3 := hf2 he
  have k4' := k4 (by rw [hst]; decide)
  have eu := pz_1 (x := x 136 j) (by omega)
  have eq := pz_1 (x := x 126 S) (by omega)
  have i41 := pn_41 (f := x 124 S) (p := x 126 S) (by omega) (by omega)
  have e41 := pz_41 (x := x 124 S) (y := x 126 S) (by omega) (by omega)
  have i42 := pn_41 (f := l) (p := x 136 j) (by omega) (by omega)
  have e42 := pz_41 (x := l) (y := x 136 j) (by omega) (by omega)
  rw [hl] at i42
  have hc136 := pz_cl (x 136 j)
  cases f with
  | zero => omega
  | succ f =>
    unfold wl_X10_list_19
    rw [hl, hS, i41, i42]
    refine ⟨hi, fun t => absurd (pz_lt.mp t) (by omega), fun _ => ⟨hi, fun _ => ⟨hiH, fun t => absurd t (by rw [hst]; decide), fun _ => ⟨hiH, hiH, pz_in (n := 8).mpr hf, fun _ => ⟨hi, hiH, hiH, pz_in.mpr ?_, pz_in.mpr ?_, fun s5 e5 => ⟨hi, hi, fun s7 e7 => ⟨hiH, hiH, fun s9 e9 => ⟨hiH, hiH, fun s11 e11 => ?_⟩⟩⟩⟩, fun t => absurd (pz_lt.mpr hpl.2) t⟩⟩, fun t => absurd he t⟩⟩
    · rw [e41]; show _ ∧ _ < (320 : Int); omega
    · rw [e42]; show _ ∧ _ < (800 : Int); omega
    · have r5 : ∀ k, k ≠ 137 → s5 k = x k := fun k a => by rw [e5, pu_ne a]
      have r136 : s11 136 = ru (x 136) j (x 136 j + 1) := by rw [e11, pu_ne (by decide), e9, pu_ne (by decide), e7, pu_row, r5 136 (by decide)]
      have r126 : s11 126 = ru (x 126) S (x 126 S + 1) := by rw [e11, pu_ne (by decide), e9, pu_row, e7, pu_ne (by decide), r5 126 (by decide)]
      have r137 : s11 137 = ru (x 137) (40 * j + (x 136 j).toNatClampNeg) (x 114 (40 * (x 124 S).toNatClampNeg + (x 126 S).toNatClampNeg)).toInt8.toInt32 := by rw [e11, pu_ne (by decide), e9, pu_ne (by decide), e7, pu_ne (by decide), e5, pu_row]
      have rk : ∀ k, k ≠ 126 → k ≠ 133 → k ≠ 136 → k ≠ 137 → s11 k = x k := fun k a b c d => by rw [e11, pu_ne b, e9, pu_ne a, e7, pu_ne c, r5 k d]
      have e111 : s11 111 = x 111 := rk 111 (by decide) (by decide) (by decide) (by decide)
      have hM11 : rM b0 P (40 - (x 136 j).toInt + 1) σ0 s11 := by
        refine ⟨rI_item j S _ _ hM.1 hlt' hS.symm r126 r136 (fun k q => rk k (by omega) (by omega) (by omega) (by omega)) (by rw [e111]) (by rw [e111]) (by omega) (by omega), ?_⟩
        rw [e11, e9, e7, e5]
        exact rX_up (rX_up (rX_up (rX_up (hM.2.le (by omega)) (by omega)) (by omega)) (by omega)) (by omega)
      have hQ11 : oQ s s11 := by
        refine hQ.hl (fun k a b => gC k (by omega) (by omega) (by omega)) e111 (fun k a b => rk k (by omega) (by omega) (by omega) (by omega)) (hQ.2.1.one S h20 hM.1.w (fun k a b d => gC k b (by omega) (by omega)) (by rw [gC 101 (by omega) (by omega) (by omega)]) (by rw [e111]) (fun h' t => ?_) (fun _ => ?_)) (hQ.2.2.1.cg (by rw [e111]) (fun k a => rk k (by omega) (by omega) (by omega) (by omega))) ⟨?_, ?_, fun l' hl' => ?_⟩
        · rw [rk 124 (by decide) (by decide) (by decide) (by decide), rk 125 (by decide) (by decide) (by decide) (by decide), rk 127 (by decide) (by decide) (by decide) (by decide), rk 129 (by decide) (by decide) (by decide) (by decide), rk 130 (by decide) (by decide) (by decide) (by decide), rk 131 (by decide) (by decide) (by decide) (by decide), r126, ru_ne t]
          exact ⟨rfl, rfl, rfl, rfl, rfl, rfl, fun _ _ => rfl⟩
        · rw [rk 124 (by decide) (by decide) (by decide) (by decide), rk 125 (by decide) (by decide) (by decide) (by decide), rk 127 (by decide) (by decide) (by decide) (by decide), rk 129 (by decide) (by decide) (by decide) (by decide), rk 130 (by decide) (by decide) (by decide) (by decide), rk 131 (by decide) (by decide) (by decide) (by decide), r126, ru_self, g6, gs 4 (by decide) (by decide), gs 5 (by decide) (by decide), gs 7 (by decide) (by decide), gs 3 (by decide) (by decide), gs 2 (by decide) (by decide), gC (20 + S) (by omega) (by omega) (by omega)]
          exact ⟨a1, a2, rfl, a4, a5, a6, a7⟩
        · rw [gC 103 (by omega) (by omega) (by omega), e111]; exact hQ.2.2.2.1.1
        · rw [e111]; exact h28
        · rw [e111] at hl'
          rw [rk 127 (by decide) (by decide) (by decide) (by decide), rk 135 (by decide) (by decide) (by decide) (by decide), rk 138 (by decide) (by decide) (by decide) (by decide), r136, r137]
          obtain ⟨c1, c2, c3, c4⟩ := hQ.2.2.2.1.2.2 l' hl'
          have k5 := (hM.1.2.2.1.2.2 l' hl').2.2.1
          by_cases t : l' = j
          · rw [t, ru_self, g1, g2, gi]
            refine ⟨b1, rfl, fun i' hi' => ?_, b4⟩
            rw [eu] at hi'
            by_cases t2 : i' = (x 136 j).toNatClampNeg
            · rw [t2, ru_self, ru_self, bp_b]
            · rw [ru_ne t2, ru_ne (by omega)]
              exact b3 i' (by omega)
          · rw [ru_ne t, gC (40 + l') (by omega) (by omega) (by omega), gC (20 + (40 + l')) (by omega) (by omega) (by omega)]
            exact ⟨c1, c2, fun i' hi' => by rw [ru_ne (by omega)]; exact c3 i' hi', c4⟩
      refine en_noteQ hM11 (by omega) hQ11 (fun x9 h9 q9 j9 hk9 hs9 => ?_)
      have e136 : x9 136 j = x 136 j + 1 := by rw [hk9 136 (by decide) (by decide), r136, ru_self]
      have e138 : x9 138 = x 138 := by rw [hk9 138 (by decide) (by decide), rk 138 (by decide) (by decide) (by decide) (by decide)]
      have e135 : x9 135 = x 135 := by rw [hk9 135 (by decide) (by decide), rk 135 (by decide) (by decide) (by decide) (by decide)]
      have e28 : x9 111 28 = x 111 28 := by rw [hs9 28 (by decide), e111]
      rw [e111, rk 139 (by decide) (by decide) (by decide) (by decide)] at j9
      have g := hI b0 P σ0 x9 l pv f (by rw [e136, eu]; exact ⟨h9.1, h9.2.le (by omega)⟩) q9 hl h0 (by rw [e28]; exact hlt) (by omega) (fun _ => by rw [e136, eu]; omega) (fun x' m1 m2 m3 m4 => hk x' m1 m2 (jm_tr j9 m3 (by omega) hm) (m4.trans e28))
      rw [e135] at g
      exact g
theorem xl_loop (hj : j < 20) (hq : 0 ≤ q.toInt) (h3 : x3.toInt ≤ 40 ∧ x3.toInt ≤ q.toInt ∧ (x3.toInt = q.toInt ∨ x3.toInt = 40)) (h2 : 0 ≤ x2.toInt) : ∀ (f : Nat) (c : io_M) (y : Int32) (post : Int32 → io_M → Prop), io_CI c → y = c (40 + j) 2 → x2.toInt ≤ (c (40 + j) 2).toInt → 42 - (c (40 + j) 2).toInt < f → (∀ r c', io_CI c' → io_F1 c c' → (c (40 + j) 2).toInt ≤ (c' (40 + j) 2).toInt → r.toInt = (c' (40 + j) 2).toInt - x2.toInt → lS n j q c ((c' (40 + j) 2).toInt - (c (40 + j) 2).toInt) c' → post r c') → wl_X5_reach_18 f j c x2 x3 1 y post := by
  intro f
  induction f with
  | zero => intro c y post hC _ _ h; have := CI_l hC hj; exact absurd h (by omega)
  | succ f ih =>
    intro c y post hC hy hx hf hp
    have hs := CI_s hC hj
    have hl := CI_l hC hj
    have z := l_0
    have z4 := l_40
    unfold wl_X5_reach_18
    have e1 : ((c (40 + j) 2) - x2).toInt = (c (40 + j) 2).toInt - x2.toInt := pz_sub (by omega)
    refine ⟨fun t => absurd t (by decide), fun _ => ⟨fun t => ?_, fun t => ?_⟩⟩
    · have ht := pz_lt.mp t
      rw [hy] at ht
      refine hp _ c hC io_F1.rf (Int.le_refl _) e1 ?_
      have : (c (40 + j) 2).toInt - (c (40 + j) 2).toInt = 0 := by omega
      rw [this]
      exact ls_have (by omega)
    · have ht := pz_nlt t
      rw [hy] at ht
      have hqle : (c (40 + j) 2).toInt ≤ q.toInt := by omega
      -- behind a grow that fails
      have fin : ∀ (s : io_M) (y' : Int32), io_CI s → io_F1 c s → s (40 + j) = c (40 + j) → lS n j q c 0 s → wl_X5_reach_18 f j s x2 x3 0 y' post := by
        intro s y' a b d g
        cases f with
        | zero => omega
        | succ f =>
          unfold wl_X5_reach_18
          refine ⟨fun _ => hp _ s a b (by rw [d]; exact Int.le_refl _) (by rw [d]; exact e1) ?_, fun t => absurd rfl t⟩
          have : (s (40 + j) 2).toInt - (c (40 + j) 2).toInt = 0 := by rw [d]; omega
          rw [this]
          exact g
      refine ⟨fun u => fin c _ hC io_F1.rf rfl (ls_shut hqle (Or.inl u)), fun u => ?_⟩
      have hu := pz_nlt u
      have h20 : (c (40 + j) 1).toNatClampNeg < 20 := by rw [pz_cl]; omega
      refine ⟨h20, fun hst => ⟨fun t => absurd t (by decide), fun _ => ⟨fun t => absurd t u, fun _ => ⟨h20, ?_⟩⟩⟩, fun hst => ⟨fun _ => fin c _ hC io_F1.rf rfl (ls_shut hqle (Or.inr hst)), fun t => absurd rfl t⟩⟩
      have hfl := CI_f hC h20
      have hf8 : 0 ≤ (c (c (40 + j) 1).toNatClampNeg 4).toInt ∧ (c (c (40 + j) 1).toNatClampNeg 4).toInt < 8 := ⟨hfl.1, by omega⟩
      have hin := pz_in (n := 8).mpr hf8
      have hlen := CI_91 hC (c (c (40 + j) 1).toNatClampNeg 4).toNatClampNeg
      have none : ¬ (0 ≤ (c (c (40 + j) 1).toNatClampNeg 6).toInt ∧ (c (c (40 + j) 1).toNatClampNeg 6).toInt < (c 91 (c (c (40 + j) 1).toNatClampNeg 4).toNatClampNeg).toInt) → ∀ s : io_M, s = io_up c (c (40 + j) 1).toNatClampNeg 7 2 → wl_X5_reach_18 f j s x2 x3 0 (y + 1) post := by
        intro g s es
        rw [es]
        exact fin _ _ (hC.up (ok_H h20 (fun q => by omega) (fun q => by omega))) (io_F1.rf.up (by omega)) (by rw [pu_ne (by omega)]) (ls_eof hqle u hst h20 hf8 g)
      have imp : ∀ (s : io_M) (y' : Int32), io_CI s → io_F1 c s → s (40 + j) = c (40 + j) → (∀ (b0 : Int) (P : Nat) (σ0 x : io_M), rI 99 x → oQ c x → (j : Int) < (x 111 28).toInt → False) → wl_X5_reach_18 f j s x2 x3 0 y' post := fun s y' a b d g => fin s y' a b d (ls_imp g)
      refine ⟨fun g => ⟨fun _ => ⟨fun _ => ⟨fun t => absurd t u, fun _ => ⟨h20, fun s es => none (fun t => by have := pz_lt.mp g; omega) s es⟩⟩, fun t => absurd rfl t⟩, fun t => absurd rfl t⟩, fun g => ⟨hin, fun g2 => ⟨fun _ => ⟨fun _ => ⟨fun t => absurd t u, fun _ => ⟨h20, fun s es => none (fun t => by have := pz_le.mp g2; omega) s es⟩⟩, fun t => absurd rfl t⟩, fun t => absurd rfl t⟩, fun g2 => ⟨hin, pz_in.mpr ?_, ?_⟩⟩⟩
      · have a := pz_nlt g
        have b := pz_nle g2
        show _ ∧ _ < (40 : Int)
        omega
      · have a := pz_nlt g
        have b := pz_nle g2
        have hpl : 0 ≤ (c (c (40 + j) 1).toNatClampNeg 6).toInt ∧ (c (c (40 + j) 1).toNatClampNeg 6).toInt < (c 91 (c (c (40 + j) 1).toNatClampNeg 4).toNatClampNeg).toInt := ⟨by omega, b⟩
        refine ⟨fun t => ⟨fun _ => ⟨fun t => absurd t u, fun _ => ⟨h20, fun s es => ?_⟩⟩, fun t2 => absurd t t2⟩, fun t s5 e5 s7 e7 => ?_⟩
        · rw [es]
          refine imp _ _ (hC.up (ok_H h20 (fun q => by omega) (fun q => by omega))) (io_F1.rf.up (by omega)) (by rw [pu_ne (by omega)]) (fun b0 P σ0 x hI hQ hlt => ?_)
          obtain ⟨d1, d2, d3, d4, d5, d6, d7⟩ := hQ.1.1 _ (pn_8 hf8)
          rw [d3] at hpl
          rw [d7 _ (by rw [pz_cl]; omega)] at t
          exact by_n _ t
        · have e40 : s7 (40 + j) = c (40 + j) := by rw [e7, pu_ne (by omega), e5, pu_ne (by omega)]
          have hC7 : io_CI s7 := by rw [e7, e5]; exact (hC.up (ok_H h20 (fun q => by omega) (fun q => by omega))).up (ok_H h20 (fun q => by omega) (fun q => by omega))
          have hF7 : io_F1 c s7 := by rw [e7, e5]; exact (io_F1.rf.up (by omega)).up (by omega)
          have sS : ∀ j', j' < 8 → j' ≠ 6 → s7 (c (40 + j) 1).toNatClampNeg j' = c (c (40 + j) 1).toNatClampNeg j' := fun j' q1 q2 => by rw [e7, pu_same (by omega), e5, pu_same q2]
          refine ⟨fun t2 => absurd t2 t, fun _ => ⟨fun w40 => ⟨pz_in.mpr ?_, fun s18 e18 s20 e20 => ?_⟩, fun w40 => ⟨fun t => absurd t (by rw [e40]; exact u), fun _ => ⟨by rw [e40]; exact h20, fun s es => ?_⟩⟩⟩⟩
          · have := pz_lt.mp w40
            rw [e40] at this ⊢
            exact ⟨hl.1, by show (c (40 + j) 2).toInt < 40; omega⟩
          · have hw := pz_lt.mp w40
            rw [e40] at hw e18
            have e18' : s18 (40 + j) = c (40 + j) := by rw [e18, pu_ne (by omega), e40]
            have en : s20 (40 + j) 2 = c (40 + j) 2 + 1 := by rw [e20, pu_self, e18']
            have eu := pz_1 (x := c (40 + j) 2) (by omega)
            have hC20 : io_CI s20 := by rw [e20, e18]; exact (hC7.up (ok_I hj)).up (ok_L hj (fun q => by omega) (fun _ => by rw [← e18, e18', eu]; omega))
            have hF20 : io_F1 c s20 := by rw [e20, e18]; exact (hF7.up (by omega)).up (by omega)
            refine ih s20 (y + 1) post hC20 (by rw [en, hy]) (by rw [en, eu]; omega) (by rw [en, eu]; omega) (fun r c' a1 a2 a3 a4 a5 => hp r c' a1 (hF20.tr a2) (by rw [en, eu] at a3; omega) a4 ?_)
            rw [en, eu] at a3 a5
            have : (c' (40 + j) 2).toInt - (c (40 + j) 2).toInt = 1 + ((c' (40 + j) 2).toInt - ((c (40 + j) 2).toInt + 1)) := by omega
            rw [this]
            refine ls_step (S := (c (40 + j) 1).toNatClampNeg) hqle hj rfl h20 hst hf8 hpl (fun k q1 q2 q3 => ?_) ?_ (fun j' q1 q2 => ?_) ?_ ?_ en (by omega) a5
            · rw [e20, pu_ne q3, e18, pu_ne q2, e7, pu_ne q1, e5, pu_ne q1]
            · rw [e20, pu_ne (by omega), e18, pu_ne (by omega), e7, pu_same (by decide), e5, pu_self]
            · rw [e20, pu_ne (by omega), e18, pu_ne (by omega)]; exact sS j' q1 q2
            · rw [e20, pu_ne (by omega), e18, pu_row, e7, pu_ne (by omega), e5, pu_ne (by omega)]
            · rw [e20, pu_same (by decide), e18']
          · rw [e40] at es
            rw [es]
            refine imp _ _ (hC7.up (ok_H h20 (fun q => by omega) (fun q => by omega))) (hF7.up (by omega)) (by rw [pu_ne (by omega), e40]) (fun b0 P σ0 x hI hQ hlt => ?_)
            have hw := pz_nlt w40
            rw [e40] at hw
            obtain ⟨d1, d2, d3, d4, d5, d6, d7⟩ := hQ.1.1 _ (pn_8 hf8)
            obtain ⟨b1, b2, b3, b4⟩ := hQ.2.2.2.1.2.2 j hlt
            obtain ⟨k1, k2, k3, k4⟩ := hI.2.2.1.2.2 j hlt
            have hclH := pz_cl (x 135 j)
            have hHlt : ((x 135 j).toNatClampNeg : Int) < (x 111 16).toInt := by omega
            obtain ⟨a1, a2, a3, a4, a5, a6, a7⟩ := hQ.2.1.2.2 _ hHlt
            rw [b1] at hst hpl d3 d6
            have k4 := k4 (by rw [← a4, hst]; decide)
            rw [d3, a3] at hpl
            rw [b2] at hw
            omega
/-- read as far as wanted, and noted -/
theorem xd_reach (hj : j < 20) (hw : io_WI b0 (e + 1) c) (he : 0 ≤ e) (hq : 0 ≤ q.toInt) (h3 : (if 40 < p then 40 else p) = x3) (h3' : x3.toInt ≤ 40 ∧ x3.toInt ≤ q.toInt ∧ (x3.toInt = q.toInt ∨ x3.toInt = 40)) (hp : ∀ c1, io_WI b0 e c1 → io_Fr c c1 → (∀ (b0 : Int) (P : Nat) (x : io_M) (l : Int32) (pv : io_M → Prop), rM b0 P 41 x x → oR c x → l.toNatClampNeg = j → 0 ≤ l.toInt → l.toInt < (x 111 28).toInt → (∀ x', rM b0 P 0 x x' → oR c1 x' → x' 111 28 = x 111 28 → wj_X10_list_178 x' n l q pv) → wp_X10_list x n l q pv) → pv c1) : wp_X5_reach c j p (fun r s => wp_X8_noteTimes s n r pv) := by
  have hl := CI_l hw.1 hj
  have z0 := l_0
  refine ⟨43, ?_⟩
  rw [h3]
  refine xl_loop (n := n) hj hq h3' hl.1 43 c _ _ hw.1 rfl (Int.le_refl _) (by omega) (fun r s hC hF hle hr hS => ?_)
  have hl' := CI_l hC hj
  have hws := hw.f3 hC hF.to3
  refine xa_noteTimes hws he (by omega) (fun c1 a b d g => hp c1 a (hF.to3.toR.tr b) ?_)
  intro b0 P x l pv hM hR hl0 h0 hlt hk
  have hlt' := hx_i hl0 h0 hlt
  have hi := lx_in hM h0 hlt
  have g0 := hM.2.2.2.1.2
  have k3 := (hM.1.2.2.1.2.2 j hlt').2.2.1
  refine ⟨fun _ => ⟨hi, 43, ?_⟩, fun t => absurd (pz_le.mpr (by omega)) t⟩
  rw [hl0]
  refine hS b0 P x x l pv 43 ⟨hM.1, hM.2.le (by omega)⟩ (hR.q (by rw [g0]; decide)) hl0 h0 hlt (by omega) (fun _ => by omega) (fun x' m1 m2 m3 m4 => hk x' m1 ((m2.toJ d (fun _ _ _ => rfl) (fun _ _ => rfl)).toR ?_) m4)
  have hJ := hR.2.2.2.2.1
  rw [hF.2 105 (by omega), hF.2 106 (by omega), hr, hJ.1] at g
  exact jm_o (n := n) hJ.2 g m3
theorem nd_s (hR : oR c x) (hn : io_nd c n) : c 97 n.toNatClampNeg = x 118 n.toNatClampNeg ∧ c 98 n.toNatClampNeg = x 119 n.toNatClampNeg ∧ c 99 n.toNatClampNeg = x 120 n.toNatClampNeg ∧ c 100 n.toNatClampNeg = x 121 n.toNatClampNeg := by
  refine hR.2.2.2.2.2.2.1.2 n.toNatClampNeg ?_
  rw [← hR.2.2.2.2.2.2.1.1, pz_cl]
  have := hn.1
  have := hn.2
  omega
theorem xd_item (hj : j < 20) (hw : io_WI b0 (e + 1) c) (he : 0 ≤ e) (hn : io_nd c n) (h8 : ¬ c 97 n.toNatClampNeg = 9) (hq : 0 ≤ q.toInt) (hp : ∀ r c', io_WI b0 e c' → io_Fr c c' → tS c j r c' (fun x l pv => wp_X10_list x n l q pv) → post r c') : wp_X5_reach c j q (fun r16 s17 => wp_X8_noteTimes s17 n r16 (fun s19 => wp_X5_item s19 j q (fun r20 s21 => wp_X8_give s21 0 r20 post))) := by
  have z40 := l_40
  refine xd_reach (q := q) (x3 := if 40 < q then 40 else q) hj hw he hq rfl ?_ (fun c1 a b hS => ?_)
  · by_cases t : 40 < q
    · rw [if_pos t]; have := pz_lt.mp t; omega
    · rw [if_neg t]; have := pz_nlt t; omega
  · have hl := CI_l a.1 hj
    have hn1 := hn.of b
    have hin := hn1.in a.2.1
    have e97 : c1 97 = c 97 := b.2.1 97 (by omega) (by omega)
    refine sp_within (fun g => ⟨fun _ => xa_give a (fun a' b' => hp _ _ a' (b.tr b') ?_), fun t => absurd rfl t⟩) (fun g => ⟨fun t => absurd t (by decide), fun _ => ⟨pz_in.mpr ⟨g.1, by show q.toInt < 40; omega⟩, xa_give a (fun a' b' => hp _ _ a' (b.tr b') ?_)⟩⟩)
    · intro b0 P x l pv hM hR hl0 h0 hlt hk
      refine hS b0 P x l pv hM hR hl0 h0 hlt (fun x' m1 m2 m3 => ?_)
      have hi := lx_in hM h0 hlt
      have hlt' := hx_i hl0 h0 hlt
      rw [← m3] at hlt'
      have b2 := (m2.2.2.2.1.2.2 j hlt').2.1
      have e118 := (nd_s m2 hn1).1
      rw [b2] at g
      refine ⟨hin, fun t => absurd (by rw [← e97, e118]; exact t) h8, fun _ => ⟨hi, fun _ => en_give m1 (by omega) m2 tv_0 (Or.inl rfl) hk, fun t => ?_⟩⟩
      rw [hl0] at t
      have := pz_nle t
      omega
    · intro b0 P x l pv hM hR hl0 h0 hlt hk
      refine hS b0 P x l pv hM hR hl0 h0 hlt (fun x' m1 m2 m3 => ?_)
      have hi := lx_in hM h0 hlt
      have hlt' := hx_i hl0 h0 hlt
      rw [← m3] at hlt'
      obtain ⟨b1, b2, b3, b4⟩ := m2.2.2.2.1.2.2 j hlt'
      have h28 := m2.2.2.2.1.2.1
      have e118 := (nd_s m2 hn1).1
      rw [b2] at g hl
      have hcq := pz_cl q
      rw [b3 q.toNatClampNeg (by omega)] at hk
      rw [m3] at h28
      have i42 := pn_41 (f := l) (p := q) (by omega) (by omega)
      have e42 := pz_41 (x := l) (y := q) (by omega) (by omega)
      rw [hl0] at i42
      refine ⟨hin, fun t => absurd (by rw [← e97, e118]; exact t) h8, fun _ => ⟨hi, fun t => ?_, fun _ => ⟨pz_in.mpr ?_, ?_⟩⟩⟩
      · rw [hl0] at t
        have := pz_le.mp t
        omega
      · rw [e42]; show _ ∧ _ < (800 : Int); omega
      · rw [i42]
        exact en_give m1 (by omega) m2 tv_0 (Or.inl rfl) hk
theorem xd_length (hj : j < 20) (hw : io_WI b0 (e + 1) c) (he : 0 ≤ e) (hn : io_nd c n) (h9 : c 97 n.toNatClampNeg = 9) (hp : ∀ r c', io_WI b0 e c' → io_Fr c c' → tS c j r c' (fun x l pv => wp_X10_list x n l 1000 pv) → post r c') : wp_X5_reach c j 40 (fun r9 s10 => wp_X8_noteTimes s10 n r9 (fun s12 => wp_X5_length s12 j (fun r13 s14 => wp_X8_give s14 0 r13 post))) := by
  refine xd_reach (q := 1000) (x3 := 40) hj hw he (by decide) (by decide) (by decide) (fun c1 a b hS => ?_)
  have hn1 := hn.of b
  have hin := hn1.in a.2.1
  have e97 : c1 97 = c 97 := b.2.1 97 (by omega) (by omega)
  refine xa_give a (fun a' b' => hp _ _ a' (b.tr b') ?_)
  intro b0 P x l pv hM hR hl0 h0 hlt hk
  refine hS b0 P x l pv hM hR hl0 h0 hlt (fun x' m1 m2 m3 => ?_)
  have hi := lx_in hM h0 hlt
  have hlt' := hx_i hl0 h0 hlt
  rw [← m3] at hlt'
  have b2 := (m2.2.2.2.1.2.2 j hlt').2.1
  have e118 := (nd_s m2 hn1).1
  rw [b2] at hk
  refine ⟨hin, fun _ => ⟨hi, ?_⟩, fun t => absurd (by rw [← e118, e97]; exact h9) t⟩
  rw [hl0]
  exact en_give m1 (by omega) m2 tv_0 (Or.inl rfl) hk
end EL
