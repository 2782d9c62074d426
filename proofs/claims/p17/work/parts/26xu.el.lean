/-- times: y rounds are done, kz are still wanted -/
def zS (b0 e : Int) (c : io_M) (n : Int32) (kz y : Int) (r : Int32) (c' : io_M) : Prop := ∀ (P : Nat) (x0 t : io_M) (pv : io_M → Prop) (T : Int32) (k : Nat), (P : Int) = e → T.toNatClampNeg = P → vp_in T 64 → rG b0 P n x0 600 k t → (P : Int) + n.toInt ≤ 59 → t 111 48 = 0 → oR c t → (t 142 P).toInt = kz → (t 141 P).toInt = y + 2 → y + 1 ≤ (t 111 35).toInt → (∀ x', rQ b0 P x0 x' → oR c' x' → oO r c' x' → rLo pv x') → wj_X10_goTimes_25 t T n (fun s => wl_X10_work_0 k s pv)
/-- an end is worked: what is going on is kept in the cells zs, zv -/
def eF (zs zv : Nat) (c t : io_M) (P : Nat) : Prop := (t 144 P = 0 ∧ c 107 7 = t zs P ∧ c 107 8 = t zv P ∧ (c 107 7 = 0 ∨ c 107 7 = 1 ∨ c 107 7 = 2) ∧ tv (t 111 16) (t 111 28) (t zs P) (t zv P)) ∨ (t 144 P = 1 ∧ c 107 7 = 3 ∧ c 107 8 = t 145 P ∧ c 107 9 = t 146 P) ∨ (t 144 P = 2 ∧ c 107 7 = 4 ∧ c 107 8 = t 145 P)
def eS (zs zv : Nat) (st : Int32) (b0 e : Int) (c : io_M) (n a r : Int32) (c' : io_M) : Prop := ∀ (P : Nat) (x0 t : io_M) (pv : io_M → Prop) (k : Nat), (P : Int) = e → rG b0 P n x0 600 k t → (P : Int) + n.toInt ≤ 59 → t 111 48 = 0 → oR c t → t 141 P = st → eF zs zv c t P → (∀ x', rQ b0 P x0 x' → oR c' x' → oO r c' x' → rLo pv x') → wp_X10_begin t a (fun s => wl_X10_work_0 k s pv)
section EU
variable {K : io_M → Int32 → Int32 → (Int32 → io_M → Prop) → Prop} {b0 e d lim : Int} {P Q k A zs zv : Nat} {m kz : Int} {c c' c1 c2 x x0 x' t : io_M} {n a r r1 T v s w k0 p1 p2 p3 q1 y x4 st tm : Int32} {pv Z : io_M → Prop} {post : Int32 → io_M → Prop}
theorem kx_timesL (hK : kS b0 (e + 1) lim K) (hd : p2.toInt = e + 1) (he : 0 ≤ e ∧ e ≤ 59) (hl : lim ≤ e + 2) (h4 : x4.toInt ≤ 600 ∧ x4.toInt ≤ tm.toInt ∧ (x4.toInt = tm.toInt ∨ x4.toInt = 600)) : ∀ (f : Nat) (c : io_M) (y : Int32) (post : Int32 → io_M → Prop), io_WI b0 (e + 1) c → io_nd c n → c 97 n.toNatClampNeg = 23 → (0 ≤ (c 99 n.toNatClampNeg).toInt ∧ (c 99 n.toNatClampNeg).toInt < n.toNatClampNeg) → 0 ≤ y.toInt → y.toInt ≤ 600 → (0 < y.toInt → y.toInt ≤ tm.toInt) → 600 - y.toInt < f → (∀ r c', io_WI b0 e c' → io_Fr c c' → zS b0 e c n (tm.toInt - y.toInt) y.toInt r c' → post r c') → wl_X8_workTimes_12 K f c (c 99 n.toNatClampNeg) p2 x4 y post := by
  intro f
  have z0 := l_0
  have z1 := l_1
  induction f with
  | zero => intro c y post _ _ _ _ h0 h1 _ h2; exact absurd h2 (by omega)
  | succ f ih =>
    intro c y post hw hn hq hb h0 h1 hy h2 hp
    have hin := hn.in hw.2.1
    unfold wl_X8_workTimes_12
    refine ⟨fun q => xa_give (hw.le (by omega)) (fun a b => hp _ _ a b ?_), fun q => kx_call hK hd he hl hw (nd_lt hn hb) (fun r1 c1 a b hS => ⟨fun hr0 => hp _ _ (a.le (by omega)) b ?_, fun hr1 => ?_⟩)⟩
    · intro P x0 t pv T k hP hPT hT hG hPn hg hR h142 h141 h35 hKf
      have hq' := pz_le.mp q
      have h6 := hG.1.2.2.2.2.1
      unfold wj_X10_goTimes_25
      rw [hPT]
      refine ⟨hT, fun _ => en_give (hG.mid hg) (by omega) hR tv_0 (Or.inl rfl) (lo_end hKf hG), fun u => ?_⟩
      have := pz_nle u
      omega
    · rw [hr0] at hS
      intro P x0 t pv T k hP hPT hT hG hPn hg hR h142 h141 h35 hKf
      obtain ⟨s97, s98, s99, s100⟩ := nd_s hR hn
      have hq' := pz_nle q
      rw [s99] at hS hb
      have hcl := pz_cl n
      have h0n := hG.2.2.2.2.2.2.1
      unfold wj_X10_goTimes_25
      rw [hPT]
      refine ⟨hT, fun u => ?_, fun _ => ⟨hT, hT, fun u1 f1 => ⟨hin, ?_⟩⟩⟩
      · have := pz_le.mp u
        omega
      · have hG1 : rG b0 P n x0 600 k u1 := by rw [f1]; exact hG.up (by omega)
        have r : ∀ k, k ≠ 142 → u1 k = t k := fun k q => by rw [f1, pu_ne q]
        rw [r 120 (by decide)]
        refine lo_call hG1 hPn (by rw [r 111 (by decide)]; exact hg) (by rw [f1]; exact hR.fm hg (by omega)) hS (by omega) (by omega) (fun x' q1 q2 q3 _ => hKf x' q1 q2 q3) (fun x' q1 q2 q3 q4 q5 q6 q7 => lo_prop hKf q1 q2 q3 q4 (fun z => ?_) (fun z => ?_) (fun z => ?_))
        · rw [q6.1 118 (by omega), r 118 (by decide), ← s97, hq] at z; exact absurd z (by decide)
        · rw [q6.1 118 (by omega), r 118 (by decide), ← s97, hq] at z; exact absurd z (by decide)
        · rw [q6.1 118 (by omega), r 118 (by decide), ← s97, hq] at z; exact absurd z (by decide)
    · have hS := hS.one hr1
      have hq' := pz_nle q
      have e2 := pz_1 (x := y) (by omega)
      have e99 : c1 99 = c 99 := b.2.1 99 (by omega) (by omega)
      have e97 : c1 97 = c 97 := b.2.1 97 (by omega) (by omega)
      have hh := ih c1 (y + 1) post a (hn.of b) (by rw [e97]; exact hq) (by rw [e99]; exact hb) (by omega) (by omega) (fun _ => by omega) (by omega) (fun r2 c2 a2 b2 hz => hp _ _ a2 (b.tr b2) ?_)
      · rw [e99] at hh
        exact hh
      · rw [e2] at hz
        intro P x0 t pv T k hP hPT hT hG hPn hg hR h142 h141 h35 hKf
        obtain ⟨s97, s98, s99, s100⟩ := nd_s hR hn
        rw [s99] at hS hb
        have hcl := pz_cl n
        have h0n := hG.2.2.2.2.2.2.1
        unfold wj_X10_goTimes_25
        rw [hPT]
        refine ⟨hT, fun u => ?_, fun _ => ⟨hT, hT, fun u1 f1 => ⟨hin, ?_⟩⟩⟩
        · have := pz_le.mp u
          omega
        · have hG1 : rG b0 P n x0 600 k u1 := by rw [f1]; exact hG.up (by omega)
          have r : ∀ k, k ≠ 142 → u1 k = t k := fun k q => by rw [f1, pu_ne q]
          have e142 : (u1 142 P).toInt = tm.toInt - (y.toInt + 1) := by rw [f1, pu_self, pz_s1 (by omega), h142]; omega
          rw [r 120 (by decide)]
          refine lo_call hG1 hPn (by rw [r 111 (by decide)]; exact hg) (by rw [f1]; exact hR.fm hg (by omega)) hS (by omega) (by omega) (fun x' q1 q2 q3 q4 => ?_) (fun x' q1 q2 q3 q4 q5 q6 q7 => ?_)
          · have := q3.g0.1
            rw [q4] at this
            exact absurd this (by decide)
          · have g := q3.g0
            have e141 : (x' 141 P).toInt = y.toInt + 2 := by rw [q5 141 (by omega), r 141 (by decide)]; exact h141
            have e118 : x' 118 n.toNatClampNeg = 23 := by rw [q6.1 118 (by omega), r 118 (by decide), ← s97]; exact hq
            rw [r 111 (by decide)] at q7
            refine lo_go q1 g.1 (fun T' k' hPT' hT' hG' => go_P hPT' hT' hG'.in (by rw [e118]; decide) (fun t' et' => ?_))
            have hGt : rG b0 P n x0 600 k' t' := by rw [et']; exact hG'.up (by omega)
            have rt : ∀ k, k ≠ 141 → t' k = x' k := fun k q => by rw [et', pu_ne q]
            rw [e118]
            refine ⟨fun z => ?_, fun _ => ⟨fun z => absurd z (by decide), fun _ => ⟨fun z => absurd z (by decide), fun _ => ⟨fun _ => ⟨fun z => ?_, fun _ => ?_⟩, fun z => absurd rfl z⟩⟩⟩⟩
            · rw [z] at e141; omega
            · rw [z] at e141; omega
            · refine hz P x0 t' pv T' k' hP hPT' hT' hGt hPn (by rw [rt 111 (by decide)]; exact g.1) (by rw [et']; exact q2.fm g.1 (by omega)) ?_ ?_ ?_ hKf
              · rw [rt 142 (by decide), q5 142 (by omega)]; exact e142
              · rw [et', pu_self, pz_1 (by omega), e141]; omega
              · rw [rt 111 (by decide)]; omega
theorem mS_times (hn : io_nd c n) (hq : c 97 n.toNatClampNeg = 23) (h7 : c 107 7 = 0) (hz : zS b0 e c n (c 107 8).toInt 0 r c') (h2 : ∀ x, oR c x → 1 ≤ (x 111 35).toInt) : mS b0 e c n F1 r c' := by
  intro P x0 x pv hP hF hR hO ho hF1 hK
  have g := hO.g0
  obtain ⟨s97, s98, s99, s100⟩ := nd_s hR hn
  refine lo_go hF g.1 (fun T k hPT hT hG => go_P hPT hT hG.in (by rw [← s97, hq]; decide) (fun t et => ?_))
  have hG' : rG b0 P n x0 600 k t := by rw [et]; exact hG.up (by omega)
  have r : ∀ k, k ≠ 141 → t k = x k := fun k q => by rw [et, pu_ne q]
  have hg' : t 111 48 = 0 := by rw [r 111 (by decide)]; exact g.1
  have hRt : oR c t := by rw [et]; exact hR.fm g.1 (by omega)
  rw [← s97, hq, hF1.1]
  refine ⟨fun z => absurd z (by decide), fun _ => ⟨fun z => absurd z (by decide), fun _ => ⟨fun z => absurd z (by decide), fun _ => ⟨fun _ => ⟨fun _ => ⟨fun _ => ⟨fun z => absurd z (by decide), fun _ => ⟨hT, fun u f => ?_⟩⟩, fun z => absurd (by rw [r 111 (by decide), ← g.2.1]; exact h7) z⟩, fun z => absurd rfl z⟩, fun z => absurd rfl z⟩⟩⟩⟩
  rw [hPT] at f
  have ru : ∀ k, k ≠ 142 → u k = t k := fun k q => by rw [f, pu_ne q]
  refine hz P x0 u pv T k hP hPT hT (by rw [f]; exact hG'.up (by omega)) hF.2.2.2.2.2.2 (by rw [ru 111 (by decide)]; exact hg') (by rw [f]; exact hRt.fm hg' (by omega)) ?_ ?_ ?_ hK
  · rw [f, pu_self, r 111 (by decide), g.2.2.1]
  · rw [ru 141 (by decide), et, pu_self, hF1.1]; decide
  · rw [ru 111 (by decide), r 111 (by decide)]; have := h2 x hR; omega
/-- catch: the failure is caught -/
theorem nS_catch (hn : io_nd c n) (hq : c 97 n.toNatClampNeg = 26) (ha : 0 ≤ (c 98 n.toNatClampNeg).toInt ∧ (c 98 n.toNatClampNeg).toInt < n.toNatClampNeg) (hb : 0 ≤ (c 99 n.toNatClampNeg).toInt ∧ (c 99 n.toNatClampNeg).toInt < n.toNatClampNeg) (hS : cS b0 (e + 1) c (c 98 n.toNatClampNeg) 0 c1) (h7 : c1 107 7 = 3) (hbit : ((c 100 n.toNatClampNeg >>> ((c1 107 8) &&& 31)) &&& 1) = 1) (h2 : c2 = io_up (io_up c1 108 0 0) 109 0 (c1 107 8)) (hS2 : cS b0 (e + 1) c2 (c 99 n.toNatClampNeg) r c') : nS b0 e c n r c' := by
  intro P x pv hP hSx hg h140 h141 h144 hPn hn0 hn1 hR hK
  obtain ⟨s97, s98, s99, s100⟩ := nd_s hR hn
  rw [s98] at ha hS
  rw [s99] at hb hS2
  have hcl := pz_cl n
  have hF : fF b0 P n x x := ⟨hSx, h140, rMo.rf, rFr.rf, hn0, hn1, hPn⟩
  refine st_0 hF hg h141 hR (Or.inr (Or.inr (Or.inr (by rw [← s97, hq]; decide)))) hS (by omega) (by omega) (fun x' q1 q2 q3 q4 => ?_) (fun x' q1 q2 q3 q4 q5 q6 q7 q8 => ?_)
  · rcases q3 with z | z | z | z
    · exact absurd z.1 (by decide)
    · rw [q4] at z; exact absurd z.2.1 (by decide)
    · rw [q4] at z; exact absurd z.2.1 (by decide)
    · rw [h7] at z; exact absurd z.2.2.1 (by decide)
  · have e118 : x' 118 n.toNatClampNeg = 26 := by rw [q7.1 118 (by omega), ← s97]; exact hq
    have e121 : x' 121 n.toNatClampNeg = c 100 n.toNatClampNeg := by rw [q7.1 121 (by omega), ← s100]
    have g : x' 111 48 = 1 ∧ c1 107 8 = x' 111 49 := by
      rcases q3.g1 q4 with z | z
      · exact ⟨z.1, z.2.2.1⟩
      · rw [h7] at z; exact absurd z.2.1 (by decide)
    refine lo_un q1 (Or.inl g.1) (fun T k hPT hT hG => ?_)
    have hin := hG.in
    unfold wp_X10_unwind
    rw [hPT, q1.2.1]
    refine ⟨hT, hin, hT, fun _ => ⟨fun _ => ⟨fun _ => ⟨hin, fun _ => ⟨i06, fun s6 e6 => ⟨i06, fun s8 e8 s10 e10 => ⟨hT, fun s12 e12 => ⟨hin, ?_⟩⟩⟩⟩, fun z => absurd (by rw [e121, ← g.2]; exact hbit) z⟩, fun z => absurd g.1 z⟩, fun z => absurd q5 z⟩, fun z => absurd e118 z⟩
    have e6b : s6 111 = x' 111 := by rw [e6, pu_ne (by decide)]
    rw [e6b] at e8
    have h12 : rG b0 P n x 600 k s12 := by
      rw [e12, e10, e8, e6]
      exact ((hG.var _ _ _ tv_0).goes).up (by omega)
    have r : ∀ k, k ≠ 111 → k ≠ 141 → k ≠ 122 → k ≠ 123 → s12 k = x' k := fun k a b c d => by rw [e12, pu_ne b, e10, pu_ne a, e8, pu_ne d, e6, pu_ne c]
    have g12 : s12 111 48 = 0 := by rw [e12, pu_ne (by decide), e10, pu_self]
    have hs12 : ∀ j, j ≠ 48 → s12 111 j = x' 111 j := fun j a => by rw [e12, pu_ne (by decide), e10, pu_s a, e8, pu_ne (by decide), e6b]
    -- alike: first the variable, then the reference's own cells
    have hRa : oR c1 (io_up x' 111 48 0) := q2.fr (fun _ _ _ => rfl) rfl (fun k a b => pu_ne (by omega)) (fun j a => pu_s (by omega)) (Or.inr (q2.v (by rw [g.1]; decide)))
    have hRb : oR c2 (io_up (io_up (io_up x' 111 48 0) 122 0 0) 123 0 (c1 107 8)) := by
      refine hRa.var (A := 0) (s := 0) (v := c1 107 8) pu_self (Or.inl rfl) ?_ ?_ (fun k a b => by rw [h2, pu_ne b, pu_ne a]) ?_ ?_ (fun k a b => by rw [pu_ne b, pu_ne a])
      · rw [h2, pu_ne (by decide), pu_row]
      · rw [h2, pu_row, pu_ne (by decide)]
      · rw [pu_ne (by decide), pu_row]
      · rw [pu_row, pu_ne (by decide)]
    have hRc : oR c2 s12 := by
      refine hRb.fr (fun _ _ _ => rfl) rfl (fun k a b => ?_) (fun j a => ?_) (Or.inr (hRb.v (by rw [pu_ne (by decide), pu_ne (by decide), pu_self]; decide)))
      · rw [e12, pu_ne (by omega), e10, pu_ne (by omega), e8, e6, g.2]
        by_cases t1 : k = 123
        · rw [t1, pu_row, pu_row, pu_ne (by decide), pu_ne (by decide), pu_ne (by decide)]
          rfl
        · by_cases t2 : k = 122
          · rw [t2, pu_ne (by decide), pu_row, pu_ne (by decide), pu_row, pu_ne (by decide)]
            rfl
          · rw [pu_ne t1, pu_ne t2, pu_ne t1, pu_ne t2, pu_ne (by omega)]
      · rw [hs12 j (by omega), pu_ne (by decide), pu_ne (by decide), pu_s (by omega)]
    have hmo : rMo x' s12 := ⟨fun k q => r k (by omega) (by omega) (by omega) (by omega), hs12 9 (by decide), by rw [hs12 16 (by decide)]; exact Int.le_refl _, by rw [hs12 28 (by decide)]; exact Int.le_refl _, by rw [hs12 35 (by decide)]; exact Int.le_refl _⟩
    rw [r 120 (by decide) (by decide) (by decide) (by decide), q7.1 120 (by omega)]
    refine lo_call h12 hPn g12 hRc hS2 (by omega) (by omega) (fun y q1 q2 q3 _ => hK y q1 q2 q3) (fun y w1 w2 w3 w4 w5 w6 w7 => ?_)
    have y141 : y 141 P = 2 := by rw [w5 141 (by omega), e12, pu_self]
    have y118 : y 118 n.toNatClampNeg = 26 := by rw [w6.1 118 (by omega), r 118 (by decide) (by decide) (by decide) (by decide)]; exact e118
    rcases w3.r01 with hr | hr
    · rw [hr] at w3 hK
      refine lo_prop hK w1 w2 w3 w4 (fun _ z => ?_) (fun z => ?_) (fun z => ?_)
      · rw [y141] at z; exact absurd z (by decide)
      · rw [y118] at z; exact absurd z (by decide)
      · rw [y118] at z; exact absurd z (by decide)
    · rw [hr] at w3 hK
      exact lo_gopop hK w1 w2 w3 w4 (Or.inr (Or.inr ⟨y118, by rw [y141]; decide⟩))
/-- catch: nothing to catch -/
theorem nS_catch0 (hn : io_nd c n) (hq : c 97 n.toNatClampNeg = 26) (ha : 0 ≤ (c 98 n.toNatClampNeg).toInt ∧ (c 98 n.toNatClampNeg).toInt < n.toNatClampNeg) (hS : cS b0 (e + 1) c (c 98 n.toNatClampNeg) r c1) (h7 : r = 0 → ¬ c1 107 7 = 3 ∨ ¬ ((c 100 n.toNatClampNeg >>> ((c1 107 8) &&& 31)) &&& 1) = 1) : nS b0 e c n r c1 := by
  intro P x pv hP hSx hg h140 h141 h144 hPn hn0 hn1 hR hK
  obtain ⟨s97, s98, s99, s100⟩ := nd_s hR hn
  rw [s98] at ha hS
  have hcl := pz_cl n
  have hF : fF b0 P n x x := ⟨hSx, h140, rMo.rf, rFr.rf, hn0, hn1, hPn⟩
  refine st_0 hF hg h141 hR (Or.inr (Or.inr (Or.inr (by rw [← s97, hq]; decide)))) hS (by omega) (by omega) (fun x' q1 q2 q3 _ => hK x' q1 q2 q3) (fun x' q1 q2 q3 q4 q5 q6 q7 q8 => ?_)
  have e118 : x' 118 n.toNatClampNeg = 26 := by rw [q7.1 118 (by omega), ← s97]; exact hq
  have e121 : x' 121 n.toNatClampNeg = c 100 n.toNatClampNeg := by rw [q7.1 121 (by omega), ← s100]
  rcases q3.r01 with hr | hr
  · rw [hr] at q3 hK
    refine lo_prop hK q1 q2 q3 q4 (fun _ _ g1 => ?_) (fun z => ?_) (fun z => ?_)
    · rcases q3.g1 q4 with z | z
      · rcases h7 hr with u | u
        · exact absurd z.2.1 u
        · rw [e121, ← z.2.2.1]; exact u
      · rw [g1] at z; exact absurd z.1 (by decide)
    · rw [e118] at z; exact absurd z (by decide)
    · rw [e118] at z; exact absurd z (by decide)
  · rw [hr] at q3 hK
    exact lo_gopop hK q1 q2 q3 q4 (Or.inr (Or.inr ⟨e118, by rw [q5]; decide⟩))
theorem eF.mono (h : eF zs zv c t P) (h1 : x 144 P = t 144 P) (h2 : x 145 P = t 145 P) (h3 : x 146 P = t 146 P) (h4 : x zs P = t zs P) (h5 : x zv P = t zv P) (h16 : (t 111 16).toInt ≤ (x 111 16).toInt) (h28 : (t 111 28).toInt ≤ (x 111 28).toInt) : eF zs zv c x P := by
  unfold eF
  rw [h1, h2, h3, h4, h5]
  rcases h with q | q | q
  · exact Or.inl ⟨q.1, q.2.1, q.2.2.1, q.2.2.2.1, q.2.2.2.2.mono h16 h28⟩
  · exact Or.inr (Or.inl q)
  · exact Or.inr (Or.inr q)
/-- the end fails or stops: that is the node's -/
theorem eS_bad (hc : ∀ x, oR c x → (x 118 n.toNatClampNeg = 27 ∧ st = 2) ∨ (x 118 n.toNatClampNeg = 28 ∧ st = 3)) (ha : 0 ≤ a.toInt ∧ a.toInt < n.toNatClampNeg) (hS : cS b0 (e + 1) c a 0 c1) : eS zs zv st b0 e c n a 0 c1 := by
  intro P x0 t pv k hP hG hPn hg hR h141 hE hK
  have h0n := hG.2.2.2.2.2.2.1
  have hcl := pz_cl n
  refine lo_call hG hPn hg hR hS (by omega) (by omega) (fun x' q1 q2 q3 _ => hK x' q1 q2 q3) (fun x' q1 q2 q3 q4 q5 q6 q7 => lo_prop hK q1 q2 q3 q4 (fun z => ?_) (fun z => ?_) (fun z => ?_))
  · rw [q6.1 118 (by omega)] at z
    rcases hc t hR with u | u <;> rw [u.1] at z <;> exact absurd z (by decide)
  · rw [q6.1 118 (by omega)] at z
    rw [q5 141 (by omega), h141]
    rcases hc t hR with u | u
    · rw [u.2]; decide
    · rw [u.1] at z; exact absurd z (by decide)
  · rw [q6.1 118 (by omega)] at z
    rw [q5 141 (by omega), h141]
    rcases hc t hR with u | u
    · rw [u.1] at z; exact absurd z (by decide)
    · rw [u.2]; decide
/-- behind the end what was going on goes on -/
theorem lo_on {ks vs : Int32} (hK : ∀ x', rQ b0 P x0 x' → oR c' x' → oO r c' x' → rLo pv x') (hG : rG b0 P n x0 600 k t) (hPT : T.toNatClampNeg = P) (hT : vp_in T 64) (hg : t 111 48 = 0) (hR : oR c1 t) (hE : eF zs zv c t P) (hks : ks = t zs P) (hvs : vs = t zv P) (h2 : c' = io_up (io_up (io_up c1 107 7 (c 107 7)) 107 8 (c 107 8)) 107 9 (c 107 9)) (hr : (2 < c 107 7 ∧ r = 0) ∨ (¬ 2 < c 107 7 ∧ r = 1)) : wp_X10_goOn t T ks vs (fun s => wl_X10_work_0 k s pv) := by
  have c7 : c' 107 7 = c 107 7 := by rw [h2, pu_same (by decide), pu_same (by decide), pu_self]
  have c8 : c' 107 8 = c 107 8 := by rw [h2, pu_same (by decide), pu_self]
  have c9 : c' 107 9 = c 107 9 := by rw [h2, pu_self]
  have hv := hR.v (by rw [hg]; decide)
  have frm : ∀ u : io_M, (∀ k, k ≠ 111 → u k = t k) → (∀ j, j < 38 → u 111 j = t 111 j) → oR c' u := fun u a b => hR.fr (fun k p q => by rw [h2, pu_ne q, pu_ne q, pu_ne q]) (by rw [h2, pu_same (by decide), pu_same (by decide), pu_same (by decide)]) (fun k p q => a k (by omega)) b (Or.inr hv)
  unfold wp_X10_goOn
  rw [hPT]
  refine ⟨hT, fun z => ?_, fun z => ⟨hT, fun u1 f1 => ⟨hT, fun u2 f2 => ⟨hT, fun u3 f3 u4 f4 => ?_⟩⟩⟩⟩
  · rcases hE with ⟨q1, q2, q3, q4, q5⟩ | q | q
    · have r1 : r = 1 := by
        rcases hr with u | u
        · have := u.1
          rcases q4 with w | w | w <;> rw [w] at this <;> exact absurd this (by decide)
        · exact u.2
      rw [hks, hvs]
      have g := sr_gives (s := t zs P) (v := t zv P) (pv := fun s => rP b0 P t s) (hG.mid hg) (by omega) q5 (fun s a => a) _ rfl _ rfl _ rfl
      intro s1 e1 s2 e2 s3 e3
      rw [e2, e1] at e3
      rw [e3]
      refine lo_end hK hG _ g (frm _ (fun k a => by rw [pu_ne a, pu_ne a, pu_ne a]) (fun j a => by rw [pu_s (by omega), pu_s (by omega), pu_s (by omega)])) ?_
      rw [r1]
      refine Or.inl ⟨rfl, ?_, ?_, ?_, by rw [c7]; exact q4⟩
      · rw [pu_s (by decide), pu_s (by decide), pu_s (by decide)]; exact hg
      · rw [c7, q2, pu_s (by decide), pu_s (by decide), pu_self]
      · rw [c8, q3, pu_s (by decide), pu_self]
    · rw [z] at q; exact absurd q.1 (by decide)
    · rw [z] at q; exact absurd q.1 (by decide)
  · have e145 : u1 145 P = t 145 P := by rw [f1, pu_ne (by decide)]
    have e146 : u2 146 P = t 146 P := by rw [f2, pu_ne (by decide), f1, pu_ne (by decide)]
    rw [e145] at f2
    rw [e146] at f3
    have ex : u3 = io_up (io_up (io_up t 111 48 (t 144 P)) 111 49 (t 145 P)) 111 50 (t 146 P) := by rw [f3, f2, f1]
    have hs : ∀ j, j ≠ 48 → j ≠ 49 → j ≠ 50 → u3 111 j = t 111 j := fun j a b d => by rw [ex, pu_s d, pu_s b, pu_s a]
    have hk : ∀ k, k ≠ 111 → u3 k = t k := fun k a => by rw [ex, pu_ne a, pu_ne a, pu_ne a]
    have e48 : u3 111 48 = t 144 P := by rw [ex, pu_s (by decide), pu_s (by decide), pu_self]
    have e49 : u3 111 49 = t 145 P := by rw [ex, pu_s (by decide), pu_self]
    have e50 : u3 111 50 = t 146 P := by rw [ex, pu_self]
    have hG3 : rG b0 P n x0 600 k u3 := by
      obtain ⟨hS, h140, hMo, hFr, hd, hk2, hn0, hn1⟩ := hG
      obtain ⟨hI, hC, hN2, hQ, hB⟩ := hS
      have hmo : rMo t u3 := ⟨fun k q => hk k (by omega), hs 9 (by decide) (by decide) (by decide), by rw [hs 16 (by decide) (by decide) (by decide)]; exact Int.le_refl _, by rw [hs 28 (by decide) (by decide) (by decide)]; exact Int.le_refl _, by rw [hs 35 (by decide) (by decide) (by decide)]; exact Int.le_refl _⟩
      refine ⟨⟨rI_cg hI (fun k q => hk k (by omega)) (hs 16 (by decide) (by decide) (by decide)) (hs 28 (by decide) (by decide) (by decide)), ?_, hN2.of hmo, by rw [hs 38 (by decide) (by decide) (by decide)]; exact hQ, ?_⟩, by rw [hk 140 (by decide)]; exact h140, hMo.tr hmo, hFr.tr (fun k j q _ => by rw [hk k (by omega)]), by rw [hs 35 (by decide) (by decide) (by decide)]; exact hd, by rw [hs 35 (by decide) (by decide) (by decide)]; exact hk2, hn0, by rw [hs 9 (by decide) (by decide) (by decide)]; exact hn1⟩
      · unfold rC; rw [hs 4 (by decide) (by decide) (by decide), hs 5 (by decide) (by decide) (by decide)]; exact hC
      · unfold rB; rw [hs 35 (by decide) (by decide) (by decide), hs 33 (by decide) (by decide) (by decide), hs 7 (by decide) (by decide) (by decide)]; exact hB
    have hRu := frm u3 hk (fun j a => hs j (by omega) (by omega) (by omega))
    rcases hE with q | q | q
    · exact absurd q.1 z
    · have r0 : r = 0 := by
        rcases hr with u | u
        · exact u.2
        · rw [q.2.1] at u; exact absurd u.1 (by decide)
      refine lo_pop hK hG3 hRu ?_ (Or.inr (Or.inl (by rw [e48]; exact q.1))) u4 f4
      rw [r0]
      exact Or.inr (Or.inl ⟨rfl, by rw [e48]; exact q.1, by rw [c7]; exact q.2.1, by rw [c8, e49]; exact q.2.2.1, by rw [c9, e50]; exact q.2.2.2⟩)
    · have r0 : r = 0 := by
        rcases hr with u | u
        · exact u.2
        · rw [q.2.1] at u; exact absurd u.1 (by decide)
      refine lo_pop hK hG3 hRu ?_ (Or.inr (Or.inr (by rw [e48]; exact q.1))) u4 f4
      rw [r0]
      exact Or.inr (Or.inr (Or.inl ⟨rfl, by rw [e48]; exact q.1, by rw [c7]; exact q.2.1, by rw [c8, e49]; exact q.2.2⟩))
theorem eS_good (hc : ∀ x, oR c x → (x 118 n.toNatClampNeg = 27 ∧ st = 2 ∧ zs = 143 ∧ zv = 142) ∨ (x 118 n.toNatClampNeg = 28 ∧ st = 3 ∧ zs = 148 ∧ zv = 147)) (ha : 0 ≤ a.toInt ∧ a.toInt < n.toNatClampNeg) (hS : cS b0 (e + 1) c a 1 c1) (h2 : c' = io_up (io_up (io_up c1 107 7 (c 107 7)) 107 8 (c 107 8)) 107 9 (c 107 9)) (hr : (2 < c 107 7 ∧ r = 0) ∨ (¬ 2 < c 107 7 ∧ r = 1)) : eS zs zv st b0 e c n a r c' := by
  intro P x0 t pv k hP hG hPn hg hR h141 hE hK
  have h0n := hG.2.2.2.2.2.2.1
  have hcl := pz_cl n
  have hc := hc t hR
  have hz : 140 ≤ zs ∧ 140 ≤ zv := by rcases hc with u | u <;> omega
  refine lo_call hG hPn hg hR hS (by omega) (by omega) (fun x' q1 q2 q3 q4 => ?_) (fun x' q1 q2 q3 q4 q5 q6 q7 => ?_)
  · have := q3.g0.1
    rw [q4] at this
    exact absurd this (by decide)
  · have g := q3.g0
    have hE' := hE.mono (x := x') (q5 144 (by omega)) (q5 145 (by omega)) (q5 146 (by omega)) (q5 zs hz.1) (q5 zv hz.2) q6.2.2.1 q6.2.2.2.1
    have e118 : x' 118 = t 118 := q6.1 118 (by omega)
    have e141 : x' 141 P = st := by rw [q5 141 (by omega)]; exact h141
    refine lo_go q1 g.1 (fun T' k' hPT hT hG1 => ?_)
    rcases hc with ⟨u1, u2, u3, u4⟩ | ⟨u1, u2, u3, u4⟩
    · refine go_E hPT hT hG1.in (by rw [e118, u1]; decide) (fun t' et => ?_)
      have hG' : rG b0 P n x0 600 k' t' := by rw [et]; exact hG1.up (by omega)
      have r1 : ∀ k, k ≠ 141 → t' k = x' k := fun k q => by rw [et, pu_ne q]
      rw [e118, u1, e141, u2]
      refine ⟨fun z => absurd z (by decide), fun _ => ⟨fun z => absurd z (by decide), fun _ => ⟨fun z => absurd z (by decide), fun _ => ⟨fun z => absurd z (by decide), fun _ => ⟨fun _ => ⟨hG1.in, fun z => absurd z (by decide), fun _ => ⟨hT, hT, ?_⟩⟩, fun z => absurd rfl z⟩⟩⟩⟩⟩
      rw [hPT]
      refine lo_on (zs := zs) (zv := zv) hK hG' hPT hT (by rw [r1 111 (by decide)]; exact g.1) (by rw [et]; exact q2.fm g.1 (by omega)) (hE'.mono (by rw [r1 144 (by decide)]) (by rw [r1 145 (by decide)]) (by rw [r1 146 (by decide)]) (by rw [r1 zs (by omega)]) (by rw [r1 zv (by omega)]) (by rw [r1 111 (by decide)]; exact Int.le_refl _) (by rw [r1 111 (by decide)]; exact Int.le_refl _)) (by rw [u3]) (by rw [u4]) h2 hr
    · refine go_E hPT hT hG1.in (by rw [e118, u1]; decide) (fun t' et => ?_)
      have hG' : rG b0 P n x0 600 k' t' := by rw [et]; exact hG1.up (by omega)
      have r1 : ∀ k, k ≠ 141 → t' k = x' k := fun k q => by rw [et, pu_ne q]
      rw [e118, u1, e141, u2]
      refine ⟨fun z => absurd z (by decide), fun _ => ⟨fun z => absurd z (by decide), fun _ => ⟨fun z => absurd z (by decide), fun _ => ⟨fun z => absurd z (by decide), fun _ => ⟨fun z => absurd z (by decide), fun _ => ⟨fun z => absurd z (by decide), fun _ => ⟨fun z => absurd z (by decide), fun _ => ⟨hT, hT, ?_⟩⟩⟩⟩⟩⟩⟩⟩
      rw [hPT]
      refine lo_on (zs := zs) (zv := zv) hK hG' hPT hT (by rw [r1 111 (by decide)]; exact g.1) (by rw [et]; exact q2.fm g.1 (by omega)) (hE'.mono (by rw [r1 144 (by decide)]) (by rw [r1 145 (by decide)]) (by rw [r1 146 (by decide)]) (by rw [r1 zs (by omega)]) (by rw [r1 zv (by omega)]) (by rw [r1 111 (by decide)]; exact Int.le_refl _) (by rw [r1 111 (by decide)]; exact Int.le_refl _)) (by rw [u3]) (by rw [u4]) h2 hr
/-- the class works an end -/
theorem kx_end (hK : kS b0 (e + 1) lim K) (hd : p2.toInt = e + 1) (he : 0 ≤ e ∧ e ≤ 59) (hl : lim ≤ e + 2) (hw : io_WI b0 (e + 1) c) (hna : io_nd c a) (hc : ∀ x, oR c x → (x 118 n.toNatClampNeg = 27 ∧ st = 2 ∧ zs = 143 ∧ zv = 142) ∨ (x 118 n.toNatClampNeg = 28 ∧ st = 3 ∧ zs = 148 ∧ zv = 147)) (ha : 0 ≤ a.toInt ∧ a.toInt < n.toNatClampNeg) (h5 : c 107 7 = 5 → post 0 c) (hp : ¬ c 107 7 = 5 → ∀ r c', io_WI b0 e c' → io_Fr c c' → eS zs zv st b0 e c n a r c' → post r c') : wp_X8_workEnd K c a p2 post := by
  refine ⟨h5, fun n5 => kx_call hK hd he hl hw hna (fun r1 c1 a1 b1 hS => ⟨fun hr0 => hp n5 _ _ (a1.le (by omega)) b1 ?_, fun hr1 s1 e1 s2 e2 s3 e3 => ?_⟩)⟩
  · rw [hr0] at hS
    refine eS_bad (fun x q => ?_) ha hS
    rcases hc x q with u | u
    · exact Or.inl ⟨u.1, u.2.1⟩
    · exact Or.inr ⟨u.1, u.2.1⟩
  · have hS := hS.one hr1
    have h2 : s3 = io_up (io_up (io_up c1 107 7 (c 107 7)) 107 8 (c 107 8)) 107 9 (c 107 9) := by rw [e3, e2, e1]
    have hw3 : io_WI b0 e s3 := by rw [h2]; exact (((a1.w (by omega)).w (by omega)).w (by omega)).le (by omega)
    have hF3 : io_Fr c s3 := by rw [h2]; exact ((b1.up (by omega)).up (by omega)).up (by omega)
    have e7 : s3 107 7 = c 107 7 := by rw [h2, pu_same (by decide), pu_same (by decide), pu_self]
    rw [e7]
    exact ⟨fun q => hp n5 _ _ hw3 hF3 (eS_good hc ha hS h2 (Or.inl ⟨q, rfl⟩)), fun q => hp n5 _ _ hw3 hF3 (eS_good hc ha hS h2 (Or.inr ⟨q, rfl⟩))⟩
end EU
