/-- a node goes on behind a part that came to a value -/
def mS (b0 e : Int) (c : io_M) (n : Int32) (F : io_M → Nat → Prop) (r : Int32) (c' : io_M) : Prop := ∀ (P : Nat) (x0 x : io_M) (pv : io_M → Prop), (P : Int) = e → fF b0 P n x0 x → oR c x → oO 1 c x → rOut x → F x P → (∀ x', rQ b0 P x0 x' → oR c' x' → oO r c' x' → rLo pv x') → rLo pv x
def F1 (x : io_M) (P : Nat) : Prop := x 141 P = 1 ∧ x 144 P = 0
section ER
variable {b0 e d : Int} {P Q k : Nat} {m : Int} {c c' c1 c2 x x0 x' t : io_M} {n a r r1 T v s w : Int32} {pv : io_M → Prop} {post : Int32 → io_M → Prop} {F : io_M → Nat → Prop}
theorem oR.fm {z : Nat} (hR : oR c x) (hg : x 111 48 = 0) (hz : 140 ≤ z) : oR c (io_up x z P v) := hR.fr (fun _ _ _ => rfl) rfl (fun k a b => pu_ne (by omega)) (fun j a => by rw [pu_ne (by omega)]) (Or.inr (hR.v (by rw [hg]; decide)))
theorem rMo.fm {z : Nat} (hz : 140 ≤ z) : rMo x (io_up x z P v) := ⟨fun k q => pu_ne (by omega), by rw [pu_ne (by omega)], by rw [pu_ne (by omega)]; exact Int.le_refl _, by rw [pu_ne (by omega)]; exact Int.le_refl _, by rw [pu_ne (by omega)]; exact Int.le_refl _⟩
/-- the first part is worked -/
theorem st_0 (h : fF b0 P n x0 x) (hg : x 111 48 = 0) (h141 : x 141 P = 0) (hR : oR c x) (hk : (4 ≤ (x 118 n.toNatClampNeg).toInt ∧ (x 118 n.toNatClampNeg).toInt ≤ 14) ∨ x 118 n.toNatClampNeg = 17 ∨ (19 ≤ (x 118 n.toNatClampNeg).toInt ∧ (x 118 n.toNatClampNeg).toInt ≤ 23) ∨ 25 ≤ (x 118 n.toNatClampNeg).toInt) (hS : cS b0 e c (x 119 n.toNatClampNeg) r1 c1) (he : e = P + 1) (ha : 0 ≤ (x 119 n.toNatClampNeg).toInt ∧ (x 119 n.toNatClampNeg).toInt < n.toInt) (h3 : ∀ x', rQ b0 P x0 x' → oR c1 x' → oO r1 c1 x' → x' 111 48 = 3 → rLo pv x') (hn : ∀ x', fF b0 P n x0 x' → oR c1 x' → oO r1 c1 x' → rOut x' → x' 141 P = 1 → (∀ k, 140 ≤ k → k ≠ 141 → x' k P = x k P) → rMo x x' → (x 111 35).toInt + 1 ≤ (x' 111 35).toInt → rLo pv x') : rLo pv x := by
  refine lo_go h hg (fun T k hP hT hG => ?_)
  have hin := hG.in
  have body : ∀ t, t = io_up x 141 P (x 141 P + 1) → wp_X10_begin t (t 119 n.toNatClampNeg) (fun s => wl_X10_work_0 k s pv) := by
    intro t et
    have hG' : rG b0 P n x0 600 k t := by rw [et]; exact hG.up (by omega)
    have r : ∀ k, k ≠ 141 → t k = x k := fun k q => by rw [et, pu_ne q]
    have e1 : t 141 P = 1 := by rw [et, pu_self, h141]; rfl
    have hmo : rMo x t := by rw [et]; exact rMo.fm (by omega)
    rw [r 119 (by decide)]
    refine lo_call hG' h.2.2.2.2.2.2 (by rw [r 111 (by decide)]; exact hg) (by rw [et]; exact hR.fm hg (by omega)) hS he ha h3 (fun x' q1 q2 q3 q4 q5 q6 q7 => hn x' q1 q2 q3 q4 (by rw [q5 141 (by omega)]; exact e1) (fun k a b => by rw [q5 k a, r k b]) (hmo.tr q6) (by rw [r 111 (by decide)] at q7; exact q7))
  rcases hk with q | q | q | q
  · refine go_H hP hT hin q (fun t et => ?_)
    have b := body t et
    have k17 : wj_X10_goHandles_17 t T n (x 118 n.toNatClampNeg) (x 141 P) (fun s => wl_X10_work_0 k s pv) := ⟨fun _ => ⟨hin, b⟩, fun q => absurd h141 q⟩
    exact ⟨fun _ => k17, fun _ => ⟨fun _ => k17, fun _ => ⟨fun _ => k17, fun _ => ⟨fun _ => ⟨hin, b⟩, fun q => absurd h141 q⟩⟩⟩⟩
  · refine go_T hP hT hin (Or.inl q) (fun t et => ⟨fun z => ?_, fun _ => ⟨fun _ => ⟨hin, body t et⟩, fun q => absurd h141 q⟩⟩)
    rw [q] at z; exact absurd z (by decide)
  · exact go_P hP hT hin q (fun t et => ⟨fun _ => ⟨hin, body t et⟩, fun q => absurd h141 q⟩)
  · refine go_E hP hT hin (by omega) (fun t et => ⟨fun z => ?_, fun _ => ⟨fun _ => ⟨hin, body t et⟩, fun q => absurd h141 q⟩⟩)
    rw [z] at q; exact absurd q (by decide)
theorem nS_bad (hn : io_nd c n) (hk : (4 ≤ (c 97 n.toNatClampNeg).toInt ∧ (c 97 n.toNatClampNeg).toInt ≤ 14) ∨ c 97 n.toNatClampNeg = 17 ∨ (19 ≤ (c 97 n.toNatClampNeg).toInt ∧ (c 97 n.toNatClampNeg).toInt ≤ 23) ∨ (c 97 n.toNatClampNeg).toInt = 25 ∨ c 97 n.toNatClampNeg = 28) (ha : 0 ≤ (c 98 n.toNatClampNeg).toInt ∧ (c 98 n.toNatClampNeg).toInt < n.toNatClampNeg) (hS : cS b0 (e + 1) c (c 98 n.toNatClampNeg) 0 c1) : nS b0 e c n 0 c1 := by
  intro P x pv hP hSx hg h140 h141 h144 hPn hn0 hn1 hR hK
  obtain ⟨s97, s98, s99, s100⟩ := nd_s hR hn
  rw [s97] at hk
  rw [s98] at ha hS
  have hcl := pz_cl n
  have hF : fF b0 P n x x := ⟨hSx, h140, rMo.rf, rFr.rf, hn0, hn1, hPn⟩
  refine st_0 hF hg h141 hR ?_ hS (by omega) (by omega) (fun x' q1 q2 q3 _ => hK x' q1 q2 q3) (fun x' q1 q2 q3 q4 q5 q6 q7 q8 => lo_prop hK q1 q2 q3 q4 (fun z => ?_) (fun z => ?_) (fun _ => by rw [q5]; decide))
  · rcases hk with q | q | q | q | q
    · exact Or.inl q
    · exact Or.inr (Or.inl q)
    · exact Or.inr (Or.inr (Or.inl q))
    · exact Or.inr (Or.inr (Or.inr (by omega)))
    · exact Or.inr (Or.inr (Or.inr (by rw [q]; decide)))
  · rw [q7.1 118 (by omega)] at z
    rw [z] at hk
    exact absurd hk (by decide)
  · rw [q7.1 118 (by omega)] at z
    rw [z] at hk
    exact absurd hk (by decide)
theorem nS_good (hn : io_nd c n) (hk : (4 ≤ (c 97 n.toNatClampNeg).toInt ∧ (c 97 n.toNatClampNeg).toInt ≤ 14) ∨ c 97 n.toNatClampNeg = 17 ∨ (19 ≤ (c 97 n.toNatClampNeg).toInt ∧ (c 97 n.toNatClampNeg).toInt ≤ 23) ∨ 25 ≤ (c 97 n.toNatClampNeg).toInt) (ha : 0 ≤ (c 98 n.toNatClampNeg).toInt ∧ (c 98 n.toNatClampNeg).toInt < n.toNatClampNeg) (hS : cS b0 (e + 1) c (c 98 n.toNatClampNeg) 1 c1) (hM : mS b0 e c1 n F1 r c') : nS b0 e c n r c' := by
  intro P x pv hP hSx hg h140 h141 h144 hPn hn0 hn1 hR hK
  obtain ⟨s97, s98, s99, s100⟩ := nd_s hR hn
  rw [s97] at hk
  rw [s98] at ha hS
  have hcl := pz_cl n
  have hF : fF b0 P n x x := ⟨hSx, h140, rMo.rf, rFr.rf, hn0, hn1, hPn⟩
  refine st_0 hF hg h141 hR hk hS (by omega) (by omega) (fun x' q1 q2 q3 q4 => ?_) (fun x' q1 q2 q3 q4 q5 q6 q7 q8 => hM P x x' pv hP q1 q2 q3 q4 ⟨q5, by rw [q6 144 (by omega) (by decide)]; exact h144⟩ hK)
  have := q3.g0.1
  rw [q4] at this
  exact absurd this (by decide)
/-- a value of the wrong sort -/
theorem st_1f (h : fF b0 P n x0 x) (hg : x 111 48 = 0) (h141 : x 141 P = 1) (hR : oR c x) (hw : ¬ x 111 46 = w) (hk : ((4 ≤ (x 118 n.toNatClampNeg).toInt ∧ (x 118 n.toNatClampNeg).toInt ≤ 14) ∧ w = (if x 118 n.toNatClampNeg = 8 then 2 else if x 118 n.toNatClampNeg = 9 then 2 else 1)) ∨ (w = 0 ∧ (x 118 n.toNatClampNeg = 17 ∨ x 118 n.toNatClampNeg = 20 ∨ x 118 n.toNatClampNeg = 21 ∨ x 118 n.toNatClampNeg = 22 ∨ x 118 n.toNatClampNeg = 23 ∨ x 118 n.toNatClampNeg = 25))) (hK : ∀ x', rQ b0 P x0 x' → oR (fl3 c 4 n) x' → oO 0 (fl3 c 4 n) x' → rLo pv x') : rLo pv x := by
  refine lo_go h hg (fun T k hP hT hG => ?_)
  have hin := hG.in
  have body : ∀ (t : io_M) (Y : Int32 → io_M → Prop), t = io_up x 141 P (x 141 P + 1) → (∀ s, wl_X10_work_0 k s pv → Y 0 s) → wp_X10_isSort t n w Y := by
    intro t Y et hY
    have hG' : rG b0 P n x0 600 k t := by rw [et]; exact hG.up (by omega)
    have r : ∀ k, k ≠ 141 → t k = x k := fun k q => by rw [et, pu_ne q]
    have hg' : t 111 48 = 0 := by rw [r 111 (by decide)]; exact hg
    exact ⟨fun q => absurd (by rw [r 111 (by decide)] at q; exact q) hw, fun _ => en_fail (hG'.mid hg') (by omega) (by rw [et]; exact hR.fm hg (by omega)) (fun x' q1 q2 q3 => hY x' (lo_end hK hG' x' q1 q2 q3))⟩
  have n0 : ¬ x 141 P = 0 := by rw [h141]; decide
  have n2 : ¬ x 141 P = 2 := by rw [h141]; decide
  rcases hk with ⟨q, e⟩ | ⟨e, q⟩
  · refine go_H hP hT hin q (fun t et => ?_)
    by_cases e8 : x 118 n.toNatClampNeg = 8
    · rw [if_pos e8] at e
      have k17 : wj_X10_goHandles_17 t T n (x 118 n.toNatClampNeg) (x 141 P) (fun s => wl_X10_work_0 k s pv) := ⟨fun z => absurd z n0, fun _ => ⟨fun _ => ⟨fun z => absurd z (by decide), fun _ => ⟨fun _ => by rw [← e]; exact body t _ et (fun s z => ⟨fun _ => z, fun u => absurd rfl u⟩), fun z => absurd e8 z⟩⟩, fun z => absurd h141 z⟩⟩
      exact ⟨fun _ => k17, fun _ => ⟨fun _ => k17, fun z => absurd e8 z⟩⟩
    · rw [if_neg e8] at e
      by_cases e9 : x 118 n.toNatClampNeg = 9
      · rw [if_pos e9] at e
        refine ⟨fun z => ?_, fun _ => ⟨fun z => absurd z e8, fun _ => ⟨fun z => ?_, fun _ => ⟨fun z => absurd z n0, fun _ => ⟨fun _ => ⟨fun _ => ⟨fun _ => ⟨fun _ => by rw [← e]; exact body t _ et (fun s z => ⟨fun _ => z, fun u => absurd rfl u⟩), fun z => absurd e9 z⟩, fun z => absurd rfl z⟩, fun z => absurd rfl z⟩, fun z => absurd h141 z⟩⟩⟩⟩⟩
        · rw [e9] at z; exact absurd z (by decide)
        · rw [e9] at z; exact absurd z (by decide)
      · rw [if_neg e9] at e
        have k17 : wj_X10_goHandles_17 t T n (x 118 n.toNatClampNeg) (x 141 P) (fun s => wl_X10_work_0 k s pv) := ⟨fun z => absurd z n0, fun _ => ⟨fun _ => ⟨fun z => absurd z (by decide), fun _ => ⟨fun z => absurd z e8, fun _ => by rw [← e]; exact body t _ et (fun s z => ⟨fun _ => z, fun u => absurd rfl u⟩)⟩⟩, fun z => absurd h141 z⟩⟩
        exact ⟨fun _ => k17, fun _ => ⟨fun _ => k17, fun _ => ⟨fun _ => k17, fun _ => ⟨fun z => absurd z n0, fun _ => ⟨fun _ => ⟨fun _ => ⟨fun _ => ⟨fun z => absurd z e9, fun _ => by rw [← e]; exact body t _ et (fun s z => ⟨fun _ => z, fun u => absurd rfl u⟩)⟩, fun z => absurd rfl z⟩, fun z => absurd rfl z⟩, fun z => absurd h141 z⟩⟩⟩⟩⟩
  · have bd : ∀ (t : io_M) (Y : Int32 → io_M → Prop), t = io_up x 141 P (x 141 P + 1) → (∀ s, wl_X10_work_0 k s pv → Y 0 s) → wp_X10_isSort t n 0 Y := fun t Y et hY => by have := body t Y et hY; rw [e] at this; exact this
    rcases q with q | q | q | q | q | q
    · refine go_T hP hT hin (Or.inl q) (fun t et => ⟨fun z => ?_, fun _ => ⟨fun z => absurd z n0, fun _ => bd t _ et (fun s z => ⟨fun _ => z, fun u => absurd rfl u⟩)⟩⟩)
      rw [q] at z; exact absurd z (by decide)
    · refine go_P hP hT hin (by rw [q]; decide) (fun t et => ⟨fun z => absurd z n0, fun _ => ⟨fun z => ?_, fun _ => ⟨fun _ => ⟨fun z => absurd z n2, fun _ => bd t _ et (fun s z => ⟨fun _ => z, fun u => absurd rfl u⟩)⟩, fun z => absurd q z⟩⟩⟩)
      rw [q] at z; exact absurd z (by decide)
    · refine go_P hP hT hin (by rw [q]; decide) (fun t et => ⟨fun z => absurd z n0, fun _ => ⟨fun z => ?_, fun _ => ⟨fun z => ?_, fun _ => ⟨fun z => ?_, fun _ => bd t _ et (fun s z => ⟨fun _ => z, fun u => absurd rfl u⟩)⟩⟩⟩⟩)
      · rw [q] at z; exact absurd z (by decide)
      · rw [q] at z; exact absurd z (by decide)
      · rw [q] at z; exact absurd z (by decide)
    · refine go_P hP hT hin (by rw [q]; decide) (fun t et => ⟨fun z => absurd z n0, fun _ => ⟨fun z => ?_, fun _ => ⟨fun z => ?_, fun _ => ⟨fun z => ?_, fun _ => bd t _ et (fun s z => ⟨fun _ => z, fun u => absurd rfl u⟩)⟩⟩⟩⟩)
      · rw [q] at z; exact absurd z (by decide)
      · rw [q] at z; exact absurd z (by decide)
      · rw [q] at z; exact absurd z (by decide)
    · refine go_P hP hT hin (by rw [q]; decide) (fun t et => ⟨fun z => absurd z n0, fun _ => ⟨fun z => ?_, fun _ => ⟨fun z => ?_, fun _ => ⟨fun _ => ⟨fun _ => bd t _ et (fun s z => ⟨fun _ => z, fun u => absurd rfl u⟩), fun z => absurd h141 z⟩, fun z => absurd q z⟩⟩⟩⟩)
      · rw [q] at z; exact absurd z (by decide)
      · rw [q] at z; exact absurd z (by decide)
    · refine go_E hP hT hin (by rw [q]; decide) (fun t et => ⟨fun z => ?_, fun _ => ⟨fun z => absurd z n0, fun _ => ⟨fun _ => bd t _ et (fun s z => ⟨fun _ => z, fun u => absurd rfl u⟩), fun z => absurd q z⟩⟩⟩)
      rw [q] at z; exact absurd z (by decide)
theorem mS_1f (hk : ∀ x, oR c x → ((4 ≤ (x 118 n.toNatClampNeg).toInt ∧ (x 118 n.toNatClampNeg).toInt ≤ 14) ∧ w = (if x 118 n.toNatClampNeg = 8 then 2 else if x 118 n.toNatClampNeg = 9 then 2 else 1)) ∨ (w = 0 ∧ (x 118 n.toNatClampNeg = 17 ∨ x 118 n.toNatClampNeg = 20 ∨ x 118 n.toNatClampNeg = 21 ∨ x 118 n.toNatClampNeg = 22 ∨ x 118 n.toNatClampNeg = 23 ∨ x 118 n.toNatClampNeg = 25))) (hw : ¬ c 107 7 = w) : mS b0 e c n F1 0 (fl3 c 4 n) := by
  intro P x0 x pv hP hF hR hO ho hF1 hK
  have g := hO.g0
  exact st_1f hF g.1 hF1.1 hR (by rw [← g.2.1]; exact hw) (hk x hR) hK
/-- behind the first value the second part is worked -/
theorem st_1 (h : fF b0 P n x0 x) (hg : x 111 48 = 0) (h141 : x 141 P = 1) (hR : oR c x) (hw : x 111 46 = w) (hk : ((x 118 n.toNatClampNeg = 5 ∨ x 118 n.toNatClampNeg = 10) ∧ w = 1) ∨ (x 118 n.toNatClampNeg = 8 ∧ w = 2) ∨ ((x 118 n.toNatClampNeg = 21 ∨ x 118 n.toNatClampNeg = 22) ∧ w = 0)) (hS : cS b0 e c (x 120 n.toNatClampNeg) r1 c1) (he : e = P + 1) (ha : 0 ≤ (x 120 n.toNatClampNeg).toInt ∧ (x 120 n.toNatClampNeg).toInt < n.toInt) (h3 : ∀ x', rQ b0 P x0 x' → oR c1 x' → oO r1 c1 x' → x' 111 48 = 3 → rLo pv x') (hn : ∀ x', fF b0 P n x0 x' → oR c1 x' → oO r1 c1 x' → rOut x' → x' 141 P = 2 → x' 142 P = x 111 47 → rMo x x' → rLo pv x') : rLo pv x := by
  refine lo_go h hg (fun T k hP hT hG => ?_)
  have hin := hG.in
  have body : ∀ t, t = io_up x 141 P (x 141 P + 1) → ∀ t2, t2 = io_up t 142 P (t 111 47) → wp_X10_begin t2 (t2 120 n.toNatClampNeg) (fun s => wl_X10_work_0 k s pv) := by
    intro t et t2 et2
    have hG' : rG b0 P n x0 600 k t2 := by rw [et2, et]; exact (hG.up (by omega)).up (by omega)
    have r : ∀ k, k ≠ 141 → k ≠ 142 → t2 k = x k := fun k q q2 => by rw [et2, pu_ne q2, et, pu_ne q]
    have r1 : t 111 = x 111 := by rw [et, pu_ne (by decide)]
    have e1 : t2 141 P = 2 := by rw [et2, pu_ne (by decide), et, pu_self, h141]; rfl
    have e2 : t2 142 P = x 111 47 := by rw [et2, pu_self, r1]
    have hg1 : t 111 48 = 0 := by rw [r1]; exact hg
    have hmo : rMo x t2 := by rw [et2, et]; exact (rMo.fm (by omega)).tr (rMo.fm (by omega))
    rw [r 120 (by decide) (by decide)]
    refine lo_call hG' h.2.2.2.2.2.2 (by rw [r 111 (by decide) (by decide)]; exact hg) (by rw [et2]; refine oR.fm ?_ hg1 (by omega); rw [et]; exact hR.fm hg (by omega)) hS he ha h3 (fun x' q1 q2 q3 q4 q5 q6 q7 => hn x' q1 q2 q3 q4 (by rw [q5 141 (by omega)]; exact e1) (by rw [q5 142 (by omega)]; exact e2) (hmo.tr q6))
  have n0 : ¬ x 141 P = 0 := by rw [h141]; decide
  have srt : ∀ (t : io_M) (Y : Int32 → io_M → Prop), t = io_up x 141 P (x 141 P + 1) → Y 1 t → wp_X10_isSort t n w Y := by
    intro t Y et hY
    have r1 : t 111 = x 111 := by rw [et, pu_ne (by decide)]
    exact ⟨fun _ => hY, fun q => absurd (by rw [r1]; exact hw) q⟩
  have c64 : ∀ t, t = io_up x 141 P (x 141 P + 1) → wj_X10_goHandles_64 t T n w n (fun s => wl_X10_work_0 k s pv) := by
    intro t et
    refine srt t _ et ⟨fun z => absurd z (by decide), fun _ => ⟨hT, fun t2 et2 => ⟨hin, ?_⟩⟩⟩
    rw [hP] at et2
    exact body t et t2 et2
  rcases hk with ⟨q, e⟩ | ⟨q, e⟩ | ⟨q, e⟩
  · refine go_H hP hT hin (by rcases q with q | q <;> rw [q] <;> decide) (fun t et => ?_)
    have e8 : ¬ x 118 n.toNatClampNeg = 8 := by rcases q with q | q <;> rw [q] <;> decide
    have k17 : wj_X10_goHandles_17 t T n (x 118 n.toNatClampNeg) (x 141 P) (fun s => wl_X10_work_0 k s pv) := ⟨fun z => absurd z n0, fun _ => ⟨fun _ => ⟨fun z => absurd z (by decide), fun _ => ⟨fun z => absurd z e8, fun _ => by rw [← e]; exact c64 t et⟩⟩, fun z => absurd h141 z⟩⟩
    refine ⟨fun _ => k17, fun z => ⟨fun _ => k17, fun _ => ⟨fun _ => k17, fun z2 => ?_⟩⟩⟩
    rcases q with q | q
    · exact absurd q z
    · exact absurd q z2
  · refine go_H hP hT hin (by rw [q]; decide) (fun t et => ?_)
    have k17 : wj_X10_goHandles_17 t T n (x 118 n.toNatClampNeg) (x 141 P) (fun s => wl_X10_work_0 k s pv) := ⟨fun z => absurd z n0, fun _ => ⟨fun _ => ⟨fun z => absurd z (by decide), fun _ => ⟨fun _ => by rw [← e]; exact c64 t et, fun z => absurd q z⟩⟩, fun z => absurd h141 z⟩⟩
    exact ⟨fun _ => k17, fun z => ⟨fun _ => k17, fun z => absurd q z⟩⟩
  · refine go_P hP hT hin (by rcases q with q | q <;> rw [q] <;> decide) (fun t et => ⟨fun z => absurd z n0, fun _ => ⟨fun z => ?_, fun _ => ⟨fun z => ?_, fun _ => ⟨fun z => ?_, fun _ => ?_⟩⟩⟩⟩)
    · rcases q with q | q <;> rw [q] at z <;> exact absurd z (by decide)
    · rcases q with q | q <;> rw [q] at z <;> exact absurd z (by decide)
    · rcases q with q | q <;> rw [q] at z <;> exact absurd z (by decide)
    · have srt0 : ∀ Y : Int32 → io_M → Prop, Y 1 t → wp_X10_isSort t n 0 Y := fun Y hY => by have := srt t Y et hY; rw [e] at this; exact this
      refine srt0 _ ⟨fun z => absurd z (by decide), fun _ => ⟨fun _ => ⟨hT, fun t2 et2 => ⟨hin, ?_⟩⟩, fun z => absurd h141 z⟩⟩
      rw [hP] at et2
      exact body t et t2 et2
theorem mS_2bad (hk : ∀ x, oR c x → (((x 118 n.toNatClampNeg = 5 ∨ x 118 n.toNatClampNeg = 10) ∧ c 107 7 = 1) ∨ (x 118 n.toNatClampNeg = 8 ∧ c 107 7 = 2) ∨ ((x 118 n.toNatClampNeg = 21 ∨ x 118 n.toNatClampNeg = 22) ∧ c 107 7 = 0)) ∧ x 120 n.toNatClampNeg = a) (ha : 0 ≤ a.toInt ∧ a.toInt < n.toNatClampNeg) (hS : cS b0 (e + 1) c a 0 c1) : mS b0 e c n F1 0 c1 := by
  intro P x0 x pv hP hF hR hO ho hF1 hK
  have g := hO.g0
  obtain ⟨k1, k2⟩ := hk x hR
  rw [← k2] at hS ha
  have hcl := pz_cl n
  have h0 := hF.2.2.2.2.1
  refine st_1 hF g.1 hF1.1 hR g.2.1.symm k1 hS (by omega) (by omega) (fun x' q1 q2 q3 _ => hK x' q1 q2 q3) (fun x' q1 q2 q3 q4 q5 q6 q7 => lo_prop hK q1 q2 q3 q4 (fun z => ?_) (fun z => ?_) (fun z => ?_))
  · rw [q7.1 118 (by omega)] at z
    rw [z] at k1
    rcases k1 with ⟨u, _⟩ | ⟨u, _⟩ | ⟨u, _⟩ <;> exact absurd u (by decide)
  · rw [q7.1 118 (by omega)] at z
    rw [z] at k1
    rcases k1 with ⟨u, _⟩ | ⟨u, _⟩ | ⟨u, _⟩ <;> exact absurd u (by decide)
  · rw [q7.1 118 (by omega)] at z
    rw [z] at k1
    rcases k1 with ⟨u, _⟩ | ⟨u, _⟩ | ⟨u, _⟩ <;> exact absurd u (by decide)
/-- behind the second value; the first is kept -/
def F2 (v s : Int32) (x : io_M) (P : Nat) : Prop := x 141 P = 2 ∧ x 142 P = v ∧ tv (x 111 16) (x 111 28) s v
theorem mS_2good (hk : ∀ x, oR c x → (((x 118 n.toNatClampNeg = 5 ∨ x 118 n.toNatClampNeg = 10) ∧ c 107 7 = 1) ∨ (x 118 n.toNatClampNeg = 8 ∧ c 107 7 = 2) ∨ ((x 118 n.toNatClampNeg = 21 ∨ x 118 n.toNatClampNeg = 22) ∧ c 107 7 = 0)) ∧ x 120 n.toNatClampNeg = a) (ha : 0 ≤ a.toInt ∧ a.toInt < n.toNatClampNeg) (hS : cS b0 (e + 1) c a 1 c1) (hM : mS b0 e c1 n (F2 (c 107 8) (c 107 7)) r c') : mS b0 e c n F1 r c' := by
  intro P x0 x pv hP hF hR hO ho hF1 hK
  have g := hO.g0
  obtain ⟨k1, k2⟩ := hk x hR
  rw [← k2] at hS ha
  have hcl := pz_cl n
  have h0 := hF.2.2.2.2.1
  refine st_1 hF g.1 hF1.1 hR g.2.1.symm k1 hS (by omega) (by omega) (fun x' q1 q2 q3 q4 => ?_) (fun x' q1 q2 q3 q4 q5 q6 q7 => hM P x0 x' pv hP q1 q2 q3 q4 ⟨q5, by rw [q6, g.2.2.1], ?_⟩ hK)
  · have := q3.g0.1
    rw [q4] at this
    exact absurd this (by decide)
  · rw [g.2.1, g.2.2.1]
    exact (ho.tt g.1).mono q7.2.2.1 q7.2.2.2.1
/-- the second value of the wrong sort -/
theorem mS_2f (hk : ∀ x, oR c x → x 118 n.toNatClampNeg = 5 ∨ x 118 n.toNatClampNeg = 8 ∨ x 118 n.toNatClampNeg = 10 ∨ x 118 n.toNatClampNeg = 21 ∨ x 118 n.toNatClampNeg = 22) (hw : ¬ c 107 7 = 0) : mS b0 e c n (F2 v s) 0 (fl3 c 4 n) := by
  intro P x0 x pv hP hF hR hO ho hF1 hK
  have g := hO.g0
  have h141 := hF1.1
  have n0 : ¬ x 141 P = 0 := by rw [h141]; decide
  have n1 : ¬ x 141 P = 1 := by rw [h141]; decide
  refine lo_go hF g.1 (fun T k hPT hT hG => ?_)
  have hin := hG.in
  have body : ∀ (t : io_M) (Y : Int32 → io_M → Prop), t = io_up x 141 P (x 141 P + 1) → (∀ s, wl_X10_work_0 k s pv → Y 0 s) → wp_X10_isSort t n 0 Y := by
    intro t Y et hY
    have hG' : rG b0 P n x0 600 k t := by rw [et]; exact hG.up (by omega)
    have r : ∀ k, k ≠ 141 → t k = x k := fun k q => by rw [et, pu_ne q]
    have hg' : t 111 48 = 0 := by rw [r 111 (by decide)]; exact g.1
    exact ⟨fun q => absurd (by rw [r 111 (by decide), ← g.2.1] at q; exact q) hw, fun _ => en_fail (hG'.mid hg') (by omega) (by rw [et]; exact hR.fm g.1 (by omega)) (fun x' q1 q2 q3 => hY x' (lo_end hK hG' x' q1 q2 q3))⟩
  have hH : (x 118 n.toNatClampNeg = 5 ∨ x 118 n.toNatClampNeg = 8 ∨ x 118 n.toNatClampNeg = 10) → wp_X10_go x T n (fun s => wl_X10_work_0 k s pv) := by
    intro q
    refine go_H hPT hT hin (by rcases q with q | q | q <;> rw [q] <;> decide) (fun t et => ?_)
    have k17 : wj_X10_goHandles_17 t T n (x 118 n.toNatClampNeg) (x 141 P) (fun s => wl_X10_work_0 k s pv) := ⟨fun z => absurd z n0, fun _ => ⟨fun z => absurd z n1, fun _ => ⟨fun z => absurd z (by decide), fun _ => body t _ et (fun s z => ⟨fun _ => z, fun u => absurd rfl u⟩)⟩⟩⟩
    refine ⟨fun _ => k17, fun z => ⟨fun _ => k17, fun z2 => ⟨fun _ => k17, fun z3 => ?_⟩⟩⟩
    rcases q with q | q | q
    · exact absurd q z
    · exact absurd q z2
    · exact absurd q z3
  have hPl : (x 118 n.toNatClampNeg = 21 ∨ x 118 n.toNatClampNeg = 22) → wp_X10_go x T n (fun s => wl_X10_work_0 k s pv) := by
    intro q
    refine go_P hPT hT hin (by rcases q with q | q <;> rw [q] <;> decide) (fun t et => ⟨fun z => absurd z n0, fun _ => ⟨fun z => ?_, fun _ => ⟨fun z => ?_, fun _ => ⟨fun z => ?_, fun _ => body t _ et (fun s z => ⟨fun _ => z, fun u => absurd rfl u⟩)⟩⟩⟩⟩)
    · rcases q with q | q <;> rw [q] at z <;> exact absurd z (by decide)
    · rcases q with q | q <;> rw [q] at z <;> exact absurd z (by decide)
    · rcases q with q | q <;> rw [q] at z <;> exact absurd z (by decide)
  rcases hk x hR with q | q | q | q | q
  · exact hH (Or.inl q)
  · exact hH (Or.inr (Or.inl q))
  · exact hH (Or.inr (Or.inr q))
  · exact hPl (Or.inl q)
  · exact hPl (Or.inr q)
end ER
