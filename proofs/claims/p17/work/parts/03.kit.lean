/-! the logical memory: cell k, place j, an int; ad gives the heap's address of a logical cell, ca the array classes -/
abbrev io_M : Type := Nat → Nat → Int32
def io_up (σ : io_M) (k j : Nat) (v : Int32) : io_M := va_up σ k (va_up (σ k) j v)
def io_src (ad : Nat → Nat) (x : Int32) : Option Nat := if x < 0 then none else some (ad x.toNatClampNeg)
def io_rm (n : Nat) : Room := { frames := n, cells := 0, slots := 0, locals := 40 * n }
def io_bl (x : Int32) : Prop := x = 0 ∨ x = 1
def io_tys (ca : Nat → ClassId) : List (ClassId × FieldType) := [(ca 0, .int), (ca 1, .byte), (ca 2, .boolean), (ca 3, .object "InputOutput$Handle"), (ca 4, .object "InputOutput$LazyList"), (ca 5, .array .int)]
def io_one (ca : Nat → ClassId) (ad : Nat → Nat) (r : Nat → Int32) : List va_E := [
  .inr (1, [.ref (ad 89), .ref (ad 90), .ref (ad 91), .ref (ad 92), .int (r 4)]),
  .inl (ca 2, 8, .inl r),
  .inl (ca 0, 8, .inl r),
  .inl (ca 0, 8, .inl r),
  .inl (ca 5, 8, .inr (.inr (.inr (.inr (fun i => some (ad (80 + i))))))),
  .inr (0, [.ref (ad 94), .ref (ad 95), .int (r 2), .int (r 3), .int (r 4)]),
  .inl (ca 0, 100, .inl r),
  .inl (ca 0, 200, .inl r),
  .inr (7, [.ref (ad 97), .ref (ad 98), .ref (ad 99), .ref (ad 100), .int (r 4)]),
  .inl (ca 0, 60, .inl r),
  .inl (ca 0, 60, .inl r),
  .inl (ca 0, 60, .inl r),
  .inl (ca 0, 60, .inl r),
  .inr (3, [.ref (ad 88), .ref (ad 102), .int (r 2)]),
  .inl (ca 3, 20, .inr (.inr (.inr (.inr (fun i => some (ad i)))))),
  .inr (6, [.ref (ad 104), .int (r 1)]),
  .inl (ca 4, 20, .inr (.inr (.inr (.inr (fun i => some (ad (40 + i))))))),
  .inr (4, [.ref (ad 106), .int (r 1)]),
  .inl (ca 0, 300, .inl r),
  .inr (8, [.ref (ad 96), .ref (ad 93), .ref (ad 101), .ref (ad 103), .ref (ad 105), .ref (ad 108), .ref (ad 109), .int (r 7), .int (r 8), .int (r 9), .int (r 10)]),
  .inl (ca 0, 6, .inl r),
  .inl (ca 0, 6, .inl r),
  .inr (9, [.ref (ad 88), .ref (ad 93), .ref (ad 96), .ref (ad 101), .ref (ad 103), .ref (ad 105), .ref (ad 107)]),
  .inr (10, [.ref (ad 112), .ref (ad 113), .ref (ad 114), .ref (ad 115), .int (r 4), .int (r 5), .ref (ad 116), .int (r 7), .ref (ad 117), .int (r 9), .ref (ad 118), .ref (ad 119), .ref (ad 120), .ref (ad 121), .ref (ad 122), .ref (ad 123), .int (r 16), .ref (ad 124), .ref (ad 125), .ref (ad 126), .ref (ad 127), .ref (ad 128), .ref (ad 129), .ref (ad 130), .ref (ad 131), .ref (ad 132), .ref (ad 133), .ref (ad 134), .int (r 28), .ref (ad 135), .ref (ad 136), .ref (ad 137), .ref (ad 138), .int (r 33), .ref (ad 139), .int (r 35), .int (r 36), .int (r 37), .int (r 38), .ref (ad 140), .ref (ad 141), .ref (ad 142), .ref (ad 143), .ref (ad 144), .ref (ad 145), .ref (ad 146), .int (r 46), .int (r 47), .int (r 48), .int (r 49), .int (r 50), .ref (ad 147), .ref (ad 148)]),
  .inl (ca 2, 8, .inl r),
  .inl (ca 0, 8, .inl r),
  .inl (ca 1, 320, .inl r),
  .inl (ca 0, 8, .inl r),
  .inl (ca 1, 100, .inl r),
  .inl (ca 1, 200, .inl r),
  .inl (ca 0, 60, .inl r),
  .inl (ca 0, 60, .inl r),
  .inl (ca 0, 60, .inl r),
  .inl (ca 0, 60, .inl r),
  .inl (ca 0, 6, .inl r),
  .inl (ca 0, 6, .inl r),
  .inl (ca 0, 20, .inl r),
  .inl (ca 0, 20, .inl r),
  .inl (ca 0, 20, .inl r),
  .inl (ca 0, 20, .inl r),
  .inl (ca 0, 20, .inl r),
  .inl (ca 0, 20, .inl r),
  .inl (ca 0, 20, .inl r),
  .inl (ca 1, 400, .inl r),
  .inl (ca 0, 20, .inl r),
  .inl (ca 0, 20, .inl r),
  .inl (ca 0, 20, .inl r),
  .inl (ca 0, 20, .inl r),
  .inl (ca 0, 20, .inl r),
  .inl (ca 1, 800, .inl r),
  .inl (ca 2, 20, .inl r),
  .inl (ca 0, 300, .inl r),
  .inl (ca 0, 64, .inl r),
  .inl (ca 0, 64, .inl r),
  .inl (ca 0, 64, .inl r),
  .inl (ca 0, 64, .inl r),
  .inl (ca 0, 64, .inl r),
  .inl (ca 0, 64, .inl r),
  .inl (ca 0, 64, .inl r),
  .inl (ca 0, 64, .inl r),
  .inl (ca 0, 64, .inl r)]
def io_ent (ca : Nat → ClassId) (ad : Nat → Nat) (k : Nat) (r : Nat → Int32) : va_E :=
  if k < 20 then .inr (2, [.ref (ad 88), .ref (ad (20 + k)), .int (r 2), .int (r 3), .int (r 4), .int (r 5), .int (r 6), .int (r 7), .int (r 8), .int (r 9), .int (r 10)])
  else if k < 40 then .inl (ca 0, 20, .inl r)
  else if k < 60 then .inr (5, [.ref (ad (20 + k)), va_rf (io_src ad (r 1)), .int (r 2)])
  else if k < 88 then .inl (ca 0, 40, .inl r)
  else (io_one ca ad r).getD (k - 88) (.inr (0, []))
def io_mm (ca : Nat → ClassId) (ad : Nat → Nat) (σ : io_M) : va_W := (List.range 149).map (fun k => (ad k, io_ent ca ad k (σ k)))
theorem io_at {ca : Nat → ClassId} {ad : Nat → Nat} {σ : io_M} {k : Nat} (h : k < 149) : (io_mm ca ad σ)[k]? = some (ad k, io_ent ca ad k (σ k)) := by
  unfold io_mm
  rw [List.getElem?_map, List.getElem?_range h]
  rfl
theorem io_set {ca : Nat → ClassId} {ad : Nat → Nat} {σ : io_M} {k : Nat} (r' : Nat → Int32) : (io_mm ca ad σ).set k (ad k, io_ent ca ad k r') = io_mm ca ad (va_up σ k r') := by
  apply List.ext_getElem?
  intro i
  unfold io_mm
  rw [List.getElem?_set, List.getElem?_map, List.getElem?_map]
  by_cases hik : k = i
  · subst hik
    by_cases hk : k < 149
    · rw [List.getElem?_range hk]
      simp [va_up, hk]
    · have h2 : (List.range 149)[k]? = none := List.getElem?_eq_none (by simp; omega)
      rw [h2]
      simp [hk]
  · by_cases hk : i < 149
    · rw [List.getElem?_range hk]
      simp [va_up, hik, Ne.symm hik]
    · have h2 : (List.range 149)[i]? = none := List.getElem?_eq_none (by simp; omega)
      rw [h2]
      simp [hik]
theorem io_e2 {ca : Nat → ClassId} {ad : Nat → Nat} {k : Nat} (h : k < 20) (r : Nat → Int32) : io_ent ca ad k r = .inr (2, [.ref (ad 88), .ref (ad (20 + k)), .int (r 2), .int (r 3), .int (r 4), .int (r 5), .int (r 6), .int (r 7), .int (r 8), .int (r 9), .int (r 10)]) := if_pos h
theorem io_e5 {ca : Nat → ClassId} {ad : Nat → Nat} {k : Nat} (h : k < 20) (r : Nat → Int32) : io_ent ca ad (40 + k) r = .inr (5, [.ref (ad (20 + (40 + k))), va_rf (io_src ad (r 1)), .int (r 2)]) := by
  unfold io_ent
  rw [if_neg (by omega), if_neg (by omega), if_pos (by omega)]
theorem io_eB {ca : Nat → ClassId} {ad : Nat → Nat} {k : Nat} (h : k < 20) (r : Nat → Int32) : io_ent ca ad (20 + k) r = .inl (ca 0, 20, .inl r) := by
  unfold io_ent
  rw [if_neg (by omega), if_pos (by omega)]
theorem io_eI {ca : Nat → ClassId} {ad : Nat → Nat} {k : Nat} (h : k < 20) (r : Nat → Int32) : io_ent ca ad (20 + (40 + k)) r = .inl (ca 0, 40, .inl r) := by
  unfold io_ent
  rw [if_neg (by omega), if_neg (by omega), if_neg (by omega), if_pos (by omega)]
theorem io_eR {ca : Nat → ClassId} {ad : Nat → Nat} {k : Nat} (h : k < 8) (r : Nat → Int32) : io_ent ca ad (80 + k) r = .inl (ca 0, 40, .inl r) := by
  unfold io_ent
  rw [if_neg (by omega), if_neg (by omega), if_neg (by omega), if_pos (by omega)]
theorem io_e_88 {ca : Nat → ClassId} {ad : Nat → Nat} (r : Nat → Int32) : io_ent ca ad 88 r = .inr (1, [.ref (ad 89), .ref (ad 90), .ref (ad 91), .ref (ad 92), .int (r 4)]) := rfl
theorem io_e_89 {ca : Nat → ClassId} {ad : Nat → Nat} (r : Nat → Int32) : io_ent ca ad 89 r = .inl (ca 2, 8, .inl r) := rfl
theorem io_e_90 {ca : Nat → ClassId} {ad : Nat → Nat} (r : Nat → Int32) : io_ent ca ad 90 r = .inl (ca 0, 8, .inl r) := rfl
theorem io_e_91 {ca : Nat → ClassId} {ad : Nat → Nat} (r : Nat → Int32) : io_ent ca ad 91 r = .inl (ca 0, 8, .inl r) := rfl
theorem io_e_92 {ca : Nat → ClassId} {ad : Nat → Nat} (r : Nat → Int32) : io_ent ca ad 92 r = .inl (ca 5, 8, .inr (.inr (.inr (.inr (fun i => some (ad (80 + i))))))) := rfl
theorem io_e_93 {ca : Nat → ClassId} {ad : Nat → Nat} (r : Nat → Int32) : io_ent ca ad 93 r = .inr (0, [.ref (ad 94), .ref (ad 95), .int (r 2), .int (r 3), .int (r 4)]) := rfl
theorem io_e_94 {ca : Nat → ClassId} {ad : Nat → Nat} (r : Nat → Int32) : io_ent ca ad 94 r = .inl (ca 0, 100, .inl r) := rfl
theorem io_e_95 {ca : Nat → ClassId} {ad : Nat → Nat} (r : Nat → Int32) : io_ent ca ad 95 r = .inl (ca 0, 200, .inl r) := rfl
theorem io_e_96 {ca : Nat → ClassId} {ad : Nat → Nat} (r : Nat → Int32) : io_ent ca ad 96 r = .inr (7, [.ref (ad 97), .ref (ad 98), .ref (ad 99), .ref (ad 100), .int (r 4)]) := rfl
theorem io_e_97 {ca : Nat → ClassId} {ad : Nat → Nat} (r : Nat → Int32) : io_ent ca ad 97 r = .inl (ca 0, 60, .inl r) := rfl
theorem io_e_98 {ca : Nat → ClassId} {ad : Nat → Nat} (r : Nat → Int32) : io_ent ca ad 98 r = .inl (ca 0, 60, .inl r) := rfl
theorem io_e_99 {ca : Nat → ClassId} {ad : Nat → Nat} (r : Nat → Int32) : io_ent ca ad 99 r = .inl (ca 0, 60, .inl r) := rfl
theorem io_e_100 {ca : Nat → ClassId} {ad : Nat → Nat} (r : Nat → Int32) : io_ent ca ad 100 r = .inl (ca 0, 60, .inl r) := rfl
theorem io_e_101 {ca : Nat → ClassId} {ad : Nat → Nat} (r : Nat → Int32) : io_ent ca ad 101 r = .inr (3, [.ref (ad 88), .ref (ad 102), .int (r 2)]) := rfl
theorem io_e_102 {ca : Nat → ClassId} {ad : Nat → Nat} (r : Nat → Int32) : io_ent ca ad 102 r = .inl (ca 3, 20, .inr (.inr (.inr (.inr (fun i => some (ad i)))))) := rfl
theorem io_e_103 {ca : Nat → ClassId} {ad : Nat → Nat} (r : Nat → Int32) : io_ent ca ad 103 r = .inr (6, [.ref (ad 104), .int (r 1)]) := rfl
theorem io_e_104 {ca : Nat → ClassId} {ad : Nat → Nat} (r : Nat → Int32) : io_ent ca ad 104 r = .inl (ca 4, 20, .inr (.inr (.inr (.inr (fun i => some (ad (40 + i))))))) := rfl
theorem io_e_105 {ca : Nat → ClassId} {ad : Nat → Nat} (r : Nat → Int32) : io_ent ca ad 105 r = .inr (4, [.ref (ad 106), .int (r 1)]) := rfl
theorem io_e_106 {ca : Nat → ClassId} {ad : Nat → Nat} (r : Nat → Int32) : io_ent ca ad 106 r = .inl (ca 0, 300, .inl r) := rfl
theorem io_e_107 {ca : Nat → ClassId} {ad : Nat → Nat} (r : Nat → Int32) : io_ent ca ad 107 r = .inr (8, [.ref (ad 96), .ref (ad 93), .ref (ad 101), .ref (ad 103), .ref (ad 105), .ref (ad 108), .ref (ad 109), .int (r 7), .int (r 8), .int (r 9), .int (r 10)]) := rfl
theorem io_e_108 {ca : Nat → ClassId} {ad : Nat → Nat} (r : Nat → Int32) : io_ent ca ad 108 r = .inl (ca 0, 6, .inl r) := rfl
theorem io_e_109 {ca : Nat → ClassId} {ad : Nat → Nat} (r : Nat → Int32) : io_ent ca ad 109 r = .inl (ca 0, 6, .inl r) := rfl
theorem io_e_110 {ca : Nat → ClassId} {ad : Nat → Nat} (r : Nat → Int32) : io_ent ca ad 110 r = .inr (9, [.ref (ad 88), .ref (ad 93), .ref (ad 96), .ref (ad 101), .ref (ad 103), .ref (ad 105), .ref (ad 107)]) := rfl
theorem io_e_111 {ca : Nat → ClassId} {ad : Nat → Nat} (r : Nat → Int32) : io_ent ca ad 111 r = .inr (10, [.ref (ad 112), .ref (ad 113), .ref (ad 114), .ref (ad 115), .int (r 4), .int (r 5), .ref (ad 116), .int (r 7), .ref (ad 117), .int (r 9), .ref (ad 118), .ref (ad 119), .ref (ad 120), .ref (ad 121), .ref (ad 122), .ref (ad 123), .int (r 16), .ref (ad 124), .ref (ad 125), .ref (ad 126), .ref (ad 127), .ref (ad 128), .ref (ad 129), .ref (ad 130), .ref (ad 131), .ref (ad 132), .ref (ad 133), .ref (ad 134), .int (r 28), .ref (ad 135), .ref (ad 136), .ref (ad 137), .ref (ad 138), .int (r 33), .ref (ad 139), .int (r 35), .int (r 36), .int (r 37), .int (r 38), .ref (ad 140), .ref (ad 141), .ref (ad 142), .ref (ad 143), .ref (ad 144), .ref (ad 145), .ref (ad 146), .int (r 46), .int (r 47), .int (r 48), .int (r 49), .int (r 50), .ref (ad 147), .ref (ad 148)]) := rfl
theorem io_e_112 {ca : Nat → ClassId} {ad : Nat → Nat} (r : Nat → Int32) : io_ent ca ad 112 r = .inl (ca 2, 8, .inl r) := rfl
theorem io_e_113 {ca : Nat → ClassId} {ad : Nat → Nat} (r : Nat → Int32) : io_ent ca ad 113 r = .inl (ca 0, 8, .inl r) := rfl
theorem io_e_114 {ca : Nat → ClassId} {ad : Nat → Nat} (r : Nat → Int32) : io_ent ca ad 114 r = .inl (ca 1, 320, .inl r) := rfl
theorem io_e_115 {ca : Nat → ClassId} {ad : Nat → Nat} (r : Nat → Int32) : io_ent ca ad 115 r = .inl (ca 0, 8, .inl r) := rfl
theorem io_e_116 {ca : Nat → ClassId} {ad : Nat → Nat} (r : Nat → Int32) : io_ent ca ad 116 r = .inl (ca 1, 100, .inl r) := rfl
theorem io_e_117 {ca : Nat → ClassId} {ad : Nat → Nat} (r : Nat → Int32) : io_ent ca ad 117 r = .inl (ca 1, 200, .inl r) := rfl
theorem io_e_118 {ca : Nat → ClassId} {ad : Nat → Nat} (r : Nat → Int32) : io_ent ca ad 118 r = .inl (ca 0, 60, .inl r) := rfl
theorem io_e_119 {ca : Nat → ClassId} {ad : Nat → Nat} (r : Nat → Int32) : io_ent ca ad 119 r = .inl (ca 0, 60, .inl r) := rfl
theorem io_e_120 {ca : Nat → ClassId} {ad : Nat → Nat} (r : Nat → Int32) : io_ent ca ad 120 r = .inl (ca 0, 60, .inl r) := rfl
theorem io_e_121 {ca : Nat → ClassId} {ad : Nat → Nat} (r : Nat → Int32) : io_ent ca ad 121 r = .inl (ca 0, 60, .inl r) := rfl
theorem io_e_122 {ca : Nat → ClassId} {ad : Nat → Nat} (r : Nat → Int32) : io_ent ca ad 122 r = .inl (ca 0, 6, .inl r) := rfl
theorem io_e_123 {ca : Nat → ClassId} {ad : Nat → Nat} (r : Nat → Int32) : io_ent ca ad 123 r = .inl (ca 0, 6, .inl r) := rfl
theorem io_e_124 {ca : Nat → ClassId} {ad : Nat → Nat} (r : Nat → Int32) : io_ent ca ad 124 r = .inl (ca 0, 20, .inl r) := rfl
theorem io_e_125 {ca : Nat → ClassId} {ad : Nat → Nat} (r : Nat → Int32) : io_ent ca ad 125 r = .inl (ca 0, 20, .inl r) := rfl
theorem io_e_126 {ca : Nat → ClassId} {ad : Nat → Nat} (r : Nat → Int32) : io_ent ca ad 126 r = .inl (ca 0, 20, .inl r) := rfl
theorem io_e_127 {ca : Nat → ClassId} {ad : Nat → Nat} (r : Nat → Int32) : io_ent ca ad 127 r = .inl (ca 0, 20, .inl r) := rfl
theorem io_e_128 {ca : Nat → ClassId} {ad : Nat → Nat} (r : Nat → Int32) : io_ent ca ad 128 r = .inl (ca 0, 20, .inl r) := rfl
theorem io_e_129 {ca : Nat → ClassId} {ad : Nat → Nat} (r : Nat → Int32) : io_ent ca ad 129 r = .inl (ca 0, 20, .inl r) := rfl
theorem io_e_130 {ca : Nat → ClassId} {ad : Nat → Nat} (r : Nat → Int32) : io_ent ca ad 130 r = .inl (ca 0, 20, .inl r) := rfl
theorem io_e_131 {ca : Nat → ClassId} {ad : Nat → Nat} (r : Nat → Int32) : io_ent ca ad 131 r = .inl (ca 1, 400, .inl r) := rfl
theorem io_e_132 {ca : Nat → ClassId} {ad : Nat → Nat} (r : Nat → Int32) : io_ent ca ad 132 r = .inl (ca 0, 20, .inl r) := rfl
theorem io_e_133 {ca : Nat → ClassId} {ad : Nat → Nat} (r : Nat → Int32) : io_ent ca ad 133 r = .inl (ca 0, 20, .inl r) := rfl
theorem io_e_134 {ca : Nat → ClassId} {ad : Nat → Nat} (r : Nat → Int32) : io_ent ca ad 134 r = .inl (ca 0, 20, .inl r) := rfl
theorem io_e_135 {ca : Nat → ClassId} {ad : Nat → Nat} (r : Nat → Int32) : io_ent ca ad 135 r = .inl (ca 0, 20, .inl r) := rfl
theorem io_e_136 {ca : Nat → ClassId} {ad : Nat → Nat} (r : Nat → Int32) : io_ent ca ad 136 r = .inl (ca 0, 20, .inl r) := rfl
theorem io_e_137 {ca : Nat → ClassId} {ad : Nat → Nat} (r : Nat → Int32) : io_ent ca ad 137 r = .inl (ca 1, 800, .inl r) := rfl
theorem io_e_138 {ca : Nat → ClassId} {ad : Nat → Nat} (r : Nat → Int32) : io_ent ca ad 138 r = .inl (ca 2, 20, .inl r) := rfl
theorem io_e_139 {ca : Nat → ClassId} {ad : Nat → Nat} (r : Nat → Int32) : io_ent ca ad 139 r = .inl (ca 0, 300, .inl r) := rfl
theorem io_e_140 {ca : Nat → ClassId} {ad : Nat → Nat} (r : Nat → Int32) : io_ent ca ad 140 r = .inl (ca 0, 64, .inl r) := rfl
theorem io_e_141 {ca : Nat → ClassId} {ad : Nat → Nat} (r : Nat → Int32) : io_ent ca ad 141 r = .inl (ca 0, 64, .inl r) := rfl
theorem io_e_142 {ca : Nat → ClassId} {ad : Nat → Nat} (r : Nat → Int32) : io_ent ca ad 142 r = .inl (ca 0, 64, .inl r) := rfl
theorem io_e_143 {ca : Nat → ClassId} {ad : Nat → Nat} (r : Nat → Int32) : io_ent ca ad 143 r = .inl (ca 0, 64, .inl r) := rfl
theorem io_e_144 {ca : Nat → ClassId} {ad : Nat → Nat} (r : Nat → Int32) : io_ent ca ad 144 r = .inl (ca 0, 64, .inl r) := rfl
theorem io_e_145 {ca : Nat → ClassId} {ad : Nat → Nat} (r : Nat → Int32) : io_ent ca ad 145 r = .inl (ca 0, 64, .inl r) := rfl
theorem io_e_146 {ca : Nat → ClassId} {ad : Nat → Nat} (r : Nat → Int32) : io_ent ca ad 146 r = .inl (ca 0, 64, .inl r) := rfl
theorem io_e_147 {ca : Nat → ClassId} {ad : Nat → Nat} (r : Nat → Int32) : io_ent ca ad 147 r = .inl (ca 0, 64, .inl r) := rfl
theorem io_e_148 {ca : Nat → ClassId} {ad : Nat → Nat} (r : Nat → Int32) : io_ent ca ad 148 r = .inl (ca 0, 64, .inl r) := rfl
def io_b1 (j : Nat) : Int32 := ([-1, 6, 6, 8, 0, 0, 0, 0, 0, 0, 0, 0, 0, 0, 0, 8, 8, 0, -1, 0, 0, 0, 0, 0, 7, 0, 0, 0, 0] : List Int32).getD j 0
def io_b2 (j : Nat) : Int32 := ([-1, -1, 0, 4, -1, 0, -1, -1, 0, -1, 0, -1, -1, 10, -1, -1, 8, -1, -1, 0, 0, 0, 0, 0, -1, -1, 0, 0, 0] : List Int32).getD j 0
def io_b3 (j : Nat) : Int32 := ([-1, -1, -1, -1, -1, -1, -1, -1, -1, -1, -1, -1, -1, -1, -1, -1, -1, -1, -1, -1, 0, -1, -1, -1, -1, -1, 128, -1, 0] : List Int32).getD j 0
def io_T1 (A : Nat → Prop) (U : State) (H : Heap) (n : String) (f : Nat → Int32) : Prop := ∃ t : Nat, va_Z "InputOutput$Script" n "[I" (.ref t) A U H ∧ va_T .int t 29 (fun j => .int (f j)) A U H
/-- private static calls from a nest mate -/
def io_nl : List (String × Nat × MethodName) := [(RX9, 18, yX0_init), (RX9, 25, yX7_init), (RX6, 21, yX5_init), (RX9, 48, yX4_init), (RX7, 41, yX9_within), (RX3, 28, yX9_within), (RX2, 61, yX9_turned), (RX1, 41, yX9_within), (RX8, 131, yX9_turned), (RX6, 22, yX9_within), (RX5, 23, yX9_within), (RX3, 53, yX9_turned), (RX3, 57, yX9_mayTake), (RX0, 28, yX9_turned), (RX2, 72, yX9_mayTake), (RX6, 32, yX9_turned), (RX4, 25, yX9_within), (RX0, 38, yX9_within)]
def io_NN (U : State) : Prop := ∀ q ∈ io_nl, va_Nw (.methodLinkNest q.1 q.2.1 q.2.2 "InputOutput") U
def io_T (A : Nat → Prop) (U : State) (H : Heap) : Prop := io_T1 A U H "FIRST_BOUNDS" io_b1 ∧ io_T1 A U H "SECOND_BOUNDS" io_b2 ∧ io_T1 A U H "THIRD_BOUNDS" io_b3 ∧ io_NN U
theorem io_T1_to {A : Nat → Prop} {u U : State} {H H1 : Heap} {n : String} {f : Nat → Int32} (hvm : u.vm.Alike U.vm) (hq : ∀ a : Nat, a < H.size → ¬ A a → H1[a]? = H[a]?) (h : io_T1 A u H n f) : io_T1 A U H1 n f := by
  obtain ⟨t, h1, h2⟩ := h
  exact ⟨t, (va_Z.moved hvm h1).kept hq, (va_T.moved hvm h2).kept hq⟩
theorem io_T_to {A : Nat → Prop} {u U : State} {H H1 : Heap} (hW : u.WarmedH U.vm) (hq : ∀ a : Nat, a < H.size → ¬ A a → H1[a]? = H[a]?) (h : io_T A u H) : io_T A U H1 := ⟨io_T1_to hW.alike hq h.1, io_T1_to hW.alike hq h.2.1, io_T1_to hW.alike hq h.2.2.1, fun q hq => (h.2.2.2 q hq).warmM hW⟩
theorem io_T_same {A : Nat → Prop} {u U : State} {H : Heap} (hW : u.vm = U.vm) (h : io_T A u H) : io_T A U H := ⟨io_T1_to (hW ▸ Vm.Alike.refl u.vm) (fun _ _ _ => rfl) h.1, io_T1_to (hW ▸ Vm.Alike.refl u.vm) (fun _ _ _ => rfl) h.2.1, io_T1_to (hW ▸ Vm.Alike.refl u.vm) (fun _ _ _ => rfl) h.2.2.1, fun q hq => (h.2.2.2 q hq).same rfl hW⟩
/-- the world of a state: the cells, the classes, the statics -/
def io_W (D : va_G) (ca : Nat → ClassId) (ad : Nat → Nat) (A : Nat → Prop) (σ : io_M) (U : State) : Prop := va_P D vwCl (io_mm ca ad σ) U.heap ∧ va_K D vwCl (io_tys ca) U ∧ va_D A (io_mm ca ad σ) ∧ io_T A U U.heap
/-- the world on the way: heap H, memory σ, since the entry state s -/
def io_Z (D : va_G) (ca : Nat → ClassId) (ad : Nat → Nat) (A : Nat → Prop) (s : State) (H : Heap) (locs : List Loc) (σ : io_M) : Prop := va_K D vwCl (io_tys ca) s ∧ va_P D vwCl (io_mm ca ad σ) H ∧ va_D A (io_mm ca ad σ) ∧ va_S A s.heap H locs ∧ io_T A s s.heap
theorem io_Z.start {D : va_G} {ca : Nat → ClassId} {ad : Nat → Nat} {A : Nat → Prop} {s : State} {σ : io_M} (h : io_W D ca ad A σ s) : io_Z D ca ad A s s.heap [] σ := ⟨h.2.1, h.1, h.2.2.1, va_S.rf, h.2.2.2⟩
theorem io_Z.end {D : va_G} {ca : Nat → ClassId} {ad : Nat → Nat} {A : Nat → Prop} {s t : State} {H : Heap} {locs : List Loc} {σ : io_M} (Z : io_Z D ca ad A s H locs σ) (ht : t.heap = H) (hW : s.WarmedH t.vm) : io_W D ca ad A σ t := by
  refine ⟨by rw [ht]; exact Z.2.1, va_K.moved hW.alike Z.1, Z.2.2.1, io_T_to hW ?_ Z.2.2.2.2⟩
  intro a h1 h2
  rw [ht]
  exact Z.2.2.2.1.2.1 a h1 h2
theorem io_W.blind {D : va_G} {ca : Nat → ClassId} {ad : Nat → Nat} {A : Nat → Prop} {σ : io_M} {av : List Value} : FrameBlind (va_Pc av (io_W D ca ad A σ)) := fun a U g mk q => ⟨q.1, q.2.1, va_K.moved (u := U) (U := U.calling g mk a) (Vm.Alike.refl U.vm) q.2.2.1, q.2.2.2.1, io_T_same (u := U) (U := U.calling g mk a) rfl q.2.2.2.2⟩
def io_tb : List Cond := lw_tbl.filter goodWord
theorem io_good : ∀ w ∈ io_tb, goodWord w = true := fun w hw => (List.mem_filter.mp hw).2
theorem io_of {w : Cond} (i : Nat) (h : lw_tbl[i]? = some w) (hg : goodWord w = true) : w ∈ io_tb := List.mem_filter.mpr ⟨List.mem_of_getElem? h, hg⟩
theorem io_goodIn {ws : List Cond} (h : ∀ w ∈ ws, w ∈ io_tb) : GoodIn io_tb ws := fun w hw => ⟨h w hw, good_of_word (io_good w (h w hw))⟩
/-- the links of a call: its words among the tables' -/
def io_LkV (own : String) (index : Nat) (C : String) (y : MethodName) (bytes : ByteArray) (maxL : Nat) (ret : Option FieldType) (n : Nat) : Prop :=
  (y.cls = C ∧ y.cls ≠ "java/lang/invoke/MethodHandle" ∧ y.cls ≠ "java/lang/invoke/VarHandle" ∧ (parseMethodDescriptor y.desc).map (fun d => d.parameters.length) = some n) ∧
  (Cond.methodLink own index y ∈ io_tb ∧ Cond.instanceMethod y ∈ io_tb ∧ Cond.selects C y y ∈ io_tb ∧ Cond.initialized C ∈ io_tb ∧ Cond.code y bytes maxL ret ∈ io_tb)
def io_LkS (own : String) (index : Nat) (y : MethodName) (bytes : ByteArray) (maxL : Nat) (ret : Option FieldType) (n : Nat) : Prop :=
  (y.cls ≠ "java/lang/invoke/MethodHandle" ∧ y.cls ≠ "java/lang/invoke/VarHandle" ∧ (parseMethodDescriptor y.desc).map (fun d => d.parameters.length) = some n) ∧
  (Cond.methodLink own index y ∈ io_tb ∧ Cond.static y ∈ io_tb ∧ Cond.initialized y.cls ∈ io_tb ∧ Cond.code y bytes maxL ret ∈ io_tb)
def io_LkN (own : String) (index : Nat) (y : MethodName) (bytes : ByteArray) (maxL : Nat) (ret : Option FieldType) (n : Nat) : Prop :=
  (y.cls ≠ "java/lang/invoke/MethodHandle" ∧ y.cls ≠ "java/lang/invoke/VarHandle" ∧ (parseMethodDescriptor y.desc).map (fun d => d.parameters.length) = some n) ∧
  ((own, index, y) ∈ io_nl ∧ Cond.static y ∈ io_tb ∧ Cond.initialized y.cls ∈ io_tb ∧ Cond.code y bytes maxL ret ∈ io_tb)
theorem io_code_in {y : MethodName} {bytes : ByteArray} {maxL : Nat} {ret : Option FieldType} (h : Cond.code y bytes maxL ret ∈ io_tb) : GoodIn io_tb (Cond.code y bytes maxL ret :: io_tb) := io_goodIn (fun w hw => (List.mem_cons.mp hw).elim (fun e => e ▸ h) id)
section IO
variable {p : Program} {l : Launch} {e : Env} {R : Room} {s : State} {m : MethodId} {args : Array Value} {below : List Frame} {meth : Method} {c : Code} {H : Heap} {locs : List Loc} {cells slots : Nat} {Q : State → Prop} {cc : ByteArray} {pc nL : Nat} {ls : Array Slot} {rest : List Value} {D : va_G} {ca : Nat → ClassId} {ad : Nat → Nat} {A : Nat → Prop} {σ : io_M} {own : String} {index : Nat}
theorem io_cwV {C : String} {y : MethodName} {bytes : ByteArray} {maxL n N : Nat} {ret : Option FieldType} (hts : ∀ w ∈ io_tb, w.before args s = true) (hk : io_LkV own index C y bytes maxL ret n) (hR : N + 1 ≤ R.frames ∧ 8 + (maxL + 11) + 40 * N ≤ R.locals) : CallW R s args own C index y bytes maxL ret (.code y bytes maxL ret :: io_tb) (io_rm N) 0 0 n := by
  obtain ⟨hd, h1, h2, h3, h4, h5⟩ := hk
  refine cwV n hts ?_ rfl rfl rfl hd hR
  refine io_goodIn (fun w hw => ?_)
  unfold wsV at hw
  rcases List.mem_append.mp hw with hw | hw
  · simp only [List.mem_cons, List.not_mem_nil, or_false] at hw
    rcases hw with rfl | rfl | rfl | rfl <;> assumption
  · exact (io_code_in h5 w hw).1
theorem io_cwS {y : MethodName} {bytes : ByteArray} {maxL n N : Nat} {ret : Option FieldType} (hts : ∀ w ∈ io_tb, w.before args s = true) (hk : io_LkS own index y bytes maxL ret n) (hR : N + 1 ≤ R.frames ∧ 8 + (maxL + 11) + 40 * N ≤ R.locals) : CallB R s args own index y bytes maxL ret (.code y bytes maxL ret :: io_tb) (io_rm N) 0 0 n ∧ (Cond.static y).before args s = true := by
  obtain ⟨hd, h1, h2, h3, h5⟩ := hk
  exact ⟨callB_of n hts (io_code_in h5) rfl rfl rfl (hts _ h3) (hts _ h1) hd hR, hts _ h2⟩
theorem io_cwN {y : MethodName} {bytes : ByteArray} {maxL n N : Nat} {ret : Option FieldType} (hts : ∀ w ∈ io_tb, w.before args s = true) (hN : io_NN s) (hk : io_LkN own index y bytes maxL ret n) (hR : N + 1 ≤ R.frames ∧ 8 + (maxL + 11) + 40 * N ≤ R.locals) : va_CN R s args own index y "InputOutput" bytes maxL ret (.code y bytes maxL ret :: io_tb) (io_rm N) 0 0 n ∧ (Cond.static y).before args s = true ∧ True := by
  obtain ⟨hd, h1, h2, h3, h5⟩ := hk
  refine ⟨va_cnB n hts (io_code_in h5) rfl rfl rfl (hN _ h1) (hts _ h3) hd hR, hts _ h2, trivial⟩
theorem io_Zcall {t : State} {H1 : Heap} {locs1 : List Loc} {σ1 : io_M} (Z : io_Z D ca ad A s H locs σ) (ht : t.heap = H1) (hvm : s.vm.Alike t.vm) (hB : io_W D ca ad A σ1 t) (hS : va_S A s.heap H1 locs1) : io_Z D ca ad A s H1 locs1 σ1 := ⟨Z.1, by rw [← ht]; exact hB.1, hB.2.2.1, hS, Z.2.2.2.2⟩
theorem io_Zpre {U : State} (Z : io_Z D ca ad A s H locs σ) (hU : U.heap = H) (hW : s.WarmedH U.vm) : io_W D ca ad A σ U := Z.end hU hW
theorem io_runV {C : String} {T : u_T} {NF ci k : Nat} {fs : List Value} {y : MethodName} {bytes : ByteArray} {maxL n N : Nat} {ret : Option FieldType} {Qc : Array Value → State → Outcome → State → Prop} (As rest : List Value) (B : CallFix p m c cc nL s args io_tb own) (Z : io_Z D ca ad A s H locs σ)
    (hM : Met l y (.code y bytes maxL ret :: io_tb) (io_rm N) (va_Pc (.ref (ad k) :: As) (io_W D ca ad A σ)) Qc 0 0 A) (hk : io_LkV own index C y bytes maxL ret n) (hR : N + 1 ≤ R.frames ∧ 8 + (maxL + 11) + 40 * N ≤ R.locals) (hc : vwCl[ci]? = some (C, T, NF)) (hkN : k < 149) (he : io_ent ca ad k (σ k) = .inr (ci, fs))
    (hn : As.length = n) (hls : ls.size = nL) (hst : (rest.map fun v => v.category).sum ≤ 8) (hdg : decode cc pc = .ok (.invokevirtual index, 3)) (hcs : cells ≤ R.cells ∧ slots ≤ R.slots) :
    va_Run p l e R s m args below meth c H locs cells slots 0 0 (F0 m pc ls (As.reverse ++ .ref (ad k) :: rest)) rest (Qc (Value.ref (ad k) :: As).toArray) A :=
  va_runV (As := As) (rest := rest) B hM (io_cwV B.2.2.2.2 hk hR) ⟨io_W.blind, va_recv Z.1 Z.2.1 hc ((io_at hkN).trans (by rw [he])), fun U hU hW => ⟨rfl, io_Zpre Z hU hW⟩⟩ rfl hn hls rfl (lv_room hst) hdg hcs
theorem io_runS {y : MethodName} {bytes : ByteArray} {maxL n N : Nat} {ret : Option FieldType} {Qc : Array Value → State → Outcome → State → Prop} (As rest : List Value) (B : CallFix p m c cc nL s args io_tb own) (Z : io_Z D ca ad A s H locs σ)
    (hM : Met l y (.code y bytes maxL ret :: io_tb) (io_rm N) (va_Pc As (io_W D ca ad A σ)) Qc 0 0 A) (hk : io_LkS own index y bytes maxL ret n) (hR : N + 1 ≤ R.frames ∧ 8 + (maxL + 11) + 40 * N ≤ R.locals)
    (hn : As.length = n) (hls : ls.size = nL) (hst : (rest.map fun v => v.category).sum ≤ 8) (hdg : decode cc pc = .ok (.invokestatic index, 3)) (hcs : cells ≤ R.cells ∧ slots ≤ R.slots) :
    va_Run p l e R s m args below meth c H locs cells slots 0 0 (F0 m pc ls (As.reverse ++ rest)) rest (Qc As.toArray) A :=
  va_runS (As := As) (rest := rest) B hM (io_cwS B.2.2.2.2 hk hR) ⟨io_W.blind, fun U hU hW => ⟨rfl, io_Zpre Z hU hW⟩⟩ rfl hn hls rfl (lv_room hst) hdg hcs
theorem io_runN {y : MethodName} {bytes : ByteArray} {maxL n N : Nat} {ret : Option FieldType} {Qc : Array Value → State → Outcome → State → Prop} (As rest : List Value) (B : CallFix p m c cc nL s args io_tb own) (Z : io_Z D ca ad A s H locs σ)
    (hM : Met l y (.code y bytes maxL ret :: io_tb) (io_rm N) (va_Pc As (io_W D ca ad A σ)) Qc 0 0 A) (hk : io_LkN own index y bytes maxL ret n) (hR : N + 1 ≤ R.frames ∧ 8 + (maxL + 11) + 40 * N ≤ R.locals)
    (hn : As.length = n) (hls : ls.size = nL) (hst : (rest.map fun v => v.category).sum ≤ 8) (hdg : decode cc pc = .ok (.invokestatic index, 3)) (hcs : cells ≤ R.cells ∧ slots ≤ R.slots) :
    va_Run p l e R s m args below meth c H locs cells slots 0 0 (F0 m pc ls (As.reverse ++ rest)) rest (Qc As.toArray) A :=
  va_runSN (As := As) (rest := rest) B hM (io_cwN B.2.2.2.2 Z.2.2.2.2.2.2.2 hk hR) ⟨io_W.blind, fun U hU hW => ⟨rfl, io_Zpre Z hU hW⟩⟩ rfl hn hls rfl (lv_room hst) hdg hcs
theorem io_call_i {post : Int32 → io_M → Prop} {st0 : List Value} {a : Array Value} (Z : io_Z D ca ad A s H locs σ) (hr : va_Run p l e R s m args below meth c H locs cells slots 0 0 (F0 m pc ls st0) rest (va_Qi post (io_W D ca ad A) A a) A)
    (kk : ∀ (r : Int32) (σ1 : io_M) (H1 : Heap) (locs1 : List Loc), post r σ1 → io_Z D ca ad A s H1 locs1 σ1 → W p l e R s m args below meth c H1 locs1 cells slots Q (F0 m (pc + 3) ls (.int r :: rest))) : W p l e R s m args below meth c H locs cells slots Q (F0 m pc ls st0) :=
  va_calli hr Z.2.2.2.1 (fun _ _ h => h) (fun _ h => h) (fun r u t H1 locs1 ht hvm hp hB _ _ hS => kk r u H1 locs1 hp (io_Zcall Z ht hvm hB hS))
theorem io_call_q {post : Option Nat → io_M → Prop} {st0 : List Value} {a : Array Value} (Z : io_Z D ca ad A s H locs σ) (hr : va_Run p l e R s m args below meth c H locs cells slots 0 0 (F0 m pc ls st0) rest (va_Qq post (io_W D ca ad A) A a) A)
    (kk : ∀ (r : Option Nat) (σ1 : io_M) (H1 : Heap) (locs1 : List Loc), post r σ1 → io_Z D ca ad A s H1 locs1 σ1 → W p l e R s m args below meth c H1 locs1 cells slots Q (F0 m (pc + 3) ls (va_rf r :: rest))) : W p l e R s m args below meth c H locs cells slots Q (F0 m pc ls st0) :=
  va_callq hr Z.2.2.2.1 (fun _ _ h => h) (fun _ h => h) (fun r u t H1 locs1 ht hvm hp hB _ _ hS => kk r u H1 locs1 hp (io_Zcall Z ht hvm hB hS))
theorem io_call_v {post : io_M → Prop} {st0 : List Value} {a : Array Value} (Z : io_Z D ca ad A s H locs σ) (hr : va_Run p l e R s m args below meth c H locs cells slots 0 0 (F0 m pc ls st0) rest (va_Qv post (io_W D ca ad A) A a) A)
    (kk : ∀ (σ1 : io_M) (H1 : Heap) (locs1 : List Loc), post σ1 → io_Z D ca ad A s H1 locs1 σ1 → W p l e R s m args below meth c H1 locs1 cells slots Q (F0 m (pc + 3) ls (rest))) : W p l e R s m args below meth c H locs cells slots Q (F0 m pc ls st0) :=
  va_callv hr Z.2.2.2.1 (fun _ _ h => h) (fun _ h => h) (fun u t H1 locs1 ht hvm hp hB _ _ hS => kk u H1 locs1 hp (io_Zcall Z ht hvm hB hS))
theorem io_get {C : String} {T : u_T} {NF ci : Nat} (B : CallFix p m c cc nL s args io_tb own) (Z : io_Z D ca ad A s H locs σ) (hc : vwCl[ci]? = some (C, T, NF)) (hin : ∀ w ∈ u_ws C T NF, w ∈ io_tb) (k : Nat) (hk : k < 149) {fs : List Value} (he : io_ent ca ad k (σ k) = .inr (ci, fs)) (j : Nat) (hj : j < NF) (hw : Cond.fieldLink own index (T j).1 (T j).2.1 (T j).2.2.1 ∈ io_tb) {v : Value} (hv : fs[j]? = some v) (hdg : decode cc pc = .ok (.getfield index, 3))
    (kk : W p l e R s m args below meth c H locs cells slots Q (F0 m (pc + 3) ls (v :: rest))) : W p l e R s m args below meth c H locs cells slots Q (F0 m pc ls (.ref (ad k) :: rest)) :=
  va_get B.1 B.2.1 B.2.2.2.2 hin B.2.2.2.1 Z.1 Z.2.1 k ((io_at hk).trans (by rw [he])) hc j hj (B.2.2.2.2 _ hw) (fun _ h => h) hv hdg kk
theorem io_put {C : String} {T : u_T} {NF ci : Nat} (B : CallFix p m c cc nL s args io_tb own) (Z : io_Z D ca ad A s H locs σ) (hc : vwCl[ci]? = some (C, T, NF)) (hin : ∀ w ∈ u_ws C T NF, w ∈ io_tb) (ty0 : Nat → FieldType) (hty : ∀ k, k < NF → parseFieldDescriptor (T k).2.2.1 = some (ty0 k)) (hnm : ∀ a, a < NF → ∀ b, b < NF → a ≠ b → (T a).2.1 ≠ (T b).2.1) (k : Nat) (hk : k < 149) {fs : List Value} (he : io_ent ca ad k (σ k) = .inr (ci, fs)) (j : Nat) (hj : j < NF) (hw : Cond.fieldLink own index (T j).1 (T j).2.1 (T j).2.2.1 ∈ io_tb) (hfin : (T j).2.2.2 = false) {ty : FieldType} {v : Value} {x : Int32} (hd : parseFieldDescriptor (T j).2.2.1 = some ty) (hn : narrow ty v = v) (hfit : fits ty v = true) (hl : j < fs.length) (he2 : io_ent ca ad k (va_up (σ k) j x) = .inr (ci, fs.set j v)) (hdg : decode cc pc = .ok (.putfield index, 3))
    (kk : ∀ (σ1 : io_M) (H1 : Heap) (locs1 : List Loc), σ1 = io_up σ k j x → io_Z D ca ad A s H1 locs1 σ1 → W p l e R s m args below meth c H1 locs1 cells slots Q (F0 m (pc + 3) ls rest)) : W p l e R s m args below meth c H locs cells slots Q (F0 m pc ls (v :: .ref (ad k) :: rest)) := by
  refine va_put B.1 B.2.1 B.2.2.2.2 hin ty0 hty hnm B.2.2.2.1 Z.1 Z.2.1 Z.2.2.1 Z.2.2.2.1 k ((io_at hk).trans (by rw [he])) hc j hj (B.2.2.2.2 _ hw) (fun _ h => h) hfin hd hn hfit hl hdg (fun H1 locs1 hP hD hS => ?_)
  rw [← he2, io_set] at hP hD
  exact kk _ H1 locs1 rfl ⟨Z.1, hP, hD, hS, Z.2.2.2.2⟩
theorem io_iald (B : CallFix p m c cc nL s args io_tb own) (Z : io_Z D ca ad A s H locs σ) (k : Nat) (hk : k < 149) {n : Nat} (he : ∀ r, io_ent ca ad k r = .inl (ca 0, n, .inl r)) {i : Int32} (hin : vp_in i n) (hdg : decode cc pc = .ok (.iaload, 1))
    (kk : W p l e R s m args below meth c H locs cells slots Q (F0 m (pc + 1) ls (.int (σ k i.toNatClampNeg) :: rest))) : W p l e R s m args below meth c H locs cells slots Q (F0 m pc ls (.int i :: .ref (ad k) :: rest)) :=
  va_iald B.1 B.2.1 Z.1 Z.2.1 k 0 ((io_at hk).trans (by rw [he])) rfl hin hdg kk
theorem io_iast (B : CallFix p m c cc nL s args io_tb own) (Z : io_Z D ca ad A s H locs σ) (k : Nat) (hk : k < 149) {n : Nat} (he : ∀ r, io_ent ca ad k r = .inl (ca 0, n, .inl r)) {i x : Int32} (hin : vp_in i n) (hdg : decode cc pc = .ok (.iastore, 1))
    (kk : ∀ (σ1 : io_M) (H1 : Heap) (locs1 : List Loc), σ1 = io_up σ k i.toNatClampNeg x → io_Z D ca ad A s H1 locs1 σ1 → W p l e R s m args below meth c H1 locs1 cells slots Q (F0 m (pc + 1) ls rest)) : W p l e R s m args below meth c H locs cells slots Q (F0 m pc ls (.int x :: .int i :: .ref (ad k) :: rest)) := by
  refine va_iast B.1 B.2.1 Z.1 Z.2.1 Z.2.2.1 Z.2.2.2.1 k 0 ((io_at hk).trans (by rw [he])) rfl hin hdg (fun H1 locs1 hP hD hS => ?_)
  rw [← he, io_set] at hP hD
  exact kk _ H1 locs1 rfl ⟨Z.1, hP, hD, hS, Z.2.2.2.2⟩
theorem io_bald (B : CallFix p m c cc nL s args io_tb own) (Z : io_Z D ca ad A s H locs σ) (k : Nat) (hk : k < 149) {n : Nat} (he : ∀ r, io_ent ca ad k r = .inl (ca 1, n, .inl r)) {i : Int32} (hin : vp_in i n) (hdg : decode cc pc = .ok (.baload, 1))
    (kk : W p l e R s m args below meth c H locs cells slots Q (F0 m (pc + 1) ls (.int (σ k i.toNatClampNeg) :: rest))) : W p l e R s m args below meth c H locs cells slots Q (F0 m pc ls (.int i :: .ref (ad k) :: rest)) :=
  va_bald B.1 B.2.1 Z.1 Z.2.1 k 1 ((io_at hk).trans (by rw [he])) rfl hin hdg kk
theorem io_bast (B : CallFix p m c cc nL s args io_tb own) (Z : io_Z D ca ad A s H locs σ) (k : Nat) (hk : k < 149) {n : Nat} (he : ∀ r, io_ent ca ad k r = .inl (ca 1, n, .inl r)) {i x : Int32} (hin : vp_in i n) (hdg : decode cc pc = .ok (.bastore, 1))
    (kk : ∀ (σ1 : io_M) (H1 : Heap) (locs1 : List Loc), σ1 = io_up σ k i.toNatClampNeg (x.toInt8.toInt32) → io_Z D ca ad A s H1 locs1 σ1 → W p l e R s m args below meth c H1 locs1 cells slots Q (F0 m (pc + 1) ls rest)) : W p l e R s m args below meth c H locs cells slots Q (F0 m pc ls (.int x :: .int i :: .ref (ad k) :: rest)) := by
  refine va_bast B.1 B.2.1 Z.1 Z.2.1 Z.2.2.1 Z.2.2.2.1 k 1 ((io_at hk).trans (by rw [he])) rfl hin hdg (fun H1 locs1 hP hD hS => ?_)
  rw [vp_nar_byte] at hP hD
  rw [← he, io_set] at hP hD
  exact kk _ H1 locs1 rfl ⟨Z.1, hP, hD, hS, Z.2.2.2.2⟩
theorem io_zald (B : CallFix p m c cc nL s args io_tb own) (Z : io_Z D ca ad A s H locs σ) (k : Nat) (hk : k < 149) {n : Nat} (he : ∀ r, io_ent ca ad k r = .inl (ca 2, n, .inl r)) {i : Int32} (hin : vp_in i n) (hdg : decode cc pc = .ok (.baload, 1))
    (kk : W p l e R s m args below meth c H locs cells slots Q (F0 m (pc + 1) ls (.int (σ k i.toNatClampNeg) :: rest))) : W p l e R s m args below meth c H locs cells slots Q (F0 m pc ls (.int i :: .ref (ad k) :: rest)) :=
  va_zald B.1 B.2.1 Z.1 Z.2.1 k 2 ((io_at hk).trans (by rw [he])) rfl hin hdg kk
theorem io_zast (B : CallFix p m c cc nL s args io_tb own) (Z : io_Z D ca ad A s H locs σ) (k : Nat) (hk : k < 149) {n : Nat} (he : ∀ r, io_ent ca ad k r = .inl (ca 2, n, .inl r)) {i x : Int32} (hin : vp_in i n) (hdg : decode cc pc = .ok (.bastore, 1))
    (kk : ∀ (σ1 : io_M) (H1 : Heap) (locs1 : List Loc), σ1 = io_up σ k i.toNatClampNeg (vp_nar .boolean x) → io_Z D ca ad A s H1 locs1 σ1 → W p l e R s m args below meth c H1 locs1 cells slots Q (F0 m (pc + 1) ls rest)) : W p l e R s m args below meth c H locs cells slots Q (F0 m pc ls (.int x :: .int i :: .ref (ad k) :: rest)) := by
  refine va_zast B.1 B.2.1 Z.1 Z.2.1 Z.2.2.1 Z.2.2.2.1 k 2 ((io_at hk).trans (by rw [he])) rfl hin hdg (fun H1 locs1 hP hD hS => ?_)
  rw [← he, io_set] at hP hD
  exact kk _ H1 locs1 rfl ⟨Z.1, hP, hD, hS, Z.2.2.2.2⟩
theorem io_aldH (B : CallFix p m c cc nL s args io_tb own) (Z : io_Z D ca ad A s H locs σ) {i : Int32} (hin : vp_in i 20) (hdg : decode cc pc = .ok (.aaload, 1))
    (kk : W p l e R s m args below meth c H locs cells slots Q (F0 m (pc + 1) ls (.ref (ad i.toNatClampNeg) :: rest))) : W p l e R s m args below meth c H locs cells slots Q (F0 m pc ls (.int i :: .ref (ad 102) :: rest)) :=
  va_aldq (f := fun i => some (ad i)) B.1 B.2.1 Z.1 Z.2.1 102 3 (C := "InputOutput$Handle") ((io_at (by decide)).trans (by rw [io_e_102])) rfl hin hdg kk
theorem io_aldL (B : CallFix p m c cc nL s args io_tb own) (Z : io_Z D ca ad A s H locs σ) {i : Int32} (hin : vp_in i 20) (hdg : decode cc pc = .ok (.aaload, 1))
    (kk : W p l e R s m args below meth c H locs cells slots Q (F0 m (pc + 1) ls (.ref (ad (40 + i.toNatClampNeg)) :: rest))) : W p l e R s m args below meth c H locs cells slots Q (F0 m pc ls (.int i :: .ref (ad 104) :: rest)) :=
  va_aldq (f := fun i => some (ad (40 + i))) B.1 B.2.1 Z.1 Z.2.1 104 4 (C := "InputOutput$LazyList") ((io_at (by decide)).trans (by rw [io_e_104])) rfl hin hdg kk
theorem io_aldR (B : CallFix p m c cc nL s args io_tb own) (Z : io_Z D ca ad A s H locs σ) {i : Int32} (hin : vp_in i 8) (hdg : decode cc pc = .ok (.aaload, 1))
    (kk : W p l e R s m args below meth c H locs cells slots Q (F0 m (pc + 1) ls (.ref (ad (80 + i.toNatClampNeg)) :: rest))) : W p l e R s m args below meth c H locs cells slots Q (F0 m pc ls (.int i :: .ref (ad 92) :: rest)) := by
  have ha : (io_mm ca ad σ)[92]? = some (ad 92, .inl (ca 5, 8, .inr (.inr (.inr (.inr (fun i => some (ad (80 + i)))))))) := (io_at (by decide)).trans (by rw [io_e_92])
  have hlt : i.toNatClampNeg < 8 := Nat.not_le.mp fun q => hin (Or.inr q)
  exact W.aald (v := .ref (ad (80 + i.toNatClampNeg))) (ty := .array .int) B.1 B.2.1 (Z.2.1 92 _ ha) ((Z.1.2 5 _ rfl).1 8 (fun j => va_rf (some (ad (80 + j))))) rfl (fun q => by cases q) (by show ¬ (i < 0 ∨ (arrV _ _ _).slots.size ≤ _); rw [arrV_size]; exact hin) (by show (arrV _ _ _).slots[_]? = _; rw [arrV_read _ _ hlt]; rfl) rfl rfl hdg kk
theorem io_lt {i : Int32} {n : Nat} (h : vp_in i n) : i.toNatClampNeg < n := Nat.not_le.mp fun q => h (Or.inr q)
end IO
