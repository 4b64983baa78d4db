/-! ===== the state: one map of ints, by kind, number, place; the cells of the whole system by their keys ===== -/
abbrev GS : Type := Nat → Nat → Nat → Int32
abbrev Ky : Type := Nat × Nat × Nat
/-- one place of the state becomes v -/
def g3 (g : GS) (c j i : Nat) (v : Int32) : GS := va_up g c (va_up (g c) j (va_up (g c j) i v))
/-- one row of the state becomes f -/
def g2 (g : GS) (c j : Nat) (f : Nat → Int32) : GS := va_up g c (va_up (g c) j f)
def lenM (b : Nat) : Nat := match b with
  | 2 => 8 | 3 => 8 | 4 => 320 | 5 => 53 | 6 => 53 | 7 => 53 | 8 => 6 | 9 => 1272 | 11 => 100 | 20 => 4 | 22 => 106 | 23 => 16 | _ => 0
/-- the row that 'seen' tells: 0 none -/
def seenRow (ad : Ky → Nat) (x : Int32) : Option Nat := if x = 0 then none else some (ad (5, x.toNatClampNeg - 1, 0))
def cellO (ad : Ky → Nat) (g : GS) : Nat → Nat → Nat → List Value
  | 0, _, _ => [.ref (ad (12, 0, 0)), .int (g 6 0 0), .int (g 6 0 1)]
  | 1, _, _ => [.ref (ad (9, 8, 0)), .int (g 7 0 0)]
  | 2, _, _ => [.ref (ad (4, 0, 0)), .ref (ad (4, 1, 0)), .int (g 5 0 0), va_rf (seenRow ad (g 5 0 1)), .int (g 5 0 2), .int (g 5 0 3), .int (g 5 0 4), .int (g 5 0 5), .int (g 5 0 6), .int (g 5 0 7)]
  | 3, r, i => [.int (g 13 r (7 * i)), .int (g 13 r (7 * i + 1)), .int (g 13 r (7 * i + 2)), .int (g 13 r (7 * i + 3)), .int (g 13 r (7 * i + 4)), .int (g 13 r (7 * i + 5)), .int (g 13 r (7 * i + 6))]
  | 4, r, _ => [.int (g 0 r 0), .int (g 0 r 1), .int (g 0 r 2), .int (g 0 r 3), .int (g 0 r 4), .ref (ad (9, 0, r)), .ref (ad (11, r, 0))]
  | 5, j, _ => [.int (g 1 j 0), .int (g 1 j 1), .ref (ad (9, 2, j))]
  | 6, _, _ => [.ref (ad (9, 4, 0)), .int (g 3 0 0), .int (g 3 0 1), .int (g 3 0 2)]
  | 7, _, _ => [.ref (ad (13, 0, 0)), .ref (ad (6, 0, 0)), .ref (ad (2, 0, 0)), .ref (ad (4, 0, 0)), .ref (ad (4, 1, 0)), .ref (ad (0, 0, 0)), .ref (ad (12, 1, 0)), .ref (ad (1, 0, 0)), .int (g 9 0 0), .int (g 9 0 1)]
  | _, _, _ => [.int (g 10 0 0), .int (g 10 0 1), .ref (ad (9, 11, 2)), .ref (ad (9, 11, 3)), .ref (ad (9, 11, 4)), .ref (ad (9, 11, 5)), .ref (ad (9, 11, 6)), .ref (ad (9, 11, 7)), .ref (ad (9, 11, 8)), .ref (ad (9, 11, 9)), .int (g 10 0 10), .ref (ad (9, 11, 11)), .int (g 10 0 12), .int (g 10 0 13), .int (g 10 0 14), .int (g 10 0 15), .int (g 10 0 16), .int (g 10 0 17), .int (g 10 0 18), .int (g 10 0 19), .ref (ad (9, 11, 20)), .ref (ad (10, 11, 21)), .ref (ad (9, 11, 22)), .ref (ad (9, 11, 23)), .int (g 10 0 24)]
/-- the int arrays: how long, what they hold -/
def arrI (g : GS) : Nat → Nat → Nat × (Nat → Int32)
  | 0, r => (6, g 12 r)
  | 2, j => (40, g 2 j)
  | 4, _ => (100, g 4 0)
  | 8, _ => (16, g 8 0)
  | _, b => (lenM b, g 11 b)
def arrR (ad : Ky → Nat) : Nat → Nat → Nat → Nat × (Nat → Option Nat)
  | 11, r, _ => (6, fun i => some (ad (3, r, i)))
  | 12, 0, _ => (24, fun i => some (ad (4, 2 + i, 0)))
  | 12, _, _ => (2, fun i => some (ad (4, 26 + i, 0)))
  | _, _, _ => (8, fun i => some (ad (5, i, 0)))
def cellW (ad : Ky → Nat) (cy : Nat → ClassId) (g : GS) (k : Ky) : va_E :=
  if k.1 < 9 then .inr (k.1, cellO ad g k.1 k.2.1 k.2.2)
  else if k.1 = 9 then .inl (cy 0, (arrI g k.2.1 k.2.2).1, .inl (arrI g k.2.1 k.2.2).2)
  else if k.1 = 10 then .inl (cy 1, 2, .inl (g 11 21))
  else .inl (cy (k.1 - 9), (arrR ad k.1 k.2.1 k.2.2).1, .inr (.inr (.inr (.inr (arrR ad k.1 k.2.1 k.2.2).2))))
def keys : List Ky := [(0, 0, 0), (1, 0, 0), (2, 0, 0), (6, 0, 0), (7, 0, 0), (8, 0, 0), (9, 4, 0), (9, 8, 0), (10, 11, 21), (12, 0, 0), (12, 1, 0), (13, 0, 0)]
  ++ ([2, 3, 4, 5, 6, 7, 8, 9, 11, 20, 22, 23].map fun b => (9, 11, b))
  ++ ((List.range 8).map fun j => (5, j, 0)) ++ ((List.range 8).map fun j => (9, 2, j))
  ++ ((List.range 28).map fun r => (4, r, 0)) ++ ((List.range 28).map fun r => (9, 0, r)) ++ ((List.range 28).map fun r => (11, r, 0))
  ++ ((List.range 28).flatMap fun r => (List.range 6).map fun i => (3, r, i))
def Wd (ad : Ky → Nat) (cy : Nat → ClassId) (g : GS) : va_W := keys.map fun k => (ad k, cellW ad cy g k)
theorem keys_nd : keys.Nodup := by decide +kernel
theorem k_paper {r i : Nat} (hr : r < 28) (hi : i < 6) : ((3, r, i) : Ky) ∈ keys := by
  refine List.mem_append_right _ (List.mem_flatMap.mpr ⟨r, List.mem_range.mpr hr, List.mem_map.mpr ⟨i, List.mem_range.mpr hi, rfl⟩⟩)
theorem k_papers {r : Nat} (hr : r < 28) : ((11, r, 0) : Ky) ∈ keys := List.mem_append_left _ (List.mem_append_right _ (List.mem_map.mpr ⟨r, List.mem_range.mpr hr, rfl⟩))
theorem k_forces {r : Nat} (hr : r < 28) : ((9, 0, r) : Ky) ∈ keys := List.mem_append_left _ (List.mem_append_left _ (List.mem_append_right _ (List.mem_map.mpr ⟨r, List.mem_range.mpr hr, rfl⟩)))
theorem k_roof {r : Nat} (hr : r < 28) : ((4, r, 0) : Ky) ∈ keys := List.mem_append_left _ (List.mem_append_left _ (List.mem_append_left _ (List.mem_append_right _ (List.mem_map.mpr ⟨r, List.mem_range.mpr hr, rfl⟩))))
theorem k_items {j : Nat} (hj : j < 8) : ((9, 2, j) : Ky) ∈ keys := List.mem_append_left _ (List.mem_append_left _ (List.mem_append_left _ (List.mem_append_left _ (List.mem_append_right _ (List.mem_map.mpr ⟨j, List.mem_range.mpr hj, rfl⟩)))))
theorem k_row {j : Nat} (hj : j < 8) : ((5, j, 0) : Ky) ∈ keys := List.mem_append_left _ (List.mem_append_left _ (List.mem_append_left _ (List.mem_append_left _ (List.mem_append_left _ (List.mem_append_right _ (List.mem_map.mpr ⟨j, List.mem_range.mpr hj, rfl⟩))))))
/-- the arrays of references hold nothing but keys -/
theorem keys_kind {a b c : Nat} (h : ((a, b, c) : Ky) ∈ keys) : a < 14 := by
  have : ∀ k ∈ keys, k.1 < 14 := by decide +kernel
  exact this _ h
def Inj (ad : Ky → Nat) : Prop := ∀ k ∈ keys, ∀ k' ∈ keys, ad k = ad k' → k = k'
def tysA (cy : Nat → ClassId) : List (ClassId × FieldType) := [(cy 0, .int), (cy 1, .boolean), (cy 2, .object "KiteTrays$Paper"), (cy 3, .object "KiteTrays$Roof"), (cy 4, .object "KiteTrays$Row")]
/-- what a method may change: the system's cells, and what is new -/
def AA (ad : Ky → Nat) (sz : Nat) : Nat → Prop := fun q => (∃ k ∈ keys, q = ad k) ∨ sz ≤ q
theorem Wd_at (ad : Ky → Nat) (cy : Nat → ClassId) (g : GS) {k : Ky} (hk : k ∈ keys) : ∃ q0 : Nat, keys[q0]? = some k ∧ (Wd ad cy g)[q0]? = some (ad k, cellW ad cy g k) := by
  obtain ⟨q0, h⟩ := List.getElem?_of_mem hk
  exact ⟨q0, h, by simp [Wd, List.getElem?_map, h]⟩
theorem Wd_inv {ad : Ky → Nat} {cy : Nat → ClassId} {g : GS} {n : Nat} {q : Nat × va_E} (h : (Wd ad cy g)[n]? = some q) : ∃ k, keys[n]? = some k ∧ q = (ad k, cellW ad cy g k) := by
  simp only [Wd, List.getElem?_map] at h
  cases hk : keys[n]? with
  | none => rw [hk] at h; cases h
  | some k => rw [hk] at h; cases h; exact ⟨k, rfl, rfl⟩
theorem Wd_D {ad : Ky → Nat} (hI : Inj ad) (cy : Nat → ClassId) (g : GS) (sz : Nat) : va_D (AA ad sz) (Wd ad cy g) := by
  refine ⟨fun i j p q hp hq hpq => ?_, fun n q h => ?_⟩
  · obtain ⟨k, hk, rfl⟩ := Wd_inv hp
    obtain ⟨k', hk', rfl⟩ := Wd_inv hq
    have e : k = k' := hI k (List.mem_of_getElem? hk) k' (List.mem_of_getElem? hk') hpq
    subst e
    obtain ⟨hi, hi'⟩ := List.getElem?_eq_some_iff.mp hk
    exact (List.getElem?_inj hi keys_nd).mp (hk.trans hk'.symm)
  · obtain ⟨k, hk, rfl⟩ := Wd_inv h
    exact Or.inl ⟨k, List.mem_of_getElem? hk, rfl⟩
/-- the world behind a write: g2 is g but for the cell of k -/
theorem Wd_set {ad : Ky → Nat} {cy : Nat → ClassId} {g g' : GS} {k : Ky} {q0 : Nat} (hk : keys[q0]? = some k) {e : va_E} (h1 : cellW ad cy g' k = e) (h2 : ∀ k' ∈ keys, k' ≠ k → cellW ad cy g' k' = cellW ad cy g k') : (Wd ad cy g).set q0 (ad k, e) = Wd ad cy g' := by
  apply List.ext_getElem?
  intro n
  rw [List.getElem?_set]
  obtain ⟨hlt, hget⟩ := List.getElem?_eq_some_iff.mp hk
  by_cases hn : q0 = n
  · subst hn
    simp only [if_true, Wd, List.length_map, List.getElem?_map, hk, Option.map_some, hlt, h1]
  · rw [if_neg hn]
    simp only [Wd, List.getElem?_map]
    cases hk' : keys[n]? with
    | none => rfl
    | some k' =>
      have hne : k' ≠ k := by
        intro h
        subst h
        exact hn ((List.getElem?_inj hlt keys_nd).mp (hk.trans hk'.symm))
      simp only [Option.map_some]
      rw [h2 k' (List.mem_of_getElem? hk') hne]
