/-! the 73 bases; the powers of x and the row counts as the class lays them: facts by the kernel -/
def pw (a b : Int) : Nat → Int × Int
  | 0 => (1, 0)
  | k + 1 => match pw a b k with
    | (u, v) => (b * v, u + a * v)
theorem pw_s (a b : Int) (k : Nat) : pw a b (k + 1) = (b * (pw a b k).2, (pw a b k).1 + a * (pw a b k).2) := by
  rw [pw]
def bases : List (Int × Int) := [(1, 1), (2, 1), (2, 2), (3, -1), (3, 1), (3, 2), (3, 3), (4, -2), (4, -1), (4, 1), (4, 2), (4, 3), (4, 4), (5, -3), (5, -2), (5, -1), (5, 1), (5, 2), (5, 3), (5, 4), (5, 5), (6, -4), (6, -3), (6, -2), (6, -1), (6, 1), (6, 2), (6, 3), (6, 4), (6, 5), (6, 6)] ++ [(7, -5), (7, -4), (7, -3), (7, -2), (7, -1), (7, 1), (7, 2), (7, 3), (7, 4), (7, 5), (7, 6), (7, 7)] ++ [(8, -6), (8, -5), (8, -4), (8, -3), (8, -2), (8, -1), (8, 1), (8, 2), (8, 3), (8, 4), (8, 5), (8, 6), (8, 7), (8, 8)] ++ [(9, -7), (9, -6), (9, -5), (9, -4), (9, -3), (9, -2), (9, -1), (9, 1), (9, 2), (9, 3), (9, 4), (9, 5), (9, 6), (9, 7), (9, 8), (9, 9)]
theorem VB.mem {a b : Int} (h : VB a b) : (a, b) ∈ bases := by
  have h' := h
  unfold VB at h'
  rcases h.a9 with rfl | rfl | rfl | rfl | rfl | rfl | rfl | rfl | rfl <;>
  rcases (show b = -8 ∨ b = -7 ∨ b = -6 ∨ b = -5 ∨ b = -4 ∨ b = -3 ∨ b = -2 ∨ b = -1 ∨ b = 1 ∨ b = 2 ∨ b = 3 ∨ b = 4 ∨ b = 5 ∨ b = 6 ∨ b = 7 ∨ b = 8 ∨ b = 9 by omega) with rfl | rfl | rfl | rfl | rfl | rfl | rfl | rfl | rfl | rfl | rfl | rfl | rfl | rfl | rfl | rfl | rfl <;>
  first | (exfalso; omega) | decide
def pcn (a b : Int) : Nat := ((List.range 48).filter (fun i => decide ((pw a b i).2 ≤ 1000000))).length + 1
def pwOK (q : Int × Int) : Bool := decide (pcn q.1 q.2 ≤ 33) && (List.range 34).all (fun i => decide (i < pcn q.1 q.2 → (pw q.1 q.2 i).1.natAbs ≤ 9000000 ∧ (pw q.1 q.2 i).2.natAbs ≤ 9000000 ∧ 0 ≤ (pw q.1 q.2 i).2 ∧ (i + 1 < pcn q.1 q.2 → (pw q.1 q.2 i).2 ≤ 1000000) ∧ (i + 1 = pcn q.1 q.2 → 1000000 < (pw q.1 q.2 i).2)))
theorem pw_all : bases.all pwOK = true := by decide +kernel
theorem VB.pw {a b : Int} (h : VB a b) : pcn a b ≤ 33 ∧ ∀ i, i < pcn a b → (pw a b i).1.natAbs ≤ 9000000 ∧ (pw a b i).2.natAbs ≤ 9000000 ∧ 0 ≤ (pw a b i).2 ∧ (i + 1 < pcn a b → (pw a b i).2 ≤ 1000000) ∧ (i + 1 = pcn a b → 1000000 < (pw a b i).2) := by
  have h1 := List.all_eq_true.mp pw_all (a, b) h.mem
  unfold pwOK at h1
  simp only [Bool.and_eq_true, decide_eq_true_eq, List.all_eq_true] at h1
  obtain ⟨h2, h3⟩ := h1
  exact ⟨h2, fun i hi => h3 i (List.mem_range.mpr (by omega)) hi⟩
