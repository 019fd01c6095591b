theorem nd_ne {l : List Nat} (h : l.Nodup) {i j a b : Nat} (hi : l[i]? = some a) (hj : l[j]? = some b) (hij : i ≠ j) : b ≠ a := by
  intro e
  subst e
  obtain ⟨l1, e1⟩ := List.getElem?_eq_some_iff.mp hi
  obtain ⟨l2, e2⟩ := List.getElem?_eq_some_iff.mp hj
  rcases Nat.lt_or_gt_of_ne hij with h1 | h1
  · exact (List.pairwise_iff_getElem.mp h i j l1 l2 h1) (e1.trans e2.symm)
  · exact (List.pairwise_iff_getElem.mp h j i l2 l1 h1) (e2.trans e1.symm)
theorem pu_in0 {n : Nat} (h : 0 < n) (hn : n < 2 ^ 31) : vp_in 0 n := vp_in_nI (n := 0) h hn
def mkP (least most z : Int32) : Prop := ¬ z < least ∧ ¬ most < z ∧ z &&& (z - 1) = 0
def makeP (k z mk : Int32) : Prop := (k = 2 ∧ mkP 1 256 z) ∨ ((k = 0 ∨ k = 1) ∧ mkP 8 4096 z ∧ ¬ mk < 1 ∧ ¬ 8 < mk)
theorem mk_lo {k z mk : Int32} (h : k < 0) : ¬ makeP k z mk := by
  rintro (⟨h1, -⟩ | ⟨h1 | h1, -⟩) <;> (subst h1; revert h; decide)
theorem mk_hi {k z mk : Int32} (h : ¬ k ≤ 2) : ¬ makeP k z mk := by
  rintro (⟨h1, -⟩ | ⟨h1 | h1, -⟩) <;> (subst h1; revert h; decide)
theorem mk_2 {k z mk : Int32} (h : k = 2) (h2 : ¬ mkP 1 256 z) : ¬ makeP k z mk := by
  rintro (⟨h1, h3⟩ | ⟨h1 | h1, -⟩)
  · exact h2 h3
  · subst h1; revert h; decide
  · subst h1; revert h; decide
theorem mk_n {k z mk : Int32} (h : ¬ k = 2) (h2 : ¬ mkP 8 4096 z ∨ mk < 1 ∨ 8 < mk) : ¬ makeP k z mk := by
  rintro (⟨h1, h3⟩ | ⟨-, h3, h4, h5⟩)
  · exact h h1
  · rcases h2 with h2 | h2 | h2
    · exact h2 h3
    · exact h4 h2
    · exact h5 h2
theorem mk_y {k : Int32} (h : ¬ k < 0) (h2 : k ≤ 2) (h3 : ¬ k = 2) : k = 0 ∨ k = 1 := by
  obtain ⟨j, hj, rfl⟩ := nI_of2 (M := 2) (n := 2) rfl h h2
  rcases (show j = 0 ∨ j = 1 ∨ j = 2 by omega) with rfl | rfl | rfl
  · exact Or.inl rfl
  · exact Or.inr rfl
  · exact absurd rfl h3
theorem mk_0 {k z mk : Int32} (h : ¬ k = 2) (h0 : ¬ k = 0) (h1 : ¬ k = 1) : ¬ makeP k z mk := by
  rintro (⟨q, -⟩ | ⟨q | q, -⟩)
  · exact h q
  · exact h0 q
  · exact h1 q
