theorem nd_ne {l : List Nat} (h : l.Nodup) {i j a b : Nat} (hi : l[i]? = some a) (hj : l[j]? = some b) (hij : i ≠ j) : b ≠ a := by
  intro e
  subst e
  obtain ⟨l1, e1⟩ := List.getElem?_eq_some_iff.mp hi
  obtain ⟨l2, e2⟩ := List.getElem?_eq_some_iff.mp hj
  rcases Nat.lt_or_gt_of_ne hij with h1 | h1
  · exact (List.pairwise_iff_getElem.mp h i j l1 l2 h1) (e1.trans e2.symm)
  · exact (List.pairwise_iff_getElem.mp h j i l2 l1 h1) (e2.trans e1.symm)
theorem pu_in0 {n : Nat} (h : 0 < n) (hn : n < 2 ^ 31) : vp_in 0 n := vp_in_nI (n := 0) h hn
def mkP (least most z : Int32) : Prop := ¬ z < least ∧ ¬ most < z ∧ z &&& (z - 1) = 0
