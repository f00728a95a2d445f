theorem cg0 (i : Nat) : aOKgm (16 * 0 + i) 0 (aCs0.getD i []) = true := sorry
theorem cg1 (i : Nat) : aOKgm (16 * 1 + i) 0 (aCs1.getD i []) = true := sorry
theorem cg2 (i : Nat) : aOKgm (16 * 2 + i) 0 (aCs2.getD i []) = true := sorry
theorem cg3 (i : Nat) : aOKgm (16 * 3 + i) 0 (aCs3.getD i []) = true := sorry
theorem cg4 (i : Nat) : aOKgm (16 * 4 + i) 0 (aCs4.getD i []) = true := sorry
theorem cg5 (i : Nat) : aOKgm (16 * 5 + i) 0 (aCs5.getD i []) = true := sorry
theorem cg6 (i : Nat) : aOKgm (16 * 6 + i) 0 (aCs6.getD i []) = true := sorry
theorem cg7 (i : Nat) : aOKgm (16 * 7 + i) 0 (aCs7.getD i []) = true := sorry
theorem cg8 (i : Nat) : aOKgm (16 * 8 + i) 0 (aCs8.getD i []) = true := sorry
theorem cg9 (i : Nat) : aOKgm (16 * 9 + i) 0 (aCs9.getD i []) = true := sorry
theorem cg10 (i : Nat) : aOKgm (16 * 10 + i) 0 (aCs10.getD i []) = true := sorry
theorem cg11 (i : Nat) : aOKgm (16 * 11 + i) 0 (aCs11.getD i []) = true := sorry
theorem cg12 (i : Nat) : aOKgm (16 * 12 + i) 0 (aCs12.getD i []) = true := sorry
theorem cg13 (i : Nat) : aOKgm (16 * 13 + i) 0 (aCs13.getD i []) = true := sorry
theorem cg14 (i : Nat) : aOKgm (16 * 14 + i) 0 (aCs14.getD i []) = true := sorry
theorem cg15 (i : Nat) : aOKgm (16 * 15 + i) 0 (aCs15.getD i []) = true := sorry
theorem cg16 (i : Nat) : aOKgm (16 * 16 + i) 0 (aCs16.getD i []) = true := sorry
theorem cg17 (i : Nat) : aOKgm (16 * 17 + i) 0 (aCs17.getD i []) = true := sorry
theorem cg18 (i : Nat) : aOKgm (16 * 18 + i) 0 (aCs18.getD i []) = true := sorry
theorem cg19 (i : Nat) : aOKgm (16 * 19 + i) 0 (aCs19.getD i []) = true := sorry
theorem cg20 (i : Nat) : aOKgm (16 * 20 + i) 0 (aCs20.getD i []) = true := sorry
theorem cgg (g i : Nat) : aOKgm (16 * g + i) 0 ((aCss.getD g []).getD i []) = true := sorry
theorem aOKgc_at (mi : Nat) : ∀ (l : List aE) (k j : Nat), aOKgc mi k l = true → l.getD j aX = aX ∨ aOKg mi (k + j) (l.getD j aX) = true := sorry
theorem aOKgm_at (mi : Nat) : ∀ (l : List (List aE)) (k q j : Nat), j < 32 → aOKgm mi k l = true → (l.getD q []).getD j aX = aX ∨ aOKg mi (k + 32 * q + j) ((l.getD q []).getD j aX) = true := sorry
theorem aCode_ok (mi pc : Nat) : aCode mi pc = aX ∨ aOKg mi pc (aCode mi pc) = true := sorry
