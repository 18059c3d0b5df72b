theorem lettersOfWord_ok {d : Nat} {sx : Sx} {I : Ints} {L : Lngs} {R : Rfs} {q : Q3} {k : Nat} (hk : k < 28) (h : q (some (.long (lN (pk 256 0 (wds.getD k []))))) I L R) : E0 mX10_lettersOfWord (d + 3) sx [.int (nI k)] I L R q := by
  sorry
