def LW (k j : Nat) : Int64 := lN (pk 256 0 ((wds.getD k []).take j))
theorem LW_0 : ∀ k, k < 28 → LW k 0 = Int64.ofNat 0 := by decide +kernel
theorem LW_8 : ∀ k, k < 28 → LW k 8 = lN (pk 256 0 (wds.getD k [])) := by decide +kernel
theorem LW_s : ∀ k, k < 28 → ∀ j, j < 8 → (btw (8 * k + j) = (Int8.ofInt 32).toInt32 → LW k (j + 1) = LW k j) ∧ (¬ btw (8 * k + j) = (Int8.ofInt 32).toInt32 → LW k (j + 1) = (LW k j <<< ((Int8.ofInt 8).toInt32.toInt64 &&& 63)) ||| (btw (8 * k + j)).toInt64) := by decide +kernel
theorem lettersOfWord_ok {d : Nat} {sx : Sx} {I : Ints} {L : Lngs} {R : Rfs} {q : Q3} {k : Nat} (hk : k < 28) (h : q (some (.long (lN (pk 256 0 (wds.getD k []))))) I L R) : E0 mX10_lettersOfWord (d + 4) sx [.int (nI k)] I L R q := by
  have hlp : ∀ n j : Nat, n = 8 - j → j ≤ 8 → Y mX10_lettersOfWord (d + 4) sx 4 [(0, .int (nI k)), (1, .long (LW k j)), (3, .int (nI j))] [] I L R q := by
    intro n
    induction n with
    | zero =>
      intro j hn hj
      have ej : j = 8 := by omega
      subst ej
      refine X_iload_n (i := 3) rfl dLow_4 (X_bipush dLow_5 (X_icmp_ge (tgt := 45) dLow_7 rfl (fun _ => ?_) (fun c => absurd ((nIle (a := 8) (b := 8) (by decide) (by decide)).mpr (Nat.le_refl _)) c)))
      refine X_lload_n (i := 1) (x := LW k 8) rfl dLow_45 (X_lret (st := []) rfl (Nat.le_refl _) (Nat.le_refl _) (fun z => nomatch z) dLow_46 ⟨rfl, ?_⟩)
      rw [LW_8 k hk]
      exact h
    | succ n ih =>
      intro j hn hj
      have hj8 : j < 8 := by omega
      refine X_iload_n (i := 3) rfl dLow_4 (X_bipush dLow_5 (X_icmp_ge (tgt := 45) dLow_7 rfl (fun c => absurd ((nIle (a := 8) (b := j) (by decide) (by omega)).mp c) (by omega)) (fun _ => ?_)))
      refine Y_word hk hj8 ?_
      have e := ih (j + 1) (by omega) (by omega)
      rw [show nI (j + 1) = nI j + Int32.ofInt 1 from (nI_add j 1).symm] at e
      refine X_istore (by decide) dLow_21 (X_iload (i := 4) (x := btw (8 * k + j)) rfl dLow_23 (X_bipush dLow_25 (X_icmp_eq (tgt := 39) dLow_27 rfl (fun c => ?_) (fun c => ?_))))
      · rw [(LW_s k hk j hj8).1 c] at e
        refine X_iinc (i := 3) (x := nI j) rfl (by decide) dLow_39 (X_goto (tgt := 4) dLow_42 rfl ?_)
        refine X_sub [0, 1, 3] ?_
        exact e
      · rw [(LW_s k hk j hj8).2 c] at e
        refine X_lload_n (i := 1) (x := LW k j) rfl dLow_30 (X_bipush dLow_31 (X_lshl dLow_33 (X_iload (i := 4) (x := btw (8 * k + j)) rfl dLow_34 (X_i2l dLow_36 (X_lor dLow_37 (X_lstore_n (by decide) dLow_38 ?_))))))
        refine X_iinc (i := 3) (x := nI j) rfl (by decide) dLow_39 (X_goto (tgt := 4) dLow_42 rfl ?_)
        refine X_sub [0, 1, 3] ?_
        exact e
  have e := hlp 8 0 rfl (by decide)
  rw [LW_0 k hk] at e
  refine E0_of rfl rfl (Nat.le_of_ble_eq_true rfl) ?_
  refine X_lconst dLow_0 (X_lstore_n (by decide) dLow_1 (X_iconst dLow_2 (X_istore_n (by decide) dLow_3 ?_)))
  refine X_sub [0, 1, 3] ?_
  exact e
