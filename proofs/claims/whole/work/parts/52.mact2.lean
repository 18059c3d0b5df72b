/-! the model's pour, water, undo, see, count, mark -/
theorem nIm1n {a : Nat} (h : a < 2147483648) : (nI a = -nI 1) ↔ False := nIm1 h
theorem m1nIn {a : Nat} (h : a < 2147483648) : (-nI 1 = nI a) ↔ False := m1nI h
theorem m1ltn {a : Nat} (h : a < 2147483648) : (-nI 1 < nI a) ↔ True := m1lt h
theorem nIlmn {a : Nat} (h : a < 2147483648) : (nI a < -nI 1) ↔ False := nIlm h
theorem m1len {a : Nat} (h : a < 2147483648) : (-nI 1 ≤ nI a) ↔ True := m1le h
theorem nIlemn {a : Nat} (h : a < 2147483648) : (nI a ≤ -nI 1) ↔ False := nIlem h
abbrev AA : List Nat := [106, 107]
abbrev FA : List (Nat × Nat) := [(92, 0), (92, 22)]
theorem MkM.cp {a : Ce} {mk : Mk} {I J : Ints} (hw : ∀ m, m < 4 → ∀ e, mk m = some e → WFe a e.1.1 e.1.2 e.2) (h : MkM mk I) (e7 : ∀ i, J 107 i = I 107 i) (e6 : ∀ i, 56 ≤ i → i < 280 → J 106 i = I 106 i) : MkM mk J := by
  intro m hm
  rcases h m hm with ⟨k1, k2⟩ | ⟨e, k1, k2, k3, k4⟩
  · exact Or.inl ⟨k1, (e7 m).trans k2⟩
  · exact Or.inr ⟨e, k1, (e7 m).trans k2, k3.cp (fun x hx => ((hw m hm e k1).2.1 x hx).1) (fun k hk => e6 _ (by omega) (by omega)), k4.cp (fun k hk => e6 _ (by omega) (by omega))⟩
theorem EvL.cpz {lf : Nat → Nat} {gl : Nat → List Nat} {I J : Ints} (h : EvL 0 lf gl I) (hlx : ∀ x, x < 6 → (gl x).length ≤ 6) (e : ∀ k, k < 48 → J 106 k = I 106 k) : EvL 0 lf gl J := h.cp hlx (fun k hk => by rw [Nat.zero_add]; exact e k hk)
theorem MA.fq {a : Ce} {lc : List (Nat × Nat)} {lf : Nat → Nat} {gl : Nat → List Nat} {sn : Nat → Nat} {us : List Es} {mk : Mk} {I J : Ints} (h : MA a lc lf gl sn us mk I) (hF : Fr AQ FQ I J) : MA a lc lf gl sn us mk J := by
  obtain ⟨h1, h2, h3, ⟨u1, u2', u3⟩, h5⟩ := h
  have e6 := hF.ar 106 rfl rfl
  exact ⟨h1.fr hF, h2, h3, ⟨(hF 92 22 rfl rfl).trans u1, u2', UnM.cp _ h2 u3 (fun i _ _ => e6 i)⟩, h5.cp h3 (hF.ar 107 rfl rfl) (fun i _ _ => e6 i)⟩
theorem m_pour {d : Nat} {sx : Sx} {I : Ints} {L : Lngs} {R : Rfs} {q : Q3} {a : Ce} {lc : List (Nat × Nat)} {lf : Nat → Nat} {gl : Nat → List Nat} {sn : Nat → Nat} {us : List Es} {mk : Mk} (hM : MA a lc lf gl sn us mk I) {x y : Int32}
    (ht : okP a lf gl x y → ∀ J, MA a lc (up1 lf y.toNatClampNeg (lf y.toNatClampNeg - 1)) (up1 gl x.toNatClampNeg (gl x.toNatClampNeg ++ [y.toNatClampNeg])) sn (push20 us (lf, gl)) mk J → Fr AA FA I J → q (some (.int 1)) J L R) (hf : ¬ okP a lf gl x y → ∀ J, Fr AQ FQ I J → q (some (.int 0)) J L R) : E0 mX12_pour (d + 3) sx [.ref 92, .int x, .int y] I L R q := by
  refine EX12_pour ?_
  have hf : ¬ okP a lf gl x y → q (some (.int 0)) (u2 I 92 0 0) L R := fun hn => hf hn _ fq0
  have ht : okP a lf gl x y → ∀ J, MA a lc (up1 lf y.toNatClampNeg (lf y.toNatClampNeg - 1)) (up1 gl x.toNatClampNeg (gl x.toNatClampNeg ++ [y.toNatClampNeg])) sn (push20 us (lf, gl)) mk J → Fr AA FA (u2 I 92 0 0) J → q (some (.int 1)) J L R := fun ho J hJ hF => ht ho J hJ ((Fr.rf.uf rfl).tr hF)
  have hM := hM.fq (fq0 (v := 0))
  generalize u2 I 92 0 0 = I at *
  obtain ⟨⟨hW, hE, hM, hl, hEv, hS⟩, hU, hKW, hMU, hMk⟩ := hM
  have w4 := hW.2.2.2.2.1
  have w3 := hW.2.2.2.1
  refine isGuestM_ok hM (fun g hg e => ?_) (fun hn => RX12_pour_10 ⟨fun _ => hf (fun w => hn w.1), fun w => absurd rfl w⟩)
  subst e
  refine RX12_pour_10 ⟨fun w => absurd w (by decide), fun _ => ?_⟩
  refine isWineM_ok hM (fun w hw e => ?_) (fun hn => RX12_pour_18 ⟨fun _ => hf (fun w => hn w.2.1), fun w => absurd rfl w⟩)
  subst e
  rw [okP_nI hg hw] at ht hf
  rw [nIc (by omega), nIc (by omega)] at ht
  have e4 := hEv.lef (w := w) (by omega)
  have h99 := hE.1 w (by omega)
  have hlx : ∀ x, x < 6 → (gl x).length ≤ 6 := fun x hx => (hE.2.1 x hx).1
  refine RX12_pour_18  ⟨fun c1 => ?_, fun c1 => ⟨?_, ⟨fun c2 => ?_, fun c2 => ?_⟩⟩⟩
  · (try simp (disch := omega) only [nlit, natrem, nIrm, nIam, nIam',  nI_add, pk_mul, nIsub, nIrem, nIdiv, nIand1, nIand3, nIand7, nIand31, nIshr, nIle, nIlt, nIeq, nIc, vpI, nIm1, m1nI, m1lt, nIlm, m1le, nIlem, nIneg, u2_ss, u2_nn, u2_kk, nIm1n, m1nIn, m1ltn, nIlmn, m1len, nIlemn, e4] at c1) <;> (first | omega | exact absurd rfl c1 | exact absurd trivial c1)
  · (try simp (disch := omega) only [nlit, natrem, nIrm, nIam, nIam',  nI_add, pk_mul, nIsub, nIrem, nIdiv, nIand1, nIand3, nIand7, nIand31, nIshr, nIle, nIlt, nIeq, nIc, vpI, nIm1, m1nI, m1lt, nIlm, m1le, nIlem, nIneg, u2_ss, u2_nn, u2_kk, nIm1n, m1nIn, m1ltn, nIlmn, m1len, nIlemn, e4] at c1) <;> (try simp (disch := omega) only [nlit, natrem, nIrm, nIam, nIam',  nI_add, pk_mul, nIsub, nIrem, nIdiv, nIand1, nIand3, nIand7, nIand31, nIshr, nIle, nIlt, nIeq, nIc, vpI, nIm1, m1nI, m1lt, nIlm, m1le, nIlem, nIneg, u2_ss, u2_nn, u2_kk, nIm1n, m1nIn, m1ltn, nIlmn, m1len, nIlemn, e4]) <;> (first | omega | trivial)
  · (try simp (disch := omega) only [nlit, natrem, nIrm, nIam, nIam',  nI_add, pk_mul, nIsub, nIrem, nIdiv, nIand1, nIand3, nIand7, nIand31, nIshr, nIle, nIlt, nIeq, nIc, vpI, nIm1, m1nI, m1lt, nIlm, m1le, nIlem, nIneg, u2_ss, u2_nn, u2_kk, nIm1n, m1nIn, m1ltn, nIlmn, m1len, nIlemn, e4] at c1 c2); (try simp (disch := omega) only [nlit, natrem, nIrm, nIam, nIam',  nI_add, pk_mul, nIsub, nIrem, nIdiv, nIand1, nIand3, nIand7, nIand31, nIshr, nIle, nIlt, nIeq, nIc, vpI, nIm1, m1nI, m1lt, nIlm, m1le, nIlem, nIneg, u2_ss, u2_nn, u2_kk, nIm1n, m1nIn, m1ltn, nIlmn, m1len, nIlemn, e4])
    exact hf (by omega)
  · (try simp (disch := omega) only [nlit, natrem, nIrm, nIam, nIam',  nI_add, pk_mul, nIsub, nIrem, nIdiv, nIand1, nIand3, nIand7, nIand31, nIshr, nIle, nIlt, nIeq, nIc, vpI, nIm1, m1nI, m1lt, nIlm, m1le, nIlem, nIneg, u2_ss, u2_nn, u2_kk, nIm1n, m1nIn, m1ltn, nIlmn, m1len, nIlemn, e4] at c1 c2); (try simp (disch := omega) only [nlit, natrem, nIrm, nIam, nIam',  nI_add, pk_mul, nIsub, nIrem, nIdiv, nIand1, nIand3, nIand7, nIand31, nIshr, nIle, nIlt, nIeq, nIc, vpI, nIm1, m1nI, m1lt, nIlm, m1le, nIlem, nIneg, u2_ss, u2_nn, u2_kk, nIm1n, m1nIn, m1ltn, nIlmn, m1len, nIlemn, e4])
    refine drunkBy_ok hEv (by omega) ?_
    have hl6 := hlx g (by omega)
    refine RX12_pour_35  ⟨fun c1 => ?_, fun c1 => ?_⟩
    · (try simp (disch := omega) only [nlit, natrem, nIrm, nIam, nIam',  nI_add, pk_mul, nIsub, nIrem, nIdiv, nIand1, nIand3, nIand7, nIand31, nIshr, nIle, nIlt, nIeq, nIc, vpI, nIm1, m1nI, m1lt, nIlm, m1le, nIlem, nIneg, u2_ss, u2_nn, u2_kk, nIm1n, m1nIn, m1ltn, nIlmn, m1len, nIlemn] at c1); (try simp (disch := omega) only [nlit, natrem, nIrm, nIam, nIam',  nI_add, pk_mul, nIsub, nIrem, nIdiv, nIand1, nIand3, nIand7, nIand31, nIshr, nIle, nIlt, nIeq, nIc, vpI, nIm1, m1nI, m1lt, nIlm, m1le, nIlem, nIneg, u2_ss, u2_nn, u2_kk, nIm1n, m1nIn, m1ltn, nIlmn, m1len, nIlemn])
      refine keeps_ok (sn := sn) hE hU hMU hEv (fun J j1 j2 j3 => ?_)
      have e4 : J 106 w = nI (lf w) := (j2 w (by omega)).trans e4
      have hEJ : EvL 0 lf gl J := hEv.cpz hlx (fun k hk => j2 k (by omega))
      refine RX12_pour_46  ⟨?_, ⟨?_, ?_⟩⟩
      · (try simp (disch := omega) only [nlit, natrem, nIrm, nIam, nIam',  nI_add, pk_mul, nIsub, nIrem, nIdiv, nIand1, nIand3, nIand7, nIand31, nIshr, nIle, nIlt, nIeq, nIc, vpI, nIm1, m1nI, m1lt, nIlm, m1le, nIlem, nIneg, u2_ss, u2_nn, u2_kk, nIm1n, m1nIn, m1ltn, nIlmn, m1len, nIlemn, e4]) <;> (first | omega | trivial)
      · (try simp (disch := omega) only [nlit, natrem, nIrm, nIam, nIam',  nI_add, pk_mul, nIsub, nIrem, nIdiv, nIand1, nIand3, nIand7, nIand31, nIshr, nIle, nIlt, nIeq, nIc, vpI, nIm1, m1nI, m1lt, nIlm, m1le, nIlem, nIneg, u2_ss, u2_nn, u2_kk, nIm1n, m1nIn, m1ltn, nIlmn, m1len, nIlemn, e4]) <;> (first | omega | trivial)
      · (try simp (disch := omega) only [nlit, natrem, nIrm, nIam, nIam',  nI_add, pk_mul, nIsub, nIrem, nIdiv, nIand1, nIand3, nIand7, nIand31, nIshr, nIle, nIlt, nIeq, nIc, vpI, nIm1, m1nI, m1lt, nIlm, m1le, nIlem, nIneg, u2_ss, u2_nn, u2_kk, nIm1n, m1nIn, m1ltn, nIlmn, m1len, nIlemn, e4])
        have e1 := hEJ.had (g := g) (by omega)
        have hEK : EvL 0 (up1 lf w (lf w - 1)) gl (u2 J 106 w (nI (lf w - 1))) := by
          refine ⟨fun w' hw' => ?_, fun g' hg' => ⟨?_, fun i hi => ?_⟩⟩
          · rw [Nat.zero_add]
            by_cases e : w' = w
            · rw [e, up1_s, u2_ss]
            · rw [up1_n _ _ e, u2_kk _ _ _ _ e]; exact hEJ.lef hw'
          · rw [Nat.zero_add, u2_kk _ _ _ _ (by omega)]; exact hEJ.had hg'
          · rw [Nat.zero_add, u2_kk _ _ _ _ (by omega)]; exact hEJ.gls hg' hi
        refine drunkBy_ok hEK (by omega) ?_
        have e6 := hEK.had (g := g) (by omega)
        refine RX12_pour_74  ⟨?_, ⟨?_, ⟨?_, ?_⟩⟩⟩
        · (try simp (disch := omega) only [nlit, natrem, nIrm, nIam, nIam',  nI_add, pk_mul, nIsub, nIrem, nIdiv, nIand1, nIand3, nIand7, nIand31, nIshr, nIle, nIlt, nIeq, nIc, vpI, nIm1, m1nI, m1lt, nIlm, m1le, nIlem, nIneg, u2_ss, u2_nn, u2_kk, nIm1n, m1nIn, m1ltn, nIlmn, m1len, nIlemn, e6, e1]) <;> (first | omega | trivial)
        · (try simp (disch := omega) only [nlit, natrem, nIrm, nIam, nIam',  nI_add, pk_mul, nIsub, nIrem, nIdiv, nIand1, nIand3, nIand7, nIand31, nIshr, nIle, nIlt, nIeq, nIc, vpI, nIm1, m1nI, m1lt, nIlm, m1le, nIlem, nIneg, u2_ss, u2_nn, u2_kk, nIm1n, m1nIn, m1ltn, nIlmn, m1len, nIlemn, e6, e1]) <;> (first | omega | trivial)
        · (try simp (disch := omega) only [nlit, natrem, nIrm, nIam, nIam',  nI_add, pk_mul, nIsub, nIrem, nIdiv, nIand1, nIand3, nIand7, nIand31, nIshr, nIle, nIlt, nIeq, nIc, vpI, nIm1, m1nI, m1lt, nIlm, m1le, nIlem, nIneg, u2_ss, u2_nn, u2_kk, nIm1n, m1nIn, m1ltn, nIlmn, m1len, nIlemn, e6, e1]) <;> (first | omega | trivial)
        · (try simp (disch := omega) only [nlit, natrem, nIrm, nIam, nIam',  nI_add, pk_mul, nIsub, nIrem, nIdiv, nIand1, nIand3, nIand7, nIand31, nIshr, nIle, nIlt, nIeq, nIc, vpI, nIm1, m1nI, m1lt, nIlm, m1le, nIlem, nIneg, u2_ss, u2_nn, u2_kk, nIm1n, m1nIn, m1ltn, nIlmn, m1len, nIlemn, e6, e1])
          have hK6 : ∀ i, 48 ≤ i → (u2 (u2 (u2 J 106 w (nI (lf w - 1))) 106 (6 + 7 * g + 1 + (gl g).length) (nI w)) 106 (6 + 7 * g) (nI ((gl g).length + 1))) 106 i = J 106 i := by
            intro i hi
            rw [u2_kk _ _ _ _ (by omega), u2_kk _ _ _ _ (by omega), u2_kk _ _ _ _ (by omega)]
          have hFF : Fr AA FA J (u2 (u2 (u2 J 106 w (nI (lf w - 1))) 106 (6 + 7 * g + 1 + (gl g).length) (nI w)) 106 (6 + 7 * g) (nI ((gl g).length + 1))) := ((Fr.rf.ua rfl).ua rfl).ua rfl
          have hFJ : Fr AA FA I J := j3.mn rfl rfl
          have hFI := hFJ.tr hFF
          have hU' : ∀ p ∈ push20 us (lf, gl), WFe a p.1 p.2 (fun _ => 0) := by
            intro p hp
            rcases push20_mem hp with e | e
            · rw [e]; exact ⟨hE.1, hE.2.1, fun _ _ => Nat.zero_le _, hE.2.2.2.1, fun g hg h4 => ⟨rfl, (hE.2.2.2.2 g hg h4).2⟩⟩
            · exact hU p e
          refine ht (by omega) _ ⟨⟨hW, hE.pour hg w4 hw (by omega) _ (by omega), hM.fr hFI rfl rfl, hl.fr hFI rfl rfl rfl rfl, ?_, ?_⟩, hU', hKW, ⟨?_, push20_le hMU.2.1, UnM.cp _ hU' j1.2.2 (fun i h1 _ => hK6 i (by omega))⟩, hMk.cp hKW (fun i => ?_) (fun i h1 h2 => ?_)⟩ hFI
          · refine ⟨fun w' hw' => ?_, fun g' hg' => ⟨?_, fun i hi => ?_⟩⟩
            · rw [Nat.zero_add, u2_kk _ _ _ _ (by omega), u2_kk _ _ _ _ (by omega)]
              have := hEK.lef hw'
              exact this
            · rw [Nat.zero_add]
              by_cases e : g' = g
              · subst e; rw [up1_s, u2_ss, List.length_append]; rfl
              · rw [up1_n _ _ e, u2_kk _ _ _ _ (by omega), u2_kk _ _ _ _ (by omega)]; exact hEK.had hg'
            · rw [Nat.zero_add]
              by_cases e : g' = g
              · subst e
                rw [up1_s, List.length_append, List.length_singleton] at hi
                rw [up1_s, u2_kk _ _ _ _ (by omega)]
                by_cases ei : i = (gl g').length
                · subst ei; rw [u2_ss, getD_r (Nat.le_refl _), Nat.sub_self]; rfl
                · rw [u2_kk _ _ _ _ (by omega), getD_l (by omega)]; exact hEK.gls hg' (by omega)
              · rw [up1_n _ _ e] at hi ⊢
                have := hlx g' hg'
                rw [u2_kk _ _ _ _ (by omega), u2_kk _ _ _ _ (by omega)]; exact hEK.gls hg' hi
          · intro g' hg'
            rw [hK6 _ (by omega), j2 _ (by omega)]
            exact hS g' hg'
          · rw [u2_nn _ _ _ _ (by decide), u2_nn _ _ _ _ (by decide), u2_nn _ _ _ _ (by decide)]; exact j1.1
          · rw [u2_nn _ _ _ _ (by decide), u2_nn _ _ _ _ (by decide), u2_nn _ _ _ _ (by decide), j3.ar 107 rfl rfl]
          · rw [hK6 i (by omega), j2 i h2]
    · (try simp (disch := omega) only [nlit, natrem, nIrm, nIam, nIam',  nI_add, pk_mul, nIsub, nIrem, nIdiv, nIand1, nIand3, nIand7, nIand31, nIshr, nIle, nIlt, nIeq, nIc, vpI, nIm1, m1nI, m1lt, nIlm, m1le, nIlem, nIneg, u2_ss, u2_nn, u2_kk, nIm1n, m1nIn, m1ltn, nIlmn, m1len, nIlemn] at c1); (try simp (disch := omega) only [nlit, natrem, nIrm, nIam, nIam',  nI_add, pk_mul, nIsub, nIrem, nIdiv, nIand1, nIand3, nIand7, nIand31, nIshr, nIle, nIlt, nIeq, nIc, vpI, nIm1, m1nI, m1lt, nIlm, m1le, nIlem, nIneg, u2_ss, u2_nn, u2_kk, nIm1n, m1nIn, m1ltn, nIlmn, m1len, nIlemn])
      exact hf (by omega)
theorem m_water {d : Nat} {sx : Sx} {I : Ints} {L : Lngs} {R : Rfs} {q : Q3} {a : Ce} {lc : List (Nat × Nat)} {lf : Nat → Nat} {gl : Nat → List Nat} {sn : Nat → Nat} {us : List Es} {mk : Mk} (hM : MA a lc lf gl sn us mk I) {x : Int32}
    (ht : okW a gl x → ∀ J, MA a lc lf (up1 gl x.toNatClampNeg (gl x.toNatClampNeg).dropLast) sn (push20 us (lf, gl)) mk J → Fr AA FA I J → q (some (.int 1)) J L R) (hf : ¬ okW a gl x → ∀ J, Fr AQ FQ I J → q (some (.int 0)) J L R) : E0 mX12_water (d + 3) sx [.ref 92, .int x] I L R q := by
  refine EX12_water ?_
  have hf : ¬ okW a gl x → q (some (.int 0)) (u2 I 92 0 0) L R := fun hn => hf hn _ fq0
  have ht : okW a gl x → ∀ J, MA a lc lf (up1 gl x.toNatClampNeg (gl x.toNatClampNeg).dropLast) sn (push20 us (lf, gl)) mk J → Fr AA FA (u2 I 92 0 0) J → q (some (.int 1)) J L R := fun ho J hJ hF => ht ho J hJ ((Fr.rf.uf rfl).tr hF)
  have hM := hM.fq (fq0 (v := 0))
  generalize u2 I 92 0 0 = I at *
  obtain ⟨⟨hW, hE, hM, hl, hEv, hS⟩, hU, hKW, hMU, hMk⟩ := hM
  have w4 := hW.2.2.2.2.1
  refine isGuestM_ok hM (fun g hg e => ?_) (fun hn => RX12_water_10 ⟨fun _ => hf (fun w => hn w.1), fun w => absurd rfl w⟩)
  subst e
  have hin : inR (nI g) (a 4).val := (inR_nI (by omega) (by omega)).mpr hg
  unfold okW at ht hf
  rw [nIc (by omega)] at ht hf
  have hlx : ∀ x, x < 6 → (gl x).length ≤ 6 := fun x hx => (hE.2.1 x hx).1
  have hl6 := hlx g (by omega)
  refine RX12_water_10 ⟨fun w => absurd w (by decide), fun _ => ?_⟩
  refine drunkBy_ok hEv (by omega) ?_
  refine RX12_water_18  ⟨fun c1 => ?_, fun c1 => ?_⟩
  · (try simp (disch := omega) only [nlit, natrem, nIrm, nIam, nIam',  nI_add, pk_mul, nIsub, nIrem, nIdiv, nIand1, nIand3, nIand7, nIand31, nIshr, nIle, nIlt, nIeq, nIc, vpI, nIm1, m1nI, m1lt, nIlm, m1le, nIlem, nIneg, u2_ss, u2_nn, u2_kk, nIm1n, m1nIn, m1ltn, nIlmn, m1len, nIlemn] at c1); (try simp (disch := omega) only [nlit, natrem, nIrm, nIam, nIam',  nI_add, pk_mul, nIsub, nIrem, nIdiv, nIand1, nIand3, nIand7, nIand31, nIshr, nIle, nIlt, nIeq, nIc, vpI, nIm1, m1nI, m1lt, nIlm, m1le, nIlem, nIneg, u2_ss, u2_nn, u2_kk, nIm1n, m1nIn, m1ltn, nIlmn, m1len, nIlemn])
    refine keeps_ok (sn := sn) hE hU hMU hEv (fun J j1 j2 j3 => ?_)
    have hEJ : EvL 0 lf gl J := hEv.cpz hlx (fun k hk => j2 k (by omega))
    have e1 := hEJ.had (g := g) (by omega)
    refine RX12_water_27  ⟨?_, ⟨?_, ?_⟩⟩
    · (try simp (disch := omega) only [nlit, natrem, nIrm, nIam, nIam',  nI_add, pk_mul, nIsub, nIrem, nIdiv, nIand1, nIand3, nIand7, nIand31, nIshr, nIle, nIlt, nIeq, nIc, vpI, nIm1, m1nI, m1lt, nIlm, m1le, nIlem, nIneg, u2_ss, u2_nn, u2_kk, nIm1n, m1nIn, m1ltn, nIlmn, m1len, nIlemn, e1]) <;> (first | omega | trivial)
    · (try simp (disch := omega) only [nlit, natrem, nIrm, nIam, nIam',  nI_add, pk_mul, nIsub, nIrem, nIdiv, nIand1, nIand3, nIand7, nIand31, nIshr, nIle, nIlt, nIeq, nIc, vpI, nIm1, m1nI, m1lt, nIlm, m1le, nIlem, nIneg, u2_ss, u2_nn, u2_kk, nIm1n, m1nIn, m1ltn, nIlmn, m1len, nIlemn, e1]) <;> (first | omega | trivial)
    · (try simp (disch := omega) only [nlit, natrem, nIrm, nIam, nIam',  nI_add, pk_mul, nIsub, nIrem, nIdiv, nIand1, nIand3, nIand7, nIand31, nIshr, nIle, nIlt, nIeq, nIc, vpI, nIm1, m1nI, m1lt, nIlm, m1le, nIlem, nIneg, u2_ss, u2_nn, u2_kk, nIm1n, m1nIn, m1ltn, nIlmn, m1len, nIlemn, e1])
      have hFF : Fr AA FA J (u2 J 106 (6 + 7 * g) (nI ((gl g).length - 1))) := Fr.rf.ua rfl
      have hFJ : Fr AA FA I J := j3.mn rfl rfl
      have hFI := hFJ.tr hFF
      have hU' : ∀ p ∈ push20 us (lf, gl), WFe a p.1 p.2 (fun _ => 0) := by
        intro p hp
        rcases push20_mem hp with e | e
        · rw [e]; exact ⟨hE.1, hE.2.1, fun _ _ => Nat.zero_le _, hE.2.2.2.1, fun g hg h4 => ⟨rfl, (hE.2.2.2.2 g hg h4).2⟩⟩
        · exact hU p e
      refine ht ⟨hin, fun e => by rw [e] at c1; exact c1 rfl⟩ _ ⟨⟨hW, hE.water hg w4, hM.fr hFI rfl rfl, hl.fr hFI rfl rfl rfl rfl, ?_, ?_⟩, hU', hKW, ⟨?_, push20_le hMU.2.1, UnM.cp _ hU' j1.2.2 (fun i h1 _ => ?_)⟩, hMk.cp hKW (fun i => ?_) (fun i h1 h2 => ?_)⟩ hFI
      · refine ⟨fun w' hw' => ?_, fun g' hg' => ⟨?_, fun i hi => ?_⟩⟩
        · rw [Nat.zero_add, u2_kk _ _ _ _ (by omega)]; exact hEJ.lef hw'
        · rw [Nat.zero_add]
          by_cases e : g' = g
          · subst e; rw [up1_s, u2_ss, List.length_dropLast]
          · rw [up1_n _ _ e, u2_kk _ _ _ _ (by omega)]; exact hEJ.had hg'
        · rw [Nat.zero_add]
          by_cases e : g' = g
          · subst e
            rw [up1_s] at hi ⊢
            rw [List.length_dropLast] at hi
            rw [u2_kk _ _ _ _ (by omega), hEJ.gls hg' (by omega)]
            rcases l_last (gl g') with h0 | ⟨l, w, hlw⟩
            · rw [h0] at hi; simp at hi
            · rw [hlw] at hi ⊢
              rw [List.length_append] at hi
              rw [show (l ++ [w]).dropLast = l by simp, getD_l (by simp at hi; exact hi)]
          · rw [up1_n _ _ e] at hi ⊢
            have := hlx g' hg'
            rw [u2_kk _ _ _ _ (by omega)]; exact hEJ.gls hg' hi
      · intro g' hg'
        rw [u2_kk _ _ _ _ (by omega), j2 _ (by omega)]
        exact hS g' hg'
      · rw [u2_nn _ _ _ _ (by decide)]; exact j1.1
      · rw [u2_kk _ _ _ _ (by omega)]
      · rw [u2_nn _ _ _ _ (by decide), j3.ar 107 rfl rfl]
      · rw [u2_kk _ _ _ _ (by omega), j2 i h2]
  · (try simp (disch := omega) only [nlit, natrem, nIrm, nIam, nIam',  nI_add, pk_mul, nIsub, nIrem, nIdiv, nIand1, nIand3, nIand7, nIand31, nIshr, nIle, nIlt, nIeq, nIc, vpI, nIm1, m1nI, m1lt, nIlm, m1le, nIlem, nIneg, u2_ss, u2_nn, u2_kk, nIm1n, m1nIn, m1ltn, nIlmn, m1len, nIlemn] at c1); (try simp (disch := omega) only [nlit, natrem, nIrm, nIam, nIam',  nI_add, pk_mul, nIsub, nIrem, nIdiv, nIand1, nIand3, nIand7, nIand31, nIshr, nIle, nIlt, nIeq, nIc, vpI, nIm1, m1nI, m1lt, nIlm, m1le, nIlem, nIneg, u2_ss, u2_nn, u2_kk, nIm1n, m1nIn, m1ltn, nIlmn, m1len, nIlemn])
    exact hf (fun w => w.2 (List.eq_nil_of_length_eq_zero c1))
theorem m_undo {d : Nat} {sx : Sx} {I : Ints} {L : Lngs} {R : Rfs} {q : Q3} {a : Ce} {lc : List (Nat × Nat)} {lf : Nat → Nat} {gl : Nat → List Nat} {sn : Nat → Nat} {us : List Es} {mk : Mk} (hM : MA a lc lf gl sn us mk I)
    (ht : ∀ p us', us = p :: us' → ∀ J, MA a lc p.1 p.2 sn us' mk J → Fr AA FA I J → q (some (.int 1)) J L R) (hf : us = [] → ∀ J, Fr AQ FQ I J → q (some (.int 0)) J L R) : E0 mX12_undo (d + 2) sx [.ref 92] I L R q := by
  obtain ⟨⟨hW, hE, hM, hl, hEv, hS⟩, hU, hKW, ⟨u1, u2', u3⟩, hMk⟩ := hM
  match us, hU, u1, u2', u3, ht, hf with
  | [], hU, u1, u2', u3, ht, hf =>
    have u1 : I 92 22 = nI 0 := u1
    refine EX12_undo  ⟨fun c1 => ?_, fun c1 => ?_⟩
    · (try simp (disch := omega) only [nlit, natrem, nIrm, nIam, nIam',  nI_add, pk_mul, nIsub, nIrem, nIdiv, nIand1, nIand3, nIand7, nIand31, nIshr, nIle, nIlt, nIeq, nIc, vpI, nIm1, m1nI, m1lt, nIlm, m1le, nIlem, nIneg, u2_ss, u2_nn, u2_kk, nIm1n, m1nIn, m1ltn, nIlmn, m1len, nIlemn, u1] at c1) <;> (first | omega | exact absurd rfl c1 | exact absurd trivial c1)
    · (try simp (disch := omega) only [nlit, natrem, nIrm, nIam, nIam',  nI_add, pk_mul, nIsub, nIrem, nIdiv, nIand1, nIand3, nIand7, nIand31, nIshr, nIle, nIlt, nIeq, nIc, vpI, nIm1, m1nI, m1lt, nIlm, m1le, nIlem, nIneg, u2_ss, u2_nn, u2_kk, nIm1n, m1nIn, m1ltn, nIlmn, m1len, nIlemn, u1] at c1); (try simp (disch := omega) only [nlit, natrem, nIrm, nIam, nIam',  nI_add, pk_mul, nIsub, nIrem, nIdiv, nIand1, nIand3, nIand7, nIand31, nIshr, nIle, nIlt, nIeq, nIc, vpI, nIm1, m1nI, m1lt, nIlm, m1le, nIlem, nIneg, u2_ss, u2_nn, u2_kk, nIm1n, m1nIn, m1ltn, nIlmn, m1len, nIlemn, u1])
      exact hf rfl _ fq0
  | p :: us', hU, u1, u2', u3, ht, hf =>
    simp only [List.length_cons] at u1 u2'
    have hp := hU p (List.mem_cons_self ..)
    refine EX12_undo  ⟨fun c1 => ?_, fun c1 => ?_⟩
    · (try simp (disch := omega) only [nlit, natrem, nIrm, nIam, nIam',  nI_add, pk_mul, nIsub, nIrem, nIdiv, nIand1, nIand3, nIand7, nIand31, nIshr, nIle, nIlt, nIeq, nIc, vpI, nIm1, m1nI, m1lt, nIlm, m1le, nIlem, nIneg, u2_ss, u2_nn, u2_kk, nIm1n, m1nIn, m1ltn, nIlmn, m1len, nIlemn, u1, Nat.add_sub_cancel] at c1); (try simp (disch := omega) only [nlit, natrem, nIrm, nIam, nIam',  nI_add, pk_mul, nIsub, nIrem, nIdiv, nIand1, nIand3, nIand7, nIand31, nIshr, nIle, nIlt, nIeq, nIc, vpI, nIm1, m1nI, m1lt, nIlm, m1le, nIlem, nIneg, u2_ss, u2_nn, u2_kk, nIm1n, m1nIn, m1ltn, nIlmn, m1len, nIlemn, u1, Nat.add_sub_cancel])
      refine copies_ok (t := 0) (n := 48) (by omega) (by decide) (by omega) (by decide) (fun K k1 k2 k3 => RX12_undo_37 ?_)
      have hF1 : Fr AA FA I (u2 (u2 I 92 0 (nI 0)) 92 22 (nI us'.length)) := (Fr.rf.uf rfl).uf rfl
      have hFI : Fr AA FA I K := hF1.tr (k3.mn rfl rfl)
      have e6 : ∀ i, (u2 (u2 I 92 0 (nI 0)) 92 22 (nI us'.length)) 106 i = I 106 i := fun i => by rw [u2_nn _ _ _ _ (by decide), u2_nn _ _ _ _ (by decide)]
      refine ht p us' rfl K ⟨⟨hW, hE.sn hp, hM.fr hFI rfl rfl, hl.fr hFI rfl rfl rfl rfl, ?_, ?_⟩, fun x hx => hU x (List.mem_cons_of_mem _ hx), hKW, ⟨?_, by omega, UnM.cp _ (fun x hx => hU x (List.mem_cons_of_mem _ hx)) u3.2 (fun i h1 h2 => ?_)⟩, hMk.cp hKW (fun i => ?_) (fun i h1 h2 => ?_)⟩ hFI
      · refine u3.1.cp (fun x hx => (hp.2.1 x hx).1) (fun k hk => ?_)
        have := k1 k hk
        rw [e6] at this
        exact this
      · intro g' hg'
        rw [k2 _ (by omega), e6]
        exact hS g' hg'
      · rw [k3.ar 92 rfl rfl, u2_ss]
      · rw [k2 i (by omega), e6]
      · rw [k3.ar 107 rfl rfl, u2_nn _ _ _ _ (by decide), u2_nn _ _ _ _ (by decide)]
      · rw [k2 i (by omega), e6]
    · (try simp (disch := omega) only [nlit, natrem, nIrm, nIam, nIam',  nI_add, pk_mul, nIsub, nIrem, nIdiv, nIand1, nIand3, nIand7, nIand31, nIshr, nIle, nIlt, nIeq, nIc, vpI, nIm1, m1nI, m1lt, nIlm, m1le, nIlem, nIneg, u2_ss, u2_nn, u2_kk, nIm1n, m1nIn, m1ltn, nIlmn, m1len, nIlemn, u1, Nat.add_sub_cancel] at c1) <;> (first | omega | exact absurd rfl c1 | exact absurd trivial c1)
theorem isInV {d : Nat} {sx : Sx} {I : Ints} {L : Lngs} {R : Rfs} {q : Q3} {a : Ce} (hM : CelM a I) {x y : Int32}
    (ht : ∀ m n, m < (a 0).val → n < (a 1).val → x = nI m → y = nI n → q (some (.int 1)) I L R) (hf : ¬ (inR x (a 0).val ∧ inR y (a 1).val) → q (some (.int 0)) I L R) : E0 mX12_isIn (d + 1) sx [.ref 92, .int x, .int y] I L R q := by
  have h0 := hM 0 (by decide) (by decide)
  have h1 := hM 1 (by decide) (by decide)
  refine EX12_isIn ⟨fun c1 => hf (fun w => w.1.1 c1), fun c1 => ⟨fun c2 => hf (fun w => ?_), fun c2 => ⟨fun c3 => hf (fun w => w.2.1 c3), fun c3 => ⟨fun c4 => hf (fun w => ?_), fun c4 => ?_⟩⟩⟩⟩
  · rw [h0] at c2; exact i32_nlt c2 w.1.2
  · rw [h1] at c4; exact i32_nlt c4 w.2.2
  · rw [h0] at c2
    rw [h1] at c4
    obtain ⟨m, hm, e1⟩ := inR_of (by omega) c1 (i32_nle c2)
    obtain ⟨n, hn, e2⟩ := inR_of (by omega) c3 (i32_nle c4)
    exact ht m n hm hn e1 e2
theorem MA.see {a : Ce} {lc : List (Nat × Nat)} {lf : Nat → Nat} {gl : Nat → List Nat} {sn : Nat → Nat} {us : List Es} {mk : Mk} {I : Ints} (hM : MA a lc lf gl sn us mk I) {n v : Nat} (hn : n < (a 4).val) (hv : v ≤ 64) : MA a lc lf gl (up1 sn n v) us mk (u2 I 106 (48 + n) (snV v)) := by
  obtain ⟨⟨hW, hE, hM, hl, hEv, hS⟩, hU, hKW, ⟨u1, u2', u3⟩, hMk⟩ := hM
  have w4 := hW.2.2.2.2.1
  have hlx : ∀ x, x < 6 → (gl x).length ≤ 6 := fun x hx => (hE.2.1 x hx).1
  have hF : Fr AA FA I (u2 I 106 (48 + n) (snV v)) := Fr.rf.ua rfl
  refine ⟨⟨hW, ⟨hE.1, hE.2.1, fun g hg => ?_, hE.2.2.2.1, fun g hg h4 => ⟨?_, (hE.2.2.2.2 g hg h4).2⟩⟩, hM.fr hF rfl rfl, hl.fr hF rfl rfl rfl rfl, hEv.cpz hlx (fun k hk => u2_kk _ _ _ _ (by omega)), fun g hg => ?_⟩, hU, hKW, ⟨?_, u2', UnM.cp _ hU u3 (fun i h1 h2 => u2_kk _ _ _ _ (by omega))⟩, hMk.cp hKW (fun i => u2_nn _ _ _ _ (by decide)) (fun i h1 h2 => u2_kk _ _ _ _ (by omega))⟩
  · by_cases e : g = n
    · rw [e, up1_s]; exact hv
    · rw [up1_n _ _ e]; exact hE.2.2.1 g hg
  · rw [up1_n _ _ (by omega)]; exact (hE.2.2.2.2 g hg h4).1
  · rw [Nat.zero_add]
    by_cases e : g = n
    · rw [e, up1_s, u2_ss]
    · rw [up1_n _ _ e, u2_kk _ _ _ _ (by omega)]
      have := hS g hg
      rw [Nat.zero_add] at this
      exact this
  · rw [u2_nn _ _ _ _ (by decide)]; exact u1
theorem m_see {d : Nat} {sx : Sx} {I : Ints} {L : Lngs} {R : Rfs} {q : Q3} {a : Ce} {lc : List (Nat × Nat)} {lf : Nat → Nat} {gl : Nat → List Nat} {sn : Nat → Nat} {us : List Es} {mk : Mk} (hM : MA a lc lf gl sn us mk I) {g x y : Int32}
    (ht : okS a g x y → ∀ J, MA a lc lf gl (up1 sn g.toNatClampNeg (seV x y)) us mk J → Fr AA FA I J → q (some (.int 1)) J L R) (hf : ¬ okS a g x y → ∀ J, Fr AQ FQ I J → q (some (.int 0)) J L R) : E0 mX12_see (d + 3) sx [.ref 92, .int g, .int x, .int y] I L R q := by
  refine EX12_see ?_
  have hf : ¬ okS a g x y → q (some (.int 0)) (u2 I 92 0 0) L R := fun hn => hf hn _ fq0
  have ht : okS a g x y → ∀ J, MA a lc lf gl (up1 sn g.toNatClampNeg (seV x y)) us mk J → Fr AA FA (u2 I 92 0 0) J → q (some (.int 1)) J L R := fun ho J hJ hF => ht ho J hJ ((Fr.rf.uf rfl).tr hF)
  have hM := hM.fq (fq0 (v := 0))
  generalize u2 I 92 0 0 = I at *
  have hMM := hM
  obtain ⟨⟨hW, hE, hM, hl, hEv, hS⟩, hU, hKW, hMU, hMk⟩ := hM
  have w4 := hW.2.2.2.2.1
  have w0 := hW.1.2
  have w1 := hW.2.1.2
  refine isGuestM_ok hM (fun n hn e => ?_) (fun hn => RX12_see_10 ⟨fun _ => hf (fun w => hn w.1), fun w => absurd rfl w⟩)
  subst e
  have hin : inR (nI n) (a 4).val := (inR_nI (by omega) (by omega)).mpr hn
  rw [nIc (by omega)] at ht
  by_cases hx : x = -1
  · have e : seV x y = 0 := by unfold seV; rw [if_pos hx]
    rw [e] at ht
    refine RX12_see_10 ⟨fun w => absurd w (by decide), fun _ => ⟨fun _ => ⟨?_, ?_⟩, fun w => absurd hx w⟩⟩
    · simp (disch := omega) only [nlit, natrem, nIrm, nIam, nIam',  nI_add, pk_mul, nIsub, nIrem, nIdiv, nIand1, nIand3, nIand7, nIand31, nIshr, nIle, nIlt, nIeq, nIc, vpI, nIm1, m1nI, m1lt, nIlm, m1le, nIlem, nIneg, u2_ss, u2_nn, u2_kk, nIm1n, m1nIn, m1ltn, nIlmn, m1len, nIlemn]; omega
    · simp (disch := omega) only [nlit, natrem, nIrm, nIam, nIam',  nI_add, pk_mul, nIsub, nIrem, nIdiv, nIand1, nIand3, nIand7, nIand31, nIshr, nIle, nIlt, nIeq, nIc, vpI, nIm1, m1nI, m1lt, nIlm, m1le, nIlem, nIneg, u2_ss, u2_nn, u2_kk, nIm1n, m1nIn, m1ltn, nIlmn, m1len, nIlemn]
      exact ht ⟨hin, Or.inl hx⟩ _ (hMM.see hn (by decide)) (Fr.rf.ua rfl)
  · refine RX12_see_10 ⟨fun w => absurd w (by decide), fun _ => ⟨fun w => absurd w hx, fun _ => ?_⟩⟩
    refine isInV hM (fun m k hm hk e1 e2 => ?_) (fun hno => RX12_see_24 ⟨fun w => absurd rfl w, fun _ => hf (fun w => w.2.elim hx hno)⟩)
    subst e1
    subst e2
    have e : seV (nI m) (nI k) = 8 * k + m + 1 := by unfold seV; rw [if_neg hx, nIc (by omega), nIc (by omega)]
    rw [e] at ht
    have e3 : snV (8 * k + m + 1) = nI (8 * k + m) := by unfold snV; rw [if_neg (by omega)]; rfl
    have hk9 := hMM.see (v := 8 * k + m + 1) hn (by omega)
    rw [e3] at hk9
    refine RX12_see_24  ⟨fun c1 => ⟨fun c2 => ⟨?_, ?_⟩, fun c2 => ⟨?_, ?_⟩⟩, fun c1 => ?_⟩
    · (try simp (disch := omega) only [nlit, natrem, nIrm, nIam, nIam',  nI_add, pk_mul, nIsub, nIrem, nIdiv, nIand1, nIand3, nIand7, nIand31, nIshr, nIle, nIlt, nIeq, nIc, vpI, nIm1, m1nI, m1lt, nIlm, m1le, nIlem, nIneg, u2_ss, u2_nn, u2_kk, nIm1n, m1nIn, m1ltn, nIlmn, m1len, nIlemn] at c1 c2) <;> (try simp (disch := omega) only [nlit, natrem, nIrm, nIam, nIam',  nI_add, pk_mul, nIsub, nIrem, nIdiv, nIand1, nIand3, nIand7, nIand31, nIshr, nIle, nIlt, nIeq, nIc, vpI, nIm1, m1nI, m1lt, nIlm, m1le, nIlem, nIneg, u2_ss, u2_nn, u2_kk, nIm1n, m1nIn, m1ltn, nIlmn, m1len, nIlemn]) <;> (first | omega | trivial)
    · (try simp (disch := omega) only [nlit, natrem, nIrm, nIam, nIam',  nI_add, pk_mul, nIsub, nIrem, nIdiv, nIand1, nIand3, nIand7, nIand31, nIshr, nIle, nIlt, nIeq, nIc, vpI, nIm1, m1nI, m1lt, nIlm, m1le, nIlem, nIneg, u2_ss, u2_nn, u2_kk, nIm1n, m1nIn, m1ltn, nIlmn, m1len, nIlemn] at c1 c2); (try simp (disch := omega) only [nlit, natrem, nIrm, nIam, nIam',  nI_add, pk_mul, nIsub, nIrem, nIdiv, nIand1, nIand3, nIand7, nIand31, nIshr, nIle, nIlt, nIeq, nIc, vpI, nIm1, m1nI, m1lt, nIlm, m1le, nIlem, nIneg, u2_ss, u2_nn, u2_kk, nIm1n, m1nIn, m1ltn, nIlmn, m1len, nIlemn])
      exact ht ⟨hin, Or.inr ⟨(inR_nI (by omega) (by omega)).mpr hm, (inR_nI (by omega) (by omega)).mpr hk⟩⟩ _ hk9 (Fr.rf.ua rfl)
    · (try simp (disch := omega) only [nlit, natrem, nIrm, nIam, nIam',  nI_add, pk_mul, nIsub, nIrem, nIdiv, nIand1, nIand3, nIand7, nIand31, nIshr, nIle, nIlt, nIeq, nIc, vpI, nIm1, m1nI, m1lt, nIlm, m1le, nIlem, nIneg, u2_ss, u2_nn, u2_kk, nIm1n, m1nIn, m1ltn, nIlmn, m1len, nIlemn] at c1 c2) <;> (try simp (disch := omega) only [nlit, natrem, nIrm, nIam, nIam',  nI_add, pk_mul, nIsub, nIrem, nIdiv, nIand1, nIand3, nIand7, nIand31, nIshr, nIle, nIlt, nIeq, nIc, vpI, nIm1, m1nI, m1lt, nIlm, m1le, nIlem, nIneg, u2_ss, u2_nn, u2_kk, nIm1n, m1nIn, m1ltn, nIlmn, m1len, nIlemn]) <;> (first | omega | trivial)
    · (try simp (disch := omega) only [nlit, natrem, nIrm, nIam, nIam',  nI_add, pk_mul, nIsub, nIrem, nIdiv, nIand1, nIand3, nIand7, nIand31, nIshr, nIle, nIlt, nIeq, nIc, vpI, nIm1, m1nI, m1lt, nIlm, m1le, nIlem, nIneg, u2_ss, u2_nn, u2_kk, nIm1n, m1nIn, m1ltn, nIlmn, m1len, nIlemn] at c1 c2) <;> (first | omega | exact absurd rfl c1 | exact absurd trivial c1 | exact absurd rfl c2 | exact absurd trivial c2)
    · (try simp (disch := omega) only [nlit, natrem, nIrm, nIam, nIam',  nI_add, pk_mul, nIsub, nIrem, nIdiv, nIand1, nIand3, nIand7, nIand31, nIshr, nIle, nIlt, nIeq, nIc, vpI, nIm1, m1nI, m1lt, nIlm, m1le, nIlem, nIneg, u2_ss, u2_nn, u2_kk, nIm1n, m1nIn, m1ltn, nIlmn, m1len, nIlemn] at c1) <;> (first | omega | exact absurd rfl c1 | exact absurd trivial c1)
