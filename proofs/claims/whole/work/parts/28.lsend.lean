theorem dL_law_690 : decode code 690 = .ok (.invokestatic 77, 3) := by decide +kernel
theorem lsend_good : GoodIn Ts (va_wsS (rn 13) 77 yL_send (.codeWith yL_send cL_send 4 (some .int) lsT :: Ts)) := by
  intro w h
  rcases List.mem_cons.mp h with rfl | h
  · exact tsG _ (tsI (inT5 _ (List.mem_of_getElem? (i := 95) rfl)) rfl)
  rcases List.mem_cons.mp h with rfl | h
  · exact tsG _ (tsI (inT5 _ (List.mem_of_getElem? (i := 96) rfl)) rfl)
  rcases List.mem_cons.mp h with rfl | h
  · exact tsG _ (tsI (inT1 _ (List.mem_of_getElem? (i := 0) rfl)) rfl)
  rcases List.mem_cons.mp h with rfl | h
  · exact tsG _ kL_send
  · exact tsG _ h
theorem X_callSW {mi : MI} {d mc ms : Nat} {sr : Sr} {sx : Sx} {S : List Shp} {kc ks pc : Nat} {ls : Lc} {st : List Value} {I : Ints} {L : Lngs} {R : Rfs} {Q : Qt} {y : MethodName} {bytes : ByteArray} {maxL : Nat} {ret : Option FieldType} {hh : List (Nat × Nat × Nat × Nat)} {d' mc' ms' idx n : Nat} {as st0 : List Value} (hgd : GoodIn Ts (va_wsS (rn mi.1) idx y (.codeWith y bytes maxL ret hh :: Ts))) (hpd : y.cls ≠ "java/lang/invoke/MethodHandle" ∧ y.cls ≠ "java/lang/invoke/VarHandle" ∧ (parseMethodDescriptor y.desc).map (fun d => d.parameters.length) = some n) (hmx : maxL ≤ 80) (hn : as.length = n) (hst : st0 = as.reverse ++ st) (hcat : (st.map fun v => v.category).sum ≤ 8) (hdd : d' + 1 ≤ d) (hk1 : kc + mc' ≤ mc) (hk2 : ks + ms' ≤ ms) (hd : decode mi.2.2.1 pc = .ok (.invokestatic idx, 3))
    (h : ∀ (l : Launch), l.stackTraces = false → ∀ (D : va_G) (g : Gv) (ca : FieldType → ClassId), Met l y (.codeWith y bytes maxL ret hh :: Ts) (rmD d' mc' ms') (va_Pc (as.map (cvV g)) (Pcx sr sx (false, false) D g ca S I L R)) (QQ g D ca (false, false) mc' sr (fun r S I L R => X mi d mc ms (false, false) sr sx S (kc + mc') (ks + ms') (pc + 3) ls (r.toList ++ st) I L R Q)) mc' ms' (fun q => g.1 ≤ q)) : X mi d mc ms (false, false) sr sx S kc ks pc ls st0 I L R Q := by
  intro p l e Rm s m args below meth c D g ca H locs lsA hs hc
  refine W_size (fun hz => ?_)
  refine W_back hs hc hz (fun z => z) (vx_runSW (As := as.map (cvV g)) (rest := st.map (cvV g)) (n := n) (nL := mi.2.2.2.1) (Ts := Ts) (own := rn mi.1) ⟨hs.1, hs.2.1, hs.2.2.2.1, hs.2.2.2.2.1, hs.2.2.2.2.2.1⟩ (h l hs.2.2.2.2.2.2.2.2.2.2.2.2 D g ca) (vx_cwSW n hs.2.2.2.2.2.1 hgd rfl rfl rfl hpd ⟨?_, ?_⟩) ⟨Pcx_blind, fun U hU hW => ⟨rfl, Pcx_at hc hz (fun z => z) hU hW⟩⟩ rfl (by simpa using hn) hc.2.2.2.2.2.2.1 ?_ (lv_room (by rw [cvV_sum]; exact hcat)) hd ⟨Nat.le_trans hk1 hs.2.2.2.2.2.2.2.2.2.2.1, Nat.le_trans hk2 hs.2.2.2.2.2.2.2.2.2.2.2.1⟩)
  · have := hs.2.2.2.2.2.2.2.2.1
    show d' + 1 ≤ Rm.frames
    omega
  · have := hs.2.2.2.2.2.2.2.2.2.1
    show 8 + (maxL + 11) + 100 * d' ≤ Rm.locals
    omega
  · rw [hst]
    simp
theorem X_lsend {d mc ms kc ks : Nat} {sx : Sx} {I : Ints} {L : Lngs} {R : Rfs} {q : Q3} {v : Int32} {ls : Lc} {cc : Nat} (hcel : isCel cc) (hnow : R 0 2 = some cc) (hk1 : kc + 1 ≤ mc) (hk2 : ks + 6 ≤ ms)
    (h : E0 mX9_isOrder d sx [.int v, .int (I cc 11)] I L R (fun r J K T => ∃ z, r = some (.int z) ∧ (¬ z = 0 → YK 1 6 0 0 mX11_send (d + 7) sx 24 [(0, .ref 0), (1, .int v)] [] J K T (fun r J K T => ∃ y, r = some (.int y) ∧ YK mc ms (kc + 1) (ks + 6) mL_law (d + 10) sx 693 ls [.int 0] J (u2 K 116 0 y.toInt64) T q)) ∧ (z = 0 → YK mc ms (kc + 1) (ks + 6) mL_law (d + 10) sx 693 ls [.int 1] J K T q))) :
    YK mc ms kc ks mL_law (d + 10) sx 690 ls [.ref 116, .int v, .ref 0] I L R q := by
  refine X_callSW (y := yL_send) (bytes := cL_send) (maxL := 4) (ret := some .int) (hh := lsT) (d' := d + 9) (mc' := 1) (ms' := 6) (as := [.ref 0, .int v, .ref 116]) (st := []) (n := 3) lsend_good ⟨by decide, by decide, by decide +kernel⟩ (Nat.le_of_ble_eq_true rfl) rfl rfl (Nat.le_of_ble_eq_true rfl) (Nat.le_refl _) hk1 hk2 dL_law_690 ?_
  intro l hl D g ca
  have hM := lsend_met (l := l) hl (q := fun r J K T => ∃ z, r = some (.int z) ∧ YK mc ms (kc + 1) (ks + 6) mL_law (d + 10) sx 693 ls [.int z] J K T q) hcel hnow (EV_mono h (fun r S I L R hh => ?_)) D g ca
  · intro p e h1 h2 h3 s m ar below h4 h5 h6 h7
    obtain ⟨n, o, g1, g2, g3, ⟨⟨r, S2, I2, L2, R2, e1, e2, e3⟩, hF⟩, g5⟩ := hM p e h1 h2 h3 s m ar below h4 h5 h6 h7
    obtain ⟨rfl, z, rfl, e2⟩ := e2
    exact ⟨n, o, g1, g2, g3, ⟨⟨_, _, I2, L2, R2, e1, e2, e3⟩, hF⟩, g5⟩
  · obtain ⟨hS, z, hz, k1, k2⟩ := hh
    refine ⟨hS, z, hz, fun hne => X_mono (k1 hne) (fun r S I L R hh => ?_), fun he => ⟨1, rfl, k2 he⟩⟩
    obtain ⟨hS, y, hy, k⟩ := hh
    exact ⟨hS, y, hy, 0, rfl, k⟩
