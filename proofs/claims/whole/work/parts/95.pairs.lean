abbrev lvw (v : Int32) : Lc := [(0, .retAddr 0), (1, .ref 0), (2, .ref 92), (3, .ref 116), (4, .int v)]
def Q1 : Q3 := fun r _ _ _ => r = some (.int 1)
/-- the law's loop goes on -/
def NX (sx : Sx) (v : Int32) (kc ks : Nat) : Prop := ∀ (a : Ce) (lc : List (Nat × Nat)) (lf : Nat → Nat) (gl : Nat → List Nat) (sn : Nat → Nat) (us : List Es) (mk : Mk) (tp : List Nat) (J : Ints) (K : Lngs) (T : Rfs), GC a lc lf gl sn us mk tp J K T → GM a lc lf gl sn us mk tp J K → tpOk tp → YK 601024 7293034 kc ks mL_law 100 sx 23 (lvw (v + 7)) [] J K T Q1
def VI (sx : Sx) (v : Int32) : Prop := vp_in (v + 1) sx.1 ∧ vp_in (v + 2) sx.1 ∧ vp_in (v + 3) sx.1 ∧ vp_in (v + 4) sx.1 ∧ vp_in (v + 5) sx.1 ∧ vp_in (v + 6) sx.1
theorem CQ.gc {a : Ce} {lc : List (Nat × Nat)} {lf : Nat → Nat} {gl : Nat → List Nat} {sn : Nat → Nat} {us : List Es} {mk : Mk} {tp : List Nat} {I J : Ints} {L K : Lngs} {R : Rfs} {c s : Nat} (h : CQ a lc lf gl sn c I J L K R) (hs : isCel s) (hsc : s ≠ c) (h3 : R 0 3 = some s) (hC : GC a lc lf gl sn us mk tp I L R) (hM : GM a lc lf gl sn us mk tp I L) : GC a lc lf gl sn us mk tp J K R ∧ GM a lc lf gl sn us mk tp J K := by
  obtain ⟨h1, h2, h4⟩ := h
  have hc' : c = 2 ∨ c = 14 := h1.1
  have hr : ∀ k, k ≠ 13 → k ≠ 25 → k ≠ 43 → ¬ (80 ≤ k ∧ k ≤ 91) → J k = I k := fun k a b e f => h2 k ⟨by omega, e, f⟩
  exact ⟨hC.kp h1 hs hsc h3 (fun k hk => hr k (by omega) (by omega) (by omega) (by omega)) (hC.2.2.2.2.1.cg (hr 56 (by decide) (by decide) (by decide) (by decide))) (hC.2.2.2.2.2.cg (hr 48 (by decide) (by decide) (by decide) (by decide)) (hr 49 (by decide) (by decide) (by decide) (by decide))), hM.hi (fun k (hk : 92 ≤ k) => hr k (by omega) (by omega) (by omega) (by omega)) (h4 97 (show ¬ (80 ≤ 97 ∧ 97 ≤ 91) by decide))⟩
theorem CSQ.gc {a : Ce} {lc : List (Nat × Nat)} {lf : Nat → Nat} {gl : Nat → List Nat} {sn : Nat → Nat} {us : List Es} {mk : Mk} {tp : List Nat} {I J : Ints} {L K : Lngs} {R T : Rfs} {c s : Nat} (h : CSQ a lc lf gl sn c I J L K R T) (hs : isCel s) (hsc : s ≠ c) (h3 : R 0 3 = some s) (hC : GC a lc lf gl sn us mk tp I L R) (hM : GM a lc lf gl sn us mk tp I L) : GC a lc lf gl sn us mk tp J K T ∧ GM a lc lf gl sn us mk tp J K := by
  obtain ⟨h1, h2, h4, h5⟩ := h
  have hc' : c = 2 ∨ c = 14 := h1.1
  have hr : ∀ k, k ≠ 13 → k ≠ 25 → ¬ (43 ≤ k ∧ k ≤ 47) → ¬ (54 ≤ k ∧ k ≤ 55) → ¬ (57 ≤ k ∧ k ≤ 59) → ¬ (80 ≤ k ∧ k ≤ 91) → J k = I k := fun k a b e f g i => h2 k ⟨by omega, e, by omega, by omega, g, i⟩
  exact ⟨hC.kp h1 hs hsc (by rw [h5 0 (by decide)]; exact h3) (fun k hk => hr k (by omega) (by omega) (by omega) (by omega) (by omega) (by omega)) (hC.2.2.2.2.1.cg (hr 56 (by decide) (by decide) (by decide) (by decide) (by decide) (by decide))) (hC.2.2.2.2.2.cg (hr 48 (by decide) (by decide) (by decide) (by decide) (by decide) (by decide)) (hr 49 (by decide) (by decide) (by decide) (by decide) (by decide) (by decide))), hM.hi (fun k (hk : 92 ≤ k) => hr k (by omega) (by omega) (by omega) (by omega) (by omega) (by omega)) (h4 97 (show 97 ≠ 44 ∧ 97 ≠ 54 ∧ ¬ (80 ≤ 97 ∧ 97 ≤ 91) by decide))⟩
theorem CRq.gc {a : Ce} {lc : List (Nat × Nat)} {lf : Nat → Nat} {gl : Nat → List Nat} {sn : Nat → Nat} {us : List Es} {mk : Mk} {tp : List Nat} {I J : Ints} {L : Lngs} {R T : Rfs} {c s : Nat} (h : CRq a lc lf gl sn c I J L R T) (hRo : RoC a lc lf J) (hs : isCel s) (hsc : s ≠ c) (h3 : R 0 3 = some s) (hC : GC a lc lf gl sn us mk tp I L R) (hM : GM a lc lf gl sn us mk tp I L) : GC a lc lf gl sn us mk tp J L T ∧ GM a lc lf gl sn us mk tp J L := by
  obtain ⟨h1, h2, h5⟩ := h
  have hc' : c = 2 ∨ c = 14 := h1.1
  have hr : ∀ k, k ≠ 13 → k ≠ 25 → ¬ (48 ≤ k ∧ k ≤ 53) → J k = I k := fun k a b e => h2 k ⟨e, by omega⟩
  exact ⟨hC.kp h1 hs hsc (by rw [h5 0 (by decide)]; exact h3) (fun k hk => hr k (by omega) (by omega) (by omega)) (hC.2.2.2.2.1.cg (hr 56 (by decide) (by decide) (by decide))) hRo, hM.hi (fun k (hk : 92 ≤ k) => hr k (by omega) (by omega) (by omega)) rfl⟩
theorem CB.gc {a : Ce} {lc : List (Nat × Nat)} {lf : Nat → Nat} {gl : Nat → List Nat} {sn : Nat → Nat} {us : List Es} {mk : Mk} {tp : List Nat} {I J : Ints} {L K : Lngs} {R T : Rfs} {c s : Nat} (h : CB a lc lf gl sn c I J L K R T) (hs : isCel s) (hsc : s ≠ c) (h3 : R 0 3 = some s) (hC : GC a lc lf gl sn us mk tp I L R) (hM : GM a lc lf gl sn us mk tp I L) : GC a lc lf gl sn us mk tp J K T ∧ GM a lc lf gl sn us mk tp J K := by
  obtain ⟨h1, h2, h4, h5, h6⟩ := h
  have hc' : c = 2 ∨ c = 14 := h1.1
  have hr : ∀ k, k ≠ 13 → k ≠ 25 → k ≠ 43 → k ≠ 56 → k ≠ 57 → ¬ (80 ≤ k ∧ k ≤ 91) → J k = I k := fun k a b e f g i => h2 k ⟨⟨by omega, e, i⟩, f, g⟩
  exact ⟨hC.kp h1 hs hsc (by rw [h5 0 (by decide)]; exact h3) (fun k hk => hr k (by omega) (by omega) (by omega) (by omega) (by omega) (by omega)) h6 (hC.2.2.2.2.2.cg (hr 48 (by decide) (by decide) (by decide) (by decide) (by decide) (by decide)) (hr 49 (by decide) (by decide) (by decide) (by decide) (by decide) (by decide))), hM.hi (fun k (hk : 92 ≤ k) => hr k (by omega) (by omega) (by omega) (by omega) (by omega) (by omega)) (h4 97 (show ¬ (80 ≤ 97 ∧ 97 ≤ 91) by decide))⟩
theorem CA.gc {a : Ce} {lc : List (Nat × Nat)} {lf : Nat → Nat} {gl : Nat → List Nat} {sn : Nat → Nat} {us us' : List Es} {mk : Mk} {tp : List Nat} {I J : Ints} {L : Lngs} {R : Rfs} {c s : Nat} {lf' : Nat → Nat} {gl' : Nat → List Nat} {sn' : Nat → Nat} (h : CA a lc lf' gl' sn' us' c I J L R) (hs : isCel s) (hsc : s ≠ c) (h3 : R 0 3 = some s) (hC : GC a lc lf gl sn us mk tp I L R) (hM : GM a lc lf gl sn us mk tp I L) : GC a lc lf' gl' sn' us' mk tp J L R ∧ GM a lc lf gl sn us mk tp J L := by
  obtain ⟨h1, h2, h4, h5, h6⟩ := h
  have hr : ∀ k, ¬ (34 ≤ k ∧ k ≤ 39) → k ≠ 43 → k ≠ 48 → k ≠ 56 → J k = I k := fun k a b e f => h6 k ⟨a, b, e, f⟩
  exact ⟨⟨⟨c, s, h1, hs, hsc, h3⟩, hC.2.1.cg (hr 0 (by decide) (by decide) (by decide) (by decide)) (hr 1 (by decide) (by decide) (by decide) (by decide)), h2, hC.2.2.2.1.cg (hr 41 (by decide) (by decide) (by decide) (by decide)) (fun k _ _ => hr k (by omega) (by omega) (by omega) (by omega)), Or.inl h4, Or.inl h5⟩, hM.hi (fun k (hk : 92 ≤ k) => hr k (by omega) (by omega) (by omega) (by omega)) rfl⟩
theorem pr_step {sx : Sx} {v : Int32} {kc ks : Nat} {I : Ints} {L : Lngs} {R : Rfs} {a : Ce} {lc : List (Nat × Nat)} {lf : Nat → Nat} {gl : Nat → List Nat} {sn : Nat → Nat} {us : List Es} {mk : Mk} {tp : List Nat} (hk : kc ≤ 601024 ∧ ks ≤ 7293034) (hv : VI sx v) (hN : NX sx v kc ks) (hC : GC a lc lf gl sn us mk tp I L R) (hM : GM a lc lf gl sn us mk tp I L) (hok : tpOk tp) : E0 mX11_step 99 sx [.ref 0, .int (sx.2 (v + 1).toNatClampNeg), .int (sx.2 (v + 2).toNatClampNeg)] I L R (fun r J K T => YK 601024 7293034 kc ks mL_law 100 sx 328 (lvw v) (r.toList ++ []) J K T Q1) := by
  obtain ⟨⟨c, s, hCC, hs, hsc, h3⟩, hT, hP, hK, hS, hR⟩ := id hC
  exact c_step hCC (RL_law_328 hk ⟨hv.1, hv.2.1, m_step hM.1.1 (fun J2 hF => RL_law_344 hk ⟨fun _ => hN _ _ _ _ _ _ _ _ _ _ _ (hC.lo (fq_lo hF) Kp.rf) (hM.q hF (fun _ => rfl)) hok, fun c => absurd rfl c⟩)⟩)
theorem pr_wine {sx : Sx} {v : Int32} {kc ks : Nat} {I : Ints} {L : Lngs} {R : Rfs} {a : Ce} {lc : List (Nat × Nat)} {lf : Nat → Nat} {gl : Nat → List Nat} {sn : Nat → Nat} {us : List Es} {mk : Mk} {tp : List Nat} (hk : kc ≤ 601024 ∧ ks ≤ 7293034) (hv : VI sx v) (hN : NX sx v kc ks) (hC : GC a lc lf gl sn us mk tp I L R) (hM : GM a lc lf gl sn us mk tp I L) (hok : tpOk tp) : E0 mX11_wine 99 sx [.ref 0, .int (sx.2 (v + 1).toNatClampNeg), .int (sx.2 (v + 2).toNatClampNeg)] I L R (fun r J K T => YK 601024 7293034 kc ks mL_law 100 sx 365 (lvw v) (r.toList ++ []) J K T Q1) := by
  obtain ⟨⟨c, s, hCC, hs, hsc, h3⟩, hT, hP, hK, hS, hR⟩ := id hC
  exact c_wine hCC (RL_law_365 hk ⟨hv.1, hv.2.1, m_wine hM.1.1 (fun J2 hF => RL_law_381 hk ⟨fun _ => hN _ _ _ _ _ _ _ _ _ _ _ (hC.lo (fq_lo hF) Kp.rf) (hM.q hF (fun _ => rfl)) hok, fun c => absurd rfl c⟩)⟩)
theorem pr_glass {sx : Sx} {v : Int32} {kc ks : Nat} {I : Ints} {L : Lngs} {R : Rfs} {a : Ce} {lc : List (Nat × Nat)} {lf : Nat → Nat} {gl : Nat → List Nat} {sn : Nat → Nat} {us : List Es} {mk : Mk} {tp : List Nat} (hk : kc ≤ 601024 ∧ ks ≤ 7293034) (hv : VI sx v) (hN : NX sx v kc ks) (hC : GC a lc lf gl sn us mk tp I L R) (hM : GM a lc lf gl sn us mk tp I L) (hok : tpOk tp) : E0 mX11_glass 99 sx [.ref 0, .int (sx.2 (v + 1).toNatClampNeg), .int (sx.2 (v + 2).toNatClampNeg)] I L R (fun r J K T => YK 601024 7293034 kc ks mL_law 100 sx 439 (lvw v) (r.toList ++ []) J K T Q1) := by
  obtain ⟨⟨c, s, hCC, hs, hsc, h3⟩, hT, hP, hK, hS, hR⟩ := id hC
  exact c_glass hCC (RL_law_439 hk ⟨hv.1, hv.2.1, m_glass hM.1.1 (fun J2 hF => RL_law_455 hk ⟨fun _ => hN _ _ _ _ _ _ _ _ _ _ _ (hC.lo (fq_lo hF) Kp.rf) (hM.q hF (fun _ => rfl)) hok, fun c => absurd rfl c⟩)⟩)
theorem pr_quarrel {sx : Sx} {v : Int32} {kc ks : Nat} {I : Ints} {L : Lngs} {R : Rfs} {a : Ce} {lc : List (Nat × Nat)} {lf : Nat → Nat} {gl : Nat → List Nat} {sn : Nat → Nat} {us : List Es} {mk : Mk} {tp : List Nat} (hk : kc ≤ 601024 ∧ ks ≤ 7293034) (hv : VI sx v) (hN : NX sx v kc ks) (hC : GC a lc lf gl sn us mk tp I L R) (hM : GM a lc lf gl sn us mk tp I L) (hok : tpOk tp) : E0 mX11_quarrel 99 sx [.ref 0, .int (sx.2 (v + 1).toNatClampNeg), .int (sx.2 (v + 2).toNatClampNeg)] I L R (fun r J K T => YK 601024 7293034 kc ks mL_law 100 sx 952 (lvw v) (r.toList ++ []) J K T Q1) := by
  obtain ⟨⟨c, s, hCC, hs, hsc, h3⟩, hT, hP, hK, hS, hR⟩ := id hC
  exact c_quarrel hCC (RL_law_952 hk ⟨hv.1, hv.2.1, m_quarrel hM.1.1 (fun J2 hF => RL_law_968 hk ⟨fun _ => hN _ _ _ _ _ _ _ _ _ _ _ (hC.lo (fq_lo hF) Kp.rf) (hM.q hF (fun _ => rfl)) hok, fun c => absurd rfl c⟩)⟩)
theorem pr_guest {sx : Sx} {v : Int32} {kc ks : Nat} {I : Ints} {L : Lngs} {R : Rfs} {a : Ce} {lc : List (Nat × Nat)} {lf : Nat → Nat} {gl : Nat → List Nat} {sn : Nat → Nat} {us : List Es} {mk : Mk} {tp : List Nat} (hk : kc ≤ 601024 ∧ ks ≤ 7293034) (hv : VI sx v) (hN : NX sx v kc ks) (hC : GC a lc lf gl sn us mk tp I L R) (hM : GM a lc lf gl sn us mk tp I L) (hok : tpOk tp) : E0 mX11_guest 99 sx [.ref 0, .int (sx.2 (v + 1).toNatClampNeg), .int (sx.2 (v + 2).toNatClampNeg)] I L R (fun r J K T => YK 601024 7293034 kc ks mL_law 100 sx 402 (lvw v) (r.toList ++ []) J K T Q1) := by
  obtain ⟨⟨c, s, hCC, hs, hsc, h3⟩, hT, hP, hK, hS, hR⟩ := id hC
  refine c_guest hCC (fun J K hQ => ?_)
  obtain ⟨hC2, hM2⟩ := CQ.gc hQ hs hsc h3 hC hM
  exact RL_law_402 hk ⟨hv.1, hv.2.1, m_guest hM2.1.1 (fun J2 hF => RL_law_418 hk ⟨fun _ => hN _ _ _ _ _ _ _ _ _ _ _ (hC2.lo (fq_lo hF) Kp.rf) (hM2.q hF (fun _ => rfl)) hok, fun c => absurd rfl c⟩)⟩
theorem pr_walk {sx : Sx} {v : Int32} {kc ks : Nat} {I : Ints} {L : Lngs} {R : Rfs} {a : Ce} {lc : List (Nat × Nat)} {lf : Nat → Nat} {gl : Nat → List Nat} {sn : Nat → Nat} {us : List Es} {mk : Mk} {tp : List Nat} (hk : kc ≤ 601024 ∧ ks ≤ 7293034) (hv : VI sx v) (hN : NX sx v kc ks) (hC : GC a lc lf gl sn us mk tp I L R) (hM : GM a lc lf gl sn us mk tp I L) (hok : tpOk tp) : E0 mX11_walk 99 sx [.ref 0, .int (sx.2 (v + 1).toNatClampNeg), .int (sx.2 (v + 2).toNatClampNeg)] I L R (fun r J K T => YK 601024 7293034 kc ks mL_law 100 sx 551 (lvw v) (r.toList ++ []) J K T Q1) := by
  obtain ⟨⟨c, s, hCC, hs, hsc, h3⟩, hT, hP, hK, hS, hR⟩ := id hC
  refine c_walk hCC (fun J K hQ => ?_)
  obtain ⟨hC2, hM2⟩ := CQ.gc hQ hs hsc h3 hC hM
  exact RL_law_551 hk ⟨hv.1, hv.2.1, m_walk hM2.1.1 (fun J2 hF => RL_law_567 hk ⟨fun _ => hN _ _ _ _ _ _ _ _ _ _ _ (hC2.lo (fq_lo hF) Kp.rf) (hM2.q hF (fun _ => rfl)) hok, fun c => absurd rfl c⟩)⟩
theorem pr_found {sx : Sx} {v : Int32} {kc ks : Nat} {I : Ints} {L : Lngs} {R : Rfs} {a : Ce} {lc : List (Nat × Nat)} {lf : Nat → Nat} {gl : Nat → List Nat} {sn : Nat → Nat} {us : List Es} {mk : Mk} {tp : List Nat} (hk : kc ≤ 601024 ∧ ks ≤ 7293034) (hv : VI sx v) (hN : NX sx v kc ks) (hC : GC a lc lf gl sn us mk tp I L R) (hM : GM a lc lf gl sn us mk tp I L) (hok : tpOk tp) : E0 mX11_found 99 sx [.ref 0, .int (sx.2 (v + 1).toNatClampNeg)] I L R (fun r J K T => YK 601024 7293034 kc ks mL_law 100 sx 983 (lvw v) (r.toList ++ []) J K T Q1) := by
  obtain ⟨⟨c, s, hCC, hs, hsc, h3⟩, hT, hP, hK, hS, hR⟩ := id hC
  refine c_found hCC (fun J K hQ => ?_)
  obtain ⟨hC2, hM2⟩ := CQ.gc hQ hs hsc h3 hC hM
  exact RL_law_983 hk ⟨hv.1, m_found hM2.1.1 (fun J2 hF => RL_law_993 hk ⟨fun _ => hN _ _ _ _ _ _ _ _ _ _ _ (hC2.lo (fq_lo hF) Kp.rf) (hM2.q hF (fun _ => rfl)) hok, fun c => absurd rfl c⟩)⟩
theorem pr_couples {sx : Sx} {v : Int32} {kc ks : Nat} {I : Ints} {L : Lngs} {R : Rfs} {a : Ce} {lc : List (Nat × Nat)} {lf : Nat → Nat} {gl : Nat → List Nat} {sn : Nat → Nat} {us : List Es} {mk : Mk} {tp : List Nat} (hk : kc ≤ 601024 ∧ ks ≤ 7293034) (hv : VI sx v) (hN : NX sx v kc ks) (hC : GC a lc lf gl sn us mk tp I L R) (hM : GM a lc lf gl sn us mk tp I L) (hok : tpOk tp) : E0 mX11_couples 99 sx [.ref 0, .int (sx.2 (v + 1).toNatClampNeg)] I L R (fun r J K T => YK 601024 7293034 kc ks mL_law 100 sx 921 (lvw v) (r.toList ++ []) J K T Q1) := by
  obtain ⟨⟨c, s, hCC, hs, hsc, h3⟩, hT, hP, hK, hS, hR⟩ := id hC
  refine c_couples hCC (fun J K hQ => ?_)
  obtain ⟨hC2, hM2⟩ := CSQ.gc hQ hs hsc h3 hC hM
  exact RL_law_921 hk ⟨hv.1, m_couples hM2.1.1 (fun J2 hF => RL_law_931 hk ⟨fun _ => hN _ _ _ _ _ _ _ _ _ _ _ (hC2.lo (fq_lo hF) Kp.rf) (hM2.q hF (fun _ => rfl)) hok, fun c => absurd rfl c⟩)⟩
theorem pr_ball {sx : Sx} {v : Int32} {kc ks : Nat} {I : Ints} {L : Lngs} {R : Rfs} {a : Ce} {lc : List (Nat × Nat)} {lf : Nat → Nat} {gl : Nat → List Nat} {sn : Nat → Nat} {us : List Es} {mk : Mk} {tp : List Nat} (hk : kc ≤ 601024 ∧ ks ≤ 7293034) (hv : VI sx v) (hN : NX sx v kc ks) (hC : GC a lc lf gl sn us mk tp I L R) (hM : GM a lc lf gl sn us mk tp I L) (hok : tpOk tp) : E0 mX11_ball 99 sx [.ref 0, .int (sx.2 (v + 1).toNatClampNeg), .int (sx.2 (v + 2).toNatClampNeg), .int (sx.2 (v + 3).toNatClampNeg)] I L R (fun r J K T => YK 601024 7293034 kc ks mL_law 100 sx 594 (lvw v) (r.toList ++ []) J K T Q1) := by
  obtain ⟨⟨c, s, hCC, hs, hsc, h3⟩, hT, hP, hK, hS, hR⟩ := id hC
  refine c_ball hCC (fun J K hQ => ?_)
  obtain ⟨hC2, hM2⟩ := CSQ.gc hQ hs hsc h3 hC hM
  exact RL_law_594 hk ⟨hv.1, hv.2.1, hv.2.2.1, m_ball hM2.1.1 (fun J2 K2 hF hLq => RL_law_616 hk ⟨fun _ => hN _ _ _ _ _ _ _ _ _ _ _ (hC2.lo (fq_lo hF) (lq_lo hLq)) (hM2.q hF (fun i => hLq 97 i (by omega))) hok, fun c => absurd rfl c⟩)⟩
theorem pr_read {sx : Sx} {v : Int32} {kc ks : Nat} {I : Ints} {L : Lngs} {R : Rfs} {a : Ce} {lc : List (Nat × Nat)} {lf : Nat → Nat} {gl : Nat → List Nat} {sn : Nat → Nat} {us : List Es} {mk : Mk} {tp : List Nat} (hk : kc ≤ 601024 ∧ ks ≤ 7293034) (hv : VI sx v) (hN : NX sx v kc ks) (hC : GC a lc lf gl sn us mk tp I L R) (hM : GM a lc lf gl sn us mk tp I L) (hok : tpOk tp) : E0 mX11_read 99 sx [.ref 0, .int (sx.2 (v + 1).toNatClampNeg)] I L R (fun r J K T => YK 601024 7293034 kc ks mL_law 100 sx 1057 (lvw v) (r.toList ++ []) J K T Q1) := by
  obtain ⟨⟨c, s, hCC, hs, hsc, h3⟩, hT, hP, hK, hS, hR⟩ := id hC
  refine c_read hCC (fun J T hQ => ?_)
  obtain ⟨hC2, hM2⟩ := CSQ.gc hQ hs hsc h3 hC hM
  exact RL_law_1057 hk ⟨hv.1, m_read hM2.1.1 (fun J2 hF => RL_law_1067 hk ⟨fun _ => hN _ _ _ _ _ _ _ _ _ _ _ (hC2.lo (fq_lo hF) Kp.rf) (hM2.q hF (fun _ => rfl)) hok, fun c => absurd rfl c⟩)⟩
theorem pr_dance {sx : Sx} {v : Int32} {kc ks : Nat} {I : Ints} {L : Lngs} {R : Rfs} {a : Ce} {lc : List (Nat × Nat)} {lf : Nat → Nat} {gl : Nat → List Nat} {sn : Nat → Nat} {us : List Es} {mk : Mk} {tp : List Nat} (hk : kc ≤ 601024 ∧ ks ≤ 7293034) (hv : VI sx v) (hN : NX sx v kc ks) (hC : GC a lc lf gl sn us mk tp I L R) (hM : GM a lc lf gl sn us mk tp I L) (hok : tpOk tp) : E0 mX11_dance 99 sx [.ref 0, .int (sx.2 (v + 1).toNatClampNeg), .int (sx.2 (v + 2).toNatClampNeg)] I L R (fun r J K T => YK 601024 7293034 kc ks mL_law 100 sx 1088 (lvw v) (r.toList ++ []) J K T Q1) := by
  obtain ⟨⟨c, s, hCC, hs, hsc, h3⟩, hT, hP, hK, hS, hR⟩ := id hC
  refine c_dance hCC (fun J T hQ => ?_)
  obtain ⟨hC2, hM2⟩ := CSQ.gc hQ hs hsc h3 hC hM
  exact RL_law_1088 hk ⟨hv.1, hv.2.1, m_dance hM2.1.1 (fun J2 hF => RL_law_1104 hk ⟨fun _ => hN _ _ _ _ _ _ _ _ _ _ _ (hC2.lo (fq_lo hF) Kp.rf) (hM2.q hF (fun _ => rfl)) hok, fun c => absurd rfl c⟩)⟩
theorem pr_best {sx : Sx} {v : Int32} {kc ks : Nat} {I : Ints} {L : Lngs} {R : Rfs} {a : Ce} {lc : List (Nat × Nat)} {lf : Nat → Nat} {gl : Nat → List Nat} {sn : Nat → Nat} {us : List Es} {mk : Mk} {tp : List Nat} (hk : kc ≤ 601024 ∧ ks ≤ 7293034) (hv : VI sx v) (hN : NX sx v kc ks) (hC : GC a lc lf gl sn us mk tp I L R) (hM : GM a lc lf gl sn us mk tp I L) (hok : tpOk tp) : E0 mX11_best 99 sx [.ref 0, .int (sx.2 (v + 1).toNatClampNeg)] I L R (fun r J K T => YK 601024 7293034 kc ks mL_law 100 sx 748 (lvw v) (r.toList ++ []) J K T Q1) := by
  obtain ⟨⟨c, s, hCC, hs, hsc, h3⟩, hT, hP, hK, hS, hR⟩ := id hC
  refine c_best hCC hS (fun J K T hQ => ?_)
  obtain ⟨hC2, hM2⟩ := CB.gc hQ hs hsc h3 hC hM
  exact RL_law_748 hk ⟨hv.1, m_best hM2.1.1 (fun J2 hF => RL_law_758 hk ⟨fun _ => hN _ _ _ _ _ _ _ _ _ _ _ (hC2.lo (fq_lo hF) Kp.rf) (hM2.q hF (fun _ => rfl)) hok, fun c => absurd rfl c⟩)⟩
theorem pr_fewest {sx : Sx} {v : Int32} {kc ks : Nat} {I : Ints} {L : Lngs} {R : Rfs} {a : Ce} {lc : List (Nat × Nat)} {lf : Nat → Nat} {gl : Nat → List Nat} {sn : Nat → Nat} {us : List Es} {mk : Mk} {tp : List Nat} (hk : kc ≤ 601024 ∧ ks ≤ 7293034) (hv : VI sx v) (hN : NX sx v kc ks) (hC : GC a lc lf gl sn us mk tp I L R) (hM : GM a lc lf gl sn us mk tp I L) (hok : tpOk tp) : E0 mX11_fewest 99 sx [.ref 0, .int (sx.2 (v + 1).toNatClampNeg), .int (sx.2 (v + 2).toNatClampNeg), .int (sx.2 (v + 3).toNatClampNeg), .int (sx.2 (v + 4).toNatClampNeg)] I L R (fun r J K T => YK 601024 7293034 kc ks mL_law 100 sx 649 (lvw v) (r.toList ++ []) J K T Q1) := by
  obtain ⟨⟨c, s, hCC, hs, hsc, h3⟩, hT, hP, hK, hS, hR⟩ := id hC
  refine c_fewest hCC hR (fun J T hQ hRo => ?_)
  obtain ⟨hC2, hM2⟩ := CRq.gc hQ hRo hs hsc h3 hC hM
  exact RL_law_649 hk ⟨hv.1, hv.2.1, hv.2.2.1, hv.2.2.2.1, m_fewest hM2.1.1 (fun J2 hF => RL_law_677 hk ⟨fun _ => hN _ _ _ _ _ _ _ _ _ _ _ (hC2.lo (fq_lo hF) Kp.rf) (hM2.q hF (fun _ => rfl)) hok, fun c => absurd rfl c⟩)⟩
theorem pr_served {sx : Sx} {v : Int32} {kc ks : Nat} {I : Ints} {L : Lngs} {R : Rfs} {a : Ce} {lc : List (Nat × Nat)} {lf : Nat → Nat} {gl : Nat → List Nat} {sn : Nat → Nat} {us : List Es} {mk : Mk} {tp : List Nat} (hk : kc ≤ 601024 ∧ ks ≤ 7293034) (hv : VI sx v) (hN : NX sx v kc ks) (hC : GC a lc lf gl sn us mk tp I L R) (hM : GM a lc lf gl sn us mk tp I L) (hok : tpOk tp) : E0 mX11_served 99 sx [.ref 0, .int (sx.2 (v + 1).toNatClampNeg), .int (sx.2 (v + 2).toNatClampNeg), .int (sx.2 (v + 3).toNatClampNeg), .int (sx.2 (v + 4).toNatClampNeg)] I L R (fun r J K T => YK 601024 7293034 kc ks mL_law 100 sx 791 (lvw v) (r.toList ++ []) J K T Q1) := by
  obtain ⟨⟨c, s, hCC, hs, hsc, h3⟩, hT, hP, hK, hS, hR⟩ := id hC
  refine c_served hCC (fun hn => ?_) (fun hy J T hQ h48 => ?_)
  · exact RL_law_791 hk ⟨hv.1, hv.2.1, hv.2.2.1, hv.2.2.2.1, m_served hM.1.1 (fun J2 hF => RL_law_819 hk ⟨fun _ => hN _ _ _ _ _ _ _ _ _ _ _ (hC.lo (fq_lo hF) Kp.rf) (hM.q hF (fun _ => rfl)) hok, fun c => absurd (Eq.symm (by unfold spServed; rw [if_neg hn])) c⟩)⟩
  · obtain ⟨hC2, hM2⟩ := CRq.gc hQ (Or.inl h48) hs hsc h3 hC hM
    exact RL_law_791 hk ⟨hv.1, hv.2.1, hv.2.2.1, hv.2.2.2.1, m_served hM2.1.1 (fun J2 hF => RL_law_819 hk ⟨fun _ => hN _ _ _ _ _ _ _ _ _ _ _ (hC2.lo (fq_lo hF) Kp.rf) (hM2.q hF (fun _ => rfl)) hok, fun c => absurd rfl c⟩)⟩
theorem pr_row {sx : Sx} {v : Int32} {kc ks : Nat} {I : Ints} {L : Lngs} {R : Rfs} {a : Ce} {lc : List (Nat × Nat)} {lf : Nat → Nat} {gl : Nat → List Nat} {sn : Nat → Nat} {us : List Es} {mk : Mk} {tp : List Nat} (hk : kc ≤ 601024 ∧ ks ≤ 7293034) (hv : VI sx v) (hN : NX sx v kc ks) (hC : GC a lc lf gl sn us mk tp I L R) (hM : GM a lc lf gl sn us mk tp I L) (hok : tpOk tp) : E0 mX11_row 99 sx [.ref 0, .int (sx.2 (v + 1).toNatClampNeg), .int (sx.2 (v + 2).toNatClampNeg), .int (sx.2 (v + 3).toNatClampNeg), .int (sx.2 (v + 4).toNatClampNeg), .int (sx.2 (v + 5).toNatClampNeg), .int (sx.2 (v + 6).toNatClampNeg)] I L R (fun r J K T => YK 601024 7293034 kc ks mL_law 100 sx 865 (lvw v) (r.toList ++ []) J K T Q1) := by
  obtain ⟨⟨c, s, hCC, hs, hsc, h3⟩, hT, hP, hK, hS, hR⟩ := id hC
  refine c_row hCC (fun hn => ?_) (fun hy J T hQ h48 => ?_)
  · exact RL_law_865 hk ⟨hv.1, hv.2.1, hv.2.2.1, hv.2.2.2.1, hv.2.2.2.2.1, hv.2.2.2.2.2, m_row hM.1.1 (fun J2 hF => RL_law_906 hk ⟨fun _ => hN _ _ _ _ _ _ _ _ _ _ _ (hC.lo (fq_lo hF) Kp.rf) (hM.q hF (fun _ => rfl)) hok, fun c => absurd (Eq.symm (by unfold spRow; rw [if_neg hn])) c⟩)⟩
  · obtain ⟨hC2, hM2⟩ := CRq.gc hQ (Or.inl h48) hs hsc h3 hC hM
    exact RL_law_865 hk ⟨hv.1, hv.2.1, hv.2.2.1, hv.2.2.2.1, hv.2.2.2.2.1, hv.2.2.2.2.2, m_row hM2.1.1 (fun J2 hF => RL_law_906 hk ⟨fun _ => hN _ _ _ _ _ _ _ _ _ _ _ (hC2.lo (fq_lo hF) Kp.rf) (hM2.q hF (fun _ => rfl)) hok, fun c => absurd rfl c⟩)⟩
theorem pr_count {sx : Sx} {v : Int32} {kc ks : Nat} {I : Ints} {L : Lngs} {R : Rfs} {a : Ce} {lc : List (Nat × Nat)} {lf : Nat → Nat} {gl : Nat → List Nat} {sn : Nat → Nat} {us : List Es} {mk : Mk} {tp : List Nat} (hk : kc ≤ 601024 ∧ ks ≤ 7293034) (hv : VI sx v) (hN : NX sx v kc ks) (hC : GC a lc lf gl sn us mk tp I L R) (hM : GM a lc lf gl sn us mk tp I L) (hok : tpOk tp) : E0 mX11_count 99 sx [.ref 0, .int (sx.2 (v + 1).toNatClampNeg)] I L R (fun r J K T => YK 601024 7293034 kc ks mL_law 100 sx 1172 (lvw v) (r.toList ++ []) J K T Q1) := by
  obtain ⟨⟨c, s, hCC, hs, hsc, h3⟩, hT, hP, hK, hS, hR⟩ := id hC
  exact c_count hCC hP.1 hP.2.1 hT.1 (RL_law_1172 hk ⟨hv.1, m_count hM.1.1 hM.1.2.2.2.1.1 hM.2.2.2.1 (fun J2 hF => RL_law_1182 hk ⟨fun _ => hN _ _ _ _ _ _ _ _ _ _ _ (hC.lo (fq_lo hF) Kp.rf) (hM.q hF (fun _ => rfl)) hok, fun c => absurd rfl c⟩)⟩)
theorem pr_pour {sx : Sx} {v : Int32} {kc ks : Nat} {I : Ints} {L : Lngs} {R : Rfs} {a : Ce} {lc : List (Nat × Nat)} {lf : Nat → Nat} {gl : Nat → List Nat} {sn : Nat → Nat} {us : List Es} {mk : Mk} {tp : List Nat} (hk : kc ≤ 601024 ∧ ks ≤ 7293034) (hv : VI sx v) (hN : NX sx v kc ks) (hC : GC a lc lf gl sn us mk tp I L R) (hM : GM a lc lf gl sn us mk tp I L) (hok : tpOk tp) : E0 mX11_pour 99 sx [.ref 0, .int (sx.2 (v + 1).toNatClampNeg), .int (sx.2 (v + 2).toNatClampNeg)] I L R (fun r J K T => YK 601024 7293034 kc ks mL_law 100 sx 476 (lvw v) (r.toList ++ []) J K T Q1) := by
  obtain ⟨⟨c, s, hCC, hs, hsc, h3⟩, hT, hP, hK, hS, hR⟩ := id hC
  refine c_pour hCC hP (fun hy J hQ => ?_) (fun hn => ?_)
  · obtain ⟨hC2, hM2⟩ := CA.gc hQ hs hsc h3 hC hM
    exact RL_law_476 hk ⟨hv.1, hv.2.1, m_pour hM2.1 (fun hy2 J2 hA hF => RL_law_492 hk ⟨fun _ => hN _ _ _ _ _ _ _ _ _ _ _ (hC2.lo (fa_lo hF) Kp.rf) (hM2.a hA hF) hok, fun c => absurd rfl c⟩) (fun hn => absurd hy hn)⟩
  · exact RL_law_476 hk ⟨hv.1, hv.2.1, m_pour hM.1 (fun hy => absurd hy hn) (fun _ J2 hF => RL_law_492 hk ⟨fun _ => hN _ _ _ _ _ _ _ _ _ _ _ (hC.lo (fq_lo hF) Kp.rf) (hM.q hF (fun _ => rfl)) hok, fun c => absurd rfl c⟩)⟩
theorem pr_water {sx : Sx} {v : Int32} {kc ks : Nat} {I : Ints} {L : Lngs} {R : Rfs} {a : Ce} {lc : List (Nat × Nat)} {lf : Nat → Nat} {gl : Nat → List Nat} {sn : Nat → Nat} {us : List Es} {mk : Mk} {tp : List Nat} (hk : kc ≤ 601024 ∧ ks ≤ 7293034) (hv : VI sx v) (hN : NX sx v kc ks) (hC : GC a lc lf gl sn us mk tp I L R) (hM : GM a lc lf gl sn us mk tp I L) (hok : tpOk tp) : E0 mX11_water 99 sx [.ref 0, .int (sx.2 (v + 1).toNatClampNeg)] I L R (fun r J K T => YK 601024 7293034 kc ks mL_law 100 sx 507 (lvw v) (r.toList ++ []) J K T Q1) := by
  obtain ⟨⟨c, s, hCC, hs, hsc, h3⟩, hT, hP, hK, hS, hR⟩ := id hC
  refine c_water hCC hP (fun hy J hQ => ?_) (fun hn => ?_)
  · obtain ⟨hC2, hM2⟩ := CA.gc hQ hs hsc h3 hC hM
    exact RL_law_507 hk ⟨hv.1, m_water hM2.1 (fun hy2 J2 hA hF => RL_law_517 hk ⟨fun _ => hN _ _ _ _ _ _ _ _ _ _ _ (hC2.lo (fa_lo hF) Kp.rf) (hM2.a hA hF) hok, fun c => absurd rfl c⟩) (fun hn => absurd hy hn)⟩
  · exact RL_law_507 hk ⟨hv.1, m_water hM.1 (fun hy => absurd hy hn) (fun _ J2 hF => RL_law_517 hk ⟨fun _ => hN _ _ _ _ _ _ _ _ _ _ _ (hC.lo (fq_lo hF) Kp.rf) (hM.q hF (fun _ => rfl)) hok, fun c => absurd rfl c⟩)⟩
theorem pr_see {sx : Sx} {v : Int32} {kc ks : Nat} {I : Ints} {L : Lngs} {R : Rfs} {a : Ce} {lc : List (Nat × Nat)} {lf : Nat → Nat} {gl : Nat → List Nat} {sn : Nat → Nat} {us : List Es} {mk : Mk} {tp : List Nat} (hk : kc ≤ 601024 ∧ ks ≤ 7293034) (hv : VI sx v) (hN : NX sx v kc ks) (hC : GC a lc lf gl sn us mk tp I L R) (hM : GM a lc lf gl sn us mk tp I L) (hok : tpOk tp) : E0 mX11_see 99 sx [.ref 0, .int (sx.2 (v + 1).toNatClampNeg), .int (sx.2 (v + 2).toNatClampNeg), .int (sx.2 (v + 3).toNatClampNeg)] I L R (fun r J K T => YK 601024 7293034 kc ks mL_law 100 sx 1020 (lvw v) (r.toList ++ []) J K T Q1) := by
  obtain ⟨⟨c, s, hCC, hs, hsc, h3⟩, hT, hP, hK, hS, hR⟩ := id hC
  refine c_see hCC (fun hy J hCC2 hQ => ?_) (fun hn => ?_)
  · have hC2 := hC.kp hCC2 hs hsc h3 (hQ.mn (fun k hk => by omega)) (hS.cg (hQ 56 (by decide))) (hR.cg (hQ 48 (by decide)) (hQ 49 (by decide)))
    have hM2 := hM.hi (hQ.mn (fun k (hk : 92 ≤ k) => by omega)) (rfl : L 97 = L 97)
    exact RL_law_1020 hk ⟨hv.1, hv.2.1, hv.2.2.1, m_see hM2.1 (fun hy2 J2 hA hF => RL_law_1042 hk ⟨fun _ => hN _ _ _ _ _ _ _ _ _ _ _ (hC2.lo (fa_lo hF) Kp.rf) (hM2.a hA hF) hok, fun c => absurd rfl c⟩) (fun hn => absurd hy hn)⟩
  · exact RL_law_1020 hk ⟨hv.1, hv.2.1, hv.2.2.1, m_see hM.1 (fun hy => absurd hy hn) (fun _ J2 hF => RL_law_1042 hk ⟨fun _ => hN _ _ _ _ _ _ _ _ _ _ _ (hC.lo (fq_lo hF) Kp.rf) (hM.q hF (fun _ => rfl)) hok, fun c => absurd rfl c⟩)⟩
theorem pr_undo {sx : Sx} {v : Int32} {kc ks : Nat} {I : Ints} {L : Lngs} {R : Rfs} {a : Ce} {lc : List (Nat × Nat)} {lf : Nat → Nat} {gl : Nat → List Nat} {sn : Nat → Nat} {us : List Es} {mk : Mk} {tp : List Nat} (hk : kc ≤ 601024 ∧ ks ≤ 7293034) (hv : VI sx v) (hN : NX sx v kc ks) (hC : GC a lc lf gl sn us mk tp I L R) (hM : GM a lc lf gl sn us mk tp I L) (hok : tpOk tp) : E0 mX11_undo 99 sx [.ref 0] I L R (fun r J K T => YK 601024 7293034 kc ks mL_law 100 sx 526 (lvw v) (r.toList ++ []) J K T Q1) := by
  obtain ⟨⟨c, s, hCC, hs, hsc, h3⟩, hT, hP, hK, hS, hR⟩ := id hC
  cases us with
  | nil => exact c_undo hCC hP hM.1.2.1 (fun p us' e => nomatch e) (fun _ => RL_law_526 hk (m_undo hM.1 (fun p us' e => nomatch e) (fun _ J2 hF => RL_law_530 hk ⟨fun _ => hN _ _ _ _ _ _ _ _ _ _ _ (hC.lo (fq_lo hF) Kp.rf) (hM.q hF (fun _ => rfl)) hok, fun c => absurd rfl c⟩)))
  | cons p0 us0 =>
    refine c_undo hCC hP hM.1.2.1 (fun p us' e J hQ => ?_) (fun e => nomatch e)
    cases e
    obtain ⟨hC2, hM2⟩ := CA.gc hQ hs hsc h3 hC hM
    refine RL_law_526 hk (m_undo hM2.1 (fun p us' e J2 hA hF => ?_) (fun e => nomatch e))
    cases e
    exact RL_law_530 hk ⟨fun _ => hN _ _ _ _ _ _ _ _ _ _ _ (hC2.lo (fa_lo hF) Kp.rf) (hM2.a hA hF) hok, fun c => absurd rfl c⟩
theorem pr_mark0 {sx : Sx} {v : Int32} {kc ks : Nat} {I : Ints} {L : Lngs} {R : Rfs} {a : Ce} {lc : List (Nat × Nat)} {lf : Nat → Nat} {gl : Nat → List Nat} {sn : Nat → Nat} {us : List Es} {mk : Mk} {tp : List Nat} (hk : kc ≤ 601024 ∧ ks ≤ 7293034) (hv : VI sx v) (hN : NX sx v kc ks) (hC : GC a lc lf gl sn us mk tp I L R) (hM : GM a lc lf gl sn us mk tp I L) (hok : tpOk tp) {x : Int32} (hx : sx.2 (v + 1).toNatClampNeg = x) (hy0 :  sx.2 (v + 2).toNatClampNeg = 0) : E0 mX11_mark 99 sx [.ref 0, .int x, .int (nI 0)] I L R (fun r J K T => YK 601024 7293034 kc ks mL_law 100 sx 1133 (lvw v) (r.toList ++ []) J K T Q1) := by
  obtain ⟨⟨c, s, hCC, hs, hsc, h3⟩, hT, hP, hK, hS, hR⟩ := id hC
  have hkw := hM.1.2.2.1
  refine c_mark (b := 0) hCC hP hK hkw (by decide) (fun e hx4 J hCC2 hK2 hQ => ?_) (fun e hx4 en hen J hQ => ?_) (fun hn => ?_)
  · have hC2 : GC a lc lf gl sn us (up1 mk x.toNatClampNeg (some ((lf, gl), sn))) tp J L R := ⟨⟨c, s, hCC2, hs, hsc, h3⟩, hT.cg (hQ 0 (by decide)) (hQ 1 (by decide)), hP.cg (hQ 38 (by decide)) (hQ 39 (by decide)), hK2, hS.cg (hQ 56 (by decide)), hR.cg (hQ 48 (by decide)) (hQ 49 (by decide))⟩
    have hM2 := hM.hi (hQ.mn (fun k (hk : 92 ≤ k) => ⟨by omega, by omega⟩)) (rfl : L 97 = L 97)
    refine RL_law_1133 hk ⟨hv.1, hv.2.1, fun _ => ?_, fun z => absurd hy0 z⟩
    rw [hx]
    exact m_mark (b := 0) hM2.1 (by decide) (fun _ _ J2 hA hF => RL_law_1157 hk ⟨fun _ => hN _ _ _ _ _ _ _ _ _ _ _ (hC2.lo (fa_lo hF) Kp.rf) (hM2.a hA hF) hok, fun c => absurd rfl c⟩) (fun e => absurd e (by decide)) (fun hn => absurd ⟨hx4, Or.inl rfl⟩ hn)
  · exact absurd e (by decide)
  · refine RL_law_1133 hk ⟨hv.1, hv.2.1, fun _ => ?_, fun z => absurd hy0 z⟩
    rw [hx]
    refine m_mark (b := 0) hM.1 (by decide) (fun e hx4 => ?_) (fun e hx4 e2 he2 => ?_) (fun _ J2 hF => RL_law_1157 hk ⟨fun _ => hN _ _ _ _ _ _ _ _ _ _ _ (hC.lo (fq_lo hF) Kp.rf) (hM.q hF (fun _ => rfl)) hok, fun c => absurd rfl c⟩)
    · exact absurd ⟨hx4, Or.inl e⟩ hn
    · exact absurd ⟨hx4, Or.inr (by rw [he2]; exact fun h => nomatch h)⟩ hn
theorem pr_mark1 {sx : Sx} {v : Int32} {kc ks : Nat} {I : Ints} {L : Lngs} {R : Rfs} {a : Ce} {lc : List (Nat × Nat)} {lf : Nat → Nat} {gl : Nat → List Nat} {sn : Nat → Nat} {us : List Es} {mk : Mk} {tp : List Nat} (hk : kc ≤ 601024 ∧ ks ≤ 7293034) (hv : VI sx v) (hN : NX sx v kc ks) (hC : GC a lc lf gl sn us mk tp I L R) (hM : GM a lc lf gl sn us mk tp I L) (hok : tpOk tp) {x : Int32} (hx : sx.2 (v + 1).toNatClampNeg = x) (hy0 : ¬ sx.2 (v + 2).toNatClampNeg = 0) : E0 mX11_mark 99 sx [.ref 0, .int x, .int (nI 1)] I L R (fun r J K T => YK 601024 7293034 kc ks mL_law 100 sx 1133 (lvw v) (r.toList ++ []) J K T Q1) := by
  obtain ⟨⟨c, s, hCC, hs, hsc, h3⟩, hT, hP, hK, hS, hR⟩ := id hC
  have hkw := hM.1.2.2.1
  refine c_mark (b := 1) hCC hP hK hkw (by decide) (fun e hx4 J hCC2 hK2 hQ => ?_) (fun e hx4 en hen J hQ => ?_) (fun hn => ?_)
  · exact absurd e (by decide)
  · obtain ⟨hC2, hM2⟩ := CA.gc hQ hs hsc h3 hC hM
    refine RL_law_1133 hk ⟨hv.1, hv.2.1, fun z => absurd z hy0, fun _ => ?_⟩
    rw [hx]
    refine m_mark (b := 1) hM2.1 (by decide) (fun e => absurd e (by decide)) (fun _ _ e2 he2 J2 hA hF => ?_) (fun hn => absurd ⟨hx4, Or.inr (by rw [hen]; exact fun h => nomatch h)⟩ hn)
    have ee : en = e2 := Option.some.inj (hen.symm.trans he2)
    subst ee
    exact RL_law_1157 hk ⟨fun _ => hN _ _ _ _ _ _ _ _ _ _ _ (hC2.lo (fa_lo hF) Kp.rf) (hM2.a hA hF) hok, fun c => absurd rfl c⟩
  · refine RL_law_1133 hk ⟨hv.1, hv.2.1, fun z => absurd z hy0, fun _ => ?_⟩
    rw [hx]
    refine m_mark (b := 1) hM.1 (by decide) (fun e hx4 => ?_) (fun e hx4 e2 he2 => ?_) (fun _ J2 hF => RL_law_1157 hk ⟨fun _ => hN _ _ _ _ _ _ _ _ _ _ _ (hC.lo (fq_lo hF) Kp.rf) (hM.q hF (fun _ => rfl)) hok, fun c => absurd rfl c⟩)
    · exact absurd ⟨hx4, Or.inl e⟩ hn
    · exact absurd ⟨hx4, Or.inr (by rw [he2]; exact fun h => nomatch h)⟩ hn
theorem pr_feed {sx : Sx} {v : Int32} {kc ks : Nat} {I : Ints} {L : Lngs} {R : Rfs} {a : Ce} {lc : List (Nat × Nat)} {lf : Nat → Nat} {gl : Nat → List Nat} {sn : Nat → Nat} {us : List Es} {mk : Mk} {tp : List Nat} (hk : kc ≤ 601024 ∧ ks ≤ 7293034) (hv : VI sx v) (hN : NX sx v kc ks) (hC : GC a lc lf gl sn us mk tp I L R) (hM : GM a lc lf gl sn us mk tp I L) (hok : tpOk tp) : E0 mX11_feed 99 sx [.ref 0, .long (((Int32.toInt64 (sx.2 (v + 1).toNatClampNeg)) <<< (Int32.toInt64 32 &&& 63)) ||| ((Int32.toInt64 (sx.2 (v + 2).toNatClampNeg)) &&& 4294967295)), .long (((Int32.toInt64 (sx.2 (v + 3).toNatClampNeg)) <<< (Int32.toInt64 32 &&& 63)) ||| ((Int32.toInt64 (sx.2 (v + 4).toNatClampNeg)) &&& 4294967295)), .long (((Int32.toInt64 (sx.2 (v + 5).toNatClampNeg)) <<< (Int32.toInt64 32 &&& 63)) ||| ((Int32.toInt64 (sx.2 (v + 6).toNatClampNeg)) &&& 4294967295))] I L R (fun r J K T => YK 601024 7293034 kc ks mL_law 100 sx 223 (lvw v) (r.toList ++ []) J K T Q1) := by
  obtain ⟨⟨c, s, hCC, hs, hsc, h3⟩, hT, hP, hK, hS, hR⟩ := id hC
  refine c_feed hok hT (fun J hT2 hF1 => ?_)
  have hr : ∀ k, k ≠ 0 → k ≠ 1 → J k = I k := fun k a b => funext fun i => hF1.ar k (by simp [Ne.symm b, b]) (by simp [Ne.symm a, a]) i
  have hCC2 : CC a lc lf gl sn c J L R := by
    have hc' : c = 2 ∨ c = 14 := hCC.1
    obtain ⟨x1, x2, x3, x4, x5, x6, x7⟩ := hCC
    refine ⟨x1, x2, x3, x4, x5.fr (fun k h1 h2 => hr k (by omega) (by omega)) rfl, x6.fr (fun k h1 h2 => hr k (by omega) (by omega)), fun g hg h0 => ?_⟩
    rw [hr 43 (by decide) (by decide)] at h0
    exact (x7 g hg h0).fr (hr _ (by omega) (by omega)) (hr _ (by omega) (by omega)) rfl
  have hC2 : GC a lc lf gl sn us mk _ J L R := ⟨⟨c, s, hCC2, hs, hsc, h3⟩, hT2, hP.cg (hr 38 (by decide) (by decide)) (hr 39 (by decide) (by decide)), hK.cg (hr 41 (by decide) (by decide)) (fun k _ _ => hr k (by omega) (by omega)), hS.cg (hr 56 (by decide) (by decide)), hR.cg (hr 48 (by decide) (by decide)) (hr 49 (by decide) (by decide))⟩
  have hM2 := hM.hi (fun k (hk : 92 ≤ k) => hr k (by omega) (by omega)) (rfl : L 97 = L 97)
  refine RL_law_223 hk ⟨hv.1, hv.2.1, hv.2.2.1, hv.2.2.2.1, hv.2.2.2.2.1, hv.2.2.2.2.2, m_feed hok hM2.2.2.2 (fun J2 hT3 hF => RL_law_294 hk ⟨fun _ => hN _ _ _ _ _ _ _ _ _ _ _ (hC2.lo (hF.lo (by decide) (by decide)) Kp.rf) ⟨?_, hM2.2.1, ?_, hT3⟩ (fdV_ok (fdV_ok (fdV_ok hok _) _) _), fun c => absurd rfl c⟩)⟩
  · exact hM2.1.cg (hF 92 22 rfl rfl) (funext (hF.ar 98 rfl rfl)) (funext (hF.ar 99 rfl rfl)) (funext (hF.ar 100 rfl rfl)) (funext (hF.ar 106 rfl rfl)) (funext (hF.ar 107 rfl rfl))
  · unfold FcM
    rw [hF.ar 103 rfl rfl, hF.ar 103 rfl rfl, hF.ar 103 rfl rfl, hF.ar 103 rfl rfl]
    exact hM2.2.2.1
theorem pr_cellar {sx : Sx} {v : Int32} {kc ks : Nat} {I : Ints} {L : Lngs} {R : Rfs} {a : Ce} {lc : List (Nat × Nat)} {lf : Nat → Nat} {gl : Nat → List Nat} {sn : Nat → Nat} {us : List Es} {mk : Mk} {tp : List Nat} (hk : kc ≤ 601024 ∧ ks ≤ 7293034) (hv : VI sx v) (hN : NX sx v kc ks) (hC : GC a lc lf gl sn us mk tp I L R) (hM : GM a lc lf gl sn us mk tp I L) (hok : tpOk tp) : E0 mX11_cellar 99 sx [.ref 0] I L R (fun r J K T => YK 601024 7293034 kc ks mL_law 100 sx 303 (lvw v) (r.toList ++ []) J K T Q1) := by
  obtain ⟨⟨c, s, hCC, hs, hsc, h3⟩, hT, hP, hK, hS, hR⟩ := id hC
  have htn : tpOk [] := ⟨Nat.zero_le _, fun x hx => nomatch hx⟩
  refine c_cellar hCC hs hsc h3 hT hok (fun v1 J K T e1 hCC2 h32 hT2 kI kL => RL_law_303 hk ?_) (fun i a' nm dn hc lc' J K T e1 hCC2 h32 hT2 p1 p2 p3 p4 kI kL => RL_law_303 hk ?_)
  · have hC2 : GC a lc lf gl sn us mk [] J K T := ⟨⟨c, s, hCC2, hs, hsc, h32⟩, hT2, hP.cg (kI 38 (by decide)) (kI 39 (by decide)), hK.cg (kI 41 (by decide)) (fun k _ _ => kI k ⟨by omega, by omega, by omega⟩), hS.cg (kI 56 (by decide)), hR.cg (kI 48 (by decide)) (kI 49 (by decide))⟩
    have hM2 := hM.hi (kI.mn (fun k (hk : 92 ≤ k) => ⟨by omega, by omega, by omega⟩)) (kL 97 (by decide))
    refine m_cellar hM2.1 hM2.2.1 hM2.2.2.1 hM2.2.2.2 hok (fun v2 J2 K2 e2 m1 m2 m3 m4 m5 m6 => RL_law_307 hk ⟨fun _ => hN _ _ _ _ _ _ _ _ _ _ _ (hC2.lo m5 m6) ⟨m1, m2, m3, m4⟩ htn, fun c => absurd ?_ c⟩) (fun i a' nm dn hc lc' J2 K2 e2 => ?_)
    · rw [e1] at e2
      rw [Sum.inl.inj e2]
    · rw [e1] at e2
      exact nomatch e2
  · have hM2 := hM.hi kI (kL 97 (by decide))
    refine m_cellar hM2.1 hM2.2.1 hM2.2.2.1 hM2.2.2.2 hok (fun v2 J2 K2 e2 => ?_) (fun i2 a2 nm2 dn2 hc2 lc2 J2 K2 e2 m1 m2 m3 m4 m5 m6 => ?_)
    · rw [e1] at e2
      exact nomatch e2
    · rw [e1] at e2
      cases e2
      have hC2 : GC a' lc' (fun w => (wG a' w).val) (fun _ => []) (fun _ => 0) [] (fun _ => none) [] J K T := ⟨⟨s, c, hCC2, hCC.1, Ne.symm hsc, h32⟩, hT2, ⟨p1, Nat.zero_le _, trivial⟩, fun m hm => Or.inl ⟨rfl, p2 m hm⟩, Or.inl p3, Or.inl p4⟩
      exact RL_law_307 hk ⟨fun _ => hN _ _ _ _ _ _ _ _ _ _ _ (hC2.lo m5 m6) ⟨m1, m2, m3, m4⟩ htn, fun c => absurd rfl c⟩
