/-! best, and the end of send, of the class -/
def bstS (a : Ce) (lc : List (Nat × Nat)) (gl : Nat → List Nat) : Bst := trS a (fun x => rt a lc x (gl x)) (a 4).val 0 0 0 (s0G a) (0, 0)
def SeC (a : Ce) (lc : List (Nat × Nat)) (gl : Nat → List Nat) (I : Ints) : Prop := I 56 0 = nI 0 ∨ BsC (bstS a lc gl) I
/-- behind a question that sends -/
def CB (a : Ce) (lc : List (Nat × Nat)) (lf : Nat → Nat) (gl : Nat → List Nat) (sn : Nat → Nat) (c : Nat) (I J : Ints) (L K : Lngs) (R T : Rfs) : Prop := CC a lc lf gl sn c J K T ∧ Kp (fun k => RP c k ∧ k ≠ 56 ∧ k ≠ 57) I J ∧ Kp LRP L K ∧ Kp (fun k => k ≠ 56) R T ∧ SeC a lc gl J
theorem CC.frt {a : Ce} {lc : List (Nat × Nat)} {lf : Nat → Nat} {gl : Nat → List Nat} {sn : Nat → Nat} {c : Nat} {I J : Ints} {L : Lngs} {R T : Rfs} (h : CC a lc lf gl sn c I L R) (hF : Kp (fun k => k ≠ 56 ∧ k ≠ 57) I J) (hT : Kp (fun k => k ≠ 56) R T) : CC a lc lf gl sn c J L T := by
  obtain ⟨hc, hR, hW, hE, hCl, hEv, hRt⟩ := h
  have hc' : c = 2 ∨ c = 14 := hc
  refine ⟨hc, by rw [hT 0 (by decide)]; exact hR, hW, hE, hCl.fr (fun k h1 h2 => hF k ⟨by omega, by omega⟩) rfl, hEv.fr (fun k h1 h2 => hF k ⟨by omega, by omega⟩), fun g hg h0 => ?_⟩
  rw [hF 43 (by decide)] at h0
  exact (hRt g hg h0).fr (hF _ ⟨by omega, by omega⟩) (hF _ ⟨by omega, by omega⟩) rfl
theorem seekBest_ok {d : Nat} {sx : Sx} {I : Ints} {L : Lngs} {R : Rfs} {q : Q3} {a : Ce} {lc : List (Nat × Nat)} {lf : Nat → Nat} {gl : Nat → List Nat} {sn : Nat → Nat} {c : Nat} (hC : CC a lc lf gl sn c I L R) (hfr : ∀ g, g < (a 4).val → I 43 g = nI 0) (hSe : SeC a lc gl I)
    (h : ∀ J T, CC a lc lf gl sn c J L T → Kp (fun k => k ≠ 56 ∧ k ≠ 57) I J → Kp (fun k => k ≠ 56) R T → BsC (bstS a lc gl) J → q none J L T) : E0 mX9_seekBest (d + (a 4).val + 7) sx [.ref 56, .ref c, .ref 42] I L R q := by
  have hCC := hC
  obtain ⟨hc, hR, hW, hE, hCl, hEv, hRt⟩ := hC
  have hRs : RsC a lc gl I L := fun g hg => hRt g hg (hfr g hg)
  refine EX9_seekBest hc ⟨fun c1 => ?_, fun c1 => ?_⟩
  · refine beginS_ok hc hW hCl (fun J hJ hF => RX9_seekBest_14 ?_)
    have hSR : SRf c (u2 (u2 R 56 3 (some c)) 56 4 (some 42)) := ⟨by rw [u2_kk _ _ _ _ (by decide), u2_ss], by rw [u2_ss]⟩
    have hT : Kp (fun k => k ≠ 56) R (u2 (u2 R 56 3 (some c)) 56 4 (some 42)) := (Kp.rf.up (by simp)).up (by simp)
    generalize u2 (u2 R 56 3 (some c)) 56 4 (some 42) = T at *
    have hF1 : FrT I (u2 (u2 J 56 1 (-1)) 56 2 0) := ⟨(hF.1.up (by simp)).up (by simp), fun i h6 h1 h2 => by rw [u2_kk _ _ _ _ h2, u2_kk _ _ _ _ h1]; exact hF.2 i h6⟩
    refine tryAll_ok (lf := lf) (sn := sn) (t := (0, 0)) hc hW hE (I0 := I) hCl hRs hSR (a 4).val d 0 0 0 (s0G a) _ _ (by omega) (by decide) (by decide) (by decide) (s0G_ok hW) (fun g hg _ => rfl) ⟨fun x hx => ?_, ?_⟩ ⟨?_, u2_ss _ _ _ _⟩ hF1 (fun K hK1 hK2 hK3 => RX9_seekBest_31 ?_)
    · rw [u2_nn _ _ _ _ (by decide), u2_nn _ _ _ _ (by decide)]; exact hJ.1 x hx
    · rw [u2_kk _ _ _ _ (by decide), u2_kk _ _ _ _ (by decide)]; exact hJ.2
    · rw [u2_kk _ _ _ _ (by decide), u2_ss]; rfl
    · have hFK : Kp (fun k => k ≠ 56 ∧ k ≠ 57) I (u2 K 56 0 1) := hK3.1.up (by simp)
      exact h _ T (hCC.frt hFK hT) hFK hT ⟨by rw [u2_kk _ _ _ _ (by decide)]; exact hK2.1, by rw [u2_kk _ _ _ _ (by decide)]; exact hK2.2⟩
  · rcases hSe with h0 | hB
    · exact absurd h0 c1
    · exact h I R hCC Kp.rf Kp.rf hB
def spBest (a : Ce) (lc : List (Nat × Nat)) (gl : Nat → List Nat) (x : Int32) : Int32 := if x = 0 then bgV (bstS a lc gl).1 else if x = 1 then nI (bstS a lc gl).2 else -1
theorem c_best {d : Nat} {sx : Sx} {I : Ints} {L : Lngs} {R : Rfs} {q : Q3} {a : Ce} {lc : List (Nat × Nat)} {lf : Nat → Nat} {gl : Nat → List Nat} {sn : Nat → Nat} {c : Nat} (hC : CC a lc lf gl sn c I L R) (hSe : SeC a lc gl I) {x : Int32} (h : ∀ J K T, CB a lc lf gl sn c I J L K R T → q (some (.int (spBest a lc gl x))) J K T) : E0 mX11_best (d + 14) sx [.ref 0, .int x] I L R q := by
  have hCC := hC
  obtain ⟨hc, hR, hW, hE, hCl, hEv, hRt⟩ := hC
  have hc' : c = 2 ∨ c = 14 := hc
  have w4 := hW.2.2.2.2.1
  have hgo : (x = 0 ∨ x = 1) → E0 mX11_readyRoutines (d + 13) sx [.ref 0] I L R (fun r J K T => Y mX11_best (d + 14) sx 15 [(0, .ref 0), (1, .int x)] (r.toList ++ []) J K T q) := by
    intro hx
    refine readyRoutines_ok hCC (fun J K j1 j2 j3 j4 => RX11_best_15 hc hR ?_)
    have e56 := j3 56 ⟨by omega, by omega, by omega⟩
    have hSJ : SeC a lc gl J := by
      rcases hSe with h0 | hB
      · exact Or.inl (by rw [e56]; exact h0)
      · exact Or.inr ⟨by rw [e56]; exact hB.1, by rw [e56]; exact hB.2⟩
    have hs := seekBest_ok (d := d + (6 - (a 4).val)) (sx := sx) (q := fun r J' K' T' => Y mX11_best (d + 14) sx 30 [(0, .ref 0), (1, .int x)] (r.toList ++ []) J' K' T' q) j1 j2 hSJ (fun M T m1 m2 m3 m4 => ?_)
    · rw [show d + (6 - (a 4).val) + (a 4).val + 7 = d + 13 by omega] at hs
      exact hs
    · have h := h M K T ⟨m1, (j3.mn (fun k hk => hk.1)).tr (m2.mn (fun k hk => hk.2)), j4, m3, Or.inr m4⟩
      unfold spBest at h
      refine RX11_best_30 ⟨fun cc => ?_, fun cc => ?_⟩
      · rw [if_neg cc, if_pos (hx.resolve_left cc)] at h
        rw [m4.2]
        exact h
      · rw [if_pos cc] at h
        rw [m4.1]
        exact h
  refine EX11_best ⟨fun c1 => hgo (Or.inl c1), fun c1 => ⟨fun c2 => hgo (Or.inr c2), fun c2 => ?_⟩⟩
  have h := h I L R ⟨hCC, Kp.rf, Kp.rf, Kp.rf, hSe⟩
  unfold spBest at h
  rw [if_neg c1, if_neg c2] at h
  exact h
theorem c_sendT {d : Nat} {sx : Sx} {I : Ints} {L : Lngs} {R : Rfs} {q : Q3} {a : Ce} {lc : List (Nat × Nat)} {lf : Nat → Nat} {gl : Nat → List Nat} {sn : Nat → Nat} {c : Nat} (hC : CC a lc lf gl sn c I L R) (hSe : SeC a lc gl I) {v : Int32} (hO : spO (a 4).val v) (h : ∀ J K T, CB a lc lf gl sn c I J L K R T → q (some (.int (spSend a lc gl v))) J K T) : YK 1 6 0 0 mX11_send (d + 8) sx 24 [(0, .ref 0), (1, .int v)] [] I L R q := by
  have hCC := hC
  obtain ⟨hc, hR, hW, hE, hCl, hEv, hRt⟩ := hC
  have hc' : c = 2 ∨ c = 14 := hc
  refine RX11_send_24 ⟨by decide, by decide⟩ (readyRoutines_ok hCC (fun J K j1 j2 j3 j4 => RX11_send_28 ⟨by decide, by decide⟩ hc hR ?_))
  have e56 := j3 56 ⟨by omega, by omega, by omega⟩
  obtain ⟨h3, h4⟩ := i32_nn hO.1
  have j1' := j1
  obtain ⟨_, _, _, _, k5, k6, k7⟩ := j1
  rw [h4]
  refine goneBy_ok (lf := lf) (sn := sn) hc hW hE k5 (fun g hg => k7 g hg (j2 g hg)) h3 hO.2 (fun M T hF hT => RX11_send_44 ⟨by decide, by decide⟩ ?_)
  refine h M K T ⟨j1'.frt hF.1 hT, (j3.mn (fun k hk => hk.1)).tr (hF.1.mn (fun k hk => hk.2)), j4, hT, ?_⟩
  rcases hSe with h0 | hB
  · exact Or.inl (by rw [hF.2 0 (by decide), e56]; exact h0)
  · exact Or.inr ⟨by rw [hF.2 1 (by decide), e56]; exact hB.1, by rw [hF.2 2 (by decide), e56]; exact hB.2⟩
