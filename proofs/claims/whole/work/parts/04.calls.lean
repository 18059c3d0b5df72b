/-! calls -/
theorem W_call {p : Program} {l : Launch} {e : Env} {R : Room} {s : State} {m : MethodId} {args : Array Value} {below : List Frame} {meth : Method} {c : Code} {H : Heap} {locs : List Loc} {cells slots mc ms pc : Nat} {Q : State → Prop} {ls : Array Slot} {st0 rest : List Value} {Qa : State → Outcome → State → Prop} {free A : Nat → Prop}
    (hr : va_Run p l e R s m args below meth c H locs cells slots mc ms (F0 m pc ls st0) rest Qa free) (hS : va_S A s.heap H locs) (hf : ∀ q, free q → A q) (hF : ∀ st o t, Qa st o t → va_F A st t)
    (kk : ∀ (v : Option Value) (st t : State) (locs1 : List Loc), st.heap = H → s.vm.Alike t.vm → Qa st (.returned v) t → va_S A s.heap t.heap locs1 → W p l e R s m args below meth c t.heap locs1 (cells + mc) (slots + ms) Q (F0 m (pc + 3) ls (v.toList ++ rest))) : W p l e R s m args below meth c H locs cells slots Q (F0 m pc ls st0) := by
  intro T hT X
  obtain ⟨v, st₀, t, T', L, h0, X', hL, e1, e2, hq, st⟩ := hr T hT X
  obtain ⟨hz, hk⟩ := hF _ _ _ hq
  rw [h0] at hz hk
  obtain ⟨t2, a1, b1⟩ := kk v st₀ t (locs ++ L) h0 (by rw [← e2]; exact X'.warmed.alike) hq ⟨Nat.le_trans hS.1 hz, fun q h1 h2 => by rw [hk q (Nat.lt_of_lt_of_le h1 hS.1) h2]; exact hS.2.1 q h1 h2, fun q hq => by
      rcases List.mem_append.mp hq with h | h
      · exact hS.2.2 q h
      · exact hf _ (hL q h)⟩ T' e1 X'
  exact ⟨t2, st t2 a1, b1⟩
theorem W_size {p : Program} {l : Launch} {e : Env} {R : Room} {s : State} {m : MethodId} {args : Array Value} {below : List Frame} {meth : Method} {c : Code} {H : Heap} {locs : List Loc} {cells slots : Nat} {Q : State → Prop} {g : JFrame}
    (k : H.size ≤ s.heap.size + cells → W p l e R s m args below meth c H locs cells slots Q g) : W p l e R s m args below meth c H locs cells slots Q g := fun T hT X => k (by rw [← hT]; exact X.heapSize) T hT X
theorem wsW_le {g : Gv} {D : va_G} {ca : FieldType → ClassId} {S : List Shp} {I : Ints} {L : Lngs} {R : Rfs} {H : Heap} (hP : va_P D vwCl (wsW g ca S I L R) H) (hg : g.1 ≤ H.size) : g.1 + S.length ≤ H.size := by
  cases hS : S.length with
  | zero => simpa using hg
  | succ n =>
    have hs : S[n]? = some S[n] := List.getElem?_eq_getElem (by omega)
    have := (hP n _ (wsW_get hs)).lt
    show g.1 + (n + 1) ≤ H.size
    have h2 : g.1 + n < H.size := this
    omega
theorem BF.warm {g : Gv} {sx : Sx} {s U : State} {H : Heap} (h : BF g sx s s.heap) (hW : s.WarmedH U.vm) (hH : ∀ q, q < g.1 → H[q]? = s.heap[q]?) : BF g sx U H := by
  obtain ⟨s0, h1, h2, h3, h4, h5, h6, h7⟩ := h
  exact ⟨s0, h1, h2, h3, h4, h5, State.WarmedH.trans h6 hW, fun q hq => (hH q hq).trans (h7 q hq)⟩
theorem va_RA.back {u U : State} (hv : u.vm.Alike U.vm) {x : ClassId} {ty : FieldType} (h : va_RA U x ty) : va_RA u x ty := h.moved hv.symm
theorem EnvW.warm {g : Gv} {sx : Sx} {D : va_G} {ca : FieldType → ClassId} {S : List Shp} {s U : State} (h : EnvW g sx D ca S s) (hW : s.WarmedH U.vm) (hH : ∀ q, q < g.1 → U.heap[q]? = s.heap[q]?) : EnvW g sx D ca S U :=
  ⟨fun c q hq => u_Kn_moved hW.alike (h.1 c q hq), h.2.1.moved hW.alike, fun ty x hx => h.2.2.1 ty x (va_RA.back hW.alike hx), h.2.2.2.warm hW hH⟩
theorem EnvW.same {g : Gv} {sx : Sx} {D : va_G} {ca : FieldType → ClassId} {S : List Shp} {s U : State} (h : EnvW g sx D ca S s) (hv : U.vm = s.vm) (hH : U.heap = s.heap) : EnvW g sx D ca S U := by
  have ha : s.vm.Alike U.vm := by rw [hv]; exact Vm.Alike.refl s.vm
  refine ⟨fun c q hq => u_Kn_moved ha (h.1 c q hq), h.2.1.moved ha, fun ty x hx => h.2.2.1 ty x (va_RA.back ha hx), ?_⟩
  obtain ⟨s0, h1, h2, h3, h4, h5, h6, h7⟩ := h.2.2.2
  exact ⟨s0, h1, h2, h3, h4, h5, by rw [hv]; exact h6, by rw [hH]; exact h7⟩
def Pcx (sr : Sr) (sx : Sx) (al : Bool × Bool) (D : va_G) (g : Gv) (ca : FieldType → ClassId) (S : List Shp) (I : Ints) (L : Lngs) (R : Rfs) (U : State) : Prop := EnvW g sx D ca S U ∧ (∀ o k q, sr o k = some q → R o k = some q) ∧ g.1 ≤ U.heap.size ∧ va_P D vwCl (wsW g ca S I L R) U.heap ∧ (al.1 = true → U.heap.size = g.1 + S.length)
theorem Pcx_blind {sr : Sr} {sx : Sx} {al : Bool × Bool} {D : va_G} {g : Gv} {ca : FieldType → ClassId} {S : List Shp} {I : Ints} {L : Lngs} {R : Rfs} {av : List Value} : FrameBlind (va_Pc av (Pcx sr sx al D g ca S I L R)) := by
  intro a U gg mk q
  obtain ⟨q0, q1, q2, q3, q4, q5⟩ := q
  exact ⟨q0, q1.same rfl rfl, q2, q3, q4, q5⟩
theorem Pcx_at {mi : MI} {al al' : Bool × Bool} {kc : Nat} {sr : Sr} {sx : Sx} {S : List Shp} {ls : Lc} {I : Ints} {L : Lngs} {R : Rfs} {s : State} {D : va_G} {g : Gv} {ca : FieldType → ClassId} {H : Heap} {locs : List Loc} {lsA : Array Slot} (hc : CD mi.2.2.2.1 kc al sr sx S ls I L R s D g ca H locs lsA) (hz : H.size ≤ s.heap.size + kc) (h1 : al'.1 = true → al.1 = true) {U : State} (hU : U.heap = H) (hW : s.WarmedH U.vm) : Pcx sr sx al' D g ca S I L R U := by
  have hg : g.1 ≤ H.size := Nat.le_trans hc.2.2.1 hc.2.2.2.2.1.1
  refine ⟨hc.1.warm hW (fun q hq => ?_), hc.2.1, by rw [hU]; exact hg, by rw [hU]; exact hc.2.2.2.1, fun ha => ?_⟩
  · rw [hU]
    exact hc.2.2.2.2.1.2.1 q (Nat.lt_of_lt_of_le hq hc.2.2.1) (Nat.not_le.mpr hq)
  · have h1 := hc.2.2.2.2.2.1 (h1 ha)
    have h2 := wsW_le hc.2.2.2.1 hg
    rw [hU]
    omega
/-- the static words of an instance call, and of a static one -/
def MJ (mj : MI) (n : Nat) : Prop := Cond.code mj.2.1 mj.2.2.1 mj.2.2.2.1 mj.2.2.2.2 ∈ Ts ∧ Cond.initialized mj.2.1.cls ∈ Ts ∧ (mj.2.1.cls ≠ "java/lang/invoke/MethodHandle" ∧ mj.2.1.cls ≠ "java/lang/invoke/VarHandle" ∧ (parseMethodDescriptor mj.2.1.desc).map (fun d => d.parameters.length) = some n) ∧ mj.2.2.2.1 ≤ 80
def CVok (oc idx : Nat) (mj : MI) (n ci : Nat) : Prop := MJ mj n ∧ Cond.methodLink (rn oc) idx mj.2.1 ∈ Ts ∧ Cond.instanceMethod mj.2.1 ∈ Ts ∧ Cond.selects mj.2.1.cls mj.2.1 mj.2.1 ∈ Ts ∧ ∃ q, vwCl[ci]? = some q ∧ q.1 = mj.2.1.cls
def CTok (oc idx : Nat) (mj : MI) (n : Nat) : Prop := MJ mj n ∧ Cond.methodLink (rn oc) idx mj.2.1 ∈ Ts ∧ Cond.static mj.2.1 ∈ Ts
theorem callB_mj {R : Room} {s : State} {args : Array Value} {oc idx n d d' mc ms : Nat} {mj : MI} (hts : ∀ w ∈ Ts, w.before args s = true) (hm : MJ mj n) (hl : Cond.methodLink (rn oc) idx mj.2.1 ∈ Ts) (hd : d' + 1 ≤ d) (h1 : d ≤ R.frames) (h2 : 100 * d ≤ R.locals) :
    CallB R s args (rn oc) idx mj.2.1 mj.2.2.1 mj.2.2.2.1 mj.2.2.2.2 (.code mj.2.1 mj.2.2.1 mj.2.2.2.1 mj.2.2.2.2 :: Ts) (rmD d' mc ms) mc ms n := by
  refine callB_of (Ts := Ts) n hts (fun w hw => ?_) rfl rfl rfl (hts _ hm.2.1) (hts _ hl) hm.2.2.1 ⟨?_, ?_⟩
  · rcases List.mem_cons.mp hw with rfl | hw
    · exact tsG _ hm.1
    · exact tsG _ hw
  · show d' + 1 ≤ R.frames
    omega
  · show 8 + (mj.2.2.2.1 + 11) + 100 * d' ≤ R.locals
    have := hm.2.2.2
    omega
/-- what goes on behind a call -/
theorem W_back {mi : MI} {d mc ms mc' ms' : Nat} {al al' : Bool × Bool} {sr : Sr} {sx : Sx} {S : List Shp} {kc ks pc : Nat} {ls : Lc} {st : List Value} {I : Ints} {L : Lngs} {R : Rfs} {Q : Qt} {p : Program} {l : Launch} {e : Env} {Rm : Room} {s : State} {m : MethodId} {args : Array Value} {below : List Frame} {meth : Method} {c : Code} {D : va_G} {g : Gv} {ca : FieldType → ClassId} {H : Heap} {locs : List Loc} {lsA : Array Slot} {st0 : List Value} {av : Array Value}
    (hs : CS mi d mc ms p l Rm s m args meth c) (hc : CD mi.2.2.2.1 kc al sr sx S ls I L R s D g ca H locs lsA) (hz : H.size ≤ s.heap.size + kc) (hb : al.1 = true → al'.2 = true)
    (hr : va_Run p l e Rm s m args below meth c H locs kc ks mc' ms' (F0 m pc lsA st0) (st.map (cvV g)) (QQ g D ca al' mc' sr (fun r S I L R => X mi d mc ms al sr sx S (kc + mc') (ks + ms') (pc + 3) ls (r.toList ++ st) I L R Q) av) (fun q => g.1 ≤ q)) :
    W p l e Rm s m args below meth c H locs kc ks (MQ below (QQ g D ca al mc sr Q) args s mc ms (fun q => g.1 ≤ q)) (F0 m pc lsA st0) := by
  refine W_call hr hc.2.2.2.2.1 (fun q h => h) (fun st o t h => h.2) (fun v st2 t locs1 hst hv hq hS1 => ?_)
  obtain ⟨⟨r, S2, I2, L2, R2, e1, e2, e3, e4, e5, e6⟩, -⟩ := hq
  cases e1
  have hmap : (r.map (cvV g)).toList ++ st.map (cvV g) = (r.toList ++ st).map (cvV g) := by cases r <;> rfl
  rw [hmap]
  refine e2 p l e Rm s m args below meth c D g ca t.heap locs1 lsA hs ⟨⟨hc.1.1, e4.moved hv.symm, hc.1.2.2⟩, e5, hc.2.2.1, e3, hS1, fun ha => ?_, hc.2.2.2.2.2.2⟩
  have h1 := e6 (hb ha)
  have h2 := hc.2.2.2.2.2.1 ha
  have hg : g.1 ≤ H.size := Nat.le_trans hc.2.2.1 hc.2.2.2.2.1.1
  have h3 := wsW_le hc.2.2.2.1 hg
  rw [hst] at h1
  omega
theorem X_callV {mi : MI} {d mc ms : Nat} {al : Bool × Bool} {sr : Sr} {sx : Sx} {S : List Shp} {kc ks pc : Nat} {ls : Lc} {st : List Value} {I : Ints} {L : Lngs} {R : Rfs} {Q : Qt} {mj : MI} {d' mc' ms' idx n ci o : Nat} {as st0 : List Value} (hal : al.1 = al.2) (hw : CVok mi.1 idx mj n ci) (hn : as.length = n) (hst : st0 = as.reverse ++ .ref o :: st) (hS : S[o]? = some (Sum.inl ci)) (hcat : (st.map fun v => v.category).sum ≤ 8) (hdd : d' + 1 ≤ d) (hk1 : kc + mc' ≤ mc) (hk2 : ks + ms' ≤ ms) (hd : decode mi.2.2.1 pc = .ok (.invokevirtual idx, 3))
    (h : EV mj d' mc' ms' al sr sx S (.ref o :: as) I L R (fun r S I L R => X mi d mc ms al sr sx S (kc + mc') (ks + ms') (pc + 3) ls (r.toList ++ st) I L R Q)) : X mi d mc ms al sr sx S kc ks pc ls st0 I L R Q := by
  intro p l e Rm s m args below meth c D g ca H locs lsA hs hc
  refine W_size (fun hz => ?_)
  obtain ⟨hm, hl, hin, hse, q, hq1, hq2⟩ := hw
  refine W_back hs hc hz (fun z => hal ▸ z) (va_runV (As := as.map (cvV g)) (rest := st.map (cvV g)) (b := g.1 + o) (C := mj.2.1.cls) (n := n) (nL := mi.2.2.2.1) (Ts := Ts) (own := rn mi.1) ⟨hs.1, hs.2.1, hs.2.2.2.1, hs.2.2.2.2.1, hs.2.2.2.2.2.1⟩ (h l hs.2.2.2.2.2.2.2.2.2.2.2.2 D g ca) ⟨callB_mj hs.2.2.2.2.2.1 hm hl hdd hs.2.2.2.2.2.2.2.2.1 hs.2.2.2.2.2.2.2.2.2.1, hs.2.2.2.2.2.1 _ hin, hs.2.2.2.2.2.1 _ hse⟩ ⟨Pcx_blind, ?_, fun U hU hW => ⟨rfl, Pcx_at hc hz (fun z => z) hU hW⟩⟩ rfl (by simpa using hn) hc.2.2.2.2.2.2.1 ?_ (lv_room (by rw [cvV_sum]; exact hcat)) hd ⟨Nat.le_trans hk1 hs.2.2.2.2.2.2.2.2.2.2.1, Nat.le_trans hk2 hs.2.2.2.2.2.2.2.2.2.2.2.1⟩)
  · have := va_recv hc.1.K hc.2.2.2.1 hq1 (wsW_get hS)
    rw [hq2] at this
    exact this
  · rw [hst]
    simp [cvV]
theorem X_callS {mi : MI} {d mc ms : Nat} {al : Bool × Bool} {sr : Sr} {sx : Sx} {S : List Shp} {kc ks pc : Nat} {ls : Lc} {st : List Value} {I : Ints} {L : Lngs} {R : Rfs} {Q : Qt} {mj : MI} {d' mc' ms' idx n : Nat} {as st0 : List Value} (hal : al.1 = al.2) (hw : CTok mi.1 idx mj n) (hn : as.length = n) (hst : st0 = as.reverse ++ st) (hcat : (st.map fun v => v.category).sum ≤ 8) (hdd : d' + 1 ≤ d) (hk1 : kc + mc' ≤ mc) (hk2 : ks + ms' ≤ ms) (hd : decode mi.2.2.1 pc = .ok (.invokestatic idx, 3))
    (h : EV mj d' mc' ms' al sr sx S as I L R (fun r S I L R => X mi d mc ms al sr sx S (kc + mc') (ks + ms') (pc + 3) ls (r.toList ++ st) I L R Q)) : X mi d mc ms al sr sx S kc ks pc ls st0 I L R Q := by
  intro p l e Rm s m args below meth c D g ca H locs lsA hs hc
  refine W_size (fun hz => ?_)
  obtain ⟨hm, hl, hstt⟩ := hw
  refine W_back hs hc hz (fun z => hal ▸ z) (va_runS (As := as.map (cvV g)) (rest := st.map (cvV g)) (n := n) (nL := mi.2.2.2.1) (Ts := Ts) (own := rn mi.1) ⟨hs.1, hs.2.1, hs.2.2.2.1, hs.2.2.2.2.1, hs.2.2.2.2.2.1⟩ (h l hs.2.2.2.2.2.2.2.2.2.2.2.2 D g ca) ⟨callB_mj hs.2.2.2.2.2.1 hm hl hdd hs.2.2.2.2.2.2.2.2.1 hs.2.2.2.2.2.2.2.2.2.1, hs.2.2.2.2.2.1 _ hstt⟩ ⟨Pcx_blind, fun U hU hW => ⟨rfl, Pcx_at hc hz (fun z => z) hU hW⟩⟩ rfl (by simpa using hn) hc.2.2.2.2.2.2.1 ?_ (lv_room (by rw [cvV_sum]; exact hcat)) hd ⟨Nat.le_trans hk1 hs.2.2.2.2.2.2.2.2.2.2.1, Nat.le_trans hk2 hs.2.2.2.2.2.2.2.2.2.2.2.1⟩)
  rw [hst]
  simp
