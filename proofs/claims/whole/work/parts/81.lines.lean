/-! the lines of a cellar -/
abbrev Nm : Type := List (List Nat × Nat)
abbrev Ps : Type := Nat × Ce × Nm × List (List Nat) × Bool × Cd
abbrev Pr : Type := Nat ⊕ Ps
def fi (n : Nat) : Fin 128 := ⟨n % 128, Nat.mod_lt _ (by decide)⟩
theorem fi_v {n : Nat} (h : n < 128) : (fi n).val = n := Nat.mod_eq_of_lt h
def fnd : Nm → List Nat → Option Nat
  | [], _ => none
  | e :: l, w => if e.1 = w then some e.2 else fnd l w
theorem fnd_app : ∀ (nm : Nm) (w w' : List Nat) (t : Nat), fnd (nm ++ [(w, t)]) w' = match fnd nm w' with
    | some x => some x
    | none => if w = w' then some t else none
  | [], w, w', t => rfl
  | e :: l, w, w', t => by
    show (if e.1 = w' then some e.2 else fnd (l ++ [(w, t)]) w') = _
    by_cases h : e.1 = w'
    · rw [if_pos h]
      have : fnd (e :: l) w' = some e.2 := if_pos h
      rw [this]
    · rw [if_neg h, fnd_app l w w' t]
      have : fnd (e :: l) w' = fnd l w' := if_neg h
      rw [this]
def nmb (ts : List Tk) (lo hi i : Nat) (f : Nat → Pr) : Pr := if sK ts i = 31 then (if vK ts i < lo ∨ hi < vK ts i then .inl (fK ts 4 i) else f (vK ts i)) else .inl (fK ts 1 i)
def wrd (ts : List Tk) (s i : Nat) (f : Pr) : Pr := if sK ts i = s then f else .inl (fK ts 1 i)
def plc (ts : List Tk) (a : Ce) (tk : Nat → Bool) (i : Nat) (f : Nat → Pr) : Pr := nmb ts 0 ((a 0).val - 1) i (fun x => nmb ts 0 ((a 1).val - 1) (i + 1) (fun y => if tk (8 * y + x) = true then .inl (fK ts 3 (i + 1)) else f (8 * y + x)))
def newN (ts : List Tk) (nm : Nm) (tag i : Nat) (f : Nm → Pr) : Pr := if isN (sK ts i) then (if fnd nm (wK ts i) = none then f (nm ++ [(wK ts i, tag)]) else .inl (fK ts 3 i)) else .inl (fK ts 1 i)
def tak (a : Ce) (hc : Bool) (c : Nat) : Bool := clP a c || (hc && decide ((a 5).val = c)) || (List.range (a 4).val).any (fun g => decide ((gC a g).val = c))
def lnPil (ts : List Tk) (i : Nat) (a : Ce) (nm : Nm) (dn : List (List Nat)) (hc : Bool) (lc : Cd) : Pr := plc ts a (tak a hc) (i + 1) (fun c => wrd ts 59 (i + 3) (.inr (i + 4, up1 a (7 + c) 1, nm, dn, hc, lc)))
def lnCar (ts : List Tk) (i : Nat) (a : Ce) (nm : Nm) (dn : List (List Nat)) (hc : Bool) (lc : Cd) : Pr := if hc = true then .inl (fK ts 3 i) else plc ts a (clP a) (i + 1) (fun c => wrd ts 59 (i + 3) (.inr (i + 4, up1 a 5 (fi c), nm, dn, true, lc)))
abbrev isSt (s : Nat) : Prop := 12 ≤ s ∧ s ≤ 16
def stpF (ts : List Tk) (d : Nat) (f : Nat → Ce → Pr) : Nat → Nat → Nat → Ce → Pr
  | 0, i, _, _ => .inl (fK ts 1 i)
  | n + 1, i, s, a => if isSt (sK ts i) then (if s = 8 then .inl (fK ts 5 i) else stpF ts d f n (i + 1) (s + 1) (up1 (up1 a (72 + 9 * d + s) (fi (sK ts i - 12))) (71 + 9 * d) (fi (s + 1)))) else if s = 0 then .inl (fK ts 1 i) else f i a
def lnDan (ts : List Tk) (i : Nat) (a : Ce) (nm : Nm) (dn : List (List Nat)) (hc : Bool) (lc : Cd) : Pr := if (a 2).val = 6 then .inl (fK ts 5 i) else newN ts nm (a 2).val (i + 1) (fun nm' => stpF ts (a 2).val (fun j b => wrd ts 59 j (.inr (j + 1, up1 b 2 (fi ((a 2).val + 1)), nm', dn ++ [wK ts (i + 1)], hc, lc))) 9 (i + 2) 0 a)
def usd (a : Ce) (w k d : Nat) : Prop := ∃ j, j < k ∧ (wD a w j).val = d
def usb (a : Ce) (w k d : Nat) : Bool := (List.range k).any (fun j => decide ((wD a w j).val = d))
def prtF (ts : List Tk) (nm : Nm) (w : Nat) (f : Nat → Ce → Pr) : Nat → Nat → Nat → Ce → Pr
  | 0, i, _, _ => .inl (fK ts 1 i)
  | n + 1, i, k, a => if isN (sK ts i) then (match fnd nm (wK ts i) with
      | none => .inl (fK ts 2 i)
      | some d => if 6 ≤ d then .inl (fK ts 2 i) else if usb a w k d = true then .inl (fK ts 3 i) else if k = 3 then .inl (fK ts 5 i) else nmb ts 1 4 (i + 1) (fun t => prtF ts nm w f n (i + 2) (k + 1) (up1 (up1 (up1 a (127 + 8 * w + 2 * k) (fi d)) (128 + 8 * w + 2 * k) (fi t)) (126 + 8 * w) (fi (k + 1))))) else if k = 0 then .inl (fK ts 1 i) else f i a
def lnWin (ts : List Tk) (i : Nat) (a : Ce) (nm : Nm) (dn : List (List Nat)) (hc : Bool) (lc : Cd) : Pr := if (a 3).val = 6 then .inl (fK ts 5 i) else newN ts nm 100 (i + 1) (fun nm' => wrd ts 5 (i + 2) (nmb ts 0 99 (i + 3) (fun gl => wrd ts 6 (i + 4) (prtF ts nm' (a 3).val (fun j b => wrd ts 59 j (.inr (j + 1, up1 b 3 (fi ((a 3).val + 1)), nm', dn, hc, lc))) 4 (i + 5) 0 (up1 a (125 + 8 * (a 3).val) (fi gl))))))
abbrev isKd (s : Nat) : Prop := 17 ≤ s ∧ s ≤ 21
def setG (a : Ce) (g kd c wy ag : Nat) : Ce := up1 (up1 (up1 (up1 (up1 a (173 + 4 * g) (fi kd)) (174 + 4 * g) (fi c)) (175 + 4 * g) (fi wy)) (176 + 4 * g) (fi ag)) 4 (fi (g + 1))
def lnGue (ts : List Tk) (i : Nat) (a : Ce) (nm : Nm) (dn : List (List Nat)) (hc : Bool) (lc : Cd) : Pr := if (a 4).val = 6 then .inl (fK ts 5 i) else newN ts nm 100 (i + 1) (fun nm' => if isKd (sK ts (i + 2)) then wrd ts 8 (i + 3) (plc ts a (clP a) (i + 4) (fun c => wrd ts 9 (i + 6) (nmb ts 0 3 (i + 7) (fun wy => wrd ts 10 (i + 8) (nmb ts 0 99 (i + 9) (fun ag => wrd ts 59 (i + 10) (.inr (i + 11, setG a (a 4).val (sK ts (i + 2) - 17) c wy ag, nm', dn, hc, lc)))))))) else .inl (fK ts 1 (i + 2)))
def lnLaw (ts : List Tk) (i : Nat) (a : Ce) (nm : Nm) (dn : List (List Nat)) (hc : Bool) (lc : Cd) : Pr := if lc ≠ [] then .inl (fK ts 3 i) else match rgL ts (i + 1) with
  | .inl v => .inl v
  | .inr (j, c) => .inr (j, a, nm, dn, hc, c)
def lin1 (ts : List Tk) (st : Ps) : Pr := match st with
  | (i, a, nm, dn, hc, lc) => if sK ts i = 1 then lnPil ts i a nm dn hc lc else if sK ts i = 2 then lnCar ts i a nm dn hc lc else if sK ts i = 3 then lnDan ts i a nm dn hc lc else if sK ts i = 4 then lnWin ts i a nm dn hc lc else if sK ts i = 7 then lnGue ts i a nm dn hc lc else if sK ts i = 11 then lnLaw ts i a nm dn hc lc else .inl (fK ts 1 i)
def lins (ts : List Tk) : Nat → Ps → Pr
  | 0, st => .inr st
  | n + 1, st => if sK ts st.1 = 33 then .inr st else match lin1 ts st with
    | .inl v => .inl v
    | .inr st' => lins ts n st'
def a00 : Ce := fun _ => 0
def aHal (w d : Nat) : Ce := up1 (up1 a00 0 (fi w)) 1 (fi d)
def cellS (ts : List Tk) : Pr := wrd ts 0 0 (nmb ts 2 8 1 (fun w => nmb ts 2 8 2 (fun d => wrd ts 59 3 (lins ts 1000 (4, aHal w d, [], [], false, [])))))
/-! what they leave true -/
theorem nmb_inv {ts : List Tk} {lo hi i : Nat} {f : Nat → Pr} {st : Ps} (h : nmb ts lo hi i f = .inr st) : sK ts i = 31 ∧ lo ≤ vK ts i ∧ vK ts i ≤ hi ∧ f (vK ts i) = .inr st := by
  unfold nmb at h
  split at h
  · split at h
    · cases h
    · exact ⟨by assumption, by omega, by omega, h⟩
  · cases h
theorem wrd_inv {ts : List Tk} {s i : Nat} {f : Pr} {st : Ps} (h : wrd ts s i f = .inr st) : sK ts i = s ∧ f = .inr st := by
  unfold wrd at h
  split at h
  · exact ⟨by assumption, h⟩
  · cases h
theorem plc_inv {ts : List Tk} {a : Ce} {tk : Nat → Bool} {i : Nat} {f : Nat → Pr} {st : Ps} (h : plc ts a tk i f = .inr st) (h0 : 2 ≤ (a 0).val ∧ (a 0).val ≤ 8) (h1 : 2 ≤ (a 1).val ∧ (a 1).val ≤ 8) : ∃ c, (sK ts i = 31 ∧ sK ts (i + 1) = 31) ∧ (c < 64 ∧ c % 8 < (a 0).val ∧ c / 8 < (a 1).val) ∧ tk c = false ∧ f c = .inr st := by
  obtain ⟨k1, -, k2, h⟩ := nmb_inv h
  obtain ⟨l1, -, l2, h⟩ := nmb_inv h
  split at h
  · cases h
  · rename_i hn
    refine ⟨_, ⟨k1, l1⟩, ⟨by omega, by omega, by omega⟩, ?_, h⟩
    cases hc : tk (8 * vK ts (i + 1) + vK ts i) with
    | false => rfl
    | true => exact absurd hc hn
theorem newN_inv {ts : List Tk} {nm : Nm} {tag i : Nat} {f : Nm → Pr} {st : Ps} (h : newN ts nm tag i f = .inr st) : isN (sK ts i) ∧ fnd nm (wK ts i) = none ∧ f (nm ++ [(wK ts i, tag)]) = .inr st := by
  unfold newN at h
  split at h
  · split at h
    · exact ⟨by assumption, by assumption, h⟩
    · cases h
  · cases h
theorem ua_n {a : Ce} {k j : Nat} {v : Fin 128} (h : j ≠ k) : up1 a k v j = a j := up1_n _ _ h
theorem ua_h {a : Ce} {k j : Nat} {v : Fin 128} (h : j = k) : up1 a k v j = v := by rw [h]; exact up1_s _ _ _
theorem u_dL {a : Ce} {k d : Nat} {v : Fin 128} (h : 71 + 9 * d ≠ k) : dL (up1 a k v) d = dL a d := ua_n h
theorem u_dS {a : Ce} {k d s : Nat} {v : Fin 128} (h : 72 + 9 * d + s ≠ k) : dS (up1 a k v) d s = dS a d s := ua_n h
theorem u_wG {a : Ce} {k d : Nat} {v : Fin 128} (h : 125 + 8 * d ≠ k) : wG (up1 a k v) d = wG a d := ua_n h
theorem u_wM {a : Ce} {k d : Nat} {v : Fin 128} (h : 126 + 8 * d ≠ k) : wM (up1 a k v) d = wM a d := ua_n h
theorem u_wD {a : Ce} {k d s : Nat} {v : Fin 128} (h : 127 + 8 * d + 2 * s ≠ k) : wD (up1 a k v) d s = wD a d s := ua_n h
theorem u_wT {a : Ce} {k d s : Nat} {v : Fin 128} (h : 128 + 8 * d + 2 * s ≠ k) : wT (up1 a k v) d s = wT a d s := ua_n h
theorem u_gK {a : Ce} {k g : Nat} {v : Fin 128} (h : 173 + 4 * g ≠ k) : gK (up1 a k v) g = gK a g := ua_n h
theorem u_gC {a : Ce} {k g : Nat} {v : Fin 128} (h : 174 + 4 * g ≠ k) : gC (up1 a k v) g = gC a g := ua_n h
theorem u_gW {a : Ce} {k g : Nat} {v : Fin 128} (h : 175 + 4 * g ≠ k) : gW (up1 a k v) g = gW a g := ua_n h
theorem u_gA {a : Ce} {k g : Nat} {v : Fin 128} (h : 176 + 4 * g ≠ k) : gA (up1 a k v) g = gA a g := ua_n h
theorem h_dL {a : Ce} {k d : Nat} {v : Fin 128} (h : 71 + 9 * d = k) : dL (up1 a k v) d = v := ua_h h
theorem h_dS {a : Ce} {k d s : Nat} {v : Fin 128} (h : 72 + 9 * d + s = k) : dS (up1 a k v) d s = v := ua_h h
theorem h_wG {a : Ce} {k d : Nat} {v : Fin 128} (h : 125 + 8 * d = k) : wG (up1 a k v) d = v := ua_h h
theorem h_wM {a : Ce} {k d : Nat} {v : Fin 128} (h : 126 + 8 * d = k) : wM (up1 a k v) d = v := ua_h h
theorem h_wD {a : Ce} {k d s : Nat} {v : Fin 128} (h : 127 + 8 * d + 2 * s = k) : wD (up1 a k v) d s = v := ua_h h
theorem h_wT {a : Ce} {k d s : Nat} {v : Fin 128} (h : 128 + 8 * d + 2 * s = k) : wT (up1 a k v) d s = v := ua_h h
theorem h_gK {a : Ce} {k g : Nat} {v : Fin 128} (h : 173 + 4 * g = k) : gK (up1 a k v) g = v := ua_h h
theorem h_gC {a : Ce} {k g : Nat} {v : Fin 128} (h : 174 + 4 * g = k) : gC (up1 a k v) g = v := ua_h h
theorem h_gW {a : Ce} {k g : Nat} {v : Fin 128} (h : 175 + 4 * g = k) : gW (up1 a k v) g = v := ua_h h
theorem h_gA {a : Ce} {k g : Nat} {v : Fin 128} (h : 176 + 4 * g = k) : gA (up1 a k v) g = v := ua_h h
/-- what is 0 as yet -/
def Zr (a : Ce) : Prop := (∀ d, (a 2).val ≤ d → d < 6 → (dL a d).val = 0) ∧ (∀ d s, d < 6 → s < 8 → (dS a d s).val ≤ 4) ∧ ∀ w, (a 3).val ≤ w → w < 6 → (wM a w).val = 0
def NmOk (a : Ce) (nm : Nm) (dn : List (List Nat)) : Prop := nm.length = (a 2).val + (a 3).val + (a 4).val ∧ dn.length = (a 2).val ∧ (∀ k, k < nm.length → wOk (nm.getD k ([], 0)).1) ∧ (∀ d, d < dn.length → wOk (dn.getD d []) ∧ fnd nm (dn.getD d []) = some d) ∧ ∀ w t, fnd nm w = some t → t = 100 ∨ (t < dn.length ∧ w = dn.getD t [])
def lcOk (lc : Cd) : Prop := lc.length < 1000 ∧ (lc ≠ [] → okL lc 0)
def POk (ts : List Tk) (N : Nat) (st : Ps) : Prop := st.1 ≤ N ∧ WFc st.2.1 ∧ Zr st.2.1 ∧ NmOk st.2.1 st.2.2.1 st.2.2.2.1 ∧ lcOk st.2.2.2.2.2
theorem NmOk.eq {a b : Ce} {nm : Nm} {dn : List (List Nat)} (h : NmOk a nm dn) (h2 : (b 2).val = (a 2).val) (h3 : (b 3).val = (a 3).val) (h4 : (b 4).val = (a 4).val) : NmOk b nm dn := by
  unfold NmOk at *
  rw [h2, h3, h4]
  exact h
theorem lt_N {ts : List Tk} {N i : Nat} (hE : Ends ts N) (hi : i ≤ N) (h : sK ts i ≠ 33) : i < N := Nat.lt_of_le_of_ne hi (fun e => h (by rw [e]; exact hE.2.2.1))
theorem WFc.grow {a b : Ce} (hW : WFc a) (h0 : b 0 = a 0) (h1 : b 1 = a 1) (h5 : (b 5).val < 64) (hp : ∀ c, c < 64 → (b (7 + c)).val ≤ 1) (h2 : (a 2).val ≤ (b 2).val ∧ (b 2).val ≤ 6) (h3 : (b 3).val ≤ 6) (h4 : (b 4).val ≤ 6)
    (hd : ∀ d, d < (a 2).val → dL b d = dL a d ∧ ∀ s, s < 8 → dS b d s = dS a d s) (hd' : ∀ d, (a 2).val ≤ d → d < (b 2).val → 1 ≤ (dL b d).val ∧ (dL b d).val ≤ 8 ∧ ∀ s, s < 8 → (dS b d s).val ≤ 4)
    (hw : ∀ w, w < (a 3).val → wG b w = wG a w ∧ wM b w = wM a w ∧ ∀ k, k < 3 → wD b w k = wD a w k ∧ wT b w k = wT a w k) (hw' : ∀ w, (a 3).val ≤ w → w < (b 3).val → (wG b w).val ≤ 99 ∧ 1 ≤ (wM b w).val ∧ (wM b w).val ≤ 3 ∧ ∀ k, k < (wM b w).val → (wD b w k).val < (b 2).val ∧ 1 ≤ (wT b w k).val ∧ (wT b w k).val ≤ 4)
    (hg : ∀ g, g < (a 4).val → gK b g = gK a g ∧ gC b g = gC a g ∧ gW b g = gW a g ∧ gA b g = gA a g) (hg' : ∀ g, (a 4).val ≤ g → g < (b 4).val → (gK b g).val ≤ 4 ∧ ((gC b g).val < 64 ∧ (gC b g).val % 8 < (a 0).val ∧ (gC b g).val / 8 < (a 1).val) ∧ (gW b g).val ≤ 3 ∧ (gA b g).val ≤ 99)
    (hz : ∀ w, w < 6 → (b 3).val ≤ w → (wG b w).val = 0) : WFc b := by
  obtain ⟨w0, w1, w2, w3, w4, w5, w6, w7, w8, w9, w10⟩ := hW
  refine ⟨by rw [h0]; exact w0, by rw [h1]; exact w1, h2.2, h3, h4, h5, hp, fun d hdb => ?_, fun w hwb => ?_, fun g hgb => ?_, hz⟩
  · by_cases e : d < (a 2).val
    · obtain ⟨e1, e2⟩ := hd d e
      rw [e1]
      exact ⟨(w7 d e).1, (w7 d e).2.1, fun s hs => by rw [e2 s hs]; exact (w7 d e).2.2 s hs⟩
    · exact hd' d (by omega) hdb
  · by_cases e : w < (a 3).val
    · obtain ⟨e1, e2, e3⟩ := hw w e
      rw [e1, e2]
      have hh := w8 w e
      refine ⟨hh.1, hh.2.1, hh.2.2.1, fun k hk => ?_⟩
      rw [(e3 k (by omega)).1, (e3 k (by omega)).2]
      have := hh.2.2.2 k hk
      exact ⟨by omega, this.2⟩
    · exact hw' w (by omega) hwb
  · by_cases e : g < (a 4).val
    · obtain ⟨e1, e2, e3, e4⟩ := hg g e
      rw [e1, e2, e3, e4, h0, h1]
      exact w9 g e
    · rw [h0, h1]; exact hg' g (by omega) hgb
theorem pil_ok {ts : List Tk} {N i : Nat} {a : Ce} {nm : Nm} {dn : List (List Nat)} {hc : Bool} {lc : Cd} {st : Ps} (hE : Ends ts N) (hP : POk ts N (i, a, nm, dn, hc, lc)) (h1 : sK ts i ≠ 33) (h : lnPil ts i a nm dn hc lc = .inr st) : i < st.1 ∧ POk ts N st := by
  obtain ⟨(hi : i ≤ N), (hW : WFc a), (hZ : Zr a), (hN : NmOk a nm dn), (hl : lcOk lc)⟩ := hP
  obtain ⟨c, ⟨k1, k2⟩, ⟨hc1, -, -⟩, -, h⟩ := plc_inv h hW.1 hW.2.1
  obtain ⟨k3, h⟩ := wrd_inv h
  have e := Sum.inr.inj h
  subst e
  have i1 := lt_N hE hi h1
  have i2 := lt_N hE (show i + 1 ≤ N by omega) (by omega)
  have i3 := lt_N hE (show i + 1 + 1 ≤ N by omega) (by omega)
  have i4 := lt_N hE (show i + 3 ≤ N by omega) (by omega)
  have w2 := hW.2.2.1
  have w3 := hW.2.2.2.1
  have w4 := hW.2.2.2.2.1
  have x2 : up1 a (7 + c) 1 2 = a 2 := ua_n (by omega)
  have x3 : up1 a (7 + c) 1 3 = a 3 := ua_n (by omega)
  have x4 : up1 a (7 + c) 1 4 = a 4 := ua_n (by omega)
  refine ⟨by show i < i + 4; omega, by show i + 4 ≤ N; omega, ?_, ?_, ?_, hl⟩
  · show WFc (up1 a (7 + c) 1)
    refine hW.grow (ua_n (by omega)) (ua_n (by omega)) ?_ (fun c' hc' => ?_) ?_ ?_ ?_ (fun d hd => ⟨u_dL (by omega), fun s hs => u_dS (by omega)⟩) (fun d h1 h2 => ?_) (fun w hw => ⟨u_wG (by omega), u_wM (by omega), fun k hk => ⟨u_wD (by omega), u_wT (by omega)⟩⟩) (fun w h1 h2 => ?_) (fun g hg => ⟨u_gK (by omega), u_gC (by omega), u_gW (by omega), u_gA (by omega)⟩) (fun g h1 h2 => ?_) (fun w hw h3 => ?_)
    · rw [ua_n (by omega)]; exact hW.2.2.2.2.2.1
    · by_cases e : c' = c
      · rw [ua_h (by omega)]; decide
      · rw [ua_n (by omega)]; exact hW.2.2.2.2.2.2.1 c' hc'
    · rw [x2]; omega
    · rw [x3]; omega
    · rw [x4]; omega
    · rw [x2] at h2; omega
    · rw [x3] at h2; omega
    · rw [x4] at h2; omega
    · rw [x3] at h3; rw [u_wG (by omega)]; exact hW.2.2.2.2.2.2.2.2.2.2 w hw h3
  · show Zr (up1 a (7 + c) 1)
    refine ⟨fun d h2 hd => ?_, fun d s hd hs => ?_, fun w h3 hw => ?_⟩
    · rw [x2] at h2; rw [u_dL (by omega)]; exact hZ.1 d h2 hd
    · rw [u_dS (by omega)]; exact hZ.2.1 d s hd hs
    · rw [x3] at h3; rw [u_wM (by omega)]; exact hZ.2.2 w h3 hw
  · exact hN.eq (by show (up1 a (7 + c) 1 2).val = _; rw [x2]) (by show (up1 a (7 + c) 1 3).val = _; rw [x3]) (by show (up1 a (7 + c) 1 4).val = _; rw [x4])
theorem car_ok {ts : List Tk} {N i : Nat} {a : Ce} {nm : Nm} {dn : List (List Nat)} {hc : Bool} {lc : Cd} {st : Ps} (hE : Ends ts N) (hP : POk ts N (i, a, nm, dn, hc, lc)) (h1 : sK ts i ≠ 33) (h : lnCar ts i a nm dn hc lc = .inr st) : i < st.1 ∧ POk ts N st := by
  obtain ⟨(hi : i ≤ N), (hW : WFc a), (hZ : Zr a), (hN : NmOk a nm dn), (hl : lcOk lc)⟩ := hP
  unfold lnCar at h
  split at h
  · cases h
  obtain ⟨c, ⟨k1, k2⟩, ⟨hc1, -, -⟩, -, h⟩ := plc_inv h hW.1 hW.2.1
  obtain ⟨k3, h⟩ := wrd_inv h
  have e := Sum.inr.inj h
  subst e
  have i1 := lt_N hE hi h1
  have i2 := lt_N hE (show i + 1 ≤ N by omega) (by omega)
  have i3 := lt_N hE (show i + 1 + 1 ≤ N by omega) (by omega)
  have i4 := lt_N hE (show i + 3 ≤ N by omega) (by omega)
  have w2 := hW.2.2.1
  have w3 := hW.2.2.2.1
  have w4 := hW.2.2.2.2.1
  have x2 : up1 a 5 (fi c) 2 = a 2 := ua_n (by omega)
  have x3 : up1 a 5 (fi c) 3 = a 3 := ua_n (by omega)
  have x4 : up1 a 5 (fi c) 4 = a 4 := ua_n (by omega)
  refine ⟨by show i < i + 4; omega, by show i + 4 ≤ N; omega, ?_, ?_, ?_, hl⟩
  · show WFc (up1 a 5 (fi c))
    refine hW.grow (ua_n (by omega)) (ua_n (by omega)) ?_ (fun c' hc' => ?_) ?_ ?_ ?_ (fun d hd => ⟨u_dL (by omega), fun s hs => u_dS (by omega)⟩) (fun d h1 h2 => ?_) (fun w hw => ⟨u_wG (by omega), u_wM (by omega), fun k hk => ⟨u_wD (by omega), u_wT (by omega)⟩⟩) (fun w h1 h2 => ?_) (fun g hg => ⟨u_gK (by omega), u_gC (by omega), u_gW (by omega), u_gA (by omega)⟩) (fun g h1 h2 => ?_) (fun w hw h3 => ?_)
    · rw [up1_s, fi_v (by omega)]; exact hc1
    · rw [ua_n (by omega)]; exact hW.2.2.2.2.2.2.1 c' hc'
    · rw [x2]; omega
    · rw [x3]; omega
    · rw [x4]; omega
    · rw [x2] at h2; omega
    · rw [x3] at h2; omega
    · rw [x4] at h2; omega
    · rw [x3] at h3; rw [u_wG (by omega)]; exact hW.2.2.2.2.2.2.2.2.2.2 w hw h3
  · show Zr (up1 a 5 (fi c))
    refine ⟨fun d h2 hd => ?_, fun d s hd hs => ?_, fun w h3 hw => ?_⟩
    · rw [x2] at h2; rw [u_dL (by omega)]; exact hZ.1 d h2 hd
    · rw [u_dS (by omega)]; exact hZ.2.1 d s hd hs
    · rw [x3] at h3; rw [u_wM (by omega)]; exact hZ.2.2 w h3 hw
  · exact hN.eq (by show (up1 a 5 (fi c) 2).val = _; rw [x2]) (by show (up1 a 5 (fi c) 3).val = _; rw [x3]) (by show (up1 a 5 (fi c) 4).val = _; rw [x4])
def Agr (a b : Ce) (lo hi : Nat) : Prop := ∀ k, k < lo ∨ hi ≤ k → b k = a k
theorem isN_ne {s : Nat} (h : isN s) : s ≠ 33 ∧ s ≤ 30 := by unfold isN at h; omega
theorem stpF_ok {ts : List Tk} {N d : Nat} {f : Nat → Ce → Pr} {st : Ps} {a0 : Ce} (hE : Ends ts N) (hd : d < 6) : ∀ n i s a, i ≤ N → s ≤ 8 → Agr a0 a (71 + 9 * d) (80 + 9 * d) → (dL a d).val = s → (∀ s', s' < 8 → (dS a d s').val ≤ 4) → stpF ts d f n i s a = .inr st →
    ∃ j b, i ≤ j ∧ j ≤ N ∧ Agr a0 b (71 + 9 * d) (80 + 9 * d) ∧ 1 ≤ (dL b d).val ∧ (dL b d).val ≤ 8 ∧ (∀ s', s' < 8 → (dS b d s').val ≤ 4) ∧ f j b = .inr st := by
  intro n
  induction n with
  | zero => intro i s a _ _ _ _ _ h; cases h
  | succ n ih =>
    intro i s a hi hs hA hl h4 h
    unfold stpF at h
    split at h
    · rename_i hst
      split at h
      · cases h
      · have i1 := lt_N hE hi (by omega)
        have h4' : ∀ s', s' < 8 → (dS (up1 (up1 a (72 + 9 * d + s) (fi (sK ts i - 12))) (71 + 9 * d) (fi (s + 1))) d s').val ≤ 4 := fun s' hs' => by
          rw [u_dS (by omega)]
          by_cases e : s' = s
          · rw [h_dS (by omega), fi_v (by omega)]; omega
          · rw [u_dS (by omega)]; exact h4 s' hs'
        obtain ⟨j, b, k1, k2⟩ := ih (i + 1) (s + 1) _ (by omega) (by omega) (fun k hk => by rw [ua_n (by omega), ua_n (by omega)]; exact hA k hk) (by rw [h_dL rfl]; exact fi_v (by omega)) h4' h
        exact ⟨j, b, by omega, k2⟩
    · split at h
      · cases h
      · exact ⟨i, a, Nat.le_refl _, hi, hA, by omega, by omega, h4, h⟩
theorem NmOk.dance {a b : Ce} {nm : Nm} {dn : List (List Nat)} {w : List Nat} (h : NmOk a nm dn) (hw : wOk w) (hf : fnd nm w = none) (h2 : (b 2).val = (a 2).val + 1) (h26 : (a 2).val < 6) (h3 : (b 3).val = (a 3).val) (h4 : (b 4).val = (a 4).val) : NmOk b (nm ++ [(w, (a 2).val)]) (dn ++ [w]) := by
  obtain ⟨k1, k2, k3, k4, k5⟩ := h
  have hg : ∀ d, d < dn.length → (dn ++ [w]).getD d [] = dn.getD d [] := fun d hd => by simp only [List.getD_eq_getElem?_getD, List.getElem?_append_left hd]
  have hgl : (dn ++ [w]).getD dn.length [] = w := by simp
  refine ⟨by simp; omega, by simp; omega, fun k hk => ?_, fun d hd => ?_, fun w' t ht => ?_⟩
  · simp only [List.length_append, List.length_singleton] at hk
    by_cases e : k = nm.length
    · subst e; simp; exact hw
    · rw [List.getD_eq_getElem?_getD, List.getElem?_append_left (by omega), ← List.getD_eq_getElem?_getD]; exact k3 k (by omega)
  · simp only [List.length_append, List.length_singleton] at hd
    by_cases e : d = dn.length
    · subst e
      rw [hgl, fnd_app, hf]
      exact ⟨hw, by rw [k2]; exact if_pos rfl⟩
    · rw [hg d (by omega), fnd_app, (k4 d (by omega)).2]
      exact ⟨(k4 d (by omega)).1, rfl⟩
  · rw [fnd_app] at ht
    simp only [List.length_append, List.length_singleton]
    cases hx : fnd nm w' with
    | some x =>
      rw [hx] at ht
      have ht : x = t := Option.some.inj ht
      subst ht
      rcases k5 w' x hx with h | ⟨h, e⟩
      · exact Or.inl h
      · exact Or.inr ⟨by omega, by rw [hg x h]; exact e⟩
    | none =>
      rw [hx] at ht
      by_cases e : w = w'
      · have ht : (if w = w' then some (a 2).val else none) = some t := ht
        rw [if_pos e] at ht
        have ht : (a 2).val = t := Option.some.inj ht
        refine Or.inr ⟨by omega, ?_⟩
        rw [← ht, ← k2, hgl, e]
      · have ht : (if w = w' then some (a 2).val else none) = some t := ht
        rw [if_neg e] at ht
        cases ht
theorem NmOk.other {a b : Ce} {nm : Nm} {dn : List (List Nat)} {w : List Nat} (h : NmOk a nm dn) (hw : wOk w) (hf : fnd nm w = none) (h2 : (b 2).val = (a 2).val) (h34 : (b 3).val + (b 4).val = (a 3).val + (a 4).val + 1) : NmOk b (nm ++ [(w, 100)]) dn := by
  obtain ⟨k1, k2, k3, k4, k5⟩ := h
  refine ⟨by simp; omega, by omega, fun k hk => ?_, fun d hd => ?_, fun w' t ht => ?_⟩
  · simp only [List.length_append, List.length_singleton] at hk
    by_cases e : k = nm.length
    · subst e; simp; exact hw
    · rw [List.getD_eq_getElem?_getD, List.getElem?_append_left (by omega), ← List.getD_eq_getElem?_getD]; exact k3 k (by omega)
  · rw [fnd_app, (k4 d hd).2]
    exact ⟨(k4 d hd).1, rfl⟩
  · rw [fnd_app] at ht
    cases hx : fnd nm w' with
    | some x =>
      rw [hx] at ht
      have ht : x = t := Option.some.inj ht
      subst ht
      exact k5 w' x hx
    | none =>
      rw [hx] at ht
      by_cases e : w = w'
      · have ht : (if w = w' then some 100 else none) = some t := ht
        rw [if_pos e] at ht
        exact Or.inl (Option.some.inj ht).symm
      · have ht : (if w = w' then some 100 else none) = some t := ht
        rw [if_neg e] at ht
        cases ht
theorem dan_ok {ts : List Tk} {N i : Nat} {a : Ce} {nm : Nm} {dn : List (List Nat)} {hc : Bool} {lc : Cd} {st : Ps} (hT : TkOk ts) (hE : Ends ts N) (hP : POk ts N (i, a, nm, dn, hc, lc)) (h1 : sK ts i ≠ 33) (h : lnDan ts i a nm dn hc lc = .inr st) : i < st.1 ∧ POk ts N st := by
  obtain ⟨(hi : i ≤ N), (hW : WFc a), (hZ : Zr a), (hN : NmOk a nm dn), (hl : lcOk lc)⟩ := hP
  unfold lnDan at h
  split at h
  · cases h
  rename_i h26
  obtain ⟨n1, n2, h⟩ := newN_inv h
  have w2 := hW.2.2.1
  have w3 := hW.2.2.2.1
  have w4 := hW.2.2.2.2.1
  have i1 := lt_N hE hi h1
  have i2 := lt_N hE (show i + 1 ≤ N by omega) (isN_ne n1).1
  obtain ⟨j, b, j1, j2, hA, l1, l2, l3, h⟩ := stpF_ok (a0 := a) hE (show (a 2).val < 6 by omega) 9 (i + 2) 0 a (by omega) (by decide) (fun k _ => rfl) (hZ.1 _ (Nat.le_refl _) (by omega)) (fun s hs => hZ.2.1 _ s (by omega) hs) h
  obtain ⟨k3, h⟩ := wrd_inv h
  have e := Sum.inr.inj h
  subst e
  have i3 := lt_N hE j2 (by omega)
  have hA := fun k hk => hA k hk
  have x2 : (up1 b 2 (fi ((a 2).val + 1)) 2).val = (a 2).val + 1 := by rw [up1_s, fi_v (by omega)]
  have x3 : up1 b 2 (fi ((a 2).val + 1)) 3 = a 3 := by rw [ua_n (by omega)]; exact hA 3 (by omega)
  have x4 : up1 b 2 (fi ((a 2).val + 1)) 4 = a 4 := by rw [ua_n (by omega)]; exact hA 4 (by omega)
  have xn : ∀ k, k ≠ 2 → (k < 71 + 9 * (a 2).val ∨ 80 + 9 * (a 2).val ≤ k) → up1 b 2 (fi ((a 2).val + 1)) k = a k := fun k h2 hk => by rw [ua_n h2]; exact hA k hk
  refine ⟨by show i < j + 1; omega, by show j + 1 ≤ N; omega, ?_, ?_, ?_, hl⟩
  · show WFc (up1 b 2 (fi ((a 2).val + 1)))
    refine hW.grow (xn 0 (by omega) (by omega)) (xn 1 (by omega) (by omega)) ?_ (fun c' hc' => ?_) ?_ ?_ ?_ (fun d hd => ⟨xn _ (by omega) (by omega), fun s hs => xn _ (by omega) (by omega)⟩) (fun d h1 h2 => ?_) (fun w hw => ⟨xn _ (by omega) (by omega), xn _ (by omega) (by omega), fun k hk => ⟨xn _ (by omega) (by omega), xn _ (by omega) (by omega)⟩⟩) (fun w h1 h2 => ?_) (fun g hg => ⟨xn _ (by omega) (by omega), xn _ (by omega) (by omega), xn _ (by omega) (by omega), xn _ (by omega) (by omega)⟩) (fun g h1 h2 => ?_) (fun w hw h3 => ?_)
    · rw [xn 5 (by omega) (by omega)]; exact hW.2.2.2.2.2.1
    · rw [xn _ (by omega) (by omega)]; exact hW.2.2.2.2.2.2.1 c' hc'
    · rw [x2]; omega
    · rw [x3]; omega
    · rw [x4]; omega
    · rw [x2] at h2
      have ed : d = (a 2).val := by omega
      subst ed
      rw [u_dL (by omega)]
      refine ⟨l1, l2, fun s hs => ?_⟩
      rw [u_dS (by omega)]; exact l3 s hs
    · rw [x3] at h2; omega
    · rw [x4] at h2; omega
    · rw [x3] at h3
      rw [show wG (up1 b 2 (fi ((a 2).val + 1))) w = wG a w from xn _ (by omega) (by omega)]
      exact hW.2.2.2.2.2.2.2.2.2.2 w hw h3
  · show Zr (up1 b 2 (fi ((a 2).val + 1)))
    refine ⟨fun d h2 hd => ?_, fun d s hd hs => ?_, fun w h3 hw => ?_⟩
    · rw [x2] at h2
      rw [show dL (up1 b 2 (fi ((a 2).val + 1))) d = dL a d from xn _ (by omega) (by omega)]; exact hZ.1 d (by omega) hd
    · rw [u_dS (by omega)]
      by_cases e : d = (a 2).val
      · subst e; exact l3 s hs
      · rw [show dS b d s = dS a d s from hA _ (by omega)]; exact hZ.2.1 d s hd hs
    · rw [x3] at h3
      rw [show wM (up1 b 2 (fi ((a 2).val + 1))) w = wM a w from xn _ (by omega) (by omega)]; exact hZ.2.2 w h3 hw
  · exact hN.dance (wK_ok hT (by have := hE.2.1; omega) (isN_ne n1).2) n2 x2 (by omega) (by show (up1 b 2 (fi ((a 2).val + 1)) 3).val = _; rw [x3]) (by show (up1 b 2 (fi ((a 2).val + 1)) 4).val = _; rw [x4])
theorem prtF_ok {ts : List Tk} {N w : Nat} {nm : Nm} {f : Nat → Ce → Pr} {st : Ps} {a0 : Ce} (hE : Ends ts N) (hw : w < 6) (hn : ∀ u t, fnd nm u = some t → t = 100 ∨ t < (a0 2).val) : ∀ n i k a, i ≤ N → k ≤ 3 → Agr a0 a (125 + 8 * w) (133 + 8 * w) → (wM a w).val = k → (∀ j, j < k → (wD a w j).val < (a0 2).val ∧ 1 ≤ (wT a w j).val ∧ (wT a w j).val ≤ 4) → prtF ts nm w f n i k a = .inr st →
    ∃ j b, i ≤ j ∧ j ≤ N ∧ Agr a0 b (125 + 8 * w) (133 + 8 * w) ∧ wG b w = wG a w ∧ 1 ≤ (wM b w).val ∧ (wM b w).val ≤ 3 ∧ (∀ j, j < (wM b w).val → (wD b w j).val < (a0 2).val ∧ 1 ≤ (wT b w j).val ∧ (wT b w j).val ≤ 4) ∧ f j b = .inr st := by
  intro n
  induction n with
  | zero => intro i s a _ _ _ _ _ h; cases h
  | succ n ih =>
    intro i k a hi hk hA hl h4 h
    unfold prtF at h
    split at h
    · rename_i hst
      split at h
      · cases h
      · rename_i d hfd
        split at h
        · cases h
        rename_i h6
        split at h
        · cases h
        split at h
        · cases h
        rename_i hk3
        obtain ⟨m1, m2, m3, h⟩ := nmb_inv h
        have i1 := lt_N hE hi (isN_ne hst).1
        have i2 := lt_N hE (show i + 1 ≤ N by omega) (by omega)
        have hd : d < (a0 2).val := by rcases hn _ _ hfd with h | h <;> omega
        have h4' : ∀ j', j' < k + 1 → (wD (up1 (up1 (up1 a (127 + 8 * w + 2 * k) (fi d)) (128 + 8 * w + 2 * k) (fi (vK ts (i + 1)))) (126 + 8 * w) (fi (k + 1))) w j').val < (a0 2).val ∧ 1 ≤ (wT (up1 (up1 (up1 a (127 + 8 * w + 2 * k) (fi d)) (128 + 8 * w + 2 * k) (fi (vK ts (i + 1)))) (126 + 8 * w) (fi (k + 1))) w j').val ∧ (wT (up1 (up1 (up1 a (127 + 8 * w + 2 * k) (fi d)) (128 + 8 * w + 2 * k) (fi (vK ts (i + 1)))) (126 + 8 * w) (fi (k + 1))) w j').val ≤ 4 := fun j' hj' => by
          by_cases e : j' = k
          · subst e
            rw [u_wD (by omega), u_wD (by omega), h_wD rfl, u_wT (by omega), h_wT rfl, fi_v (by omega), fi_v (by omega)]
            exact ⟨hd, m2, m3⟩
          · rw [u_wD (by omega), u_wD (by omega), u_wD (by omega), u_wT (by omega), u_wT (by omega), u_wT (by omega)]
            exact h4 j' (by omega)
        obtain ⟨j, b, k1, k2, k3, k4, k5⟩ := ih (i + 2) (k + 1) _ (by omega) (by omega) (fun k' hk' => by rw [ua_n (by omega), ua_n (by omega), ua_n (by omega)]; exact hA k' hk') (by rw [h_wM rfl]; exact fi_v (by omega)) h4' h
        refine ⟨j, b, by omega, k2, k3, ?_, k5⟩
        rw [k4, u_wG (by omega), u_wG (by omega), u_wG (by omega)]
    · split at h
      · cases h
      · exact ⟨i, a, Nat.le_refl _, hi, hA, rfl, by omega, by omega, fun j hj => h4 j (by omega), h⟩
theorem win_ok {ts : List Tk} {N i : Nat} {a : Ce} {nm : Nm} {dn : List (List Nat)} {hc : Bool} {lc : Cd} {st : Ps} (hT : TkOk ts) (hE : Ends ts N) (hP : POk ts N (i, a, nm, dn, hc, lc)) (h1 : sK ts i ≠ 33) (h : lnWin ts i a nm dn hc lc = .inr st) : i < st.1 ∧ POk ts N st := by
  obtain ⟨(hi : i ≤ N), (hW : WFc a), (hZ : Zr a), (hN : NmOk a nm dn), (hl : lcOk lc)⟩ := hP
  unfold lnWin at h
  split at h
  · cases h
  rename_i h36
  obtain ⟨n1, n2, h⟩ := newN_inv h
  obtain ⟨s2, h⟩ := wrd_inv h
  obtain ⟨s3, -, v3, h⟩ := nmb_inv h
  obtain ⟨s4, h⟩ := wrd_inv h
  have w2 := hW.2.2.1
  have w3 := hW.2.2.2.1
  have w4 := hW.2.2.2.2.1
  have i1 := lt_N hE hi h1
  have i2 := lt_N hE (show i + 1 ≤ N by omega) (isN_ne n1).1
  have i3 := lt_N hE (show i + 2 ≤ N by omega) (by omega)
  have i4 := lt_N hE (show i + 3 ≤ N by omega) (by omega)
  have i5 := lt_N hE (show i + 4 ≤ N by omega) (by omega)
  have hN' := hN.other (b := up1 a 3 (fi ((a 3).val + 1))) (wK_ok hT (by have := hE.2.1; omega) (isN_ne n1).2) n2 (by rw [ua_n (by omega)]) (by rw [up1_s, ua_n (by omega), fi_v (by omega)]; omega)
  have hnm : ∀ u t, fnd (nm ++ [(wK ts (i + 1), 100)]) u = some t → t = 100 ∨ t < (a 2).val := fun u t ht => by
    rcases hN'.2.2.2.2 u t ht with h | h
    · exact Or.inl h
    · exact Or.inr (by have := hN.2.1; omega)
  obtain ⟨j, b, j1, j2, hA, hG, l1, l2, l3, h⟩ := prtF_ok (a0 := a) hE (show (a 3).val < 6 by omega) hnm 4 (i + 5) 0 _ (by omega) (by decide) (fun k hk => ua_n (by omega)) (by rw [u_wM (by omega)]; exact hZ.2.2 _ (Nat.le_refl _) (by omega)) (fun j hj => absurd hj (Nat.not_lt_zero _)) h
  obtain ⟨k3, h⟩ := wrd_inv h
  have e := Sum.inr.inj h
  subst e
  have i6 := lt_N hE j2 (by omega)
  have hA := fun k hk => hA k hk
  have x3 : (up1 b 3 (fi ((a 3).val + 1)) 3).val = (a 3).val + 1 := by rw [up1_s, fi_v (by omega)]
  have x2 : up1 b 3 (fi ((a 3).val + 1)) 2 = a 2 := by rw [ua_n (by omega)]; exact hA 2 (by omega)
  have x4 : up1 b 3 (fi ((a 3).val + 1)) 4 = a 4 := by rw [ua_n (by omega)]; exact hA 4 (by omega)
  have xn : ∀ k, k ≠ 3 → (k < 125 + 8 * (a 3).val ∨ 133 + 8 * (a 3).val ≤ k) → up1 b 3 (fi ((a 3).val + 1)) k = a k := fun k h2 hk => by rw [ua_n h2]; exact hA k hk
  refine ⟨by show i < j + 1; omega, by show j + 1 ≤ N; omega, ?_, ?_, ?_, hl⟩
  · show WFc (up1 b 3 (fi ((a 3).val + 1)))
    refine hW.grow (xn 0 (by omega) (by omega)) (xn 1 (by omega) (by omega)) ?_ (fun c' hc' => ?_) ?_ ?_ ?_ (fun d hd => ⟨xn _ (by omega) (by omega), fun s hs => xn _ (by omega) (by omega)⟩) (fun d h1 h2 => ?_) (fun w hw => ⟨xn _ (by omega) (by omega), xn _ (by omega) (by omega), fun k hk => ⟨xn _ (by omega) (by omega), xn _ (by omega) (by omega)⟩⟩) (fun w h1 h2 => ?_) (fun g hg => ⟨xn _ (by omega) (by omega), xn _ (by omega) (by omega), xn _ (by omega) (by omega), xn _ (by omega) (by omega)⟩) (fun g h1 h2 => ?_) (fun w hw h3 => ?_)
    · rw [xn 5 (by omega) (by omega)]; exact hW.2.2.2.2.2.1
    · rw [xn _ (by omega) (by omega)]; exact hW.2.2.2.2.2.2.1 c' hc'
    · rw [x2]; omega
    · rw [x3]; omega
    · rw [x4]; omega
    · rw [x2] at h2; omega
    · rw [x3] at h2
      have ed : w = (a 3).val := by omega
      subst ed
      rw [u_wG (by omega), u_wM (by omega), hG, h_wG rfl, fi_v (by omega), x2]
      refine ⟨v3, l1, l2, fun k hk => ?_⟩
      rw [u_wD (by omega), u_wT (by omega)]
      exact l3 k hk
    · rw [x4] at h2; omega
    · rw [x3] at h3
      rw [show wG (up1 b 3 (fi ((a 3).val + 1))) w = wG a w from xn _ (by omega) (by omega)]
      exact hW.2.2.2.2.2.2.2.2.2.2 w hw (by omega)
  · show Zr (up1 b 3 (fi ((a 3).val + 1)))
    refine ⟨fun d h2 hd => ?_, fun d s hd hs => ?_, fun w h3 hw => ?_⟩
    · rw [x2] at h2
      rw [show dL (up1 b 3 (fi ((a 3).val + 1))) d = dL a d from xn _ (by omega) (by omega)]; exact hZ.1 d (by omega) hd
    · rw [show dS (up1 b 3 (fi ((a 3).val + 1))) d s = dS a d s from xn _ (by omega) (by omega)]; exact hZ.2.1 d s hd hs
    · rw [x3] at h3
      rw [show wM (up1 b 3 (fi ((a 3).val + 1))) w = wM a w from xn _ (by omega) (by omega)]; exact hZ.2.2 w (by omega) hw
  · exact hN'.eq (by show (up1 b 3 (fi ((a 3).val + 1)) 2).val = _; rw [x2, ua_n (by omega)]) (by show (up1 b 3 (fi ((a 3).val + 1)) 3).val = _; rw [x3, up1_s, fi_v (by omega)]) (by show (up1 b 3 (fi ((a 3).val + 1)) 4).val = _; rw [x4, ua_n (by omega)])
theorem gue_ok {ts : List Tk} {N i : Nat} {a : Ce} {nm : Nm} {dn : List (List Nat)} {hc : Bool} {lc : Cd} {st : Ps} (hT : TkOk ts) (hE : Ends ts N) (hP : POk ts N (i, a, nm, dn, hc, lc)) (h1 : sK ts i ≠ 33) (h : lnGue ts i a nm dn hc lc = .inr st) : i < st.1 ∧ POk ts N st := by
  obtain ⟨(hi : i ≤ N), (hW : WFc a), (hZ : Zr a), (hN : NmOk a nm dn), (hl : lcOk lc)⟩ := hP
  unfold lnGue at h
  split at h
  · cases h
  rename_i h46
  obtain ⟨n1, n2, h⟩ := newN_inv h
  split at h
  rotate_left
  · cases h
  rename_i hkd
  obtain ⟨s3, h⟩ := wrd_inv h
  obtain ⟨c, ⟨k1, k2⟩, ⟨hc1, hc2, hc3⟩, -, h⟩ := plc_inv h hW.1 hW.2.1
  obtain ⟨s6, h⟩ := wrd_inv h
  obtain ⟨s7, -, v7, h⟩ := nmb_inv h
  obtain ⟨s8, h⟩ := wrd_inv h
  obtain ⟨s9, -, v9, h⟩ := nmb_inv h
  obtain ⟨s10, h⟩ := wrd_inv h
  have e := Sum.inr.inj h
  subst e
  have w2 := hW.2.2.1
  have w3 := hW.2.2.2.1
  have w4 := hW.2.2.2.2.1
  have i1 := lt_N hE hi h1
  have i2 := lt_N hE (show i + 1 ≤ N by omega) (isN_ne n1).1
  have i3 := lt_N hE (show i + 2 ≤ N by omega) (by omega)
  have i4 := lt_N hE (show i + 3 ≤ N by omega) (by omega)
  have i5 := lt_N hE (show i + 4 ≤ N by omega) (by omega)
  have i6 := lt_N hE (show i + 4 + 1 ≤ N by omega) (by omega)
  have i7 := lt_N hE (show i + 6 ≤ N by omega) (by omega)
  have i8 := lt_N hE (show i + 7 ≤ N by omega) (by omega)
  have i9 := lt_N hE (show i + 8 ≤ N by omega) (by omega)
  have i10 := lt_N hE (show i + 9 ≤ N by omega) (by omega)
  have i11 := lt_N hE (show i + 10 ≤ N by omega) (by omega)
  have xn : ∀ k, k ≠ 4 → (k < 173 + 4 * (a 4).val ∨ 177 + 4 * (a 4).val ≤ k) → setG a (a 4).val (sK ts (i + 2) - 17) c (vK ts (i + 7)) (vK ts (i + 9)) k = a k := fun k h2 hk => by unfold setG; rw [ua_n (by omega), ua_n (by omega), ua_n (by omega), ua_n (by omega), ua_n (by omega)]
  have x4 : (setG a (a 4).val (sK ts (i + 2) - 17) c (vK ts (i + 7)) (vK ts (i + 9)) 4).val = (a 4).val + 1 := by unfold setG; rw [up1_s, fi_v (by omega)]
  have x2 := xn 2 (by omega) (by omega)
  have x3 := xn 3 (by omega) (by omega)
  refine ⟨by show i < i + 11; omega, by show i + 11 ≤ N; omega, ?_, ?_, ?_, hl⟩
  · show WFc (setG a (a 4).val (sK ts (i + 2) - 17) c (vK ts (i + 7)) (vK ts (i + 9)))
    refine hW.grow (xn 0 (by omega) (by omega)) (xn 1 (by omega) (by omega)) ?_ (fun c' hc' => ?_) ?_ ?_ ?_ (fun d hd => ⟨xn _ (by omega) (by omega), fun s hs => xn _ (by omega) (by omega)⟩) (fun d h1 h2 => ?_) (fun w hw => ⟨xn _ (by omega) (by omega), xn _ (by omega) (by omega), fun k hk => ⟨xn _ (by omega) (by omega), xn _ (by omega) (by omega)⟩⟩) (fun w h1 h2 => ?_) (fun g hg => ⟨xn _ (by omega) (by omega), xn _ (by omega) (by omega), xn _ (by omega) (by omega), xn _ (by omega) (by omega)⟩) (fun g h1 h2 => ?_) (fun w hw h3 => ?_)
    · rw [xn 5 (by omega) (by omega)]; exact hW.2.2.2.2.2.1
    · rw [xn _ (by omega) (by omega)]; exact hW.2.2.2.2.2.2.1 c' hc'
    · rw [x2]; omega
    · rw [x3]; omega
    · rw [x4]; omega
    · rw [x2] at h2; omega
    · rw [x3] at h2; omega
    · rw [x4] at h2
      have eg : g = (a 4).val := by omega
      subst eg
      unfold setG
      (try simp (disch := omega) only [ua_n, u_dL, u_dS, u_wG, u_wM, u_wD, u_wT, u_gK, u_gC, u_gW, u_gA, h_dL, h_dS, h_wG, h_wM, h_wD, h_wT, h_gK, h_gC, h_gW, h_gA, up1_s])
      rw [fi_v (by omega), fi_v (by omega), fi_v (by omega), fi_v (by omega)]
      exact ⟨by omega, ⟨hc1, hc2, hc3⟩, v7, v9⟩
    · rw [x3] at h3
      rw [show wG (setG a (a 4).val (sK ts (i + 2) - 17) c (vK ts (i + 7)) (vK ts (i + 9))) w = wG a w from xn _ (by omega) (by omega)]
      exact hW.2.2.2.2.2.2.2.2.2.2 w hw h3
  · show Zr (setG a (a 4).val (sK ts (i + 2) - 17) c (vK ts (i + 7)) (vK ts (i + 9)))
    refine ⟨fun d h2 hd => ?_, fun d s hd hs => ?_, fun w h3 hw => ?_⟩
    · rw [x2] at h2
      rw [show dL (setG a (a 4).val (sK ts (i + 2) - 17) c (vK ts (i + 7)) (vK ts (i + 9))) d = dL a d from xn _ (by omega) (by omega)]; exact hZ.1 d (by omega) hd
    · rw [show dS (setG a (a 4).val (sK ts (i + 2) - 17) c (vK ts (i + 7)) (vK ts (i + 9))) d s = dS a d s from xn _ (by omega) (by omega)]; exact hZ.2.1 d s hd hs
    · rw [x3] at h3
      rw [show wM (setG a (a 4).val (sK ts (i + 2) - 17) c (vK ts (i + 7)) (vK ts (i + 9))) w = wM a w from xn _ (by omega) (by omega)]; exact hZ.2.2 w (by omega) hw
  · exact hN.other (wK_ok hT (by have := hE.2.1; omega) (isN_ne n1).2) n2 (by show (setG a (a 4).val (sK ts (i + 2) - 17) c (vK ts (i + 7)) (vK ts (i + 9)) 2).val = _; rw [x2]) (by show (setG a (a 4).val (sK ts (i + 2) - 17) c (vK ts (i + 7)) (vK ts (i + 9)) 3).val + (setG a (a 4).val (sK ts (i + 2) - 17) c (vK ts (i + 7)) (vK ts (i + 9)) 4).val = _; rw [x3, x4]; omega)
theorem law_ok1 {ts : List Tk} {N i : Nat} {a : Ce} {nm : Nm} {dn : List (List Nat)} {hc : Bool} {lc : Cd} {st : Ps} (hT : TkOk ts) (hE : Ends ts N) (hP : POk ts N (i, a, nm, dn, hc, lc)) (h1 : sK ts i ≠ 33) (h : lnLaw ts i a nm dn hc lc = .inr st) : i < st.1 ∧ POk ts N st := by
  obtain ⟨(hi : i ≤ N), (hW : WFc a), (hZ : Zr a), (hN : NmOk a nm dn), (hl : lcOk lc)⟩ := hP
  unfold lnLaw at h
  split at h
  · cases h
  have i1 := lt_N hE hi h1
  split at h
  · cases h
  · rename_i j c hr
    have e := Sum.inr.inj h
    subst e
    obtain ⟨⟨g1, g2, g3⟩, g4, g5⟩ := rgL_ok hT hE (by omega) hr
    have := hE.1
    exact ⟨by show i < j; omega, g2, hW, hZ, hN, by show c.length < 1000; omega, fun _ => g5⟩
theorem lin1_ok {ts : List Tk} {N : Nat} {st st' : Ps} (hT : TkOk ts) (hE : Ends ts N) (hP : POk ts N st) (h1 : sK ts st.1 ≠ 33) (h : lin1 ts st = .inr st') : st.1 < st'.1 ∧ POk ts N st' := by
  obtain ⟨i, a, nm, dn, hc, lc⟩ := st
  unfold lin1 at h
  dsimp only at h
  split at h
  · exact pil_ok hE hP h1 h
  split at h
  · exact car_ok hE hP h1 h
  split at h
  · exact dan_ok hT hE hP h1 h
  split at h
  · exact win_ok hT hE hP h1 h
  split at h
  · exact gue_ok hT hE hP h1 h
  split at h
  · exact law_ok1 hT hE hP h1 h
  · cases h
theorem hal_ok {ts : List Tk} {N w d : Nat} (hE : Ends ts N) (h0 : sK ts 0 = 0) (h1 : sK ts 1 = 31) (h2 : sK ts 2 = 31) (h3 : sK ts 3 = 59) (hw : 2 ≤ w ∧ w ≤ 8) (hd : 2 ≤ d ∧ d ≤ 8) : POk ts N (4, aHal w d, [], [], false, []) := by
  have i1 := lt_N hE (show 0 ≤ N by omega) (by omega)
  have i2 := lt_N hE (show 1 ≤ N by omega) (by omega)
  have i3 := lt_N hE (show 2 ≤ N by omega) (by omega)
  have i4 := lt_N hE (show 3 ≤ N by omega) (by omega)
  have x0 : (aHal w d 0).val = w := by unfold aHal; rw [ua_n (by omega), up1_s, fi_v (by omega)]
  have x1 : (aHal w d 1).val = d := by unfold aHal; rw [up1_s, fi_v (by omega)]
  have xn : ∀ k, 2 ≤ k → (aHal w d k).val = 0 := fun k hk => by unfold aHal; rw [ua_n (by omega), ua_n (by omega)]; rfl
  have x2 := xn 2 (by omega)
  have x3 := xn 3 (by omega)
  have x4 := xn 4 (by omega)
  refine ⟨by show 4 ≤ N; omega, ⟨by show 2 ≤ (aHal w d 0).val ∧ (aHal w d 0).val ≤ 8; omega, by show 2 ≤ (aHal w d 1).val ∧ (aHal w d 1).val ≤ 8; omega, by show (aHal w d 2).val ≤ 6; omega, by show (aHal w d 3).val ≤ 6; omega, by show (aHal w d 4).val ≤ 6; omega, by show (aHal w d 5).val < 64; rw [xn 5 (by omega)]; decide, fun c hc => by show (aHal w d (7 + c)).val ≤ 1; rw [xn _ (by omega)]; decide, fun d' hd' => ?_, fun w' hw' => ?_, fun g hg => ?_, fun w' _ _ => xn _ (by omega)⟩, ⟨fun d' _ _ => xn _ (by omega), fun d' s _ _ => ?_, fun w' _ _ => xn _ (by omega)⟩, ⟨?_, ?_, fun k hk => absurd hk (Nat.not_lt_zero _), fun d' hd' => absurd hd' (Nat.not_lt_zero _), fun u t ht => by cases ht⟩, show 0 < 1000 by decide, fun hh => absurd rfl hh⟩
  · have hd' : d' < (aHal w d 2).val := hd'
    omega
  · have hw' : w' < (aHal w d 3).val := hw'
    omega
  · have hg : g < (aHal w d 4).val := hg
    omega
  · show (aHal w d (72 + 9 * d' + s)).val ≤ 4
    rw [xn _ (by omega)]; decide
  · show 0 = (aHal w d 2).val + (aHal w d 3).val + (aHal w d 4).val
    omega
  · show 0 = (aHal w d 2).val
    omega
