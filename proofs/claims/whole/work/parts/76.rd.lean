/-! the grammar of the law -/
abbrev Cd : Type := List (Nat × Nat)
abbrev Rs : Type := Nat ⊕ (Nat × Cd)
def sK (ts : List Tk) (i : Nat) : Nat := (ts.getD i eEnd).1
def pK (ts : List Tk) (i : Nat) : Nat := (ts.getD i eEnd).2.1
def wK (ts : List Tk) (i : Nat) : List Nat := (ts.getD i eEnd).2.2
def vK (ts : List Tk) (i : Nat) : Nat := pk 10 48 (ts.getD i eEnd).2.2
def fK (ts : List Tk) (k i : Nat) : Nat := k + 16 * pK ts i
def bnd (x : Rs) (f : Nat → Cd → Rs) : Rs := match x with
  | .inl v => .inl v
  | .inr (i, c) => f i c
def lpO (ts : List Tk) (sub : Nat → Rs) (op : Nat → Nat) : Nat → Nat → Cd → Rs
  | 0, i, c => .inr (i, c)
  | n + 1, i, c => if op (sK ts i) = 0 then .inr (i, c) else bnd (sub (i + 1)) (fun j e => lpO ts sub op n j (c ++ e ++ [(op (sK ts i), 0)]))
def chn (ts : List Tk) (sub : Nat → Rs) (op : Nat → Nat) (i : Nat) : Rs := bnd (sub i) (fun j c => lpO ts sub op 1001 j c)
def opM (s : Nat) : Nat := if s = 42 then 6 else 0
def opS (s : Nat) : Nat := if s = 43 then 4 else if s = 45 then 5 else 0
def opC (s : Nat) : Nat := if s = 60 then 7 else if s = 61 then 8 else 0
def opA (s : Nat) : Nat := if s = 23 then 9 else if s = 24 then 10 else 0
def rgS (ts : List Tk) (sub : Nat → Rs) : Nat → Rs := chn ts (chn ts sub opM) opS
def rgT (ts : List Tk) (sub : Nat → Rs) (i : Nat) : Rs := bnd (rgS ts sub i) (fun j c => if opC (sK ts j) = 0 then .inr (j, c) else bnd (rgS ts sub (j + 1)) (fun k e => .inr (k, c ++ e ++ [(opC (sK ts j), 0)])))
def rgA (ts : List Tk) (sub : Nat → Rs) : Nat → Rs := chn ts (rgT ts sub) opA
abbrev bgs (s : Nat) : Prop := s = 31 ∨ s = 22 ∨ s = 40 ∨ s = 10 ∨ (25 ≤ s ∧ s ≤ 27)
def fcn (s : Nat) : Nat := if s = 25 then 0 else if s = 26 then 1 else if s = 10 then 2 else 3
def opd (ts : List Tk) (i : Nat) : Nat × Nat := if sK ts i = 31 then (1, vK ts i) else (2, fcn (sK ts i))
def rgQ (ts : List Tk) : Nat → Nat → Rs
  | 0, i => if bgs (sK ts i) then .inl (fK ts 5 i) else .inl (fK ts 1 i)
  | r + 1, i =>
    if ¬ bgs (sK ts i) then .inl (fK ts 1 i)
    else if sK ts i = 22 then bnd (rgQ ts r (i + 1)) (fun j c => .inr (j, c ++ [(3, 0)]))
    else if sK ts i = 40 then bnd (rgA ts (rgQ ts r) (i + 1)) (fun j c => if sK ts j = 41 then .inr (j + 1, c) else .inl (fK ts 1 j))
    else .inr (i + 1, [opd ts i])
theorem bnd_l {x : Rs} {f : Nat → Cd → Rs} {v : Nat} (h : x = .inl v) : bnd x f = .inl v := by rw [h]; rfl
theorem bnd_r {x : Rs} {f : Nat → Cd → Rs} {j : Nat} {c : Cd} (h : x = .inr (j, c)) : bnd x f = f j c := by rw [h]; rfl
theorem bnd_cs {x : Rs} {f : Nat → Cd → Rs} {y : Rs} (h : bnd x f = y) : (∃ v, x = .inl v ∧ y = .inl v) ∨ ∃ j c, x = .inr (j, c) ∧ f j c = y := by
  match x, h with
  | .inl v, h => exact Or.inl ⟨v, rfl, h.symm⟩
  | .inr (j, c), h => exact Or.inr ⟨j, c, rfl, h⟩
theorem inr_inj {j j' : Nat} {c c' : Cd} (h : (Sum.inr (j, c) : Rs) = .inr (j', c')) : j = j' ∧ c = c' := by
  have := Sum.inr.inj h
  exact ⟨congrArg Prod.fst this, congrArg Prod.snd this⟩
/-- N is the end's place -/
def Ends (ts : List Tk) (N : Nat) : Prop := N ≤ 1000 ∧ ts.length = N + 1 ∧ sK ts N = 33 ∧ ∀ i, i < N → sK ts i ≠ 33
theorem TkOk.ends {ts : List Tk} (h : TkOk ts) : Ends ts (ts.length - 1) := by
  obtain ⟨h1, h2, h3⟩ := h
  refine ⟨by omega, by omega, (h3 _ (by omega)).2.mpr (by omega), fun i hi e => ?_⟩
  have := (h3 i (by omega)).2.mp e
  omega
def Good (N D : Nat) (sub : Nat → Rs) : Prop := ∀ i, i ≤ N → ∀ j c, sub i = .inr (j, c) → (i < j ∧ j ≤ N ∧ c.length + i ≤ j) ∧ c ≠ [] ∧ ∀ n rest, n + D < 60 → okL rest (n + 1) → okL (c ++ rest) n
theorem lpO_good {ts : List Tk} {N D : Nat} {sub : Nat → Rs} {op : Nat → Nat} (hE : Ends ts N) (hg : Good N D sub) (h33 : op 33 = 0) (hop : ∀ s, op s ≠ 0 → 4 ≤ op s ∧ op s ≤ 10) :
    ∀ n i c, i ≤ N → ∀ j c', lpO ts sub op n i c = .inr (j, c') → ∃ e, c' = c ++ e ∧ i ≤ j ∧ j ≤ N ∧ e.length + i ≤ j ∧ ∀ m rest, m + 1 + D < 60 → okL rest (m + 1) → okL (e ++ rest) (m + 1) := by
  intro n
  induction n with
  | zero =>
    intro i c hi j c' h
    obtain ⟨rfl, rfl⟩ := inr_inj h
    exact ⟨[], by simp, Nat.le_refl _, hi, by simp, fun m rest _ h => h⟩
  | succ n ih =>
    intro i c hi j c' h
    unfold lpO at h
    split at h
    · obtain ⟨rfl, rfl⟩ := inr_inj h
      exact ⟨[], by simp, Nat.le_refl _, hi, by simp, fun m rest _ h => h⟩
    · rename_i ho
      have hiN : i < N := by
        refine Nat.lt_of_le_of_ne hi (fun e => ho ?_)
        rw [e, hE.2.2.1, h33]
      rcases bnd_cs h with ⟨v, h1, h2⟩ | ⟨j1, e1, h1, h2⟩
      · cases h2
      · obtain ⟨⟨g1, g2, g3⟩, g4, g5⟩ := hg _ (by omega) _ _ h1
        obtain ⟨e, k1, k2, k3, k4, k5⟩ := ih _ _ g2 _ _ h2
        refine ⟨e1 ++ [(op (sK ts i), 0)] ++ e, by rw [k1]; simp, by omega, k3, by simp; omega, fun m rest hm hr => ?_⟩
        rw [List.append_assoc, List.append_assoc]
        refine g5 (m + 1) _ (by omega) ?_
        have := hop _ ho
        exact Or.inr (Or.inr ⟨this.1, this.2, by omega, k5 m rest hm hr⟩)
theorem chn_good {ts : List Tk} {N D : Nat} {sub : Nat → Rs} {op : Nat → Nat} (hE : Ends ts N) (hg : Good N D sub) (h33 : op 33 = 0) (hop : ∀ s, op s ≠ 0 → 4 ≤ op s ∧ op s ≤ 10) : Good N (D + 1) (chn ts sub op) := by
  intro i hi j c h
  rcases bnd_cs h with ⟨v, h1, h2⟩ | ⟨j1, e1, h1, h2⟩
  · cases h2
  · obtain ⟨⟨g1, g2, g3⟩, g4, g5⟩ := hg _ hi _ _ h1
    obtain ⟨e, rfl, k2, k3, k4, k5⟩ := lpO_good hE hg h33 hop _ _ _ g2 _ _ h2
    refine ⟨⟨by omega, k3, by simp; omega⟩, by simp [g4], fun n rest hn hr => ?_⟩
    rw [List.append_assoc]
    exact g5 n _ (by omega) (k5 n rest (by omega) hr)
theorem opM_ok : opM 33 = 0 ∧ ∀ s, opM s ≠ 0 → 4 ≤ opM s ∧ opM s ≤ 10 := ⟨rfl, fun s h => by unfold opM at *; split at h <;> simp_all⟩
theorem opS_ok : opS 33 = 0 ∧ ∀ s, opS s ≠ 0 → 4 ≤ opS s ∧ opS s ≤ 10 := ⟨rfl, fun s _ => by unfold opS at *; repeat' split <;> simp_all⟩
theorem opC_ok : opC 33 = 0 ∧ ∀ s, opC s ≠ 0 → 4 ≤ opC s ∧ opC s ≤ 10 := ⟨rfl, fun s _ => by unfold opC at *; repeat' split <;> simp_all⟩
theorem opA_ok : opA 33 = 0 ∧ ∀ s, opA s ≠ 0 → 4 ≤ opA s ∧ opA s ≤ 10 := ⟨rfl, fun s _ => by unfold opA at *; repeat' split <;> simp_all⟩
theorem rgS_good {ts : List Tk} {N D : Nat} {sub : Nat → Rs} (hE : Ends ts N) (hg : Good N D sub) : Good N (D + 1 + 1) (rgS ts sub) := chn_good hE (chn_good hE hg opM_ok.1 opM_ok.2) opS_ok.1 opS_ok.2
theorem rgT_good {ts : List Tk} {N D : Nat} {sub : Nat → Rs} (hE : Ends ts N) (hg : Good N D sub) : Good N (D + 3) (rgT ts sub) := by
  have hs := rgS_good hE hg
  intro i hi j c h
  rcases bnd_cs h with ⟨v, h1, h2⟩ | ⟨j1, e1, h1, h2⟩
  · cases h2
  · obtain ⟨⟨g1, g2, g3⟩, g4, g5⟩ := hs _ hi _ _ h1
    split at h2
    · obtain ⟨rfl, rfl⟩ := inr_inj h2
      exact ⟨⟨g1, g2, g3⟩, g4, fun n rest hn hr => g5 n rest (by omega) hr⟩
    · rename_i ho
      have hiN : j1 < N := by
        refine Nat.lt_of_le_of_ne g2 (fun e => ho ?_)
        rw [e, hE.2.2.1, opC_ok.1]
      rcases bnd_cs h2 with ⟨v, h3, h4⟩ | ⟨j2, e2, h3, h4⟩
      · cases h4
      · obtain ⟨⟨k1, k2, k3⟩, k4, k5⟩ := hs _ (by omega) _ _ h3
        obtain ⟨rfl, rfl⟩ := inr_inj h4
        refine ⟨⟨by omega, k2, by simp; omega⟩, by simp, fun n rest hn hr => ?_⟩
        rw [List.append_assoc, List.append_assoc]
        refine g5 n _ (by omega) (k5 (n + 1) _ (by omega) ?_)
        have := opC_ok.2 _ ho
        exact Or.inr (Or.inr ⟨this.1, this.2, by omega, hr⟩)
theorem rgA_good {ts : List Tk} {N D : Nat} {sub : Nat → Rs} (hE : Ends ts N) (hg : Good N D sub) : Good N (D + 4) (rgA ts sub) := chn_good hE (rgT_good hE hg) opA_ok.1 opA_ok.2
theorem opd_ok {ts : List Tk} {N i : Nat} (hT : TkOk ts) (hE : Ends ts N) (hi : i ≤ N) (hb : bgs (sK ts i)) (h22 : sK ts i ≠ 22) (h40 : sK ts i ≠ 40) : (opd ts i).1 = 1 ∧ (opd ts i).2 < 10000 ∨ (opd ts i).1 = 2 ∧ (opd ts i).2 < 4 := by
  unfold opd
  split
  · rename_i h31
    refine Or.inl ⟨rfl, ?_⟩
    have h := (hT.2.2 i (by have := hE.2.1; omega)).1.2
    unfold sK at h31
    rcases h with h | h | h | h | h | h
    · omega
    · omega
    · exact h.2
    · omega
    · omega
    · omega
  · refine Or.inr ⟨rfl, ?_⟩
    show fcn _ < 4
    unfold fcn
    repeat' split
    all_goals omega
theorem rgQ_good {ts : List Tk} {N : Nat} (hT : TkOk ts) (hE : Ends ts N) : ∀ r, Good N (4 * r) (rgQ ts r)
  | 0 => by
    intro i hi j c h
    unfold rgQ at h
    split at h <;> cases h
  | r + 1 => by
    have ih := rgQ_good hT hE r
    intro i hi j c h
    unfold rgQ at h
    split at h
    · cases h
    rename_i hb
    have hb : bgs (sK ts i) := Decidable.not_not.mp hb
    have hiN : i < N := by
      refine Nat.lt_of_le_of_ne hi (fun e => ?_)
      rw [e, hE.2.2.1] at hb
      omega
    split at h
    · rcases bnd_cs h with ⟨v, h1, h2⟩ | ⟨j1, e1, h1, h2⟩
      · cases h2
      · obtain ⟨⟨g1, g2, g3⟩, g4, g5⟩ := ih _ (by omega) _ _ h1
        obtain ⟨rfl, rfl⟩ := inr_inj h2
        refine ⟨⟨by omega, g2, by simp; omega⟩, by simp, fun n rest hn hr => ?_⟩
        rw [List.append_assoc]
        refine g5 n _ (by omega) ?_
        exact Or.inr (Or.inl ⟨rfl, by omega, hr⟩)
    rename_i h22
    split at h
    · rcases bnd_cs h with ⟨v, h1, h2⟩ | ⟨j1, e1, h1, h2⟩
      · cases h2
      · obtain ⟨⟨g1, g2, g3⟩, g4, g5⟩ := rgA_good hE ih _ (by omega) _ _ h1
        split at h2
        · rename_i h41
          obtain ⟨rfl, rfl⟩ := inr_inj h2
          have hjN : j1 < N := by
            refine Nat.lt_of_le_of_ne g2 (fun e => ?_)
            rw [e, hE.2.2.1] at h41
            omega
          exact ⟨⟨by omega, by omega, by omega⟩, g4, fun n rest hn hr => g5 n rest (by omega) hr⟩
        · cases h2
    rename_i h40
    obtain ⟨rfl, rfl⟩ := inr_inj h
    refine ⟨⟨by omega, by omega, by simp; omega⟩, by simp, fun n rest hn hr => ?_⟩
    have ho := opd_ok hT hE hi hb h22 h40
    exact Or.inl ⟨ho, by omega, hr⟩
/-- a whole law, behind its word -/
def rgL (ts : List Tk) (i : Nat) : Rs := bnd (rgA ts (rgQ ts 5) i) (fun j c => if sK ts j = 59 then .inr (j + 1, c) else .inl (fK ts 1 j))
theorem rgL_ok {ts : List Tk} {N i j : Nat} {c : Cd} (hT : TkOk ts) (hE : Ends ts N) (hi : i ≤ N) (h : rgL ts i = .inr (j, c)) : (i < j ∧ j ≤ N ∧ c.length + i < j) ∧ c ≠ [] ∧ okL c 0 := by
  rcases bnd_cs h with ⟨v, h1, h2⟩ | ⟨j1, e1, h1, h2⟩
  · cases h2
  · obtain ⟨⟨g1, g2, g3⟩, g4, g5⟩ := rgA_good hE (rgQ_good hT hE 5) _ hi _ _ h1
    split at h2
    · rename_i h59
      obtain ⟨rfl, rfl⟩ := inr_inj h2
      have hjN : j1 < N := by
        refine Nat.lt_of_le_of_ne g2 (fun e => ?_)
        rw [e, hE.2.2.1] at h59
        omega
      have := g5 0 [] (by omega) rfl
      rw [List.append_nil] at this
      exact ⟨⟨by omega, by omega, by omega⟩, g4, this⟩
    · cases h2
