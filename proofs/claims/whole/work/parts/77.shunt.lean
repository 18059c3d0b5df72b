/-! the law as the class reads it, token by token -/
def rk (s : Nat) : Nat := if s = 23 ∨ s = 24 then 1 else if s = 60 ∨ s = 61 then 2 else if s = 43 ∨ s = 45 then 3 else if s = 42 then 4 else 0
def cdO (s : Nat) : Nat × Nat := (if s = 22 then 3 else if s = 43 then 4 else if s = 45 then 5 else if s = 42 then 6 else if s = 60 then 7 else if s = 61 then 8 else if s = 23 then 9 else 10, 0)
def opn (stk : List Nat) : Nat := (stk.filter (fun x => x == 22 || x == 40)).length
def setS (r : Nat) (stk : List Nat) : List Nat := stk.dropWhile (fun x => decide (r ≤ rk x))
def setC (r : Nat) (stk : List Nat) : Cd := (stk.takeWhile (fun x => decide (r ≤ rk x))).map cdO
def endS (stk : List Nat) : List Nat := stk.dropWhile (fun x => x == 22)
def endC (stk : List Nat) : Cd := (stk.takeWhile (fun x => x == 22)).map cdO
def cmpA (stk : List Nat) : Bool := (stk.takeWhile (fun x => decide (2 ≤ rk x))).any (fun x => rk x == 2)
abbrev fBh (stk : List Nat) (s : Nat) : Prop := (s = 59 ∧ opn stk ≠ 0) ∨ (s = 41 ∧ opn stk = 0) ∨ (s ≠ 59 ∧ s ≠ 41 ∧ (rk s = 0 ∨ (rk s = 2 ∧ cmpA stk = true)))
def msh (ts : List Tk) : Nat → Nat → List Nat → Cd → Bool → Rs
  | 0, _, _, _, _ => .inl 0
  | n + 1, i, stk, C, true =>
    if 60 ≤ stk.length ∨ 1000 ≤ C.length + stk.length then .inl 0
    else if ¬ bgs (sK ts i) then .inl (fK ts 1 i)
    else if 5 ≤ opn stk then .inl (fK ts 5 i)
    else if sK ts i = 22 ∨ sK ts i = 40 then msh ts n (i + 1) (sK ts i :: stk) C true
    else msh ts n (i + 1) (endS stk) (C ++ [opd ts i] ++ endC stk) false
  | n + 1, i, stk, C, false =>
    if 60 ≤ stk.length ∨ 1000 ≤ C.length + stk.length then .inl 0
    else if fBh stk (sK ts i) then .inl (fK ts 1 i)
    else if sK ts i = 59 then .inr (i + 1, C ++ setC 1 stk)
    else if sK ts i = 41 then msh ts n (i + 1) (endS (setS 1 stk).tail) (C ++ setC 1 stk ++ endC (setS 1 stk).tail) false
    else msh ts n (i + 1) (sK ts i :: setS (rk (sK ts i)) stk) (C ++ setC (rk (sK ts i)) stk) true
def topOk (r : Nat) (stk : List Nat) : Prop := ∀ x, stk.head? = some x → rk x < r ∧ x ≠ 22
theorem rk_lt (s : Nat) : rk s < 5 := by unfold rk; (repeat' split) <;> omega
theorem rk_22 : rk 22 = 0 ∧ rk 40 = 0 := ⟨rfl, rfl⟩
theorem rk_no {x : Nat} (h : 1 ≤ rk x) : x ≠ 22 ∧ x ≠ 40 := ⟨fun e => by rw [e] at h; exact absurd h (by decide), fun e => by rw [e] at h; exact absurd h (by decide)⟩
theorem tW_app {P : Nat → Bool} : ∀ (l m : List Nat), (∀ x ∈ l, P x = true) → (∀ x, m.head? = some x → P x = false) → (l ++ m).takeWhile P = l ∧ (l ++ m).dropWhile P = m
  | [], [], _, _ => ⟨rfl, rfl⟩
  | [], x :: m, _, h2 => by
    have := h2 x rfl
    simp [List.takeWhile_cons, List.dropWhile_cons, this]
  | y :: l, m, h1, h2 => by
    have h := tW_app l m (fun x hx => h1 x (List.mem_cons_of_mem _ hx)) h2
    have hy := h1 y List.mem_cons_self
    rw [List.cons_append, List.takeWhile_cons, List.dropWhile_cons, hy]
    exact ⟨by rw [if_pos rfl, h.1], by rw [if_pos rfl]; exact h.2⟩
theorem set_app {r : Nat} {p stk : List Nat} (h1 : ∀ x ∈ p, r ≤ rk x) (h2 : topOk r stk) : setS r (p ++ stk) = stk ∧ setC r (p ++ stk) = p.map cdO := by
  have h := tW_app (P := fun x => decide (r ≤ rk x)) p stk (fun x hx => decide_eq_true (h1 x hx)) (fun x hx => decide_eq_false (by have := (h2 x hx).1; omega))
  exact ⟨h.2, by unfold setC; rw [h.1]⟩
theorem end_id {stk : List Nat} (h : ∀ x, stk.head? = some x → x ≠ 22) : endS stk = stk ∧ endC stk = [] := by
  match stk, h with
  | [], _ => exact ⟨rfl, rfl⟩
  | x :: s, h =>
    have hx := h x rfl
    have hb : (x == 22) = false := beq_false_of_ne hx
    unfold endS endC
    rw [List.takeWhile_cons, List.dropWhile_cons, hb]
    exact ⟨rfl, rfl⟩
theorem opn_app {p stk : List Nat} (h : ∀ x ∈ p, 1 ≤ rk x) : opn (p ++ stk) = opn stk := by
  unfold opn
  rw [List.filter_append, List.length_append]
  have : p.filter (fun x => x == 22 || x == 40) = [] := List.filter_eq_nil_iff.mpr (fun x hx => by
    have := rk_no (h x hx)
    simp [this.1, this.2])
  rw [this]
  simp
theorem opn_c {x : Nat} {stk : List Nat} (h : x = 22 ∨ x = 40) : opn (x :: stk) = opn stk + 1 := by
  unfold opn
  rw [List.filter_cons, if_pos (by rcases h with rfl | rfl <;> rfl)]
  rfl
theorem opn_k {x : Nat} {stk : List Nat} (h : 1 ≤ rk x) : opn (x :: stk) = opn stk := opn_app (p := [x]) (fun y hy => by rw [List.mem_singleton.mp hy]; exact h)
/-- where reading of a rank stops -/
def stopC (r s : Nat) (stk : List Nat) : Prop := (r ≤ 4 → rk s ≠ 4) ∧ (r ≤ 3 → rk s ≠ 3) ∧ (r ≤ 2 → rk s = 2 → cmpA stk = true) ∧ (r ≤ 1 → rk s ≠ 1)
def SimL (ts : List Tk) (N : Nat) (sub : Nat → Rs) (r dp : Nat) : Prop := ∀ n i stk C, i ≤ N → N < i + n → C.length + stk.length < i → stk.length ≤ 5 * dp + (r - 1) → opn stk = dp → topOk r stk →
  (∀ v, sub i = .inl v → msh ts n i stk C true = .inl v) ∧
  ∀ j c, sub i = .inr (j, c) → ∃ p C' n', N < j + n' ∧ msh ts n i stk C true = msh ts n' j (p ++ stk) C' false ∧ (∀ x ∈ p, r ≤ rk x) ∧ p.length ≤ 5 - r ∧ C' ++ p.map cdO = C ++ c ∧ stopC r (sK ts j) (p ++ stk)
theorem msh_op {ts : List Tk} {n i : Nat} {stk : List Nat} {C : Cd} {r : Nat} (h1 : ¬ (60 ≤ stk.length ∨ 1000 ≤ C.length + stk.length)) (hr : rk (sK ts i) = r) (hr1 : 1 ≤ r) (hc : r = 2 → cmpA stk = false) : msh ts (n + 1) i stk C false = msh ts n (i + 1) (sK ts i :: setS r stk) (C ++ setC r stk) true := by
  have h59 : sK ts i ≠ 59 := fun e => by rw [e] at hr; have : rk 59 = 0 := rfl; omega
  have h41 : sK ts i ≠ 41 := fun e => by rw [e] at hr; have : rk 41 = 0 := rfl; omega
  show (if _ then _ else _) = _
  rw [if_neg h1, if_neg, if_neg h59, if_neg h41, hr]
  rintro (h | h | h)
  · exact h59 h.1
  · exact h41 h.1
  · rcases h.2.2 with h | h
    · omega
    · rw [hr] at h; rw [hc h.1] at h; exact absurd h.2 (by decide)
/-- a chain of one rank -/
theorem sim_chn {ts : List Tk} {N D : Nat} {sub : Nat → Rs} {op : Nat → Nat} {r dp : Nat} (hE : Ends ts N) (hg : Good N D sub) (hr1 : 1 ≤ r) (hr4 : r ≤ 4) (hr2 : r ≠ 2) (hop : ∀ s, op s ≠ 0 ↔ rk s = r) (hoc : ∀ s, op s ≠ 0 → cdO s = (op s, 0)) (hdp : dp ≤ 5) (hs : SimL ts N sub (r + 1) dp) : SimL ts N (chn ts sub op) r dp := by
  have hlp : ∀ m n i p stk C C' c, i ≤ N → N < i + n → N < i + m → C.length + c.length + stk.length < i → stk.length ≤ 5 * dp + (r - 1) → opn stk = dp → topOk r stk → (∀ x ∈ p, r ≤ rk x) → p.length ≤ 5 - r → C' ++ p.map cdO = C ++ c → stopC (r + 1) (sK ts i) (p ++ stk) →
      (∀ v, lpO ts sub op m i c = .inl v → msh ts n i (p ++ stk) C' false = .inl v) ∧
      ∀ j c', lpO ts sub op m i c = .inr (j, c') → ∃ p2 C2 n', N < j + n' ∧ msh ts n i (p ++ stk) C' false = msh ts n' j (p2 ++ stk) C2 false ∧ (∀ x ∈ p2, r ≤ rk x) ∧ p2.length ≤ 5 - r ∧ C2 ++ p2.map cdO = C ++ c' ∧ stopC r (sK ts j) (p2 ++ stk) := by
    intro m
    induction m with
    | zero => intro n i p stk C C' c hi _ hm; omega
    | succ m ih =>
      intro n i p stk C C' c hi hn hm hC hk ho ht hp hpl he hst
      by_cases h0 : op (sK ts i) = 0
      · have e : lpO ts sub op (m + 1) i c = .inr (i, c) := by show (if _ then _ else _) = _; rw [if_pos h0]
        rw [e]
        refine ⟨fun v hv => (by cases hv), fun j c' hj => ?_⟩
        obtain ⟨rfl, rfl⟩ := inr_inj hj
        refine ⟨p, C', n, hn, rfl, hp, hpl, he, ?_⟩
        have hnr : rk (sK ts i) ≠ r := fun e => (hop _).mpr e h0
        refine ⟨fun h => ?_, fun h => ?_, fun h => ?_, fun h => ?_⟩
        · by_cases e : r = 4
          · rw [← e]; exact hnr
          · exact hst.1 (by omega)
        · by_cases e : r = 3
          · rw [← e]; exact hnr
          · exact hst.2.1 (by omega)
        · exact hst.2.2.1 (by omega)
        · rw [show (1 : Nat) = r by omega]; exact hnr
      · have hrk : rk (sK ts i) = r := (hop _).mp h0
        have hiN : i < N := by
          refine Nat.lt_of_le_of_ne hi (fun e => ?_)
          rw [e, hE.2.2.1] at hrk
          have : rk 33 = 0 := rfl
          omega
        have hN := hE.1
        obtain ⟨n, rfl⟩ : ∃ k, n = k + 1 := ⟨n - 1, by omega⟩
        have hlen : C'.length + p.length = C.length + c.length := by
          have := congrArg List.length he
          simp only [List.length_append, List.length_map] at this
          exact this
        have hset := set_app hp ht
        have hstep : msh ts (n + 1) i (p ++ stk) C' false = msh ts n (i + 1) (sK ts i :: stk) (C ++ c) true := by
          rw [msh_op (r := r) (by simp only [List.length_append]; omega) hrk hr1 (fun e => absurd e hr2), hset.1, hset.2, he]
        have htop : topOk (r + 1) (sK ts i :: stk) := fun x hx => by
          have : sK ts i = x := Option.some.inj hx
          rw [← this]
          exact ⟨by omega, (rk_no (by omega)).1⟩
        have hsub := hs n (i + 1) (sK ts i :: stk) (C ++ c) (by omega) (by omega) (by simp only [List.length_append, List.length_cons]; omega) (by simp only [List.length_cons]; omega) (by rw [opn_k (by omega)]; exact ho) htop
        have e : lpO ts sub op (m + 1) i c = bnd (sub (i + 1)) (fun j e => lpO ts sub op m j (c ++ e ++ [(op (sK ts i), 0)])) := by show (if _ then _ else _) = _; rw [if_neg h0]
        rw [e, hstep]
        cases hsv : sub (i + 1) with
        | inl v =>
          refine ⟨fun v' hv => ?_, fun j c' hj => by cases hj⟩
          rw [hsub.1 v hsv]
          exact hv
        | inr jc =>
          obtain ⟨j1, e1⟩ := jc
          obtain ⟨⟨g1, g2, g3⟩, -, -⟩ := hg _ (by omega) _ _ hsv
          obtain ⟨p1, C1, n1, k1, k2, k3, k4, k5, k6⟩ := hsub.2 j1 e1 hsv
          rw [k2]
          have hh := ih n1 j1 (p1 ++ [sK ts i]) stk C C1 (c ++ e1 ++ [(op (sK ts i), 0)]) g2 k1 (by omega) (by simp only [List.length_append, List.length_cons, List.length_nil]; omega) hk ho ht (fun x hx => ?_) (by simp only [List.length_append, List.length_cons, List.length_nil]; omega) ?_ (by rw [List.append_assoc]; exact k6)
          · rw [show p1 ++ [sK ts i] ++ stk = p1 ++ sK ts i :: stk by simp] at hh
            exact hh
          · rcases List.mem_append.mp hx with hx | hx
            · have := k3 x hx; omega
            · rw [List.mem_singleton.mp hx]; omega
          · rw [List.map_append, ← List.append_assoc, k5]
            show C ++ c ++ e1 ++ [cdO (sK ts i)] = _
            rw [hoc _ h0]
            simp
  intro n i stk C hi hn hC hk ho ht
  have ht1 : topOk (r + 1) stk := fun x hx => ⟨by have := (ht x hx).1; omega, (ht x hx).2⟩
  have hsub := hs n i stk C hi hn hC (by omega) ho ht1
  cases hsv : sub i with
  | inl v =>
    have e : chn ts sub op i = .inl v := bnd_l hsv
    rw [e]
    refine ⟨fun v' hv => ?_, fun j c' hj => by cases hj⟩
    rw [hsub.1 v hsv]
    exact hv
  | inr jc =>
    obtain ⟨j1, e1⟩ := jc
    obtain ⟨⟨g1, g2, g3⟩, -, -⟩ := hg _ hi _ _ hsv
    obtain ⟨p1, C1, n1, k1, k2, k3, k4, k5, k6⟩ := hsub.2 j1 e1 hsv
    have e : chn ts sub op i = lpO ts sub op 1001 j1 e1 := bnd_r hsv
    rw [e, k2]
    exact hlp 1001 n1 j1 p1 stk C C1 e1 g2 k1 (by have := hE.1; omega) (by omega) hk ho ht (fun x hx => by have := k3 x hx; omega) (by omega) k5 k6
theorem cmpA_no {p stk : List Nat} (h : ∀ x ∈ p, 3 ≤ rk x) (ht : topOk 2 stk) : cmpA (p ++ stk) = false := by
  have h1 := tW_app (P := fun x => decide (2 ≤ rk x)) p stk (fun x hx => decide_eq_true (by have := h x hx; omega)) (fun x hx => decide_eq_false (by have := (ht x hx).1; omega))
  unfold cmpA
  rw [h1.1]
  exact List.any_eq_false.mpr (fun x hx => by have := h x hx; simp; omega)
theorem cmpA_yes {p stk : List Nat} {x : Nat} (h : ∀ y ∈ p, 3 ≤ rk y) (hx : rk x = 2) : cmpA (p ++ x :: stk) = true := by
  unfold cmpA
  have : ∀ l : List Nat, (∀ y ∈ l, 3 ≤ rk y) → ((l ++ x :: stk).takeWhile (fun x => decide (2 ≤ rk x))).any (fun x => rk x == 2) = true := by
    intro l
    induction l with
    | nil => intro _; rw [List.nil_append, List.takeWhile_cons, if_pos (decide_eq_true (by omega))]; simp [hx]
    | cons y l ih =>
      intro hl
      have hy := hl y List.mem_cons_self
      rw [List.cons_append, List.takeWhile_cons, if_pos (decide_eq_true (by omega)), List.any_cons, ih (fun z hz => hl z (List.mem_cons_of_mem _ hz))]
      simp
  exact this p h
theorem op_rk : (∀ s, opM s ≠ 0 ↔ rk s = 4) ∧ (∀ s, opS s ≠ 0 ↔ rk s = 3) ∧ (∀ s, opC s ≠ 0 ↔ rk s = 2) ∧ (∀ s, opA s ≠ 0 ↔ rk s = 1) := by
  refine ⟨fun s => ?_, fun s => ?_, fun s => ?_, fun s => ?_⟩
  · unfold opM rk; (repeat' split) <;> omega
  · unfold opS rk; (repeat' split) <;> omega
  · unfold opC rk; (repeat' split) <;> omega
  · unfold opA rk; (repeat' split) <;> omega
theorem op_cd : (∀ s, opM s ≠ 0 → cdO s = (opM s, 0)) ∧ (∀ s, opS s ≠ 0 → cdO s = (opS s, 0)) ∧ (∀ s, opC s ≠ 0 → cdO s = (opC s, 0)) ∧ (∀ s, opA s ≠ 0 → cdO s = (opA s, 0)) := by
  refine ⟨fun s h => ?_, fun s h => ?_, fun s h => ?_, fun s h => ?_⟩
  · unfold opM at *
    by_cases e : s = 42
    · subst e; rfl
    · rw [if_neg e] at h; exact absurd rfl h
  · unfold opS at *
    by_cases e : s = 43
    · subst e; rfl
    · rw [if_neg e] at h ⊢
      by_cases e : s = 45
      · subst e; rfl
      · rw [if_neg e] at h; exact absurd rfl h
  · unfold opC at *
    by_cases e : s = 60
    · subst e; rfl
    · rw [if_neg e] at h ⊢
      by_cases e : s = 61
      · subst e; rfl
      · rw [if_neg e] at h; exact absurd rfl h
  · unfold opA at *
    by_cases e : s = 23
    · subst e; rfl
    · rw [if_neg e] at h ⊢
      by_cases e : s = 24
      · subst e; rfl
      · rw [if_neg e] at h; exact absurd rfl h
theorem sim_test {ts : List Tk} {N D : Nat} {sub : Nat → Rs} {dp : Nat} (hE : Ends ts N) (hg : Good N D (rgS ts sub)) (hdp : dp ≤ 5) (hs : SimL ts N (rgS ts sub) 3 dp) : SimL ts N (rgT ts sub) 2 dp := by
  intro n i stk C hi hn hC hk ho ht
  have hN := hE.1
  have ht1 : topOk 3 stk := fun x hx => ⟨by have := (ht x hx).1; omega, (ht x hx).2⟩
  have hsub := hs n i stk C hi hn hC (by omega) ho ht1
  cases hsv : rgS ts sub i with
  | inl v =>
    have e : rgT ts sub i = .inl v := bnd_l hsv
    rw [e]
    refine ⟨fun v' hv => ?_, fun j c' hj => by cases hj⟩
    rw [hsub.1 v hsv]
    exact hv
  | inr jc =>
    obtain ⟨j1, e1⟩ := jc
    obtain ⟨⟨g1, g2, g3⟩, -, -⟩ := hg _ hi _ _ hsv
    obtain ⟨p1, C1, n1, k1, k2, k3, k4, k5, k6⟩ := hsub.2 j1 e1 hsv
    have e : rgT ts sub i = (if opC (sK ts j1) = 0 then .inr (j1, e1) else bnd (rgS ts sub (j1 + 1)) (fun k e => .inr (k, e1 ++ e ++ [(opC (sK ts j1), 0)]))) := bnd_r hsv
    rw [e, k2]
    have hlen : C1.length + p1.length = C.length + e1.length := by
      have := congrArg List.length k5
      simp only [List.length_append, List.length_map] at this
      exact this
    by_cases h0 : opC (sK ts j1) = 0
    · rw [if_pos h0]
      refine ⟨fun v hv => (by cases hv), fun j c' hj => ?_⟩
      obtain ⟨rfl, rfl⟩ := inr_inj hj
      refine ⟨p1, C1, n1, k1, rfl, fun x hx => by have := k3 x hx; omega, by omega, k5, fun h => k6.1 (by omega), fun h => k6.2.1 (by omega), fun h e2 => ?_, fun h => by omega⟩
      exact absurd h0 ((op_rk.2.2.1 _).mpr e2)
    · rw [if_neg h0]
      have hrk : rk (sK ts j1) = 2 := (op_rk.2.2.1 _).mp h0
      have hjN : j1 < N := by
        refine Nat.lt_of_le_of_ne g2 (fun e => ?_)
        rw [e, hE.2.2.1] at hrk
        exact absurd hrk (by decide)
      obtain ⟨n1, rfl⟩ : ∃ k, n1 = k + 1 := ⟨n1 - 1, by omega⟩
      have hset := set_app (r := 2) (p := p1) (stk := stk) (fun x hx => by have := k3 x hx; omega) ht
      have hstep : msh ts (n1 + 1) j1 (p1 ++ stk) C1 false = msh ts n1 (j1 + 1) (sK ts j1 :: stk) (C ++ e1) true := by
        rw [msh_op (r := 2) (by simp only [List.length_append]; omega) hrk (by decide) (fun _ => cmpA_no k3 ht), hset.1, hset.2, k5]
      have htop : topOk 3 (sK ts j1 :: stk) := fun x hx => by
        have : sK ts j1 = x := Option.some.inj hx
        rw [← this]
        exact ⟨by omega, (rk_no (by omega)).1⟩
      have hsub2 := hs n1 (j1 + 1) (sK ts j1 :: stk) (C ++ e1) (by omega) (by omega) (by simp only [List.length_append, List.length_cons]; omega) (by simp only [List.length_cons]; omega) (by rw [opn_k (by omega)]; exact ho) htop
      rw [hstep]
      cases hsv2 : rgS ts sub (j1 + 1) with
      | inl v =>
        refine ⟨fun v' hv => ?_, fun j c' hj => by cases hj⟩
        rw [hsub2.1 v hsv2]
        exact hv
      | inr jc =>
        obtain ⟨j2, e2⟩ := jc
        obtain ⟨p2, C2, n2, l1, l2, l3, l4, l5, l6⟩ := hsub2.2 j2 e2 hsv2
        refine ⟨fun v hv => (by cases hv), fun j c' hj => ?_⟩
        obtain ⟨rfl, rfl⟩ := inr_inj hj
        have ea : p2 ++ sK ts j1 :: stk = (p2 ++ [sK ts j1]) ++ stk := by simp
        refine ⟨p2 ++ [sK ts j1], C2, n2, l1, by rw [l2, ea], fun x hx => ?_, by simp only [List.length_append, List.length_cons, List.length_nil]; omega, ?_, ?_⟩
        · rcases List.mem_append.mp hx with hx | hx
          · have := l3 x hx; omega
          · rw [List.mem_singleton.mp hx]; omega
        · rw [List.map_append, ← List.append_assoc, l5]
          show C ++ e1 ++ e2 ++ [cdO (sK ts j1)] = _
          rw [op_cd.2.2.1 _ h0]
          simp
        · rw [← ea]
          exact ⟨fun h => l6.1 (by omega), fun h => l6.2.1 (by omega), fun _ _ => cmpA_yes l3 hrk, fun h => by omega⟩
/-- what ends a law, or what is within ( ) -/
theorem stop_bad {ts : List Tk} {j n : Nat} {p stk : List Nat} {C' : Cd} (h1 : ¬ (60 ≤ (p ++ stk).length ∨ 1000 ≤ C'.length + (p ++ stk).length)) (hp : ∀ x ∈ p, 1 ≤ rk x) (hs : stopC 1 (sK ts j) (p ++ stk)) (h : if opn stk = 0 then sK ts j ≠ 59 else sK ts j ≠ 41) : msh ts (n + 1) j (p ++ stk) C' false = .inl (fK ts 1 j) := by
  show (if _ then _ else _) = _
  rw [if_neg h1, if_pos]
  rw [fBh, opn_app hp]
  by_cases e59 : sK ts j = 59
  · refine Or.inl ⟨e59, fun h0 => ?_⟩
    rw [if_pos h0] at h
    exact h e59
  by_cases e41 : sK ts j = 41
  · refine Or.inr (Or.inl ⟨e41, ?_⟩)
    by_cases h0 : opn stk = 0
    · exact h0
    · rw [if_neg h0] at h; exact absurd e41 h
  refine Or.inr (Or.inr ⟨e59, e41, ?_⟩)
  have h5 := rk_lt (sK ts j)
  have k1 := hs.1 (by decide)
  have k2 := hs.2.1 (by decide)
  have k3 := hs.2.2.1 (by decide)
  have k4 := hs.2.2.2 (by decide)
  by_cases e2 : rk (sK ts j) = 2
  · exact Or.inr ⟨e2, k3 e2⟩
  · exact Or.inl (by omega)
theorem sim_all {ts : List Tk} {N D : Nat} {sub : Nat → Rs} {dp : Nat} (hE : Ends ts N) (hg : Good N D sub) (hdp : dp ≤ 5) (hs : SimL ts N sub 5 dp) : SimL ts N (rgA ts sub) 1 dp := by
  have h4 := sim_chn (r := 4) hE hg (by decide) (by decide) (by decide) op_rk.1 op_cd.1 hdp hs
  have g4 := chn_good hE hg opM_ok.1 opM_ok.2
  have h3 := sim_chn (r := 3) hE g4 (by decide) (by decide) (by decide) op_rk.2.1 op_cd.2.1 hdp h4
  have g3 := chn_good hE g4 opS_ok.1 opS_ok.2
  have h2 := sim_test hE g3 hdp h3
  exact sim_chn (r := 1) hE (rgT_good hE hg) (by decide) (by decide) (by decide) op_rk.2.2.2 op_cd.2.2.2 hdp h2
/-- a part: its nots are settled with it -/
def SimQ (ts : List Tk) (N : Nat) (sub : Nat → Rs) (dp : Nat) : Prop := ∀ n i stk C, i ≤ N → N < i + n → C.length + stk.length < i → stk.length ≤ 5 * dp + 4 → opn stk = dp →
  (∀ v, sub i = .inl v → msh ts n i stk C true = .inl v) ∧
  ∀ j c, sub i = .inr (j, c) → ∃ n', N < j + n' ∧ msh ts n i stk C true = msh ts n' j (endS stk) (C ++ c ++ endC stk) false
theorem SimQ.L {ts : List Tk} {N : Nat} {sub : Nat → Rs} {dp : Nat} (h : SimQ ts N sub dp) : SimL ts N sub 5 dp := by
  intro n i stk C hi hn hC hk ho ht
  obtain ⟨h1, h2⟩ := h n i stk C hi hn hC hk ho
  refine ⟨h1, fun j c hj => ?_⟩
  obtain ⟨n', k1, k2⟩ := h2 j c hj
  have he := end_id (stk := stk) (fun x hx => (ht x hx).2)
  rw [he.1, he.2, List.append_nil] at k2
  exact ⟨[], C ++ c, n', k1, k2, (fun x hx => nomatch hx), Nat.zero_le _, by simp, fun h => by omega, fun h => by omega, fun h => by omega, fun h => by omega⟩
theorem sim_part {ts : List Tk} {N : Nat} (hT : TkOk ts) (hE : Ends ts N) : ∀ r dp, r + dp = 5 → SimQ ts N (rgQ ts r) dp := by
  intro r
  induction r with
  | zero =>
    intro dp hdp n i stk C hi hn hC hk ho
    have hN := hE.1
    obtain ⟨n, rfl⟩ : ∃ k, n = k + 1 := ⟨n - 1, by omega⟩
    by_cases hb : bgs (sK ts i)
    · have hiN : i < N := by
        refine Nat.lt_of_le_of_ne hi (fun e => ?_)
        rw [e, hE.2.2.1] at hb
        omega
      have e : rgQ ts 0 i = .inl (fK ts 5 i) := by show (if _ then _ else _) = _; rw [if_pos hb]
      rw [e]
      refine ⟨fun v hv => ?_, fun j c hj => by cases hj⟩
      rw [← hv]
      show (if _ then _ else _) = _
      rw [if_neg (by omega), if_neg (fun hh => hh hb), if_pos (by omega)]
    · have e : rgQ ts 0 i = .inl (fK ts 1 i) := by show (if _ then _ else _) = _; rw [if_neg hb]
      rw [e]
      refine ⟨fun v hv => ?_, fun j c hj => by cases hj⟩
      rw [← hv]
      show (if _ then _ else _) = _
      rw [if_neg (by omega), if_pos hb]
  | succ r ih =>
    intro dp hdp n i stk C hi hn hC hk ho
    have hN := hE.1
    obtain ⟨n, rfl⟩ : ∃ k, n = k + 1 := ⟨n - 1, by omega⟩
    by_cases hb : bgs (sK ts i)
    · have hiN : i < N := by
        refine Nat.lt_of_le_of_ne hi (fun e => ?_)
        rw [e, hE.2.2.1] at hb
        omega
      have hsub := ih (dp + 1) (by omega)
      by_cases h22 : sK ts i = 22
      · have e : rgQ ts (r + 1) i = bnd (rgQ ts r (i + 1)) (fun j c => .inr (j, c ++ [(3, 0)])) := by
          show (if _ then _ else _) = _
          rw [if_neg (fun hh => hh hb), if_pos h22]
        have em : msh ts (n + 1) i stk C true = msh ts n (i + 1) (22 :: stk) C true := by
          show (if _ then _ else _) = _
          rw [if_neg (by omega), if_neg (fun hh => hh hb), if_neg (by omega), if_pos (Or.inl h22), h22]
        have hs2 := hsub n (i + 1) (22 :: stk) C (by omega) (by omega) (by simp only [List.length_cons]; omega) (by simp only [List.length_cons]; omega) (by rw [opn_c (Or.inl rfl), ho])
        rw [e, em]
        cases hsv : rgQ ts r (i + 1) with
        | inl v =>
          refine ⟨fun v' hv => ?_, fun j c hj => by cases hj⟩
          rw [hs2.1 v hsv]
          exact hv
        | inr jc =>
          obtain ⟨j1, e1⟩ := jc
          refine ⟨fun v' hv => (by cases hv), fun j c hj => ?_⟩
          obtain ⟨rfl, rfl⟩ := inr_inj hj
          obtain ⟨n', k1, k2⟩ := hs2.2 j1 e1 hsv
          refine ⟨n', k1, ?_⟩
          rw [k2]
          have x1 : endS (22 :: stk) = endS stk := rfl
          have x2 : endC (22 :: stk) = (3, 0) :: endC stk := rfl
          rw [x1, x2]
          simp
      · by_cases h40 : sK ts i = 40
        · have e : rgQ ts (r + 1) i = bnd (rgA ts (rgQ ts r) (i + 1)) (fun j c => if sK ts j = 41 then .inr (j + 1, c) else .inl (fK ts 1 j)) := by
            show (if _ then _ else _) = _
            rw [if_neg (fun hh => hh hb), if_neg h22, if_pos h40]
          have em : msh ts (n + 1) i stk C true = msh ts n (i + 1) (40 :: stk) C true := by
            show (if _ then _ else _) = _
            rw [if_neg (by omega), if_neg (fun hh => hh hb), if_neg (by omega), if_pos (Or.inr h40), h40]
          have htop : topOk 1 (40 :: stk) := fun x hx => by
            have : 40 = x := Option.some.inj hx
            rw [← this]
            exact ⟨by decide, by decide⟩
          have ho1 : opn (40 :: stk) = dp + 1 := by rw [opn_c (Or.inr rfl), ho]
          have hs2 := sim_all hE (rgQ_good hT hE r) (by omega) hsub.L n (i + 1) (40 :: stk) C (by omega) (by omega) (by simp only [List.length_cons]; omega) (by simp only [List.length_cons]; omega) ho1 htop
          rw [e, em]
          cases hsv : rgA ts (rgQ ts r) (i + 1) with
          | inl v =>
            refine ⟨fun v' hv => ?_, fun j c hj => by cases hj⟩
            rw [hs2.1 v hsv]
            exact hv
          | inr jc =>
            obtain ⟨j1, e1⟩ := jc
            obtain ⟨⟨g1, g2, g3⟩, -, -⟩ := rgA_good hE (rgQ_good hT hE r) _ (by omega) _ _ hsv
            obtain ⟨p1, C1, n1, k1, k2, k3, k4, k5, k6⟩ := hs2.2 j1 e1 hsv
            obtain ⟨n1, rfl⟩ : ∃ k, n1 = k + 1 := ⟨n1 - 1, by omega⟩
            have hlen : C1.length + p1.length = C.length + e1.length := by
              have := congrArg List.length k5
              simp only [List.length_append, List.length_map] at this
              exact this
            have hgd : ¬ (60 ≤ (p1 ++ 40 :: stk).length ∨ 1000 ≤ C1.length + (p1 ++ 40 :: stk).length) := by simp only [List.length_append, List.length_cons]; omega
            rw [k2]
            by_cases h41 : sK ts j1 = 41
            · refine ⟨fun v' hv => ?_, fun j c hj => ?_⟩
              · have hv : (if sK ts j1 = 41 then (.inr (j1 + 1, e1) : Rs) else .inl (fK ts 1 j1)) = .inl v' := hv
                rw [if_pos h41] at hv
                cases hv
              · have hj : (if sK ts j1 = 41 then (.inr (j1 + 1, e1) : Rs) else .inl (fK ts 1 j1)) = .inr (j, c) := hj
                rw [if_pos h41] at hj
                obtain ⟨rfl, rfl⟩ := inr_inj hj
                have hset := set_app (r := 1) k3 htop
                refine ⟨n1, by omega, ?_⟩
                show (if _ then _ else _) = _
                rw [if_neg hgd, if_neg, if_neg (by omega), if_pos h41, hset.1, hset.2, k5]
                · rfl
                · rw [fBh, opn_app k3, ho1]
                  omega
            · refine ⟨fun v' hv => ?_, fun j c hj => ?_⟩
              · have hv : (if sK ts j1 = 41 then (.inr (j1 + 1, e1) : Rs) else .inl (fK ts 1 j1)) = .inl v' := hv
                rw [if_neg h41] at hv
                rw [← hv]
                refine stop_bad hgd k3 k6 ?_
                rw [if_neg (by omega)]
                exact h41
              · have hj : (if sK ts j1 = 41 then (.inr (j1 + 1, e1) : Rs) else .inl (fK ts 1 j1)) = .inr (j, c) := hj
                rw [if_neg h41] at hj
                cases hj
        · have e : rgQ ts (r + 1) i = .inr (i + 1, [opd ts i]) := by
            show (if _ then _ else _) = _
            rw [if_neg (fun hh => hh hb), if_neg h22, if_neg h40]
          rw [e]
          refine ⟨fun v' hv => (by cases hv), fun j c hj => ?_⟩
          obtain ⟨rfl, rfl⟩ := inr_inj hj
          refine ⟨n, by omega, ?_⟩
          show (if _ then _ else _) = _
          rw [if_neg (by omega), if_neg (fun hh => hh hb), if_neg (by omega), if_neg (by omega)]
    · have e : rgQ ts (r + 1) i = .inl (fK ts 1 i) := by show (if _ then _ else _) = _; rw [if_pos hb]
      rw [e]
      refine ⟨fun v hv => ?_, fun j c hj => by cases hj⟩
      rw [← hv]
      show (if _ then _ else _) = _
      rw [if_neg (by omega), if_pos hb]
/-- the class's reading is the grammar's -/
theorem msh_rgL {ts : List Tk} {N i : Nat} (hT : TkOk ts) (hE : Ends ts N) (hi : i ≤ N) (h1 : 1 ≤ i) : msh ts 1001 i [] [] true = rgL ts i := by
  have hN := hE.1
  have hs := sim_all hE (rgQ_good hT hE 5) (by decide) (sim_part hT hE 5 0 rfl).L 1001 i [] [] hi (by omega) h1 (Nat.zero_le _) rfl (fun x hx => nomatch hx)
  unfold rgL
  cases hsv : rgA ts (rgQ ts 5) i with
  | inl v => rw [hs.1 v hsv]; rfl
  | inr jc =>
    obtain ⟨j1, e1⟩ := jc
    obtain ⟨⟨g1, g2, g3⟩, -, -⟩ := rgA_good hE (rgQ_good hT hE 5) _ hi _ _ hsv
    obtain ⟨p1, C1, n1, k1, k2, k3, k4, k5, k6⟩ := hs.2 j1 e1 hsv
    obtain ⟨n1, rfl⟩ : ∃ k, n1 = k + 1 := ⟨n1 - 1, by omega⟩
    have hlen : C1.length + p1.length = e1.length := by
      have := congrArg List.length k5
      simp only [List.length_append, List.length_map, List.nil_append] at this
      exact this
    have hgd : ¬ (60 ≤ (p1 ++ []).length ∨ 1000 ≤ C1.length + (p1 ++ []).length) := by simp only [List.length_append, List.length_nil]; omega
    rw [k2]
    show _ = (if sK ts j1 = 59 then (.inr (j1 + 1, e1) : Rs) else .inl (fK ts 1 j1))
    by_cases h59 : sK ts j1 = 59
    · rw [if_pos h59]
      have hset := set_app (r := 1) (stk := []) k3 (fun x hx => nomatch hx)
      show (if _ then _ else _) = _
      rw [if_neg hgd, if_neg, if_pos h59, hset.2, k5]
      · rfl
      · rw [fBh, opn_app k3]
        have : opn [] = 0 := rfl
        omega
    · rw [if_neg h59]
      exact stop_bad hgd k3 k6 (by rw [if_pos (show opn [] = 0 from rfl)]; exact h59)
