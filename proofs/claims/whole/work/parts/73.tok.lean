/-! tokens -/
abbrev Tk : Type := Nat × Nat × List Nat
def isL (c : Nat) : Bool := decide (97 ≤ c ∧ c ≤ 122)
def isD (c : Nat) : Bool := decide (48 ≤ c ∧ c ≤ 57)
abbrev isG (c : Nat) : Prop := (40 ≤ c ∧ c ≤ 43) ∨ c = 45 ∨ (59 ≤ c ∧ c ≤ 61)
def wds : List (List Nat) := [[104, 97, 108, 108], [112, 105, 108, 108, 97, 114], [99, 97, 114, 114, 105, 97, 103, 101], [100, 97, 110, 99, 101], [119, 105, 110, 101], [103, 108, 97, 115, 115, 101, 115], [111, 102], [103, 117, 101, 115, 116], [97, 116], [119, 97, 121], [97, 103, 101], [115, 116, 97, 103, 103, 101, 114], [97, 104, 101, 97, 100], [104, 111, 112], [108, 101, 102, 116], [114, 105, 103, 104, 116], [114, 101, 115, 116], [112, 108, 97, 105, 110], [119, 97, 105, 116, 101, 114], [108, 97, 109, 101], [117, 110, 99, 108, 101], [111, 108, 100], [110, 111, 116], [97, 110, 100], [111, 114], [103, 108, 97, 115, 115], [115, 116, 101, 112], [100, 114, 117, 110, 107]]
def wdF (w : List Nat) : Nat → Nat → Nat
  | 0, _ => 30
  | n + 1, k => if wds.getD k [] = w then k else wdF w n (k + 1)
def srtW (w : List Nat) : Nat := if w.length ≤ 8 then wdF w 28 0 else 32
def run (tp : List Nat) (P : Nat → Bool) (p : Nat) : List Nat := (tp.drop p).takeWhile P
theorem tw_in {P : Nat → Bool} : ∀ (l : List Nat) (k : Nat), k < (l.takeWhile P).length → k < l.length ∧ P (l.getD k 0) = true ∧ (l.takeWhile P).getD k 0 = l.getD k 0
  | [], k, h => absurd h (by simp)
  | x :: l, k, h => by
    cases hx : P x with
    | false => rw [List.takeWhile_cons, hx] at h; exact absurd h (by simp)
    | true =>
      rw [List.takeWhile_cons, hx] at h ⊢
      match k, h with
      | 0, _ => exact ⟨by simp, by simpa using hx, by simp⟩
      | k + 1, h =>
        have := tw_in l k (by simpa using h)
        exact ⟨by simpa using this.1, by simpa using this.2.1, by simpa using this.2.2⟩
theorem tw_out {P : Nat → Bool} : ∀ (l : List Nat), (l.takeWhile P).length < l.length → P (l.getD (l.takeWhile P).length 0) = false
  | [], h => absurd h (by simp)
  | x :: l, h => by
    cases hx : P x with
    | false => rw [List.takeWhile_cons, hx]; simpa using hx
    | true =>
      rw [List.takeWhile_cons, hx] at h ⊢
      have := tw_out l (by simpa using h)
      simpa using this
theorem dr_get (tp : List Nat) (p k : Nat) : (tp.drop p).getD k 0 = tp.getD (p + k) 0 := by simp only [List.getD_eq_getElem?_getD, List.getElem?_drop]
theorem run_le (tp : List Nat) (P : Nat → Bool) (p : Nat) : (run tp P p).length ≤ tp.length - p := by
  have h := (List.takeWhile_sublist P (l := tp.drop p)).length_le
  rw [List.length_drop] at h
  exact h
theorem run_in {tp : List Nat} {P : Nat → Bool} {p k : Nat} (h : k < (run tp P p).length) : p + k < tp.length ∧ P (tp.getD (p + k) 0) = true ∧ (run tp P p).getD k 0 = tp.getD (p + k) 0 := by
  obtain ⟨h1, h2, h3⟩ := tw_in _ _ h
  rw [List.length_drop] at h1
  rw [dr_get] at h2
  unfold run
  rw [h3, dr_get]
  exact ⟨by omega, h2, rfl⟩
theorem run_out {tp : List Nat} {P : Nat → Bool} {p : Nat} (h : p + (run tp P p).length < tp.length) : P (tp.getD (p + (run tp P p).length) 0) = false := by
  have := tw_out (P := P) (tp.drop p) (by rw [List.length_drop]; have := h; unfold run at this; omega)
  rw [dr_get] at this
  exact this
theorem run_mem {tp : List Nat} {P : Nat → Bool} {p c : Nat} (h : c ∈ run tp P p) : P c = true := by
  obtain ⟨i, hi, e⟩ := List.mem_iff_getElem.mp h
  have h2 := run_in hi
  have h3 : (run tp P p).getD i 0 = c := by rw [List.getD_eq_getElem?_getD, List.getElem?_eq_getElem hi]; exact e
  rw [← h3, h2.2.2]
  exact h2.2.1
theorem take_s {w : List Nat} {k : Nat} (h : k < w.length) : w.take (k + 1) = w.take k ++ [w.getD k 0] := by
  rw [List.take_add_one, List.getD_eq_getElem?_getD, List.getElem?_eq_getElem h]
  rfl
/-! numbers out of signs -/
def pk (b s : Nat) (w : List Nat) : Nat := w.foldl (fun v c => v * b + (c - s)) 0
theorem pw_s (b s : Nat) (w : List Nat) (c : Nat) : pk b s (w ++ [c]) = pk b s w * b + (c - s) := by simp [pk]
theorem pw_ltv {b s : Nat} : ∀ (w : List Nat) (v : Nat), (∀ c ∈ w, c - s < b) → w.foldl (fun v c => v * b + (c - s)) v < (v + 1) * b ^ w.length
  | [], v, _ => by simp
  | c :: w, v, h => by
    have h1 := pw_ltv w (v * b + (c - s)) (fun x hx => h x (List.mem_cons_of_mem _ hx))
    have h2 := h c List.mem_cons_self
    rw [List.foldl_cons, List.length_cons]
    refine Nat.lt_of_lt_of_le h1 ?_
    rw [Nat.pow_succ, Nat.mul_comm (b ^ w.length) b, ← Nat.mul_assoc]
    refine Nat.mul_le_mul_right _ ?_
    rw [Nat.add_mul]
    omega
theorem pw_lt {b s : Nat} {w : List Nat} (h : ∀ c ∈ w, c - s < b) : pk b s w < b ^ w.length := by
  have := pw_ltv w 0 h
  rw [Nat.zero_add, Nat.one_mul] at this
  exact this
theorem pw_inj {b s : Nat} (hs : s < 97) (hb : 122 < b + s) : ∀ (n : Nat) (w w' : List Nat), w.length ≤ n → (∀ c ∈ w, 97 ≤ c ∧ c ≤ 122) → (∀ c ∈ w', 97 ≤ c ∧ c ≤ 122) → pk b s w = pk b s w' → w = w' := by
  have hz : ∀ (w : List Nat) (c : Nat), (∀ x ∈ w ++ [c], 97 ≤ x ∧ x ≤ 122) → pk b s (w ++ [c]) ≠ 0 := by
    intro w c h
    have := h c (by simp)
    rw [pw_s]
    omega
  intro n
  induction n with
  | zero =>
    intro w w' hn h1 h2 e
    have e0 : w = [] := List.length_eq_zero_iff.mp (by omega)
    subst e0
    rcases l_last w' with h0 | ⟨m, c, rfl⟩
    · exact h0.symm
    · exact absurd e.symm (hz m c h2)
  | succ n ih =>
    intro w w' hn h1 h2 e
    rcases l_last w with h0 | ⟨m, c, rfl⟩
    · subst h0
      rcases l_last w' with h0 | ⟨m, c, rfl⟩
      · exact h0.symm
      · exact absurd e.symm (hz m c h2)
    · rcases l_last w' with h0 | ⟨m', c', rfl⟩
      · subst h0
        exact absurd e (hz m c h1)
      · have hc := h1 c (by simp)
        have hc' := h2 c' (by simp)
        rw [pw_s, pw_s] at e
        have e1 : c - s = c' - s := by
          have h3 := congrArg (· % b) e
          simp only [Nat.mul_add_mod_self_right] at h3
          rw [Nat.mod_eq_of_lt (by omega), Nat.mod_eq_of_lt (by omega)] at h3
          exact h3
        have e2 : c = c' := by omega
        have e3 : pk b s m = pk b s m' := Nat.eq_of_mul_eq_mul_right (show 0 < b by omega) (by omega)
        rw [ih m m' (by rw [List.length_append] at hn; simp at hn; omega) (fun x hx => h1 x (by simp [hx])) (fun x hx => h2 x (by simp [hx])) e3, e2]
def wOk (w : List Nat) : Prop := w.length ≤ 8 ∧ ∀ c ∈ w, 97 ≤ c ∧ c ≤ 122
theorem wb_lN {a b : Nat} (ha : a < 2 ^ 64) (hb : b < 2 ^ 64) : lN a = lN b ↔ a = b :=
  ⟨fun e => by have := congrArg (fun x => x.toBitVec.toNat) e; simp only [wb_tn ha, wb_tn hb] at this; exact this, fun e => by rw [e]⟩
theorem pk64 {b s : Nat} {w : List Nat} (hs : s < 97) (hb : 122 < b + s) (hb2 : b ≤ 256) (hw : wOk w) : pk b s w < 2 ^ 64 := by
  have h := pw_lt (b := b) (s := s) (w := w) (fun c hc => by have := hw.2 c hc; omega)
  refine Nat.lt_of_lt_of_le h (Nat.le_trans (Nat.pow_le_pow_left hb2 _) ?_)
  refine Nat.le_trans (Nat.pow_le_pow_right (by decide) hw.1) (by decide)
/-- words are told apart by their numbers -/
theorem pw_eq {b s : Nat} (hs : s < 97) (hb : 122 < b + s) (hb2 : b ≤ 256) {w w' : List Nat} (h : wOk w) (h' : wOk w') : lN (pk b s w) = lN (pk b s w') ↔ w = w' := by
  rw [wb_lN (pk64 hs hb hb2 h) (pk64 hs hb hb2 h')]
  exact ⟨fun e => pw_inj hs hb _ w w' (Nat.le_refl _) h.2 h'.2 e, fun e => by rw [e]⟩
theorem wds_all : (wds.all fun w => decide (w.length ≤ 8) && w.all fun c => decide (97 ≤ c ∧ c ≤ 122)) = true := by decide +kernel
theorem wds_ok {k : Nat} (h : k < 28) : wOk (wds.getD k []) := by
  have hm : wds.getD k [] ∈ wds := by
    have hl : k < wds.length := h
    rw [List.getD_eq_getElem?_getD, List.getElem?_eq_getElem hl]
    exact List.getElem_mem hl
  have := List.all_eq_true.mp wds_all _ hm
  simp only [Bool.and_eq_true, decide_eq_true_eq, List.all_eq_true] at this
  exact this
theorem run_wOk {tp : List Nat} {p : Nat} (h : (run tp isL p).length ≤ 8) : wOk (run tp isL p) := ⟨h, fun c hc => by have := run_mem hc; simpa [isL] using this⟩
/-! cutting -/
def cutF (tp : List Nat) : Nat → Nat → List Tk
  | 0, _ => [(33, tp.length, [])]
  | n + 1, p =>
    if tp.length ≤ p then [(33, tp.length, [])]
    else if isL (tp.getD p 0) = true then (srtW (run tp isL p), p, run tp isL p) :: cutF tp n (p + (run tp isL p).length)
    else if isD (tp.getD p 0) = true then (if (run tp isD p).length ≤ 4 then 31 else 32, p, run tp isD p) :: cutF tp n (p + (run tp isD p).length)
    else if tp.getD p 0 = 10 ∨ tp.getD p 0 = 32 then cutF tp n (p + 1)
    else (if isG (tp.getD p 0) then tp.getD p 0 else 32, p, []) :: cutF tp n (p + 1)
def toks (tp : List Nat) : List Tk := cutF tp tp.length 0
theorem cutF_len (tp : List Nat) : ∀ n p, (cutF tp n p).length ≤ n + 1
  | 0, _ => by simp [cutF]
  | n + 1, p => by
    unfold cutF
    split
    · simp
    split
    · have := cutF_len tp n (p + (run tp isL p).length); simp; omega
    split
    · have := cutF_len tp n (p + (run tp isD p).length); simp; omega
    split
    · have := cutF_len tp n (p + 1); omega
    · have := cutF_len tp n (p + 1); simp; omega
theorem wdF_le (w : List Nat) : ∀ n k, k + n ≤ 28 → wdF w n k < 28 ∧ wds.getD (wdF w n k) [] = w ∨ wdF w n k = 30 ∧ ∀ j, k ≤ j → j < k + n → wds.getD j [] ≠ w
  | 0, k, _ => Or.inr ⟨rfl, fun j h1 h2 => by omega⟩
  | n + 1, k, h => by
    unfold wdF
    split
    · rename_i e
      exact Or.inl ⟨by omega, e⟩
    · rename_i e
      rcases wdF_le w n (k + 1) (by omega) with h1 | ⟨h1, h2⟩
      · exact Or.inl h1
      · refine Or.inr ⟨h1, fun j j1 j2 => ?_⟩
        by_cases ej : j = k
        · rw [ej]; exact e
        · exact h2 j (by omega) (by omega)
/-- what a token is -/
def tOk (t : Tk) : Prop := t.2.1 ≤ 1000 ∧ ((t.1 < 28 ∧ t.2.2 = wds.getD t.1 []) ∨ (t.1 = 30 ∧ wOk t.2.2 ∧ ∀ j, j < 28 → wds.getD j [] ≠ t.2.2) ∨ (t.1 = 31 ∧ pk 10 48 t.2.2 < 10000) ∨ t.1 = 32 ∨ t.1 = 33 ∨ isG t.1)
theorem tOk_lt {t : Tk} (h : tOk t) : t.1 < 62 := by rcases h.2 with h | h | h | h | h | h <;> omega
theorem tOk_w {t : Tk} (h : tOk t) (h1 : t.1 ≤ 30) : wOk t.2.2 := by
  rcases h.2 with h | h | h | h | h | h
  · rw [h.2]; exact wds_ok h.1
  · exact h.2.1
  · omega
  · omega
  · omega
  · omega
def eEnd : Tk := (33, 0, [])
def TkOk (ts : List Tk) : Prop := ts.length ≤ 1001 ∧ 1 ≤ ts.length ∧ ∀ i, i < ts.length → tOk (ts.getD i eEnd) ∧ ((ts.getD i eEnd).1 = 33 ↔ i + 1 = ts.length)
theorem cutF_ok {tp : List Nat} (hl : tp.length ≤ 1000) : ∀ n p, 1 ≤ (cutF tp n p).length ∧ ∀ i, i < (cutF tp n p).length → tOk ((cutF tp n p).getD i eEnd) ∧ (((cutF tp n p).getD i eEnd).1 = 33 ↔ i + 1 = (cutF tp n p).length) := by
  have hc : ∀ (t : Tk) (l : List Tk), tOk t → t.1 ≠ 33 → (1 ≤ l.length ∧ ∀ i, i < l.length → tOk (l.getD i eEnd) ∧ ((l.getD i eEnd).1 = 33 ↔ i + 1 = l.length)) → (1 ≤ (t :: l).length ∧ ∀ i, i < (t :: l).length → tOk ((t :: l).getD i eEnd) ∧ (((t :: l).getD i eEnd).1 = 33 ↔ i + 1 = (t :: l).length)) := by
    intro t l h1 h2 h3
    refine ⟨by simp, fun i hi => ?_⟩
    match i, hi with
    | 0, _ => exact ⟨h1, by simp only [List.getD_cons_zero, List.length_cons]; exact ⟨fun e => absurd e h2, fun e => by omega⟩⟩
    | i + 1, hi =>
      have := h3.2 i (by simpa using hi)
      simp only [List.getD_cons_succ, List.length_cons]
      exact ⟨this.1, this.2.trans ⟨fun e => by omega, fun e => by omega⟩⟩
  have he : (1 ≤ ([(33, tp.length, [])] : List Tk).length ∧ ∀ i, i < ([(33, tp.length, [])] : List Tk).length → tOk (([(33, tp.length, [])] : List Tk).getD i eEnd) ∧ ((([(33, tp.length, [])] : List Tk).getD i eEnd).1 = 33 ↔ i + 1 = ([(33, tp.length, [])] : List Tk).length)) := by
    refine ⟨by simp, fun i hi => ?_⟩
    have e : i = 0 := by simp at hi; omega
    subst e
    exact ⟨⟨hl, Or.inr (Or.inr (Or.inr (Or.inr (Or.inl rfl))))⟩, by simp⟩
  intro n
  induction n with
  | zero => intro p; exact he
  | succ n ih =>
    intro p
    unfold cutF
    split
    · exact he
    split
    · refine hc _ _ ⟨by show p ≤ 1000; omega, ?_⟩ ?_ (ih _)
      · show (srtW (run tp isL p) < 28 ∧ _) ∨ _
        unfold srtW
        split
        · rename_i h8
          rcases wdF_le (run tp isL p) 28 0 (by omega) with h | h
          · exact Or.inl ⟨h.1, h.2.symm⟩
          · refine Or.inr (Or.inl ⟨h.1, run_wOk h8, fun j hj => h.2 j (by omega) (by omega)⟩)
        · exact Or.inr (Or.inr (Or.inr (Or.inl rfl)))
      · show srtW (run tp isL p) ≠ 33
        unfold srtW
        split
        · rcases wdF_le (run tp isL p) 28 0 (by omega) with h | h <;> omega
        · decide
    split
    · refine hc _ _ ⟨by show p ≤ 1000; omega, ?_⟩ ?_ (ih _)
      · show ((if (run tp isD p).length ≤ 4 then 31 else 32) < 28 ∧ _) ∨ _
        by_cases h4 : (run tp isD p).length ≤ 4
        · refine Or.inr (Or.inr (Or.inl ⟨if_pos h4, ?_⟩))
          have h := pw_lt (b := 10) (s := 48) (w := run tp isD p) (fun c hc => by have := run_mem hc; simp [isD] at this; omega)
          exact Nat.lt_of_lt_of_le h (Nat.le_trans (Nat.pow_le_pow_right (by decide) h4) (by decide))
        · exact Or.inr (Or.inr (Or.inr (Or.inl (if_neg h4))))
      · show (if (run tp isD p).length ≤ 4 then 31 else 32) ≠ 33
        split <;> decide
    split
    · exact ih _
    · refine hc _ _ ⟨by show p ≤ 1000; omega, ?_⟩ ?_ (ih _)
      · show ((if isG (tp.getD p 0) then tp.getD p 0 else 32) < 28 ∧ _) ∨ _
        by_cases hg : isG (tp.getD p 0)
        · refine Or.inr (Or.inr (Or.inr (Or.inr (Or.inr ?_))))
          show isG (if isG (tp.getD p 0) then tp.getD p 0 else 32)
          rw [if_pos hg]; exact hg
        · exact Or.inr (Or.inr (Or.inr (Or.inl (if_neg hg))))
      · show (if isG (tp.getD p 0) then tp.getD p 0 else 32) ≠ 33
        split
        · rename_i hg; omega
        · decide
theorem toks_ok {tp : List Nat} (h : tp.length ≤ 1000) : TkOk (toks tp) := by
  have h1 := cutF_ok h tp.length 0
  have h2 := cutF_len tp tp.length 0
  exact ⟨by unfold toks; omega, h1⟩
