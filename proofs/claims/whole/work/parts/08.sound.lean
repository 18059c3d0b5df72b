theorem X_ldcw {mi : MI} {d mc ms : Nat} {al : Bool × Bool} {sr : Sr} {sx : Sx} {S : List Shp} {kc ks pc : Nat} {ls : Lc} {st : List Value} {I : Ints} {L : Lngs} {R : Rfs} {Q : Qt} {k : Nat} {v : Int32} (hw : Cond.constant (rn mi.1) k v ∈ Ts) (hd : decode mi.2.2.1 pc = .ok (.ldc_w k, 3)) (h : X mi d mc ms al sr sx S kc ks (pc + 3) ls (.int v :: st) I L R Q) : X mi d mc ms al sr sx S kc ks pc ls st I L R Q := by
  intro p l e Rm s m args below meth c D g ca H locs lsA hs hc
  exact lv_ldcw hs.1 hs.2.1 hs.2.2.2.2.1 (hs.2.2.2.2.2.1 _ hw) hd (h p l e Rm s m args below meth c D g ca H locs lsA hs hc)
theorem X_look {mi : MI} {d mc ms : Nat} {al : Bool × Bool} {sr : Sr} {sx : Sx} {S : List Shp} {kc ks pc : Nat} {ls : Lc} {st : List Value} {I : Ints} {L : Lngs} {R : Rfs} {Q : Qt} {dflt : Int} {ps : Array (Int × Int)} {len tgt : Nat} {x : Int32} (hd : decode mi.2.2.1 pc = .ok (.lookupswitch dflt ps, len)) (hp : (ps.toList.zip (ps.toList.drop 1)).all (fun (a, next) => a.1 < next.1) = true) (ht : (pc : Int) + Op.lookupswitch.offset ps.toList dflt x.toInt = (tgt : Int)) (h : X mi d mc ms al sr sx S kc ks tgt ls st I L R Q) : X mi d mc ms al sr sx S kc ks pc ls (.int x :: st) I L R Q := by
  intro p l e Rm s m args below meth c D g ca H locs lsA hs hc
  exact lv_lookup hs.1 hs.2.1 hd hp rfl ht (h p l e Rm s m args below meth c D g ca H locs lsA hs hc)
theorem X_tabO {mi : MI} {d mc ms : Nat} {al : Bool × Bool} {sr : Sr} {sx : Sx} {S : List Shp} {kc ks pc : Nat} {ls : Lc} {st : List Value} {I : Ints} {L : Lngs} {R : Rfs} {Q : Qt} {dflt lo hi : Int} {offs : Array Int} {len tgt : Nat} {x : Int32} (hd : decode mi.2.2.1 pc = .ok (.tableswitch dflt lo hi offs, len)) (hx : x.toInt < lo ∨ hi < x.toInt) (ht : (pc : Int) + dflt = (tgt : Int)) (h : X mi d mc ms al sr sx S kc ks tgt ls st I L R Q) : X mi d mc ms al sr sx S kc ks pc ls (.int x :: st) I L R Q := by
  intro p l e Rm s m args below meth c D g ca H locs lsA hs hc
  exact lv_tableOut hs.1 hs.2.1 hd hx ht (h p l e Rm s m args below meth c D g ca H locs lsA hs hc)
theorem X_tabI {mi : MI} {d mc ms : Nat} {al : Bool × Bool} {sr : Sr} {sx : Sx} {S : List Shp} {kc ks pc : Nat} {ls : Lc} {st : List Value} {I : Ints} {L : Lngs} {R : Rfs} {Q : Qt} {dflt lo hi off : Int} {offs : Array Int} {len tgt : Nat} {x : Int32} (hd : decode mi.2.2.1 pc = .ok (.tableswitch dflt lo hi offs, len)) (h1 : ¬ x.toInt < lo) (h2 : ¬ hi < x.toInt) (ho : offs[(x.toInt - lo).toNat]? = some off) (ht : (pc : Int) + off = (tgt : Int)) (h : X mi d mc ms al sr sx S kc ks tgt ls st I L R Q) : X mi d mc ms al sr sx S kc ks pc ls (.int x :: st) I L R Q := by
  intro p l e Rm s m args below meth c D g ca H locs lsA hs hc
  exact lv_tableIn hs.1 hs.2.1 hd h1 h2 ho ht (h p l e Rm s m args below meth c D g ca H locs lsA hs hc)
theorem p1i_e {st : List Value} {k : Int32 → List Value → Prop} (h : p1i st k) : ∃ x r, st = Value.int x :: r ∧ k x r := by
  unfold p1i at h
  split at h
  · exact ⟨_, _, rfl, h⟩
  · exact h.elim
theorem p2i_e {st : List Value} {k : Int32 → Int32 → List Value → Prop} (h : p2i st k) : ∃ x y r, st = Value.int y :: Value.int x :: r ∧ k x y r := by
  unfold p2i at h
  split at h
  · exact ⟨_, _, _, rfl, h⟩
  · exact h.elim
theorem p1l_e {st : List Value} {k : Int64 → List Value → Prop} (h : p1l st k) : ∃ x r, st = Value.long x :: r ∧ k x r := by
  unfold p1l at h
  split at h
  · exact ⟨_, _, rfl, h⟩
  · exact h.elim
theorem p2l_e {st : List Value} {k : Int64 → Int64 → List Value → Prop} (h : p2l st k) : ∃ x y r, st = Value.long y :: Value.long x :: r ∧ k x y r := by
  unfold p2l at h
  split at h
  · exact ⟨_, _, _, rfl, h⟩
  · exact h.elim
theorem pli_e {st : List Value} {k : Int64 → Int32 → List Value → Prop} (h : pli st k) : ∃ x y r, st = Value.int y :: Value.long x :: r ∧ k x y r := by
  unfold pli at h
  split at h
  · exact ⟨_, _, _, rfl, h⟩
  · exact h.elim
theorem p1r_e {st : List Value} {k : Nat → List Value → Prop} (h : p1r st k) : ∃ o r, st = Value.ref o :: r ∧ k o r := by
  unfold p1r at h
  split at h
  · exact ⟨_, _, rfl, h⟩
  · exact h.elim
theorem pir_e {st : List Value} {k : Int32 → Nat → List Value → Prop} (h : pir st k) : ∃ i o r, st = Value.int i :: Value.ref o :: r ∧ k i o r := by
  unfold pir at h
  split at h
  · exact ⟨_, _, _, rfl, h⟩
  · exact h.elim
theorem piir_e {st : List Value} {k : Int32 → Int32 → Nat → List Value → Prop} (h : piir st k) : ∃ x i o r, st = Value.int x :: Value.int i :: Value.ref o :: r ∧ k x i o r := by
  unfold piir at h
  split at h
  · exact ⟨_, _, _, _, rfl, h⟩
  · exact h.elim
theorem plir_e {st : List Value} {k : Int64 → Int32 → Nat → List Value → Prop} (h : plir st k) : ∃ x i o r, st = Value.long x :: Value.int i :: Value.ref o :: r ∧ k x i o r := by
  unfold plir at h
  split at h
  · exact ⟨_, _, _, _, rfl, h⟩
  · exact h.elim
theorem piRf_e {st : List Value} {k : Int32 → Nat → List Value → Prop} (h : piRf st k) : ∃ x o r, st = Value.int x :: Value.ref o :: r ∧ k x o r := by
  unfold piRf at h
  split at h
  · exact ⟨_, _, _, rfl, h⟩
  · exact h.elim
theorem plRf_e {st : List Value} {k : Int64 → Nat → List Value → Prop} (h : plRf st k) : ∃ x o r, st = Value.long x :: Value.ref o :: r ∧ k x o r := by
  unfold plRf at h
  split at h
  · exact ⟨_, _, _, rfl, h⟩
  · exact h.elim
theorem prRf_e {st : List Value} {k : Nat → Nat → List Value → Prop} (h : prRf st k) : ∃ x o r, st = Value.ref x :: Value.ref o :: r ∧ k x o r := by
  unfold prRf at h
  split at h
  · exact ⟨_, _, _, rfl, h⟩
  · exact h.elim
theorem pil_e {st : List Value} {k : Int32 → Value → List Value → Prop} (h : pil st k) : ∃ i v r, st = Value.int i :: v :: r ∧ k i v r := by
  unfold pil at h
  split at h
  · exact ⟨_, _, _, rfl, h⟩
  · exact h.elim
theorem p1w_e {st : List Value} {k : Value → List Value → Prop} (h : p1w st k) : ∃ v r, st = v :: r ∧ k v r := by
  unfold p1w at h
  split at h
  · exact ⟨_, _, rfl, h⟩
  · exact h.elim
theorem p1v_e {st : List Value} {k : Value → List Value → Prop} (h : p1v st k) : ∃ v r, st = v :: r ∧ v.category = 1 ∧ k v r := by
  unfold p1v at h
  split at h
  · exact ⟨_, _, rfl, h⟩
  · exact h.elim
theorem p2v_e {st : List Value} {k : Value → Value → List Value → Prop} (h : p2v st k) : ∃ v w r, st = v :: w :: r ∧ (v.category = 1 ∧ w.category = 1) ∧ k v w r := by
  unfold p2v at h
  split at h
  · exact ⟨_, _, _, rfl, h⟩
  · exact h.elim
theorem ldi_e {o : Option Value} {k : Int32 → Prop} (h : ldi o k) : ∃ x, o = some (.int x) ∧ k x := by
  unfold ldi at h
  split at h
  · exact ⟨_, rfl, h⟩
  · exact h.elim
theorem ldl_e {o : Option Value} {k : Int64 → Prop} (h : ldl o k) : ∃ x, o = some (.long x) ∧ k x := by
  unfold ldl at h
  split at h
  · exact ⟨_, rfl, h⟩
  · exact h.elim
theorem ldr_e {o : Option Value} {k : Nat → Prop} (h : ldr o k) : ∃ x, o = some (.ref x) ∧ k x := by
  unfold ldr at h
  split at h
  · exact ⟨_, rfl, h⟩
  · exact h.elim
theorem lda_e {o : Option Value} {k : Value → Prop} (h : lda o k) : (∃ x, o = some (.ref x) ∧ k (.ref x)) ∨ ∃ x, o = some (.retAddr x) ∧ k (.retAddr x) := by
  unfold lda at h
  split at h
  · exact Or.inl ⟨_, rfl, h⟩
  · exact Or.inr ⟨_, rfl, h⟩
  · exact h.elim
def i32 (a : Int) : Bool := decide (-2147483648 ≤ a) && decide (a < 2147483648)
theorem i32_to {a : Int} (h : i32 a = true) : (Int32.ofInt a).toInt = a := by
  simp only [i32, Bool.and_eq_true, decide_eq_true_eq] at h
  rw [Int32.toInt_ofInt]
  have e : ((Int32.size : Nat) : Int) = 4294967296 := rfl
  simp only [Int.bmod, e]
  split <;> omega
def oko (pc : Nat) (off : Int) : Bool := decide (0 ≤ (pc : Int) + off)
theorem tg_eq {pc : Nat} {off : Int} (h : oko pc off = true) : (pc : Int) + off = ((tg pc off : Nat) : Int) := by
  simp only [oko, decide_eq_true_eq] at h
  simp [tg, Int.toNat_of_nonneg h]
/-- the length of an instruction, as it must be; jumps go to places -/
def cok (i : Instr) (cs : List Int32) : Bool := match i with
  | .iconst n => decide (Int32.ofInt n = cs.headD 0)
  | .bipush n => decide ((Int8.ofInt n).toInt32 = cs.headD 0)
  | .sipush n => decide ((Int16.ofInt n).toInt32 = cs.headD 0)
  | .iinc _ n => decide (Int32.ofInt n = cs.headD 0)
  | .tableswitch _ lo _ offs => decide (cs = (tbl lo offs.toList).map (fun q => Int32.ofInt q.1))
  | .lookupswitch _ ps => decide (cs = ps.toList.map (fun q => Int32.ofInt q.1))
  | _ => true
def jok (pc : Nat) (i : Instr) (len : Nat) : Bool := match i with
  | .bipush _ | .ldc _ | .iload _ | .lload _ | .aload _ | .istore _ | .lstore _ | .astore _ => len == 2
  | .sipush _ | .ldc_w _ | .ldc2_w _ | .iinc _ _ | .getfield _ | .putfield _ | .invokevirtual _ | .invokestatic _ => len == 3
  | .ifCond _ off | .if_icmp _ off | .goto off => len == 3 && oko pc off
  | .tableswitch dflt lo hi offs => oko pc dflt && offs.toList.all (oko pc) && i32 lo && i32 hi && decide (lo + offs.toList.length = hi + 1)
  | .lookupswitch dflt ps => oko pc dflt && ps.toList.all (fun q => oko pc q.2 && i32 q.1) && (ps.toList.zip (ps.toList.drop 1)).all (fun (a, next) => a.1 < next.1)
  | _ => len == 1
theorem sw_look {K : Int → Prop} {x : Int32} {dflt : Int} {P : Int → Bool} (hd : P dflt = true) : ∀ (l : List (Int × Int)), l.all (fun q => P q.2 && i32 q.1) = true → sw K x dflt l → P (Op.lookupswitch.offset l dflt x.toInt) = true ∧ K (Op.lookupswitch.offset l dflt x.toInt) := by
  intro l
  induction l with
  | nil => intro _ h; exact ⟨hd, h⟩
  | cons q r ih =>
    intro ha h
    simp only [List.all_cons, Bool.and_eq_true] at ha
    obtain ⟨⟨ha1, ha2⟩, ha3⟩ := ha
    obtain ⟨a, o⟩ := q
    by_cases hx : x = Int32.ofInt a
    · have e : Op.lookupswitch.offset ((a, o) :: r) dflt x.toInt = o := by
        have : x.toInt = a := by rw [hx]; exact i32_to ha2
        simp [Op.lookupswitch.offset, this]
      rw [e]
      exact ⟨ha1, h.1 hx⟩
    · rw [lv_osw hx (i32_to ha2)]
      exact ih ha3 (h.2 hx)
theorem sw_table {K : Int → Prop} {x : Int32} {dflt : Int} : ∀ (l : List Int) (lo : Int), (∀ j : Nat, j < l.length → i32 (lo + j) = true) → sw K x dflt (tbl lo l) → ((x.toInt < lo ∨ lo + l.length ≤ x.toInt) → K dflt) ∧ ∀ j : Nat, ∀ o, x.toInt = lo + j → l[j]? = some o → K o := by
  intro l
  induction l with
  | nil => intro lo _ h; exact ⟨fun _ => h, fun j o _ ho => by simp at ho⟩
  | cons a r ih =>
    intro lo hr h
    have h0 : (Int32.ofInt lo).toInt = lo := i32_to (by have := hr 0 (by simp); simpa using this)
    by_cases hx : x = Int32.ofInt lo
    · have hxl : x.toInt = lo := by rw [hx]; exact h0
      refine ⟨fun hh => ?_, fun j o hj ho => ?_⟩
      · simp only [List.length_cons] at hh
        omega
      · have : j = 0 := by omega
        subst this
        simp at ho
        subst ho
        exact h.1 hx
    · have hne : x.toInt ≠ lo := fun q => hx (Int32.toInt_inj.mp (q.trans h0.symm))
      obtain ⟨i1, i2⟩ := ih (lo + 1) (fun j hj => by have := hr (j + 1) (by simpa using hj); rw [show lo + 1 + (j : Int) = lo + ((j + 1 : Nat) : Int) by push_cast; omega]; exact this) (h.2 hx)
      refine ⟨fun hh => i1 ?_, fun j o hj ho => ?_⟩
      · simp only [List.length_cons] at hh
        push_cast at hh
        omega
      · cases j with
        | zero => simp at hj; exact absurd hj hne
        | succ j =>
          simp at ho
          exact i2 j o (by push_cast at hj; omega) ho
theorem getr_sr {mi : MI} {d mc ms : Nat} {al : Bool × Bool} {sr : Sr} {sx : Sx} {S : List Shp} {kc ks pc : Nat} {ls : Lc} {st : List Value} {I : Ints} {L : Lngs} {R : Rfs} {Q : Qt} {o k q : Nat} (hq : sr o k = some q ∨ R o k = some q) (h : R o k = some q → X mi d mc ms al sr sx S kc ks pc ls st I L R Q) : X mi d mc ms al sr sx S kc ks pc ls st I L R Q := by
  intro p l e Rm s m args below meth c D g ca H locs lsA hs hc
  exact h (hq.elim (hc.2.1 o k q) id) p l e Rm s m args below meth c D g ca H locs lsA hs hc
theorem nfin_ok {ci k : Nat} (h : nfin ci k = true) : ∀ q, vwCl[ci]? = some q → (q.2.1 k).2.2.2 = false := by
  intro q hq
  unfold nfin Tn at h
  rw [hq] at h
  simpa using h
theorem popA_eq (n : Nat) (st : List Value) : st = (popA n st).1.reverse ++ (popA n st).2 := by simp [popA]
theorem E0_use {mj : MI} {d : Nat} {sx : Sx} {args : List Value} {I : Ints} {L : Lngs} {R : Rfs} {q : Q3} {Q : Qt} (h : E0 mj d sx args I L R q) (hq : ∀ r I L R, q r I L R → Q r S0 I L R) : EV mj d 0 0 (false, false) sr0 sx S0 args I L R Q := EV_mono h (fun r S I L R hh => by obtain ⟨rfl, h2⟩ := hh; exact hq r I L R h2)
set_option maxHeartbeats 4000000 in
theorem wp1_ok {mc ms kc ks : Nat} (hk : kc ≤ mc ∧ ks ≤ ms) {mi : MI} {d : Nat} {sx : Sx} {i : Instr} {cs : List Int32} {pc len : Nat} {nx : NT} {jm : Nat → NT} {q : Q3} {ls : Lc} {st : List Value} {I : Ints} {L : Lngs} {R : Rfs} (hd : decode mi.2.2.1 pc = .ok (i, len)) (hj : jok pc i len = true) (hcn : cok i cs = true)
    (hn : ∀ ls st I L R, nx ls st I L R → YK mc ms kc ks mi (d + 1) sx (pc + len) ls st I L R q) (hm : ∀ t ls st I L R, jm t ls st I L R → YK mc ms kc ks mi (d + 1) sx t ls st I L R q) (h : wp1 mi d sx i cs pc nx jm q ls st I L R) : YK mc ms kc ks mi (d + 1) sx pc ls st I L R q := by
  cases i
  all_goals try exact (h : False).elim
  case iconst n =>
    obtain rfl : len = 1 := by simpa [jok] using hj
    have hcn := of_decide_eq_true hcn
    simp only [wp1] at h
    rw [← hcn] at h
    exact X_iconst hd (hn _ _ _ _ _ h)
  case bipush n =>
    obtain rfl : len = 2 := by simpa [jok] using hj
    have hcn := of_decide_eq_true hcn
    simp only [wp1] at h
    rw [← hcn] at h
    exact X_bipush hd (hn _ _ _ _ _ h)
  case sipush n =>
    obtain rfl : len = 3 := by simpa [jok] using hj
    have hcn := of_decide_eq_true hcn
    simp only [wp1] at h
    rw [← hcn] at h
    exact X_sipush hd (hn _ _ _ _ _ h)
  case lconst n =>
    obtain rfl : len = 1 := by simpa [jok] using hj
    exact X_lconst hd (hn _ _ _ _ _ h)
  case ldc k =>
    obtain rfl : len = 2 := by simpa [jok] using hj
    simp only [wp1] at h
    split at h
    · rename_i v hv
      exact X_ldc (kc_ok hv) hd (hn _ _ _ _ _ h)
    · exact h.elim
  case ldc_w k =>
    obtain rfl : len = 3 := by simpa [jok] using hj
    simp only [wp1] at h
    split at h
    · rename_i v hv
      exact X_ldcw (kc_ok hv) hd (hn _ _ _ _ _ h)
    · exact h.elim
  case ldc2_w k =>
    obtain rfl : len = 3 := by simpa [jok] using hj
    simp only [wp1] at h
    split at h
    · rename_i v hv
      exact X_ldc2 (kl_ok hv) hd (hn _ _ _ _ _ h)
    · exact h.elim
  case iadd =>
    obtain rfl : len = 1 := by simpa [jok] using hj
    obtain ⟨x, y, r, rfl, h⟩ := p2i_e h
    exact X_iadd hd (hn _ _ _ _ _ h)
  case isub =>
    obtain rfl : len = 1 := by simpa [jok] using hj
    obtain ⟨x, y, r, rfl, h⟩ := p2i_e h
    exact X_isub hd (hn _ _ _ _ _ h)
  case imul =>
    obtain rfl : len = 1 := by simpa [jok] using hj
    obtain ⟨x, y, r, rfl, h⟩ := p2i_e h
    exact X_imul hd (hn _ _ _ _ _ h)
  case iand =>
    obtain rfl : len = 1 := by simpa [jok] using hj
    obtain ⟨x, y, r, rfl, h⟩ := p2i_e h
    exact X_iand hd (hn _ _ _ _ _ h)
  case ior =>
    obtain rfl : len = 1 := by simpa [jok] using hj
    obtain ⟨x, y, r, rfl, h⟩ := p2i_e h
    exact X_ior hd (hn _ _ _ _ _ h)
  case ixor =>
    obtain rfl : len = 1 := by simpa [jok] using hj
    obtain ⟨x, y, r, rfl, h⟩ := p2i_e h
    exact X_ixor hd (hn _ _ _ _ _ h)
  case ishl =>
    obtain rfl : len = 1 := by simpa [jok] using hj
    obtain ⟨x, y, r, rfl, h⟩ := p2i_e h
    exact X_ishl hd (hn _ _ _ _ _ h)
  case ishr =>
    obtain rfl : len = 1 := by simpa [jok] using hj
    obtain ⟨x, y, r, rfl, h⟩ := p2i_e h
    exact X_ishr hd (hn _ _ _ _ _ h)
  case iushr =>
    obtain rfl : len = 1 := by simpa [jok] using hj
    obtain ⟨x, y, r, rfl, h⟩ := p2i_e h
    exact X_iushr hd (hn _ _ _ _ _ h)
  case idiv =>
    obtain rfl : len = 1 := by simpa [jok] using hj
    obtain ⟨x, y, r, rfl, h0, h⟩ := p2i_e h
    exact X_idiv h0 hd (hn _ _ _ _ _ h)
  case irem =>
    obtain rfl : len = 1 := by simpa [jok] using hj
    obtain ⟨x, y, r, rfl, h0, h⟩ := p2i_e h
    exact X_irem h0 hd (hn _ _ _ _ _ h)
  case ladd =>
    obtain rfl : len = 1 := by simpa [jok] using hj
    obtain ⟨x, y, r, rfl, h⟩ := p2l_e h
    exact X_ladd hd (hn _ _ _ _ _ h)
  case lsub =>
    obtain rfl : len = 1 := by simpa [jok] using hj
    obtain ⟨x, y, r, rfl, h⟩ := p2l_e h
    exact X_lsub hd (hn _ _ _ _ _ h)
  case lmul =>
    obtain rfl : len = 1 := by simpa [jok] using hj
    obtain ⟨x, y, r, rfl, h⟩ := p2l_e h
    exact X_lmul hd (hn _ _ _ _ _ h)
  case land =>
    obtain rfl : len = 1 := by simpa [jok] using hj
    obtain ⟨x, y, r, rfl, h⟩ := p2l_e h
    exact X_land hd (hn _ _ _ _ _ h)
  case lor =>
    obtain rfl : len = 1 := by simpa [jok] using hj
    obtain ⟨x, y, r, rfl, h⟩ := p2l_e h
    exact X_lor hd (hn _ _ _ _ _ h)
  case lxor =>
    obtain rfl : len = 1 := by simpa [jok] using hj
    obtain ⟨x, y, r, rfl, h⟩ := p2l_e h
    exact X_lxor hd (hn _ _ _ _ _ h)
  case ldiv =>
    obtain rfl : len = 1 := by simpa [jok] using hj
    obtain ⟨x, y, r, rfl, h0, h⟩ := p2l_e h
    exact X_ldiv h0 hd (hn _ _ _ _ _ h)
  case lrem =>
    obtain rfl : len = 1 := by simpa [jok] using hj
    obtain ⟨x, y, r, rfl, h0, h⟩ := p2l_e h
    exact X_lrem h0 hd (hn _ _ _ _ _ h)
  case lshl =>
    obtain rfl : len = 1 := by simpa [jok] using hj
    obtain ⟨x, y, r, rfl, h⟩ := pli_e h
    exact X_lshl hd (hn _ _ _ _ _ h)
  case lshr =>
    obtain rfl : len = 1 := by simpa [jok] using hj
    obtain ⟨x, y, r, rfl, h⟩ := pli_e h
    exact X_lshr hd (hn _ _ _ _ _ h)
  case lushr =>
    obtain rfl : len = 1 := by simpa [jok] using hj
    obtain ⟨x, y, r, rfl, h⟩ := pli_e h
    exact X_lushr hd (hn _ _ _ _ _ h)
  case i2l =>
    obtain rfl : len = 1 := by simpa [jok] using hj
    obtain ⟨x, r, rfl, h⟩ := p1i_e h
    exact X_i2l hd (hn _ _ _ _ _ h)
  case i2s =>
    obtain rfl : len = 1 := by simpa [jok] using hj
    obtain ⟨x, r, rfl, h⟩ := p1i_e h
    exact X_i2s hd (hn _ _ _ _ _ h)
  case i2c =>
    obtain rfl : len = 1 := by simpa [jok] using hj
    obtain ⟨x, r, rfl, h⟩ := p1i_e h
    exact X_i2c hd (hn _ _ _ _ _ h)
  case ineg =>
    obtain rfl : len = 1 := by simpa [jok] using hj
    obtain ⟨x, r, rfl, h⟩ := p1i_e h
    exact X_ineg hd (hn _ _ _ _ _ h)
  case l2i =>
    obtain rfl : len = 1 := by simpa [jok] using hj
    obtain ⟨x, r, rfl, h⟩ := p1l_e h
    exact X_l2i hd (hn _ _ _ _ _ h)
  case lcmp =>
    obtain rfl : len = 1 := by simpa [jok] using hj
    obtain ⟨x, y, r, rfl, h⟩ := p2l_e h
    exact X_lcmp hd (hn _ _ _ _ _ h)
  case dup =>
    obtain rfl : len = 1 := by simpa [jok] using hj
    obtain ⟨v, r, rfl, h1, h⟩ := p1v_e h
    exact X_dup h1 hd (hn _ _ _ _ _ h)
  case pop =>
    obtain rfl : len = 1 := by simpa [jok] using hj
    obtain ⟨v, r, rfl, h1, h⟩ := p1v_e h
    exact X_pop h1 hd (hn _ _ _ _ _ h)
  case dup2 =>
    obtain rfl : len = 1 := by simpa [jok] using hj
    obtain ⟨v, w, r, rfl, ⟨h1, h2⟩, h⟩ := p2v_e h
    exact X_dup2 h1 h2 hd (hn _ _ _ _ _ h)
  case dup_x1 =>
    obtain rfl : len = 1 := by simpa [jok] using hj
    obtain ⟨v, w, r, rfl, ⟨h1, h2⟩, h⟩ := p2v_e h
    exact X_dup_x1 h1 h2 hd (hn _ _ _ _ _ h)
  case iload i =>
    obtain rfl : len = 2 := by simpa [jok] using hj
    obtain ⟨x, h1, h⟩ := ldi_e h
    exact X_iload h1 hd (hn _ _ _ _ _ h)
  case iload_n i =>
    obtain rfl : len = 1 := by simpa [jok] using hj
    obtain ⟨x, h1, h⟩ := ldi_e h
    exact X_iload_n h1 hd (hn _ _ _ _ _ h)
  case lload i =>
    obtain rfl : len = 2 := by simpa [jok] using hj
    obtain ⟨x, h1, h⟩ := ldl_e h
    exact X_lload h1 hd (hn _ _ _ _ _ h)
  case lload_n i =>
    obtain rfl : len = 1 := by simpa [jok] using hj
    obtain ⟨x, h1, h⟩ := ldl_e h
    exact X_lload_n h1 hd (hn _ _ _ _ _ h)
  case aload i =>
    obtain rfl : len = 2 := by simpa [jok] using hj
    obtain ⟨x, h1, h⟩ := ldr_e h
    exact X_aload h1 hd (hn _ _ _ _ _ h)
  case aload_n i =>
    obtain rfl : len = 1 := by simpa [jok] using hj
    rcases lda_e (o := gL ls i) (k := fun v => nx ls (v :: st) I L R) h with ⟨x, h1, h⟩ | ⟨x, h1, h⟩
    · exact X_aload_n h1 hd (hn _ _ _ _ _ h)
    · exact X_aloadS_n h1 hd (hn _ _ _ _ _ h)
  case istore i =>
    obtain rfl : len = 2 := by simpa [jok] using hj
    obtain ⟨x, r, rfl, h1, h⟩ := p1i_e h
    exact X_istore h1 hd (hn _ _ _ _ _ h)
  case istore_n i =>
    obtain rfl : len = 1 := by simpa [jok] using hj
    obtain ⟨x, r, rfl, h1, h⟩ := p1i_e h
    exact X_istore_n h1 hd (hn _ _ _ _ _ h)
  case lstore i =>
    obtain rfl : len = 2 := by simpa [jok] using hj
    obtain ⟨x, r, rfl, h1, h⟩ := p1l_e h
    exact X_lstore h1 hd (hn _ _ _ _ _ h)
  case lstore_n i =>
    obtain rfl : len = 1 := by simpa [jok] using hj
    obtain ⟨x, r, rfl, h1, h⟩ := p1l_e h
    exact X_lstore_n h1 hd (hn _ _ _ _ _ h)
  case astore i =>
    obtain rfl : len = 2 := by simpa [jok] using hj
    obtain ⟨x, r, rfl, h1, h⟩ := p1r_e h
    exact X_astore h1 hd (hn _ _ _ _ _ h)
  case astore_n i =>
    obtain rfl : len = 1 := by simpa [jok] using hj
    obtain ⟨x, r, rfl, h1, h⟩ := p1r_e h
    exact X_astore_n h1 hd (hn _ _ _ _ _ h)
  case iinc i n =>
    obtain rfl : len = 3 := by simpa [jok] using hj
    have hcn := of_decide_eq_true hcn
    simp only [wp1] at h
    rw [← hcn] at h
    obtain ⟨x, h1, h2, h⟩ := ldi_e h
    exact X_iinc h1 h2 hd (hn _ _ _ _ _ h)
  case ifCond c off =>
    simp only [jok, Bool.and_eq_true, beq_iff_eq] at hj
    obtain ⟨rfl, ho⟩ := hj
    obtain ⟨x, r, rfl, h1, h2⟩ := p1i_e h
    cases c
    · exact X_if_eq hd (tg_eq ho) (fun z => hm _ _ _ _ _ _ (h1 z)) (fun z => hn _ _ _ _ _ (h2 z))
    · exact X_if_ne hd (tg_eq ho) (fun z => hm _ _ _ _ _ _ (h1 z)) (fun z => hn _ _ _ _ _ (h2 z))
    · exact X_if_lt hd (tg_eq ho) (fun z => hm _ _ _ _ _ _ (h1 z)) (fun z => hn _ _ _ _ _ (h2 z))
    · exact X_if_ge hd (tg_eq ho) (fun z => hm _ _ _ _ _ _ (h1 z)) (fun z => hn _ _ _ _ _ (h2 z))
    · exact X_if_gt hd (tg_eq ho) (fun z => hm _ _ _ _ _ _ (h1 z)) (fun z => hn _ _ _ _ _ (h2 z))
    · exact X_if_le hd (tg_eq ho) (fun z => hm _ _ _ _ _ _ (h1 z)) (fun z => hn _ _ _ _ _ (h2 z))
  case if_icmp c off =>
    simp only [jok, Bool.and_eq_true, beq_iff_eq] at hj
    obtain ⟨rfl, ho⟩ := hj
    obtain ⟨x, y, r, rfl, h1, h2⟩ := p2i_e h
    cases c
    · exact X_icmp_eq hd (tg_eq ho) (fun z => hm _ _ _ _ _ _ (h1 z)) (fun z => hn _ _ _ _ _ (h2 z))
    · exact X_icmp_ne hd (tg_eq ho) (fun z => hm _ _ _ _ _ _ (h1 z)) (fun z => hn _ _ _ _ _ (h2 z))
    · exact X_icmp_lt hd (tg_eq ho) (fun z => hm _ _ _ _ _ _ (h1 z)) (fun z => hn _ _ _ _ _ (h2 z))
    · exact X_icmp_ge hd (tg_eq ho) (fun z => hm _ _ _ _ _ _ (h1 z)) (fun z => hn _ _ _ _ _ (h2 z))
    · exact X_icmp_gt hd (tg_eq ho) (fun z => hm _ _ _ _ _ _ (h1 z)) (fun z => hn _ _ _ _ _ (h2 z))
    · exact X_icmp_le hd (tg_eq ho) (fun z => hm _ _ _ _ _ _ (h1 z)) (fun z => hn _ _ _ _ _ (h2 z))
  case goto off =>
    simp only [jok, Bool.and_eq_true, beq_iff_eq] at hj
    obtain ⟨rfl, ho⟩ := hj
    exact X_goto hd (tg_eq ho) (hm _ _ _ _ _ _ h)
  case lookupswitch dflt ps =>
    simp only [jok, Bool.and_eq_true] at hj
    obtain ⟨⟨h1, h2⟩, h3⟩ := hj
    obtain ⟨x, r, rfl, h⟩ := p1i_e h
    have hcn := of_decide_eq_true hcn
    subst hcn
    obtain ⟨g1, g2⟩ := sw_look (P := oko pc) h1 _ h2 (sw2_sw _ h)
    exact X_look hd h3 (tg_eq g1) (hm _ _ _ _ _ _ g2)
  case tableswitch dflt lo hi offs =>
    simp only [jok, Bool.and_eq_true, decide_eq_true_eq] at hj
    obtain ⟨⟨⟨⟨h1, h2⟩, h3⟩, h4⟩, h5⟩ := hj
    obtain ⟨x, r, rfl, h⟩ := p1i_e h
    simp only [i32, Bool.and_eq_true, decide_eq_true_eq] at h3 h4
    have hcn := of_decide_eq_true hcn
    subst hcn
    obtain ⟨g1, g2⟩ := sw_table offs.toList lo (fun j hj => by simp only [i32, Bool.and_eq_true, decide_eq_true_eq]; omega) (sw2_sw _ (by rw [tbl_snd]; exact h))
    by_cases hx : x.toInt < lo ∨ hi < x.toInt
    · exact X_tabO hd hx (tg_eq h1) (hm _ _ _ _ _ _ (g1 (by omega)))
    · have hj2 : (x.toInt - lo).toNat < offs.toList.length := by omega
      have e2 : offs.toList[(x.toInt - lo).toNat]? = some offs.toList[(x.toInt - lo).toNat] := List.getElem?_eq_getElem hj2
      exact X_tabI hd (by omega) (by omega) (by rw [← Array.getElem?_toList]; exact e2) (tg_eq (List.all_eq_true.mp h2 _ (List.getElem_mem hj2))) (hm _ _ _ _ _ _ (g2 _ _ (by omega) e2))
  case getfield k =>
    obtain rfl : len = 3 := by simpa [jok] using hj
    obtain ⟨o, r, e0, h9⟩ := p1r_e h
    clear h
    subst e0
    have h := h9
    clear h9
    split at h
    · rename_i f hf
      have hF := fl_ok hf
      obtain ⟨hS, h⟩ := h
      unfold gtf at h
      split at h
      · rename_i ht
        exact X_getl hF ht hS hd (hn _ _ _ _ _ h)
      · rename_i ht
        obtain ⟨q1, hq, h⟩ := h
        exact getr_sr hq (fun hq => X_getr hq hF (by rw [ht]; rfl) hS hd (hn _ _ _ _ _ h))
      · rename_i ht
        obtain ⟨q1, hq, h⟩ := h
        exact getr_sr hq (fun hq => X_getr hq hF (by rw [ht]; rfl) hS hd (hn _ _ _ _ _ h))
      · exact h.elim
      · exact h.elim
      · rename_i t1 t2 t3 t4 t5
        exact X_geti hF (by
          revert t1 t2 t3 t4 t5
          cases fty f.1 f.2 <;> intro t1 t2 t3 t4 t5 <;> first | rfl | exact absurd rfl t1 | exact absurd rfl (t2 _) | exact absurd rfl (t3 _) | exact absurd rfl t4 | exact absurd rfl t5) hS hd (hn _ _ _ _ _ h)
    · exact h.elim
  case putfield k =>
    obtain rfl : len = 3 := by simpa [jok] using hj
    simp only [wp1] at h
    split at h
    · rename_i f hf
      have hF := fl_ok hf
      obtain ⟨h0, h⟩ := h
      have hfin := nfin_ok h0
      unfold ptf at h
      split at h
      · rename_i ht
        obtain ⟨x, o, r, rfl, hS, h⟩ := piRf_e h
        exact X_puti hF ht hfin hS hd (hn _ _ _ _ _ h)
      · rename_i ht
        obtain ⟨x, o, r, rfl, hS, hz, h⟩ := piRf_e h
        exact X_putz hF ht hz hfin hS hd (hn _ _ _ _ _ h)
      · rename_i ht
        obtain ⟨x, o, r, rfl, hS, h⟩ := plRf_e h
        exact X_putl hF ht hfin hS hd (hn _ _ _ _ _ h)
      · rename_i ht
        obtain ⟨x, o, r, rfl, hS, hz, h⟩ := prRf_e h
        exact X_putr hF (by rw [ht]; rfl) hz hfin hS hd (hn _ _ _ _ _ h)
      · rename_i ht
        obtain ⟨x, o, r, rfl, hS, hz, h⟩ := prRf_e h
        exact X_putr hF (by rw [ht]; rfl) hz hfin hS hd (hn _ _ _ _ _ h)
      · exact h.elim
    · exact h.elim
  case iaload =>
    obtain rfl : len = 1 := by simpa [jok] using hj
    obtain ⟨i, v, r, e0, h9⟩ := pil_e h
    clear h
    subst e0
    have h := h9
    clear h9
    split at h
    · obtain ⟨n, hS, hi, h⟩ := h
      exact X_iald hS hi hd (hn _ _ _ _ _ h)
    · exact X_sld h.1 hd (hn _ _ _ _ _ h.2)
    · exact h.elim
  case caload =>
    obtain rfl : len = 1 := by simpa [jok] using hj
    obtain ⟨i, o, r, rfl, n, hS, hi, h⟩ := pir_e h
    exact X_cald hS hi hd (hn _ _ _ _ _ h)
  case saload =>
    obtain rfl : len = 1 := by simpa [jok] using hj
    obtain ⟨i, o, r, rfl, n, hS, hi, h⟩ := pir_e h
    exact X_sald hS hi hd (hn _ _ _ _ _ h)
  case baload =>
    obtain rfl : len = 1 := by simpa [jok] using hj
    obtain ⟨i, o, r, rfl, n, hS, hi, h⟩ := pir_e h
    exact X_zald hS hi hd (hn _ _ _ _ _ h)
  case laload =>
    obtain rfl : len = 1 := by simpa [jok] using hj
    obtain ⟨i, o, r, rfl, n, hS, hi, h⟩ := pir_e h
    exact X_lald hS hi hd (hn _ _ _ _ _ h)
  case aaload =>
    obtain rfl : len = 1 := by simpa [jok] using hj
    obtain ⟨i, o, r, rfl, n, C, q1, hS, hi, hq, h⟩ := pir_e h
    exact getr_sr hq (fun hq => X_aald hS hi hq hd (hn _ _ _ _ _ h))
  case iastore =>
    obtain rfl : len = 1 := by simpa [jok] using hj
    obtain ⟨x, i, o, r, rfl, n, hS, hi, h⟩ := piir_e h
    exact X_iast hS hi hd (hn _ _ _ _ _ h)
  case castore =>
    obtain rfl : len = 1 := by simpa [jok] using hj
    obtain ⟨x, i, o, r, rfl, n, hS, hi, h⟩ := piir_e h
    exact X_cast hS hi hd (hn _ _ _ _ _ h)
  case sastore =>
    obtain rfl : len = 1 := by simpa [jok] using hj
    obtain ⟨x, i, o, r, rfl, n, hS, hi, h⟩ := piir_e h
    exact X_sast hS hi hd (hn _ _ _ _ _ h)
  case bastore =>
    obtain rfl : len = 1 := by simpa [jok] using hj
    obtain ⟨x, i, o, r, rfl, n, hS, hi, h⟩ := piir_e h
    exact X_zast hS hi hd (hn _ _ _ _ _ h)
  case lastore =>
    obtain rfl : len = 1 := by simpa [jok] using hj
    obtain ⟨x, i, o, r, rfl, n, hS, hi, h⟩ := plir_e h
    exact X_last hS hi hd (hn _ _ _ _ _ h)
  case arraylength =>
    obtain rfl : len = 1 := by simpa [jok] using hj
    obtain ⟨v, r, e0, h9⟩ := p1w_e h
    clear h
    subst e0
    have h := h9
    clear h9
    split at h
    · obtain ⟨ty, n, hS, h⟩ := h
      exact X_alen hS hd (hn _ _ _ _ _ h)
    · exact X_slen hd (hn _ _ _ _ _ h)
    · exact h.elim
  case ireturn =>
    obtain rfl : len = 1 := by simpa [jok] using hj
    obtain ⟨x, r, e0, e1, h9⟩ := p1i_e h
    clear h
    subst e1
    subst e0
    have h := h9
    clear h9
    unfold rtv at h
    split at h
    · rename_i hr
      exact X_iret (st := []) hr hk.1 hk.2 (fun z => absurd z (by decide)) hd ⟨rfl, h⟩
    · rename_i hr
      exact X_zret (st := []) hr h.1 hk.1 hk.2 (fun z => absurd z (by decide)) hd ⟨rfl, h.2⟩
    · exact h.elim
  case lreturn =>
    obtain rfl : len = 1 := by simpa [jok] using hj
    obtain ⟨x, r, rfl, rfl, hr, h⟩ := p1l_e h
    exact X_lret (st := []) hr hk.1 hk.2 (fun z => absurd z (by decide)) hd ⟨rfl, h⟩
  case areturn =>
    obtain rfl : len = 1 := by simpa [jok] using hj
    obtain ⟨x, r, rfl, rfl, ⟨C, hr⟩, h⟩ := p1r_e h
    exact X_aret (st := []) hr hk.1 hk.2 (fun z => absurd z (by decide)) hd ⟨rfl, h⟩
  case return_ =>
    obtain rfl : len = 1 := by simpa [jok] using hj
    obtain ⟨rfl, hr, h⟩ := h
    exact X_vret (st := []) hr hk.1 hk.2 (fun z => absurd z (by decide)) hd ⟨rfl, h⟩
  case invokevirtual k =>
    obtain rfl : len = 3 := by simpa [jok] using hj
    simp only [wp1] at h
    split at h
    · rename_i mj n ci hml
      have hw := (ml_ok hml).1 ci rfl
      obtain ⟨o, r, e1, h1, h2, h3, h4⟩ := p1r_e h
      exact X_callV (d' := d) (mc' := 0) (ms' := 0) rfl hw h1 (by rw [← e1]; exact popA_eq n st) h2 h3 (Nat.le_refl _) hk.1 hk.2 hd (E0_use h4 (fun r I L R hh => hn _ _ _ _ _ hh))
    · exact h.elim
  case invokestatic k =>
    obtain rfl : len = 3 := by simpa [jok] using hj
    simp only [wp1] at h
    split at h
    · rename_i mj n hml
      have hw := (ml_ok hml).2 rfl
      obtain ⟨h1, h3, h4⟩ := h
      exact X_callS (d' := d) (mc' := 0) (ms' := 0) rfl hw h1 (popA_eq n st) h3 (Nat.le_refl _) hk.1 hk.2 hd (E0_use h4 (fun r I L R hh => hn _ _ _ _ _ hh))
    · exact h.elim
    · obtain ⟨h0, h⟩ := h
      unfold clC at h
      split at h
      · obtain ⟨n0, n1, h1, h2, h3, h4, h5, h6, h7, h8, h⟩ := h
        exact X_copy h0 h1 h2 h3 h4 h5 h6 h7 (Nat.le_add_left 1 d) h8 hd (hn _ _ _ _ _ h)
      · exact h.elim
/-! stretches -/
def cdB (bytes : ByteArray) : List (Instr × Nat × List Int32) → Nat → Bool
  | [], _ => true
  | (i, len, cs) :: r, pc => decide (decode bytes pc = .ok (i, len)) && jok pc i len && cok i cs && cdB bytes r (pc + len)
def wpB (mi : MI) (d : Nat) (sx : Sx) (jm : Nat → NT) (q : Q3) : List (Instr × Nat × List Int32) → Nat → NT
  | [], pc => jm pc
  | (i, len, cs) :: r, pc => wp1 mi d sx i cs pc (wpB mi d sx jm q r (pc + len)) jm q
def lvl (lv : List (Nat × List Nat)) (pc : Nat) : List Nat := match lk lv pc with
  | some l => l
  | none => []
theorem X_blkK {mc ms kc ks : Nat} (hk : kc ≤ mc ∧ ks ≤ ms) {mi : MI} {d : Nat} {sx : Sx} {q : Q3} (lv : List (Nat × List Nat)) : ∀ (is : List (Instr × Nat × List Int32)) {pc : Nat} {ls : Lc} {st : List Value} {I : Ints} {L : Lngs} {R : Rfs}, cdB mi.2.2.1 is pc = true →
    wpB mi d sx (fun pc ls st I L R => YK mc ms kc ks mi (d + 1) sx pc (pkL ls (lvl lv pc)) st I L R q) q is pc ls st I L R → YK mc ms kc ks mi (d + 1) sx pc ls st I L R q := by
  intro is
  induction is with
  | nil => intro pc ls st I L R _ h; exact X_sub _ h
  | cons a r ih =>
    intro pc ls st I L R hc h
    obtain ⟨i, len, cs⟩ := a
    simp only [cdB, Bool.and_eq_true, decide_eq_true_eq] at hc
    exact wp1_ok hk hc.1.1.1 hc.1.1.2 hc.1.2 (fun ls st I L R hh => ih hc.2 hh) (fun t ls st I L R hh => X_sub _ hh) h
theorem X_blk {mi : MI} {d : Nat} {sx : Sx} {q : Q3} (lv : List (Nat × List Nat)) (is : List (Instr × Nat × List Int32)) {pc : Nat} {ls : Lc} {st : List Value} {I : Ints} {L : Lngs} {R : Rfs} (hc : cdB mi.2.2.1 is pc = true)
    (h : wpB mi d sx (fun pc ls st I L R => Y mi (d + 1) sx pc (pkL ls (lvl lv pc)) st I L R q) q is pc ls st I L R) : Y mi (d + 1) sx pc ls st I L R q := X_blkK ⟨Nat.le_refl _, Nat.le_refl _⟩ lv is hc h
theorem E0_of {mi : MI} {d : Nat} {sx : Sx} {args : List Value} {I : Ints} {L : Lngs} {R : Rfs} {q : Q3} (hy : plainName mi.2.1.cls = true) (hcl : rn mi.1 = mi.2.1.cls) (hlen : (lg_sl args).length ≤ mi.2.2.2.1) (h : Y mi d sx 0 (lv_args 0 args) [] I L R q) : E0 mi d sx args I L R q := EV_of_X hy hcl hlen h
theorem E0_mono {mi : MI} {d : Nat} {sx : Sx} {args : List Value} {I : Ints} {L : Lngs} {R : Rfs} {q q' : Q3} (h : E0 mi d sx args I L R q) (hq : ∀ r I L R, q r I L R → q' r I L R) : E0 mi d sx args I L R q' := EV_mono h (fun r S I L R hh => ⟨hh.1, hq r I L R hh.2⟩)
