/-! An abstract machine over a fixed set of objects: values, heap, one step, runs, calls. Pure: nothing of the JVM model's states. -/
abbrev nl_V : Type := Int ⊕ Int ⊕ (Nat × Nat × Option Nat)
abbrev nl_H : Type := Nat → Nat → Nat → Nat → Int
abbrev vI (i : Int) : nl_V := Sum.inl i
abbrev vL (i : Int) : nl_V := Sum.inr (Sum.inl i)
abbrev vO (c o : Nat) : nl_V := Sum.inr (Sum.inr (c, o, none))
abbrev vA (c o k : Nat) : nl_V := Sum.inr (Sum.inr (c, o, some k))
abbrev nl_Ls : Type := List (Option nl_V)
abbrev nl_Re : Type := (Nat × nl_Ls × nl_H) ⊕ (Int × nl_H)
abbrev nl_E : Type := Nat × Instr × Nat × Nat × Nat × Nat
abbrev nl_D : Type := Nat → List nl_V → nl_H → Option (Int × nl_H)
/-- chosen, so that nothing unfolds it -/
theorem nl_exx (x : Int) (m : Nat) : ∃ y : Int, y = x.bmod m := ⟨_, rfl⟩
noncomputable def nl_nz (x : Int) : Int := Classical.choose (nl_exx x 4294967296)
noncomputable def nl_nl (x : Int) : Int := Classical.choose (nl_exx x 18446744073709551616)
theorem nx_nzd (x : Int) : nl_nz x = x.bmod 4294967296 := Classical.choose_spec (nl_exx x 4294967296)
theorem nx_nld (x : Int) : nl_nl x = x.bmod 18446744073709551616 := Classical.choose_spec (nl_exx x 18446744073709551616)
def nl_up (h : nl_H) (c o k i : Nat) (x : Int) : nl_H := fun c' o' k' i' => if c' = c ∧ o' = o ∧ k' = k ∧ i' = i then x else h c' o' k' i'
def nl_isL : nl_V → Bool
  | .inr (.inl _) => true
  | _ => false
def nl_cats : List nl_V → Nat
  | [] => 0
  | v :: r => (bif nl_isL v then 2 else 1) + nl_cats r
/-- a place of the locals -/
def nl_ld (L : nl_Ls) (i : Nat) : Option nl_V := match L, i with
  | [], _ => none
  | v :: _, 0 => v
  | _ :: r, i + 1 => nl_ld r i
/-- a long is lost -/
def nl_cw (w : Option nl_V) : Option nl_V := match w with
  | some x => bif nl_isL x then none else some x
  | none => none
/-- storing a value of one place: a long ahead of it is lost -/
def nl_s1 : nl_Ls → Nat → nl_V → nl_Ls
  | [], _, _ => []
  | _ :: r, 0, v => some v :: r
  | [_], _ + 1, _ => []
  | w :: u :: r, 1, v => nl_cw w :: nl_s1 (u :: r) 0 v
  | w :: u :: r, i + 2, v => w :: nl_s1 (u :: r) (i + 1) v
/-- storing a long -/
def nl_s2 (L : nl_Ls) (i : Nat) (v : nl_V) : nl_Ls := (nl_s1 L i v).set (i + 1) none
/-- how long an array is: of class c, object o, field k; class 9: the script -/
def nl_al (LS : Int) (c o k : Nat) : Int := match c with
  | 0 => match k with
    | 0 => 49
    | 1 => 128
    | _ => 7
  | 1 => match k with
    | 4 => 3
    | _ => 7
  | 2 => match o with
    | 0 => 8
    | _ => 2
  | 3 => 6
  | 4 => match k with
    | 10 => 49
    | _ => 7
  | 5 => 200
  | 6 => match k with
    | 9 => 49
    | 12 => 6
    | 13 => 6
    | 14 => 6
    | 15 => 200
    | 21 => 21
    | 23 => 632
    | 25 => 79
    | 28 => 158
    | _ => 7
  | _ => LS
/-- what an array holds: 0 numbers, 1 truth values, 2 objects of class 4 -/
def nl_at (c k : Nat) : Nat := match c with
  | 2 => 2
  | 3 => match k with
    | 2 => 1
    | _ => 0
  | _ => 0
def nl_fi (pc : Nat) : List nl_E → Option (Instr × Nat × Nat × Nat × Nat)
  | [] => none
  | e :: r => bif Nat.beq e.1 pc then some e.2 else nl_fi pc r
/-- a switch: the first value k, how many targets, the targets as one number; else d -/
def nl_sw {α : Type} (x : Int) (go : Nat → α) (d : Nat) : Int → Nat → Nat → α
  | _, 0, _ => go d
  | k, n + 1, b => if x = k then go (b % 1024) else nl_sw x go d (k + 1) n (b / 1024)
def nl_ts : Nat → Nat → List Nat
  | 0, _ => []
  | n + 1, b => b % 1024 :: nl_ts n (b / 1024)
def nl_cmp (x y : Int) : Int := if y < x then 1 else if x = y then 0 else -1
/-- a branch on two numbers -/
def nl_br {α : Type} (op : ClassFile.Cond) (x y : Int) (a b : α) : α := match op with
  | .eq => if x = y then a else b
  | .ne => if x = y then b else a
  | .lt => if x < y then a else b
  | .ge => if y ≤ x then a else b
  | .gt => if y < x then a else b
  | .le => if x ≤ y then a else b
/-- one step: what goes on is 'go' -/
noncomputable def nl_st (LS : Int) (den : nl_D) (ret : Nat) (pc : Nat) (L : nl_Ls) (S : List nl_V) (h : nl_H) (i : Instr) (len a b c : Nat)
    (go : Nat → nl_Ls → List nl_V → nl_H → Option nl_Re) : Option nl_Re := match i with
  | .iconst n => go (pc + len) L (vI n :: S) h
  | .bipush n => go (pc + len) L (vI n :: S) h
  | .sipush n => go (pc + len) L (vI n :: S) h
  | .ldc _ => go (pc + len) L (vI a :: S) h
  | .ldc_w _ => go (pc + len) L (vI a :: S) h
  | .ldc2_w _ => go (pc + len) L (vL a :: S) h
  | .lconst n => go (pc + len) L (vL (n : Nat) :: S) h
  | .iload i => (match nl_ld L i with
    | some (.inl x) => go (pc + len) L (vI x :: S) h
    | _ => none)
  | .iload_n i => (match nl_ld L i with
    | some (.inl x) => go (pc + len) L (vI x :: S) h
    | _ => none)
  | .lload i => (match nl_ld L i with
    | some (.inr (.inl x)) => go (pc + len) L (vL x :: S) h
    | _ => none)
  | .lload_n i => (match nl_ld L i with
    | some (.inr (.inl x)) => go (pc + len) L (vL x :: S) h
    | _ => none)
  | .aload i => (match nl_ld L i with
    | some (.inr (.inr r)) => go (pc + len) L (.inr (.inr r) :: S) h
    | _ => none)
  | .aload_n i => (match nl_ld L i with
    | some (.inr (.inr r)) => go (pc + len) L (.inr (.inr r) :: S) h
    | _ => none)
  | .istore i => (match S with
    | .inl x :: S => go (pc + len) (nl_s1 L i (vI x)) S h
    | _ => none)
  | .istore_n i => (match S with
    | .inl x :: S => go (pc + len) (nl_s1 L i (vI x)) S h
    | _ => none)
  | .lstore i => (match S with
    | .inr (.inl x) :: S => bif Nat.blt (i + 1) L.length then go (pc + len) (nl_s2 L i (vL x)) S h else none
    | _ => none)
  | .lstore_n i => (match S with
    | .inr (.inl x) :: S => bif Nat.blt (i + 1) L.length then go (pc + len) (nl_s2 L i (vL x)) S h else none
    | _ => none)
  | .astore i => (match S with
    | .inr (.inr r) :: S => go (pc + len) (nl_s1 L i (.inr (.inr r))) S h
    | _ => none)
  | .astore_n i => (match S with
    | .inr (.inr r) :: S => go (pc + len) (nl_s1 L i (.inr (.inr r))) S h
    | _ => none)
  | .iinc i n => (match nl_ld L i with
    | some (.inl x) => go (pc + len) (nl_s1 L i (vI (x + n))) S h
    | _ => none)
  | .iadd => (match S with
    | .inl y :: .inl x :: S => go (pc + len) L (vI (x + y) :: S) h
    | _ => none)
  | .isub => (match S with
    | .inl y :: .inl x :: S => go (pc + len) L (vI (x - y) :: S) h
    | _ => none)
  | .imul => (match S with
    | .inl y :: .inl x :: S => go (pc + len) L (vI (x * y) :: S) h
    | _ => none)
  | .ineg => (match S with
    | .inl x :: S => go (pc + len) L (vI (-x) :: S) h
    | _ => none)
  | .idiv => (match S with
    | .inl y :: .inl x :: S => if nl_nz y = 0 then none else go (pc + len) L (vI ((nl_nz x).tdiv (nl_nz y)) :: S) h
    | _ => none)
  | .irem => (match S with
    | .inl y :: .inl x :: S => if nl_nz y = 0 then none else go (pc + len) L (vI ((nl_nz x).tmod (nl_nz y)) :: S) h
    | _ => none)
  | .ishl => (match S with
    | .inl y :: .inl x :: S => if 0 ≤ nl_nz y ∧ nl_nz y < 32 then go (pc + len) L (vI (x * 2 ^ (nl_nz y).toNat) :: S) h else none
    | _ => none)
  | .ishr => (match S with
    | .inl y :: .inl x :: S => if 0 ≤ nl_nz y ∧ nl_nz y < 32 then go (pc + len) L (vI (nl_nz x / 2 ^ (nl_nz y).toNat) :: S) h else none
    | _ => none)
  | .iushr => (match S with
    | .inl y :: .inl x :: S => if (0 ≤ nl_nz y ∧ nl_nz y < 32) ∧ 0 ≤ nl_nz x then go (pc + len) L (vI (nl_nz x / 2 ^ (nl_nz y).toNat) :: S) h else none
    | _ => none)
  | .iand => (match S with
    | .inl y :: .inl x :: S => if 0 ≤ nl_nz x ∧ 0 ≤ nl_nz y then go (pc + len) L (vI (((nl_nz x).toNat &&& (nl_nz y).toNat : Nat)) :: S) h else none
    | _ => none)
  | .ior => (match S with
    | .inl y :: .inl x :: S => if 0 ≤ nl_nz x ∧ 0 ≤ nl_nz y then go (pc + len) L (vI (((nl_nz x).toNat ||| (nl_nz y).toNat : Nat)) :: S) h else none
    | _ => none)
  | .ladd => (match S with
    | .inr (.inl y) :: .inr (.inl x) :: S => go (pc + len) L (vL (x + y) :: S) h
    | _ => none)
  | .lmul => (match S with
    | .inr (.inl y) :: .inr (.inl x) :: S => go (pc + len) L (vL (x * y) :: S) h
    | _ => none)
  | .ldiv => (match S with
    | .inr (.inl y) :: .inr (.inl x) :: S => if nl_nl y = 0 then none else go (pc + len) L (vL ((nl_nl x).tdiv (nl_nl y)) :: S) h
    | _ => none)
  | .lrem => (match S with
    | .inr (.inl y) :: .inr (.inl x) :: S => if nl_nl y = 0 then none else go (pc + len) L (vL ((nl_nl x).tmod (nl_nl y)) :: S) h
    | _ => none)
  | .lcmp => (match S with
    | .inr (.inl y) :: .inr (.inl x) :: S => go (pc + len) L (vI (nl_cmp (nl_nl x) (nl_nl y)) :: S) h
    | _ => none)
  | .i2l => (match S with
    | .inl x :: S => go (pc + len) L (vL (nl_nz x) :: S) h
    | _ => none)
  | .l2i => (match S with
    | .inr (.inl x) :: S => go (pc + len) L (vI x :: S) h
    | _ => none)
  | .dup => (match S with
    | v :: S => bif nl_isL v then none else go (pc + len) L (v :: v :: S) h
    | _ => none)
  | .dup2 => (match S with
    | v :: w :: S => bif nl_isL v || nl_isL w then none else go (pc + len) L (v :: w :: v :: w :: S) h
    | _ => none)
  | .pop => (match S with
    | v :: S => bif nl_isL v then none else go (pc + len) L S h
    | _ => none)
  | .ifCond op _ => (match S with
    | .inl x :: S => nl_br op (nl_nz x) 0 (go a L S h) (go (pc + len) L S h)
    | _ => none)
  | .if_icmp op _ => (match S with
    | .inl y :: .inl x :: S => nl_br op (nl_nz x) (nl_nz y) (go a L S h) (go (pc + len) L S h)
    | _ => none)
  | .goto _ => go a L S h
  | .tableswitch _ lo _ _ => (match S with
    | .inl x :: S => nl_sw (nl_nz x) (fun t => go t L S h) a lo c b
    | _ => none)
  | .getfield _ => (match S with
    | .inr (.inr (c', o, none)) :: S => bif Nat.beq c' a then (match c with
        | 0 => go (pc + len) L (vI (h a o b 0) :: S) h
        | 1 => go (pc + len) L (vA a o b :: S) h
        | n + 2 => go (pc + len) L (vO (n / 32) (n % 32) :: S) h) else none
    | _ => none)
  | .putfield _ => (match S with
    | .inl x :: .inr (.inr (c', o, none)) :: S => bif Nat.beq c' a then go (pc + len) L S (nl_up h a o b 0 x) else none
    | _ => none)
  | .iaload => (match S with
    | .inl i :: .inr (.inr (c', o, some k)) :: S => bif Nat.beq (nl_at c' k) 0 then (if 0 ≤ nl_nz i ∧ nl_nz i < nl_al LS c' o k then go (pc + len) L (vI (h c' o k (nl_nz i).toNat) :: S) h else none) else none
    | _ => none)
  | .baload => (match S with
    | .inl i :: .inr (.inr (c', o, some k)) :: S => bif Nat.beq (nl_at c' k) 1 then (if 0 ≤ nl_nz i ∧ nl_nz i < nl_al LS c' o k then go (pc + len) L (vI (h c' o k (nl_nz i).toNat) :: S) h else none) else none
    | _ => none)
  | .aaload => (match S with
    | .inl i :: .inr (.inr (c', o, some k)) :: S => bif Nat.beq (nl_at c' k) 2 then (if (0 ≤ nl_nz i ∧ nl_nz i < nl_al LS c' o k) ∧ (h c' o k (nl_nz i).toNat).toNat < 12 then go (pc + len) L (vO 4 (h c' o k (nl_nz i).toNat).toNat :: S) h else none) else none
    | _ => none)
  | .iastore => (match S with
    | .inl x :: .inl i :: .inr (.inr (c', o, some k)) :: S => bif Nat.beq (nl_at c' k) 0 && Nat.blt c' 7 then (if 0 ≤ nl_nz i ∧ nl_nz i < nl_al LS c' o k then go (pc + len) L S (nl_up h c' o k (nl_nz i).toNat x) else none) else none
    | _ => none)
  | .bastore => (match S with
    | .inl x :: .inl i :: .inr (.inr (c', o, some k)) :: S => bif Nat.beq (nl_at c' k) 1 && Nat.blt c' 7 then (if (0 ≤ nl_nz i ∧ nl_nz i < nl_al LS c' o k) ∧ (x = 0 ∨ x = 1) then go (pc + len) L S (nl_up h c' o k (nl_nz i).toNat x) else none) else none
    | _ => none)
  | .aastore => (match S with
    | .inr (.inr (d, v, none)) :: .inl i :: .inr (.inr (c', o, some k)) :: S => bif Nat.beq (nl_at c' k) 2 && Nat.beq d 4 then (if 0 ≤ nl_nz i ∧ nl_nz i < nl_al LS c' o k then go (pc + len) L S (nl_up h c' o k (nl_nz i).toNat v) else none) else none
    | _ => none)
  | .arraylength => (match S with
    | .inr (.inr (c', o, some k)) :: S => go (pc + len) L (vI (nl_al LS c' o k) :: S) h
    | _ => none)
  | .invokevirtual _ => (match S.drop b with
    | .inr (.inr (c', o, none)) :: S' => bif Nat.beq c' (c / 4) && Nat.ble (nl_cats S') 8 then (den a (vO c' o :: (S.take b).reverse) h).bind (fun r => match c % 4 with
        | 0 => go (pc + len) L S' r.2
        | 1 => go (pc + len) L (vI r.1 :: S') r.2
        | _ => none) else none
    | _ => none)
  | .invokestatic _ => (match c with
    | 3 => (match S with
      | .inl y :: .inl x :: S => bif Nat.ble (nl_cats S) 8 then go (pc + len) L (vI (if nl_nz x < nl_nz y then y else x) :: S) h else none
      | _ => none)
    | 4 => (match S with
      | .inl y :: .inl x :: S => bif Nat.ble (nl_cats S) 8 then go (pc + len) L (vI (if nl_nz y < nl_nz x then y else x) :: S) h else none
      | _ => none)
    | 5 => (match S with
      | .inl x :: S => bif Nat.ble (nl_cats S) 8 then go (pc + len) L (vI (if 0 ≤ nl_nz x then x else -x) :: S) h else none
      | _ => none)
    | c => bif Nat.ble b S.length && Nat.ble (nl_cats (S.drop b)) 8 then (den a (S.take b).reverse h).bind (fun r => match c with
        | 0 => go (pc + len) L (S.drop b) r.2
        | 1 => go (pc + len) L (vI r.1 :: S.drop b) r.2
        | 2 => go (pc + len) L (vL r.1 :: S.drop b) r.2
        | _ => none) else none)
  | .ireturn => (match S with
    | [.inl x] => (match ret with
        | 1 => some (.inr (x, h))
        | 3 => if x = 0 ∨ x = 1 then some (.inr (x, h)) else none
        | _ => none)
    | _ => none)
  | .lreturn => (match S with
    | [.inr (.inl x)] => (match ret with
        | 2 => some (.inr (x, h))
        | _ => none)
    | _ => none)
  | .return_ => (match S with
    | [] => (match ret with
        | 0 => some (.inr (0, h))
        | _ => none)
    | _ => none)
  | _ => none
/-- going on, to a cut or the end -/
def nl_go (cut : List Nat) (k : Nat → nl_Ls → List nl_V → nl_H → Option nl_Re) (pc : Nat) (L : nl_Ls) (S : List nl_V) (h : nl_H) : Option nl_Re :=
  bif cut.any (Nat.beq pc) then (match S with
    | [] => some (.inl (pc, L, h))
    | _ => none) else k pc L S h
noncomputable def nl_ex (LS : Int) (C : List nl_E) (den : nl_D) (cut : List Nat) (ret : Nat) : Nat → Nat → nl_Ls → List nl_V → nl_H → Option nl_Re
  | 0, _, _, _, _ => none
  | f + 1, pc, L, S, h => match nl_fi pc C with
    | none => none
    | some (i, len, a, b, c) => nl_st LS den ret pc L S h i len a b c (nl_go cut (nl_ex LS C den cut ret f))
/-- a method's run, cut to cut -/
noncomputable def nl_rn (LS : Int) (C : List nl_E) (den : nl_D) (cut : List Nat) (ret : Nat) : Nat → Nat → nl_Ls → nl_H → Option (Int × nl_H)
  | 0, _, _, _ => none
  | f + 1, pc, L, h => match nl_ex LS C den cut ret 400 pc L [] h with
    | some (.inr r) => some r
    | some (.inl (pc', L', h')) => nl_rn LS C den cut ret f pc' L' h'
    | none => none
def nl_Rn (LS : Int) (C : List nl_E) (den : nl_D) (cut : List Nat) (ret : Nat) (pc : Nat) (L : nl_Ls) (h : nl_H) (r : Int × nl_H) : Prop := ∃ f, nl_rn LS C den cut ret f pc L h = some r
theorem nl_Rn.ret {LS : Int} {C : List nl_E} {den : nl_D} {cut : List Nat} {ret pc : Nat} {L : nl_Ls} {h : nl_H} {r : Int × nl_H} (e : nl_ex LS C den cut ret 400 pc L [] h = some (.inr r)) : nl_Rn LS C den cut ret pc L h r := ⟨1, by simp only [nl_rn, e]⟩
theorem nl_Rn.go {LS : Int} {C : List nl_E} {den : nl_D} {cut : List Nat} {ret pc pc' : Nat} {L L' : nl_Ls} {h h' : nl_H} {r : Int × nl_H} (e : nl_ex LS C den cut ret 400 pc L [] h = some (.inl (pc', L', h'))) (k : nl_Rn LS C den cut ret pc' L' h' r) : nl_Rn LS C den cut ret pc L h r := by
  obtain ⟨f, hf⟩ := k
  exact ⟨f + 1, by simp only [nl_rn, e]; exact hf⟩
theorem nl_rn_up {LS : Int} {C : List nl_E} {den : nl_D} {cut : List Nat} {ret : Nat} : ∀ (f pc : Nat) (L : nl_Ls) (h : nl_H) (r : Int × nl_H), nl_rn LS C den cut ret f pc L h = some r → nl_rn LS C den cut ret (f + 1) pc L h = some r := by
  intro f
  induction f with
  | zero => intro pc L h r e; simp [nl_rn] at e
  | succ f ih =>
    intro pc L h r e
    rw [nl_rn] at e ⊢
    split at e
    · exact e
    · exact ih _ _ _ _ e
    · cases e
theorem nl_rn_le {LS : Int} {C : List nl_E} {den : nl_D} {cut : List Nat} {ret : Nat} {f g pc : Nat} {L : nl_Ls} {h : nl_H} {r : Int × nl_H} (hl : f ≤ g) (e : nl_rn LS C den cut ret f pc L h = some r) : nl_rn LS C den cut ret g pc L h = some r := by
  induction g with
  | zero =>
    have h0 : f = 0 := by omega
    subst h0; exact e
  | succ g ih =>
    by_cases hg : f = g + 1
    · subst hg; exact e
    · exact nl_rn_up _ _ _ _ _ (ih (by omega))
theorem nl_Rn.uniq {LS : Int} {C : List nl_E} {den : nl_D} {cut : List Nat} {ret pc : Nat} {L : nl_Ls} {h : nl_H} {r r' : Int × nl_H} (a : nl_Rn LS C den cut ret pc L h r) (b : nl_Rn LS C den cut ret pc L h r') : r = r' := by
  obtain ⟨f, hf⟩ := a
  obtain ⟨g, hg⟩ := b
  have h1 := nl_rn_le (Nat.le_max_left f g) hf
  have h2 := nl_rn_le (Nat.le_max_right f g) hg
  exact Option.some.inj (h1.symm.trans h2)
/-- a method of the table: its code, its cuts, what it gives (0 nothing, 1 a number, 2 a long, 3 a truth value), how many places its locals have -/
abbrev nl_M : Type := List nl_E × List Nat × Nat × Nat
def nl_pad (n : Nat) : nl_Ls → nl_Ls
  | [] => List.replicate n none
  | v :: r => v :: nl_pad (n - 1) r
def nl_spread : List nl_V → nl_Ls
  | [] => []
  | v :: r => bif nl_isL v then some v :: none :: nl_spread r else some v :: nl_spread r
/-- the locals at a method's start -/
def nl_L0 (n : Nat) (args : List nl_V) : nl_Ls := nl_pad n (nl_spread args)
noncomputable def nl_pk (P : Int × nl_H → Prop) : Option (Int × nl_H) := match Classical.propDecidable (∃ r, P r) with
  | .isTrue e => some (Classical.choose e)
  | .isFalse _ => none
theorem nl_pk_of {P : Int × nl_H → Prop} (u : ∀ r r', P r → P r' → r = r') {r : Int × nl_H} (e : P r) : nl_pk P = some r := by
  unfold nl_pk
  split
  · rename_i e' _
    exact congrArg some (u _ _ (Classical.choose_spec e') e)
  · rename_i e' _
    exact absurd ⟨r, e⟩ e'
theorem nl_pk_in {P : Int × nl_H → Prop} {r : Int × nl_H} (e : nl_pk P = some r) : P r := by
  unfold nl_pk at e
  split at e
  · rename_i e' _
    rw [← Option.some.inj e]
    exact Classical.choose_spec e'
  · cases e
noncomputable def nl_nx (mts : List nl_M) (LS : Int) (den : nl_D) (y : Nat) (args : List nl_V) (h : nl_H) : Option (Int × nl_H) := match mts[y]? with
  | none => none
  | some (C, cut, ret, nL) => bif Nat.ble (nl_spread args).length nL then nl_pk (nl_Rn LS C den cut ret 0 (nl_L0 nL args) h) else none
noncomputable def nl_cl (mts : List nl_M) (LS : Int) : Nat → nl_D
  | 0 => fun _ _ _ => none
  | n + 1 => nl_nx mts LS (nl_cl mts LS n)
theorem nl_cl_of {mts : List nl_M} {LS : Int} {n y : Nat} {args : List nl_V} {h : nl_H} {C : List nl_E} {cut : List Nat} {ret nL : Nat} {r : Int × nl_H} (hm : mts[y]? = some (C, cut, ret, nL)) (hl : Nat.ble (nl_spread args).length nL = true) (e : nl_Rn LS C (nl_cl mts LS n) cut ret 0 (nl_L0 nL args) h r) : nl_cl mts LS (n + 1) y args h = some r := by
  show nl_nx mts LS (nl_cl mts LS n) y args h = some r
  unfold nl_nx
  rw [hm]
  simp only [hl, cond_true]
  exact nl_pk_of (fun _ _ a b => a.uniq b) e
theorem nl_cl_in {mts : List nl_M} {LS : Int} {n y : Nat} {args : List nl_V} {h : nl_H} {r : Int × nl_H} (e : nl_cl mts LS (n + 1) y args h = some r) : ∃ C cut ret nL, mts[y]? = some (C, cut, ret, nL) ∧ (nl_spread args).length ≤ nL ∧ nl_Rn LS C (nl_cl mts LS n) cut ret 0 (nl_L0 nL args) h r := by
  have e : nl_nx mts LS (nl_cl mts LS n) y args h = some r := e
  unfold nl_nx at e
  split at e
  · cases e
  · rename_i C cut ret nL hm
    cases hl : Nat.ble (nl_spread args).length nL with
    | true =>
      simp only [hl, cond_true] at e
      exact ⟨C, cut, ret, nL, hm, Nat.le_of_ble_eq_true hl, nl_pk_in e⟩
    | false =>
      simp only [hl, cond_false] at e
      cases e
