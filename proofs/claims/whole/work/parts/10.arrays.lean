
theorem nl_arr0 {G : nl_G} {h : nl_H} {c o k : Nat} (e : ¬ nl_at c k = 2) : nl_arr G h c o k = (nl_aln c o k, .inl fun i => Int32.ofInt (h c o k i)) := by
  unfold nl_arr
  rw [if_neg e]
theorem nl_arr2 {G : nl_G} {h : nl_H} {c o k : Nat} (e : nl_at c k = 2) : nl_arr G h c o k = (nl_aln c o k, .inr (.inr (.inr (.inr fun i => some (gO G 4 (h c o k i).toNat))))) := by
  unfold nl_arr
  rw [if_pos e]
theorem nl_Parr {G : nl_G} {h : nl_H} {s : State} {H : Heap} (hW : nl_Wd G h s H) {c o k : Nat} (hc : c < 7) (ho : o < gN G c) (hk : k < nl_N c) (hf : nl_fk c k = 1) (e : ¬ nl_at c k = 2) : va_P (gD G) nl_cs [(gA G c o k, .inl (gY G (nl_at c k), (nl_aln c o k, .inl fun i => Int32.ofInt (h c o k i))))] H := by
  refine nl_one ?_
  have h1 := hW.2.1 c o k hc ho hk hf
  rw [nl_arr0 e] at h1
  exact h1
theorem nl_Parr2 {G : nl_G} {h : nl_H} {s : State} {H : Heap} (hW : nl_Wd G h s H) {c o k : Nat} (hc : c < 7) (ho : o < gN G c) (hk : k < nl_N c) (hf : nl_fk c k = 1) (e : nl_at c k = 2) : va_P (gD G) nl_cs [(gA G c o k, .inl (gY G 2, (nl_aln c o k, .inr (.inr (.inr (.inr fun i => some (gO G 4 (h c o k i).toNat)))))))] H := by
  refine nl_one ?_
  have h1 := hW.2.1 c o k hc ho hk hf
  rw [nl_arr2 e, e] at h1
  exact h1
theorem nl_inn {LS i : Int} {c o k : Nat} (hc : c < 7) (h : 0 ≤ nl_nz i ∧ nl_nz i < nl_al LS c o k) : vp_in (Int32.ofInt i) (nl_aln c o k) := by
  rw [(nl_aln_eq hc LS o k).1] at h
  exact nx_in h
theorem nl_sw_in {α : Type} {x : Int} {go : Nat → α} {d : Nat} : ∀ (n : Nat) (k : Int) (b : Nat), k ≤ x → x < k + n → ∃ t, (nl_ts n b)[(x - k).toNat]? = some t ∧ nl_sw x go d k n b = go t
  | 0, k, b, h1, h2 => by omega
  | n + 1, k, b, h1, h2 => by
    by_cases hx : x = k
    · subst hx
      refine ⟨b % 1024, by simp [nl_ts], ?_⟩
      simp only [nl_sw]
      rw [if_pos trivial]
    · obtain ⟨t, e1, e2⟩ := nl_sw_in (x := x) (go := go) (d := d) n (k + 1) (b / 1024) (by omega) (by omega)
      refine ⟨t, ?_, ?_⟩
      · have e : (x - k).toNat = (x - (k + 1)).toNat + 1 := by omega
        rw [e, nl_ts, List.getElem?_cons_succ]
        exact e1
      · simp only [nl_sw]
        rw [if_neg hx]
        exact e2
theorem nl_sw_out {α : Type} {x : Int} {go : Nat → α} {d : Nat} : ∀ (n : Nat) (k : Int) (b : Nat), (x < k ∨ k + n ≤ x) → nl_sw x go d k n b = go d
  | 0, k, b, _ => rfl
  | n + 1, k, b, h => by
    simp only [nl_sw]
    rw [if_neg (by omega)]
    exact nl_sw_out n (k + 1) (b / 1024) (by omega)
section NLARR
variable {p : Program} {l : Launch} {e : Env} {R : Room} {s : State} {m : MethodId} {args : Array Value} {below : List Frame} {meth : Method} {c : Code} {cells slots : Nat} {Q : State → Prop} {cc : ByteArray} {nL ci n ret : Nat} {G : nl_G} {den : nl_D} {go : Nat → nl_Ls → List nl_V → nl_H → Option nl_Re} {res : nl_Re} {pc : Nat} {L : nl_Ls} {S : List nl_V} {h : nl_H} {len a b c' : Nat}

theorem ns_iaload (X : nl_Cx p l e R s m args c cells slots cc nL ci n G) (hd : decode cc pc = .ok (.iaload, len)) (hk : nl_ok ci nL (pc, .iaload, len, a, b, c') = true) (hgo : ∀ pc' L' S' h', go pc' L' S' h' = some res → nl_Go p l e R s m args below meth c cells slots Q G nL pc' L' S' h')
    (E : nl_st (gL G) den ret pc L S h (.iaload) len a b c' go = some res) : nl_Go p l e R s m args below meth c cells slots Q G nL pc L S h := by
  simp only [nl_ok, beq_iff_eq] at hk
  subst hk
  simp only [nl_st] at E
  split at E
  · rename_i i c9 o k S'
    cases hc : Nat.beq (nl_at c9 k) 0 with
    | false => simp only [hc, cond_false] at E; cases E
    | true =>
      simp only [hc, cond_true] at E
      have hat := Nat.eq_of_beq_eq_true hc
      split at E
      rename_i hb
      intro H locs ls hW hS hL hV
      rcases nl_okh (nl_okt hV) with ⟨h7, ho, hkk, hf⟩ | h9
      · have K := hgo _ _ _ _ E H locs ls hW hS hL (nl_ok1 trivial (nl_okt (nl_okt hV)))
        refine va_iald (D := gD G) (cl := nl_cs) (tys := nl_ty G) X.1 X.2.1 X.2.2.2.2.2.1.1 (nl_Parr hW h7 ho hkk hf (by rw [hat]; decide)) 0 0 rfl (by rw [hat]; rfl) (nl_inn h7 hb) hd ?_
        rw [nx_cl]
        exact K
      · obtain ⟨rfl, rfl, rfl, h9⟩ := h9
        obtain ⟨scr, s1, s2, s3, s4, s5⟩ := hW.2.2 h9
        have hLS : nl_al (gL G) 9 0 0 = gL G := rfl
        have h6 := X.2.2.2.2.2.2.1.2.2.2.2.2.1 h9
        have hin : ¬ (Int32.ofInt i < 0 ∨ scr.slots.size ≤ (Int32.ofInt i).toNatClampNeg) := by
          rw [s4]
          refine nx_in ?_
          rw [hLS] at hb
          omega
        refine W.iald X.1 X.2.1 s1 s2 s3 hin (s5 _ (by rw [nx_cl]; rw [hLS] at hb; omega)) rfl rfl hd ?_
        rw [nx_cl]
        exact hgo _ _ _ _ E H locs ls hW hS hL (nl_ok1 trivial (nl_okt (nl_okt hV)))
      · cases E
  · cases E
theorem ns_baload (X : nl_Cx p l e R s m args c cells slots cc nL ci n G) (hd : decode cc pc = .ok (.baload, len)) (hk : nl_ok ci nL (pc, .baload, len, a, b, c') = true) (hgo : ∀ pc' L' S' h', go pc' L' S' h' = some res → nl_Go p l e R s m args below meth c cells slots Q G nL pc' L' S' h')
    (E : nl_st (gL G) den ret pc L S h (.baload) len a b c' go = some res) : nl_Go p l e R s m args below meth c cells slots Q G nL pc L S h := by
  simp only [nl_ok, beq_iff_eq] at hk
  subst hk
  simp only [nl_st] at E
  split at E
  · rename_i i c9 o k S'
    cases hc : Nat.beq (nl_at c9 k) 1 with
    | false => simp only [hc, cond_false] at E; cases E
    | true =>
      simp only [hc, cond_true] at E
      have hat := Nat.eq_of_beq_eq_true hc
      split at E
      rename_i hb
      intro H locs ls hW hS hL hV
      rcases nl_okh (nl_okt hV) with ⟨h7, ho, hkk, hf⟩ | h9
      · have K := hgo _ _ _ _ E H locs ls hW hS hL (nl_ok1 trivial (nl_okt (nl_okt hV)))
        refine va_zald (D := gD G) (cl := nl_cs) (tys := nl_ty G) X.1 X.2.1 X.2.2.2.2.2.1.1 (nl_Parr hW h7 ho hkk hf (by rw [hat]; decide)) 0 1 rfl (by rw [hat]; rfl) (nl_inn h7 hb) hd ?_
        rw [nx_cl]
        exact K
      · obtain ⟨rfl, rfl, rfl, h9⟩ := h9
        cases hat
      · cases E
  · cases E
theorem ns_aaload (X : nl_Cx p l e R s m args c cells slots cc nL ci n G) (hd : decode cc pc = .ok (.aaload, len)) (hk : nl_ok ci nL (pc, .aaload, len, a, b, c') = true) (hgo : ∀ pc' L' S' h', go pc' L' S' h' = some res → nl_Go p l e R s m args below meth c cells slots Q G nL pc' L' S' h')
    (E : nl_st (gL G) den ret pc L S h (.aaload) len a b c' go = some res) : nl_Go p l e R s m args below meth c cells slots Q G nL pc L S h := by
  simp only [nl_ok, beq_iff_eq] at hk
  subst hk
  simp only [nl_st] at E
  split at E
  · rename_i i c9 o k S'
    cases hc : Nat.beq (nl_at c9 k) 2 with
    | false => simp only [hc, cond_false] at E; cases E
    | true =>
      simp only [hc, cond_true] at E
      have hat := Nat.eq_of_beq_eq_true hc
      split at E
      rename_i hb
      intro H locs ls hW hS hL hV
      rcases nl_okh (nl_okt hV) with ⟨h7, ho, hkk, hf⟩ | h9
      · refine va_aldq (D := gD G) (cl := nl_cs) (tys := nl_ty G) X.1 X.2.1 X.2.2.2.2.2.1.1 (nl_Parr2 hW h7 ho hkk hf hat) 0 2 rfl rfl (nl_inn h7 hb.1) hd ?_
        rw [nx_cl]
        refine hgo _ _ _ _ E H locs ls hW hS hL (nl_ok1 ⟨by decide, ?_⟩ (nl_okt (nl_okt hV)))
        rw [X.2.2.2.2.2.2.1.cnt (by decide)]
        exact hb.2
      · obtain ⟨rfl, rfl, rfl, h9⟩ := h9
        cases hat
      · cases E
  · cases E
theorem ns_iastore (X : nl_Cx p l e R s m args c cells slots cc nL ci n G) (hd : decode cc pc = .ok (.iastore, len)) (hk : nl_ok ci nL (pc, .iastore, len, a, b, c') = true) (hgo : ∀ pc' L' S' h', go pc' L' S' h' = some res → nl_Go p l e R s m args below meth c cells slots Q G nL pc' L' S' h')
    (E : nl_st (gL G) den ret pc L S h (.iastore) len a b c' go = some res) : nl_Go p l e R s m args below meth c cells slots Q G nL pc L S h := by
  simp only [nl_ok, beq_iff_eq] at hk
  subst hk
  simp only [nl_st] at E
  split at E
  · rename_i x i c9 o k S'
    cases hc : (Nat.beq (nl_at c9 k) 0 && Nat.blt c9 7) with
    | false => simp only [hc, cond_false] at E; cases E
    | true =>
      simp only [hc, cond_true] at E
      simp only [Bool.and_eq_true, Nat.blt_eq] at hc
      have hat := Nat.eq_of_beq_eq_true hc.1
      split at E
      rename_i hb
      intro H locs ls hW hS hL hV
      rcases nl_okh (nl_okt (nl_okt hV)) with ⟨h7, ho, hkk, hf⟩ | h9
      · have hA := X.2.2.2.2.2.2.1
        have hP := nl_Parr hW h7 ho hkk hf (by rw [hat]; decide) 0 _ rfl
        have hn2 : ¬ nl_at c9 k = 2 := by rw [hat]; decide
        refine W.iast X.1 X.2.1 hP (by rw [hat]; exact (X.2.2.2.2.2.1.1.2 0 _ rfl).1 _ (fun j => .int (Int32.ofInt (h c9 o k j)))) (fun q => by cases q) (by show ¬ (_ ∨ (arrV _ _ _).slots.size ≤ _); rw [arrV_size]; exact nl_inn h7 hb) rfl rfl hd fun H1 e1 z oq => ?_
        refine hgo _ _ _ _ E H1 _ ls (nl_Wd_st hA hW h7 ho hkk hf ?_ oq) (hS.put z oq (hA.2.2.2.2.1 _ _ _ h7 ho hkk hf)) hL (nl_okt (nl_okt (nl_okt hV)))
        rw [e1, nl_arr0 hn2, vp_cell_i, vp_cell_i, arrV_store]
        congr 2
        funext q
        rw [nx_cl]
        unfold updV nl_up
        by_cases hq : q = (nl_nz i).toNat
        · subst hq
          simp
        · simp [hq]
      · omega
      · cases E
  · cases E
theorem ns_bastore (X : nl_Cx p l e R s m args c cells slots cc nL ci n G) (hd : decode cc pc = .ok (.bastore, len)) (hk : nl_ok ci nL (pc, .bastore, len, a, b, c') = true) (hgo : ∀ pc' L' S' h', go pc' L' S' h' = some res → nl_Go p l e R s m args below meth c cells slots Q G nL pc' L' S' h')
    (E : nl_st (gL G) den ret pc L S h (.bastore) len a b c' go = some res) : nl_Go p l e R s m args below meth c cells slots Q G nL pc L S h := by
  simp only [nl_ok, beq_iff_eq] at hk
  subst hk
  simp only [nl_st] at E
  split at E
  · rename_i x i c9 o k S'
    cases hc : (Nat.beq (nl_at c9 k) 1 && Nat.blt c9 7) with
    | false => simp only [hc, cond_false] at E; cases E
    | true =>
      simp only [hc, cond_true] at E
      simp only [Bool.and_eq_true, Nat.blt_eq] at hc
      have hat := Nat.eq_of_beq_eq_true hc.1
      split at E
      rename_i hb
      intro H locs ls hW hS hL hV
      rcases nl_okh (nl_okt (nl_okt hV)) with ⟨h7, ho, hkk, hf⟩ | h9
      · have hA := X.2.2.2.2.2.2.1
        have hP := nl_Parr hW h7 ho hkk hf (by rw [hat]; decide) 0 _ rfl
        have hn2 : ¬ nl_at c9 k = 2 := by rw [hat]; decide
        refine W.zast X.1 X.2.1 hP (by rw [hat]; exact (X.2.2.2.2.2.1.1.2 1 _ rfl).1 _ (fun j => .int (Int32.ofInt (h c9 o k j)))) (fun q => by cases q) (by show ¬ (_ ∨ (arrV _ _ _).slots.size ≤ _); rw [arrV_size]; exact nl_inn h7 hb.1) rfl rfl hd fun H1 e1 z oq => ?_
        refine hgo _ _ _ _ E H1 _ ls (nl_Wd_st hA hW h7 ho hkk hf ?_ oq) (hS.put z oq (hA.2.2.2.2.1 _ _ _ h7 ho hkk hf)) hL (nl_okt (nl_okt (nl_okt hV)))
        have hn : narrow .boolean (.int (Int32.ofInt x)) = .int (Int32.ofInt x) := by
          rcases hb.2 with rfl | rfl <;> rfl
        rw [e1, hn, nl_arr0 hn2, vp_cell_i, vp_cell_i, arrV_store]
        congr 2
        funext q
        rw [nx_cl]
        unfold updV nl_up
        by_cases hq : q = (nl_nz i).toNat
        · subst hq
          simp
        · simp [hq]
      · omega
      · cases E
  · cases E
theorem ns_aastore (X : nl_Cx p l e R s m args c cells slots cc nL ci n G) (hd : decode cc pc = .ok (.aastore, len)) (hk : nl_ok ci nL (pc, .aastore, len, a, b, c') = true) (hgo : ∀ pc' L' S' h', go pc' L' S' h' = some res → nl_Go p l e R s m args below meth c cells slots Q G nL pc' L' S' h')
    (E : nl_st (gL G) den ret pc L S h (.aastore) len a b c' go = some res) : nl_Go p l e R s m args below meth c cells slots Q G nL pc L S h := by
  simp only [nl_ok, beq_iff_eq] at hk
  subst hk
  simp only [nl_st] at E
  split at E
  · rename_i d v i c9 o k S'
    cases hc : (Nat.beq (nl_at c9 k) 2 && Nat.beq d 4) with
    | false => simp only [hc, cond_false] at E; cases E
    | true =>
      simp only [hc, cond_true] at E
      simp only [Bool.and_eq_true] at hc
      have hat := Nat.eq_of_beq_eq_true hc.1
      have hd4 := Nat.eq_of_beq_eq_true hc.2
      subst hd4
      split at E
      rename_i hb
      intro H locs ls hW hS hL hV
      rcases nl_okh (nl_okt (nl_okt hV)) with ⟨h7, ho, hkk, hf⟩ | h9
      · have hA := X.2.2.2.2.2.2.1
        have hKK := X.2.2.2.2.2.1.1
        have hv := nl_okh hV
        have hP := nl_Parr2 hW h7 ho hkk hf hat 0 _ rfl
        have hin := nl_inn h7 hb
        have hlt : (Int32.ofInt i).toNatClampNeg < nl_aln c9 o k := Nat.not_le.mp fun q => hin (Or.inr q)
        have h0 : ¬ Int32.ofInt i < 0 := fun q => hin (Or.inl q)
        obtain ⟨cellV, g1, g2, g3, -⟩ := hW.1 4 v (by decide) hv.2
        have hcls := (hKK.1 4 _ (nl_cs_at (by decide))).2
        obtain ⟨kA, comp, k1, k2, k3, -⟩ := (hKK.2 2 _ rfl).2
        have hcomp : comp = (gD G).1 4 := Option.some.inj (k3.symm.trans hcls.1)
        subst hcomp
        obtain ⟨kC, hkC, -⟩ := hcls.2
        refine W.aast X.1 X.2.1 hP (fun q h => by cases h) (fun h => by cases h) k1 k2 rfl hkC ⟨h0, by show _ < (arrV _ _ _).slots.size; rw [arrV_size]; exact hlt⟩ g1 (fun q h => by rw [g3] at h; cases h) (by rw [g2]; exact hkC) (by rw [g2]; exact va_assign hcls) rfl rfl hd fun H1 e1 z oq => ?_
        refine hgo _ _ _ _ E H1 _ ls (nl_Wd_st hA hW h7 ho hkk hf ?_ oq) (hS.put z oq (hA.2.2.2.2.1 _ _ _ h7 ho hkk hf)) hL (nl_okt (nl_okt (nl_okt hV)))
        rw [e1, nl_arr2 hat, hat, vp_cell_q, vp_cell_q, arrV_store]
        congr 2
        funext q
        rw [nx_cl]
        unfold updV nl_up
        by_cases hq : q = (nl_nz i).toNat
        · subst hq
          simp [va_rf]
        · simp [hq]
      · obtain ⟨rfl, rfl, rfl, h9⟩ := h9
        cases hat
      · cases E
  · cases E
theorem ns_arraylength (X : nl_Cx p l e R s m args c cells slots cc nL ci n G) (hd : decode cc pc = .ok (.arraylength, len)) (hk : nl_ok ci nL (pc, .arraylength, len, a, b, c') = true) (hgo : ∀ pc' L' S' h', go pc' L' S' h' = some res → nl_Go p l e R s m args below meth c cells slots Q G nL pc' L' S' h')
    (E : nl_st (gL G) den ret pc L S h (.arraylength) len a b c' go = some res) : nl_Go p l e R s m args below meth c cells slots Q G nL pc L S h := by
  simp only [nl_ok, beq_iff_eq] at hk
  subst hk
  simp only [nl_st] at E
  split at E
  · rename_i c9 o k S'
    intro H locs ls hW hS hL hV
    rcases nl_okh hV with ⟨h7, ho, hkk, hf⟩ | h9
    · have e1 := (nl_aln_eq h7 (gL G) o k).1
      have K := hgo _ _ _ _ E H locs ls hW hS hL (nl_ok1 trivial (nl_okt hV))
      have hv : Int32.ofNat (nl_aln c9 o k) = Int32.ofInt (nl_al (gL G) c9 o k) := by rw [e1, Int32.ofInt_eq_ofNat]
      by_cases h2 : nl_at c9 k = 2
      · exact va_alen (D := gD G) (cl := nl_cs) (tys := nl_ty G) X.1 X.2.1 X.2.2.2.2.2.1.1 (nl_Parr2 hW h7 ho hkk hf h2) 0 2 rfl rfl hv hd K
      · have h3 : nl_at c9 k = 0 ∨ nl_at c9 k = 1 := by
          unfold nl_at at h2 ⊢
          split at h2
          · exact absurd rfl h2
          · split at h2 <;> simp
          · exact Or.inl rfl
        rcases h3 with h3 | h3
        · exact va_alen (D := gD G) (cl := nl_cs) (tys := nl_ty G) X.1 X.2.1 X.2.2.2.2.2.1.1 (nl_Parr hW h7 ho hkk hf h2) 0 0 rfl (by rw [h3]; rfl) hv hd K
        · exact va_alen (D := gD G) (cl := nl_cs) (tys := nl_ty G) X.1 X.2.1 X.2.2.2.2.2.1.1 (nl_Parr hW h7 ho hkk hf h2) 0 1 rfl (by rw [h3]; rfl) hv hd K
    · obtain ⟨rfl, rfl, rfl, h9⟩ := h9
      obtain ⟨scr, s1, s2, s3, s4, s5⟩ := hW.2.2 h9
      have h6 := X.2.2.2.2.2.2.1.2.2.2.2.2.1 h9
      refine W.alen X.1 X.2.1 s1 s2 (n := Int32.ofInt (gL G)) ?_ rfl rfl hd (hgo _ _ _ _ E H locs ls hW hS hL (nl_ok1 trivial (nl_okt hV)))
      rw [s4]
      show Int32.ofNat _ = _
      rw [← Int32.ofInt_eq_ofNat, Int.toNat_of_nonneg h6.2.1]
  · cases E
theorem ns_tableswitch (X : nl_Cx p l e R s m args c cells slots cc nL ci n G) {d9 lo hi : Int} {offs : Array Int} (hd : decode cc pc = .ok (.tableswitch d9 lo hi offs, len)) (hk : nl_ok ci nL (pc, .tableswitch d9 lo hi offs, len, a, b, c') = true) (hgo : ∀ pc' L' S' h', go pc' L' S' h' = some res → nl_Go p l e R s m args below meth c cells slots Q G nL pc' L' S' h')
    (E : nl_st (gL G) den ret pc L S h (.tableswitch d9 lo hi offs) len a b c' go = some res) : nl_Go p l e R s m args below meth c cells slots Q G nL pc L S h := by
  simp only [nl_ok, Bool.and_eq_true, decide_eq_true_eq] at hk
  obtain ⟨⟨hk1, hk2⟩, hk3⟩ := hk
  simp only [nl_st] at E
  split at E
  · rename_i x S'
    intro H locs ls hW hS hL hV
    by_cases hr : lo ≤ nl_nz x ∧ nl_nz x ≤ hi
    · obtain ⟨t, e1, e2⟩ := nl_sw_in (x := nl_nz x) (go := fun t => go t L S' h) (d := a) c' lo b hr.1 (by omega)
      rw [e2] at E
      have e3 : (offs.toList.map (fun o => (pc : Int) + o))[(nl_nz x - lo).toNat]? = some (t : Int) := by
        rw [hk3, List.getElem?_map, e1]
        rfl
      rw [List.getElem?_map] at e3
      obtain ⟨o, o1, o2⟩ := Option.map_eq_some_iff.mp e3
      refine lv_tableIn X.1 X.2.1 hd (x := Int32.ofInt x) (off := o) (tgt := t) (by rw [nx_toInt]; omega) (by rw [nx_toInt]; omega) (by rw [nx_toInt, ← Array.getElem?_toList]; exact o1) o2 ?_
      exact hgo _ _ _ _ E H locs ls hW hS hL (nl_okt hV)
    · rw [nl_sw_out c' lo b (by omega)] at E
      exact lv_tableOut X.1 X.2.1 hd (x := Int32.ofInt x) (by rw [nx_toInt]; omega) hk1 (hgo _ _ _ _ E H locs ls hW hS hL (nl_okt hV))
  · cases E
end NLARR
