/-! The law from its start. -/
section WD
variable {D : va_G} {Y : Nat → ClassId} {B M M1 b : Nat} {L : Int} {s : State} {H : Heap} {h : nl_H}
theorem nk_WdM (W0 : nl_Wd (nk_G D Y B M b L 0 0) h s H) : nl_Wd (nk_G D Y B M1 b L 0 0) h s H := by
  refine ⟨fun c o g1 g2 => ?_, fun c o k g1 g2 g3 g4 => ?_, fun h9 => absurd h9 (show ¬ (0 : Nat) = 1 by decide)⟩
  · rcases Nat.lt_or_ge c 6 with q | q
    · have hN : 0 < nl_N c := by
        match c, q with
        | 0, _ => decide
        | 1, _ => decide
        | 2, _ => decide
        | 3, _ => decide
        | 4, _ => decide
        | 5, _ => decide
        | n + 6, h => exact absurd h (by omega)
      have e := nk_arM (D := D) (Y := Y) (B := B) (M := M) (M1 := M1) (b := b) (L := L) (n6 := 0) (n9 := 0) (h := h) (o := o) (k := 0) q hN
      have w : t_OB (nk_o B M c o) (D.1 c) (nl_N c) (D.2 c) H (nl_fv (nk_G D Y B M b L 0 0) h c o) := W0.1 c o g1 g2
      rw [e.2.2.1] at w
      exact w.to fun k hk => nk_fvM q hk
    · obtain rfl : c = 6 := by omega
      exact absurd (show o < 0 from g2) (by omega)
  · rcases Nat.lt_or_ge c 6 with q | q
    · have e := nk_arM (D := D) (Y := Y) (B := B) (M := M) (M1 := M1) (b := b) (L := L) (n6 := 0) (n9 := 0) (h := h) (o := o) (k := k) q g3
      have w : H[nk_a B M b c o k]? = some (vp_cell (Y (nl_at c k)) (nl_arr (nk_G D Y B M b L 0 0) h c o k)) := W0.2.1 c o k g1 g2 g3 g4
      rw [e.1, e.2.1] at w
      exact w
    · obtain rfl : c = 6 := by omega
      exact absurd (show o < 0 from g2) (by omega)
end WD
section WC
variable {p : Program} {l : Launch} {e : Env} {R : Room} {s : State} {m : MethodId} {args : Array Value} {below : List Frame} {meth : Method} {c : Code} {cells slots : Nat} {Q : State → Prop} {pc : Nat} {ls : Array Slot} {rest st0 : List Value} {H H0 : Heap} {locs : List Loc} {A : Nat → Prop}
/-- a constructor that answers by what holds of the state behind it -/
theorem nk_callG {mc ms : Nat} {Z : State → Prop} {Qa : State → Outcome → State → Prop} (hr : va_Run p l e R s m args below meth c H locs cells slots mc ms (F0 m pc ls st0) rest Qa A) (hQ : ∀ st oc t, Qa st oc t → oc = .returned none ∧ Z t ∧ va_F A st t) (hS : va_S A H0 H locs)
    (kk : ∀ (t : State) (H1 : Heap) (locs1 : List Loc), t.heap = H1 → s.vm.Alike t.vm → Z t → H.size ≤ H1.size → va_S A H0 H1 locs1 → W p l e R s m args below meth c H1 locs1 (cells + mc) (slots + ms) Q (F0 m (pc + 3) ls rest)) : W p l e R s m args below meth c H locs cells slots Q (F0 m pc ls st0) := by
  intro T hT X
  obtain ⟨v, st₀, t, T', L, h0, X', hL, e1, e2, hq, st⟩ := hr T hT X
  obtain ⟨hv, hZ, hz, hk⟩ := hQ _ _ _ hq
  cases hv
  rw [h0] at hz hk
  obtain ⟨t2, a1, b1⟩ := kk t T'.heap (locs ++ L) e1.symm (by rw [← e2]; exact X'.warmed.alike) hZ (by rw [e1]; exact hz)
    ⟨Nat.le_trans hS.1 (by rw [e1]; exact hz), fun q h1 h2 => by
      rw [e1, hk q (Nat.lt_of_lt_of_le h1 hS.1) h2]; exact hS.2.1 q h1 h2, fun q hq => by
      rcases List.mem_append.mp hq with h | h
      · exact hS.2.2 q h
      · exact hL q h⟩ T' rfl X'
  exact ⟨t2, st t2 a1, b1⟩
end WC
/-- what the tables know -/
theorem nw_known {s : State} {args : Array Value} (hts0 : ∀ w ∈ lw_tbl, w.before args s = true) : ∃ (D : va_G) (Y : Nat → ClassId), ∀ (B M b : Nat) (L : Int) (n6 n9 : Nat), nk_K (nk_G D Y B M b L n6 n9) s := by
  have hts : ∀ w ∈ nl_WL, w.before args s = true := fun w hw => hts0 w (nl_WL_in hw)
  have w1 : ∀ (i : Nat) (w : Jvm.Cond), tables_1_1[i]? = some w → w.before args s = true := fun i w h => hts0 w (List.mem_append_right _ (tb_1 (List.mem_of_getElem? h)))
  have w2 : ∀ (i : Nat) (w : Jvm.Cond), tables_1_2[i]? = some w → w.before args s = true := fun i w h => hts0 w (List.mem_append_right _ (tb_2 (List.mem_of_getElem? h)))
  have kn : ∀ c, c < 7 → ∃ q : ClassId × (Nat → Nat), u_Kn s (nl_R c) (nl_T c) (nl_N c) q.1 q.2 := fun c hc => by
    match c, hc with
    | 0, _ => obtain ⟨a, f, h⟩ := u_known hts (nl_lays 0 (by decide)) (hts _ (nl_w1 155 rfl rfl)); exact ⟨(a, f), h⟩
    | 1, _ => obtain ⟨a, f, h⟩ := u_known hts (nl_lays 1 (by decide)) (hts _ (nl_w1 23 rfl rfl)); exact ⟨(a, f), h⟩
    | 2, _ => obtain ⟨a, f, h⟩ := u_known hts (nl_lays 2 (by decide)) (hts _ (nl_w1 114 rfl rfl)); exact ⟨(a, f), h⟩
    | 3, _ => obtain ⟨a, f, h⟩ := u_known hts (nl_lays 3 (by decide)) (hts _ (nl_w1 134 rfl rfl)); exact ⟨(a, f), h⟩
    | 4, _ => obtain ⟨a, f, h⟩ := u_known hts (nl_lays 4 (by decide)) (hts _ (nl_w1 61 rfl rfl)); exact ⟨(a, f), h⟩
    | 5, _ => obtain ⟨a, f, h⟩ := u_known hts (nl_lays 5 (by decide)) (hts _ (nl_w1 15 rfl rfl)); exact ⟨(a, f), h⟩
    | 6, _ => obtain ⟨a, f, h⟩ := u_known hts (nl_lays 6 (by decide)) (hts _ (nl_w3 116 rfl rfl)); exact ⟨(a, f), h⟩
    | n + 7, h => exact absurd h (by omega)
  have kn2 : ∀ c, ∃ q : ClassId × (Nat → Nat), c < 7 → u_Kn s (nl_R c) (nl_T c) (nl_N c) q.1 q.2 := fun c => by
    by_cases hc : c < 7
    · obtain ⟨q, h⟩ := kn c hc
      exact ⟨q, fun _ => h⟩
    · exact ⟨(0, fun _ => 0), fun h => absurd h hc⟩
  obtain ⟨f, hf⟩ := Classical.axiomOfChoice kn2
  obtain ⟨cI, kI, compI, i1, i2, i3⟩ := Cond.arrayClass_spec (hts _ (nl_w1 59 rfl rfl))
  obtain ⟨cZ, kZ, compZ, j1, j2, j3⟩ := Cond.arrayClass_spec (hts _ (nl_w1 153 rfl rfl))
  have hov := w1 123 _ rfl
  obtain ⟨compV, cV, kV, v1, -, v2, v3, v4⟩ := Cond.arrayOver_spec hov
  refine ⟨(fun c => (f c).1, fun c => (f c).2), fun k => match k with
    | 0 => cI
    | 1 => cZ
    | _ => cV, fun B M b L n6 n9 => ?_⟩
  refine ⟨⟨⟨fun c q hq => ?_, fun k q hk => ?_⟩, va_Nw.of rfl (w2 13 _ rfl)⟩, va_Nw.of rfl (w1 24 _ rfl), va_Nw.of rfl (w1 62 _ rfl), va_Nw.of rfl (w1 124 _ rfl), va_Nw.of rfl (w1 135 _ rfl), va_Nw.of rfl (w1 156 _ rfl), va_AO.of hov⟩
  · match c, hq with
    | 0, hq => cases hq; exact hf 0 (by decide)
    | 1, hq => cases hq; exact hf 1 (by decide)
    | 2, hq => cases hq; exact hf 2 (by decide)
    | 3, hq => cases hq; exact hf 3 (by decide)
    | 4, hq => cases hq; exact hf 4 (by decide)
    | 5, hq => cases hq; exact hf 5 (by decide)
    | 6, hq => cases hq; exact hf 6 (by decide)
    | n + 7, hq => cases hq
  · match k, hk with
    | 0, hk => cases hk; exact ⟨fun n z => ⟨fun k h => (by cases h), kI, i2, compI, i3⟩, i1⟩
    | 1, hk => cases hk; exact ⟨fun n z => ⟨fun k h => (by cases h), kZ, j2, compZ, j3⟩, j1⟩
    | 2, hk => cases hk; exact ⟨fun n z => ⟨fun k h => (by cases h), kV, v2, compV, v3⟩, kV, compV, v2, v3, v1, v4⟩
    | n + 3, hk => cases hk
