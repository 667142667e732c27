/-! The world at the start, and the world with the model in it. -/
def nk_h0 : nl_H := fun c o k i => if c = 2 ∧ k = 0 then (if o = 0 then 2 + (i : Int) else 10 + (i : Int)) else if c = 1 ∧ k = 7 then -1 else 0
section NKW
variable {D : va_G} {Y : Nat → ClassId} {B M M1 b : Nat} {L : Int} {n6 n9 : Nat} {s : State} {H : Heap}
theorem nk_w0 {o a : Nat} (ha : nk_o B M 0 o = a) (h : nk_pl (nk_G D Y B M b L n6 n9) 0 a nk_a0 nk_V0 H) : t_OB (nk_o B M 0 o) (D.1 0) (nl_N 0) (D.2 0) H (nl_fv (nk_G D Y B M b L n6 n9) nk_h0 0 o) ∧ ∀ k, k < nl_N 0 → nl_fk 0 k = 1 → H[nk_a B M b 0 o k]? = some (vp_cell (Y (nl_at 0 k)) (nl_arr (nk_G D Y B M b L n6 n9) nk_h0 0 o k)) := by
  subst ha
  refine ⟨h.1.to fun k hk => ?_, fun k hk hf => ?_⟩
  · match k, hk with
    | 0, _ => rfl
    | 1, _ => rfl
    | 2, _ => rfl
    | 3, _ => rfl
    | 4, _ => rfl
    | 5, _ => rfl
    | n + 6, h => exact absurd (show n + 6 < 6 from h) (by omega)
  · match k, hk with
    | 0, _ => exact h.2 0 _ rfl
    | 1, _ => exact h.2 1 _ rfl
    | 2, _ => exact h.2 2 _ rfl
    | 3, _ => exact h.2 3 _ rfl
    | 4, _ => exact h.2 4 _ rfl
    | 5, _ => exact absurd hf (by decide)
    | n + 6, h => exact absurd (show n + 6 < 6 from h) (by omega)
theorem nk_w1 {o a : Nat} (ha : nk_o B M 1 o = a) (h : nk_pl (nk_G D Y B M b L n6 n9) 1 a nk_a1 nk_V1 H) : t_OB (nk_o B M 1 o) (D.1 1) (nl_N 1) (D.2 1) H (nl_fv (nk_G D Y B M b L n6 n9) nk_h0 1 o) ∧ ∀ k, k < nl_N 1 → nl_fk 1 k = 1 → H[nk_a B M b 1 o k]? = some (vp_cell (Y (nl_at 1 k)) (nl_arr (nk_G D Y B M b L n6 n9) nk_h0 1 o k)) := by
  subst ha
  refine ⟨h.1.to fun k hk => ?_, fun k hk hf => ?_⟩
  · match k, hk with
    | 0, _ => rfl
    | 1, _ => rfl
    | 2, _ => rfl
    | 3, _ => rfl
    | 4, _ => rfl
    | 5, _ => rfl
    | 6, _ => rfl
    | 7, _ => rfl
    | n + 8, h => exact absurd (show n + 8 < 8 from h) (by omega)
  · match k, hk with
    | 0, _ => exact h.2 0 _ rfl
    | 1, _ => exact h.2 1 _ rfl
    | 2, _ => exact h.2 2 _ rfl
    | 3, _ => exact h.2 3 _ rfl
    | 4, _ => exact h.2 4 _ rfl
    | 5, _ => exact absurd hf (by decide)
    | 6, _ => exact absurd hf (by decide)
    | 7, _ => exact absurd hf (by decide)
    | n + 8, h => exact absurd (show n + 8 < 8 from h) (by omega)
theorem nk_w3 {o a : Nat} (ha : nk_o B M 3 o = a) (h : nk_pl (nk_G D Y B M b L n6 n9) 3 a nk_a3 nk_V3 H) : t_OB (nk_o B M 3 o) (D.1 3) (nl_N 3) (D.2 3) H (nl_fv (nk_G D Y B M b L n6 n9) nk_h0 3 o) ∧ ∀ k, k < nl_N 3 → nl_fk 3 k = 1 → H[nk_a B M b 3 o k]? = some (vp_cell (Y (nl_at 3 k)) (nl_arr (nk_G D Y B M b L n6 n9) nk_h0 3 o k)) := by
  subst ha
  refine ⟨h.1.to fun k hk => ?_, fun k hk hf => ?_⟩
  · match k, hk with
    | 0, _ => rfl
    | 1, _ => rfl
    | 2, _ => rfl
    | 3, _ => rfl
    | n + 4, h => exact absurd (show n + 4 < 4 from h) (by omega)
  · match k, hk with
    | 0, _ => exact h.2 0 _ rfl
    | 1, _ => exact h.2 1 _ rfl
    | 2, _ => exact h.2 2 _ rfl
    | 3, _ => exact absurd hf (by decide)
    | n + 4, h => exact absurd (show n + 4 < 4 from h) (by omega)
theorem nk_w4 {o a : Nat} (ha : nk_o B M 4 o = a) (h : nk_pl (nk_G D Y B M b L n6 n9) 4 a nk_a4 nk_V4 H) : t_OB (nk_o B M 4 o) (D.1 4) (nl_N 4) (D.2 4) H (nl_fv (nk_G D Y B M b L n6 n9) nk_h0 4 o) ∧ ∀ k, k < nl_N 4 → nl_fk 4 k = 1 → H[nk_a B M b 4 o k]? = some (vp_cell (Y (nl_at 4 k)) (nl_arr (nk_G D Y B M b L n6 n9) nk_h0 4 o k)) := by
  subst ha
  refine ⟨h.1.to fun k hk => ?_, fun k hk hf => ?_⟩
  · match k, hk with
    | 0, _ => rfl
    | 1, _ => rfl
    | 2, _ => rfl
    | 3, _ => rfl
    | 4, _ => rfl
    | 5, _ => rfl
    | 6, _ => rfl
    | 7, _ => rfl
    | 8, _ => rfl
    | 9, _ => rfl
    | 10, _ => rfl
    | n + 11, h => exact absurd (show n + 11 < 11 from h) (by omega)
  · match k, hk with
    | 0, _ => exact absurd hf (by decide)
    | 1, _ => exact absurd hf (by decide)
    | 2, _ => exact absurd hf (by decide)
    | 3, _ => exact h.2 0 _ rfl
    | 4, _ => exact h.2 1 _ rfl
    | 5, _ => exact h.2 2 _ rfl
    | 6, _ => exact h.2 3 _ rfl
    | 7, _ => exact h.2 4 _ rfl
    | 8, _ => exact h.2 5 _ rfl
    | 9, _ => exact h.2 6 _ rfl
    | 10, _ => exact h.2 7 _ rfl
    | n + 11, h => exact absurd (show n + 11 < 11 from h) (by omega)
theorem nk_wS {o a N : Nat} (ha : nk_o B M 2 o = a) (ho : o = 0 ∧ N = 8 ∧ a = B + 26 ∨ o = 1 ∧ N = 2 ∧ a = B + 100) (h : nk_Sh (nk_G D Y B M b L n6 n9) a N H) : t_OB (nk_o B M 2 o) (D.1 2) (nl_N 2) (D.2 2) H (nl_fv (nk_G D Y B M b L n6 n9) nk_h0 2 o) ∧ H[nk_a B M b 2 o 0]? = some (vp_cell (Y (nl_at 2 0)) (nl_arr (nk_G D Y B M b L n6 n9) nk_h0 2 o 0)) := by
  subst ha
  obtain ⟨h1, h2, -⟩ := h
  rcases ho with ⟨rfl, rfl, ha⟩ | ⟨rfl, rfl, ha⟩
  · refine ⟨h1.to fun k hk => ?_, ?_⟩
    · match k, hk with
      | 0, _ => rfl
      | 1, _ => rfl
      | n + 2, h => exact absurd (show n + 2 < 2 from h) (by omega)
    · rw [show nk_a B M b 2 0 0 = nk_o B M 2 0 + 1 from rfl, h2]
      show some (arrV (Y 2) 8 (fun j => Value.ref (nk_o B M 2 0 + 2 + 9 * j))) = some (arrV (Y 2) 8 (fun j => va_rf (some (nk_o B M 4 (nk_h0 2 0 0 j).toNat))))
      congr 1
  · refine ⟨h1.to fun k hk => ?_, ?_⟩
    · match k, hk with
      | 0, _ => rfl
      | 1, _ => rfl
      | n + 2, h => exact absurd (show n + 2 < 2 from h) (by omega)
    · rw [show nk_a B M b 2 1 0 = nk_o B M 2 1 + 1 from rfl, h2]
      show some (arrV (Y 2) 2 (fun j => Value.ref (nk_o B M 2 1 + 2 + 9 * j))) = some (arrV (Y 2) 2 (fun j => va_rf (some (nk_o B M 4 (nk_h0 2 1 0 j).toNat))))
      congr 1
theorem nk_valpl {G : nl_G} {a : Nat} (h : nk_val G a H) : nk_pl G 4 a nk_a4 nk_V4 H := h
theorem nk_v4 (F : nk_F (nk_G D Y B M b L n6 n9) B H) {o : Nat} (ho : o < 12) : ∃ a, nk_o B M 4 o = a ∧ nk_pl (nk_G D Y B M b L n6 n9) 4 a nk_a4 nk_V4 H := by
  obtain ⟨-, -, -, -, f4, f5, f6, f7, -, -⟩ := F
  rcases Nat.lt_or_ge o 2 with h2 | h2
  · rcases (show o = 0 ∨ o = 1 by omega) with rfl | rfl
    · exact ⟨_, rfl, f4⟩
    · exact ⟨_, rfl, f5⟩
  · rcases Nat.lt_or_ge o 10 with h3 | h3
    · have := f6.2.2 (o - 2) (by omega)
      exact ⟨_, by simp only [nk_o]; omega, nk_valpl this⟩
    · have := f7.2.2 (o - 10) (by omega)
      exact ⟨_, by simp only [nk_o]; omega, nk_valpl this⟩
theorem nk_w5 (F : nk_F (nk_G D Y B M b L n6 n9) B H) : t_OB (nk_o B M 5 0) (D.1 5) (nl_N 5) (D.2 5) H (nl_fv (nk_G D Y B M b L n6 n9) nk_h0 5 0) ∧ ∀ k, k < nl_N 5 → nl_fk 5 k = 1 → H[nk_a B M b 5 0 k]? = some (vp_cell (Y (nl_at 5 k)) (nl_arr (nk_G D Y B M b L n6 n9) nk_h0 5 0 k)) := by
  obtain ⟨-, f2, f3, -⟩ := F
  refine ⟨f2.to fun k hk => ?_, fun k hk hf => ?_⟩
  · match k, hk with
    | 0, _ => rfl
    | 1, _ => rfl
    | 2, _ => rfl
    | 3, _ => rfl
    | 4, _ => rfl
    | 5, _ => rfl
    | 6, _ => rfl
    | 7, _ => rfl
    | 8, _ => rfl
    | n + 9, h => exact absurd (show n + 9 < 9 from h) (by omega)
  · match k, hk with
    | 0, _ => exact f3 0 _ rfl
    | 1, _ => exact absurd hf (by decide)
    | 2, _ => exact absurd hf (by decide)
    | 3, _ => exact absurd hf (by decide)
    | 4, _ => exact absurd hf (by decide)
    | 5, _ => exact absurd hf (by decide)
    | 6, _ => exact absurd hf (by decide)
    | 7, _ => exact absurd hf (by decide)
    | 8, _ => exact absurd hf (by decide)
    | n + 9, h => exact absurd (show n + 9 < 9 from h) (by omega)
theorem nk_Wd0 (F : nk_F (nk_G D Y B M b L 0 0) B H) : nl_Wd (nk_G D Y B M b L 0 0) nk_h0 s H := by
  have F0 := F
  obtain ⟨-, -, -, f1, -, -, f6, f7, f8, f9⟩ := F0
  refine ⟨fun c o h1 h2 => ?_, fun c o k h1 h2 h3 h4 => ?_, fun h => absurd h (show ¬ (0 : Nat) = 1 by decide)⟩
  · match c, h1, h2 with
    | 0, _, h2 => obtain rfl : o = 0 := by have : o < 1 := h2; omega
                  exact (nk_w0 (M := M) (o := 0) rfl f9).1
    | 1, _, h2 => obtain rfl : o = 0 := by have : o < 1 := h2; omega
                  exact (nk_w1 (M := M) (o := 0) rfl f1).1
    | 2, _, h2 => have h9 : o < 2 := h2
                  rcases (show o = 0 ∨ o = 1 by omega) with rfl | rfl
                  · exact (nk_wS (M := M) (o := 0) rfl (Or.inl ⟨rfl, rfl, rfl⟩) f6).1
                  · exact (nk_wS (M := M) (o := 1) rfl (Or.inr ⟨rfl, rfl, rfl⟩) f7).1
    | 3, _, h2 => obtain rfl : o = 0 := by have : o < 1 := h2; omega
                  exact (nk_w3 (M := M) (o := 0) rfl f8).1
    | 4, _, h2 => obtain ⟨a, e, f⟩ := nk_v4 F (o := o) h2
                  exact (nk_w4 e f).1
    | 5, _, h2 => obtain rfl : o = 0 := by have : o < 1 := h2; omega
                  exact (nk_w5 F).1
    | 6, _, h2 => exact absurd (show o < 0 from h2) (by omega)
    | n + 7, h, _ => exact absurd h (by omega)
  · match c, h1, h2, h3, h4 with
    | 0, _, h2, h3, h4 => obtain rfl : o = 0 := by have : o < 1 := h2; omega
                          exact (nk_w0 (M := M) (o := 0) rfl f9).2 k h3 h4
    | 1, _, h2, h3, h4 => obtain rfl : o = 0 := by have : o < 1 := h2; omega
                          exact (nk_w1 (M := M) (o := 0) rfl f1).2 k h3 h4
    | 2, _, h2, h3, h4 => have h9 : o < 2 := h2
                          have hk0 : k = 0 := nk_f2 k h3 h4
                          subst hk0
                          rcases (show o = 0 ∨ o = 1 by omega) with rfl | rfl
                          · exact (nk_wS (M := M) (o := 0) rfl (Or.inl ⟨rfl, rfl, rfl⟩) f6).2
                          · exact (nk_wS (M := M) (o := 1) rfl (Or.inr ⟨rfl, rfl, rfl⟩) f7).2
    | 3, _, h2, h3, h4 => obtain rfl : o = 0 := by have : o < 1 := h2; omega
                          exact (nk_w3 (M := M) (o := 0) rfl f8).2 k h3 h4
    | 4, _, h2, h3, h4 => obtain ⟨a, e, f⟩ := nk_v4 F (o := o) h2
                          exact (nk_w4 e f).2 k h3 h4
    | 5, _, h2, h3, h4 => obtain rfl : o = 0 := by have : o < 1 := h2; omega
                          exact (nk_w5 F).2 k h3 h4
    | 6, _, h2, _, _ => exact absurd (show o < 0 from h2) (by omega)
    | n + 7, h, _, _, _ => exact absurd h (by omega)
theorem nk_fvM {h : nl_H} {c o k : Nat} (hc : c < 6) (hk : k < nl_N c) : nl_fv (nk_G D Y B M b L 0 0) h c o k = nl_fv (nk_G D Y B M1 b L n6 n9) h c o k := by
  match c, hc, hk with
  | 0, _, hk => match k, hk with
    | 0, _ => rfl
    | 1, _ => rfl
    | 2, _ => rfl
    | 3, _ => rfl
    | 4, _ => rfl
    | 5, _ => rfl
    | n + 6, h => exact absurd (show n + 6 < 6 from h) (by omega)
  | 1, _, hk => match k, hk with
    | 0, _ => rfl
    | 1, _ => rfl
    | 2, _ => rfl
    | 3, _ => rfl
    | 4, _ => rfl
    | 5, _ => rfl
    | 6, _ => rfl
    | 7, _ => rfl
    | n + 8, h => exact absurd (show n + 8 < 8 from h) (by omega)
  | 2, _, hk => match k, hk with
    | 0, _ => rfl
    | 1, _ => rfl
    | n + 2, h => exact absurd (show n + 2 < 2 from h) (by omega)
  | 3, _, hk => match k, hk with
    | 0, _ => rfl
    | 1, _ => rfl
    | 2, _ => rfl
    | 3, _ => rfl
    | n + 4, h => exact absurd (show n + 4 < 4 from h) (by omega)
  | 4, _, hk => match k, hk with
    | 0, _ => rfl
    | 1, _ => rfl
    | 2, _ => rfl
    | 3, _ => rfl
    | 4, _ => rfl
    | 5, _ => rfl
    | 6, _ => rfl
    | 7, _ => rfl
    | 8, _ => rfl
    | 9, _ => rfl
    | 10, _ => rfl
    | n + 11, h => exact absurd (show n + 11 < 11 from h) (by omega)
  | 5, _, hk => match k, hk with
    | 0, _ => rfl
    | 1, _ => rfl
    | 2, _ => rfl
    | 3, _ => rfl
    | 4, _ => rfl
    | 5, _ => rfl
    | 6, _ => rfl
    | 7, _ => rfl
    | 8, _ => rfl
    | n + 9, h => exact absurd (show n + 9 < 9 from h) (by omega)
  | n + 6, h, _ => exact absurd h (by omega)
theorem nk_arM {h : nl_H} {c o k : Nat} (hc : c < 6) (hk : k < nl_N c) : nl_arr (nk_G D Y B M b L 0 0) h c o k = nl_arr (nk_G D Y B M1 b L n6 n9) h c o k ∧ nk_a B M b c o k = nk_a B M1 b c o k ∧ nk_o B M c o = nk_o B M1 c o ∧ nk_n 0 0 c = nk_n n6 n9 c := by
  match c, hc, hk with
  | 0, _, hk => match k, hk with
    | 0, _ => exact ⟨rfl, rfl, rfl, rfl⟩
    | 1, _ => exact ⟨rfl, rfl, rfl, rfl⟩
    | 2, _ => exact ⟨rfl, rfl, rfl, rfl⟩
    | 3, _ => exact ⟨rfl, rfl, rfl, rfl⟩
    | 4, _ => exact ⟨rfl, rfl, rfl, rfl⟩
    | 5, _ => exact ⟨rfl, rfl, rfl, rfl⟩
    | n + 6, h => exact absurd (show n + 6 < 6 from h) (by omega)
  | 1, _, hk => match k, hk with
    | 0, _ => exact ⟨rfl, rfl, rfl, rfl⟩
    | 1, _ => exact ⟨rfl, rfl, rfl, rfl⟩
    | 2, _ => exact ⟨rfl, rfl, rfl, rfl⟩
    | 3, _ => exact ⟨rfl, rfl, rfl, rfl⟩
    | 4, _ => exact ⟨rfl, rfl, rfl, rfl⟩
    | 5, _ => exact ⟨rfl, rfl, rfl, rfl⟩
    | 6, _ => exact ⟨rfl, rfl, rfl, rfl⟩
    | 7, _ => exact ⟨rfl, rfl, rfl, rfl⟩
    | n + 8, h => exact absurd (show n + 8 < 8 from h) (by omega)
  | 2, _, hk => match k, hk with
    | 0, _ => exact ⟨rfl, rfl, rfl, rfl⟩
    | 1, _ => exact ⟨rfl, rfl, rfl, rfl⟩
    | n + 2, h => exact absurd (show n + 2 < 2 from h) (by omega)
  | 3, _, hk => match k, hk with
    | 0, _ => exact ⟨rfl, rfl, rfl, rfl⟩
    | 1, _ => exact ⟨rfl, rfl, rfl, rfl⟩
    | 2, _ => exact ⟨rfl, rfl, rfl, rfl⟩
    | 3, _ => exact ⟨rfl, rfl, rfl, rfl⟩
    | n + 4, h => exact absurd (show n + 4 < 4 from h) (by omega)
  | 4, _, hk => match k, hk with
    | 0, _ => exact ⟨rfl, rfl, rfl, rfl⟩
    | 1, _ => exact ⟨rfl, rfl, rfl, rfl⟩
    | 2, _ => exact ⟨rfl, rfl, rfl, rfl⟩
    | 3, _ => exact ⟨rfl, rfl, rfl, rfl⟩
    | 4, _ => exact ⟨rfl, rfl, rfl, rfl⟩
    | 5, _ => exact ⟨rfl, rfl, rfl, rfl⟩
    | 6, _ => exact ⟨rfl, rfl, rfl, rfl⟩
    | 7, _ => exact ⟨rfl, rfl, rfl, rfl⟩
    | 8, _ => exact ⟨rfl, rfl, rfl, rfl⟩
    | 9, _ => exact ⟨rfl, rfl, rfl, rfl⟩
    | 10, _ => exact ⟨rfl, rfl, rfl, rfl⟩
    | n + 11, h => exact absurd (show n + 11 < 11 from h) (by omega)
  | 5, _, hk => match k, hk with
    | 0, _ => exact ⟨rfl, rfl, rfl, rfl⟩
    | 1, _ => exact ⟨rfl, rfl, rfl, rfl⟩
    | 2, _ => exact ⟨rfl, rfl, rfl, rfl⟩
    | 3, _ => exact ⟨rfl, rfl, rfl, rfl⟩
    | 4, _ => exact ⟨rfl, rfl, rfl, rfl⟩
    | 5, _ => exact ⟨rfl, rfl, rfl, rfl⟩
    | 6, _ => exact ⟨rfl, rfl, rfl, rfl⟩
    | 7, _ => exact ⟨rfl, rfl, rfl, rfl⟩
    | 8, _ => exact ⟨rfl, rfl, rfl, rfl⟩
    | n + 9, h => exact absurd (show n + 9 < 9 from h) (by omega)
  | n + 6, h, _ => exact absurd h (by omega)
/-- the model's object and the script come into the world -/
theorem nk_Wd1 {h : nl_H} (W0 : nl_Wd (nk_G D Y B M b L 0 0) h s H) (h1 : t_OB M1 (D.1 6) (nl_N 6) (D.2 6) H (nl_fv (nk_G D Y B M1 b L 1 n9) h 6 0)) (h2 : ∀ k, k < nl_N 6 → nl_fk 6 k = 1 → H[nk_a B M1 b 6 0 k]? = some (vp_cell (Y 0) (nl_arr (nk_G D Y B M1 b L 1 n9) h 6 0 k))) (h3 : n9 = 1 → va_X b L.toNat (fun i => Int32.ofInt (h 9 0 0 i)) s H) : nl_Wd (nk_G D Y B M1 b L 1 n9) h s H := by
  refine ⟨fun c o g1 g2 => ?_, fun c o k g1 g2 g3 g4 => ?_, h3⟩
  · rcases Nat.lt_or_ge c 6 with q | q
    · have hN : 0 < nl_N c := by
        match c, q with
        | 0, _ => decide
        | 1, _ => decide
        | 2, _ => decide
        | 3, _ => decide
        | 4, _ => decide
        | 5, _ => decide
        | n + 6, h => exact absurd h (by omega)
      have e := nk_arM (D := D) (Y := Y) (B := B) (M := M) (M1 := M1) (b := b) (L := L) (n6 := 1) (n9 := n9) (h := h) (o := o) (k := 0) q hN
      have w := W0.1 c o g1 (show o < nk_n 0 0 c by rw [e.2.2.2]; exact g2)
      have w : t_OB (nk_o B M c o) (D.1 c) (nl_N c) (D.2 c) H (nl_fv (nk_G D Y B M b L 0 0) h c o) := w
      rw [e.2.2.1] at w
      exact w.to fun k hk => nk_fvM q hk
    · obtain rfl : c = 6 := by omega
      obtain rfl : o = 0 := by have : o < 1 := g2; omega
      exact h1
  · rcases Nat.lt_or_ge c 6 with q | q
    · have e := nk_arM (D := D) (Y := Y) (B := B) (M := M) (M1 := M1) (b := b) (L := L) (n6 := 1) (n9 := n9) (h := h) (o := o) (k := k) q g3
      have w := W0.2.1 c o k g1 (show o < nk_n 0 0 c by rw [e.2.2.2]; exact g2) g3 g4
      have w : H[nk_a B M b c o k]? = some (vp_cell (Y (nl_at c k)) (nl_arr (nk_G D Y B M b L 0 0) h c o k)) := w
      rw [e.1, e.2.1] at w
      exact w
    · obtain rfl : c = 6 := by omega
      obtain rfl : o = 0 := by have : o < 1 := g2; omega
      exact h2 k g3 g4
end NKW
