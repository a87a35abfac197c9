/-! ===== numbers ===== -/
theorem q_lit (n : Nat) : (OfNat.ofNat n : Int32) = nI (OfNat.ofNat n) := rfl
theorem q_litL (n : Nat) : (OfNat.ofNat n : Int64) = lN (OfNat.ofNat n) := rfl
theorem q_lt (a b : Int32) : a < b ↔ a.toInt < b.toInt := Int32.lt_iff_toInt_lt
theorem q_le (a b : Int32) : a ≤ b ↔ a.toInt ≤ b.toInt := Int32.le_iff_toInt_le
theorem q_eq (a b : Int32) : a = b ↔ a.toInt = b.toInt := Int32.toInt_inj.symm
theorem q_ltL (a b : Int64) : a < b ↔ a.toInt < b.toInt := Int64.lt_iff_toInt_lt
theorem q_leL (a b : Int64) : a ≤ b ↔ a.toInt ≤ b.toInt := Int64.le_iff_toInt_le
theorem q_wide (a : Int32) : a.toInt64.toInt = a.toInt := Int32.toInt_toInt64 a
theorem q_toI {n : Nat} (h : n < 2147483648) : (nI n).toInt = (n : Int) := nI_toInt h
theorem q_toL {n : Nat} (h : n < 2147483648) : (lN n).toInt = (n : Int) := lN_toInt h
theorem q_rng (a : Int32) : -2147483648 ≤ a.toInt ∧ a.toInt < 2147483648 := ⟨Int32.le_toInt a, Int32.toInt_lt a⟩
theorem q_of {x : Int32} {n : Nat} (h : x.toInt = (n : Int)) : x = nI n := by
  have := q_rng x
  rw [q_eq, h, q_toI (by omega)]
theorem q_cl {n : Nat} (h : n < 2147483648) : (nI n).toNatClampNeg = n := nI_clamp h
/-! the machine's words -/
theorem q_g {α : Type} {fl : α} {n N : Nat} {f : Nat → α} (h : n < N) (hN : N ≤ 2147483648) : mx_g fl (nI n) N f = f n := by
  have hn : n < 2147483648 := by omega
  unfold mx_g
  rw [if_neg, q_cl hn]
  rw [q_cl hn, q_lt, q_toI hn, show (0 : Int32).toInt = 0 from rfl]
  omega
theorem q_gx {α : Type} {fl : α} {x : Int32} {N : Nat} {f : Nat → α} {n : Nat} (hx : x = nI n) (h : n < N) (hN : N ≤ 2147483648) : mx_g fl x N f = f n := by
  rw [hx]; exact q_g h hN
theorem q_w {α : Type} (s : mx_S) (f : mx_S → α) : mx_w s f = f s := rfl
theorem q_bI {α : Type} (fl : α) (x : Int32) (σ : mx_S) (f : Int32 → mx_S → α) : mx_bI fl (some (some (Sum.inl x), σ)) f = f x σ := rfl
theorem q_bJ {α : Type} (fl : α) (x : Int64) (σ : mx_S) (f : Int64 → mx_S → α) : mx_bJ fl (some (some (Sum.inr (Sum.inl x)), σ)) f = f x σ := rfl
theorem q_bV {α : Type} (fl : α) (σ : mx_S) (f : mx_S → α) : mx_bV fl (some (none, σ)) f = f σ := rfl
theorem q_d {α : Type} {fl : α} {n : Nat} {f : α} (h : 0 < n) (hN : n < 2147483648) : mx_d fl (nI n) f = f := by
  unfold mx_d
  rw [if_neg]
  rw [q_eq, q_toI hN, show (0 : Int32).toInt = 0 from rfl]
  omega
theorem q_z0 {α : Type} (fl f : α) : mx_z fl 1 0 f = f := rfl
theorem q_z1 {α : Type} (fl f : α) : mx_z fl 1 1 f = f := rfl
theorem q_up {σ : mx_S} {k o j : Nat} {x : Int32} {k' o' j' : Nat} : mx_up σ k o j x k' o' j' = if k' = k ∧ o' = o ∧ j' = j then x else σ k' o' j' := rfl
theorem q_uo {σ : mx_S} {k o j : Nat} {x : Int32} {k' o' : Nat} (h : o' ≠ o) : mx_up σ k o j x k' o' = σ k' o' := mx_up_o (fun q => h (by cases q; rfl))
theorem q_uk {σ : mx_S} {k o j : Nat} {x : Int32} {k' o' : Nat} (h : k' ≠ k) : mx_up σ k o j x k' o' = σ k' o' := mx_up_o (fun q => h (by cases q; rfl))
theorem q_us {σ : mx_S} {k o j : Nat} {x : Int32} : mx_up σ k o j x k o j = x := mx_up_v
theorem q_uj {σ : mx_S} {k o j : Nat} {x : Int32} {j' : Nat} (h : j' ≠ j) : mx_up σ k o j x k o j' = σ k o j' := if_neg (fun q => h q.2.2)
theorem q_add (a b : Nat) : nI a + nI b = nI (a + b) := nI_add a b
theorem q_mul (a b : Nat) : nI a * nI b = nI (a * b) := pk_mul a b
theorem q_sub {a b : Nat} (h : b ≤ a) : nI a - nI b = nI (a - b) := pk_sub h
theorem q_leN {a b : Nat} (ha : a < 2147483648) (hb : b < 2147483648) : nI a ≤ nI b ↔ a ≤ b := nI_leI ha hb
theorem q_ltN {a b : Nat} (ha : a < 2147483648) (hb : b < 2147483648) : nI a < nI b ↔ a < b := nI_ltI ha hb
theorem q_eqN {a b : Nat} (ha : a < 2147483648) (hb : b < 2147483648) : nI a = nI b ↔ a = b := nI_eq ha hb
theorem q_lt0 {a : Nat} (ha : a < 2147483648) : ¬ nI a < 0 := nI_pos ha
theorem q_le0 {a : Nat} (ha : a < 2147483648) : 0 ≤ nI a := nI_pos' ha
/-- any int is below, or not below n, or a place -/
theorem q_ix (x : Int32) {n : Nat} (hn : n < 2147483648) : (x.toInt < 0 ∨ (n : Int) ≤ x.toInt) ∨ ∃ j : Nat, j < n ∧ x = nI j := by
  rcases Int.lt_or_le x.toInt 0 with h | h
  · exact Or.inl (Or.inl h)
  · rcases Int.lt_or_le x.toInt n with h2 | h2
    · refine Or.inr ⟨x.toInt.toNat, by omega, q_of ?_⟩
      omega
    · exact Or.inl (Or.inr h2)
/-! small methods -/
theorem s_below1 (x c : Int32) (n : Nat) (hc : c.toInt = n) (h : x.toInt < 0 ∨ (n : Int) ≤ x.toInt) (s : mx_S) : mx_sem 21 [mx_I x, mx_I c] s = some (some (mx_I 0), s) := by
  rw [e_X_isBelow]
  split
  · rfl
  · rename_i h0
    rw [if_pos]
    rw [q_lt, show (0 : Int32).toInt = 0 from rfl] at h0
    rw [q_le, hc]
    omega
theorem s_below2 (x c : Int32) (n : Nat) (hc : c.toInt = n) (h : 0 ≤ x.toInt) (h2 : x.toInt < n) (s : mx_S) : mx_sem 21 [mx_I x, mx_I c] s = some (some (mx_I 1), s) := by
  rw [e_X_isBelow, if_neg, if_neg]
  · rw [q_le, hc]; omega
  · rw [q_lt, show (0 : Int32).toInt = 0 from rfl]; omega
theorem s_within1 (x a b : Int32) (h : x.toInt < a.toInt ∨ b.toInt < x.toInt) (s : mx_S) : mx_sem 48 [mx_I x, mx_I a, mx_I b] s = some (some (mx_I 0), s) := by
  rw [e_X_isWithin]
  split
  · rfl
  · rename_i h0
    rw [q_lt] at h0
    rw [if_pos]
    rw [q_lt]
    omega
theorem s_within2 (x a b : Int32) (h : a.toInt ≤ x.toInt) (h2 : x.toInt ≤ b.toInt) (s : mx_S) : mx_sem 48 [mx_I x, mx_I a, mx_I b] s = some (some (mx_I 1), s) := by
  rw [e_X_isWithin, if_neg, if_neg]
  · rw [q_lt]; omega
  · rw [q_lt]; omega
theorem q_cmp (x y : Int64) : (lg_cmp x y < 0 ↔ x < y) ∧ (0 < lg_cmp x y ↔ y < x) ∧ (lg_cmp x y = 0 ↔ x = y) ∧ (lg_cmp x y ≤ 0 ↔ x ≤ y) ∧ (0 ≤ lg_cmp x y ↔ y ≤ x) := by
  have e : x = y ↔ x.toInt = y.toInt := Int64.toInt_inj.symm
  unfold lg_cmp
  by_cases h1 : x > y
  · rw [if_pos h1]
    have h1' : y.toInt < x.toInt := (q_ltL _ _).mp h1
    refine ⟨⟨fun h => absurd h (by decide), fun h => ?_⟩, ⟨fun _ => h1, fun _ => by decide⟩, ⟨fun h => absurd h (by decide), fun h => ?_⟩, ⟨fun h => absurd h (by decide), fun h => ?_⟩, ⟨fun _ => ?_, fun _ => by decide⟩⟩
    · rw [q_ltL] at h; omega
    · rw [e] at h; omega
    · rw [q_leL] at h; omega
    · rw [q_leL]; omega
  · rw [if_neg h1]
    have h1' : ¬ y.toInt < x.toInt := fun z => h1 ((q_ltL _ _).mpr z)
    by_cases h2 : x = y
    · rw [if_pos h2]
      subst h2
      refine ⟨⟨fun h => absurd h (by decide), fun h => absurd h h1⟩, ⟨fun h => absurd h (by decide), fun h => absurd h h1⟩, ⟨fun _ => rfl, fun _ => rfl⟩, ⟨fun _ => ?_, fun _ => by decide⟩, ⟨fun _ => ?_, fun _ => by decide⟩⟩
      · rw [q_leL]; omega
      · rw [q_leL]; omega
    · rw [if_neg h2]
      rw [e] at h2
      refine ⟨⟨fun _ => ?_, fun _ => by decide⟩, ⟨fun h => absurd h (by decide), fun h => absurd h h1⟩, ⟨fun h => absurd h (by decide), fun h => absurd (e.mp h) h2⟩, ⟨fun _ => ?_, fun _ => by decide⟩, ⟨fun h => absurd h (by decide), fun h => ?_⟩⟩
      · rw [q_ltL]; omega
      · rw [q_leL]; omega
      · rw [q_leL] at h; omega
theorem s_in1 (w0 w2 w4 : Int64) (h : w0.toInt < w2.toInt ∨ w4.toInt < w0.toInt) (s : mx_S) : mx_sem 115 [mx_J w0, mx_J w2, mx_J w4] s = some (some (mx_I 0), s) := by
  rw [e_M_in]
  split
  · rfl
  · rename_i h0
    rw [(q_cmp _ _).1, q_ltL] at h0
    rw [if_pos]
    rw [(q_cmp _ _).2.1, q_ltL]
    omega
theorem s_in2 (w0 w2 w4 : Int64) (h : w2.toInt ≤ w0.toInt) (h2 : w0.toInt ≤ w4.toInt) (s : mx_S) : mx_sem 115 [mx_J w0, mx_J w2, mx_J w4] s = some (some (mx_I 1), s) := by
  rw [e_M_in, if_neg, if_neg]
  · rw [(q_cmp _ _).2.1, q_ltL]; omega
  · rw [(q_cmp _ _).1, q_ltL]; omega
theorem s_isRow1 (x : Int32) (h : x.toInt < 0 ∨ (8 : Int) ≤ x.toInt) (s : mx_S) : mx_sem 149 [mx_I x] s = some (some (mx_I 0), s) := by
  rw [e_M_isRow, s_in1 _ _ _ (by rw [q_wide, show (0 : Int64).toInt = 0 from rfl, show (7 : Int64).toInt = 7 from rfl]; omega), q_bI]
  rfl
theorem s_isRow2 {j : Nat} (h : j < 8) (s : mx_S) : mx_sem 149 [mx_I (nI j)] s = some (some (mx_I 1), s) := by
  rw [e_M_isRow, s_in2 _ _ _ (by rw [q_wide, q_toI (by omega), show (0 : Int64).toInt = 0 from rfl]; omega) (by rw [q_wide, q_toI (by omega), show (7 : Int64).toInt = 7 from rfl]; omega), q_bI]
  rfl
theorem q_c {α : Type} {fl : α} {σ : mx_S} {sp dp n k o k1 o1 : Nat} {f : mx_S → α} (h1 : sp + n ≤ mx_aN o) (h2 : dp + n ≤ mx_aN o1) (h3 : mx_aN o < 2147483648) (h4 : mx_aN o1 < 2147483648) : mx_c σ (nI sp) (nI dp) k o (nI n) k1 o1 fl f = f (mx_cp σ k o k1 o1 sp dp n) := by
  have e0 : (0 : Int32).toInt = 0 := rfl
  unfold mx_c
  rw [q_cl (show sp < 2147483648 by omega), q_cl (show dp < 2147483648 by omega), q_cl (show n < 2147483648 by omega), if_neg]
  simp only [q_lt, e0, q_toI (show sp < 2147483648 by omega), q_toI (show dp < 2147483648 by omega), q_toI (show n < 2147483648 by omega)]
  omega
