/-! ===== rows ===== -/
def mx_fl (s : mx_S) (k o i n : Nat) (x : Int32) : mx_S := fun k' o' j' => if k' = k ∧ o' = o ∧ i ≤ j' ∧ j' < n then x else s k' o' j'
theorem e_J_fill (k o : Nat) (x : Int32) (s : mx_S) (hT : mx_aT o = 1) (hQ : Nat.beq o mx_oQ = false) : mx_sem 18 [mx_R k o, mx_I x] s = mx_H 18 6 [some (mx_R k o), some (mx_I x), some (mx_I 0), some (mx_I (Int32.ofNat (mx_aN o)))] s := by
  refine (mx_sem_eq 18 _ s).trans ?_
  show (match Nat.beq o mx_oQ with | false => (match Nat.beq (mx_aT o) 1 with | true => mx_H 18 6 [some (mx_R k o), some (mx_I x), some (mx_I 0), some (mx_I (Int32.ofNat (mx_aN o)))] s | false => none) | true => none) = _
  rw [hQ, hT]
theorem e_J_fill_6 (k o : Nat) (x i n : Int32) (s : mx_S) (hT : mx_aT o = 1) (hQ : Nat.beq o mx_oQ = false) : mx_H 18 6 [some (mx_R k o), some (mx_I x), some (mx_I i), some (mx_I n)] s = if n ≤ i then some (none, s) else mx_g none i (mx_aN o) fun j => mx_w (mx_up s k o j x) fun s1 => mx_H 18 6 [some (mx_R k o), some (mx_I x), some (mx_I (i + 1)), some (mx_I n)] s1 := by
  refine (mx_H_eq 18 6 _ s).trans ?_
  show (if n ≤ i then some (none, s) else (match Nat.beq o mx_oQ with | false => (match Nat.beq (mx_aT o) 1 with | true => (mx_g none i (mx_aN o) fun j => mx_w (mx_up s k o j x) fun s1 => mx_H 18 6 [some (mx_R k o), some (mx_I x), some (mx_I (i + 1)), some (mx_I n)] s1) | false => none) | true => none)) = _
  rw [hQ, hT]
theorem s_fill_l (k o : Nat) (x : Int32) (hT : mx_aT o = 1) (hQ : Nat.beq o mx_oQ = false) (hN : mx_aN o < 2147483648) : ∀ (d i : Nat) (s : mx_S), i + d = mx_aN o → mx_H 18 6 [some (mx_R k o), some (mx_I x), some (mx_I (nI i)), some (mx_I (nI (mx_aN o)))] s = some (none, mx_fl s k o i (mx_aN o) x) := by
  intro d
  induction d with
  | zero =>
    intro i s h
    rw [e_J_fill_6 _ _ _ _ _ _ hT hQ, if_pos ((q_leN hN (by omega)).mpr (by omega))]
    congr 2
    funext k' o' j'
    unfold mx_fl
    rw [if_neg (by omega)]
  | succ d ih =>
    intro i s h
    rw [e_J_fill_6 _ _ _ _ _ _ hT hQ, if_neg (by rw [q_leN hN (by omega)]; omega), q_g (by omega) (by omega), q_w, nI_1, ih (i + 1) _ (by omega)]
    congr 2
    funext k' o' j'
    unfold mx_fl
    rw [q_up]
    split <;> split <;> (try split) <;> first | rfl | (exfalso; omega)
theorem s_fill (k o : Nat) (x : Int32) (s : mx_S) (hT : mx_aT o = 1) (hQ : Nat.beq o mx_oQ = false) (hN : mx_aN o < 2147483648) : mx_sem 18 [mx_R k o, mx_I x] s = some (none, mx_fl s k o 0 (mx_aN o) x) := by
  rw [e_J_fill _ _ _ _ hT hQ]
  exact s_fill_l k o x hT hQ hN (mx_aN o) 0 s (by omega)
/-! X's cells stand in the store a, M's in the store b -/
def IR (a b : mx_S) : Prop := ∀ r, r < 8 → (∃ n, n ≤ 40 ∧ a r 32 3 = nI n ∧ b 0 41 r = nI n) ∧ (∀ i, i < 40 → b 0 42 (40 * r + i) = a r 33 i) ∧ ((a r 32 1 = 1 ∧ b 0 40 r = -1) ∨ (a r 32 1 = 0 ∧ ∃ l, l < 3 ∧ a r 32 2 = nI l ∧ b 0 40 r = nI l))
def IS (a b : mx_S) : Prop := a 0 28 9 = b 0 39 1
/-- but for rows and finding -/
def kpX (a a' : mx_S) : Prop := ∀ k o j, o < 39 → o ≠ 32 → o ≠ 33 → (o = 28 → j ≠ 9) → a' k o j = a k o j
def kpM (b b' : mx_S) : Prop := ∀ k o j, 39 ≤ o → o ≠ 40 → o ≠ 41 → o ≠ 42 → (o = 39 → 2 ≤ j) → b' k o j = b k o j
theorem q_fl {s : mx_S} {k o i n : Nat} {x : Int32} {k' o' j' : Nat} : mx_fl s k o i n x k' o' j' = if k' = k ∧ o' = o ∧ i ≤ j' ∧ j' < n then x else s k' o' j' := rfl
theorem q_flo {s : mx_S} {k o i n : Nat} {x : Int32} {k' o' : Nat} (h : o' ≠ o) : mx_fl s k o i n x k' o' = s k' o' := by
  funext j'
  rw [q_fl, if_neg (fun q => h q.2.1)]
theorem kpX_rf {a : mx_S} : kpX a a := fun _ _ _ _ _ _ _ => rfl
theorem kpM_rf {b : mx_S} : kpM b b := fun _ _ _ _ _ _ _ _ => rfl
theorem kpX_up {a a' : mx_S} {k o j : Nat} {x : Int32} (h : kpX a a') (hb : 39 ≤ o ∨ o = 32 ∨ o = 33 ∨ (o = 28 ∧ j = 9)) : kpX a (mx_up a' k o j x) := by
  intro k' o' j' h1 h2 h3 h4
  rw [q_up, if_neg]
  · exact h k' o' j' h1 h2 h3 h4
  · rintro ⟨-, rfl, rfl⟩
    rcases hb with e | e | e | ⟨e, e2⟩
    · omega
    · exact h2 e
    · exact h3 e
    · exact h4 e e2
theorem kpX_fl {a a' : mx_S} {k o i n : Nat} {x : Int32} (h : kpX a a') (hb : o = 32 ∨ o = 33) : kpX a (mx_fl a' k o i n x) := by
  intro k' o' j' h1 h2 h3 h4
  rw [q_fl, if_neg]
  · exact h k' o' j' h1 h2 h3 h4
  · rintro ⟨-, rfl, -⟩
    omega
theorem kpM_up {b b' : mx_S} {k o j : Nat} {x : Int32} (h : kpM b b') (hb : o < 39 ∨ o = 40 ∨ o = 41 ∨ o = 42 ∨ (o = 39 ∧ j < 2)) : kpM b (mx_up b' k o j x) := by
  intro k' o' j' h1 h2 h3 h4 h5
  rw [q_up, if_neg]
  · exact h k' o' j' h1 h2 h3 h4 h5
  · rintro ⟨-, rfl, rfl⟩
    rcases hb with e | e | e | e | ⟨e, e2⟩
    · omega
    · exact h2 e
    · exact h3 e
    · exact h4 e
    · exact absurd (h5 e) (by omega)
theorem kpM_fl {b b' : mx_S} {k o i n : Nat} {x : Int32} (h : kpM b b') (hb : o = 42) : kpM b (mx_fl b' k o i n x) := by
  intro k' o' j' h1 h2 h3 h4 h5
  rw [q_fl, if_neg]
  · exact h k' o' j' h1 h2 h3 h4 h5
  · rintro ⟨-, rfl, -⟩
    omega
/-- the two answer alike, and behind it P -/
def Alk (P : mx_S → mx_S → Prop) (yX yM : Nat) (as : List mx_V) (a b : mx_S) : Prop := ∃ v a' b', mx_sem yX (mx_R 0 28 :: as) a = some (some (mx_I v), a') ∧ mx_sem yM (mx_R 0 39 :: as) b = some (some (mx_I v), b') ∧ P a' b'
def RowsP (a b : mx_S) : mx_S → mx_S → Prop := fun a' b' => IR a' b' ∧ IS a' b' ∧ kpX a a' ∧ kpM b b'
theorem s_finding (x : Int32) (σ : mx_S) : mx_sem 69 [mx_R 0 28, mx_I x] σ = some (some (mx_I (-1000010 - x)), mx_up σ 0 28 9 x) := e_X_finding x σ
theorem s_unfound (x : Int32) (σ : mx_S) : mx_sem 68 [mx_R 0 28, mx_I x] σ = some (some (mx_I x), mx_up σ 0 28 9 0) := e_X_unfound x σ
theorem s_mfinding (x : Int32) (σ : mx_S) : mx_sem 119 [mx_R 0 39, mx_I x] σ = some (some (mx_I (-1000010 - x)), mx_up σ 0 39 1 x) := e_M_finding x σ
theorem ap_drop {a b : mx_S} (hI : IR a b) (hs : IS a b) (x1 : Int32) : Alk (RowsP a b) 84 155 [mx_I x1] a b := by
  rcases q_ix x1 (n := 8) (by decide) with hb | ⟨j, hj, rfl⟩
  · refine ⟨-1000001, a, mx_up b 0 39 0 0, ?_, ?_, ?_, ?_, ?_, ?_⟩
    · rw [e_X_drop, s_below1 x1 8 8 rfl hb, q_bI, if_pos rfl]
    · rw [e_M_drop, q_w, s_isRow1 x1 hb, q_bI, if_pos rfl]
    · intro r hr; simpa [q_up] using hI r hr
    · simpa [IS, q_up] using hs
    · exact kpX_rf
    · exact kpM_up kpM_rf (by omega)
  · have hjI : (nI j).toInt = (j : Int) := q_toI (by omega)
    rcases (hI j hj).2.2 with ⟨hm, hl⟩ | ⟨hm, l, hl3, hl, hl2⟩
    · refine ⟨-1000010 - 1, mx_up a 0 28 9 1, mx_up (mx_up (mx_up b 0 39 0 0) 0 39 1 0) 0 39 1 1, ?_, ?_, ?_, ?_, ?_, ?_⟩
      · rw [e_X_drop, s_below2 (nI j) 8 8 rfl (by omega) (by omega), q_bI, if_neg (by decide), q_g hj (by decide), hm, if_neg (by decide), s_finding, q_bI]
      · rw [e_M_drop, q_w, s_isRow2 hj, q_bI, if_neg (by decide), q_w, q_g hj (by decide), q_uo (by decide), q_uo (by decide), hl, if_neg (by decide), s_mfinding, q_bI]
      · intro r hr; simpa [q_up] using hI r hr
      · simp [IS, q_up]
      · exact kpX_up kpX_rf (by omega)
      · exact kpM_up (kpM_up (kpM_up kpM_rf (by omega)) (by omega)) (by omega)
    · obtain ⟨n, hn, h1, h2⟩ := (hI j hj).1
      refine ⟨nI n, mx_up (mx_up a j 32 1 1) 0 28 9 0, mx_up (mx_up (mx_up b 0 39 0 0) 0 39 1 0) 0 40 j (-1), ?_, ?_, ?_, ?_, ?_, ?_⟩
      · rw [e_X_drop, s_below2 (nI j) 8 8 rfl (by omega) (by omega), q_bI, if_neg (by decide), q_g hj (by decide), hm, if_pos rfl, q_g hj (by decide), q_w, q_g hj (by decide), s_unfound, q_bI, q_uj (by decide), h1]
      · rw [e_M_drop, q_w, s_isRow2 hj, q_bI, if_neg (by decide), q_w, q_g hj (by decide)]
        simp only [q_g hj (show 8 ≤ 2147483648 by decide), q_w]
        simp [q_up, hl2, h2, q_le0 (show l < 2147483648 by omega)]
      · intro r hr
        have h5 := hI r hr
        by_cases e : r = j
        · subst e
          refine ⟨by simpa [q_up] using h5.1, by simpa [q_up] using h5.2.1, Or.inl ?_⟩
          simp [q_up]
        · simpa [q_up, e] using h5
      · simp [IS, q_up]
      · exact kpX_up (kpX_up kpX_rf (by omega)) (by omega)
      · exact kpM_up (kpM_up (kpM_up kpM_rf (by omega)) (by omega)) (by omega)
theorem ap_status {a b : mx_S} (hI : IR a b) (hs : IS a b) : Alk (RowsP a b) 106 187 [] a b := by
  refine ⟨a 0 28 9, a, mx_up b 0 39 0 0, e_X_status a, ?_, ?_, ?_, kpX_rf, kpM_up kpM_rf (by omega)⟩
  · rw [e_M_status, q_w, q_uj (by decide), show a 0 28 9 = b 0 39 1 from hs]
  · intro r hr; simpa [q_up] using hI r hr
  · simpa [IS, q_up] using hs
theorem s_mrow_l (r : Nat) (hr : r < 8) (x : Int32) : ∀ (d i : Nat) (s : mx_S), i + d = 40 → mx_H 183 39 [some (mx_R 0 39), some (mx_I (nI r)), none, some (mx_I x), some (mx_I (nI i))] s = some (some (mx_I x), mx_fl s 0 42 (40 * r + i) (40 * r + 40) 0) := by
  intro d
  induction d with
  | zero =>
    intro i s h
    have : i = 40 := by omega
    subst this
    rw [e_M_row_39, if_pos (by decide)]
    congr 2
    funext k' o' j'
    rw [q_fl, if_neg (by omega)]
  | succ d ih =>
    intro i s h
    rw [e_M_row_39, if_neg (by rw [q_lit, q_leN (by decide) (by omega)]; omega)]
    rw [q_gx (n := 40 * r + i) (by rw [q_lit, q_mul, q_add]) (by omega) (by decide), q_w, nI_1, ih (i + 1) _ (by omega)]
    congr 2
    funext k' o' j'
    rw [q_fl, q_fl, q_up]
    split <;> split <;> (try split) <;> first | rfl | (exfalso; omega)
theorem ap_row {a b : mx_S} (hI : IR a b) (hs : IS a b) (x1 x2 x3 : Int32) : Alk (RowsP a b) 101 183 [mx_I x1, mx_I x2, mx_I x3] a b := by
  have hbad : IR a (mx_up b 0 39 0 0) ∧ IS a (mx_up b 0 39 0 0) := ⟨fun r hr => by simpa [q_up] using hI r hr, by simpa [IS, q_up] using hs⟩
  rcases q_ix x1 (n := 8) (by decide) with hb | ⟨j, hj, rfl⟩
  · refine ⟨-1000001, a, mx_up b 0 39 0 0, ?_, ?_, hbad.1, hbad.2, kpX_rf, kpM_up kpM_rf (by omega)⟩
    · rw [e_X_row, s_below1 x1 8 8 rfl hb, q_bI, if_pos rfl]
    · rw [e_M_row, q_w, s_isRow1 x1 hb, q_bI, if_pos rfl]
  have hjI : (nI j).toInt = (j : Int) := q_toI (by omega)
  rcases q_ix x2 (n := 3) (by decide) with hb | ⟨l, hl, rfl⟩
  · refine ⟨-1000001, a, mx_up b 0 39 0 0, ?_, ?_, hbad.1, hbad.2, kpX_rf, kpM_up kpM_rf (by omega)⟩
    · rw [e_X_row, s_below2 (nI j) 8 8 rfl (by omega) (by omega), q_bI, if_neg (by decide), s_below1 x2 3 3 rfl hb, q_bI, if_pos rfl]
    · rw [e_M_row, q_w, s_isRow2 hj, q_bI, if_neg (by decide), s_in1 _ _ _ (by rw [q_wide, show (0 : Int64).toInt = 0 from rfl, show (2 : Int64).toInt = 2 from rfl]; omega), q_bI, if_pos rfl]
  have hlI : (nI l).toInt = (l : Int) := q_toI (by omega)
  have hX0 := e_X_row (nI j) (nI l) x3 a
  rw [s_below2 (nI j) 8 8 rfl (by omega) (by omega), q_bI, if_neg (by decide), s_below2 (nI l) 3 3 rfl (by omega) (by omega), q_bI, if_neg (by decide)] at hX0
  have hM0 := e_M_row (nI j) (nI l) x3 b
  rw [q_w, s_isRow2 hj, q_bI, if_neg (by decide), s_in2 _ _ _ (by rw [q_wide, show (0 : Int64).toInt = 0 from rfl]; omega) (by rw [q_wide, show (2 : Int64).toInt = 2 from rfl]; omega), q_bI, if_neg (by decide)] at hM0
  by_cases h40 : x3 ≤ 40
  · rw [if_pos h40] at hX0 hM0
    rw [q_w] at hM0
    by_cases h0 : 0 ≤ x3
    · rw [if_pos h0] at hX0 hM0
      obtain ⟨n, hn, rfl⟩ : ∃ n, n ≤ 40 ∧ x3 = nI n := by
        rw [q_le] at h40 h0
        have e1 : (40 : Int32).toInt = 40 := rfl
        have e2 : (0 : Int32).toInt = 0 := rfl
        exact ⟨x3.toInt.toNat, by omega, q_of (by omega)⟩
      rw [q_g hj (by decide), e_Y_make, q_w, q_w, q_w, s_fill j 33 0 _ (by decide) (by decide) (by decide), q_bV, q_bV, s_unfound, q_bI] at hX0
      rw [q_g hj (by decide), q_w, q_g hj (by decide), q_w] at hM0
      have hM1 := hM0.trans (s_mrow_l j hj (nI n) 40 0 _ (by omega))
      refine ⟨nI n, _, _, hX0, hM1, ?_, ?_, ?_, ?_⟩
      · intro r hr
        have h5 := hI r hr
        by_cases e : r = j
        · subst e
          refine ⟨⟨n, hn, by simp [q_up, q_fl], by simp [q_up, q_fl]⟩, fun i hi => ?_, Or.inr ⟨by simp [q_up, q_fl], l, hl, by simp [q_up, q_fl], by simp [q_up, q_fl]⟩⟩
          rw [q_fl, if_pos (by omega), q_up, if_neg (by omega), q_fl, if_pos ⟨rfl, rfl, by omega, by show i < 40; exact hi⟩]
        · refine ⟨by simpa [q_up, q_fl, e] using h5.1, fun i hi => ?_, by simpa [q_up, q_fl, e] using h5.2.2⟩
          rw [q_fl, if_neg (by omega)]
          simpa [q_up, q_fl, e] using h5.2.1 i hi
      · simp [IS, q_up, q_fl]
      · exact kpX_up (kpX_fl (kpX_up (kpX_up (kpX_up kpX_rf (by omega)) (by omega)) (by omega)) (by omega)) (by omega)
      · exact kpM_fl (kpM_up (kpM_up (kpM_up (kpM_up kpM_rf (by omega)) (by omega)) (by omega)) (by omega)) rfl
    · rw [if_neg h0, s_finding, q_bI] at hX0
      rw [if_neg h0, s_mfinding, q_bI] at hM0
      refine ⟨_, _, _, hX0, hM0, fun r hr => by simpa [q_up] using hI r hr, by simp [IS, q_up], kpX_up kpX_rf (by omega), kpM_up (kpM_up (kpM_up kpM_rf (by omega)) (by omega)) (by omega)⟩
  · rw [if_neg h40] at hX0 hM0
    exact ⟨_, _, _, hX0, hM0, hbad.1, hbad.2, kpX_rf, kpM_up kpM_rf (by omega)⟩
