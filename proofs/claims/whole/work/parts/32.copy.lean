theorem ap_copy {a b : mx_S} (hI : IR a b) (hs : IS a b) (x1 x2 x3 x4 x5 : Int32) : Alk (RowsP a b) 78 150 [mx_I x1, mx_I x2, mx_I x3, mx_I x4, mx_I x5] a b := by
  have hbad : RowsP a b a (mx_up b 0 39 0 0) := ⟨fun r hr => by simpa [q_up] using hI r hr, by simpa [IS, q_up] using hs, kpX_rf, kpM_up kpM_rf (by omega)⟩
  rcases q_ix x1 (n := 8) (by decide) with hb | ⟨ja, hja, rfl⟩
  · refine ⟨-1000001, a, mx_up b 0 39 0 0, ?_, ?_, hbad⟩
    · rw [e_X_copy, s_below1 x1 8 8 rfl hb, q_bI, if_pos rfl]
    · rw [e_M_copy, q_w, s_isRow1 x1 hb, q_bI, if_pos rfl]
  have hjaI : (nI ja).toInt = (ja : Int) := q_toI (by omega)
  rcases q_ix x3 (n := 8) (by decide) with hb | ⟨jb, hjb, rfl⟩
  · refine ⟨-1000001, a, mx_up b 0 39 0 0, ?_, ?_, hbad⟩
    · rw [e_X_copy, s_below2 (nI ja) 8 8 rfl (by omega) (by omega), q_bI, if_neg (by decide), s_below1 x3 8 8 rfl hb, q_bI, if_pos rfl]
    · rw [e_M_copy, q_w, s_isRow2 hja, q_bI, if_neg (by decide), s_isRow1 x3 hb, q_bI, if_pos rfl]
  have hjbI : (nI jb).toInt = (jb : Int) := q_toI (by omega)
  have hX0 := e_X_copy (nI ja) x2 (nI jb) x4 x5 a
  rw [s_below2 (nI ja) 8 8 rfl (by omega) (by omega), q_bI, if_neg (by decide), s_below2 (nI jb) 8 8 rfl (by omega) (by omega), q_bI, if_neg (by decide), q_g hja (by decide), q_g hjb (by decide)] at hX0
  have hM0 := e_M_copy (nI ja) x2 (nI jb) x4 x5 b
  rw [q_w, s_isRow2 hja, q_bI, if_neg (by decide), s_isRow2 hjb, q_bI, if_neg (by decide), q_w] at hM0
  have eb : ∀ o, o ≠ 39 → mx_up (mx_up b 0 39 0 0) 0 39 1 0 0 o = b 0 o := fun o ho => by rw [q_uo ho, q_uo ho]
  have fin : ∀ (y : Int32), RowsP a b (mx_up a 0 28 9 y) (mx_up (mx_up (mx_up b 0 39 0 0) 0 39 1 0) 0 39 1 y) := fun y => ⟨fun r hr => by simpa [q_up] using hI r hr, by simp [IS, q_up], kpX_up kpX_rf (by omega), kpM_up (kpM_up (kpM_up kpM_rf (by omega)) (by omega)) (by omega)⟩
  simp only [q_g hja (show 8 ≤ 2147483648 by decide), q_g hjb (show 8 ≤ 2147483648 by decide), eb 40 (show (40 : Nat) ≠ 39 by decide), eb 41 (show (41 : Nat) ≠ 39 by decide)] at hM0
  obtain ⟨na, hna, hna1, hna2⟩ := (hI ja hja).1
  obtain ⟨nb, hnb, hnb1, hnb2⟩ := (hI jb hjb).1
  rcases (hI ja hja).2.2 with ⟨hm, hl⟩ | ⟨hm, la, hla3, hla, hla2⟩
  · rw [hm, if_neg (by decide), s_finding, q_bI] at hX0
    rw [hl, if_pos (by decide), s_mfinding, q_bI] at hM0
    exact ⟨_, _, _, hX0, hM0, fin 1⟩
  rw [hm, if_pos rfl] at hX0
  rw [hla2, if_neg (q_lt0 (by omega))] at hM0
  rcases (hI jb hjb).2.2 with ⟨hm, hl⟩ | ⟨hm, lb, hlb3, hlb, hlb2⟩
  · rw [hm, if_neg (by decide), s_finding, q_bI] at hX0
    rw [hl, if_neg (by decide), s_mfinding, q_bI] at hM0
    exact ⟨_, _, _, hX0, hM0, fin 1⟩
  rw [hm, if_pos rfl, hla, hlb] at hX0
  rw [hlb2, if_pos (q_le0 (by omega))] at hM0
  by_cases hll : nI la = nI lb
  · rw [if_pos hll] at hX0 hM0
    have e0 : (0 : Int32).toInt = 0 := rfl
    simp only [hna2, hnb2, q_lt, e0, (q_cmp _ _).2.1, (q_cmp _ _).2.2.2.1, q_ltL, q_leL, q_wadd, q_wide, q_toI (show na < 2147483648 by omega), q_toI (show nb < 2147483648 by omega), s_mfinding, q_bI] at hM0
    by_cases hok : 0 ≤ x2.toInt ∧ 0 ≤ x4.toInt ∧ 0 ≤ x5.toInt ∧ x2.toInt + x5.toInt ≤ na ∧ x4.toInt + x5.toInt ≤ nb
    · obtain ⟨g1, g2, g3, g4, g5⟩ := hok
      rw [s_holds2 hna1 hna g1 g3 g4, q_bI, if_neg (by decide), s_holds2 hnb1 hnb g2 g3 g5, q_bI, if_neg (by decide)] at hX0
      rw [if_neg (by omega), if_neg (by omega), if_neg (by omega), if_neg (by omega), if_pos (by omega)] at hM0
      obtain ⟨i, hi, rfl⟩ : ∃ i : Nat, i ≤ 40 ∧ x2 = nI i := ⟨x2.toInt.toNat, by omega, q_of (by omega)⟩
      obtain ⟨j, hj, rfl⟩ : ∃ j : Nat, j ≤ 40 ∧ x4 = nI j := ⟨x4.toInt.toNat, by omega, q_of (by omega)⟩
      obtain ⟨n, hn, rfl⟩ : ∃ n : Nat, n ≤ 40 ∧ x5 = nI n := ⟨x5.toInt.toNat, by omega, q_of (by omega)⟩
      rw [q_toI (by omega)] at g1 g2 g3 g4 g5
      rw [q_toI (by omega)] at g4 g5
      rw [q_c (show i + n ≤ 40 by omega) (show j + n ≤ 40 by omega) (by decide) (by decide), s_unfound, q_bI] at hX0
      have hM1 : mx_sem 150 [mx_R 0 39, mx_I (nI ja), mx_I (nI i), mx_I (nI jb), mx_I (nI j), mx_I (nI n)] b = some (some (mx_I (nI n)), fun k o p => if k = 0 ∧ o = 42 ∧ 40 * jb + j ≤ p ∧ p < 40 * jb + j + n then mx_up (mx_up b 0 39 0 0) 0 39 1 0 0 42 (40 * ja + i + (p - (40 * jb + j))) else mx_up (mx_up b 0 39 0 0) 0 39 1 0 k o p) := by
        rw [hM0]
        rw [q_toI (by omega), q_toI (by omega)]
        by_cases hij : (i : Int) < j
        · rw [if_pos hij]
          exact s_mcopy_dn ja jb i j n hn hja hjb (by omega) (by omega) _ (by omega) n 0 (by omega) _ (fun k o p => by rw [if_neg (by omega)])
        · rw [if_neg hij]
          exact s_mcopy_up ja jb i j n hn hja hjb (by omega) (by omega) _ (by omega) n 0 (by omega) _ (fun k o p => by rw [if_neg (by omega)])
      refine ⟨_, _, _, hX0, hM1, ?_, ?_, ?_, ?_⟩
      · intro r hr
        have h5 := hI r hr
        refine ⟨by simpa [q_up, q_cpy] using h5.1, fun i' hi' => ?_, by simpa [q_up, q_cpy] using h5.2.2⟩
        show (if 0 = 0 ∧ 42 = 42 ∧ 40 * jb + j ≤ 40 * r + i' ∧ 40 * r + i' < 40 * jb + j + n then _ else _) = _
        rw [q_uo (show (33 : Nat) ≠ 28 by decide), q_cpy, eb 42 (by decide)]
        by_cases e : r = jb ∧ 33 = 33 ∧ j ≤ i' ∧ i' < j + n
        · rw [if_pos (by omega), if_pos e, ← (hI ja hja).2.1 (i + (i' - j)) (by omega)]
          congr 1
          omega
        · rw [if_neg (by omega), if_neg e]
          exact h5.2.1 i' hi'
      · show mx_up _ 0 28 9 0 0 28 9 = (if 0 = 0 ∧ 39 = 42 ∧ _ then _ else _)
        rw [if_neg (by omega), q_us, q_us]
      · refine kpX_up (fun k o p h1 h2 h3 h4 => ?_) (by omega)
        rw [q_cpy, if_neg (by omega)]
      · intro k o p h1 h2 h3 h4 h5
        show (if k = 0 ∧ o = 42 ∧ _ then _ else _) = _
        rw [if_neg (by omega)]
        exact kpM_up (kpM_up kpM_rf (by omega)) (by omega) k o p h1 h2 h3 h4 h5
    · have hX1 : mx_sem 78 [mx_R 0 28, mx_I (nI ja), mx_I x2, mx_I (nI jb), mx_I x4, mx_I x5] a = some (some (mx_I (-1000010 - 2)), mx_up a 0 28 9 2) := by
        by_cases h1 : 0 ≤ x2.toInt ∧ 0 ≤ x5.toInt ∧ x2.toInt + x5.toInt ≤ na
        · rw [s_holds2 hna1 hna h1.1 h1.2.1 h1.2.2, q_bI, if_neg (by decide), s_holds1 hnb1 hnb (by omega), q_bI, if_pos rfl, s_finding, q_bI] at hX0
          exact hX0
        · rw [s_holds1 hna1 hna h1, q_bI, if_pos rfl, s_finding, q_bI] at hX0
          exact hX0
      refine ⟨_, _, _, hX1, ?_, fin 2⟩
      rw [hM0]
      repeat' split
      all_goals first | rfl | (exfalso; omega)
  · rw [if_neg hll, s_finding, q_bI] at hX0
    rw [if_neg hll, s_mfinding, q_bI] at hM0
    exact ⟨_, _, _, hX0, hM0, fin 5⟩
