/-! ===== set, copy ===== -/
theorem s_holds2 {a : mx_S} {k n : Nat} (hl : a k 32 3 = nI n) (hn : n ≤ 40) {x y : Int32} (h1 : 0 ≤ x.toInt) (h2 : 0 ≤ y.toInt) (h3 : x.toInt + y.toInt ≤ n) : mx_sem 77 [mx_R k 32, mx_I x, mx_I y] a = some (some (mx_I 1), a) := by
  obtain ⟨i, hi, rfl⟩ : ∃ i : Nat, i ≤ 40 ∧ x = nI i := ⟨x.toInt.toNat, by omega, q_of (by omega)⟩
  obtain ⟨m, hm, rfl⟩ : ∃ m : Nat, m ≤ 40 ∧ y = nI m := ⟨y.toInt.toNat, by omega, q_of (by omega)⟩
  rw [q_toI (by omega)] at h1 h3
  rw [q_toI (by omega)] at h2 h3
  rw [e_Y_holds, if_neg (q_lt0 (by omega)), if_neg (q_lt0 (by omega)), hl, if_neg (by rw [q_ltN (by omega) (by omega)]; omega), q_sub (by omega), if_neg (by rw [q_ltN (by omega) (by omega)]; omega)]
theorem s_holds1 {a : mx_S} {k n : Nat} (hl : a k 32 3 = nI n) (hn : n ≤ 40) {x y : Int32} (h : ¬ (0 ≤ x.toInt ∧ 0 ≤ y.toInt ∧ x.toInt + y.toInt ≤ n)) : mx_sem 77 [mx_R k 32, mx_I x, mx_I y] a = some (some (mx_I 0), a) := by
  have e0 : (0 : Int32).toInt = 0 := rfl
  rw [e_Y_holds]
  split
  · rfl
  · rename_i h1
    rw [q_lt, e0] at h1
    split
    · rfl
    · rename_i h2
      rw [q_lt, e0] at h2
      split
      · rfl
      · rename_i h3
        rw [hl, q_lt, q_toI (by omega)] at h3
        obtain ⟨m, hm, rfl⟩ : ∃ m : Nat, m ≤ 40 ∧ y = nI m := ⟨y.toInt.toNat, by omega, q_of (by omega)⟩
        rw [q_toI (by omega)] at h2 h3 h
        rw [if_pos]
        rw [hl, q_sub (by omega), q_lt, q_toI (by omega)]
        omega
def cutv (l : Nat) (x : Int32) : Int32 := if l = 0 then x.toInt8.toInt32 else if l = 1 then x.toInt16.toInt32 else x
theorem s_cut {a : mx_S} {k l : Nat} (hl : a k 32 2 = nI l) (h3 : l < 3) (x : Int32) : mx_sem 104 [mx_R k 32, mx_I x] a = some (some (mx_I (cutv l x)), a) := by
  rw [e_Y_cut, hl]
  rcases (show l = 0 ∨ l = 1 ∨ l = 2 by omega) with rfl | rfl | rfl
  · rw [if_pos (by decide)]; rfl
  · rw [if_neg (by decide), if_pos (by decide)]; rfl
  · rw [if_neg (by decide), if_neg (by decide)]; rfl
theorem q_pred {n : Nat} (h : n < 1073741824) : (nI n - 1).toInt = (n : Int) - 1 := pk_sub_toInt (b := 1) h (by decide)
theorem ap_set {a b : mx_S} (hI : IR a b) (hs : IS a b) (x1 x2 x3 : Int32) : Alk (RowsP a b) 105 186 [mx_I x1, mx_I x2, mx_I x3] a b := by
  rcases q_ix x1 (n := 8) (by decide) with hb | ⟨j, hj, rfl⟩
  · refine ⟨-1000001, a, mx_up b 0 39 0 0, ?_, ?_, fun r hr => by simpa [q_up] using hI r hr, by simpa [IS, q_up] using hs, kpX_rf, kpM_up kpM_rf (by omega)⟩
    · rw [e_X_set, s_below1 x1 8 8 rfl hb, q_bI, if_pos rfl]
    · rw [e_M_set, q_w, s_isRow1 x1 hb, q_bI, if_pos rfl]
  have hjI : (nI j).toInt = (j : Int) := q_toI (by omega)
  obtain ⟨n, hn, hn1, hn2⟩ := (hI j hj).1
  have hX0 := e_X_set (nI j) x2 x3 a
  rw [s_below2 (nI j) 8 8 rfl (by omega) (by omega), q_bI, if_neg (by decide), q_g hj (by decide)] at hX0
  have hM0 := e_M_set (nI j) x2 x3 b
  rw [q_w, s_isRow2 hj, q_bI, if_neg (by decide), q_w, q_g hj (by decide)] at hM0
  have eb : ∀ o, o ≠ 39 → mx_up (mx_up b 0 39 0 0) 0 39 1 0 0 o = b 0 o := fun o ho => by rw [q_uo ho, q_uo ho]
  rw [eb 40 (by decide), eb 41 (by decide)] at hM0
  have fin : ∀ (y : Int32), RowsP a b (mx_up a 0 28 9 y) (mx_up (mx_up (mx_up b 0 39 0 0) 0 39 1 0) 0 39 1 y) := fun y => ⟨fun r hr => by simpa [q_up] using hI r hr, by simp [IS, q_up], kpX_up kpX_rf (by omega), kpM_up (kpM_up (kpM_up kpM_rf (by omega)) (by omega)) (by omega)⟩
  rcases (hI j hj).2.2 with ⟨hm, hl⟩ | ⟨hm, l, hl3, hl, hl2⟩
  · rw [hm, if_neg (by decide), s_finding, q_bI] at hX0
    rw [hl, if_neg (by decide), s_mfinding, q_bI] at hM0
    exact ⟨_, _, _, hX0, hM0, fin 1⟩
  · rw [hm, if_pos rfl] at hX0
    rw [hl2, if_pos (q_le0 (by omega)), q_g hj (by decide), hn2] at hM0
    have e1 : (1 : Int32).toInt = 1 := rfl
    have e0 : (0 : Int64).toInt = 0 := rfl
    by_cases hin : 0 ≤ x2.toInt ∧ x2.toInt < n
    · obtain ⟨i, hi, rfl⟩ : ∃ i : Nat, i < n ∧ x2 = nI i := ⟨x2.toInt.toNat, by omega, q_of (by omega)⟩
      rw [q_toI (by omega)] at hin
      rw [s_holds2 hn1 hn (by rw [q_toI (by omega)]; omega) (by omega) (by rw [q_toI (by omega)]; omega), q_bI, if_neg (by decide), s_cut hl hl3, q_bI, q_g (by omega) (by decide), q_w, q_g (by omega) (by decide), s_unfound, q_bI, q_us] at hX0
      rw [s_in2 _ _ _ (by rw [q_wide, q_toI (by omega)]; omega) (by rw [q_wide, q_wide, q_toI (by omega), q_pred (by omega)]; omega), q_bI, if_neg (by decide), q_g hj (by decide)] at hM0
      have eix : ((40 : Int32) * nI j + nI i) = nI (40 * j + i) := by rw [q_lit, q_mul, q_add]
      simp only [eb 40 (show (40 : Nat) ≠ 39 by decide), hl2, q_g hj (show 8 ≤ 2147483648 by decide), eix, q_g (show 40 * j + i < 320 by omega) (show 320 ≤ 2147483648 by decide), q_w, q_us] at hM0
      have hM1 : mx_sem 186 [mx_R 0 39, mx_I (nI j), mx_I (nI i), mx_I x3] b = some (some (mx_I (cutv l x3)), mx_up (mx_up (mx_up b 0 39 0 0) 0 39 1 0) 0 42 (40 * j + i) (cutv l x3)) := by
        rw [hM0]
        rcases (show l = 0 ∨ l = 1 ∨ l = 2 by omega) with rfl | rfl | rfl
        · rw [if_pos (by decide)]; rfl
        · rw [if_neg (by decide), if_pos (by decide)]; rfl
        · rw [if_neg (by decide), if_neg (by decide)]; rfl
      refine ⟨_, _, _, hX0, hM1, ?_, by simp [IS, q_up], kpX_up (kpX_up kpX_rf (by omega)) (by omega), kpM_up (kpM_up (kpM_up kpM_rf (by omega)) (by omega)) (by omega)⟩
      intro r hr
      have h5 := hI r hr
      refine ⟨by simpa [q_up] using h5.1, fun i' hi' => ?_, by simpa [q_up] using h5.2.2⟩
      rw [q_uo (show (33 : Nat) ≠ 28 by decide)]
      by_cases e : r = j ∧ i' = i
      · obtain ⟨rfl, rfl⟩ := e
        rw [q_us, q_us]
      · rw [q_up, if_neg (by omega), q_up (σ := a), if_neg (by omega), eb 42 (by decide)]
        exact h5.2.1 i' hi'
    · rw [s_holds1 hn1 hn (by omega), q_bI, if_pos rfl, s_finding, q_bI] at hX0
      rw [s_in1 _ _ _ (by rw [q_wide, q_wide, q_pred (by omega), e0]; omega), q_bI, if_pos rfl, s_mfinding, q_bI] at hM0
      exact ⟨_, _, _, hX0, hM0, fin 2⟩
/-- M's copying, upwards -/
theorem s_mcopy_up (ja jb i j n : Nat) (hn : n ≤ 40) (hja : ja < 8) (hjb : jb < 8) (hi : i + n ≤ 40) (hj : j + n ≤ 40) (s0 : mx_S) (hd : 40 * jb + j ≤ 40 * ja + i ∨ 40 * ja + i + n ≤ 40 * jb + j) : ∀ (d t : Nat), t + d = n → ∀ s : mx_S, (∀ k o p, s k o p = if k = 0 ∧ o = 42 ∧ 40 * jb + j ≤ p ∧ p < 40 * jb + j + t then s0 0 42 (40 * ja + i + (p - (40 * jb + j))) else s0 k o p) →
    mx_H 150 85 [some (mx_R 0 39), some (mx_I (nI ja)), some (mx_I (nI i)), some (mx_I (nI jb)), some (mx_I (nI j)), some (mx_I (nI n)), some (mx_I 1), some (mx_I (nI t)), none] s = some (some (mx_I (nI n)), fun k o p => if k = 0 ∧ o = 42 ∧ 40 * jb + j ≤ p ∧ p < 40 * jb + j + n then s0 0 42 (40 * ja + i + (p - (40 * jb + j))) else s0 k o p) := by
  intro d
  induction d with
  | zero =>
    intro t ht s hs
    have : t = n := by omega
    subst this
    rw [e_M_copy_85, if_pos ((q_leN (by omega) (by omega)).mpr (Nat.le_refl _))]
    congr 2
    funext k o p
    exact hs k o p
  | succ d ih =>
    intro t ht s hs
    rw [e_M_copy_85, if_neg (by rw [q_leN (by omega) (by omega)]; omega), if_neg (by decide)]
    have e1 : ((40 : Int32) * nI ja + nI i) + nI t = nI (40 * ja + i + t) := by rw [q_lit, q_mul, q_add, q_add]
    have e2 : ((40 : Int32) * nI jb + nI j) + nI t = nI (40 * jb + j + t) := by rw [q_lit, q_mul, q_add, q_add]
    rw [e1, e2, q_g (by omega) (by decide), q_g (by omega) (by decide), q_w, nI_1]
    refine ih (t + 1) (by omega) _ (fun k o p => ?_)
    rw [q_up, hs k o p, hs 0 42 (40 * ja + i + t), if_neg (show ¬ (0 = 0 ∧ 42 = 42 ∧ 40 * jb + j ≤ 40 * ja + i + t ∧ 40 * ja + i + t < 40 * jb + j + t) by omega)]
    by_cases h1 : k = 0 ∧ o = 42 ∧ p = 40 * jb + j + t
    · rw [if_pos h1, if_pos (by omega)]
      congr 1
      omega
    · rw [if_neg h1]
      by_cases h2 : k = 0 ∧ o = 42 ∧ 40 * jb + j ≤ p ∧ p < 40 * jb + j + t
      · rw [if_pos h2, if_pos (by omega)]
      · rw [if_neg h2, if_neg (by omega)]
theorem s_mcopy_dn (ja jb i j n : Nat) (hn : n ≤ 40) (hja : ja < 8) (hjb : jb < 8) (hi : i + n ≤ 40) (hj : j + n ≤ 40) (s0 : mx_S) (hd : 40 * ja + i ≤ 40 * jb + j ∨ 40 * jb + j + n ≤ 40 * ja + i) : ∀ (d t : Nat), t + d = n → ∀ s : mx_S, (∀ k o p, s k o p = if k = 0 ∧ o = 42 ∧ 40 * jb + j + d ≤ p ∧ p < 40 * jb + j + n then s0 0 42 (40 * ja + i + (p - (40 * jb + j))) else s0 k o p) →
    mx_H 150 85 [some (mx_R 0 39), some (mx_I (nI ja)), some (mx_I (nI i)), some (mx_I (nI jb)), some (mx_I (nI j)), some (mx_I (nI n)), some (mx_I 0), some (mx_I (nI t)), none] s = some (some (mx_I (nI n)), fun k o p => if k = 0 ∧ o = 42 ∧ 40 * jb + j ≤ p ∧ p < 40 * jb + j + n then s0 0 42 (40 * ja + i + (p - (40 * jb + j))) else s0 k o p) := by
  intro d
  induction d with
  | zero =>
    intro t ht s hs
    have : t = n := by omega
    subst this
    rw [e_M_copy_85, if_pos ((q_leN (by omega) (by omega)).mpr (Nat.le_refl _))]
    congr 2
    funext k o p
    exact hs k o p
  | succ d ih =>
    intro t ht s hs
    rw [e_M_copy_85, if_neg (by rw [q_leN (by omega) (by omega)]; omega), if_pos (by decide)]
    have e0 : (nI n - 1) - nI t = nI d := by
      rw [show (1 : Int32) = nI 1 from rfl, q_sub (by omega), q_sub (by omega)]
      congr 1
      omega
    have e1 : ((40 : Int32) * nI ja + nI i) + ((nI n - 1) - nI t) = nI (40 * ja + i + d) := by rw [e0, q_lit, q_mul, q_add, q_add]
    have e2 : ((40 : Int32) * nI jb + nI j) + ((nI n - 1) - nI t) = nI (40 * jb + j + d) := by rw [e0, q_lit, q_mul, q_add, q_add]
    rw [e1, e2, q_g (by omega) (by decide), q_g (by omega) (by decide), q_w, nI_1]
    refine ih (t + 1) (by omega) _ (fun k o p => ?_)
    rw [q_up, hs k o p, hs 0 42 (40 * ja + i + d), if_neg (show ¬ (0 = 0 ∧ 42 = 42 ∧ 40 * jb + j + (d + 1) ≤ 40 * ja + i + d ∧ 40 * ja + i + d < 40 * jb + j + n) by omega)]
    by_cases h1 : k = 0 ∧ o = 42 ∧ p = 40 * jb + j + d
    · rw [if_pos h1, if_pos (by omega)]
      congr 1
      omega
    · rw [if_neg h1]
      by_cases h2 : k = 0 ∧ o = 42 ∧ 40 * jb + j + (d + 1) ≤ p ∧ p < 40 * jb + j + n
      · rw [if_pos h2, if_pos (by omega)]
      · rw [if_neg h2, if_neg (by omega)]
theorem q_cpy {s : mx_S} {k o k1 o1 sp dp n : Nat} {k' o' j' : Nat} : mx_cp s k o k1 o1 sp dp n k' o' j' = if k' = k1 ∧ o' = o1 ∧ dp ≤ j' ∧ j' < dp + n then s k o (sp + (j' - dp)) else s k' o' j' := by
  show (if k' = k1 ∧ o' = o1 then (if dp ≤ j' ∧ j' < dp + n then s k o (sp + (j' - dp)) else s k1 o1 j') else s k' o' j') = _
  by_cases h1 : k' = k1 ∧ o' = o1
  · rw [if_pos h1]
    by_cases h2 : dp ≤ j' ∧ j' < dp + n
    · rw [if_pos h2, if_pos ⟨h1.1, h1.2, h2.1, h2.2⟩]
    · rw [if_neg h2, if_neg (fun q => h2 ⟨q.2.2.1, q.2.2.2⟩), h1.1, h1.2]
  · rw [if_neg h1, if_neg (fun q => h1 ⟨q.1, q.2.1⟩)]
theorem q_wadd {x y : Int32} : (x.toInt64 + y.toInt64).toInt = x.toInt + y.toInt := by
  have h1 := q_rng x
  have h2 := q_rng y
  rw [Int64.toInt_add, q_wide, q_wide]
  exact Int.bmod_eq_of_le (by omega) (by omega)
