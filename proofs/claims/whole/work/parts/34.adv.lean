/-! ===== the readers' tokens ===== -/
theorem q_uu {s : mx_S} {k o j : Nat} {x y : Int32} : mx_up (mx_up s k o j x) k o j y = mx_up s k o j y := by
  funext k' o' j'
  simp only [q_up]
  split <;> rfl
theorem q_ui {s : mx_S} {k o j : Nat} {x : Int32} (h : s k o j = x) : mx_up s k o j x = s := by
  funext k' o' j'
  rw [q_up]
  split
  · rename_i q
    obtain ⟨rfl, rfl, rfl⟩ := q
    exact h.symm
  · rfl
theorem q_uc {s : mx_S} {k o j k2 o2 j2 : Nat} {x y : Int32} (h : k ≠ k2 ∨ o ≠ o2 ∨ j ≠ j2) : mx_up (mx_up s k o j x) k2 o2 j2 y = mx_up (mx_up s k2 o2 j2 y) k o j x := by
  funext k' o' j'
  simp only [q_up]
  by_cases h1 : k' = k2 ∧ o' = o2 ∧ j' = j2
  · rw [if_pos h1, if_neg (by omega), if_pos h1]
  · rw [if_neg h1]
    by_cases h2 : k' = k ∧ o' = o ∧ j' = j
    · rw [if_pos h2, if_pos h2]
    · rw [if_neg h2, if_neg h2, if_neg h1]
def sx (t : Nat) : Int32 := (nI t).toInt8.toInt32
theorem sx_toInt : ∀ t, t < 256 → (sx t).toInt = if t < 128 then (t : Int) else (t : Int) - 256 := by decide +kernel
/-- the tape: n bytes, tb -/
def TX (n : Nat) (tb : Nat → Nat) (a : mx_S) : Prop := n ≤ 400 ∧ a 0 29 1 = nI n ∧ ∀ j, j < n → a 0 30 j = sx (tb j)
def TM (n : Nat) (tb : Nat → Nat) (b : mx_S) : Prop := n ≤ 400 ∧ b 0 39 13 = nI n ∧ ∀ j, j < n → b 0 46 j = nI (tb j)
def isL (t : Nat) : Bool := decide (97 ≤ t ∧ t ≤ 122)
def isD (t : Nat) : Bool := decide (48 ≤ t ∧ t ≤ 57)
def isB (t : Nat) : Bool := decide (t = 32 ∨ t = 10)
/-- from c on, as long as P -/
def endP (P : Nat → Bool) : Nat → Nat → Nat
  | 0, c => c
  | d + 1, c => if P c then endP P d (c + 1) else c
theorem endP_ge (P : Nat → Bool) : ∀ d c, c ≤ endP P d c
  | 0, c => Nat.le_refl c
  | d + 1, c => by
    unfold endP
    split
    · have := endP_ge P d (c + 1); omega
    · exact Nat.le_refl c
theorem endP_le (P : Nat → Bool) : ∀ d c, endP P d c ≤ c + d
  | 0, c => Nat.le_refl c
  | d + 1, c => by
    unfold endP
    split
    · have := endP_le P d (c + 1); omega
    · omega
theorem endP_in (P : Nat → Bool) : ∀ d c i, c ≤ i → i < endP P d c → P i = true
  | 0, c, i, h1, h2 => by unfold endP at h2; omega
  | d + 1, c, i, h1, h2 => by
    unfold endP at h2
    split at h2
    · rename_i h
      by_cases e : i = c
      · rw [e]; exact h
      · exact endP_in P d (c + 1) i (by omega) h2
    · omega


theorem within_L {a : mx_S} {t : Nat} (ht : t < 256) (lo hi : Nat) (x y : Int32) (hx : x.toInt = lo) (hy : y.toInt = hi) (hh : hi < 128) : mx_sem 48 [mx_I (sx t), mx_I x, mx_I y] a = some (some (mx_I (if decide (lo ≤ t ∧ t ≤ hi) then 1 else 0)), a) := by
  have e := sx_toInt t ht
  by_cases h : lo ≤ t ∧ t ≤ hi
  · rw [s_within2 _ _ _ (by rw [e, if_pos (by omega)]; omega) (by rw [e, if_pos (by omega)]; omega), if_pos (by simpa using h)]
  · rw [s_within1 _ _ _ (by rw [e]; split <;> omega), if_neg (by simpa using h)]

theorem TX.up {n : Nat} {tb : Nat → Nat} {a : mx_S} {j : Nat} {x : Int32} (h : TX n tb a) (hj : j ≠ 1) : TX n tb (mx_up a 0 29 j x) := ⟨h.1, by rw [q_uj (Ne.symm hj)]; exact h.2.1, fun i hi => by rw [q_uo (by decide)]; exact h.2.2 i hi⟩
theorem TM.up {n : Nat} {tb : Nat → Nat} {b : mx_S} {j : Nat} {x : Int32} (h : TM n tb b) (hj : j ≠ 13) : TM n tb (mx_up b 0 39 j x) := ⟨h.1, by rw [q_uj (Ne.symm hj)]; exact h.2.1, fun i hi => by rw [q_uo (by decide)]; exact h.2.2 i hi⟩
theorem s_passName {n : Nat} {tb : Nat → Nat} (htb : ∀ j, tb j < 256) : ∀ (d c : Nat) (a : mx_S), c + d = n → TX n tb a → a 0 29 4 = nI c → mx_H 49 4 [some (mx_R 0 29)] a = some (none, mx_up a 0 29 4 (nI (endP (fun i => isL (tb i)) d c))) := by
  intro d
  induction d with
  | zero =>
    intro c a hd hT hc
    have hn := hT.1
    rw [e_R_passName_4, hT.2.1, hc, if_pos ((q_leN (by omega) (by omega)).mpr (by omega))]
    unfold endP
    rw [q_ui hc]
  | succ d ih =>
    intro c a hd hT hc
    have hn := hT.1
    rw [e_R_passName_4, hT.2.1, hc, if_neg (by rw [q_leN (by omega) (by omega)]; omega), q_g (by omega) (by decide), hT.2.2 c (by omega), within_L (htb c) 97 122 97 122 rfl rfl (by decide), q_bI]
    unfold endP
    by_cases h : isL (tb c) = true
    · rw [if_pos (show (decide (97 ≤ tb c ∧ tb c ≤ 122)) = true from h), if_neg (by decide), q_w, hc, nI_1, ih (c + 1) _ (by omega) (hT.up (by decide)) q_us, q_uu, if_pos h]
    · rw [if_neg (show ¬ (decide (97 ≤ tb c ∧ tb c ≤ 122)) = true from h), if_pos rfl, if_neg h, q_ui hc]
/-- the value of the first k figures from st on -/
def dv (tb : Nat → Nat) (st : Nat) : Nat → Nat
  | 0 => 0
  | k + 1 => dv tb st k * 10 + (tb (st + k) - 48)
theorem dv_lt {tb : Nat → Nat} {st : Nat} : ∀ k, k ≤ 3 → (∀ i, i < k → isD (tb (st + i)) = true) → dv tb st k < 10 ^ k
  | 0, _, _ => by show 0 < 1; decide
  | k + 1, hk, h => by
    have h1 := dv_lt k (by omega) (fun i hi => h i (by omega))
    have h2 := h k (by omega)
    simp only [isD, decide_eq_true_eq] at h2
    show dv tb st k * 10 + (tb (st + k) - 48) < 10 ^ (k + 1)
    rw [Nat.pow_succ]
    omega
theorem s_passNum {n : Nat} {tb : Nat → Nat} (htb : ∀ j, tb j < 256) (st : Nat) : ∀ (d c : Nat) (a : mx_S), c + d = n → st ≤ c → (∀ i, st ≤ i → i < c → isD (tb i) = true) → TX n tb a → a 0 29 4 = nI c → a 0 29 2 = nI st → a 0 29 6 = nI (dv tb st (min (c - st) 3)) →
    mx_H 50 4 [some (mx_R 0 29)] a = some (none, mx_up (mx_up (mx_up a 0 29 4 (nI (endP (fun i => isD (tb i)) d c))) 0 29 6 (nI (dv tb st (min (endP (fun i => isD (tb i)) d c - st) 3)))) 0 29 5 (if 3 < endP (fun i => isD (tb i)) d c - st then 4 else 2)) := by
  intro d
  induction d with
  | zero =>
    intro c a hd hst hin hT hc hs h6
    have hn := hT.1
    unfold endP
    rw [e_R_passNumber_4, hT.2.1, hc, hs, if_pos ((q_leN (by omega) (by omega)).mpr (by omega)), q_sub hst, q_ui hc, q_ui h6]
    by_cases h3 : 3 < c - st
    · rw [if_pos (by rw [q_lit, q_ltN (by decide) (by omega)]; exact h3), if_pos h3]; rfl
    · rw [if_neg (by rw [q_lit, q_ltN (by decide) (by omega)]; exact h3), if_neg h3]; rfl
  | succ d ih =>
    intro c a hd hst hin hT hc hs h6
    have hn := hT.1
    rw [e_R_passNumber_4, hT.2.1, hc, hs, if_neg (by rw [q_leN (by omega) (by omega)]; omega), q_g (by omega) (by decide), hT.2.2 c (by omega), within_L (htb c) 48 57 48 57 rfl rfl (by decide), q_bI]
    unfold endP
    by_cases h : isD (tb c) = true
    · have hD := h
      simp only [isD, decide_eq_true_eq] at hD
      rw [if_pos (show (decide (48 ≤ tb c ∧ tb c ≤ 57)) = true from h), if_neg (by decide), hc, hs, q_sub hst, if_pos h]
      have hin' : ∀ i, st ≤ i → i < c + 1 → isD (tb i) = true := fun i h1 h2 => by
        by_cases e : i = c
        · rw [e]; exact h
        · exact hin i h1 (by omega)
      by_cases h3 : 3 ≤ c - st
      · rw [if_pos (by rw [q_lit, q_leN (by decide) (by omega)]; exact h3), q_w, q_w, q_ui rfl, hc, nI_1]
        rw [ih (c + 1) _ (by omega) (by omega) hin' (hT.up (by decide)) q_us (by rw [q_uj (by decide)]; exact hs) (by rw [q_uj (by decide), h6, show min (c - st) 3 = min (c + 1 - st) 3 by omega]), q_uu]
      · rw [if_neg (by rw [q_lit, q_leN (by decide) (by omega)]; exact h3), q_g (by omega) (by decide), q_w, q_w, q_uj (by decide), hc, nI_1, hT.2.2 c (by omega), h6]
        have ev : (nI (dv tb st (min (c - st) 3)) * 10 + sx (tb c)) - 48 = nI (dv tb st (min (c + 1 - st) 3)) := by
          have e1 : sx (tb c) = nI (tb c) := by
            rw [q_eq, sx_toInt _ (htb c), if_pos (by omega), q_toI (by omega)]
          rw [e1, show min (c - st) 3 = c - st by omega, show min (c + 1 - st) 3 = (c - st) + 1 by omega, q_lit, q_mul, q_add, q_lit, q_sub (by omega)]
          show nI _ = nI (dv tb st (c - st) * 10 + (tb (st + (c - st)) - 48))
          rw [show st + (c - st) = c by omega]
          congr 1
          omega
        rw [ev]
        rw [ih (c + 1) _ (by omega) (by omega) hin' ((hT.up (by decide)).up (by decide)) q_us (by rw [q_uj (by decide), q_uj (by decide)]; exact hs) (by rw [q_uj (by decide), q_us]), q_uu, q_uc (k := 0) (o := 29) (j := 6) (k2 := 0) (o2 := 29) (j2 := 4) (by omega), q_uu]
    · rw [if_neg (show ¬ (decide (48 ≤ tb c ∧ tb c ≤ 57)) = true from h), if_pos rfl, if_neg h, hc, hs, q_sub hst, q_ui hc, q_ui h6]
      by_cases h3 : 3 < c - st
      · rw [if_pos (by rw [q_lit, q_ltN (by decide) (by omega)]; exact h3), if_pos h3]; rfl
      · rw [if_neg (by rw [q_lit, q_ltN (by decide) (by omega)]; exact h3), if_neg h3]; rfl
