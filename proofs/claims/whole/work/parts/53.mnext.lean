/-! ===== M's next room ===== -/
def anyD (h : Nat → Nat) (x y : Nat) : Nat → Bool
  | 0 => false
  | d + 1 => anyD h x y d || decide (ldr h d x y)
theorem anyD_is (h : Nat → Nat) (x y : Nat) : ∀ d, anyD h x y d = true ↔ ∃ e, e < d ∧ ldr h e x y
  | 0 => ⟨fun q => absurd (show false = true from q) (by decide), fun ⟨e, he, _⟩ => by omega⟩
  | d + 1 => by
    rw [anyD, Bool.or_eq_true, anyD_is h x y d, decide_eq_true_eq]
    constructor
    · rintro (⟨e, he, l⟩ | l)
      · exact ⟨e, by omega, l⟩
      · exact ⟨d, by omega, l⟩
    · rintro ⟨e, he, l⟩
      by_cases c : e = d
      · subst c; exact Or.inr l
      · exact Or.inl ⟨e, by omega, l⟩
noncomputable def N5 (x t : Nat) (best : Int32) (i : Nat) (b : mx_S) : Option mx_Rt := mx_H 141 5 [some (mx_R 0 39), some (mx_I (nI x)), some (mx_I (nI t)), some (mx_I best), some (mx_I (nI i)), none, none] b
noncomputable def N16 (x t : Nat) (best : Int32) (i : Nat) (is : Int32) (d : Nat) (b : mx_S) : Option mx_Rt := mx_H 141 16 [some (mx_R 0 39), some (mx_I (nI x)), some (mx_I (nI t)), some (mx_I best), some (mx_I (nI i)), some (mx_I is), some (mx_I (nI d))] b
theorem s_mn16 {h : Nat → Nat} (hb : HB h) {D : Nat → Nat → Nat} (hD : DS h D) {b : mx_S} (hm : MH 43 h b) (hf : MF D b) {x t i : Nat} (hx : x < h 2) (ht : t < h 2) (hi : i < h 2) : ∀ (e d : Nat), d + e = h 3 → N16 x t (fv (nb D x t i).1) i (if anyD h x i d then 1 else 0) d b = N5 x t (fv (nb D x t (i + 1)).1) (i + 1) b := by
  have h2 := hb.r2
  have h3 := hb.r3
  intro e
  induction e with
  | zero =>
    intro d hd
    have ed : d = h 3 := by omega
    subst ed
    have l2 := (hD i t hi ht).1
    have ok := nb_ok D x t i (by omega)
    have is1 : D x i = 1 ↔ anyD h x i (h 3) = true := by
      rw [DS_1 hb hD hx hi, anyD_is]; exact Iff.rfl
    have hX : N16 x t (fv (nb D x t i).1) i (if anyD h x i (h 3) then 1 else 0) (h 3) b = _ := e_M_nextRoom_16 (nI x) (nI t) (fv (nb D x t i).1) (nI i) (if anyD h x i (h 3) then 1 else 0) (nI (h 3)) b
    rw [q_gl (by decide) (by decide), hm 3 (by decide), if_pos ((q_leN (by omega) (by omega)).mpr (Nat.le_refl _)), nI_1] at hX
    refine hX.trans ?_
    have g6 : (6 : Int32) * nI i + nI t = nI (6 * i + t) := by rw [q_lit, q_mul, q_add]
    rw [show nb D x t (i + 1) = if D x i = 1 ∧ D i t < (nb D x t i).2 then (i, D i t) else nb D x t i from rfl]
    by_cases c : anyD h x i (h 3) = true
    · have c1 := is1.mpr c
      rw [if_pos c, if_neg (by decide), g6, q_g (by omega) (by decide), hf i t (by omega) (by omega)]
      by_cases c2 : D i t = 1000
      · rw [if_pos ((fv_no l2).mpr c2), if_neg (by rcases ok with ok | ok <;> omega)]; rfl
      · rw [if_neg (fun q => c2 ((fv_no l2).mp q))]
        rcases ok with ⟨o1, o2⟩ | ⟨o1, o2, o3, o4⟩
        · rw [o1, if_pos (show fv 1000 = -1000000 from rfl), if_pos (by omega)]
          show N5 x t (nI i) (i + 1) b = N5 x t (fv i) (i + 1) b
          rw [fv_lt (by omega)]
        · rw [if_neg (fun q => by have := (fv_no (show (nb D x t i).1 ≤ 1000 by omega)).mp q; omega), fv_lt (show (nb D x t i).1 < 1000 by omega), show (6 : Int32) * nI (nb D x t i).1 + nI t = nI (6 * (nb D x t i).1 + t) by rw [q_lit, q_mul, q_add], q_g (by omega) (by decide), q_g (by omega) (by decide), hf i t (by omega) (by omega), hf _ t (by omega) (by omega), ← o3, fv_lt o4, fv_lt (show D i t < 1000 by omega)]
          by_cases c3 : D i t < (nb D x t i).2
          · rw [if_neg (by rw [q_leN (by omega) (by omega)]; omega), if_pos ⟨c1, c3⟩]
            show N5 x t (nI i) (i + 1) b = N5 x t (fv i) (i + 1) b
            rw [fv_lt (by omega)]
          · rw [if_pos ((q_leN (by omega) (by omega)).mpr (by omega)), if_neg (fun q => c3 q.2), fv_lt (show (nb D x t i).1 < 1000 by omega)]; rfl
    · have c1 : ¬ D x i = 1 := fun q => c (is1.mp q)
      rw [if_neg c, if_pos rfl, if_neg (fun q => c1 q.1)]; rfl
  | succ e ih =>
    intro d hd
    have hih := ih (d + 1) (by omega)
    have hX : N16 x t (fv (nb D x t i).1) i (if anyD h x i d then 1 else 0) d b = _ := e_M_nextRoom_16 (nI x) (nI t) (fv (nb D x t i).1) (nI i) (if anyD h x i d then 1 else 0) (nI d) b
    rw [q_gl (by decide) (by decide), hm 3 (by decide), if_neg (show ¬ nI (h 3) ≤ nI d by rw [q_leN (by omega) (by omega)]; omega), nI_1] at hX
    refine hX.trans ?_
    rw [← hih]
    by_cases c : anyD h x i d = true
    · rw [if_pos c, if_neg (by decide), if_pos (by rw [anyD, c]; rfl)]; rfl
    · have cf : anyD h x i d = false := by simpa using c
      rw [if_neg c, if_pos rfl, s_leads hb hm (show d < h 3 by omega) (by omega) (by omega), q_bI]
      by_cases c2 : ldr h d x i
      · rw [if_pos c2, if_neg (by decide), if_pos (by rw [anyD, cf, decide_eq_true c2]; rfl)]; rfl
      · rw [if_neg c2, if_pos rfl, if_neg (by rw [anyD, cf, decide_eq_false c2]; decide)]; rfl
theorem s_mn5 {h : Nat → Nat} (hb : HB h) {D : Nat → Nat → Nat} (hD : DS h D) {b : mx_S} (hm : MH 43 h b) (hf : MF D b) {x t : Nat} (hx : x < h 2) (ht : t < h 2) : ∀ (d i : Nat), i + d = h 2 → N5 x t (fv (nb D x t i).1) i b = some (some (mx_I (fv (nxr D (h 2) x t))), b) := by
  have h2 := hb.r2
  have h3 := hb.r3
  intro d
  induction d with
  | zero =>
    intro i hd
    have ei : i = h 2 := by omega
    subst ei
    unfold N5
    rw [e_M_nextRoom_5, q_gl (by decide) (by decide), hm 2 (by decide), if_pos ((q_leN (by omega) (by omega)).mpr (Nat.le_refl _))]; rfl
  | succ d ih =>
    intro i hd
    unfold N5
    rw [e_M_nextRoom_5, q_gl (by decide) (by decide), hm 2 (by decide), if_neg (by rw [q_leN (by omega) (by omega)]; omega)]
    exact (s_mn16 hb hD hm hf hx ht (show i < h 2 by omega) (h 3) 0 (by omega)).trans (ih (i + 1) (by omega))
theorem s_mnext {h : Nat → Nat} (hb : HB h) {D : Nat → Nat → Nat} (hD : DS h D) {b : mx_S} (hm : MH 43 h b) (hf : MF D b) {x t : Nat} (hx : x < h 2) (ht : t < h 2) : mx_sem 141 [mx_R 0 39, mx_I (nI x), mx_I (nI t)] b = some (some (mx_I (fv (nxr D (h 2) x t))), b) := by
  rw [e_M_nextRoom]
  exact s_mn5 hb hD hm hf hx ht (h 2) 0 (by omega)
