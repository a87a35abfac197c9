/-! ===== names and numbers as M reads them ===== -/
def bl (tb : Nat → Nat) : Nat → Nat → List Nat
  | 0, _ => []
  | d + 1, p => tb p :: bl tb d (p + 1)
theorem bl_eq (tb : Nat → Nat) : ∀ (d p : Nat), bl tb d p = (List.range d).map (fun i => tb (p + i))
  | 0, p => rfl
  | d + 1, p => by
    rw [bl, bl_eq tb d (p + 1), List.range_succ_eq_map, List.map_cons, List.map_map, Nat.add_zero]
    congr 1
    apply List.map_congr_left
    intro i _
    show tb (p + 1 + i) = tb (p + (i + 1))
    congr 1
    omega
theorem pw256 : ∀ k, k < 7 → 256 ^ k < 36028797018963968 := by decide
theorem s_name_l {n : Nat} {tb : Nat → Nat} (htb : ∀ j, tb j < 256) {f st e : Nat} {b : mx_S} (hM : TM n tb b) (he : e ≤ n) (hf : f ≤ 3) (h16 : b 0 39 16 = nI st) (h17 : b 0 39 17 = nI e) (h15 : b 0 39 15 = 2) (h18 : b 0 39 18 = nI f) (h8 : e < st + 8) (hse : st ≤ e) : ∀ (d p v : Nat), p + d = e → st ≤ p → v < 256 ^ (p - st) → mx_H 163 6 [some (mx_R 0 39), some (mx_J (lN v)), none, some (mx_I (nI p))] b = some (some (mx_J (if f = 0 then lN (pkl (bl tb d p) v) else 0)), b) := by
  have hn := hM.1
  intro d
  induction d with
  | zero =>
    intro p v hd hp hv
    rw [e_M_name_6, h17, if_pos ((q_leN (by omega) (by omega)).mpr (by omega)), h18]
    by_cases hf0 : f = 0
    · subst hf0
      rw [if_pos (by decide), if_pos rfl]; rfl
    · rw [if_neg (by rw [q_lit, q_eqN (by omega) (by decide)]; exact hf0), if_neg hf0]
  | succ d ih =>
    intro p v hd hp hv
    rw [e_M_name_6, h17, if_neg (by rw [q_leN (by omega) (by omega)]; omega), h15, if_pos rfl, h16, q_sub hse, if_neg (by rw [q_lit, q_leN (by decide) (by omega)]; omega), q_g (by omega) (by decide), hM.2.2 p (by omega), q_pack (Nat.lt_trans hv (pw256 _ (by omega))) (htb p), nI_1, ih (p + 1) (v * 256 + tb p) (by omega) (by omega) (by
      have := htb p
      rw [show p + 1 - st = p - st + 1 by omega, Nat.pow_succ]; omega)]
    rfl
def nmV (tb : Nat → Nat) (n f st : Nat) : Int64 := if f = 0 ∧ tkK tb n st = 1 ∧ tkE tb n st < st + 8 then lN (pkl (tkB tb n st) 0) else 0
theorem s_name {n : Nat} {tb : Nat → Nat} (htb : ∀ j, tb j < 256) {f st : Nat} {a b : mx_S} (h : RD n tb f st a b) : mx_sem 163 [mx_R 0 39] b = some (some (mx_J (nmV tb n f st)), b) := by
  obtain ⟨hX, hM, hst, h1, h2, h3, h4, h5, h6, h7, h8, h9, h10, h11, h12⟩ := h
  have hn := hM.1
  have hE := tkE_le (tb := tb) hst
  have hG := tkE_ge (tb := tb) (n := n) (st := st)
  have hK := tkK_le (tb := tb) (n := n) (st := st)
  rw [e_M_name, h2]
  unfold nmV
  by_cases hk : tkK tb n st = 1
  · rw [hk] at h7
    by_cases h8 : tkE tb n st < st + 8
    · rw [show mx_J 0 = mx_J (lN 0) from rfl, s_name_l htb hM hE h11 h2 h5 h7 h10 h8 hG (tkE tb n st - st) st 0 (by omega) (Nat.le_refl _) (by rw [Nat.sub_self]; decide), bl_eq]
      by_cases hf0 : f = 0
      · rw [if_pos hf0, if_pos ⟨hf0, hk, h8⟩]; rfl
      · rw [if_neg hf0, if_neg (fun q => hf0 q.1)]
    · rw [e_M_name_6, h5, if_neg (by rw [q_leN (by omega) (by omega)]; omega), h7, if_pos (show nI (tkm 1) = 2 from rfl), h2, q_sub hG, if_pos (by rw [q_lit, q_leN (by decide) (by omega)]; omega), if_neg (show ¬ (f = 0 ∧ tkK tb n st = 1 ∧ tkE tb n st < st + 8) from fun q => h8 q.2.2), ite_self]
  · rw [e_M_name_6, if_neg (show ¬ (f = 0 ∧ tkK tb n st = 1 ∧ tkE tb n st < st + 8) from fun q => hk q.2.1)]
    have e15 : ¬ (b 0 39 15 = 2) := by
      rw [h7, q_lit, q_eqN (by unfold tkm; split <;> omega) (by decide)]
      unfold tkm
      split <;> omega
    rw [if_neg e15, ite_self, ite_self]
theorem lN_inj {x y : Nat} (hx : x < 9223372036854775808) (hy : y < 9223372036854775808) : lN x = lN y ↔ x = y := by
  constructor
  · intro h
    have := congrArg (fun z => z.toBitVec.toNat) h
    change (BitVec.ofNat 64 x).toNat = (BitVec.ofNat 64 y).toNat at this
    rw [BitVec.toNat_ofNat, BitVec.toNat_ofNat] at this
    omega
  · intro h; rw [h]
def wN (k : Nat) : Nat := pkl (wc k) 0
theorem wN_ok : ∀ k, k < 9 → 0 < wN k ∧ wN k < 72057594037927936 := by decide +kernel
theorem wc_in : ∀ k, k < 9 → ∀ d ∈ wc k, 0 < d ∧ d < 256 := by decide +kernel
/-- M's name is word k just where X's reader says so -/
theorem nm_is {n : Nat} {tb : Nat → Nat} {f st k : Nat} (hk : k < 9) : nmV tb n f st = lN (wN k) ↔ (f = 0 ∧ wdB tb n st k = true) := by
  obtain ⟨w1, w2⟩ := wN_ok k hk
  have hlen : (tkB tb n st).length = tkE tb n st - st := by rw [tkB, List.length_map, List.length_range]
  have hwl := wc_len k hk
  unfold nmV
  constructor
  · intro h
    split at h
    · rename_i hc
      refine ⟨hc.1, decide_eq_true ⟨hc.2.1, ?_⟩⟩
      have hL := tkB_L hc.2.1
      have hb : ∀ d ∈ tkB tb n st, 0 < d ∧ d < 256 := fun d hd => by have := hL d hd; omega
      have hlt : pkl (tkB tb n st) 0 < 9223372036854775808 := by
        have := pkl_lt (tkB tb n st) 0 0 (fun d hd => (hb d hd).2) (by decide)
        rw [hlen, Nat.zero_add] at this
        have h7 : 256 ^ (tkE tb n st - st) ≤ 256 ^ 7 := Nat.pow_le_pow_right (by decide) (by omega)
        have : (256 : Nat) ^ 7 = 72057594037927936 := by decide
        omega
      exact pkl_inj _ _ hb (wc_in k hk) ((lN_inj hlt (show wN k < 9223372036854775808 by omega)).mp h)
    · exfalso
      have : (0 : Nat) = wN k := (lN_inj (by decide) (by omega)).mp h
      omega
  · rintro ⟨h0, hw⟩
    obtain ⟨h1, h2⟩ := of_decide_eq_true hw
    rw [h2] at hlen
    rw [if_pos ⟨h0, h1, by omega⟩, h2]; rfl
theorem nm_cmp {n : Nat} {tb : Nat → Nat} {f st k : Nat} (hk : k < 9) {w : Int64} (hw : w = lN (wN k)) : lg_cmp (nmV tb n f st) w = 0 ↔ (f = 0 ∧ wdB tb n st k = true) := by
  rw [(q_cmp _ _).2.2.1, hw]; exact nm_is hk
theorem s_figures_l {n : Nat} {tb : Nat → Nat} (htb : ∀ j, tb j < 256) {st e : Nat} {b : mx_S} (hM : TM n tb b) (he : e ≤ n) (h17 : b 0 39 17 = nI e) (h15 : b 0 39 15 = 3) (h3 : e ≤ st + 3) (hd : ∀ i, st ≤ i → i < e → isD (tb i) = true) : ∀ (d p : Nat), p + d = e → st ≤ p → mx_H 159 6 [some (mx_R 0 39), some (mx_I (nI (dv tb st (p - st)))), some (mx_I (nI p))] b = some (some (mx_I (nI (dv tb st (e - st)))), b) := by
  have hn := hM.1
  intro d
  induction d with
  | zero =>
    intro p hd hp
    have : p = e := by omega
    subst this
    rw [e_M_figures_6, h17, if_pos ((q_leN (by omega) (by omega)).mpr (Nat.le_refl _))]
  | succ d ih =>
    intro p hpd hp
    have hD := hd p hp (by omega)
    simp only [isD, decide_eq_true_eq] at hD
    have ev : ((10 : Int32) * nI (dv tb st (p - st)) + nI (tb p)) - 48 = nI (dv tb st (p + 1 - st)) := by
      rw [q_lit, q_mul, q_add, q_lit, q_sub (by omega), show p + 1 - st = (p - st) + 1 by omega]
      show nI _ = nI (dv tb st (p - st) * 10 + (tb (st + (p - st)) - 48))
      rw [show st + (p - st) = p by omega]
      congr 1
      omega
    rw [e_M_figures_6, h17, if_neg (by rw [q_leN (by omega) (by omega)]; omega), h15, if_pos rfl, q_g (by omega) (by decide), hM.2.2 p (by omega), ev, nI_1, ih (p + 1) (by omega) (by omega)]
theorem tkD {tb : Nat → Nat} {n st : Nat} (h : tkK tb n st = 2) : tkE tb n st ≤ st + 3 ∧ ∀ i, st ≤ i → i < tkE tb n st → isD (tb i) = true := by
  have hk := h
  unfold tkK at h
  split at h
  · cases h
  · rename_i h0
    split at h
    · cases h
    · rename_i h1
      split at h
      · rename_i h2
        split at h
        · cases h
        · rename_i h3
          refine ⟨by omega, fun i hi hi2 => ?_⟩
          have eT : tkE tb n st = endP (fun i => isD (tb i)) (n - st) st := by
            unfold tkE
            rw [if_neg h0, if_neg h1, if_pos h2]
          rw [eT] at hi2
          exact endP_in (fun i => isD (tb i)) (n - st) st i hi hi2
      · split at h <;> cases h
def fgV (tb : Nat → Nat) (n st : Nat) : Nat := if tkK tb n st = 2 then dv tb st (tkE tb n st - st) else 0
theorem fgV_lt {tb : Nat → Nat} {n st : Nat} : fgV tb n st < 1000 := by
  unfold fgV
  split
  · rename_i h
    obtain ⟨h1, h2⟩ := tkD h
    have hG := tkE_ge (tb := tb) (n := n) (st := st)
    have := dv_lt (tb := tb) (st := st) (tkE tb n st - st) (by omega) (fun i hi => h2 _ (by omega) (by omega))
    have h7 : 10 ^ (tkE tb n st - st) ≤ 10 ^ 3 := Nat.pow_le_pow_right (by decide) (by omega)
    have : (10 : Nat) ^ 3 = 1000 := by decide
    omega
  · decide
theorem s_figures {n : Nat} {tb : Nat → Nat} (htb : ∀ j, tb j < 256) {f st : Nat} {a b : mx_S} (h : RD n tb f st a b) : mx_sem 159 [mx_R 0 39] b = some (some (mx_I (nI (fgV tb n st))), b) := by
  obtain ⟨hX, hM, hst, h1, h2, h3, h4, h5, h6, h7, h8, h9, h10, h11, h12⟩ := h
  have hn := hM.1
  have hE := tkE_le (tb := tb) hst
  have hG := tkE_ge (tb := tb) (n := n) (st := st)
  have hK := tkK_le (tb := tb) (n := n) (st := st)
  rw [e_M_figures, h2]
  unfold fgV
  by_cases hk : tkK tb n st = 2
  · rw [hk] at h7
    obtain ⟨d1, d2⟩ := tkD hk
    have := s_figures_l htb hM hE h5 h7 d1 d2 (tkE tb n st - st) st (by omega) (Nat.le_refl _)
    rw [Nat.sub_self] at this
    rw [if_pos hk, ← this]; rfl
  · rw [e_M_figures_6, if_neg (show ¬ tkK tb n st = 2 from hk)]
    have e15 : ¬ (b 0 39 15 = 3) := by
      rw [h7, q_lit, q_eqN (by unfold tkm; split <;> omega) (by decide)]
      unfold tkm
      split <;> omega
    rw [if_neg e15, ite_self]; rfl
