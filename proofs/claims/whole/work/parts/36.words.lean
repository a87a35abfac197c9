/-! ===== words, by both readers ===== -/
def wcT : List (List Nat) := [[114, 97, 105, 108], [114, 111, 111, 109], [100, 111, 111, 114], [111, 110, 101], [112, 105, 99, 116, 117, 114, 101], [103, 114, 111, 117, 112], [102, 105, 114, 115, 116], [100, 114, 97, 119], [114, 111, 117, 110, 100]]
def wc (k : Nat) : List Nat := wcT.getD k []
theorem wc_len : ∀ k, k < 9 → (wc k).length = mx_sN k ∧ 0 < (wc k).length ∧ (wc k).length < 8 := by decide +kernel
theorem wc_ch : ∀ k, k < 9 → ∀ j, j < mx_sN k → ((mx_sB k j &&& 255).toUInt32 % 65536).toInt32 = nI ((wc k).getD j 0) ∧ Nat.ble (((mx_sB k j &&& 255).toUInt32 % 65536).toInt32).toBitVec.toNat 65535 = true ∧ 97 ≤ (wc k).getD j 0 ∧ (wc k).getD j 0 ≤ 122 := by decide +kernel
theorem s_length {k : Nat} (hk : k < 9) (s : mx_S) : mx_sem 42 [mx_R k 55] s = some (some (mx_I (nI (mx_sN k))), s) := by
  rw [e_J_length, e_J_coder, show mx_z none 3 0 (some (some (mx_I 0), s)) = some (some (mx_I 0), s) from rfl, q_bI]
  have : ∀ k, k < 9 → Int32.ofNat (mx_sN k) >>> ((0 : Int32) &&& 31) = nI (mx_sN k) := by decide +kernel
  rw [this k hk]
theorem s_charAt {k j : Nat} (hk : k < 9) (hj : j < mx_sN k) (s : mx_S) : mx_sem 40 [mx_R k 55, mx_I (nI j)] s = some (some (mx_I (nI ((wc k).getD j 0))), s) := by
  have hs : mx_sN k < 8 := by have := wc_len k hk; omega
  obtain ⟨h1, h2, -, -⟩ := wc_ch k hk j hj
  have hz : ∀ (f : Option mx_Rt), mx_z none 2 (((mx_sB k j &&& 255).toUInt32 % 65536).toInt32) f = f := fun f => by
    unfold mx_z
    show (match Nat.ble (((mx_sB k j &&& 255).toUInt32 % 65536).toInt32).toBitVec.toNat 65535 with | true => f | false => none) = f
    rw [h2]
  rw [e_J_charAt, e_J_isLatin1, q_bI, if_neg (by decide), e_J_l1charAt, e_J_sCheck, e_J_pCheck, if_neg (q_lt0 (by omega)), if_pos (show nI j < Int32.ofNat (mx_sN k) from (q_ltN (by omega) (by omega)).mpr hj), q_bI, q_bV, q_g hj (by omega), hz, q_bI, hz, h1]
/-- what both readers have in common: the token that begins at st, the fault f -/
def RD (n : Nat) (tb : Nat → Nat) (f st : Nat) (a b : mx_S) : Prop := TX n tb a ∧ TM n tb b ∧ st ≤ n ∧ a 0 29 2 = nI st ∧ b 0 39 16 = nI st ∧ a 0 29 4 = nI (tkE tb n st) ∧ b 0 39 14 = nI (tkE tb n st) ∧ b 0 39 17 = nI (tkE tb n st) ∧ a 0 29 5 = nI (tkK tb n st) ∧ b 0 39 15 = nI (tkm (tkK tb n st)) ∧ (tkK tb n st = 2 → a 0 29 6 = nI (dv tb st (tkE tb n st - st))) ∧ a 0 29 3 = nI f ∧ b 0 39 18 = nI f ∧ f ≤ 3 ∧ (f ≠ 0 → b 0 39 19 = nI st)
theorem tkE_le {tb : Nat → Nat} {n st : Nat} (h : st ≤ n) : tkE tb n st ≤ n := by
  unfold tkE
  split
  · exact h
  · split
    · have := endP_le (fun i => isL (tb i)) (n - st) st; omega
    · split
      · have := endP_le (fun i => isD (tb i)) (n - st) st; omega
      · omega
theorem tkE_ge {tb : Nat → Nat} {n st : Nat} : st ≤ tkE tb n st := by
  unfold tkE
  split
  · exact Nat.le_refl _
  · split
    · exact endP_ge _ _ _
    · split
      · exact endP_ge _ _ _
      · omega
theorem tkS_le {tb : Nat → Nat} {n c : Nat} (h : c ≤ n) : tkS tb n c ≤ n := by
  have := endP_le (fun i => isB (tb i)) (n - c) c
  unfold tkS; omega
theorem tkK_le {tb : Nat → Nat} {n st : Nat} : tkK tb n st ≤ 4 := by
  unfold tkK
  repeat' split
  all_goals omega
theorem RD.adv {n : Nat} {tb : Nat → Nat} (htb : ∀ j, tb j < 256) {st : Nat} {a b : mx_S} (h : RD n tb 0 st a b) : ∃ a' b', mx_sem 51 [mx_R 0 29] a = some (none, a') ∧ mx_sem 130 [mx_R 0 39] b = some (none, b') ∧ RD n tb 0 (tkS tb n (tkE tb n st)) a' b' ∧ kpg SaX a a' ∧ kpg SaM b b' := by
  obtain ⟨hX, hM, hst, h1, h2, h3, h4, h5, h6, h7, h8, h9, h10, h11, h12⟩ := h
  obtain ⟨a', x1, x2, x3, x4, x5, x6⟩ := s_adv htb (tkE tb n st) a (tkE_le hst) hX h3
  obtain ⟨b', y1, y2, y3, y4, y5, y6⟩ := s_next htb (tkE tb n st) b (tkE_le hst) hM h4
  have kX : ∀ j, ¬ (j = 2 ∨ j = 4 ∨ j = 5 ∨ j = 6) → a' 0 29 j = a 0 29 j := fun j hj => x6 0 29 j (fun q => hj q.2)
  have kM : ∀ j, ¬ (j = 14 ∨ j = 15 ∨ j = 16 ∨ j = 17) → b' 0 39 j = b 0 39 j := fun j hj => y6 0 39 j (fun q => hj q.2)
  refine ⟨a', b', x1, y1, ⟨⟨hX.1, by rw [kX 1 (by omega)]; exact hX.2.1, fun j hj => by rw [x6 0 30 j (fun q => absurd q.1 (by decide))]; exact hX.2.2 j hj⟩, ⟨hM.1, by rw [kM 13 (by omega)]; exact hM.2.1, fun j hj => by rw [y6 0 46 j (fun q => absurd q.1 (by decide))]; exact hM.2.2 j hj⟩, tkS_le (tkE_le hst), x2, y2, x3, y3, y4, x4, y5, x5, by rw [kX 3 (by omega)]; exact h9, by rw [kM 18 (by omega)]; exact h10, by omega, fun q => absurd rfl q⟩, x6, y6⟩
/-- the token's bytes -/
def tkB (tb : Nat → Nat) (n st : Nat) : List Nat := (List.range (tkE tb n st - st)).map (fun i => tb (st + i))
/-- the token is word k -/
def wdB (tb : Nat → Nat) (n st k : Nat) : Bool := decide (tkK tb n st = 1 ∧ tkB tb n st = wc k)
theorem tkB_L {tb : Nat → Nat} {n st : Nat} (h : tkK tb n st = 1) : ∀ w ∈ tkB tb n st, 97 ≤ w ∧ w ≤ 122 := by
  intro w hw
  obtain ⟨i, hi, rfl⟩ := List.mem_map.mp hw
  rw [List.mem_range] at hi
  have hL : ¬ n ≤ st ∧ isL (tb st) = true := by
    unfold tkK at h
    split at h
    · cases h
    · rename_i h0
      split at h
      · rename_i h1; exact ⟨h0, h1⟩
      · split at h
        · split at h <;> cases h
        · split at h <;> cases h
  have eT : tkE tb n st = endP (fun i => isL (tb i)) (n - st) st := by
    unfold tkE
    rw [if_neg hL.1, if_pos hL.2]
  rw [eT] at hi
  have := endP_in (fun i => isL (tb i)) (n - st) st (st + i) (by omega) (by omega)
  simpa [isL] using this
/-- compare, from place p on -/
def cmpL (tb : Nat → Nat) : List Nat → Nat → Bool
  | [], _ => true
  | w :: l, p => decide (tb p = w) && cmpL tb l (p + 1)
theorem cmpL_iff (tb : Nat → Nat) : ∀ (l : List Nat) (p : Nat), cmpL tb l p = true ↔ (List.range l.length).map (fun i => tb (p + i)) = l
  | [], p => ⟨fun _ => rfl, fun _ => rfl⟩
  | w :: l, p => by
    simp only [cmpL, Bool.and_eq_true, decide_eq_true_eq, List.length_cons, List.range_succ_eq_map, List.map_cons, List.map_map, List.cons.injEq, Nat.add_zero]
    rw [cmpL_iff tb l (p + 1)]
    have : (List.range l.length).map ((fun i => tb (p + i)) ∘ Nat.succ) = (List.range l.length).map (fun i => tb (p + 1 + i)) := by
      apply List.map_congr_left
      intro i _
      show tb (p + (i + 1)) = _
      congr 1
      omega
    rw [this]
theorem s_isWord_l {n : Nat} {tb : Nat → Nat} (htb : ∀ j, tb j < 256) {k st : Nat} (hk : k < 9) {a : mx_S} (hT : TX n tb a) (hst : a 0 29 2 = nI st) (hn : st + mx_sN k ≤ n) : ∀ (l : List Nat) (i : Nat), (wc k).drop i = l → i + l.length = mx_sN k → mx_H 52 20 [some (mx_R 0 29), some (mx_R k 55), some (mx_I (nI i))] a = some (some (mx_I (if cmpL tb l (st + i) then 1 else 0)), a) := by
  have hs : mx_sN k < 8 := by have := wc_len k hk; omega
  have hn4 := hT.1
  intro l
  induction l with
  | nil =>
    intro i hd hl
    rw [e_R_isWord_20, s_length hk, q_bI, if_pos ((q_leN (by omega) (by omega)).mpr (by simp at hl; omega))]
    rfl
  | cons w l ih =>
    intro i hd hl
    rw [List.length_cons] at hl
    have hw : (wc k).getD i 0 = w := by
      have := congrArg (fun z => z.getD 0 0) hd
      simpa using this
    obtain ⟨-, -, hw1, hw2⟩ := wc_ch k hk i (by omega)
    rw [hw] at hw1 hw2
    rw [e_R_isWord_20, s_length hk, q_bI, if_neg (by rw [q_leN (by omega) (by omega)]; omega), hst, q_add, q_g (by omega) (by decide), s_charAt hk (by omega), q_bI, hT.2.2 (st + i) (by omega), hw]
    have h256 := htb (st + i)
    have e : sx (tb (st + i)) = nI w ↔ tb (st + i) = w := by
      rw [q_eq, sx_toInt _ h256, q_toI (by omega)]
      split <;> omega
    by_cases hc : tb (st + i) = w
    · rw [if_pos (e.mpr hc), nI_1, ih (i + 1) (by rw [← List.drop_drop, hd]; rfl) (by omega)]
      have : cmpL tb (w :: l) (st + i) = cmpL tb l (st + (i + 1)) := by
        show (decide (tb (st + i) = w) && cmpL tb l (st + i + 1)) = _
        rw [decide_eq_true hc]; rfl
      rw [this]
    · rw [if_neg (fun z => hc (e.mp z))]
      have : cmpL tb (w :: l) (st + i) = false := by
        show (decide (tb (st + i) = w) && cmpL tb l (st + i + 1)) = _
        rw [decide_eq_false hc]; rfl
      rw [this]; rfl
theorem s_isWord {n : Nat} {tb : Nat → Nat} (htb : ∀ j, tb j < 256) {f st k : Nat} (hk : k < 9) {a b : mx_S} (h : RD n tb f st a b) : mx_sem 52 [mx_R 0 29, mx_R k 55] a = some (some (mx_I (if f = 0 ∧ wdB tb n st k = true then 1 else 0)), a) := by
  obtain ⟨hX, hM, hst, h1, h2, h3, h4, h5, h6, h7, h8, h9, h10, h11, h12⟩ := h
  have hn := hX.1
  have hwl := wc_len k hk
  have hE := tkE_le (tb := tb) hst
  have hG := tkE_ge (tb := tb) (n := n) (st := st)
  have hK := tkK_le (tb := tb) (n := n) (st := st)
  rw [e_R_isWord, h9, h6, h3, h1]
  by_cases hf : f = 0
  · subst hf
    rw [if_pos (by decide)]
    by_cases hk1 : tkK tb n st = 1
    · rw [hk1, if_pos (by decide), s_length hk, q_bI, q_sub hG]
      by_cases hl : tkE tb n st - st = mx_sN k
      · rw [hl, if_pos rfl, show (mx_I 0) = mx_I (nI 0) from rfl, s_isWord_l htb hk hX h1 (by omega) (wc k) 0 rfl (by rw [hwl.1]; omega)]
        have e : (cmpL tb (wc k) (st + 0) = true) ↔ (0 = 0 ∧ wdB tb n st k = true) := by
          rw [cmpL_iff, hwl.1]
          simp only [wdB, decide_eq_true_eq, hk1, true_and, tkB, hl, Nat.add_zero]
        by_cases hc : cmpL tb (wc k) (st + 0) = true
        · rw [if_pos hc, if_pos (e.mp hc)]
        · rw [if_neg hc, if_neg (fun z => hc (e.mpr z))]
      · rw [if_neg (by rw [q_eqN (by omega) (by omega)]; exact hl), if_neg]
        rintro ⟨-, hw⟩
        have hw := of_decide_eq_true hw
        have := congrArg List.length hw.2
        rw [tkB, List.length_map, List.length_range, hwl.1] at this
        exact hl this
    · rw [if_neg (by rw [q_lit, q_eqN (by omega) (by decide)]; exact hk1), if_neg]
      rintro ⟨-, hw⟩
      exact hk1 (of_decide_eq_true hw).1
  · rw [if_neg (by rw [q_lit, q_eqN (by omega) (by decide)]; exact hf), if_neg (fun z => hf z.1)]
/-! M's names are numbers -/
def pkl : List Nat → Nat → Nat
  | [], v => v
  | d :: l, v => pkl l (v * 256 + d)
theorem pkl_app : ∀ (l m : List Nat) (v : Nat), pkl (l ++ m) v = pkl m (pkl l v)
  | [], _, _ => rfl
  | d :: l, m, v => pkl_app l m (v * 256 + d)
theorem pkl_lt : ∀ (l : List Nat) (v k : Nat), (∀ d ∈ l, d < 256) → v < 256 ^ k → pkl l v < 256 ^ (k + l.length)
  | [], v, k, _, h => h
  | d :: l, v, k, hd, h => by
    have h1 := hd d List.mem_cons_self
    have h2 := pkl_lt l (v * 256 + d) (k + 1) (fun x hx => hd x (List.mem_cons_of_mem _ hx)) (by rw [Nat.pow_succ]; omega)
    rw [List.length_cons, show k + (l.length + 1) = k + 1 + l.length by omega]
    exact h2
/-- letters are told by their number -/
theorem pkl_inj : ∀ (l m : List Nat), (∀ d ∈ l, 0 < d ∧ d < 256) → (∀ d ∈ m, 0 < d ∧ d < 256) → pkl l 0 = pkl m 0 → l = m := by
  have snoc : ∀ l : List Nat, l = [] ∨ ∃ i d, l = i ++ [d] := fun l => by
    rcases List.eq_nil_or_concat l with h | ⟨i, d, h⟩
    · exact Or.inl h
    · exact Or.inr ⟨i, d, by simpa using h⟩
  have key : ∀ (k : Nat) (l m : List Nat), l.length = k → (∀ d ∈ l, 0 < d ∧ d < 256) → (∀ d ∈ m, 0 < d ∧ d < 256) → pkl l 0 = pkl m 0 → l = m := by
    intro k
    induction k with
    | zero =>
      intro l m hl h1 h2 he
      have : l = [] := List.length_eq_zero_iff.mp hl
      subst this
      rcases snoc m with rfl | ⟨i, d, rfl⟩
      · rfl
      · rw [pkl_app] at he
        have := h2 d (by simp)
        change 0 = pkl i 0 * 256 + d at he
        omega
    | succ k ih =>
      intro l m hl h1 h2 he
      rcases snoc l with rfl | ⟨i, d, rfl⟩
      · simp at hl
      · rcases snoc m with rfl | ⟨i', d', rfl⟩
        · rw [pkl_app] at he
          have := h1 d (by simp)
          change pkl i 0 * 256 + d = 0 at he
          omega
        · rw [pkl_app, pkl_app] at he
          have e1 := h1 d (by simp)
          have e2 := h2 d' (by simp)
          change pkl i 0 * 256 + d = pkl i' 0 * 256 + d' at he
          have hdd : d = d' := by omega
          have hii : pkl i 0 = pkl i' 0 := by omega
          rw [hdd, ih i i' (by simpa using hl) (fun x hx => h1 x (by simp [hx])) (fun x hx => h2 x (by simp [hx])) hii]
  exact fun l m h1 h2 he => key l.length l m rfl h1 h2 he
theorem q_pack {v t : Nat} (hv : v < 36028797018963968) (ht : t < 256) : (lN v <<< ((8 : Int32).toInt64 &&& 63)) ||| (nI t).toInt64 = lN (v * 256 + t) := by
  have e1 : lN v <<< ((8 : Int32).toInt64 &&& 63) = lN (v * 256) := by
    apply Int64.toBitVec_inj.mp
    apply BitVec.eq_of_toNat_eq
    have : (lN v <<< ((8 : Int32).toInt64 &&& 63)).toBitVec = (BitVec.ofNat 64 v) <<< (8 : Nat) := rfl
    rw [this]
    show _ = (BitVec.ofNat 64 (v * 256)).toNat
    rw [BitVec.toNat_shiftLeft, BitVec.toNat_ofNat, BitVec.toNat_ofNat, Nat.shiftLeft_eq]
    omega
  have e2 : (nI t).toInt64 = lN t := nI_l (by omega)
  rw [e1, e2]
  apply Int64.toBitVec_inj.mp
  apply BitVec.eq_of_toNat_eq
  rw [Int64.toBitVec_or]
  show (BitVec.ofNat 64 (v * 256) ||| BitVec.ofNat 64 t).toNat = (BitVec.ofNat 64 (v * 256 + t)).toNat
  rw [BitVec.toNat_or, BitVec.toNat_ofNat, BitVec.toNat_ofNat, BitVec.toNat_ofNat, Nat.mod_eq_of_lt (by omega), Nat.mod_eq_of_lt (by omega), Nat.mod_eq_of_lt (by omega)]
  have := Nat.shiftLeft_add_eq_or_of_lt (show t < 2 ^ 8 by omega) v
  rw [Nat.shiftLeft_eq] at this
  exact this.symm
