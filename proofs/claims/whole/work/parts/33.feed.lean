/-! ===== the tape, the latest fault ===== -/
/-- nothing is other than where S says -/
def kpg (S : Nat → Nat → Prop) (a a' : mx_S) : Prop := ∀ k o j, ¬ S o j → a' k o j = a k o j
theorem kpg_rf {S : Nat → Nat → Prop} {a : mx_S} : kpg S a a := fun _ _ _ _ => rfl
theorem kpg_tr {S : Nat → Nat → Prop} {a a' a'' : mx_S} (h : kpg S a a') (h2 : kpg S a' a'') : kpg S a a'' := fun k o j q => (h2 k o j q).trans (h k o j q)
theorem kpg_up {S : Nat → Nat → Prop} {a a' : mx_S} {k o j : Nat} {x : Int32} (h : kpg S a a') (hb : S o j) : kpg S a (mx_up a' k o j x) := by
  intro k' o' j' q
  rw [q_up, if_neg]
  · exact h k' o' j' q
  · rintro ⟨-, rfl, rfl⟩
    exact q hb
theorem kpg_fl {S : Nat → Nat → Prop} {a a' : mx_S} {k o i n : Nat} {x : Int32} (h : kpg S a a') (hb : ∀ j, S o j) : kpg S a (mx_fl a' k o i n x) := by
  intro k' o' j' q
  rw [q_fl, if_neg]
  · exact h k' o' j' q
  · rintro ⟨-, rfl, -⟩
    exact q (hb j')
theorem kpg_cp {S : Nat → Nat → Prop} {a a' : mx_S} {k o k1 o1 sp dp n : Nat} (h : kpg S a a') (hb : ∀ j, S o1 j) : kpg S a (mx_cp a' k o k1 o1 sp dp n) := by
  intro k' o' j' q
  rw [q_cpy, if_neg]
  · exact h k' o' j' q
  · rintro ⟨-, rfl, -⟩
    exact q (hb j')
/-- byte t of the tape, both ways -/
def bt2 (x y : Int32) : Prop := ∃ t, t < 256 ∧ x = (nI t).toInt8.toInt32 ∧ y = nI t
def ITn (n : Nat) (a b : mx_S) : Prop := n ≤ 400 ∧ a 0 29 1 = nI n ∧ b 0 39 11 = nI n ∧ ∀ j, j < n → bt2 (a 0 30 j) (b 0 46 j)
def IT (a b : mx_S) : Prop := ∃ n, ITn n a b
def IF (a b : mx_S) : Prop := a 0 28 8 = b 0 39 12
theorem q_byte (u : Int64) : bt2 (vp_nar .byte u.toInt32.toInt8.toInt32) (u &&& (255 : Int64)).toInt32 := by
  refine ⟨u.toBitVec.toNat % 256, Nat.mod_lt _ (by decide), ?_, ?_⟩
  · rw [pk_vb]
    congr 1
    apply Int8.toBitVec_inj.mp
    apply BitVec.eq_of_toNat_eq
    rw [Int32.toBitVec_toInt8, Int32.toBitVec_toInt8, Int64.toBitVec_toInt32, BitVec.signExtend_eq_setWidth_of_le _ (by decide), BitVec.signExtend_eq_setWidth_of_le _ (by decide), BitVec.signExtend_eq_setWidth_of_le _ (by decide)]
    show ((u.toBitVec.setWidth 32).setWidth 8).toNat = ((BitVec.ofNat 32 (u.toBitVec.toNat % 256)).setWidth 8).toNat
    simp only [BitVec.toNat_setWidth, BitVec.toNat_ofNat]
    omega
  · apply Int32.toBitVec_inj.mp
    apply BitVec.eq_of_toNat_eq
    rw [Int64.toBitVec_toInt32, BitVec.signExtend_eq_setWidth_of_le _ (by decide), Int64.toBitVec_and]
    show ((u.toBitVec &&& (255#64)).setWidth 32).toNat = (BitVec.ofNat 32 (u.toBitVec.toNat % 256)).toNat
    simp only [BitVec.toNat_setWidth, BitVec.toNat_ofNat, BitVec.toNat_and]
    have e : u.toBitVec.toNat &&& 255 = u.toBitVec.toNat % 256 := Nat.and_two_pow_sub_one_eq_mod _ 8
    rw [show (255 % 2 ^ 64) = 255 from rfl, e]
def SfX (o j : Nat) : Prop := (o = 29 ∧ j = 1) ∨ o = 30
def SfM (o j : Nat) : Prop := (o = 39 ∧ (j = 0 ∨ j = 11)) ∨ o = 46
theorem s_feed_l (w : Int64) : ∀ (d n : Nat) (a b : mx_S), ITn n a b → n + d ≤ 400 → ∃ a' b', mx_H 87 21 [some (mx_R 0 28), some (mx_J w), none, none, some (mx_I (nI d - 1))] a = some (some (mx_I (nI (n + d))), a') ∧ mx_H 158 24 [some (mx_R 0 39), some (mx_J w), none, none, some (mx_I (nI d - 1))] b = some (some (mx_I (nI (n + d))), b') ∧ ITn (n + d) a' b' ∧ kpg SfX a a' ∧ kpg SfM b b' := by
  intro d
  induction d with
  | zero =>
    intro n a b hT hd
    refine ⟨a, b, ?_, ?_, hT, kpg_rf, kpg_rf⟩
    · rw [e_X_feed_21, if_pos (by decide), hT.2.1]; rfl
    · rw [e_M_feed_24, if_pos (by decide), hT.2.2.1]; rfl
  | succ d ih =>
    intro n a b hT hd
    obtain ⟨hn, h1, h2, h3⟩ := hT
    have eu := q_byte (w >>> (((8 : Int32) * nI d).toInt64 &&& 63))
    generalize hu : w >>> (((8 : Int32) * nI d).toInt64 &&& 63) = u at eu
    have hT' : ITn (n + 1) (mx_up (mx_up a 0 30 n (vp_nar .byte u.toInt32.toInt8.toInt32)) 0 29 1 (nI (n + 1))) (mx_up (mx_up b 0 46 n (u &&& (255 : Int64)).toInt32) 0 39 11 (nI (n + 1))) := by
      refine ⟨by omega, q_us, q_us, fun j hj => ?_⟩
      rw [q_uo (o := 29) (by decide), q_uo (o := 39) (by decide)]
      by_cases e : j = n
      · subst e
        rw [q_us, q_us]; exact eu
      · rw [q_uj e, q_uj e]; exact h3 j (by omega)
    obtain ⟨a', b', hX, hM, hI, hk1, hk2⟩ := ih (n + 1) _ _ hT' (by omega)
    rw [show n + 1 + d = n + (d + 1) by omega] at hX hM hI
    have em : nI d + (-1) = nI d - 1 := (Int32.sub_eq_add_neg _ _).symm
    refine ⟨a', b', ?_, ?_, hI, kpg_tr (kpg_up (kpg_up kpg_rf (Or.inr rfl)) (Or.inl ⟨rfl, rfl⟩)) hk1, kpg_tr (kpg_up (kpg_up kpg_rf (Or.inr rfl)) (Or.inl ⟨rfl, Or.inr rfl⟩)) hk2⟩
    · rw [e_X_feed_21, nI_pred, if_neg (q_lt0 (by omega)), hu, e_R_put, if_neg (by rw [h1, q_lit, q_leN (by decide) (by omega)]; omega), h1, q_g (by omega) (by decide), q_w, q_w, q_uo (by decide), h1, nI_1, q_bV, em]
      exact hX
    · rw [e_M_feed_24, nI_pred, if_neg (q_lt0 (by omega)), hu, h2, q_g (by omega) (by decide), q_w, q_w, q_uo (by decide), h2, nI_1, em]
      exact hM
theorem ap_feed {a b : mx_S} (hT : IT a b) (w : Int64) (x3 : Int32) : Alk (fun a' b' => IT a' b' ∧ kpg SfX a a' ∧ kpg SfM b b') 87 158 [mx_J w, mx_I x3] a b := by
  obtain ⟨n, hT⟩ := hT
  have e1 : (1 : Int32).toInt = 1 := rfl
  have e8 : (8 : Int32).toInt = 8 := rfl
  have l1 : (1 : Int64).toInt = 1 := rfl
  have l8 : (8 : Int64).toInt = 8 := rfl
  have hT0 : ITn n a (mx_up b 0 39 0 0) := ⟨hT.1, hT.2.1, by rw [q_uj (by decide)]; exact hT.2.2.1, fun j hj => by rw [q_uo (by decide)]; exact hT.2.2.2 j hj⟩
  have hk0 : kpg SfM b (mx_up b 0 39 0 0) := kpg_up kpg_rf (Or.inl ⟨rfl, Or.inl rfl⟩)
  by_cases hb : x3.toInt < 1 ∨ 8 < x3.toInt
  · refine ⟨-1000001, a, mx_up b 0 39 0 0, ?_, ?_, ⟨n, hT0⟩, kpg_rf, hk0⟩
    · rw [e_X_feed, s_within1 x3 1 8 (by omega), q_bI, if_pos rfl]
    · rw [e_M_feed, q_w, s_in1 _ _ _ (by rw [q_wide]; omega), q_bI, if_pos rfl]
  · obtain ⟨m, hm, rfl⟩ : ∃ m : Nat, m ≤ 8 ∧ x3 = nI m := ⟨x3.toInt.toNat, by omega, q_of (by omega)⟩
    rw [q_toI (by omega)] at hb
    have hX0 := e_X_feed (nI m) w a
    have hM0 := e_M_feed (nI m) w b
    rw [s_within2 (nI m) 1 8 (by rw [q_toI (by omega)]; omega) (by rw [q_toI (by omega)]; omega), q_bI, if_neg (by decide), hT.2.1, q_add] at hX0
    rw [q_w, s_in2 _ _ _ (by rw [q_wide, q_toI (by omega)]; omega) (by rw [q_wide, q_toI (by omega)]; omega), q_bI, if_neg (by decide), hT0.2.2.1, q_add] at hM0
    have hn := hT.1
    by_cases h4 : n + m ≤ 400
    · have hc : nI (n + m) ≤ 400 := by rw [q_lit, q_leN (by omega) (by decide)]; exact h4
      rw [if_pos hc] at hX0 hM0
      obtain ⟨a', b', hX, hM, hI, hk1, hk2⟩ := s_feed_l w m n a _ hT0 h4
      exact ⟨_, a', b', hX0.trans hX, hM0.trans hM, ⟨_, hI⟩, hk1, kpg_tr hk0 hk2⟩
    · have hc : ¬ nI (n + m) ≤ 400 := by rw [q_lit, q_leN (by omega) (by decide)]; exact h4
      rw [if_neg hc] at hX0 hM0
      exact ⟨_, a, _, hX0, hM0, ⟨n, hT0⟩, kpg_rf, hk0⟩
theorem ap_fault {a b : mx_S} (hF : IF a b) : Alk (fun a' b' => a' = a ∧ b' = mx_up b 0 39 0 0) 86 157 [] a b :=
  ⟨a 0 28 8, a, mx_up b 0 39 0 0, e_X_fault a, by rw [e_M_fault, q_w, q_uj (by decide), show a 0 28 8 = b 0 39 12 from hF], rfl, rfl⟩
