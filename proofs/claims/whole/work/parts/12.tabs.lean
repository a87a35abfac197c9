/-! ===== the tables are the bytecode's ===== -/
def mx_chk (ow : Nat) (cc : ByteArray) (nL : Nat) (ret : Option FieldType) (tg : Nat → Nat) : Nat → List mx_Op → List (Nat × Nat × Nat) → Bool
  | _, [], _ => true
  | _, _ :: _, [] => false
  | j, i :: c, k :: ks => mx_ok ow cc nL ret tg (tg j) (tg (j + 1)) k.1 k.2.1 k.2.2 i && mx_chk ow cc nL ret tg (j + 1) c ks
theorem mx_chk_at {ow : Nat} {cc : ByteArray} {nL : Nat} {ret : Option FieldType} {tg : Nat → Nat} : ∀ {P : List mx_Op} {ks : List (Nat × Nat × Nat)} {j n : Nat} {i : mx_Op} {c : List mx_Op}, mx_chk ow cc nL ret tg j P ks = true → P.drop n = i :: c → ∃ q v w, mx_ok ow cc nL ret tg (tg (j + n)) (tg (j + n + 1)) q v w i = true ∧ c = P.drop (n + 1)
  | [], _, _, n, _, _, _, h => by simp at h
  | _ :: _, [], _, _, _, _, h, _ => by cases h
  | i0 :: P, k :: ks, j, 0, i, c, h, hd => by
    cases hd
    simp only [mx_chk, Bool.and_eq_true] at h
    exact ⟨k.1, k.2.1, k.2.2, h.1, rfl⟩
  | i0 :: P, k :: ks, j, n + 1, i, c, h, hd => by
    simp only [mx_chk, Bool.and_eq_true] at h
    obtain ⟨q, v, w, h1, h2⟩ := mx_chk_at (n := n) h.2 hd
    refine ⟨q, v, w, ?_, h2⟩
    rw [show j + (n + 1) = j + 1 + n by omega]
    exact h1
theorem mx_chk_app {ow : Nat} {cc : ByteArray} {nL : Nat} {ret : Option FieldType} {tg : Nat → Nat} : ∀ {P P2 : List mx_Op} {ks k2 : List (Nat × Nat × Nat)} {j : Nat}, P.length = ks.length → mx_chk ow cc nL ret tg j P ks = true → mx_chk ow cc nL ret tg (j + P.length) P2 k2 = true → mx_chk ow cc nL ret tg j (P ++ P2) (ks ++ k2) = true
  | [], _, [], _, _, _, _, h => h
  | [], _, _ :: _, _, _, h, _, _ => by cases h
  | _ :: _, _, [], _, _, h, _, _ => by cases h
  | i :: P, P2, k :: ks, k2, j, hl, h1, h2 => by
    simp only [mx_chk, Bool.and_eq_true] at h1
    simp only [List.cons_append, mx_chk, Bool.and_eq_true]
    refine ⟨h1.1, mx_chk_app (by simpa using hl) h1.2 ?_⟩
    rw [List.length_cons] at h2
    rw [show j + 1 + P.length = j + (P.length + 1) by omega]
    exact h2
