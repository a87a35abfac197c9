/-! ===== a method's table run by the machine is the bytecode run ===== -/
def mx_eqX (σ τ : mx_S) : Prop := ∀ k j, τ k mx_oX j = σ k mx_oX j
theorem mx_eqX_up {σ : mx_S} {k o j : Nat} {x : Int32} (h : o < 55) : mx_eqX σ (mx_up σ k o j x) := fun k' j' => if_neg (fun q => absurd (show mx_oX < 55 by rw [q.2.1]; exact h) (by decide))
theorem mx_eqX_cp {σ : mx_S} {k o k1 o1 sp dp n : Nat} (h : o1 < 55) : mx_eqX σ (mx_cp σ k o k1 o1 sp dp n) := fun k' j' => if_neg (fun q => absurd (show mx_oX < 55 by rw [q.2]; exact h) (by decide))
theorem mx_eqX_rf {σ : mx_S} : mx_eqX σ σ := fun _ _ => rfl
set_option maxHeartbeats 4000000 in
/-- no instruction touches the script; no answer is a reference -/
theorem mx_stepX (i : mx_Op) (loc : mx_Loc) (stk : List mx_V) (σ : mx_S) : mx_step (fun _ _ τ => mx_eqX σ τ) (fun _ _ _ τ => mx_eqX σ τ) (fun v τ => mx_eqX σ τ ∧ ∀ w, v = some w → mx_okV w) (fun _ _ _ _ _ τ => mx_eqX σ τ) (fun _ _ τ => mx_eqX σ τ) True i loc stk σ := by
  obtain ⟨op, im, jm, a, b, ts⟩ := i
  rcases op with _ | _ | _ | _ | _ | _ | _ | _ | _ | _ | _ | _ | _ | _ | _ | _ | _ | _ | _ | _ | _ | _ | _ | _ | _ | _ | _ | _ | _ | _ | _ | _ | _ | _ | _ | _ | _ | _ | _ | _ | _ | _ | _ | _ | _ | _ | _ | _ | op
  · rw [mx_s0]
    (repeat' split) <;> first | exact mx_eqX_rf | trivial
  · rw [mx_s1]
    (repeat' split) <;> first | exact mx_eqX_rf | trivial
  · rw [mx_s2]
    (repeat' split) <;> first | exact mx_eqX_rf | trivial
  · rw [mx_s3]
    (repeat' split) <;> first | exact mx_eqX_rf | trivial
  · rw [mx_s4]
    (repeat' split) <;> first | exact mx_eqX_rf | trivial
  · rw [mx_s5]
    (repeat' split) <;> first | exact mx_eqX_rf | trivial
  · rw [mx_s6]
    (repeat' split) <;> first | exact mx_eqX_rf | trivial
  · rw [mx_s7]
    (repeat' split) <;> first | exact mx_eqX_rf | trivial
  · rw [mx_s8]
    unfold mx_bin
    (repeat' split) <;> first | exact mx_eqX_rf | trivial
  · rw [mx_s9]
    unfold mx_d mx_div
    (repeat' split) <;> first | exact mx_eqX_rf | trivial
  · rw [mx_s10]
    unfold mx_un
    (repeat' split) <;> first | exact mx_eqX_rf | trivial
  · rw [mx_s11]
    unfold mx_lb
    (repeat' split) <;> first | exact mx_eqX_rf | trivial
  · rw [mx_s12]
    unfold mx_lsh
    (repeat' split) <;> first | exact mx_eqX_rf | trivial
  · rw [mx_s13]
    (repeat' split) <;> first | exact mx_eqX_rf | trivial
  · rw [mx_s14]
    (repeat' split) <;> first | exact mx_eqX_rf | trivial
  · rw [mx_s15]
    (repeat' split) <;> first | exact mx_eqX_rf | trivial
  · rw [mx_s16]
    (repeat' split) <;> first | exact mx_eqX_rf | trivial
  · rw [mx_s17]
    (repeat' split) <;> first | exact mx_eqX_rf | trivial
  · rw [mx_s18]
    (repeat' split) <;> first | exact mx_eqX_rf | trivial
  · rw [mx_s19]
    unfold mx_if
    (repeat' split) <;> first | exact mx_eqX_rf | trivial
  · rw [mx_s20]
    unfold mx_if
    (repeat' split) <;> first | exact mx_eqX_rf | trivial
  · rw [mx_s21]
    (repeat' split) <;> first | exact mx_eqX_rf | trivial
  · rw [mx_s22]
    split
    · rename_i x r
      rw [mx_sw_map x (fun _ : Nat => mx_eqX σ σ) a b ts]
      exact mx_eqX_rf
    · trivial
  · rw [mx_s23]
    unfold mx_getf
    (repeat' split) <;> first | exact mx_eqX_rf | trivial
  · rw [mx_s24]
    unfold mx_putf mx_z mx_w
    split
    · split
      · rename_i hb
        have ho := mx_cO_lt (Nat.eq_of_beq_eq_true hb)
        (repeat' split) <;> first | exact mx_eqX_up ho | trivial
      · trivial
    · split
      · rename_i hb
        have ho := mx_cO_lt (Nat.eq_of_beq_eq_true hb)
        (repeat' split) <;> first | exact mx_eqX_up ho | trivial
      · trivial
    · trivial
  · rw [mx_s25]
    unfold mx_g
    (repeat' split) <;> first | exact mx_eqX_rf | trivial
  · rw [mx_s26]
    split
    · split
      · rename_i hb
        have ho := mx_aT_lt (Nat.eq_of_beq_eq_true hb)
        unfold mx_g mx_w
        split
        · trivial
        · exact mx_eqX_up ho
      · trivial
    · trivial
  · rw [mx_s27]
    unfold mx_g
    (repeat' split) <;> first | exact mx_eqX_rf | trivial
  · rw [mx_s28]
    split
    · split
      · rename_i hb
        have ho := mx_aT_lt (Nat.eq_of_beq_eq_true hb)
        unfold mx_g mx_w
        split
        · trivial
        · exact mx_eqX_up ho
      · trivial
    · trivial
  · rw [mx_s29]
    unfold mx_g
    (repeat' split) <;> first | exact mx_eqX_rf | trivial
  · rw [mx_s30]
    (repeat' split) <;> first | exact mx_eqX_rf | trivial
  · rw [mx_s31]
    (repeat' split) <;> first | exact mx_eqX_rf | trivial
  · rw [mx_s32]
    unfold mx_z
    (repeat' split) <;> first | trivial | exact ⟨mx_eqX_rf, fun w hw => by cases hw; trivial⟩
  · rw [mx_s33]
    (repeat' split) <;> first | trivial | exact ⟨mx_eqX_rf, fun w hw => by cases hw; trivial⟩
  · rw [mx_s34]
    (repeat' split) <;> first | trivial | exact ⟨mx_eqX_rf, fun w hw => by cases hw⟩
  · rw [mx_s35]
    (repeat' split) <;> first | exact mx_eqX_rf | trivial
  · rw [mx_s36]
    split
    · split
      · rename_i h1 h2
        have ho := mx_aT_lt (Nat.eq_of_beq_eq_true h2)
        split
        · unfold mx_c
          split
          · trivial
          · exact mx_eqX_cp ho
        · trivial
      · trivial
    · trivial
  · rw [mx_s37]
    (repeat' split) <;> first | exact mx_eqX_rf | trivial
  · rw [mx_s38]
    (repeat' split) <;> first | exact mx_eqX_rf | trivial
  · rw [mx_s39]
    (repeat' split) <;> first | exact mx_eqX_rf | trivial
  · rw [mx_s40]
    (repeat' split) <;> first | exact mx_eqX_rf | trivial
  · rw [mx_s41]
    unfold mx_g
    (repeat' split) <;> first | exact mx_eqX_rf | trivial
  · rw [mx_s42]
    (repeat' split) <;> first | exact mx_eqX_rf | trivial
  · rw [mx_s43]
    unfold mx_g
    (repeat' split) <;> first | exact mx_eqX_rf | trivial
  · rw [mx_s44]
    (repeat' split) <;> first | exact mx_eqX_rf | trivial
  · rw [mx_s45]
    (repeat' split) <;> first | exact mx_eqX_rf | trivial
  · rw [mx_s46]
    (repeat' split) <;> first | exact mx_eqX_rf | trivial
  · rw [mx_s47]
    (repeat' split) <;> first | exact mx_eqX_rf | trivial
  · trivial
theorem mx_elim_mp {kn kn' : mx_Loc → List mx_V → mx_S → Prop} {kj kj' : Nat → mx_Loc → List mx_V → mx_S → Prop} {kr kr' : Option mx_V → mx_S → Prop} {kc kc' : Nat → Nat → List mx_V → mx_Loc → List mx_V → mx_S → Prop} {kh kh' : Nat → mx_Loc → mx_S → Prop} {fl fl' : Prop} {q : mx_Act} (h : mx_elim kn kj kr kc kh fl q) (h1 : ∀ a b c, kn a b c → kn' a b c) (h2 : ∀ a b c d, kj a b c d → kj' a b c d) (h3 : ∀ a b, kr a b → kr' a b) (h4 : ∀ a b c d e f, kc a b c d e f → kc' a b c d e f) (h5 : ∀ a b c, kh a b c → kh' a b c) (h6 : fl → fl') : mx_elim kn' kj' kr' kc' kh' fl' q := by
  rcases q with _ | (⟨l', s', σ'⟩ | ⟨t, l', s', σ'⟩ | ⟨v, σ'⟩ | ⟨y, rk, as, l', s', σ'⟩ | ⟨h', l', σ'⟩)
  · exact h6 h
  · exact h1 _ _ _ h
  · exact h2 _ _ _ _ h
  · exact h3 _ _ h
  · exact h4 _ _ _ _ _ _ h
  · exact h5 _ _ _ h
def mx_gdX (σ : mx_S) (r : mx_Rt) : Prop := mx_eqX σ r.2 ∧ ∀ w, r.1 = some w → mx_okV w
theorem mx_gdX.tr {σ τ : mx_S} {r : mx_Rt} (h : mx_eqX σ τ) (q : mx_gdX τ r) : mx_gdX σ r := ⟨fun k j => (q.1 k j).trans (h k j), q.2⟩
theorem mx_runX {E : Nat → List mx_V → mx_S → Option mx_Rt} {P : List mx_Op} {K : Nat → mx_Loc → mx_S → Option mx_Rt} (hE : ∀ y as σ r, E y as σ = some r → mx_gdX σ r) (hK : ∀ h l σ r, K h l σ = some r → mx_gdX σ r) : ∀ n c l s σ r, mx_run E P K n c l s σ = some r → mx_gdX σ r := by
  intro n
  induction n with
  | zero => intro c l s σ r h; cases c <;> cases h
  | succ n ih =>
    intro c l s σ r h
    cases c with
    | nil => cases h
    | cons i c =>
      rw [mx_run_s] at h
      have hx := mx_stepX i l s σ
      rw [mx_fac] at hx
      generalize mx_act i l s σ = q at h hx
      rcases q with _ | (⟨l', s', σ'⟩ | ⟨t, l', s', σ'⟩ | ⟨v, σ'⟩ | ⟨y, rk, as, l', s', σ'⟩ | ⟨h', l', σ'⟩)
      · cases h
      · exact (ih _ _ _ _ _ h).tr hx
      · exact (ih _ _ _ _ _ h).tr hx
      · cases h; exact hx
      · refine mx_gdX.tr (τ := σ') hx ?_
        rcases rk with _ | _ | rk
        · obtain ⟨σ2, e, h⟩ := mx_bV_iff.mp h
          exact (ih _ _ _ _ _ h).tr (hE _ _ _ _ e).1
        · obtain ⟨x, σ2, e, h⟩ := mx_bI_iff.mp h
          exact (ih _ _ _ _ _ h).tr (hE _ _ _ _ e).1
        · obtain ⟨x, σ2, e, h⟩ := mx_bJ_iff.mp h
          exact (ih _ _ _ _ _ h).tr (hE _ _ _ _ e).1
      · exact (hK _ _ _ _ h).tr hx
theorem mx_LX {E : Nat → List mx_V → mx_S → Option mx_Rt} {P : List mx_Op} (hE : ∀ y as σ r, E y as σ = some r → mx_gdX σ r) : ∀ n h l σ r, mx_L E P n h l σ = some r → mx_gdX σ r := by
  intro n
  induction n with
  | zero => intro h l σ r q; cases q
  | succ n ih => intro h l σ r q; exact mx_runX hE ih _ _ _ _ _ _ q
theorem mx_sem_H (y : Nat) (as : List mx_V) (σ : mx_S) : mx_sem y as σ = mx_H y 0 (mx_ent (mx_nl y) as) σ := by
  unfold mx_H mx_sem
  rw [WellFounded.fix_eq]
  congr 1
theorem mx_semX : ∀ y as σ r, mx_sem y as σ = some r → mx_gdX σ r := by
  intro y
  induction y using Nat.strongRecOn with
  | _ y ih =>
    intro as σ r h
    rw [mx_sem_H] at h
    obtain ⟨n, h⟩ := (mx_LL_iff _ _ _ _ _ _).mp h
    refine mx_LX (fun y' as' σ' r' h' => ?_) n _ _ _ _ h
    unfold mx_E at h'
    split at h'
    · rename_i hy
      exact ih y' hy as' σ' r' h'
    · cases h'
section Rn
variable {p : Program} {l : Launch} {e : Env} {R : Room} {s : State} {m : MethodId} {args : Array Value} {below : List Frame} {meth : Method} {c : Code} {cells slots : Nat} {Q : State → Prop} {cc : ByteArray} {nL : Nat} {g : mx_G} {L : Nat} {xs : Nat → Int32} {Y : Nat}
theorem mx_run_sd {ow : Nat} (C : mx_Cx p R s m args c cells slots cc nL (mx_on ow) g L xs Y) {ret : Option FieldType} {tg : Nat → Nat} {P : List mx_Op} {ks : List (Nat × Nat × Nat)} (hchk : mx_chk ow cc nL ret tg 0 P ks = true) {r : mx_Rt} {E : Nat → List mx_V → mx_S → Option mx_Rt} {K : Nat → mx_Loc → mx_S → Option mx_Rt}
    (hKR : ∀ (pc : Nat) (v0 : Option mx_V) (σ' : mx_S) (H : Heap) (ls : Array Slot) (locs : List Loc), (v0, σ') = r → va_P g.2.1 vwCl (mx_ws g σ') H → va_S (mx_A g) s.heap H locs → mx_rt cc pc ret v0 → W p l e R s m args below meth c H locs cells slots Q (F0 m pc ls (v0.map (mx_rv g)).toList))
    (hE : ∀ y' as σ rr, E y' as σ = some rr → y' < Y ∧ mx_OK l y' as σ rr ∧ mx_gdX σ rr)
    (hK : ∀ h lo σ, K h lo σ = some r → mx_W p l e R s m args below meth c cells slots Q nL g L xs (tg (h + 1)) lo [] σ) : ∀ n j loc stk σ, mx_run E P K n (P.drop j) loc stk σ = some r → mx_W p l e R s m args below meth c cells slots Q nL g L xs (tg j) loc stk σ := by
  intro n
  induction n with
  | zero => intro j loc stk σ h; cases hd : P.drop j <;> rw [hd] at h <;> cases h
  | succ n ih =>
    intro j loc stk σ h
    cases hd : P.drop j with
    | nil => rw [hd] at h; cases h
    | cons i c' =>
      obtain ⟨q, v, w, hok, hc'⟩ := mx_chk_at hchk hd
      rw [Nat.zero_add] at hok
      rw [hd, mx_run_s] at h
      subst hc'
      refine sd_step C hok (KR := fun v σ' => (v, σ') = r) (hKR (tg j)) ?_
      rw [mx_fac]
      generalize mx_act i loc stk σ = q at h ⊢
      rcases q with _ | (⟨l', s', σ'⟩ | ⟨t, l', s', σ'⟩ | ⟨v, σ'⟩ | ⟨y, rk, as, l', s', σ'⟩ | ⟨h', l', σ'⟩)
      · cases h
      · exact ih _ _ _ _ h
      · exact ih _ _ _ _ h
      · exact Option.some.inj h
      · rcases rk with _ | _ | rk
        · obtain ⟨σ2, e1, h⟩ := mx_bV_iff.mp h
          obtain ⟨h1, h2, h3⟩ := hE _ _ _ _ e1
          exact ⟨(none, σ2), h1, h2, h3.1, h3.2, ih _ _ _ _ h⟩
        · obtain ⟨x, σ2, e1, h⟩ := mx_bI_iff.mp h
          obtain ⟨h1, h2, h3⟩ := hE _ _ _ _ e1
          exact ⟨(some (Sum.inl x), σ2), h1, h2, h3.1, h3.2, ih _ _ _ _ h⟩
        · obtain ⟨x, σ2, e1, h⟩ := mx_bJ_iff.mp h
          obtain ⟨h1, h2, h3⟩ := hE _ _ _ _ e1
          exact ⟨(some (Sum.inr (Sum.inl x)), σ2), h1, h2, h3.1, h3.2, ih _ _ _ _ h⟩
      · exact hK _ _ _ h
theorem mx_L_sd {ow : Nat} (C : mx_Cx p R s m args c cells slots cc nL (mx_on ow) g L xs Y) {ret : Option FieldType} {tg : Nat → Nat} {P : List mx_Op} {ks : List (Nat × Nat × Nat)} (hchk : mx_chk ow cc nL ret tg 0 P ks = true) {r : mx_Rt} {E : Nat → List mx_V → mx_S → Option mx_Rt}
    (hKR : ∀ (pc : Nat) (v0 : Option mx_V) (σ' : mx_S) (H : Heap) (ls : Array Slot) (locs : List Loc), (v0, σ') = r → va_P g.2.1 vwCl (mx_ws g σ') H → va_S (mx_A g) s.heap H locs → mx_rt cc pc ret v0 → W p l e R s m args below meth c H locs cells slots Q (F0 m pc ls (v0.map (mx_rv g)).toList))
    (hE : ∀ y' as σ rr, E y' as σ = some rr → y' < Y ∧ mx_OK l y' as σ rr ∧ mx_gdX σ rr) : ∀ n h loc σ, mx_L E P n h loc σ = some r → mx_W p l e R s m args below meth c cells slots Q nL g L xs (tg (h + 1)) loc [] σ := by
  intro n
  induction n with
  | zero => intro h loc σ q; cases q
  | succ n ih => intro h loc σ q; exact mx_run_sd C hchk hKR hE ih 2000 (h + 1) loc [] σ q
end Rn
/-! the entry -/
theorem mx_wd_sl {g : mx_G} (hq : g.2.2.2.category = 1) : ∀ as : List mx_V, (lg_sl (as.map (mx_rv g))).length = mx_wd as
  | [] => rfl
  | Sum.inl x :: as => by
    have := mx_wd_sl hq as
    show (lg_sl (Value.int x :: as.map (mx_rv g))).length = mx_wd as + 1
    simp only [lg_sl, List.flatMap_cons, List.length_append] at this ⊢
    rw [this]
    simp [Value.category]; omega
  | Sum.inr (Sum.inl x) :: as => by
    have := mx_wd_sl hq as
    show (lg_sl (Value.long x :: as.map (mx_rv g))).length = mx_wd as + 2
    simp only [lg_sl, List.flatMap_cons, List.length_append] at this ⊢
    rw [this]
    simp [Value.category]; omega
  | Sum.inr (Sum.inr x) :: as => by
    have := mx_wd_sl hq as
    have hc := mx_cat1 (g := g) (v := Sum.inr (Sum.inr x)) hq (fun z => z)
    show (lg_sl (mx_rv g (Sum.inr (Sum.inr x)) :: as.map (mx_rv g))).length = mx_wd as + 1
    simp only [lg_sl, List.flatMap_cons, List.length_append] at this ⊢
    rw [this, if_neg (by omega)]
    simp; omega
theorem mx_ent_nil : ∀ (n i : Nat) (v : mx_V), mx_lo (mx_ent n []) i ≠ some v
  | 0, _, _ => fun h => by cases h
  | n + 1, 0, _ => fun h => by cases h
  | n + 1, i + 1, v => mx_ent_nil n i v
theorem mx_ent_at {g : mx_G} (hq : g.2.2.2.category = 1) : ∀ (as : List mx_V) (n off i : Nat) (v : mx_V), mx_lo (mx_ent n as) i = some v → (off + i, mx_rv g v) ∈ lv_args off (as.map (mx_rv g))
  | [], n, off, i, v, h => absurd h (mx_ent_nil n i v)
  | a :: as, 0, off, i, v, h => by cases h
  | a :: as, 1, off, i, v, h => by
    have h2 : mx_lo [some a] i = some v := by
      rcases a with x | x | x <;> exact h
    cases i with
    | zero => cases h2; exact List.mem_cons_self
    | succ i => cases h2
  | Sum.inr (Sum.inl x) :: as, n + 2, off, 0, v, h => by
    cases h
    exact List.mem_cons_self
  | Sum.inr (Sum.inl x) :: as, n + 2, off, 1, v, h => by cases h
  | Sum.inr (Sum.inl x) :: as, n + 2, off, i + 2, v, h => by
    have h2 := mx_ent_at hq as n (off + 2) i v h
    have e : off + (i + 2) = off + 2 + i := by omega
    rw [e]
    exact List.mem_cons_of_mem _ h2
  | Sum.inl x :: as, n + 2, off, 0, v, h => by
    cases h
    exact List.mem_cons_self
  | Sum.inl x :: as, n + 2, off, i + 1, v, h => by
    have h2 := mx_ent_at hq as (n + 1) (off + 1) i v h
    have e : off + (i + 1) = off + 1 + i := by omega
    rw [e]
    exact List.mem_cons_of_mem _ h2
  | Sum.inr (Sum.inr x) :: as, n + 2, off, 0, v, h => by
    cases h
    exact List.mem_cons_self
  | Sum.inr (Sum.inr x) :: as, n + 2, off, i + 1, v, h => by
    have h2 := mx_ent_at hq as (n + 1) (off + 1) i v h
    have e : off + (i + 1) = off + 1 + i := by omega
    have hc := mx_cat1 (g := g) (v := Sum.inr (Sum.inr x)) hq (fun z => z)
    rw [e]
    refine List.mem_cons_of_mem _ ?_
    rw [if_neg (by omega)]
    exact h2
theorem mx_ent_ok : ∀ (as : List mx_V) (n i : Nat) (v : mx_V), mx_lo (mx_ent n as) i = some v → v ∈ as
  | [], n, i, v, h => absurd h (mx_ent_nil n i v)
  | a :: as, 0, i, v, h => by cases h
  | a :: as, 1, i, v, h => by
    have h2 : mx_lo [some a] i = some v := by
      rcases a with x | x | x <;> exact h
    cases i with
    | zero => cases h2; exact List.mem_cons_self
    | succ i => cases h2
  | Sum.inr (Sum.inl x) :: as, n + 2, 0, v, h => by cases h; exact List.mem_cons_self
  | Sum.inr (Sum.inl x) :: as, n + 2, 1, v, h => by cases h
  | Sum.inr (Sum.inl x) :: as, n + 2, i + 2, v, h => List.mem_cons_of_mem _ (mx_ent_ok as n i v h)
  | Sum.inl x :: as, n + 2, 0, v, h => by cases h; exact List.mem_cons_self
  | Sum.inl x :: as, n + 2, i + 1, v, h => List.mem_cons_of_mem _ (mx_ent_ok as (n + 1) i v h)
  | Sum.inr (Sum.inr x) :: as, n + 2, 0, v, h => by cases h; exact List.mem_cons_self
  | Sum.inr (Sum.inr x) :: as, n + 2, i + 1, v, h => List.mem_cons_of_mem _ (mx_ent_ok as (n + 1) i v h)
/-- a method's table is checked -/
def mx_tok (y : Nat) : Prop := ∃ (ow : Nat) (tg : Nat → Nat) (ks : List (Nat × Nat × Nat)), mx_chk ow (mx_mC y) (mx_nl y) (mx_mR y) tg 0 (mx_pr y) ks = true ∧ mx_on ow = (mx_mN y).cls ∧ tg 1 = 0 ∧ plainName (mx_mN y).cls = true ∧ mx_nl y ≤ 40
theorem mx_sound (l : Launch) (hT : ∀ y, y < 191 → mx_tok y) : ∀ y, y < 191 → ∀ as σ r, mx_sem y as σ = some r → mx_OK l y as σ r := by
  intro y
  induction y using Nat.strongRecOn with
  | _ y ih =>
    intro hy as σ r h
    obtain ⟨ow, tg, ks, hchk, hon, htg, hpl, hnl⟩ := hT y hy
    intro g L xs hinj hq hL hs hwd hc
    refine Met.ofW (cc := mx_mC y) (maxL := mx_nl y) (ret := mx_mR y) hpl rfl ?_
    intro p e s m args below meth c s₁ B hml hv
    obtain ⟨rfl, hP, hF⟩ := hv
    have hts : ∀ w ∈ lw_gd, w.before (as.map (mx_rv g)).toArray s = true := fun w hw => atoms_spec (ws := mx_wy y) B.pre w (List.mem_cons_of_mem _ hw)
    have hown : s.vm.findClass (mx_on ow) = some m.cls := by rw [hon]; exact findClass_of_methodNamed B.named
    have hlocks := B.notSynchronized
    have C : mx_Cx p (headSpec (mx_wy y) (mx_rm y)).room s m (as.map (mx_rv g)).toArray c 0 0 (mx_mC y) (mx_nl y) (mx_on ow) g L xs y := by
      refine ⟨B.exec, B.bytes, hml, hown, hts, hF, hinj, hq, ⟨Nat.le_refl 0, Nat.le_refl 0⟩, hL, ⟨show 1 ≤ y + 2 by omega, show 100 ≤ 100 * (y + 2) by omega⟩, fun y' h' => ⟨show y' + 3 ≤ y + 2 by omega, show 8 + (mx_nl y' + 11) + 100 * (y' + 2) ≤ 100 * (y + 2) from ?_⟩⟩
      obtain ⟨-, -, -, -, -, -, -, h40⟩ := hT y' (by omega)
      omega
    rw [mx_sem_H] at h
    obtain ⟨n, h⟩ := (mx_LL_iff _ _ _ _ _ _).mp h
    have k := mx_L_sd (l := l) (e := e) (below := below) (meth := meth) (Q := MQ below (mx_Q g r) (as.map (mx_rv g)).toArray s 0 0 (mx_A g)) C hchk (r := r) (E := mx_E y) (fun pc v0 σ' H ls locs hr hP hS hrt => ?_) (fun y' as' σ' rr h' => ?_) n 0 _ _ h
    · rw [show 0 + 1 = 1 from rfl, htg] at k
      have hl := lv_entry (as.map (mx_rv g)) (n := mx_nl y) (by rw [mx_wd_sl hq]; exact hwd)
      rw [lg_entry_eq]
      generalize (lg_sl (as.map (mx_rv g)) ++ List.replicate (mx_nl y - (lg_sl (as.map (mx_rv g))).length) Slot.unset).toArray = ls at hl ⊢
      refine k s.heap ls [] hP va_S.rf ⟨hl.1, hl.2.1, fun i v hi => ?_⟩ (fun v hv => absurd hv List.not_mem_nil) (fun i v hi => hs v (mx_ent_ok as _ i v hi)) hc
      have := hl.2.2 _ (mx_ent_at hq as (mx_nl y) 0 i v hi)
      rw [Nat.zero_add] at this
      exact this
    · subst hr
      rcases v0 with _ | (x | x | x)
      · exact W.vret B.exec B.bytes (B.returns.trans hrt.2) (fun t ht hW => ⟨rfl, by rw [ht]; exact hP, hS.F ht⟩) hS.2.2 hrt.1
      · obtain ⟨hd, ty, h1, h2⟩ := hrt
        exact W.zret B.exec B.bytes (B.returns.trans h1) h2 (fun t ht hW => ⟨rfl, by rw [ht]; exact hP, hS.F ht⟩) hS.2.2 hd
      · exact W.lret B.exec B.bytes (B.returns.trans hrt.2) (fun t ht hW => ⟨rfl, by rw [ht]; exact hP, hS.F ht⟩) hS.2.2 hrt.1
      · exact hrt.elim
    · unfold mx_E at h'
      split at h'
      · rename_i hy'
        exact ⟨hy', ih y' hy' (by omega) as' σ' rr h', mx_semX y' as' σ' rr h'⟩
      · cases h'
