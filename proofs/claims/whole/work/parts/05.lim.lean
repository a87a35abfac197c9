/-! ===== loops and calls to any depth: limits ===== -/
def mx_L (E : Nat → List mx_V → mx_S → Option mx_Rt) (P : List mx_Op) : Nat → Nat → mx_Loc → mx_S → Option mx_Rt
  | 0, _, _, _ => none
  | n + 1, h, loc, σ => mx_run E P (mx_L E P n) 2000 (P.drop (h + 1)) loc [] σ
noncomputable def mx_lim {β : Type} (f : Nat → Option β) : Option β := @dite _ (∃ n r, f n = some r) (Classical.propDecidable _) (fun h => some (Classical.choose (Classical.choose_spec h))) (fun _ => none)
theorem mx_lim_mono {β : Type} {f : Nat → Option β} (hm : ∀ n r, f n = some r → f (n + 1) = some r) : ∀ (n m : Nat) (r : β), n ≤ m → f n = some r → f m = some r := by
  intro n m r h
  induction h with
  | refl => exact id
  | step _ ih => exact fun q => hm _ _ (ih q)
theorem mx_lim_iff {β : Type} {f : Nat → Option β} (hm : ∀ n r, f n = some r → f (n + 1) = some r) (r : β) : mx_lim f = some r ↔ ∃ n, f n = some r := by
  unfold mx_lim
  constructor
  · intro h
    split at h
    · rename_i q
      have := Classical.choose_spec (Classical.choose_spec q)
      cases h
      exact ⟨_, this⟩
    · cases h
  · rintro ⟨n, hn⟩
    rw [dif_pos ⟨n, r, hn⟩]
    have q : ∃ n r, f n = some r := ⟨n, r, hn⟩
    have h2 := Classical.choose_spec (Classical.choose_spec q)
    have a := mx_lim_mono hm _ (max n (Classical.choose q)) _ (Nat.le_max_left _ _) hn
    have b := mx_lim_mono hm _ (max n (Classical.choose q)) _ (Nat.le_max_right _ _) h2
    rw [a] at b
    exact b.symm
theorem mx_sw_map {α β : Type} (x : Int32) (f : β → α) (d : β) : ∀ (k : Nat) (l : List β), mx_sw x (f d) k (l.map f) = f (mx_sw x d k l)
  | _, [] => rfl
  | k, t :: l => by
    show (if x = Int32.ofNat k then f t else mx_sw x (f d) (k + 1) (l.map f)) = f (if x = Int32.ofNat k then t else mx_sw x d (k + 1) l)
    rw [mx_sw_map x f d (k + 1) l]
    split <;> rfl
/-- an instruction's deed, apart from what is done with it -/
abbrev mx_Act : Type := Option ((mx_Loc × List mx_V × mx_S) ⊕ (Nat × mx_Loc × List mx_V × mx_S) ⊕ (Option mx_V × mx_S) ⊕ (Nat × Nat × List mx_V × mx_Loc × List mx_V × mx_S) ⊕ (Nat × mx_Loc × mx_S))
def mx_act (i : mx_Op) (loc : mx_Loc) (stk : List mx_V) (σ : mx_S) : mx_Act := mx_step (fun l s σ => some (.inl (l, s, σ))) (fun t l s σ => some (.inr (.inl (t, l, s, σ)))) (fun v σ => some (.inr (.inr (.inl (v, σ))))) (fun y rk as l s σ => some (.inr (.inr (.inr (.inl (y, rk, as, l, s, σ)))))) (fun h l σ => some (.inr (.inr (.inr (.inr (h, l, σ)))))) none i loc stk σ
def mx_elim {α : Type} (kn : mx_Loc → List mx_V → mx_S → α) (kj : Nat → mx_Loc → List mx_V → mx_S → α) (kr : Option mx_V → mx_S → α) (kc : Nat → Nat → List mx_V → mx_Loc → List mx_V → mx_S → α) (kh : Nat → mx_Loc → mx_S → α) (fl : α) (q : mx_Act) : α := match q with
  | none => fl
  | some (.inl (l, s, σ)) => kn l s σ
  | some (.inr (.inl (t, l, s, σ))) => kj t l s σ
  | some (.inr (.inr (.inl (v, σ)))) => kr v σ
  | some (.inr (.inr (.inr (.inl (y, rk, as, l, s, σ))))) => kc y rk as l s σ
  | some (.inr (.inr (.inr (.inr (h, l, σ))))) => kh h l σ
section Fac
variable {α : Type} (kn : mx_Loc → List mx_V → mx_S → α) (kj : Nat → mx_Loc → List mx_V → mx_S → α) (kr : Option mx_V → mx_S → α) (kc : Nat → Nat → List mx_V → mx_Loc → List mx_V → mx_S → α) (kh : Nat → mx_Loc → mx_S → α) (fl : α)
set_option maxHeartbeats 4000000 in
theorem mx_fac (i : mx_Op) (loc : mx_Loc) (stk : List mx_V) (σ : mx_S) : mx_step kn kj kr kc kh fl i loc stk σ = mx_elim kn kj kr kc kh fl (mx_act i loc stk σ) := by
  obtain ⟨op, im, jm, a, b, ts⟩ := i
  unfold mx_act
  rcases op with _ | _ | _ | _ | _ | _ | _ | _ | _ | _ | _ | _ | _ | _ | _ | _ | _ | _ | _ | _ | _ | _ | _ | _ | _ | _ | _ | _ | _ | _ | _ | _ | _ | _ | _ | _ | _ | _ | _ | _ | _ | _ | _ | _ | _ | _ | _ | _ | op
  · rw [mx_s0, mx_s0]; (repeat' split) <;> rfl
  · rw [mx_s1, mx_s1]; (repeat' split) <;> rfl
  · rw [mx_s2, mx_s2]; (repeat' split) <;> rfl
  · rw [mx_s3, mx_s3]; (repeat' split) <;> rfl
  · rw [mx_s4, mx_s4]; (repeat' split) <;> rfl
  · rw [mx_s5, mx_s5]; (repeat' split) <;> rfl
  · rw [mx_s6, mx_s6]; (repeat' split) <;> rfl
  · rw [mx_s7, mx_s7]; (repeat' split) <;> rfl
  · rw [mx_s8, mx_s8]; unfold mx_bin; (repeat' split) <;> rfl
  · rw [mx_s9, mx_s9]; unfold mx_d mx_div; (repeat' split) <;> rfl
  · rw [mx_s10, mx_s10]; unfold mx_un; (repeat' split) <;> rfl
  · rw [mx_s11, mx_s11]; unfold mx_lb; (repeat' split) <;> rfl
  · rw [mx_s12, mx_s12]; unfold mx_lsh; (repeat' split) <;> rfl
  · rw [mx_s13, mx_s13]; (repeat' split) <;> rfl
  · rw [mx_s14, mx_s14]; (repeat' split) <;> rfl
  · rw [mx_s15, mx_s15]; (repeat' split) <;> rfl
  · rw [mx_s16, mx_s16]; (repeat' split) <;> rfl
  · rw [mx_s17, mx_s17]; (repeat' split) <;> rfl
  · rw [mx_s18, mx_s18]; (repeat' split) <;> rfl
  · rw [mx_s19, mx_s19]; unfold mx_if; (repeat' split) <;> rfl
  · rw [mx_s20, mx_s20]; unfold mx_if; (repeat' split) <;> rfl
  · rw [mx_s21, mx_s21]; (repeat' split) <;> rfl
  · rw [mx_s22, mx_s22]
    split
    · rename_i x r
      rw [mx_sw_map x (fun t => kj t loc r σ) a b ts, mx_sw_map x (fun t => (some (.inr (.inl (t, loc, r, σ))) : mx_Act)) a b ts]
      rfl
    · rfl
  · rw [mx_s23, mx_s23]; unfold mx_getf; (repeat' split) <;> rfl
  · rw [mx_s24, mx_s24]; unfold mx_putf mx_z mx_w; (repeat' split) <;> rfl
  · rw [mx_s25, mx_s25]; unfold mx_g; (repeat' split) <;> rfl
  · rw [mx_s26, mx_s26]; unfold mx_g mx_w; (repeat' split) <;> rfl
  · rw [mx_s27, mx_s27]; unfold mx_g; (repeat' split) <;> rfl
  · rw [mx_s28, mx_s28]; unfold mx_g mx_w; (repeat' split) <;> rfl
  · rw [mx_s29, mx_s29]; unfold mx_g; (repeat' split) <;> rfl
  · rw [mx_s30, mx_s30]; (repeat' split) <;> rfl
  · rw [mx_s31, mx_s31]; (repeat' split) <;> rfl
  · rw [mx_s32, mx_s32]; unfold mx_z; (repeat' split) <;> rfl
  · rw [mx_s33, mx_s33]; (repeat' split) <;> rfl
  · rw [mx_s34, mx_s34]; (repeat' split) <;> rfl
  · rw [mx_s35, mx_s35]; (repeat' split) <;> rfl
  · rw [mx_s36, mx_s36]; unfold mx_c; (repeat' split) <;> rfl
  · rw [mx_s37, mx_s37]; (repeat' split) <;> rfl
  · rw [mx_s38, mx_s38]; (repeat' split) <;> rfl
  · rw [mx_s39, mx_s39]; (repeat' split) <;> rfl
  · rw [mx_s40, mx_s40]; (repeat' split) <;> rfl
  · rw [mx_s41, mx_s41]; unfold mx_g; (repeat' split) <;> rfl
  · rw [mx_s42, mx_s42]; (repeat' split) <;> rfl
  · rw [mx_s43, mx_s43]; unfold mx_g; (repeat' split) <;> rfl
  · rw [mx_s44, mx_s44]; (repeat' split) <;> rfl
  · rw [mx_s45, mx_s45]; (repeat' split) <;> rfl
  · rw [mx_s46, mx_s46]; (repeat' split) <;> rfl
  · rw [mx_s47, mx_s47]; (repeat' split) <;> rfl
  · rfl
end Fac
theorem mx_run_s (E : Nat → List mx_V → mx_S → Option mx_Rt) (P : List mx_Op) (K : Nat → mx_Loc → mx_S → Option mx_Rt) (n : Nat) (i : mx_Op) (c : List mx_Op) (loc : mx_Loc) (stk : List mx_V) (σ : mx_S) : mx_run E P K (n + 1) (i :: c) loc stk σ = mx_elim (fun l s σ => mx_run E P K n c l s σ) (fun t l s σ => mx_run E P K n (P.drop t) l s σ) (fun v σ => some (v, σ)) (fun y rk as l s σ => match rk with
      | 0 => mx_bV none (E y as σ) (fun σ => mx_run E P K n c l s σ)
      | 1 => mx_bI none (E y as σ) (fun x σ => mx_run E P K n c l (Sum.inl x :: s) σ)
      | _ => mx_bJ none (E y as σ) (fun x σ => mx_run E P K n c l (Sum.inr (Sum.inl x) :: s) σ)) K none (mx_act i loc stk σ) := mx_fac _ _ _ _ _ _ i loc stk σ
theorem mx_bV_iff {β : Type} {r : Option mx_Rt} {f : mx_S → Option β} {z : β} : mx_bV none r f = some z ↔ ∃ σ, r = some (none, σ) ∧ f σ = some z := by
  unfold mx_bV
  split
  · rename_i σ
    exact ⟨fun h => ⟨σ, rfl, h⟩, fun ⟨σ', e, h⟩ => by cases e; exact h⟩
  · rename_i hn
    exact ⟨fun h => (by cases h), fun ⟨σ', e, h⟩ => absurd e (hn σ')⟩
theorem mx_bI_iff {β : Type} {r : Option mx_Rt} {f : Int32 → mx_S → Option β} {z : β} : mx_bI none r f = some z ↔ ∃ x σ, r = some (some (Sum.inl x), σ) ∧ f x σ = some z := by
  unfold mx_bI
  split
  · rename_i x σ
    exact ⟨fun h => ⟨x, σ, rfl, h⟩, fun ⟨x', σ', e, h⟩ => by cases e; exact h⟩
  · rename_i hn
    exact ⟨fun h => (by cases h), fun ⟨x', σ', e, h⟩ => absurd e (hn x' σ')⟩
theorem mx_bJ_iff {β : Type} {r : Option mx_Rt} {f : Int64 → mx_S → Option β} {z : β} : mx_bJ none r f = some z ↔ ∃ x σ, r = some (some (Sum.inr (Sum.inl x)), σ) ∧ f x σ = some z := by
  unfold mx_bJ
  split
  · rename_i x σ
    exact ⟨fun h => ⟨x, σ, rfl, h⟩, fun ⟨x', σ', e, h⟩ => by cases e; exact h⟩
  · rename_i hn
    exact ⟨fun h => (by cases h), fun ⟨x', σ', e, h⟩ => absurd e (hn x' σ')⟩
/-- more at the heads, more of the whole; and what is had of a limit is had of a step of it -/
theorem mx_run_mono (E : Nat → List mx_V → mx_S → Option mx_Rt) (P : List mx_Op) (K K' : Nat → mx_Loc → mx_S → Option mx_Rt) (hK : ∀ h l σ r, K h l σ = some r → K' h l σ = some r) : ∀ n c l s σ r, mx_run E P K n c l s σ = some r → mx_run E P K' n c l s σ = some r := by
  intro n
  induction n with
  | zero => intro c l s σ r h; cases c <;> cases h
  | succ n ih =>
    intro c l s σ r h
    cases c with
    | nil => cases h
    | cons i c =>
      rw [mx_run_s] at h ⊢
      generalize mx_act i l s σ = q at h ⊢
      rcases q with _ | (⟨l', s', σ'⟩ | ⟨t, l', s', σ'⟩ | ⟨v, σ'⟩ | ⟨y, rk, as, l', s', σ'⟩ | ⟨h', l', σ'⟩)
      · cases h
      · exact ih _ _ _ _ _ h
      · exact ih _ _ _ _ _ h
      · exact h
      · rcases rk with _ | _ | rk
        · obtain ⟨σ2, e, h⟩ := mx_bV_iff.mp h
          exact mx_bV_iff.mpr ⟨σ2, e, ih _ _ _ _ _ h⟩
        · obtain ⟨x, σ2, e, h⟩ := mx_bI_iff.mp h
          exact mx_bI_iff.mpr ⟨x, σ2, e, ih _ _ _ _ _ h⟩
        · obtain ⟨x, σ2, e, h⟩ := mx_bJ_iff.mp h
          exact mx_bJ_iff.mpr ⟨x, σ2, e, ih _ _ _ _ _ h⟩
      · exact hK _ _ _ _ h
theorem mx_run_cont (E : Nat → List mx_V → mx_S → Option mx_Rt) (P : List mx_Op) (K : Nat → mx_Loc → mx_S → Option mx_Rt) (Kn : Nat → Nat → mx_Loc → mx_S → Option mx_Rt) (hK : ∀ h l σ r, K h l σ = some r → ∃ m, Kn m h l σ = some r) : ∀ n c l s σ r, mx_run E P K n c l s σ = some r → ∃ m, mx_run E P (Kn m) n c l s σ = some r := by
  intro n
  induction n with
  | zero => intro c l s σ r h; cases c <;> cases h
  | succ n ih =>
    intro c l s σ r h
    cases c with
    | nil => cases h
    | cons i c =>
      simp only [mx_run_s] at h ⊢
      generalize mx_act i l s σ = q at h ⊢
      rcases q with _ | (⟨l', s', σ'⟩ | ⟨t, l', s', σ'⟩ | ⟨v, σ'⟩ | ⟨y, rk, as, l', s', σ'⟩ | ⟨h', l', σ'⟩)
      · cases h
      · exact ih _ _ _ _ _ h
      · exact ih _ _ _ _ _ h
      · exact ⟨0, h⟩
      · rcases rk with _ | _ | rk
        · obtain ⟨σ2, e, h⟩ := mx_bV_iff.mp h
          obtain ⟨m, h⟩ := ih _ _ _ _ _ h
          exact ⟨m, mx_bV_iff.mpr ⟨σ2, e, h⟩⟩
        · obtain ⟨x, σ2, e, h⟩ := mx_bI_iff.mp h
          obtain ⟨m, h⟩ := ih _ _ _ _ _ h
          exact ⟨m, mx_bI_iff.mpr ⟨x, σ2, e, h⟩⟩
        · obtain ⟨x, σ2, e, h⟩ := mx_bJ_iff.mp h
          obtain ⟨m, h⟩ := ih _ _ _ _ _ h
          exact ⟨m, mx_bJ_iff.mpr ⟨x, σ2, e, h⟩⟩
      · exact hK _ _ _ _ h
theorem mx_L_mono (E : Nat → List mx_V → mx_S → Option mx_Rt) (P : List mx_Op) : ∀ n h loc σ r, mx_L E P n h loc σ = some r → mx_L E P (n + 1) h loc σ = some r := by
  intro n
  induction n with
  | zero => intro h loc σ r q; cases q
  | succ n ih => intro h loc σ r q; exact mx_run_mono E P _ _ ih _ _ _ _ _ _ q
noncomputable def mx_LL (E : Nat → List mx_V → mx_S → Option mx_Rt) (P : List mx_Op) (h : Nat) (loc : mx_Loc) (σ : mx_S) : Option mx_Rt := mx_lim (fun n => mx_L E P n h loc σ)
theorem mx_LL_iff (E : Nat → List mx_V → mx_S → Option mx_Rt) (P : List mx_Op) (h : Nat) (loc : mx_Loc) (σ : mx_S) (r : mx_Rt) : mx_LL E P h loc σ = some r ↔ ∃ n, mx_L E P n h loc σ = some r := mx_lim_iff (fun n r q => mx_L_mono E P n h loc σ r q) r
theorem mx_LL_eq (E : Nat → List mx_V → mx_S → Option mx_Rt) (P : List mx_Op) (h : Nat) (loc : mx_Loc) (σ : mx_S) : mx_LL E P h loc σ = mx_run E P (mx_LL E P) 2000 (P.drop (h + 1)) loc [] σ := by
  apply Option.ext
  intro r
  show mx_LL E P h loc σ = some r ↔ mx_run E P (mx_LL E P) 2000 (P.drop (h + 1)) loc [] σ = some r
  rw [mx_LL_iff]
  constructor
  · rintro ⟨n, q⟩
    cases n with
    | zero => cases q
    | succ n => exact mx_run_mono E P _ _ (fun h l σ r q => (mx_LL_iff E P h l σ r).mpr ⟨n, q⟩) _ _ _ _ _ _ q
  · intro q
    obtain ⟨m, q⟩ := mx_run_cont E P _ (mx_L E P) (fun h l σ r q => (mx_LL_iff E P h l σ r).mp q) _ _ _ _ _ _ q
    exact ⟨m + 1, q⟩
