/-! ===== one step ===== -/
theorem mx_nfo {o a : Nat} (h : mx_cO o = a + 1) : mx_nf o = (mx_cl a).2.2 ∧ a < 9 := by
  obtain ⟨h1, h2⟩ := (mx_aT_c o (mx_cO_lt h)).2 (by omega)
  have e : mx_cO o - 1 = a := by omega
  rw [e] at h1 h2
  exact ⟨h2, h1⟩
theorem mx_up_v {σ : mx_S} {k o j : Nat} {x : Int32} : mx_up σ k o j x k o j = x := if_pos ⟨rfl, rfl, rfl⟩
theorem mx_small {x : Int32} {n : Nat} (h : Nat.ble x.toBitVec.toNat n = true) : ∃ k, k ≤ n ∧ x = nI k := by
  refine ⟨x.toBitVec.toNat, Nat.le_of_ble_eq_true h, ?_⟩
  apply Int32.toBitVec_inj.mp
  apply BitVec.eq_of_toNat_eq
  show _ = (BitVec.ofNat 32 x.toBitVec.toNat).toNat
  rw [BitVec.toNat_ofNat, Nat.mod_eq_of_lt x.toBitVec.isLt]
theorem mx_b01 {x : Int32} (h : Nat.ble x.toBitVec.toNat 1 = true) : x = 0 ∨ x = 1 := by
  obtain ⟨k, hk, e⟩ := mx_small h
  rcases (show k = 0 ∨ k = 1 by omega) with rfl | rfl
  · exact Or.inl e
  · exact Or.inr e
theorem mx_nbool {x : Int32} (h : Nat.ble x.toBitVec.toNat 1 = true) : narrow .boolean (.int x) = .int x ∧ fits .boolean (.int x) = true := by
  rcases mx_b01 h with rfl | rfl <;> exact ⟨rfl, rfl⟩
theorem mx_nchar {x : Int32} (h : Nat.ble x.toBitVec.toNat 65535 = true) : narrow .char (.int x) = .int x := by
  obtain ⟨k, hk, rfl⟩ := mx_small h
  exact (pk_charN (by omega)).1
theorem mx_nbyte {x : Int32} (h : Nat.ble x.toBitVec.toNat 127 = true) : narrow .byte (.int x) = .int x := by
  obtain ⟨k, hk, rfl⟩ := mx_small h
  have : ∀ k, k < 128 → narrow .byte (.int (nI k)) = .int (nI k) := by decide +kernel
  exact this k (by omega)
def mx_rt (cc : ByteArray) (pc : Nat) (ret : Option FieldType) (v : Option mx_V) : Prop := match v with
  | some (Sum.inl x) => decode cc pc = .ok (.ireturn, 1) ∧ ∃ ty, ret = some ty ∧ narrow ty (.int x) = .int x
  | some (Sum.inr (Sum.inl _)) => decode cc pc = .ok (.lreturn, 1) ∧ ret = some .long
  | some (Sum.inr (Sum.inr _)) => False
  | none => decode cc pc = .ok (.return_, 1) ∧ ret = none
theorem mx_acw : Cond.native arraycopyName ∈ lw_gd ∧ Cond.static arraycopyName ∈ lw_gd ∧ Cond.initialized "java/lang/System" ∈ lw_gd := ⟨mx_hw_of (k := 469) (by decide +kernel), mx_hw_of (k := 468) (by decide +kernel), mx_hw_of (k := 102) (by decide +kernel)⟩
theorem mx_take_drop (b : Nat) (stk : List mx_V) : stk = (stk.take b).reverse.reverse ++ stk.drop b := by rw [List.reverse_reverse, List.take_append_drop]
section St
variable {p : Program} {l : Launch} {e : Env} {R : Room} {s : State} {m : MethodId} {args : Array Value} {below : List Frame} {meth : Method} {c : Code} {cells slots : Nat} {Q : State → Prop} {cc : ByteArray} {nL : Nat} {g : mx_G} {L : Nat} {xs : Nat → Int32} {pc npc Y : Nat} {loc : mx_Loc} {stk : List mx_V} {σ : mx_S}
set_option maxHeartbeats 4000000 in
set_option maxRecDepth 10000 in
theorem sd_step {ow : Nat} (C : mx_Cx p R s m args c cells slots cc nL (mx_on ow) g L xs Y) {ret : Option FieldType} {tg : Nat → Nat} {q v w : Nat} {i : mx_Op} {KR : Option mx_V → mx_S → Prop} (hok : mx_ok ow cc nL ret tg pc npc q v w i = true)
    (hKR : ∀ (v0 : Option mx_V) (σ' : mx_S) (H : Heap) (ls : Array Slot) (locs : List Loc), KR v0 σ' → va_P g.2.1 vwCl (mx_ws g σ') H → va_S (mx_A g) s.heap H locs → mx_rt cc pc ret v0 → W p l e R s m args below meth c H locs cells slots Q (F0 m pc ls (v0.map (mx_rv g)).toList))
    (h : mx_step (fun lo st σ => mx_W p l e R s m args below meth c cells slots Q nL g L xs npc lo st σ) (fun t lo st σ => mx_W p l e R s m args below meth c cells slots Q nL g L xs (tg t) lo st σ) KR (fun y' _ as lo st σ => ∃ rr : mx_Rt, y' < Y ∧ mx_OK l y' as σ rr ∧ (∀ k j, rr.2 k mx_oX j = σ k mx_oX j) ∧ (∀ v, rr.1 = some v → mx_okV v) ∧ mx_W p l e R s m args below meth c cells slots Q nL g L xs npc lo (rr.1.toList ++ st) rr.2) (fun hh lo σ => mx_W p l e R s m args below meth c cells slots Q nL g L xs (tg (hh + 1)) lo [] σ) False i loc stk σ) : mx_W p l e R s m args below meth c cells slots Q nL g L xs pc loc stk σ := by
  intro H ls locs hP hS hv hs hlo hc
  obtain ⟨op, im, jm, a, b, ts⟩ := i
  rcases op with _ | _ | _ | _ | _ | _ | _ | _ | _ | _ | _ | _ | _ | _ | _ | _ | _ | _ | _ | _ | _ | _ | _ | _ | _ | _ | _ | _ | _ | _ | _ | _ | _ | _ | _ | _ | _ | _ | _ | _ | _ | _ | _ | _ | _ | _ | _ | _ | op
  · rw [mx_o0] at hok; rw [mx_s0] at h
    split at h
    · rename_i x hx0
      refine sd_iload C ?_ hx0 h H ls locs hP hS hv hs hlo hc
      revert hok
      split
      · intro hok
        simp only [Bool.and_eq_true, decide_eq_true_eq] at hok
        exact Or.inr ⟨hok.1, mx_dq_of hok.2.1, hok.2.2⟩
      · intro hok
        simp only [Bool.and_eq_true, decide_eq_true_eq] at hok
        exact Or.inl ⟨mx_dq_of hok.1, hok.2⟩
    · exact h.elim
  · rw [mx_o1] at hok; rw [mx_s1] at h
    split at h
    · rename_i x hx0
      refine sd_lload C ?_ hx0 h H ls locs hP hS hv hs hlo hc
      revert hok
      split
      · intro hok
        simp only [Bool.and_eq_true, decide_eq_true_eq] at hok
        exact Or.inr ⟨hok.1, mx_dq_of hok.2.1, hok.2.2⟩
      · intro hok
        simp only [Bool.and_eq_true, decide_eq_true_eq] at hok
        exact Or.inl ⟨mx_dq_of hok.1, hok.2⟩
    · exact h.elim
  · rw [mx_o2] at hok; rw [mx_s2] at h
    split at h
    · rename_i k o hx0
      split at h
      · rename_i hb
        refine sd_aload (q := (k, o)) C ?_ (fun z => by have z : o = mx_oQ := z; subst z; exact absurd hb (by decide)) hx0 h H ls locs hP hS hv hs hlo hc
        revert hok
        split
        · intro hok
          simp only [Bool.and_eq_true, decide_eq_true_eq] at hok
          exact Or.inr ⟨hok.1, mx_dq_of hok.2.1, hok.2.2⟩
        · intro hok
          simp only [Bool.and_eq_true, decide_eq_true_eq] at hok
          exact Or.inl ⟨mx_dq_of hok.1, hok.2⟩
      · exact h.elim
    · exact h.elim
  · rw [mx_o3] at hok; rw [mx_s3] at h
    split at h
    · rw [Bool.and_eq_true] at hok
      obtain ⟨ha, hok⟩ := hok
      refine sd_istore C (of_decide_eq_true ha) ?_ h H ls locs hP hS hv hs hlo hc
      revert hok
      split
      · intro hok
        simp only [Bool.and_eq_true, decide_eq_true_eq] at hok
        exact Or.inr ⟨hok.1, mx_dq_of hok.2.1, hok.2.2⟩
      · intro hok
        simp only [Bool.and_eq_true, decide_eq_true_eq] at hok
        exact Or.inl ⟨mx_dq_of hok.1, hok.2⟩
    · exact h.elim
  · rw [mx_o4] at hok; rw [mx_s4] at h
    split at h
    · rw [Bool.and_eq_true] at hok
      obtain ⟨ha, hok⟩ := hok
      refine sd_lstore C (of_decide_eq_true ha) ?_ h H ls locs hP hS hv hs hlo hc
      revert hok
      split
      · intro hok
        simp only [Bool.and_eq_true, decide_eq_true_eq] at hok
        exact Or.inr ⟨hok.1, mx_dq_of hok.2.1, hok.2.2⟩
      · intro hok
        simp only [Bool.and_eq_true, decide_eq_true_eq] at hok
        exact Or.inl ⟨mx_dq_of hok.1, hok.2⟩
    · exact h.elim
  · rw [mx_o5] at hok; rw [mx_s5] at h
    split at h
    · rename_i k o r
      split at h
      · rename_i hb
        rw [Bool.and_eq_true] at hok
        obtain ⟨ha, hok⟩ := hok
        refine sd_astore (q := (k, o)) C (of_decide_eq_true ha) ?_ (fun z => by have z : o = mx_oQ := z; subst z; exact absurd hb (by decide)) h H ls locs hP hS hv hs hlo hc
        revert hok
        split
        · intro hok
          simp only [Bool.and_eq_true, decide_eq_true_eq] at hok
          exact Or.inr ⟨hok.1, mx_dq_of hok.2.1, hok.2.2⟩
        · intro hok
          simp only [Bool.and_eq_true, decide_eq_true_eq] at hok
          exact Or.inl ⟨mx_dq_of hok.1, hok.2⟩
      · exact h.elim
    · exact h.elim
  · rw [mx_o6] at hok; rw [mx_s6] at h
    refine sd_const (x0 := q) C ?_ h H ls locs hP hS hv hs hlo hc
    revert hok
    split
    · intro hok
      simp only [Bool.and_eq_true, decide_eq_true_eq] at hok
      exact Or.inl ⟨mx_dq_of hok.1, hok.2⟩
    · intro hok
      simp only [Bool.and_eq_true, decide_eq_true_eq] at hok
      exact Or.inr (Or.inl ⟨mx_dq_of hok.1, hok.2.1, hok.2.2⟩)
    · intro hok
      simp only [Bool.and_eq_true, decide_eq_true_eq] at hok
      exact Or.inr (Or.inr (Or.inl ⟨mx_dq_of hok.1, hok.2.1, hok.2.2⟩))
    · intro hok
      simp only [Bool.and_eq_true, decide_eq_true_eq] at hok
      exact Or.inr (Or.inr (Or.inr (Or.inl ⟨mx_dq_of hok.1, mx_lkC_of hok.2.1, hok.2.2⟩)))
    · intro hok
      simp only [Bool.and_eq_true, decide_eq_true_eq] at hok
      exact Or.inr (Or.inr (Or.inr (Or.inr ⟨mx_dq_of hok.1, mx_lkC_of hok.2.1, hok.2.2⟩)))
  · rw [mx_o7] at hok; rw [mx_s7] at h
    refine sd_lconst (a := a) (x0 := q) C ?_ h H ls locs hP hS hv hs hlo hc
    revert hok
    split
    · intro hok
      simp only [Bool.and_eq_true, decide_eq_true_eq] at hok
      exact Or.inl ⟨mx_dq_of hok.1, hok.2.1, hok.2.2⟩
    · intro hok
      simp only [Bool.and_eq_true, decide_eq_true_eq] at hok
      exact Or.inr ⟨mx_dq_of hok.1, mx_lkJ_of hok.2.1, hok.2.2⟩
  · rw [mx_o8] at hok; rw [mx_s8] at h
    simp only [Bool.and_eq_true, decide_eq_true_eq] at hok
    obtain ⟨hd, rfl⟩ := hok
    split at h
    · exact sd_bin C (mx_dq_of hd) h H ls locs hP hS hv hs hlo hc
    · exact h.elim
  · rw [mx_o9] at hok; rw [mx_s9] at h
    simp only [Bool.and_eq_true, decide_eq_true_eq] at hok
    obtain ⟨hd, rfl⟩ := hok
    split at h
    · exact sd_div C (mx_dq_of hd) h H ls locs hP hS hv hs hlo hc
    · exact h.elim
  · rw [mx_o10] at hok; rw [mx_s10] at h
    simp only [Bool.and_eq_true, decide_eq_true_eq] at hok
    obtain ⟨hd, rfl⟩ := hok
    split at h
    · exact sd_un C (mx_dq_of hd) h H ls locs hP hS hv hs hlo hc
    · exact h.elim
  · rw [mx_o11] at hok; rw [mx_s11] at h
    simp only [Bool.and_eq_true, decide_eq_true_eq] at hok
    obtain ⟨hd, rfl⟩ := hok
    split at h
    · exact sd_lb C (mx_dq_of hd) h H ls locs hP hS hv hs hlo hc
    · exact h.elim
  · rw [mx_o12] at hok; rw [mx_s12] at h
    simp only [Bool.and_eq_true, decide_eq_true_eq] at hok
    obtain ⟨hd, rfl⟩ := hok
    split at h
    · exact sd_lsh C (mx_dq_of hd) h H ls locs hP hS hv hs hlo hc
    · exact h.elim
  · rw [mx_o13] at hok; rw [mx_s13] at h
    simp only [Bool.and_eq_true, decide_eq_true_eq] at hok
    obtain ⟨hd, rfl⟩ := hok
    split at h
    · exact sd_lcmp C (mx_dq_of hd) h H ls locs hP hS hv hs hlo hc
    · exact h.elim
  · rw [mx_o14] at hok; rw [mx_s14] at h
    simp only [Bool.and_eq_true, decide_eq_true_eq] at hok
    obtain ⟨hd, rfl⟩ := hok
    split at h
    · exact sd_i2l C (mx_dq_of hd) h H ls locs hP hS hv hs hlo hc
    · exact h.elim
  · rw [mx_o15] at hok; rw [mx_s15] at h
    simp only [Bool.and_eq_true, decide_eq_true_eq] at hok
    obtain ⟨hd, rfl⟩ := hok
    split at h
    · exact sd_l2i C (mx_dq_of hd) h H ls locs hP hS hv hs hlo hc
    · exact h.elim
  · rw [mx_o16] at hok; rw [mx_s16] at h
    simp only [Bool.and_eq_true, decide_eq_true_eq] at hok
    obtain ⟨ha, hd, rfl⟩ := hok
    split at h
    · rename_i x hx0
      exact sd_iinc C ha (mx_dq_of hd) hx0 h H ls locs hP hS hv hs hlo hc
    · exact h.elim
  · rw [mx_o17] at hok; rw [mx_s17] at h
    simp only [Bool.and_eq_true, decide_eq_true_eq] at hok
    obtain ⟨hd, rfl⟩ := hok
    split at h
    · exact sd_dup (v := Sum.inl _) C (fun z => z) (mx_dq_of hd) h H ls locs hP hS hv hs hlo hc
    · exact sd_dup (v := Sum.inr (Sum.inr _)) C (fun z => z) (mx_dq_of hd) h H ls locs hP hS hv hs hlo hc
    · exact h.elim
  · rw [mx_o18] at hok; rw [mx_s18] at h
    simp only [Bool.and_eq_true, decide_eq_true_eq] at hok
    obtain ⟨hd, rfl⟩ := hok
    split at h
    · exact sd_dup2 (v := Sum.inl _) (v' := Sum.inr (Sum.inr _)) C (fun z => z) (fun z => z) (mx_dq_of hd) h H ls locs hP hS hv hs hlo hc
    · exact h.elim
  · rw [mx_o19] at hok; rw [mx_s19] at h
    simp only [Bool.and_eq_true, decide_eq_true_eq] at hok
    obtain ⟨hd, rfl⟩ := hok
    split at h
    · exact sd_ifc C (mx_dq_of hd) h H ls locs hP hS hv hs hlo hc
    · exact h.elim
  · rw [mx_o20] at hok; rw [mx_s20] at h
    simp only [Bool.and_eq_true, decide_eq_true_eq] at hok
    obtain ⟨hd, rfl⟩ := hok
    split at h
    · exact sd_icmp C (mx_dq_of hd) h H ls locs hP hS hv hs hlo hc
    · exact h.elim
  · rw [mx_o21] at hok; rw [mx_s21] at h
    exact sd_goto C (mx_dq_of hok) h H ls locs hP hS hv hs hlo hc
  · rw [mx_o22] at hok; rw [mx_s22] at h
    split at h
    · rename_i x r
      rw [mx_sw_map x (fun t => mx_W p l e R s m args below meth c cells slots Q nL g L xs (tg t) loc r σ) a b ts] at h
      revert hok
      split
      · intro hok
        simp only [Bool.and_eq_true, decide_eq_true_eq] at hok
        exact sd_sw C (mx_dq_of hok.1) hok.2 h H ls locs hP hS hv hs hlo hc
      · intro hok
        split at hok
        · simp only [Bool.and_eq_true, decide_eq_true_eq] at hok
          obtain ⟨hd, rfl⟩ := hok
          exact sd_lsw C (mx_dq_of hd) h H ls locs hP hS hv hs hlo hc
        · cases hok
    · exact h.elim
  · rw [mx_o23] at hok; rw [mx_s23] at h
    simp only [Bool.and_eq_true, decide_eq_true_eq] at hok
    obtain ⟨hd, hlk, rfl⟩ := hok
    obtain ⟨hw, hT9⟩ := mx_lkF_of hlk
    unfold mx_getf at h
    split at h
    · rename_i k o r
      split at h
      · rename_i hbq
        have ho : mx_cO o = a + 1 := Nat.eq_of_beq_eq_true hbq
        obtain ⟨en, ha9⟩ := mx_nfo ho
        obtain ⟨hT, hb9⟩ := hT9.resolve_left (by omega)
        rw [mx_wF_lt (by omega)] at hw
        have hN : b < mx_nf o := by rw [en]; exact hb9
        have hk : k < mx_kM o := mx_okV_cell (hs _ List.mem_cons_self) (mx_cO_lt ho)
        split at h
        · rename_i hf
          have hp := mx_pt_ok hk hN (Or.inl hf)
          exact sd_getf (v := Sum.inr (Sum.inr ((mx_pt k o b).1, (mx_pt k o b).2))) C hN (mx_dq_of hd) hw hT ho hk (Or.inl hp) (by unfold mx_fv; rw [hf, mx_rv_ref hp]; rfl) h H ls locs hP hS hv hs hlo hc
        · rename_i hf
          have hp := mx_pt_ok hk hN (Or.inr hf)
          by_cases hz : σ k o b = 0
          · exact (show False by simpa [hz] using h).elim
          · refine sd_getf (v := Sum.inr (Sum.inr ((mx_pt k o b).1, (mx_pt k o b).2))) C hN (mx_dq_of hd) hw hT ho hk (Or.inl hp) (by unfold mx_fv; rw [hf]; show (if σ k o b = 0 then _ else _) = _; rw [if_neg hz, mx_rv_ref hp]) ?_ H ls locs hP hS hv hs hlo hc
            have h2 : (if σ k o b = 0 then False else mx_W p l e R s m args below meth c cells slots Q nL g L xs (pc + 3) loc (Sum.inr (Sum.inr ((mx_pt k o b).1, (mx_pt k o b).2)) :: r) σ) := h
            rw [if_neg hz] at h2
            exact h2
        · rename_i h2 h3
          refine sd_getf (v := Sum.inl (σ k o b)) C hN (mx_dq_of hd) hw hT ho hk trivial ?_ h H ls locs hP hS hv hs hlo hc
          unfold mx_fv
          split
          · rename_i z; exact absurd z h2
          · rename_i z; exact absurd z h3
          · rfl
      · exact h.elim
    · exact h.elim
  · rw [mx_o24] at hok; rw [mx_s24] at h
    simp only [Bool.and_eq_true, decide_eq_true_eq] at hok
    obtain ⟨hd, hlk, rfl⟩ := hok
    obtain ⟨hw, hT9⟩ := mx_lkF_of hlk
    unfold mx_putf at h
    split at h
    · rename_i x k o r
      split at h
      · rename_i hbq
        have ho : mx_cO o = a + 1 := Nat.eq_of_beq_eq_true hbq
        obtain ⟨en, ha9⟩ := mx_nfo ho
        obtain ⟨hT, hb9⟩ := hT9.resolve_left (by omega)
        rw [mx_wF_lt (by omega)] at hw
        have hN : b < mx_nf o := by rw [en]; exact hb9
        have ho5 := mx_cO_lt ho
        have ea : mx_cO o - 1 = a := by omega
        have hk : k < mx_kM o := mx_okV_cell (hs _ (List.mem_cons_of_mem _ List.mem_cons_self)) ho5
        split at h
        · rename_i hf
          have ety := mx_fk_0 o ho5 (by omega) b hN hf
          rw [ea] at ety
          exact sd_putf (v := Sum.inl x) (z := x) C hN (mx_dq_of hd) hw hT ho hk (by omega) (by rw [ety]; rfl) (by rw [ety]; rfl) (by unfold mx_fv; rw [hf, mx_up_v]; rfl) h H ls locs hP hS hv hs hlo hc
        · rename_i hf
          have ety := mx_fk_1 o ho5 (by omega) b hN hf
          rw [ea] at ety
          unfold mx_z at h
          split at h
          · rename_i hz
            have h2 := mx_nbool hz
            exact sd_putf (v := Sum.inl x) (z := x) C hN (mx_dq_of hd) hw hT ho hk (by omega) (by rw [ety]; exact h2.1) (by rw [ety]; exact h2.2) (by unfold mx_fv; rw [hf, mx_up_v]; rfl) h H ls locs hP hS hv hs hlo hc
          · exact h.elim
        · exact h.elim
      · exact h.elim
    · rename_i k' o' k o r
      split at h
      · rename_i hbq
        have ho : mx_cO o = a + 1 := Nat.eq_of_beq_eq_true hbq
        obtain ⟨en, ha9⟩ := mx_nfo ho
        obtain ⟨hT, hb9⟩ := hT9.resolve_left (by omega)
        rw [mx_wF_lt (by omega)] at hw
        have hN : b < mx_nf o := by rw [en]; exact hb9
        have ho5 := mx_cO_lt ho
        have ea : mx_cO o - 1 = a := by omega
        have hk : k < mx_kM o := mx_okV_cell (hs _ (List.mem_cons_of_mem _ List.mem_cons_self)) ho5
        split at h
        · rename_i hf
          have ety := mx_fk_3 o ho5 (by omega) b hN hf
          rw [ea] at ety
          have hp := mx_pt_ok hk hN (Or.inr hf)
          split at h
          · rename_i h1 h2
            have e1 : (mx_pt k o b).1 = k' := Nat.eq_of_beq_eq_true h1
            have e2 : (mx_pt k o b).2 = o' := Nat.eq_of_beq_eq_true h2
            have er : mx_rv g (Sum.inr (Sum.inr (k', o'))) = .ref (g.1 k' o') := mx_rv_ref (by rw [← e1, ← e2]; exact hp)
            exact sd_putf (v := Sum.inr (Sum.inr (k', o'))) (z := 1) C hN (mx_dq_of hd) hw hT ho hk (by omega) (by rw [ety, er]; rfl) (by rw [ety, er]; rfl) (by unfold mx_fv; rw [hf, er]; show (if mx_up σ k o b 1 k o b = 0 then _ else _) = _; rw [mx_up_v, if_neg (by decide), e1, e2]) h H ls locs hP hS hv hs hlo hc
          · exact h.elim
        · exact h.elim
      · exact h.elim
    · exact h.elim
  · rw [mx_o25] at hok; rw [mx_s25] at h
    simp only [Bool.and_eq_true, decide_eq_true_eq] at hok
    obtain ⟨hd, rfl⟩ := hok
    split at h
    · rename_i i k o r
      split at h
      · rename_i hbq
        have ht := Nat.eq_of_beq_eq_true hbq
        have hk : k < mx_kM o := mx_okV_cell (hs _ (by simp)) (mx_aT_lt ht)
        exact sd_iald C (mx_dq_of hd) ht hk h H ls locs hP hS hv hs hlo hc
      · exact h.elim
    · exact h.elim
  · rw [mx_o26] at hok; rw [mx_s26] at h
    simp only [Bool.and_eq_true, decide_eq_true_eq] at hok
    obtain ⟨hd, rfl⟩ := hok
    split at h
    · rename_i x i k o r
      split at h
      · rename_i hbq
        have ht := Nat.eq_of_beq_eq_true hbq
        have hk : k < mx_kM o := mx_okV_cell (hs _ (by simp)) (mx_aT_lt ht)
        exact sd_iast C (mx_dq_of hd) ht hk h H ls locs hP hS hv hs hlo hc
      · exact h.elim
    · exact h.elim
  · rw [mx_o27] at hok; rw [mx_s27] at h
    simp only [Bool.and_eq_true, decide_eq_true_eq] at hok
    obtain ⟨⟨hd, rfl⟩, hb2⟩ := hok
    split at h
    · rename_i i k o r
      split at h
      · rename_i hbq
        have ht := Nat.eq_of_beq_eq_true hbq
        have hk : k < mx_kM o := mx_okV_cell (hs _ (by simp)) (mx_aT_lt ht)
        exact sd_bald C (mx_dq_of hd) (by omega) hk h H ls locs hP hS hv hs hlo hc
      · exact h.elim
    · exact h.elim
  · rw [mx_o28] at hok; rw [mx_s28] at h
    simp only [Bool.and_eq_true, decide_eq_true_eq] at hok
    obtain ⟨⟨hd, rfl⟩, hb2⟩ := hok
    split at h
    · rename_i x i k o r
      split at h
      · rename_i hbq
        have ht := Nat.eq_of_beq_eq_true hbq
        have hk : k < mx_kM o := mx_okV_cell (hs _ (by simp)) (mx_aT_lt ht)
        exact sd_bast C (mx_dq_of hd) ht hb2 hk h H ls locs hP hS hv hs hlo hc
      · exact h.elim
    · exact h.elim
  · rw [mx_o29] at hok; rw [mx_s29] at h
    simp only [Bool.and_eq_true, decide_eq_true_eq] at hok
    obtain ⟨⟨hd, rfl⟩, hb2⟩ := hok
    split at h
    · rename_i i k o r
      split at h
      · rename_i hbq
        have ht := Nat.eq_of_beq_eq_true hbq
        have hk : k < mx_kM o := mx_okV_cell (hs _ (by simp)) (mx_aT_lt ht)
        exact sd_aald C (mx_dq_of hd) (by omega) hk h H ls locs hP hS hv hs hlo hc
      · exact h.elim
    · exact h.elim
  · rw [mx_o30] at hok; rw [mx_s30] at h
    simp only [Bool.and_eq_true, decide_eq_true_eq] at hok
    obtain ⟨hd, rfl⟩ := hok
    split at h
    · rename_i k o r
      split at h
      · rename_i hbq
        have ht := Nat.eq_of_beq_eq_true hbq
        have hk : k < mx_kM o := mx_okV_cell (hs _ (by simp)) (mx_aT_lt ht)
        exact sd_alen C (mx_dq_of hd) ht hk h H ls locs hP hS hv hs hlo hc
      · exact h.elim
    · exact h.elim
  · rw [mx_o31] at hok; rw [mx_s31] at h
    split at h
    · rename_i hcg
      simp only [Bool.and_eq_true, decide_eq_true_eq] at hok
      obtain ⟨hok, hnl, hnp⟩ := hok
      subst hnp
      unfold mx_cg at hcg
      simp only [Bool.and_eq_true] at hcg
      obtain ⟨hl1, hl2, hwd, hrc⟩ := hcg
      have hl1 : b ≤ stk.length := Nat.le_of_ble_eq_true hl1
      have hl2 : (stk.drop b).length ≤ 4 := Nat.le_of_ble_eq_true hl2
      have hwd : mx_wd (stk.take b).reverse ≤ mx_nl a := by rw [← hnl]; exact Nat.le_of_ble_eq_true hwd
      have hlen : (stk.take b).reverse.length = b := by rw [List.length_reverse, List.length_take]; omega
      have hst := mx_take_drop b stk
      obtain ⟨rr, hY, hOK, hX, hrv, hW⟩ := h
      unfold mx_okc at hok
      rw [Bool.and_eq_true, Bool.and_eq_true] at hok
      obtain ⟨ha, hlk, hok⟩ := hok
      have ha : a < 191 := of_decide_eq_true ha
      have hl : Cond.methodLink (mx_on ow) q (mx_mN a) ∈ lw_gd ∨ va_Nw (.methodLinkNest (mx_on ow) q (mx_mN a) "RailOfHeads") s := by
        have hM : mx_lkM w ow q a = true → Cond.methodLink (mx_on ow) q (mx_mN a) ∈ lw_gd := fun z => by
          have := mx_lkM_of z
          unfold mx_wM at this
          rw [if_neg (by show ¬ a = 1000; omega), if_neg (by show ¬ a = 1001; omega), if_neg (by show ¬ a = 1002; omega), if_neg (by show ¬ a = 1003; omega)] at this
          exact this
        unfold mx_okl at hlk
        split at hlk
        · exact Or.inl (hM hlk)
        · exact Or.inl (hM hlk)
        · exact Or.inr (C.2.2.2.2.2.1.2.2.2.2.2.2.2.2 (ow, q, a) (List.mem_of_getElem? (of_decide_eq_true hlk)))
      have hmk := mx_mck_at ha
      unfold mx_mck at hmk
      simp only [Bool.and_eq_true, decide_eq_true_eq] at hmk
      obtain ⟨hm1, hm2, hm3, hm4⟩ := hmk
      have hm : mx_mok a := ⟨mx_allP_at mx_cdp_all ha, mx_hw_of hm1, hm2, hm3⟩
      revert hok
      split
      · rename_i hpt
        intro hok
        simp only [Bool.and_eq_true, decide_eq_true_eq] at hok
        obtain ⟨hd, hpar, hcl⟩ := hok
        rw [hpt] at hm4
        simp only [Bool.and_eq_true] at hm4
        generalize (stk.take b).reverse = as at hrc hOK hlen hst hwd
        generalize stk.drop b = rest at hl2 hW hst
        generalize mx_nth ts 1 = rc at hrc hcl
        unfold mx_rc at hrc
        split at hrc
        · cases hcl
        · rename_i hrc0
          split at hrc
          · rename_i k o as'
            have hpn : (parseMethodDescriptor (mx_mN a).desc).map (fun d => d.parameters.length) = some as'.length := by
              cases hpd : parseMethodDescriptor (mx_mN a).desc with
              | none => rw [hpd] at hpar; cases hpar
              | some d =>
                rw [hpd] at hpar
                simp only [Option.map_some, Option.some.injEq, List.length_cons] at hpar hlen ⊢
                omega
            have hok0 : mx_okV (Sum.inr (Sum.inr (k, o))) := hs _ (by rw [hst]; simp)
            split at hrc
            · rename_i h10
              have ho : o = mx_oS := Nat.eq_of_beq_eq_true hrc
              have e10 : rc = 10 := Nat.eq_of_beq_eq_true h10
              subst ho
              subst e10
              have hk9 : k < 9 := by
                rcases hok0 with z | ⟨-, z⟩ | z | z
                · exact absurd (mx_kM_lt z) (by decide)
                · exact z
                · exact absurd z (by decide)
                · exact absurd z.2 (by decide)
              have ecl : (mx_mN a).cls = "java/lang/String" := of_decide_eq_true hcl
              refine sd_callV (v0 := Sum.inr (Sum.inr (k, mx_oS))) (as := as') (rest := rest) (ad0 := g.1 k mx_oS) C hY hwd hOK hm hpn (mx_hw_of hm4.1) (mx_hw_of hm4.2) hl (mx_dq_of hd) hl2 hst rfl (fun H locs hP hS => ?_) hX hrv hW H ls locs hP hS hv hs hlo hc
              rw [ecl]
              exact vk_recv (adK := fun k => g.1 k mx_oS) (i := k) C.2.2.2.2.2.1.2.1 hk9 hS
            · rename_i h10
              have ho : mx_cO o = rc := Nat.eq_of_beq_eq_true hrc
              cases rc with
              | zero => exact absurd rfl hrc0
              | succ rc =>
                have hcl : rc < 9 ∧ (mx_cl rc).1 = (mx_mN a).cls := by
                  split at hcl
                  · rename_i z; cases z
                  · rename_i z; cases z; cases h10
                  · rename_i z
                    cases z
                    simp only [Bool.and_eq_true, decide_eq_true_eq] at hcl
                    exact hcl
                have hk : k < mx_kM o := mx_okV_cell hok0 (mx_cO_lt ho)
                refine sd_callV (v0 := Sum.inr (Sum.inr (k, o))) (as := as') (rest := rest) (ad0 := g.1 k o) C hY hwd hOK hm hpn (mx_hw_of hm4.1) (mx_hw_of hm4.2) hl (mx_dq_of hd) hl2 hst (mx_rv_ref hk) (fun H locs hP hS => ?_) hX hrv hW H ls locs hP hS hv hs hlo hc
                obtain ⟨n, hn⟩ := mx_at hk
                have he : (mx_ws g σ)[n]? = some (g.1 k o, .inr (rc, (List.range (mx_nf o)).map (mx_fv g σ k o))) := by rw [mx_ws_at hn, mx_obj ho]
                rw [← hcl.2]
                exact va_recv C.2.2.2.2.2.1.1 hP (mx_cl_at hcl.1) he
          · cases hrc
      · rename_i hpt
        intro hok
        simp only [Bool.and_eq_true, decide_eq_true_eq] at hok
        obtain ⟨hd, hpar⟩ := hok
        split at hm4
        · rename_i z; exact absurd z hpt
        · exact sd_callS (as := (stk.take b).reverse) (rest := stk.drop b) C hY hwd hOK hm (by rw [hlen]; exact hpar) (mx_hw_of hm4) hl (mx_dq_of hd) hl2 hst hX hrv hW H ls locs hP hS hv hs hlo hc
    · exact h.elim
  · rw [mx_o32] at hok; rw [mx_s32] at h
    simp only [Bool.and_eq_true, decide_eq_true_eq] at hok
    obtain ⟨hd, hr⟩ := hok
    split at h
    · rename_i x
      split at h
      · exact hKR (some (Sum.inl x)) σ H ls locs h hP hS ⟨mx_dq_of hd, _, hr, rfl⟩
      · rename_i hb0
        unfold mx_z at h
        split at h
        · rename_i hz
          refine hKR (some (Sum.inl x)) σ H ls locs h hP hS ⟨mx_dq_of hd, _, hr, ?_⟩
          split at hz
          · exact (mx_nbool hz).1
          · exact mx_nchar hz
          · rename_i h1 h2
            split
            · rename_i z; exact absurd rfl hb0
            · rename_i z; exact absurd rfl h1
            · rename_i z; exact absurd rfl h2
            · exact mx_nbyte hz
        · exact h.elim
    · exact h.elim
  · rw [mx_o33] at hok; rw [mx_s33] at h
    simp only [Bool.and_eq_true, decide_eq_true_eq] at hok
    obtain ⟨hd, hr⟩ := hok
    split at h
    · rename_i x
      exact hKR (some (Sum.inr (Sum.inl x))) σ H ls locs h hP hS ⟨mx_dq_of hd, hr⟩
    · exact h.elim
  · rw [mx_o34] at hok; rw [mx_s34] at h
    simp only [Bool.and_eq_true, decide_eq_true_eq] at hok
    obtain ⟨hd, hr⟩ := hok
    split at h
    · exact hKR none σ H ls locs h hP hS ⟨mx_dq_of hd, hr⟩
    · exact h.elim
  · rw [mx_o35] at hok; rw [mx_s35] at h
    simp only [Bool.and_eq_true, decide_eq_true_eq] at hok
    obtain ⟨hd, ho, ha, hp, rfl⟩ := hok
    exact sd_ldcS C (by rw [ho]; rfl) ha hp (mx_dq_of hd) h H ls locs hP hS hv hs hlo hc
  · rw [mx_o36] at hok; rw [mx_s36] at h
    simp only [Bool.and_eq_true, decide_eq_true_eq] at hok
    obtain ⟨hd, hl, rfl⟩ := hok
    split at h
    · rename_i n dp k1 o1 sp k o r
      split at h
      · rename_i h1 h2
        have ht := Nat.eq_of_beq_eq_true h1
        have ht1 := Nat.eq_of_beq_eq_true h2
        have hk : k < mx_kM o := mx_okV_cell (hs _ (by simp)) (mx_aT_lt ht)
        have hk1 : k1 < mx_kM o1 := mx_okV_cell (hs _ (by simp)) (mx_aT_lt ht1)
        split at h
        · rename_i h4
          exact sd_copy C (mx_dq_of hd) (mx_lkM_of hl) mx_acw.1 mx_acw.2.1 mx_acw.2.2 ht ht1 hk hk1 (Nat.le_of_ble_eq_true h4) h H ls locs hP hS hv hs hlo hc
        · exact h.elim
      · exact h.elim
    · exact h.elim
  · rw [mx_o37] at hok; rw [mx_s37] at h
    simp only [Bool.and_eq_true, decide_eq_true_eq] at hok
    obtain ⟨hd, hl, rfl⟩ := hok
    exact sd_gets1 C (mx_dq_of hd) (mx_lkF_of hl).1 h H ls locs hP hS hv hs hlo hc
  · rw [mx_o38] at hok; rw [mx_s38] at h
    simp only [Bool.and_eq_true, decide_eq_true_eq] at hok
    obtain ⟨hd, hl, rfl⟩ := hok
    exact sd_gets2 C (mx_dq_of hd) (mx_lkF_of hl).1 h H ls locs hP hS hv hs hlo hc
  · rw [mx_o39] at hok; rw [mx_s39] at h
    simp only [Bool.and_eq_true, decide_eq_true_eq] at hok
    obtain ⟨hd, hl, rfl⟩ := hok
    split at h
    · rename_i k o r
      split at h
      · rename_i hbq
        have ho : o = mx_oS := Nat.eq_of_beq_eq_true hbq
        subst ho
        have hk9 : k < 9 := by
          rcases hs _ List.mem_cons_self with z | ⟨-, z⟩ | z | z
          · exact absurd (mx_kM_lt z) (by decide)
          · exact z
          · exact absurd z (by decide)
          · exact absurd z.2 (by decide)
        split at h
        · exact sd_sval C hk9 (mx_dq_of hd) (mx_lkF_of hl).1 h H ls locs hP hS hv hs hlo hc
        · rename_i hb0
          refine sd_scod C hk9 (mx_dq_of hd) ?_ h H ls locs hP hS hv hs hlo hc
          split at hl
          · exact absurd rfl hb0
          · exact (mx_lkF_of hl).1
      · exact h.elim
    · exact h.elim
  · rw [mx_o40] at hok; rw [mx_s40] at h
    simp only [Bool.and_eq_true, decide_eq_true_eq] at hok
    obtain ⟨hd, rfl⟩ := hok
    split at h
    · rename_i k o r
      split at h
      · rename_i hbq
        have ho : o = mx_oB := Nat.eq_of_beq_eq_true hbq
        subst ho
        have hk9 : k < 9 := by
          rcases hs _ List.mem_cons_self with z | ⟨-, z⟩ | z | z
          · exact absurd (mx_kM_lt z) (by decide)
          · exact z
          · exact absurd z (by decide)
          · exact absurd z.2 (by decide)
        exact sd_slen C hk9 (mx_dq_of hd) h H ls locs hP hS hv hs hlo hc
      · exact h.elim
    · exact h.elim
  · rw [mx_o41] at hok; rw [mx_s41] at h
    simp only [Bool.and_eq_true, decide_eq_true_eq] at hok
    obtain ⟨hd, rfl⟩ := hok
    split at h
    · rename_i i k o r
      split at h
      · rename_i hbq
        have ho : o = mx_oB := Nat.eq_of_beq_eq_true hbq
        subst ho
        have hk9 : k < 9 := by
          rcases hs _ (List.mem_cons_of_mem _ List.mem_cons_self) with z | ⟨-, z⟩ | z | z
          · exact absurd (mx_kM_lt z) (by decide)
          · exact z
          · exact absurd z (by decide)
          · exact absurd z.2 (by decide)
        exact sd_sbyt C hk9 (mx_dq_of hd) h H ls locs hP hS hv hs hlo hc
      · exact h.elim
    · exact h.elim
  · rw [mx_o42] at hok; rw [mx_s42] at h
    simp only [Bool.and_eq_true, decide_eq_true_eq] at hok
    obtain ⟨hd, rfl⟩ := hok
    split at h
    · exact sd_pop C (mx_dq_of hd) h H ls locs hP hS hv hs hlo hc
    · exact h.elim
  · rw [mx_o43] at hok; rw [mx_s43] at h
    simp only [Bool.and_eq_true, decide_eq_true_eq] at hok
    obtain ⟨hd, rfl⟩ := hok
    split at h
    · rename_i i o r
      split at h
      · rename_i hbq
        have ho : o = mx_oX := Nat.eq_of_beq_eq_true hbq
        subst ho
        exact sd_xld C (mx_dq_of hd) h H ls locs hP hS hv hs hlo hc
      · exact h.elim
    · exact h.elim
  · rw [mx_o44] at hok; rw [mx_s44] at h
    simp only [Bool.and_eq_true, decide_eq_true_eq] at hok
    obtain ⟨hd, rfl⟩ := hok
    split at h
    · rename_i o r
      split at h
      · rename_i hbq
        have ho : o = mx_oX := Nat.eq_of_beq_eq_true hbq
        subst ho
        exact sd_xlen C (mx_dq_of hd) h H ls locs hP hS hv hs hlo hc
      · exact h.elim
    · exact h.elim
  · rw [mx_o45] at hok; rw [mx_s45] at h
    split at h
    · have ht : tg (a + 1) = pc := of_decide_eq_true hok
      rw [ht] at h
      exact h H ls locs hP hS ⟨hv.1, hv.2.1, fun i v hi => hv.2.2 i v (mx_lo_kp hi)⟩ hs (fun i v hi => hlo i v (mx_lo_kp hi)) hc
    · exact h.elim
  · rw [mx_o46] at hok; rw [mx_s46] at h
    simp only [Bool.and_eq_true, decide_eq_true_eq] at hok
    obtain ⟨hd, hl, rfl⟩ := hok
    split at h
    · split at h
      · rename_i h4
        split at h
        · exact sd_mmin C (mx_dq_of hd) (mx_lkM_of hl) (Nat.le_of_ble_eq_true h4) h H ls locs hP hS hv hs hlo hc
        · rename_i hb0
          refine sd_mmax C (mx_dq_of hd) ?_ (Nat.le_of_ble_eq_true h4) h H ls locs hP hS hv hs hlo hc
          split at hl
          · exact absurd rfl hb0
          · exact mx_lkM_of hl
      · exact h.elim
    · exact h.elim
  · rw [mx_o47] at hok; rw [mx_s47] at h
    simp only [Bool.and_eq_true, decide_eq_true_eq] at hok
    obtain ⟨hd, hl, rfl⟩ := hok
    split at h
    · split at h
      · rename_i h4
        exact sd_mabs C (mx_dq_of hd) (mx_lkM_of hl) (Nat.le_of_ble_eq_true h4) h H ls locs hP hS hv hs hlo hc
      · exact h.elim
    · exact h.elim
  · rw [show mx_step (fun lo st σ => mx_W p l e R s m args below meth c cells slots Q nL g L xs npc lo st σ) (fun t lo st σ => mx_W p l e R s m args below meth c cells slots Q nL g L xs (tg t) lo st σ) KR (fun y' _ as lo st σ => ∃ rr : mx_Rt, y' < Y ∧ mx_OK l y' as σ rr ∧ (∀ k j, rr.2 k mx_oX j = σ k mx_oX j) ∧ (∀ v, rr.1 = some v → mx_okV v) ∧ mx_W p l e R s m args below meth c cells slots Q nL g L xs npc lo (rr.1.toList ++ st) rr.2) (fun hh lo σ => mx_W p l e R s m args below meth c cells slots Q nL g L xs (tg (hh + 1)) lo [] σ) False (op + 48, im, jm, a, b, ts) loc stk σ = False from rfl] at h
    exact h.elim
end St
