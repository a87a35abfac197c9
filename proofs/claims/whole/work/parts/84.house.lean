def dx_hs (h0 : Nat) (p w c : Nat → Nat) (j : Nat) : Nat := if j = 0 then h0 else if j < 13 then p (j - 1) else if j < 16 then w (j - 13) else c (j - 16)
def hsW (d : Nat → ClassId) (a : Nat → Nat) : va_W := (a 0, .inr (2, [.ref (a 1), .ref (a 13), .ref (a 16)])) :: (wCrowd d (a 1) (a 13) (fun j => a (j + 16)) ++ (wWays d (fun j => a (j + 13)) ++ (wPlan d (fun j => a (j + 1)) ++ [])))
theorem dX2_init_0 : decode cX2_init 0 = .ok (.aload_n 0, 1) := by decide +kernel
theorem dX2_init_1 : decode cX2_init 1 = .ok (.invokespecial 1, 3) := by decide +kernel
theorem dX2_init_4 : decode cX2_init 4 = .ok (.aload_n 0, 1) := by decide +kernel
theorem dX2_init_5 : decode cX2_init 5 = .ok (.new 7, 3) := by decide +kernel
theorem dX2_init_8 : decode cX2_init 8 = .ok (.dup, 1) := by decide +kernel
theorem dX2_init_9 : decode cX2_init 9 = .ok (.invokespecial 9, 3) := by decide +kernel
theorem dX2_init_12 : decode cX2_init 12 = .ok (.putfield 10, 3) := by decide +kernel
theorem dX2_init_15 : decode cX2_init 15 = .ok (.aload_n 0, 1) := by decide +kernel
theorem dX2_init_16 : decode cX2_init 16 = .ok (.new 16, 3) := by decide +kernel
theorem dX2_init_19 : decode cX2_init 19 = .ok (.dup, 1) := by decide +kernel
theorem dX2_init_20 : decode cX2_init 20 = .ok (.invokespecial 18, 3) := by decide +kernel
theorem dX2_init_23 : decode cX2_init 23 = .ok (.putfield 19, 3) := by decide +kernel
theorem dX2_init_26 : decode cX2_init 26 = .ok (.aload_n 0, 1) := by decide +kernel
theorem dX2_init_27 : decode cX2_init 27 = .ok (.new 23, 3) := by decide +kernel
theorem dX2_init_30 : decode cX2_init 30 = .ok (.dup, 1) := by decide +kernel
theorem dX2_init_31 : decode cX2_init 31 = .ok (.aload_n 0, 1) := by decide +kernel
theorem dX2_init_32 : decode cX2_init 32 = .ok (.getfield 10, 3) := by decide +kernel
theorem dX2_init_35 : decode cX2_init 35 = .ok (.aload_n 0, 1) := by decide +kernel
theorem dX2_init_36 : decode cX2_init 36 = .ok (.getfield 19, 3) := by decide +kernel
theorem dX2_init_39 : decode cX2_init 39 = .ok (.invokespecial 25, 3) := by decide +kernel
theorem dX2_init_42 : decode cX2_init 42 = .ok (.putfield 28, 3) := by decide +kernel
theorem dX2_init_45 : decode cX2_init 45 = .ok (.return_, 1) := by decide +kernel
set_option maxRecDepth 100000 in
set_option maxHeartbeats 8000000 in
theorem k_X2 (l : Launch) (D : va_G) (d : Nat → ClassId) : dx_C l yX2_init cX2_init 1 { frames := 4, cells := 27, slots := 682, locals := 100 } D d [] (.inr (2, [.null, .null, .null])) (S := Nat → Nat) (fun q a => a 0 = q) (hsW d) 27 682 := by
  intro h0 sz
  refine Met.ofW (cc := cX2_init) (maxL := 1) (ret := none) (by decide) rfl ?_
  intro p e s m args below meth c s₁ B hml hv
  obtain ⟨rfl, hsz, hP, hK⟩ := hv
  have hx := B.exec
  have hb := B.bytes
  have hr := B.returns
  have hts : ∀ w ∈ lw_gd, w.before _ s = true := fun w hw => atoms_spec (ws := Cond.code yX2_init cX2_init 1 none :: lw_gd) B.pre w (List.mem_cons_of_mem _ hw)
  have hown : s.vm.findClass RX2 = some m.cls := findClass_of_methodNamed B.named
  have hlocks := B.notSynchronized
  have hin : meth.name = "<init>" := (name_of_methodNamed B.named B.method).1
  subst hsz
  have hD : va_D (va_A [(h0, .inr (2, [.null, .null, .null]))] s.heap.size) [(h0, .inr (2, [.null, .null, .null]))] := dx_D1
  generalize hAe : va_A [(h0, .inr (2, [.null, .null, .null]))] s.heap.size = A at hD ⊢
  have hA : ∀ q : Nat, s.heap.size ≤ q → A q := fun q h => by rw [← hAe]; exact Or.inr h
  have hS : va_S A s.heap s.heap [] := va_S.rf
  have hl := lv_entry ([.ref h0]) (n := 1) (Nat.le_of_ble_eq_true rfl)
  rw [lg_entry_eq]
  generalize (lg_sl ([.ref h0]) ++ List.replicate (1 - (lg_sl ([.ref h0])).length) Slot.unset).toArray = ls at hl ⊢
  have hl : lv_has ls 1 [(0, .ref h0)] := hl
  refine lv_aload_n hx hb dX2_init_0 rfl (lv_at hl 0 rfl) ?_
  refine dx_obj (own := RX2) dxw_159 hown hx hb hts hml hl.1 (Nat.le_of_ble_eq_true rfl) (Nat.le_of_ble_eq_true rfl) dX2_init_1 ?_
  refine lv_aload_n hx hb dX2_init_4 rfl (lv_at hl 0 rfl) ?_
  refine dx_new (own := RX2) (d := d) (k1 := 1) (n1 := 18) 3 (by decide) (fs := [.int 0, .int 0, .int 0, .null, .int 0, .null, .null, .null, .int 0, .null, .null, .null, .int 0, .null, .null, .null, .null, .int 0]) dx_df3 dxw_160 dxw_161 dxw_95 hown hx hb hts hK hP hD hS hA rfl rfl (Nat.le_of_ble_eq_true rfl) (Nat.le_of_ble_eq_true rfl) dX2_init_5 (fun q1 H hP hD hS => ?_)
  refine lv_dup hx hb dX2_init_8 rfl ?_
  refine dx_call (As := []) (st := [.ref q1, .ref q1, .ref h0]) (rest := [.ref q1, .ref h0]) (k1 := 12) (n1 := 99) (own := RX2) (k_X3 l D d) (Or.inr (hK.2.2 (RX2, 9, yX3_init) (List.mem_of_getElem? (i := 2) rfl))) dx_cw3 dxw_95 dxw_163 rfl ⟨by decide, by decide, dx_na3⟩ ⟨rfl, rfl⟩ ⟨Nat.le_of_ble_eq_true rfl, Nat.le_of_ble_eq_true rfl⟩ hown hx hb hts hml hl.1 hK hP hD hS hA rfl rfl (Nat.le_of_ble_eq_true rfl) (Nat.le_of_ble_eq_true rfl) rfl (Nat.le_of_ble_eq_true rfl) dX2_init_9 (fun u1 H2 locs2 hw hP2 hD2 hS2 => ?_)
  have hw : u1 0 = q1 := hw
  subst hw
  have hP := hP2
  have hD := hD2
  have hS := hS2
  have hP := dx_insP1 hP
  have hD := dx_insD1 hD
  have hP : va_P D vwCl ((h0, .inr (2, [.null, .null, .null])) :: (wPlan d u1 ++ [])) _ := hP
  have hD : va_D A ((h0, .inr (2, [.null, .null, .null])) :: (wPlan d u1 ++ [])) := hD
  refine dx_putF (own := RX2) 2 0 (by decide) (by decide) dxw_342 (by decide +kernel) (by decide +kernel) (v := .ref (u1 0)) (by rw [dx_ty2_0]; rfl) (by rw [dx_ty2_0]; rfl) hown hin hx hb hts hK hP hD hS 0 (fs := [.null, .null, .null]) rfl (Nat.le_of_ble_eq_true rfl) dX2_init_12 (fun H locs hP hD hS => ?_)
  have hP : va_P D vwCl ((h0, .inr (2, [.ref (u1 0), .null, .null])) :: (wPlan d u1 ++ [])) _ := hP
  have hD : va_D A ((h0, .inr (2, [.ref (u1 0), .null, .null])) :: (wPlan d u1 ++ [])) := hD
  refine lv_aload_n hx hb dX2_init_15 rfl (lv_at hl 0 rfl) ?_
  refine dx_new (own := RX2) (d := d) (k1 := 13) (n1 := 101) 6 (by decide) (fs := [.null, .null]) dx_df6 dxw_259 dxw_260 dxw_96 hown hx hb hts hK hP hD hS hA rfl rfl (Nat.le_of_ble_eq_true rfl) (Nat.le_of_ble_eq_true rfl) dX2_init_16 (fun q2 H hP hD hS => ?_)
  refine lv_dup hx hb dX2_init_19 rfl ?_
  refine dx_call (As := []) (st := [.ref q2, .ref q2, .ref h0]) (rest := [.ref q2, .ref h0]) (k1 := 15) (n1 := 173) (own := RX2) (k_X6 l D d) (Or.inr (hK.2.2 (RX2, 18, yX6_init) (List.mem_of_getElem? (i := 3) rfl))) dx_cw6 dxw_96 dxw_262 rfl ⟨by decide, by decide, dx_na6⟩ ⟨rfl, rfl⟩ ⟨Nat.le_of_ble_eq_true rfl, Nat.le_of_ble_eq_true rfl⟩ hown hx hb hts hml hl.1 hK hP hD hS hA rfl rfl (Nat.le_of_ble_eq_true rfl) (Nat.le_of_ble_eq_true rfl) rfl (Nat.le_of_ble_eq_true rfl) dX2_init_20 (fun u2 H2 locs2 hw hP2 hD2 hS2 => ?_)
  have hw : u2 0 = q2 := hw
  subst hw
  have hP := hP2
  have hD := hD2
  have hS := hS2
  have hP := dx_insP1 hP
  have hD := dx_insD1 hD
  have hP : va_P D vwCl ((h0, .inr (2, [.ref (u1 0), .null, .null])) :: (wWays d u2 ++ (wPlan d u1 ++ []))) _ := hP
  have hD : va_D A ((h0, .inr (2, [.ref (u1 0), .null, .null])) :: (wWays d u2 ++ (wPlan d u1 ++ []))) := hD
  refine dx_putF (own := RX2) 2 1 (by decide) (by decide) dxw_344 (by decide +kernel) (by decide +kernel) (v := .ref (u2 0)) (by rw [dx_ty2_1]; rfl) (by rw [dx_ty2_1]; rfl) hown hin hx hb hts hK hP hD hS 0 (fs := [.ref (u1 0), .null, .null]) rfl (Nat.le_of_ble_eq_true rfl) dX2_init_23 (fun H locs hP hD hS => ?_)
  have hP : va_P D vwCl ((h0, .inr (2, [.ref (u1 0), .ref (u2 0), .null])) :: (wWays d u2 ++ (wPlan d u1 ++ []))) _ := hP
  have hD : va_D A ((h0, .inr (2, [.ref (u1 0), .ref (u2 0), .null])) :: (wWays d u2 ++ (wPlan d u1 ++ []))) := hD
  refine lv_aload_n hx hb dX2_init_26 rfl (lv_at hl 0 rfl) ?_
  refine dx_new (own := RX2) (d := d) (k1 := 16) (n1 := 188) 1 (by decide) (fs := [.null, .null, .int 0, .int 0, .null, .null, .null, .null, .null, .null, .null, .null, .null, .null, .null]) dx_df1 dxw_275 dxw_276 dxw_97 hown hx hb hts hK hP hD hS hA rfl rfl (Nat.le_of_ble_eq_true rfl) (Nat.le_of_ble_eq_true rfl) dX2_init_27 (fun q3 H hP hD hS => ?_)
  refine lv_dup hx hb dX2_init_30 rfl ?_
  refine lv_aload_n hx hb dX2_init_31 rfl (lv_at hl 0 rfl) ?_
  refine dx_get (own := RX2) 2 0 (by decide) (by decide) dxw_342 hown hx hb hts hK hP 0 (fs := [.ref (u1 0), .ref (u2 0), .null]) rfl (v := .ref (u1 0)) rfl dX2_init_32 ?_
  refine lv_aload_n hx hb dX2_init_35 rfl (lv_at hl 0 rfl) ?_
  refine dx_get (own := RX2) 2 1 (by decide) (by decide) dxw_344 hown hx hb hts hK hP 0 (fs := [.ref (u1 0), .ref (u2 0), .null]) rfl (v := .ref (u2 0)) rfl dX2_init_36 ?_
  refine dx_call (As := [.ref (u1 0), .ref (u2 0)]) (st := [.ref (u2 0), .ref (u1 0), .ref q3, .ref q3, .ref h0]) (rest := [.ref q3, .ref h0]) (k1 := 27) (n1 := 682) (own := RX2) (k_X1 l D d (u1 0) (u2 0)) (Or.inl dxw_277) dx_cw1 dxw_97 dxw_278 rfl ⟨by decide, by decide, dx_na1⟩ ⟨rfl, rfl⟩ ⟨Nat.le_of_ble_eq_true rfl, Nat.le_of_ble_eq_true rfl⟩ hown hx hb hts hml hl.1 hK hP hD hS hA rfl rfl (Nat.le_of_ble_eq_true rfl) (Nat.le_of_ble_eq_true rfl) rfl (Nat.le_of_ble_eq_true rfl) dX2_init_39 (fun u3 H2 locs2 hw hP2 hD2 hS2 => ?_)
  have hw : u3 0 = q3 := hw
  subst hw
  have hP := hP2
  have hD := hD2
  have hS := hS2
  have hP := dx_insP1 hP
  have hD := dx_insD1 hD
  have hP : va_P D vwCl ((h0, .inr (2, [.ref (u1 0), .ref (u2 0), .null])) :: (wCrowd d (u1 0) (u2 0) u3 ++ (wWays d u2 ++ (wPlan d u1 ++ [])))) _ := hP
  have hD : va_D A ((h0, .inr (2, [.ref (u1 0), .ref (u2 0), .null])) :: (wCrowd d (u1 0) (u2 0) u3 ++ (wWays d u2 ++ (wPlan d u1 ++ [])))) := hD
  refine dx_putF (own := RX2) 2 2 (by decide) (by decide) dxw_346 (by decide +kernel) (by decide +kernel) (v := .ref (u3 0)) (by rw [dx_ty2_2]; rfl) (by rw [dx_ty2_2]; rfl) hown hin hx hb hts hK hP hD hS 0 (fs := [.ref (u1 0), .ref (u2 0), .null]) rfl (Nat.le_of_ble_eq_true rfl) dX2_init_42 (fun H locs hP hD hS => ?_)
  have hP : va_P D vwCl ((h0, .inr (2, [.ref (u1 0), .ref (u2 0), .ref (u3 0)])) :: (wCrowd d (u1 0) (u2 0) u3 ++ (wWays d u2 ++ (wPlan d u1 ++ [])))) _ := hP
  have hD : va_D A ((h0, .inr (2, [.ref (u1 0), .ref (u2 0), .ref (u3 0)])) :: (wCrowd d (u1 0) (u2 0) u3 ++ (wWays d u2 ++ (wPlan d u1 ++ [])))) := hD
  have hP9 : va_P D vwCl (hsW d (dx_hs h0 u1 u2 u3)) _ := hP
  have hD9 : va_D A (hsW d (dx_hs h0 u1 u2 u3)) := hD
  exact W.vret hx hb hr (fun t ht hW => ⟨⟨(dx_hs h0 u1 u2 u3), rfl, rfl, by rw [ht]; exact hP9, hD9⟩, hS.F ht⟩) hS.2.2 dX2_init_45
