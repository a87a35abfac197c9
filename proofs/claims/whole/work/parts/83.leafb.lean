def wRead (d : Nat → ClassId) (a : Nat → Nat) : va_W := [(a 0, .inr (4, [.ref (a 1), .int 0, .int 0, .int 0, .int 0, .int 0, .int 0, .null])), (a 1, .inl (d 2, 400, .inl (fun _ => 0)))]
theorem dX4_init_0 : decode cX4_init 0 = .ok (.aload_n 0, 1) := by decide +kernel
theorem dX4_init_1 : decode cX4_init 1 = .ok (.invokespecial 3, 3) := by decide +kernel
theorem dX4_init_4 : decode cX4_init 4 = .ok (.aload_n 0, 1) := by decide +kernel
theorem dX4_init_5 : decode cX4_init 5 = .ok (.sipush 400, 3) := by decide +kernel
theorem dX4_init_8 : decode cX4_init 8 = .ok (.newarray .byte, 2) := by decide +kernel
theorem dX4_init_10 : decode cX4_init 10 = .ok (.putfield 9, 3) := by decide +kernel
theorem dX4_init_13 : decode cX4_init 13 = .ok (.return_, 1) := by decide +kernel
set_option maxRecDepth 100000 in
set_option maxHeartbeats 8000000 in
theorem k_X4 (l : Launch) (D : va_G) (d : Nat → ClassId) : dx_C l yX4_init cX4_init 1 { frames := 2, cells := 1, slots := 400, locals := 40 } D d [] (.inr (4, [.null, .int 0, .int 0, .int 0, .int 0, .int 0, .int 0, .null])) (S := Nat → Nat) (fun q a => a 0 = q) (wRead d) 1 400 := by
  intro h0 sz
  refine Met.ofW (cc := cX4_init) (maxL := 1) (ret := none) (by decide) rfl ?_
  intro p e s m args below meth c s₁ B hml hv
  obtain ⟨rfl, hsz, hP, hK⟩ := hv
  have hx := B.exec
  have hb := B.bytes
  have hr := B.returns
  have hts : ∀ w ∈ lw_gd, w.before _ s = true := fun w hw => atoms_spec (ws := Cond.code yX4_init cX4_init 1 none :: lw_gd) B.pre w (List.mem_cons_of_mem _ hw)
  have hown : s.vm.findClass RX4 = some m.cls := findClass_of_methodNamed B.named
  have hlocks := B.notSynchronized
  have hin : meth.name = "<init>" := (name_of_methodNamed B.named B.method).1
  subst hsz
  have hD : va_D (va_A [(h0, .inr (4, [.null, .int 0, .int 0, .int 0, .int 0, .int 0, .int 0, .null]))] s.heap.size) [(h0, .inr (4, [.null, .int 0, .int 0, .int 0, .int 0, .int 0, .int 0, .null]))] := dx_D1
  generalize hAe : va_A [(h0, .inr (4, [.null, .int 0, .int 0, .int 0, .int 0, .int 0, .int 0, .null]))] s.heap.size = A at hD ⊢
  have hA : ∀ q : Nat, s.heap.size ≤ q → A q := fun q h => by rw [← hAe]; exact Or.inr h
  have hS : va_S A s.heap s.heap [] := va_S.rf
  have hl := lv_entry ([.ref h0]) (n := 1) (Nat.le_of_ble_eq_true rfl)
  rw [lg_entry_eq]
  generalize (lg_sl ([.ref h0]) ++ List.replicate (1 - (lg_sl ([.ref h0])).length) Slot.unset).toArray = ls at hl ⊢
  have hl : lv_has ls 1 [(0, .ref h0)] := hl
  refine lv_aload_n hx hb dX4_init_0 rfl (lv_at hl 0 rfl) ?_
  refine dx_obj (own := RX4) dxw_124 hown hx hb hts hml hl.1 (Nat.le_of_ble_eq_true rfl) (Nat.le_of_ble_eq_true rfl) dX4_init_1 ?_
  refine lv_aload_n hx hb dX4_init_4 rfl (lv_at hl 0 rfl) ?_
  refine lv_sipush (v := 400) hx hb dX4_init_5 (by decide) ?_
  refine dx_newb (d := d) (N := 400) (k1 := 1) (n1 := 400) hx hb hts hK hP hD hS hA (by decide) (by decide) (by decide) rfl rfl (Nat.le_of_ble_eq_true rfl) (Nat.le_of_ble_eq_true rfl) dX4_init_8 (fun q1 H hP hD hS => ?_)
  have hP := dx_insP1 hP
  have hD := dx_insD1 hD
  have hP : va_P D vwCl ((h0, .inr (4, [.null, .int 0, .int 0, .int 0, .int 0, .int 0, .int 0, .null])) :: ((q1, .inl (d 2, 400, .inl (fun _ => 0))) :: [])) _ := hP
  have hD : va_D A ((h0, .inr (4, [.null, .int 0, .int 0, .int 0, .int 0, .int 0, .int 0, .null])) :: ((q1, .inl (d 2, 400, .inl (fun _ => 0))) :: [])) := hD
  refine dx_putF (own := RX4) 4 0 (by decide) (by decide) dxw_125 (by decide +kernel) (by decide +kernel) (v := .ref q1) (by rw [dx_ty4_0]; rfl) (by rw [dx_ty4_0]; rfl) hown hin hx hb hts hK hP hD hS 0 (fs := [.null, .int 0, .int 0, .int 0, .int 0, .int 0, .int 0, .null]) rfl (Nat.le_of_ble_eq_true rfl) dX4_init_10 (fun H locs hP hD hS => ?_)
  have hP : va_P D vwCl ((h0, .inr (4, [.ref q1, .int 0, .int 0, .int 0, .int 0, .int 0, .int 0, .null])) :: ((q1, .inl (d 2, 400, .inl (fun _ => 0))) :: [])) _ := hP
  have hD : va_D A ((h0, .inr (4, [.ref q1, .int 0, .int 0, .int 0, .int 0, .int 0, .int 0, .null])) :: ((q1, .inl (d 2, 400, .inl (fun _ => 0))) :: [])) := hD
  have hP9 : va_P D vwCl (wRead d (dx_ad [h0, q1])) _ := hP
  have hD9 : va_D A (wRead d (dx_ad [h0, q1])) := hD
  exact W.vret hx hb hr (fun t ht hW => ⟨⟨dx_ad [h0, q1], rfl, rfl, by rw [ht]; exact hP9, hD9⟩, hS.F ht⟩) hS.2.2 dX4_init_13
def wRow (d : Nat → ClassId) (a : Nat → Nat) : va_W := [(a 0, .inr (5, [.ref (a 1), .int 1, .int 0, .int 0])), (a 1, .inl (d 1, 40, .inl (fun _ => 0)))]
theorem dX5_init_0 : decode cX5_init 0 = .ok (.aload_n 0, 1) := by decide +kernel
theorem dX5_init_1 : decode cX5_init 1 = .ok (.invokespecial 3, 3) := by decide +kernel
theorem dX5_init_4 : decode cX5_init 4 = .ok (.aload_n 0, 1) := by decide +kernel
theorem dX5_init_5 : decode cX5_init 5 = .ok (.bipush 40, 2) := by decide +kernel
theorem dX5_init_7 : decode cX5_init 7 = .ok (.newarray .int, 2) := by decide +kernel
theorem dX5_init_9 : decode cX5_init 9 = .ok (.putfield 9, 3) := by decide +kernel
theorem dX5_init_12 : decode cX5_init 12 = .ok (.aload_n 0, 1) := by decide +kernel
theorem dX5_init_13 : decode cX5_init 13 = .ok (.iconst 1, 1) := by decide +kernel
theorem dX5_init_14 : decode cX5_init 14 = .ok (.putfield 15, 3) := by decide +kernel
theorem dX5_init_17 : decode cX5_init 17 = .ok (.return_, 1) := by decide +kernel
set_option maxRecDepth 100000 in
set_option maxHeartbeats 8000000 in
theorem k_X5 (l : Launch) (D : va_G) (d : Nat → ClassId) : dx_C l yX5_init cX5_init 1 { frames := 2, cells := 1, slots := 40, locals := 40 } D d [] (.inr (5, [.null, .int 0, .int 0, .int 0])) (S := Nat → Nat) (fun q a => a 0 = q) (wRow d) 1 40 := by
  intro h0 sz
  refine Met.ofW (cc := cX5_init) (maxL := 1) (ret := none) (by decide) rfl ?_
  intro p e s m args below meth c s₁ B hml hv
  obtain ⟨rfl, hsz, hP, hK⟩ := hv
  have hx := B.exec
  have hb := B.bytes
  have hr := B.returns
  have hts : ∀ w ∈ lw_gd, w.before _ s = true := fun w hw => atoms_spec (ws := Cond.code yX5_init cX5_init 1 none :: lw_gd) B.pre w (List.mem_cons_of_mem _ hw)
  have hown : s.vm.findClass RX5 = some m.cls := findClass_of_methodNamed B.named
  have hlocks := B.notSynchronized
  have hin : meth.name = "<init>" := (name_of_methodNamed B.named B.method).1
  subst hsz
  have hD : va_D (va_A [(h0, .inr (5, [.null, .int 0, .int 0, .int 0]))] s.heap.size) [(h0, .inr (5, [.null, .int 0, .int 0, .int 0]))] := dx_D1
  generalize hAe : va_A [(h0, .inr (5, [.null, .int 0, .int 0, .int 0]))] s.heap.size = A at hD ⊢
  have hA : ∀ q : Nat, s.heap.size ≤ q → A q := fun q h => by rw [← hAe]; exact Or.inr h
  have hS : va_S A s.heap s.heap [] := va_S.rf
  have hl := lv_entry ([.ref h0]) (n := 1) (Nat.le_of_ble_eq_true rfl)
  rw [lg_entry_eq]
  generalize (lg_sl ([.ref h0]) ++ List.replicate (1 - (lg_sl ([.ref h0])).length) Slot.unset).toArray = ls at hl ⊢
  have hl : lv_has ls 1 [(0, .ref h0)] := hl
  refine lv_aload_n hx hb dX5_init_0 rfl (lv_at hl 0 rfl) ?_
  refine dx_obj (own := RX5) dxw_378 hown hx hb hts hml hl.1 (Nat.le_of_ble_eq_true rfl) (Nat.le_of_ble_eq_true rfl) dX5_init_1 ?_
  refine lv_aload_n hx hb dX5_init_4 rfl (lv_at hl 0 rfl) ?_
  refine lv_bipush (v := 40) hx hb dX5_init_5 (by decide) ?_
  refine dx_newi (d := d) (N := 40) (k1 := 1) (n1 := 40) hx hb hts hK hP hD hS hA (by decide) (by decide) (by decide) rfl rfl (Nat.le_of_ble_eq_true rfl) (Nat.le_of_ble_eq_true rfl) dX5_init_7 (fun q1 H hP hD hS => ?_)
  have hP := dx_insP1 hP
  have hD := dx_insD1 hD
  have hP : va_P D vwCl ((h0, .inr (5, [.null, .int 0, .int 0, .int 0])) :: ((q1, .inl (d 1, 40, .inl (fun _ => 0))) :: [])) _ := hP
  have hD : va_D A ((h0, .inr (5, [.null, .int 0, .int 0, .int 0])) :: ((q1, .inl (d 1, 40, .inl (fun _ => 0))) :: [])) := hD
  refine dx_putF (own := RX5) 5 0 (by decide) (by decide) dxw_379 (by decide +kernel) (by decide +kernel) (v := .ref q1) (by rw [dx_ty5_0]; rfl) (by rw [dx_ty5_0]; rfl) hown hin hx hb hts hK hP hD hS 0 (fs := [.null, .int 0, .int 0, .int 0]) rfl (Nat.le_of_ble_eq_true rfl) dX5_init_9 (fun H locs hP hD hS => ?_)
  have hP : va_P D vwCl ((h0, .inr (5, [.ref q1, .int 0, .int 0, .int 0])) :: ((q1, .inl (d 1, 40, .inl (fun _ => 0))) :: [])) _ := hP
  have hD : va_D A ((h0, .inr (5, [.ref q1, .int 0, .int 0, .int 0])) :: ((q1, .inl (d 1, 40, .inl (fun _ => 0))) :: [])) := hD
  refine lv_aload_n hx hb dX5_init_12 rfl (lv_at hl 0 rfl) ?_
  refine lv_iconst (v := 1) hx hb dX5_init_13 (by decide) ?_
  refine dx_put (own := RX5) 5 1 (by decide) (by decide) dxw_381 (by decide +kernel) (v := .int 1) (by rw [dx_ty5_1]; rfl) (by rw [dx_ty5_1]; rfl) hown hx hb hts hK hP hD hS 0 (fs := [.ref q1, .int 0, .int 0, .int 0]) rfl (Nat.le_of_ble_eq_true rfl) dX5_init_14 (fun H locs hP hD hS => ?_)
  have hP : va_P D vwCl ((h0, .inr (5, [.ref q1, .int 1, .int 0, .int 0])) :: ((q1, .inl (d 1, 40, .inl (fun _ => 0))) :: [])) _ := hP
  have hD : va_D A ((h0, .inr (5, [.ref q1, .int 1, .int 0, .int 0])) :: ((q1, .inl (d 1, 40, .inl (fun _ => 0))) :: [])) := hD
  have hP9 : va_P D vwCl (wRow d (dx_ad [h0, q1])) _ := hP
  have hD9 : va_D A (wRow d (dx_ad [h0, q1])) := hD
  exact W.vret hx hb hr (fun t ht hW => ⟨⟨dx_ad [h0, q1], rfl, rfl, by rw [ht]; exact hP9, hD9⟩, hS.F ht⟩) hS.2.2 dX5_init_17
def wAsks (d : Nat → ClassId) (x1 : Nat) (a : Nat → Nat) : va_W := [(a 0, .inr (0, [.ref x1, .ref (a 1), .int 0])), (a 1, .inl (d 1, 16, .inl (fun _ => 0)))]
theorem dX0_init_0 : decode cX0_init 0 = .ok (.aload_n 0, 1) := by decide +kernel
theorem dX0_init_1 : decode cX0_init 1 = .ok (.invokespecial 3, 3) := by decide +kernel
theorem dX0_init_4 : decode cX0_init 4 = .ok (.aload_n 0, 1) := by decide +kernel
theorem dX0_init_5 : decode cX0_init 5 = .ok (.bipush 16, 2) := by decide +kernel
theorem dX0_init_7 : decode cX0_init 7 = .ok (.newarray .int, 2) := by decide +kernel
theorem dX0_init_9 : decode cX0_init 9 = .ok (.putfield 9, 3) := by decide +kernel
theorem dX0_init_12 : decode cX0_init 12 = .ok (.aload_n 0, 1) := by decide +kernel
theorem dX0_init_13 : decode cX0_init 13 = .ok (.aload_n 1, 1) := by decide +kernel
theorem dX0_init_14 : decode cX0_init 14 = .ok (.putfield 15, 3) := by decide +kernel
theorem dX0_init_17 : decode cX0_init 17 = .ok (.return_, 1) := by decide +kernel
set_option maxRecDepth 100000 in
set_option maxHeartbeats 8000000 in
theorem k_X0 (l : Launch) (D : va_G) (d : Nat → ClassId) (x1 : Nat) : dx_C l yX0_init cX0_init 2 { frames := 2, cells := 1, slots := 16, locals := 40 } D d [.ref x1] (.inr (0, [.null, .null, .int 0])) (S := Nat → Nat) (fun q a => a 0 = q) (wAsks d x1) 1 16 := by
  intro h0 sz
  refine Met.ofW (cc := cX0_init) (maxL := 2) (ret := none) (by decide) rfl ?_
  intro p e s m args below meth c s₁ B hml hv
  obtain ⟨rfl, hsz, hP, hK⟩ := hv
  have hx := B.exec
  have hb := B.bytes
  have hr := B.returns
  have hts : ∀ w ∈ lw_gd, w.before _ s = true := fun w hw => atoms_spec (ws := Cond.code yX0_init cX0_init 2 none :: lw_gd) B.pre w (List.mem_cons_of_mem _ hw)
  have hown : s.vm.findClass RX0 = some m.cls := findClass_of_methodNamed B.named
  have hlocks := B.notSynchronized
  have hin : meth.name = "<init>" := (name_of_methodNamed B.named B.method).1
  subst hsz
  have hD : va_D (va_A [(h0, .inr (0, [.null, .null, .int 0]))] s.heap.size) [(h0, .inr (0, [.null, .null, .int 0]))] := dx_D1
  generalize hAe : va_A [(h0, .inr (0, [.null, .null, .int 0]))] s.heap.size = A at hD ⊢
  have hA : ∀ q : Nat, s.heap.size ≤ q → A q := fun q h => by rw [← hAe]; exact Or.inr h
  have hS : va_S A s.heap s.heap [] := va_S.rf
  have hl := lv_entry ([.ref h0, .ref x1]) (n := 2) (Nat.le_of_ble_eq_true rfl)
  rw [lg_entry_eq]
  generalize (lg_sl ([.ref h0, .ref x1]) ++ List.replicate (2 - (lg_sl ([.ref h0, .ref x1])).length) Slot.unset).toArray = ls at hl ⊢
  have hl : lv_has ls 2 [(0, .ref h0), (1, .ref x1)] := hl
  refine lv_aload_n hx hb dX0_init_0 rfl (lv_at hl 0 rfl) ?_
  refine dx_obj (own := RX0) dxw_361 hown hx hb hts hml hl.1 (Nat.le_of_ble_eq_true rfl) (Nat.le_of_ble_eq_true rfl) dX0_init_1 ?_
  refine lv_aload_n hx hb dX0_init_4 rfl (lv_at hl 0 rfl) ?_
  refine lv_bipush (v := 16) hx hb dX0_init_5 (by decide) ?_
  refine dx_newi (d := d) (N := 16) (k1 := 1) (n1 := 16) hx hb hts hK hP hD hS hA (by decide) (by decide) (by decide) rfl rfl (Nat.le_of_ble_eq_true rfl) (Nat.le_of_ble_eq_true rfl) dX0_init_7 (fun q1 H hP hD hS => ?_)
  have hP := dx_insP1 hP
  have hD := dx_insD1 hD
  have hP : va_P D vwCl ((h0, .inr (0, [.null, .null, .int 0])) :: ((q1, .inl (d 1, 16, .inl (fun _ => 0))) :: [])) _ := hP
  have hD : va_D A ((h0, .inr (0, [.null, .null, .int 0])) :: ((q1, .inl (d 1, 16, .inl (fun _ => 0))) :: [])) := hD
  refine dx_putF (own := RX0) 0 1 (by decide) (by decide) dxw_363 (by decide +kernel) (by decide +kernel) (v := .ref q1) (by rw [dx_ty0_1]; rfl) (by rw [dx_ty0_1]; rfl) hown hin hx hb hts hK hP hD hS 0 (fs := [.null, .null, .int 0]) rfl (Nat.le_of_ble_eq_true rfl) dX0_init_9 (fun H locs hP hD hS => ?_)
  have hP : va_P D vwCl ((h0, .inr (0, [.null, .ref q1, .int 0])) :: ((q1, .inl (d 1, 16, .inl (fun _ => 0))) :: [])) _ := hP
  have hD : va_D A ((h0, .inr (0, [.null, .ref q1, .int 0])) :: ((q1, .inl (d 1, 16, .inl (fun _ => 0))) :: [])) := hD
  refine lv_aload_n hx hb dX0_init_12 rfl (lv_at hl 0 rfl) ?_
  refine lv_aload_n hx hb dX0_init_13 rfl (lv_at hl 1 rfl) ?_
  refine dx_putF (own := RX0) 0 0 (by decide) (by decide) dxw_362 (by decide +kernel) (by decide +kernel) (v := .ref x1) (by rw [dx_ty0_0]; rfl) (by rw [dx_ty0_0]; rfl) hown hin hx hb hts hK hP hD hS 0 (fs := [.null, .ref q1, .int 0]) rfl (Nat.le_of_ble_eq_true rfl) dX0_init_14 (fun H locs hP hD hS => ?_)
  have hP : va_P D vwCl ((h0, .inr (0, [.ref x1, .ref q1, .int 0])) :: ((q1, .inl (d 1, 16, .inl (fun _ => 0))) :: [])) _ := hP
  have hD : va_D A ((h0, .inr (0, [.ref x1, .ref q1, .int 0])) :: ((q1, .inl (d 1, 16, .inl (fun _ => 0))) :: [])) := hD
  have hP9 : va_P D vwCl (wAsks d x1 (dx_ad [h0, q1])) _ := hP
  have hD9 : va_D A (wAsks d x1 (dx_ad [h0, q1])) := hD
  exact W.vret hx hb hr (fun t ht hW => ⟨⟨dx_ad [h0, q1], rfl, rfl, by rw [ht]; exact hP9, hD9⟩, hS.F ht⟩) hS.2.2 dX0_init_17
