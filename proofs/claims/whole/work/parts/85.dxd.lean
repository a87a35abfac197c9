def dx_s0 (L : Nat) (xs : Nat → Int32) : mx_S := fun k o => if o = 32 then (fun j => if j = 1 then 1 else 0) else if o = 39 then (fun j => if j = 21 then -1 else if j = 22 then -1 else if j = 23 then -1 else 0) else if o = 40 then (upd (upd (upd (upd (upd (upd (upd (upd (fun _ => 0) 0 (-1)) 1 (-1)) 2 (-1)) 3 (-1)) 4 (-1)) 5 (-1)) 6 (-1)) 7 (-1)) else if o = 58 then (if k = 0 then (fun _ => Int32.ofNat L) else xs) else (fun _ => 0)
def dx_csX : List (Nat × Nat) := [(0, 28), (0, 31), (0, 34), (3, 0), (3, 16), (3, 27), (3, 26), (3, 25), (3, 24), (3, 23), (3, 22), (3, 21), (3, 20), (3, 19), (3, 18), (3, 17), (3, 13), (3, 15), (3, 14), (3, 1), (3, 12), (3, 11), (3, 10), (3, 9), (3, 8), (3, 7), (3, 6), (3, 5), (3, 4), (3, 3), (3, 2), (2, 0), (2, 16), (2, 27), (2, 26), (2, 25), (2, 24), (2, 23), (2, 22), (2, 21), (2, 20), (2, 19), (2, 18), (2, 17), (2, 13), (2, 15), (2, 14), (2, 1), (2, 12), (2, 11), (2, 10), (2, 9), (2, 8), (2, 7), (2, 6), (2, 5), (2, 4), (2, 3), (2, 2), (7, 32), (7, 33), (6, 32), (6, 33), (5, 32), (5, 33), (4, 32), (4, 33), (3, 32), (3, 33), (2, 32), (2, 33), (1, 32), (1, 33), (0, 32), (0, 33), (0, 38), (0, 37), (0, 35), (0, 36), (1, 0), (1, 16), (1, 27), (1, 26), (1, 25), (1, 24), (1, 23), (1, 22), (1, 21), (1, 20), (1, 19), (1, 18), (1, 17), (1, 13), (1, 15), (1, 14), (1, 1), (1, 12), (1, 11), (1, 10), (1, 9), (1, 8), (1, 7), (1, 6), (1, 5), (1, 4), (1, 3), (1, 2), (0, 0), (0, 16), (0, 27), (0, 26), (0, 25), (0, 24), (0, 23), (0, 22), (0, 21), (0, 20), (0, 19), (0, 18), (0, 17), (0, 13), (0, 15), (0, 14), (0, 1), (0, 12), (0, 11), (0, 10), (0, 9), (0, 8), (0, 7), (0, 6), (0, 5), (0, 4), (0, 3), (0, 2), (0, 29), (0, 30)]
def dx_csM : List (Nat × Nat) := [(0, 39), (0, 54), (0, 53), (0, 52), (0, 51), (0, 50), (0, 49), (0, 48), (0, 47), (0, 46), (1, 45), (0, 45), (0, 44), (0, 43), (0, 42), (0, 41), (0, 40)]
def dx_wX (D : va_G) (d : Nat → ClassId) (u : Nat → Nat → Nat) : va_W := dx_csX.map (fun q => (u q.1 q.2, mx_cell (u, D, d, .null) (dx_s0 0 (fun _ => 0)) q.1 q.2))
def dx_wM (D : va_G) (d : Nat → ClassId) (u : Nat → Nat → Nat) : va_W := dx_csM.map (fun q => (u q.1 q.2, mx_cell (u, D, d, .null) (dx_s0 0 (fun _ => 0)) q.1 q.2))
/-- an array of references is known by its places alone -/
theorem dx_arr {D : va_G} {cl : List vw_C} {A : Nat → Prop} {ws : va_W} {H : Heap} {i a n : Nat} {cA : ClassId} {f : Nat → Option Nat} (f' : Nat → Option Nat) (hP : va_P D cl ws H) (hD : va_D A ws) (he : ws[i]? = some (a, .inl (cA, n, .inr (.inr (.inr (.inr f)))))) (hf : ∀ j, j < n → f j = f' j) : va_P D cl (ws.set i (a, .inl (cA, n, .inr (.inr (.inr (.inr f')))))) H ∧ va_D A (ws.set i (a, .inl (cA, n, .inr (.inr (.inr (.inr f')))))) := by
  refine ⟨hP.set hD he ?_ (fun q _ => rfl), hD.set he⟩
  have h := hP i _ he
  show H[a]? = some (vp_cell _ _)
  have h2 : H[a]? = some (vp_cell cA (n, .inr (.inr (.inr (.inr f))))) := h
  rw [h2, vp_cell_q, vp_cell_q]
  unfold arrV
  congr 2
  congr 1
  funext j
  show va_rf (f j.val) = va_rf (f' j.val)
  rw [hf j.val j.isLt]
