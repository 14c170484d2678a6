section XNew4
variable {p : Program} {l : Launch} {e : Env} {R : Room} {s : State} {m : MethodId} {args : Array Value} {below : List Frame} {meth : Method} {c : Code} {D : va_G} {K : Nat → ClassId} {A : Nat → Prop} {own : String} {cc : ByteArray} {nL : Nat} {ret : Option FieldType} {Q : State → Prop} {k n pc : Nat} {loc : List (Nat × Value)} {st : List Value} {ws : va_W}
theorem x_wcast {ws2 : va_W} (he : ws = ws2) (h : X p l e R s m args below meth c D A nL Q k n pc loc st ws2) : X p l e R s m args below meth c D A nL Q k n pc loc st ws := he ▸ h
theorem x_astqR (C : xC p s m args meth c D K A own cc nL ret) {a N t0 ci : Nat} {cA : ClassId} {r : vw_C} {vs : List Value} {f : Nat → Option Nat} {v : Nat} {i : Int32} {ws' : va_W} (q qk : Nat) (hd : decode cc pc = .ok (.aastore, 1)) (hq : ws[q]? = some (a, .inl (cA, (N, .inr (.inr (.inr (.inr f))))))) (ht : (xTys K)[t0]? = some (cA, .object r.1)) (hv : ws[qk]? = some (v, .inr (ci, vs))) (hc : vwCl[ci]? = some r) (hin : vp_in i N) (hw : ws.set q (a, .inl (cA, (N, .inr (.inr (.inr (.inr (va_up f i.toNatClampNeg (some v)))))))) = ws') (h : X p l e R s m args below meth c D A nL Q k n (pc + 1) loc st ws') : X p l e R s m args below meth c D A nL Q k n pc loc (.ref v :: .int i :: .ref a :: st) ws := by
  subst hw
  exact fun H locs ls hP hD hS hl => va_astq C.1 C.2.1 C.2.2.2.2.2.1 hP hD hS q t0 qk ci hq ht hv hc hin hd (fun H1 locs1 hP1 hD1 hS1 => h H1 locs1 ls hP1 hD1 hS1 hl)
end XNew4
theorem vp_in_dec {i : Int32} {N : Nat} (h : ¬ (i < 0 ∨ N ≤ i.toNatClampNeg)) : vp_in i N := h
theorem pnX0 : plainName RX0 = true := by decide +kernel
theorem pnX1 : plainName RX1 = true := by decide +kernel
theorem pnX2 : plainName RX2 = true := by decide +kernel
theorem pnX3 : plainName RX3 = true := by decide +kernel
theorem pnX5 : plainName RX5 = true := by decide +kernel
theorem pnX6 : plainName RX6 = true := by decide +kernel
theorem pnX7 : plainName RX7 = true := by decide +kernel
theorem pnX8 : plainName RX8 = true := by decide +kernel
theorem pnX9 : plainName RX9 = true := by decide +kernel
theorem pnX10 : plainName RX10 = true := by decide +kernel
theorem pnX11 : plainName RX11 = true := by decide +kernel
theorem pnX12 : plainName RX12 = true := by decide +kernel
theorem inX0 : ∀ w ∈ wsX00, w ∈ xT := fun w h => xT_mem (List.mem_append_right _ ((show ∀ w ∈ wsX00, w ∈ tables_1 by decide +kernel) w h)) ((show ∀ w ∈ wsX00, goodWord w = true by decide +kernel) w h)
theorem inX1 : ∀ w ∈ wsX10, w ∈ xT := fun w h => xT_mem (List.mem_append_right _ ((show ∀ w ∈ wsX10, w ∈ tables_1 by decide +kernel) w h)) ((show ∀ w ∈ wsX10, goodWord w = true by decide +kernel) w h)
theorem inX2 : ∀ w ∈ wsX20, w ∈ xT := fun w h => xT_mem (List.mem_append_right _ ((show ∀ w ∈ wsX20, w ∈ tables_1 by decide +kernel) w h)) ((show ∀ w ∈ wsX20, goodWord w = true by decide +kernel) w h)
theorem inX3 : ∀ w ∈ wsX30, w ∈ xT := fun w h => xT_mem (List.mem_append_right _ ((show ∀ w ∈ wsX30, w ∈ tables_1 by decide +kernel) w h)) ((show ∀ w ∈ wsX30, goodWord w = true by decide +kernel) w h)
theorem inX4 : ∀ w ∈ wsX40, w ∈ xT := fun w h => xT_mem (List.mem_append_right _ ((show ∀ w ∈ wsX40, w ∈ tables_1 by decide +kernel) w h)) ((show ∀ w ∈ wsX40, goodWord w = true by decide +kernel) w h)
theorem inX5 : ∀ w ∈ wsX50, w ∈ xT := fun w h => xT_mem (List.mem_append_right _ ((show ∀ w ∈ wsX50, w ∈ tables_1 by decide +kernel) w h)) ((show ∀ w ∈ wsX50, goodWord w = true by decide +kernel) w h)
theorem inX6 : ∀ w ∈ wsX60, w ∈ xT := fun w h => xT_mem (List.mem_append_right _ ((show ∀ w ∈ wsX60, w ∈ tables_1 by decide +kernel) w h)) ((show ∀ w ∈ wsX60, goodWord w = true by decide +kernel) w h)
theorem inX7 : ∀ w ∈ wsX70, w ∈ xT := fun w h => xT_mem (List.mem_append_right _ ((show ∀ w ∈ wsX70, w ∈ tables_1 by decide +kernel) w h)) ((show ∀ w ∈ wsX70, goodWord w = true by decide +kernel) w h)
theorem inX8 : ∀ w ∈ wsX80, w ∈ xT := fun w h => xT_mem (List.mem_append_right _ ((show ∀ w ∈ wsX80, w ∈ tables_1 by decide +kernel) w h)) ((show ∀ w ∈ wsX80, goodWord w = true by decide +kernel) w h)
theorem inX9 : ∀ w ∈ wsX90, w ∈ xT := fun w h => xT_mem (List.mem_append_right _ ((show ∀ w ∈ wsX90, w ∈ tables_1 by decide +kernel) w h)) ((show ∀ w ∈ wsX90, goodWord w = true by decide +kernel) w h)
theorem inX10 : ∀ w ∈ wsX100, w ∈ xT := fun w h => xT_mem (List.mem_append_right _ ((show ∀ w ∈ wsX100, w ∈ tables_1 by decide +kernel) w h)) ((show ∀ w ∈ wsX100, goodWord w = true by decide +kernel) w h)
theorem inX11 : ∀ w ∈ wsX110, w ∈ xT := fun w h => xT_mem (List.mem_append_right _ ((show ∀ w ∈ wsX110, w ∈ tables_1 by decide +kernel) w h)) ((show ∀ w ∈ wsX110, goodWord w = true by decide +kernel) w h)
theorem inX12 : ∀ w ∈ wsX120, w ∈ xT := fun w h => xT_mem (List.mem_append_right _ ((show ∀ w ∈ wsX120, w ∈ tables_1 by decide +kernel) w h)) ((show ∀ w ∈ wsX120, goodWord w = true by decide +kernel) w h)
