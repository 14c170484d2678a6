section XR5
variable {p : Program} {l : Launch} {e : Env} {R : Room} {s : State} {m : MethodId} {args : Array Value} {below : List Frame} {meth : Method} {c : Code} {D : va_G} {K : Nat → ClassId} {A : Nat → Prop} {own : String} {cc : ByteArray} {nL : Nat} {ret : Option FieldType} {Q : State → Prop} {k n pc : Nat} {loc : List (Nat × Value)} {st : List Value} {ws : va_W}
theorem x_astoreN (C : xC p s m args meth c D K A own cc nL ret) {i : Nat} (loc' : List (Nat × Value)) (hd : decode cc pc = .ok (.astore i, 2)) (hn : i < nL) (hl' : (i, Value.null) :: loc.filter (fun q => !(q.1 == i) && !(q.1 + 1 == i && q.2.category == 2)) = loc') (h : X p l e R s m args below meth c D A nL Q k n (pc + 2) loc' st ws) : X p l e R s m args below meth c D A nL Q k n pc loc (.null :: st) ws :=
  fun H locs ls hP hD hS hl => lv_astoreN C.1 C.2.1 hd hl hn hl' (fun ls' hl2 => h H locs ls' hP hD hS hl2)
theorem x_aloadN (C : xC p s m args meth c D K A own cc nL ret) (q i : Nat) (hd : decode cc pc = .ok (.aload i, 2)) (hq : loc[q]? = some (i, .null)) (h : X p l e R s m args below meth c D A nL Q k n (pc + 2) loc (.null :: st) ws) : X p l e R s m args below meth c D A nL Q k n pc loc st ws :=
  fun H locs ls hP hD hS hl => lv_aloadN C.1 C.2.1 hd (lv_at hl q hq) (h H locs ls hP hD hS hl)
end XR5
