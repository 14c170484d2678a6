def StepOK (Sim : xS → xS → Prop) : Prop := (∀ (σ τ : xS), Sim σ τ → ∀ (a1 a2 a3 a4 a5 : Int32), ∃ (r : Int32) (σ1 τ1 : xS), F_X11_book a1 a2 a3 a4 a5 σ = some (r, σ1) ∧ F_X12_book a1 a2 a3 a4 a5 τ = some (r, τ1) ∧ Sim σ1 τ1) ∧ (∀ (σ τ : xS), Sim σ τ → ∀ (a1 a2 a3 : Int32), ∃ (r : Int32) (σ1 τ1 : xS), F_X11_put a1 a2 a3 σ = some (r, σ1) ∧ F_X12_put a1 a2 a3 τ = some (r, τ1) ∧ Sim σ1 τ1) ∧ (∀ (σ τ : xS), Sim σ τ → ∀ (a1 a2 : Int32), ∃ (r : Int32) (σ1 τ1 : xS), F_X11_of a1 a2 σ = some (r, σ1) ∧ F_X12_of a1 a2 τ = some (r, τ1) ∧ Sim σ1 τ1) ∧ (∀ (σ τ : xS), Sim σ τ → ∀ (a1 : Int32), ∃ (r : Int32) (σ1 τ1 : xS), F_X11_drop a1 σ = some (r, σ1) ∧ F_X12_drop a1 τ = some (r, τ1) ∧ Sim σ1 τ1) ∧ (∀ (σ τ : xS), Sim σ τ → ∀ (a1 a2 : Int32), ∃ (r : Int32) (σ1 τ1 : xS), F_X11_terms a1 a2 σ = some (r, σ1) ∧ F_X12_terms a1 a2 τ = some (r, τ1) ∧ Sim σ1 τ1) ∧ (∀ (σ τ : xS), Sim σ τ → ∀ (a1 a2 a3 a4 a5 : Int32), ∃ (r : Int32) (σ1 τ1 : xS), F_X11_feed a1 a2 a3 a4 a5 σ = some (r, σ1) ∧ F_X12_feed a1 a2 a3 a4 a5 τ = some (r, τ1) ∧ Sim σ1 τ1) ∧ (∀ (σ τ : xS), Sim σ τ → ∀ (a1 : Int32), ∃ (r : Int32) (σ1 τ1 : xS), F_X11_end a1 σ = some (r, σ1) ∧ F_X12_end a1 τ = some (r, τ1) ∧ Sim σ1 τ1) ∧ (∀ (σ τ : xS), Sim σ τ → ∀ (_ : Unit), ∃ (r : Int32) (σ1 τ1 : xS), F_X11_row σ = some (r, σ1) ∧ F_X12_row τ = some (r, τ1) ∧ Sim σ1 τ1) ∧ (∀ (σ τ : xS), Sim σ τ → ∀ (_ : Unit), ∃ (r : Int32) (σ1 τ1 : xS), F_X11_foxed σ = some (r, σ1) ∧ F_X12_foxed τ = some (r, τ1) ∧ Sim σ1 τ1) ∧ (∀ (σ τ : xS), Sim σ τ → ∀ (_ : Unit), ∃ (r : Int32) (σ1 τ1 : xS), F_X11_law σ = some (r, σ1) ∧ F_X12_law τ = some (r, τ1) ∧ Sim σ1 τ1) ∧ (∀ (σ τ : xS), Sim σ τ → ∀ (_ : Unit), ∃ (r : Int32) (σ1 τ1 : xS), F_X11_fault σ = some (r, σ1) ∧ F_X12_fault τ = some (r, τ1) ∧ Sim σ1 τ1) ∧ (∀ (σ τ : xS), Sim σ τ → ∀ (a1 : Int32), ∃ (r : Int32) (σ1 τ1 : xS), F_X11_force a1 σ = some (r, σ1) ∧ F_X12_force a1 τ = some (r, τ1) ∧ Sim σ1 τ1) ∧ (∀ (σ τ : xS), Sim σ τ → ∀ (a1 a2 a3 a4 : Int32), ∃ (r : Int32) (σ1 τ1 : xS), F_X11_chance a1 a2 a3 a4 σ = some (r, σ1) ∧ F_X12_chance a1 a2 a3 a4 τ = some (r, τ1) ∧ Sim σ1 τ1) ∧ (∀ (σ τ : xS), Sim σ τ → ∀ (a1 a2 : Int32), ∃ (r : Int32) (σ1 τ1 : xS), F_X11_asks a1 a2 σ = some (r, σ1) ∧ F_X12_asks a1 a2 τ = some (r, τ1) ∧ Sim σ1 τ1) ∧ (∀ (σ τ : xS), Sim σ τ → ∀ (a1 a2 : Int32), ∃ (r : Int64) (σ1 τ1 : xS), F_X11_write a1 a2 σ = some (r, σ1) ∧ F_X12_write a1 a2 τ = some (r, τ1) ∧ Sim σ1 τ1) ∧ (∀ (σ τ : xS), Sim σ τ → ∀ (a1 a2 a3 : Int32), ∃ (r : Int32) (σ1 τ1 : xS), F_X11_pencil a1 a2 a3 σ = some (r, σ1) ∧ F_X12_pencil a1 a2 a3 τ = some (r, τ1) ∧ Sim σ1 τ1) ∧ (∀ (σ τ : xS), Sim σ τ → ∀ (a1 a2 : Int32), ∃ (r : Int64) (σ1 τ1 : xS), F_X11_stands a1 a2 σ = some (r, σ1) ∧ F_X12_stands a1 a2 τ = some (r, τ1) ∧ Sim σ1 τ1) ∧ (∀ (σ τ : xS), Sim σ τ → ∀ (a1 a2 a3 : Int32), ∃ (r : Int32) (σ1 τ1 : xS), F_X11_box a1 a2 a3 σ = some (r, σ1) ∧ F_X12_box a1 a2 a3 τ = some (r, τ1) ∧ Sim σ1 τ1) ∧ (∀ (σ τ : xS), Sim σ τ → ∀ (a1 : Int32), ∃ (r : Int32) (σ1 τ1 : xS), F_X11_unbox a1 σ = some (r, σ1) ∧ F_X12_unbox a1 τ = some (r, τ1) ∧ Sim σ1 τ1) ∧ (∀ (σ τ : xS), Sim σ τ → ∀ (a1 a2 a3 a4 : Int32), ∃ (r : Int64) (σ1 τ1 : xS), F_X11_worth a1 a2 a3 a4 σ = some (r, σ1) ∧ F_X12_worth a1 a2 a3 a4 τ = some (r, τ1) ∧ Sim σ1 τ1) ∧ (∀ (σ τ : xS), Sim σ τ → ∀ (a1 a2 a3 a4 a5 : Int32), ∃ (r : Int64) (σ1 τ1 : xS), F_X11_glance a1 a2 a3 a4 a5 σ = some (r, σ1) ∧ F_X12_glance a1 a2 a3 a4 a5 τ = some (r, τ1) ∧ Sim σ1 τ1) ∧ (∀ (σ τ : xS), Sim σ τ → ∀ (a1 : Int32), ∃ (r : Int64) (σ1 τ1 : xS), F_X11_income a1 σ = some (r, σ1) ∧ F_X12_income a1 τ = some (r, τ1) ∧ Sim σ1 τ1) ∧ (∀ (σ τ : xS), Sim σ τ → ∀ (a1 a2 : Int32), ∃ (r : Int32) (σ1 τ1 : xS), F_X11_best a1 a2 σ = some (r, σ1) ∧ F_X12_best a1 a2 τ = some (r, τ1) ∧ Sim σ1 τ1) ∧ (∀ (σ τ : xS), Sim σ τ → ∀ (a1 a2 a3 : Int32), ∃ (r : Int32) (σ1 τ1 : xS), F_X11_card a1 a2 a3 σ = some (r, σ1) ∧ F_X12_card a1 a2 a3 τ = some (r, τ1) ∧ Sim σ1 τ1) ∧ (∀ (σ τ : xS), Sim σ τ → ∀ (a1 : Int32), ∃ (r : Int32) (σ1 τ1 : xS), F_X11_uncard a1 σ = some (r, σ1) ∧ F_X12_uncard a1 τ = some (r, τ1) ∧ Sim σ1 τ1) ∧ (∀ (σ τ : xS), Sim σ τ → ∀ (a1 a2 : Int32), ∃ (r : Int32) (σ1 τ1 : xS), F_X11_wants a1 a2 σ = some (r, σ1) ∧ F_X12_wants a1 a2 τ = some (r, τ1) ∧ Sim σ1 τ1) ∧ (∀ (σ τ : xS), Sim σ τ → ∀ (a1 : Int32), ∃ (r : Int32) (σ1 τ1 : xS), F_X11_keep a1 σ = some (r, σ1) ∧ F_X12_keep a1 τ = some (r, τ1) ∧ Sim σ1 τ1) ∧ (∀ (σ τ : xS), Sim σ τ → ∀ (a1 : Int32), ∃ (r : Int32) (σ1 τ1 : xS), F_X11_dealer a1 σ = some (r, σ1) ∧ F_X12_dealer a1 τ = some (r, τ1) ∧ Sim σ1 τ1) ∧ (∀ (σ τ : xS), Sim σ τ → ∀ (_ : Unit), ∃ (r : Int32) (σ1 τ1 : xS), F_X11_brings σ = some (r, σ1) ∧ F_X12_brings τ = some (r, τ1) ∧ Sim σ1 τ1) ∧ (∀ (σ τ : xS), Sim σ τ → ∀ (a1 a2 a3 : Int32), ∃ (r : Int32) (σ1 τ1 : xS), F_X11_bait a1 a2 a3 σ = some (r, σ1) ∧ F_X12_bait a1 a2 a3 τ = some (r, τ1) ∧ Sim σ1 τ1) ∧ (∀ (σ τ : xS), Sim σ τ → ∀ (a1 : Int32), ∃ (r : Int32) (σ1 τ1 : xS), F_X11_october a1 σ = some (r, σ1) ∧ F_X12_october a1 τ = some (r, τ1) ∧ Sim σ1 τ1) ∧ (∀ (σ τ : xS), Sim σ τ → ∀ (_ : Unit), ∃ (r : Int32) (σ1 τ1 : xS), F_X11_forget σ = some (r, σ1) ∧ F_X12_forget τ = some (r, τ1) ∧ Sim σ1 τ1) ∧ (∀ (σ τ : xS), Sim σ τ → ∀ (a1 a2 a3 a4 : Int32), ∃ (r : Int64) (σ1 τ1 : xS), F_X11_june a1 a2 a3 a4 σ = some (r, σ1) ∧ F_X12_june a1 a2 a3 a4 τ = some (r, τ1) ∧ Sim σ1 τ1) ∧ (∀ (σ τ : xS), Sim σ τ → ∀ (a1 a2 a3 : Int32), ∃ (r : Int32) (σ1 τ1 : xS), F_X11_copies a1 a2 a3 σ = some (r, σ1) ∧ F_X12_copies a1 a2 a3 τ = some (r, τ1) ∧ Sim σ1 τ1) ∧ (∀ (σ τ : xS), Sim σ τ → ∀ (a1 a2 : Int32), ∃ (r : Int32) (σ1 τ1 : xS), F_X11_mark a1 a2 σ = some (r, σ1) ∧ F_X12_mark a1 a2 τ = some (r, τ1) ∧ Sim σ1 τ1) ∧ (∀ (σ τ : xS), Sim σ τ → ∀ (_ : Unit), ∃ (r : Int32) (σ1 τ1 : xS), F_X11_clear σ = some (r, σ1) ∧ F_X12_clear τ = some (r, τ1) ∧ Sim σ1 τ1) ∧ (∀ (σ τ : xS), Sim σ τ → ∀ (a1 a2 a3 : Int32), ∃ (r : Int64) (σ1 τ1 : xS), F_X11_likely a1 a2 a3 σ = some (r, σ1) ∧ F_X12_likely a1 a2 a3 τ = some (r, τ1) ∧ Sim σ1 τ1) ∧ (∀ (σ τ : xS), Sim σ τ → ∀ (a1 a2 a3 : Int32), ∃ (r : Int64) (σ1 τ1 : xS), F_X11_errors a1 a2 a3 σ = some (r, σ1) ∧ F_X12_errors a1 a2 a3 τ = some (r, τ1) ∧ Sim σ1 τ1) ∧ (∀ (σ τ : xS), Sim σ τ → ∀ (a1 a2 : Int32), ∃ (r : Int32) (σ1 τ1 : xS), F_X11_weeks a1 a2 σ = some (r, σ1) ∧ F_X12_weeks a1 a2 τ = some (r, τ1) ∧ Sim σ1 τ1) ∧ (∀ (σ τ : xS), Sim σ τ → ∀ (a1 a2 : Int32), ∃ (r : Int32) (σ1 τ1 : xS), F_X11_gone a1 a2 σ = some (r, σ1) ∧ F_X12_gone a1 a2 τ = some (r, τ1) ∧ Sim σ1 τ1) ∧ (∀ (σ τ : xS), Sim σ τ → ∀ (a1 : Int32), ∃ (r : Int32) (σ1 τ1 : xS), F_X11_image a1 σ = some (r, σ1) ∧ F_X12_image a1 τ = some (r, τ1) ∧ Sim σ1 τ1) ∧ (∀ (σ τ : xS), Sim σ τ → ∀ (a1 : Int32), ∃ (r : Int32) (σ1 τ1 : xS), F_X11_back a1 σ = some (r, σ1) ∧ F_X12_back a1 τ = some (r, τ1) ∧ Sim σ1 τ1) ∧ (∀ (σ τ : xS), Sim σ τ → ∀ (a1 : Int32), ∃ (r : Int32) (σ1 τ1 : xS), F_X11_count a1 σ = some (r, σ1) ∧ F_X12_count a1 τ = some (r, τ1) ∧ Sim σ1 τ1) ∧ (∀ (σ τ : xS), Sim σ τ → ∀ (_ : Unit), ∃ (r : Int32) (σ1 τ1 : xS), F_X11_status σ = some (r, σ1) ∧ F_X12_status τ = some (r, τ1) ∧ Sim σ1 τ1)
set_option maxHeartbeats 8000000 in
set_option maxRecDepth 100000 in
theorem law_switch {p : Program} {l : Launch} {e : Env} {s : State} {m : MethodId} {args : Array Value} {below : List Frame} {meth : Method} {c : Code} {D : va_G} {K : Nat → ClassId} {A : Nat → Prop} {Q : State → Prop} {b L : Nat} {xs : Nat → Int32} {Sim : xS → xS → Prop} {ad ad2 : Nat → Nat} (C : xC p s m args meth c D K A RL cL_law 4 ret) (hX : va_X b L xs s s.heap) (hbl : b < s.heap.size) (hbA : ¬ A b) {j : Nat} (hj : 6 * j + 6 ≤ L) (hL : L ≤ 3072) {la : Nat → Nat} (hE : StepOK Sim) (hN : ∀ (σ τ : xS) (la : Nat → Nat), Sim σ τ → X p l e room_1 s m args below meth c D A 4 Q (124 + 4 * (j + 1)) (61035 + 429 * (j + 1)) 1634 [(0, .ref b), (1, .ref (ad 0)), (2, .ref (ad2 0)), (3, .int (nI (6 * j)))] [] (CW K ad la (RW K ad2 [] τ) σ)) (σ τ : xS) (hs : Sim σ τ) (v : Int32) : X p l e room_1 s m args below meth c D A 4 Q (124 + 4 * j) (61035 + 429 * j) 33 [(0, .ref b), (1, .ref (ad 0)), (2, .ref (ad2 0)), (3, .int (nI (6 * j)))] [.int v] (CW K ad la (RW K ad2 [] τ) σ) := by
  by_cases h0 : v = 0
  · exact x_tabIn C 224 dL_law_33 (by rw [h0]; decide +kernel) (by rw [h0]; decide +kernel) (by rw [h0]; rfl) (by decide) (law_case_book C hX hbl hbA hj hL hE.1 hN σ τ hs)
  by_cases h1 : v = 1
  · exact x_tabIn C 287 dL_law_33 (by rw [h1]; decide +kernel) (by rw [h1]; decide +kernel) (by rw [h1]; rfl) (by decide) (law_case_put C hX hbl hbA hj hL hE.2.1 hN σ τ hs)
  by_cases h2 : v = 2
  · exact x_tabIn C 330 dL_law_33 (by rw [h2]; decide +kernel) (by rw [h2]; decide +kernel) (by rw [h2]; rfl) (by decide) (law_case_of C hX hbl hbA hj hL hE.2.2.1 hN σ τ hs)
  by_cases h3 : v = 3
  · exact x_tabIn C 363 dL_law_33 (by rw [h3]; decide +kernel) (by rw [h3]; decide +kernel) (by rw [h3]; rfl) (by decide) (law_case_drop C hX hbl hbA hj hL hE.2.2.2.1 hN σ τ hs)
  by_cases h4 : v = 4
  · exact x_tabIn C 386 dL_law_33 (by rw [h4]; decide +kernel) (by rw [h4]; decide +kernel) (by rw [h4]; rfl) (by decide) (law_case_terms C hX hbl hbA hj hL hE.2.2.2.2.1 hN σ τ hs)
  by_cases h5 : v = 5
  · exact x_tabIn C 419 dL_law_33 (by rw [h5]; decide +kernel) (by rw [h5]; decide +kernel) (by rw [h5]; rfl) (by decide) (law_case_feed C hX hbl hbA hj hL hE.2.2.2.2.2.1 hN σ τ hs)
  by_cases h6 : v = 6
  · exact x_tabIn C 482 dL_law_33 (by rw [h6]; decide +kernel) (by rw [h6]; decide +kernel) (by rw [h6]; rfl) (by decide) (law_case_end C hX hbl hbA hj hL hE.2.2.2.2.2.2.1 hN σ τ hs)
  by_cases h7 : v = 7
  · exact x_tabIn C 505 dL_law_33 (by rw [h7]; decide +kernel) (by rw [h7]; decide +kernel) (by rw [h7]; rfl) (by decide) (law_case_row C hX hbl hbA hj hL hE.2.2.2.2.2.2.2.1 hN σ τ hs)
  by_cases h8 : v = 8
  · exact x_tabIn C 518 dL_law_33 (by rw [h8]; decide +kernel) (by rw [h8]; decide +kernel) (by rw [h8]; rfl) (by decide) (law_case_foxed C hX hbl hbA hj hL hE.2.2.2.2.2.2.2.2.1 hN σ τ hs)
  by_cases h9 : v = 9
  · exact x_tabIn C 531 dL_law_33 (by rw [h9]; decide +kernel) (by rw [h9]; decide +kernel) (by rw [h9]; rfl) (by decide) (law_case_law C hX hbl hbA hj hL hE.2.2.2.2.2.2.2.2.2.1 hN σ τ hs)
  by_cases h10 : v = 10
  · exact x_tabIn C 544 dL_law_33 (by rw [h10]; decide +kernel) (by rw [h10]; decide +kernel) (by rw [h10]; rfl) (by decide) (law_case_fault C hX hbl hbA hj hL hE.2.2.2.2.2.2.2.2.2.2.1 hN σ τ hs)
  by_cases h11 : v = 11
  · exact x_tabIn C 557 dL_law_33 (by rw [h11]; decide +kernel) (by rw [h11]; decide +kernel) (by rw [h11]; rfl) (by decide) (law_case_force C hX hbl hbA hj hL hE.2.2.2.2.2.2.2.2.2.2.2.1 hN σ τ hs)
  by_cases h12 : v = 12
  · exact x_tabIn C 580 dL_law_33 (by rw [h12]; decide +kernel) (by rw [h12]; decide +kernel) (by rw [h12]; rfl) (by decide) (law_case_chance C hX hbl hbA hj hL hE.2.2.2.2.2.2.2.2.2.2.2.2.1 hN σ τ hs)
  by_cases h13 : v = 13
  · exact x_tabIn C 633 dL_law_33 (by rw [h13]; decide +kernel) (by rw [h13]; decide +kernel) (by rw [h13]; rfl) (by decide) (law_case_asks C hX hbl hbA hj hL hE.2.2.2.2.2.2.2.2.2.2.2.2.2.1 hN σ τ hs)
  by_cases h14 : v = 14
  · exact x_tabIn C 666 dL_law_33 (by rw [h14]; decide +kernel) (by rw [h14]; decide +kernel) (by rw [h14]; rfl) (by decide) (law_case_write C hX hbl hbA hj hL hE.2.2.2.2.2.2.2.2.2.2.2.2.2.2.1 hN σ τ hs)
  by_cases h15 : v = 15
  · exact x_tabIn C 700 dL_law_33 (by rw [h15]; decide +kernel) (by rw [h15]; decide +kernel) (by rw [h15]; rfl) (by decide) (law_case_pencil C hX hbl hbA hj hL hE.2.2.2.2.2.2.2.2.2.2.2.2.2.2.2.1 hN σ τ hs)
  by_cases h16 : v = 16
  · exact x_tabIn C 743 dL_law_33 (by rw [h16]; decide +kernel) (by rw [h16]; decide +kernel) (by rw [h16]; rfl) (by decide) (law_case_stands C hX hbl hbA hj hL hE.2.2.2.2.2.2.2.2.2.2.2.2.2.2.2.2.1 hN σ τ hs)
  by_cases h17 : v = 17
  · exact x_tabIn C 777 dL_law_33 (by rw [h17]; decide +kernel) (by rw [h17]; decide +kernel) (by rw [h17]; rfl) (by decide) (law_case_box C hX hbl hbA hj hL hE.2.2.2.2.2.2.2.2.2.2.2.2.2.2.2.2.2.1 hN σ τ hs)
  by_cases h18 : v = 18
  · exact x_tabIn C 820 dL_law_33 (by rw [h18]; decide +kernel) (by rw [h18]; decide +kernel) (by rw [h18]; rfl) (by decide) (law_case_unbox C hX hbl hbA hj hL hE.2.2.2.2.2.2.2.2.2.2.2.2.2.2.2.2.2.2.1 hN σ τ hs)
  by_cases h19 : v = 19
  · exact x_tabIn C 843 dL_law_33 (by rw [h19]; decide +kernel) (by rw [h19]; decide +kernel) (by rw [h19]; rfl) (by decide) (law_case_worth C hX hbl hbA hj hL hE.2.2.2.2.2.2.2.2.2.2.2.2.2.2.2.2.2.2.2.1 hN σ τ hs)
  by_cases h20 : v = 20
  · exact x_tabIn C 897 dL_law_33 (by rw [h20]; decide +kernel) (by rw [h20]; decide +kernel) (by rw [h20]; rfl) (by decide) (law_case_glance C hX hbl hbA hj hL hE.2.2.2.2.2.2.2.2.2.2.2.2.2.2.2.2.2.2.2.2.1 hN σ τ hs)
  by_cases h21 : v = 21
  · exact x_tabIn C 961 dL_law_33 (by rw [h21]; decide +kernel) (by rw [h21]; decide +kernel) (by rw [h21]; rfl) (by decide) (law_case_income C hX hbl hbA hj hL hE.2.2.2.2.2.2.2.2.2.2.2.2.2.2.2.2.2.2.2.2.2.1 hN σ τ hs)
  by_cases h22 : v = 22
  · exact x_tabIn C 985 dL_law_33 (by rw [h22]; decide +kernel) (by rw [h22]; decide +kernel) (by rw [h22]; rfl) (by decide) (law_case_best C hX hbl hbA hj hL hE.2.2.2.2.2.2.2.2.2.2.2.2.2.2.2.2.2.2.2.2.2.2.1 hN σ τ hs)
  by_cases h23 : v = 23
  · exact x_tabIn C 1018 dL_law_33 (by rw [h23]; decide +kernel) (by rw [h23]; decide +kernel) (by rw [h23]; rfl) (by decide) (law_case_card C hX hbl hbA hj hL hE.2.2.2.2.2.2.2.2.2.2.2.2.2.2.2.2.2.2.2.2.2.2.2.1 hN σ τ hs)
  by_cases h24 : v = 24
  · exact x_tabIn C 1061 dL_law_33 (by rw [h24]; decide +kernel) (by rw [h24]; decide +kernel) (by rw [h24]; rfl) (by decide) (law_case_uncard C hX hbl hbA hj hL hE.2.2.2.2.2.2.2.2.2.2.2.2.2.2.2.2.2.2.2.2.2.2.2.2.1 hN σ τ hs)
  by_cases h25 : v = 25
  · exact x_tabIn C 1084 dL_law_33 (by rw [h25]; decide +kernel) (by rw [h25]; decide +kernel) (by rw [h25]; rfl) (by decide) (law_case_wants C hX hbl hbA hj hL hE.2.2.2.2.2.2.2.2.2.2.2.2.2.2.2.2.2.2.2.2.2.2.2.2.2.1 hN σ τ hs)
  by_cases h26 : v = 26
  · exact x_tabIn C 1117 dL_law_33 (by rw [h26]; decide +kernel) (by rw [h26]; decide +kernel) (by rw [h26]; rfl) (by decide) (law_case_keep C hX hbl hbA hj hL hE.2.2.2.2.2.2.2.2.2.2.2.2.2.2.2.2.2.2.2.2.2.2.2.2.2.2.1 hN σ τ hs)
  by_cases h27 : v = 27
  · exact x_tabIn C 1140 dL_law_33 (by rw [h27]; decide +kernel) (by rw [h27]; decide +kernel) (by rw [h27]; rfl) (by decide) (law_case_dealer C hX hbl hbA hj hL hE.2.2.2.2.2.2.2.2.2.2.2.2.2.2.2.2.2.2.2.2.2.2.2.2.2.2.2.1 hN σ τ hs)
  by_cases h28 : v = 28
  · exact x_tabIn C 1163 dL_law_33 (by rw [h28]; decide +kernel) (by rw [h28]; decide +kernel) (by rw [h28]; rfl) (by decide) (law_case_brings C hX hbl hbA hj hL hE.2.2.2.2.2.2.2.2.2.2.2.2.2.2.2.2.2.2.2.2.2.2.2.2.2.2.2.2.1 hN σ τ hs)
  by_cases h29 : v = 29
  · exact x_tabIn C 1176 dL_law_33 (by rw [h29]; decide +kernel) (by rw [h29]; decide +kernel) (by rw [h29]; rfl) (by decide) (law_case_bait C hX hbl hbA hj hL hE.2.2.2.2.2.2.2.2.2.2.2.2.2.2.2.2.2.2.2.2.2.2.2.2.2.2.2.2.2.1 hN σ τ hs)
  by_cases h30 : v = 30
  · exact x_tabIn C 1219 dL_law_33 (by rw [h30]; decide +kernel) (by rw [h30]; decide +kernel) (by rw [h30]; rfl) (by decide) (law_case_october C hX hbl hbA hj hL hE.2.2.2.2.2.2.2.2.2.2.2.2.2.2.2.2.2.2.2.2.2.2.2.2.2.2.2.2.2.2.1 hN σ τ hs)
  by_cases h31 : v = 31
  · exact x_tabIn C 1242 dL_law_33 (by rw [h31]; decide +kernel) (by rw [h31]; decide +kernel) (by rw [h31]; rfl) (by decide) (law_case_forget C hX hbl hbA hj hL hE.2.2.2.2.2.2.2.2.2.2.2.2.2.2.2.2.2.2.2.2.2.2.2.2.2.2.2.2.2.2.2.1 hN σ τ hs)
  by_cases h32 : v = 32
  · exact x_tabIn C 1255 dL_law_33 (by rw [h32]; decide +kernel) (by rw [h32]; decide +kernel) (by rw [h32]; rfl) (by decide) (law_case_june C hX hbl hbA hj hL hE.2.2.2.2.2.2.2.2.2.2.2.2.2.2.2.2.2.2.2.2.2.2.2.2.2.2.2.2.2.2.2.2.1 hN σ τ hs)
  by_cases h33 : v = 33
  · exact x_tabIn C 1309 dL_law_33 (by rw [h33]; decide +kernel) (by rw [h33]; decide +kernel) (by rw [h33]; rfl) (by decide) (law_case_copies C hX hbl hbA hj hL hE.2.2.2.2.2.2.2.2.2.2.2.2.2.2.2.2.2.2.2.2.2.2.2.2.2.2.2.2.2.2.2.2.2.1 hN σ τ hs)
  by_cases h34 : v = 34
  · exact x_tabIn C 1352 dL_law_33 (by rw [h34]; decide +kernel) (by rw [h34]; decide +kernel) (by rw [h34]; rfl) (by decide) (law_case_mark C hX hbl hbA hj hL hE.2.2.2.2.2.2.2.2.2.2.2.2.2.2.2.2.2.2.2.2.2.2.2.2.2.2.2.2.2.2.2.2.2.2.1 hN σ τ hs)
  by_cases h35 : v = 35
  · exact x_tabIn C 1385 dL_law_33 (by rw [h35]; decide +kernel) (by rw [h35]; decide +kernel) (by rw [h35]; rfl) (by decide) (law_case_clear C hX hbl hbA hj hL hE.2.2.2.2.2.2.2.2.2.2.2.2.2.2.2.2.2.2.2.2.2.2.2.2.2.2.2.2.2.2.2.2.2.2.2.1 hN σ τ hs)
  by_cases h36 : v = 36
  · exact x_tabIn C 1398 dL_law_33 (by rw [h36]; decide +kernel) (by rw [h36]; decide +kernel) (by rw [h36]; rfl) (by decide) (law_case_likely C hX hbl hbA hj hL hE.2.2.2.2.2.2.2.2.2.2.2.2.2.2.2.2.2.2.2.2.2.2.2.2.2.2.2.2.2.2.2.2.2.2.2.2.1 hN σ τ hs)
  by_cases h37 : v = 37
  · exact x_tabIn C 1442 dL_law_33 (by rw [h37]; decide +kernel) (by rw [h37]; decide +kernel) (by rw [h37]; rfl) (by decide) (law_case_errors C hX hbl hbA hj hL hE.2.2.2.2.2.2.2.2.2.2.2.2.2.2.2.2.2.2.2.2.2.2.2.2.2.2.2.2.2.2.2.2.2.2.2.2.2.1 hN σ τ hs)
  by_cases h38 : v = 38
  · exact x_tabIn C 1486 dL_law_33 (by rw [h38]; decide +kernel) (by rw [h38]; decide +kernel) (by rw [h38]; rfl) (by decide) (law_case_weeks C hX hbl hbA hj hL hE.2.2.2.2.2.2.2.2.2.2.2.2.2.2.2.2.2.2.2.2.2.2.2.2.2.2.2.2.2.2.2.2.2.2.2.2.2.2.1 hN σ τ hs)
  by_cases h39 : v = 39
  · exact x_tabIn C 1519 dL_law_33 (by rw [h39]; decide +kernel) (by rw [h39]; decide +kernel) (by rw [h39]; rfl) (by decide) (law_case_gone C hX hbl hbA hj hL hE.2.2.2.2.2.2.2.2.2.2.2.2.2.2.2.2.2.2.2.2.2.2.2.2.2.2.2.2.2.2.2.2.2.2.2.2.2.2.2.1 hN σ τ hs)
  by_cases h40 : v = 40
  · exact x_tabIn C 1552 dL_law_33 (by rw [h40]; decide +kernel) (by rw [h40]; decide +kernel) (by rw [h40]; rfl) (by decide) (law_case_image C hX hbl hbA hj hL hE.2.2.2.2.2.2.2.2.2.2.2.2.2.2.2.2.2.2.2.2.2.2.2.2.2.2.2.2.2.2.2.2.2.2.2.2.2.2.2.2.1 hN σ τ hs)
  by_cases h41 : v = 41
  · exact x_tabIn C 1575 dL_law_33 (by rw [h41]; decide +kernel) (by rw [h41]; decide +kernel) (by rw [h41]; rfl) (by decide) (law_case_back C hX hbl hbA hj hL hE.2.2.2.2.2.2.2.2.2.2.2.2.2.2.2.2.2.2.2.2.2.2.2.2.2.2.2.2.2.2.2.2.2.2.2.2.2.2.2.2.2.1 hN σ τ hs)
  by_cases h42 : v = 42
  · exact x_tabIn C 1598 dL_law_33 (by rw [h42]; decide +kernel) (by rw [h42]; decide +kernel) (by rw [h42]; rfl) (by decide) (law_case_count C hX hbl hbA hj hL hE.2.2.2.2.2.2.2.2.2.2.2.2.2.2.2.2.2.2.2.2.2.2.2.2.2.2.2.2.2.2.2.2.2.2.2.2.2.2.2.2.2.2.1 hN σ τ hs)
  by_cases h43 : v = 43
  · exact x_tabIn C 1621 dL_law_33 (by rw [h43]; decide +kernel) (by rw [h43]; decide +kernel) (by rw [h43]; rfl) (by decide) (law_case_status C hX hbl hbA hj hL hE.2.2.2.2.2.2.2.2.2.2.2.2.2.2.2.2.2.2.2.2.2.2.2.2.2.2.2.2.2.2.2.2.2.2.2.2.2.2.2.2.2.2.2 hN σ τ hs)
  exact x_tabOut C 1634 dL_law_33 (by have e0 : v.toInt ≠ 0 := x_neT h0; have e1 : v.toInt ≠ 1 := x_neT h1; have e2 : v.toInt ≠ 2 := x_neT h2; have e3 : v.toInt ≠ 3 := x_neT h3; have e4 : v.toInt ≠ 4 := x_neT h4; have e5 : v.toInt ≠ 5 := x_neT h5; have e6 : v.toInt ≠ 6 := x_neT h6; have e7 : v.toInt ≠ 7 := x_neT h7; have e8 : v.toInt ≠ 8 := x_neT h8; have e9 : v.toInt ≠ 9 := x_neT h9; have e10 : v.toInt ≠ 10 := x_neT h10; have e11 : v.toInt ≠ 11 := x_neT h11; have e12 : v.toInt ≠ 12 := x_neT h12; have e13 : v.toInt ≠ 13 := x_neT h13; have e14 : v.toInt ≠ 14 := x_neT h14; have e15 : v.toInt ≠ 15 := x_neT h15; have e16 : v.toInt ≠ 16 := x_neT h16; have e17 : v.toInt ≠ 17 := x_neT h17; have e18 : v.toInt ≠ 18 := x_neT h18; have e19 : v.toInt ≠ 19 := x_neT h19; have e20 : v.toInt ≠ 20 := x_neT h20; have e21 : v.toInt ≠ 21 := x_neT h21; have e22 : v.toInt ≠ 22 := x_neT h22; have e23 : v.toInt ≠ 23 := x_neT h23; have e24 : v.toInt ≠ 24 := x_neT h24; have e25 : v.toInt ≠ 25 := x_neT h25; have e26 : v.toInt ≠ 26 := x_neT h26; have e27 : v.toInt ≠ 27 := x_neT h27; have e28 : v.toInt ≠ 28 := x_neT h28; have e29 : v.toInt ≠ 29 := x_neT h29; have e30 : v.toInt ≠ 30 := x_neT h30; have e31 : v.toInt ≠ 31 := x_neT h31; have e32 : v.toInt ≠ 32 := x_neT h32; have e33 : v.toInt ≠ 33 := x_neT h33; have e34 : v.toInt ≠ 34 := x_neT h34; have e35 : v.toInt ≠ 35 := x_neT h35; have e36 : v.toInt ≠ 36 := x_neT h36; have e37 : v.toInt ≠ 37 := x_neT h37; have e38 : v.toInt ≠ 38 := x_neT h38; have e39 : v.toInt ≠ 39 := x_neT h39; have e40 : v.toInt ≠ 40 := x_neT h40; have e41 : v.toInt ≠ 41 := x_neT h41; have e42 : v.toInt ≠ 42 := x_neT h42; have e43 : v.toInt ≠ 43 := x_neT h43; omega) (by decide) (x_widen (by omega) (by omega) (hN σ τ la hs))
set_option maxHeartbeats 4000000 in
theorem law_loop {p : Program} {l : Launch} {e : Env} {s : State} {m : MethodId} {args : Array Value} {below : List Frame} {meth : Method} {c : Code} {D : va_G} {K : Nat → ClassId} {A : Nat → Prop} {Q : State → Prop} {b L : Nat} {xs : Nat → Int32} {Sim : xS → xS → Prop} {ad ad2 : Nat → Nat} (C : xC p s m args meth c D K A RL cL_law 4 ret) (hX : va_X b L xs s s.heap) (hbl : b < s.heap.size) (hbA : ¬ A b) (hL : L ≤ 3072) (hE : StepOK Sim) (hEnd : ∀ (k n : Nat) (i : Int32) (ws : va_W), k ≤ 600000 → n ≤ 7302250 → X p l e room_1 s m args below meth c D A 4 Q k n 1641 [(0, .ref b), (1, .ref (ad 0)), (2, .ref (ad2 0)), (3, .int i)] [.int 1] ws) : ∀ (d j : Nat) (σ τ : xS) (la : Nat → Nat), Sim σ τ → 6 * j ≤ L + 5 → L + 6 ≤ 6 * (j + d) → X p l e room_1 s m args below meth c D A 4 Q (124 + 4 * j) (61035 + 429 * j) 18 [(0, .ref b), (1, .ref (ad 0)), (2, .ref (ad2 0)), (3, .int (nI (6 * j)))] [] (CW K ad la (RW K ad2 [] τ) σ) := by
  intro d
  induction d with
  | zero =>
    intro j σ τ la hs h1 h2
    omega
  | succ d ih =>
    intro j σ τ la hs h1 h2
    refine x_iload_n C 3 3 dL_law_18 rfl rfl ?_
    refine x_aload_n C 0 0 dL_law_19 rfl rfl ?_
    refine x_slen C hX hbl hbA dL_law_20 ?_
    refine x_bipush C (nI 6) dL_law_21 (by decide +kernel) ?_
    refine x_isub C dL_law_23 ?_
    have e1 : (nI L - nI 6).toInt = (L : Int) - 6 := pk_sub_toInt (by omega) (by omega)
    have e2 : (nI (6 * j)).toInt = ((6 * j : Nat) : Int) := nI_toInt (by omega)
    by_cases hc : nI L - nI 6 < nI (6 * j)
    · refine x_icmp_gt C (fa := some ()) (fb := none) (z := ()) 1640 dL_law_24 (by decide) (if_pos hc) (fun _ => ?_) (fun h => by cases h)
      refine x_iconst C 1 dL_law_1640 (by decide +kernel) ?_
      exact hEnd _ _ _ _ (by omega) (by omega)
    · refine x_icmp_gt C (fa := none) (fb := some ()) (z := ()) 1640 dL_law_24 (by decide) (if_neg hc) (fun h => by cases h) (fun _ => ?_)
      have hj : 6 * j + 6 ≤ L := by
        have h3 := Int32.not_lt.mp hc
        rw [Int32.le_iff_toInt_le, e1, e2] at h3
        omega
      refine x_aload_n C 0 0 dL_law_27 rfl rfl ?_
      refine x_iload_n C 3 3 dL_law_28 rfl rfl ?_
      refine x_sld C hX hbl hbA (vp_in_nI (by omega) (by omega)) dL_law_29 ?_
      refine x_bipush C 63 dL_law_30 (by decide +kernel) ?_
      refine x_iand C dL_law_32 ?_
      refine law_switch C hX hbl hbA hj hL hE (fun σ2 τ2 la2 hs2 => ?_) σ τ hs _
      refine x_iinc C (nI (6 * (j + 1))) [(3, .int (nI (6 * (j + 1)))), (0, .ref b), (1, .ref (ad 0)), (2, .ref (ad2 0))] 3 dL_law_1634 rfl (by show nI (6 * j) + nI 6 = _; rw [nI_add]; rfl) (by decide) rfl ?_
      refine x_goto C 18 dL_law_1637 (by decide) ?_
      refine x_loc [(0, .ref b), (1, .ref (ad 0)), (2, .ref (ad2 0)), (3, .int (nI (6 * (j + 1))))] [1, 2, 3, 0] rfl ?_
      exact ih (j + 1) σ2 τ2 la2 hs2 (by omega) (by omega)
