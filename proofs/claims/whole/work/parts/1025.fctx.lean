/-! ===== forecasts and texts on both sides (printed by wip/whole/fp.py) ===== -/
noncomputable section
theorem rng_ab {a b : Nat} {y : Int32} (hb : b < 2147483647) (h : rngB (a : Int) (b : Int) y = true) : ∃ k, y = Int32.ofNat k ∧ a ≤ k ∧ k ≤ b := by
  unfold rngB at h
  obtain ⟨h1, h2⟩ := (Bool.and_eq_true _ _).mp h
  have h1 := of_decide_eq_true h1
  have h2 := of_decide_eq_true h2
  have hx : rngB 0 (((b + 1 : Nat) : Int) - 1) y = true := by
    unfold rngB
    rw [decide_eq_true (by omega), decide_eq_true (by omega)]
    rfl
  obtain ⟨k, hk, rfl⟩ := rng_t hx
  refine ⟨k, rfl, ?_, by omega⟩
  rw [nToI (by omega)] at h1
  omega
section
variable {e : dEnv} {x C S0 YB : Nat} {m0 m : dMem} {R I H S M : bX} {Ar : Nat → bX} {l : List Nat}
theorem p42 (he : e.1 ≤ x) (Z : REL x m0 C S0 YB m R I H S Ar M l) {y1 : Int32} (hYB : YB ≤ 900000) : PAIR e x m0 C S0 YB 129 278 [.int y1] (ks2 1 3) m := by
  have hR : hB TR 1 x R m := Z.2.1.1
  have hA : hB TA 19 (x + 26) (Ar 0) m := Z.2.1.2.2.2.2 0 (by omega)
  rcases Z.2.2.2.2.2.2.2.2.2.2.1 with ⟨rl, ml, ub⟩ | ⟨rl, ml, Y, hY, W⟩
  · exact pair_e Z (E := 1) (r129_1 (d := 11) hR hA rl) (by decide) (by decide) (fun m' => m278_1 (d := 12) (by omega) ml)
  · cases hx : rngB 0 100 y1 with
    | false => exact pair_e Z (E := 3) (r129_3 (d := 11) hR hA rl hx) (by decide) (by decide) (fun m' => m278_2 (d := 12) (by omega) ml hx)
    | true =>
      obtain ⟨k, rfl, k1, k2⟩ := rng_ab (a := 0) (b := 100) (by omega) hx
      obtain ⟨F, g⟩ := b129_0 (d := 11) (k := k) Z.2.1 (by omega) rl W (by omega) (by omega)
      exact pair_f Z g (fun m' => m278_0 (d := 12) (n := k) (by omega) ml (by omega) W.2.1 (by omega))
theorem p43 (he : e.1 ≤ x) (Z : REL x m0 C S0 YB m R I H S Ar M l) {y1 : Int32} (hYB : YB ≤ 900000) : PAIR e x m0 C S0 YB 130 280 [.int y1] (ks2 1 3) m := by
  have hR : hB TR 1 x R m := Z.2.1.1
  have hA : hB TA 19 (x + 26) (Ar 0) m := Z.2.1.2.2.2.2 0 (by omega)
  rcases Z.2.2.2.2.2.2.2.2.2.2.1 with ⟨rl, ml, ub⟩ | ⟨rl, ml, Y, hY, W⟩
  · exact pair_e Z (E := 1) (r130_1 (d := 11) hR hA rl) (by decide) (by decide) (fun m' => m280_1 (d := 12) (by omega) ml)
  · cases hx : rngB 0 100 y1 with
    | false => exact pair_e Z (E := 3) (r130_3 (d := 11) hR hA rl hx) (by decide) (by decide) (fun m' => m280_2 (d := 12) (by omega) ml hx)
    | true =>
      obtain ⟨k, rfl, k1, k2⟩ := rng_ab (a := 0) (b := 100) (by omega) hx
      obtain ⟨F, g⟩ := b130_0 (d := 11) (k := k) Z.2.1 (by omega) rl W (by omega) (by omega)
      exact pair_f Z g (fun m' => m280_0 (d := 12) (n := k) (by omega) ml (by omega) W.2.1 W.2.2 (by omega))
theorem p44 (he : e.1 ≤ x) (Z : REL x m0 C S0 YB m R I H S Ar M l) {y1 : Int32} (hYB : YB ≤ 900000) : PAIR e x m0 C S0 YB 131 281 [.int y1] (ks2 1 3) m := by
  have hR : hB TR 1 x R m := Z.2.1.1
  have hA : hB TA 19 (x + 26) (Ar 0) m := Z.2.1.2.2.2.2 0 (by omega)
  rcases Z.2.2.2.2.2.2.2.2.2.2.1 with ⟨rl, ml, ub⟩ | ⟨rl, ml, Y, hY, W⟩
  · exact pair_e Z (E := 1) (r131_1 (d := 11) hR hA rl) (by decide) (by decide) (fun m' => m281_1 (d := 12) (by omega) ml)
  · cases hx : rngB 1 48 y1 with
    | false => exact pair_e Z (E := 3) (r131_3 (d := 11) hR hA rl hx) (by decide) (by decide) (fun m' => m281_2 (d := 12) (by omega) ml hx)
    | true =>
      obtain ⟨k, rfl, k1, k2⟩ := rng_ab (a := 1) (b := 48) (by omega) hx
      cases hf : yuS (M.1 1) (M.1 2) (Int32.ofNat k) with
      | some j =>
        obtain ⟨F, g⟩ := b131_s (d := 11) (k := k) Z.2.1 (by omega) rl W k1 k2 (by omega) hf
        refine pair_f (t := clyS (M.1 1) j (M.1 2)) Z g (fun m' => ?_)
        have := m281_0 (e := e) (d := 12) (b := x + 261) (m := m') (by omega) ml hx W.2.1 W.2.2 (by omega)
        rw [hf] at this
        exact this
      | none =>
        obtain ⟨F, g⟩ := b131_n (d := 11) (k := k) Z.2.1 (by omega) rl W k1 k2 (by omega) hf
        refine pair_f (t := clyS (M.1 1) 100 (M.1 2)) Z g (fun m' => ?_)
        have := m281_0 (e := e) (d := 12) (b := x + 261) (m := m') (by omega) ml hx W.2.1 W.2.2 (by omega)
        rw [hf] at this
        exact this
theorem p48 (he : e.1 ≤ x) (Z : REL x m0 C S0 YB m R I H S Ar M l) {y1 : Int32} (hYB : YB ≤ 900000) (D0 : hDig e x m0) : PAIR e x m0 C S0 YB 135 287 [.int y1] (ks2 1 2) m := by
  have hR : hB TR 1 x R m := Z.2.1.1
  have hA : hB TA 19 (x + 26) (Ar 0) m := Z.2.1.2.2.2.2 0 (by omega)
  rcases Z.2.2.2.2.2.2.2.2.2.2.1 with ⟨rl, ml, ub⟩ | ⟨rl, ml, Y, hY, W⟩
  · exact pair_e Z (E := 1) (a135_1 (d := 11) hR hA rl) (by decide) (by decide) (fun m' => m287_1 (d := 12) (by omega) ml)
  · have D : hDig e x m := D0.fr (fun q hq => Z.1 q hq)
    obtain ⟨n, n1, n2, -, n4⟩ := W.2.1.1.ex
    have wb := W.2.1.2.2.2.1
    cases hx : rngB 0 ((n : Int) - 1) y1 with
    | false => exact pair_e Z (E := 2) (a135_2 (d := 11) hR hA rl W n1 (by omega) hx) (by decide) (by decide) (fun m' => m287_2 (d := 12) (by omega) ml n1 (by omega) hx)
    | true =>
      obtain ⟨k, hk, rfl⟩ := rng_t hx
      obtain ⟨m2, g, X, F⟩ := a135_0 (d := 11) (by omega) hR hA rl W n1 (by omega) hk D Z.2.2.1
      exact pair_t Z g X F (fun m' => m287_0 (d := 12) (by omega) ml n1 (by omega) hk W.2.2 (wb k (by rw [show nbS (M.1 2) = n from n2]; exact hk)))
theorem p49 (he : e.1 ≤ x) (Z : REL x m0 C S0 YB m R I H S Ar M l) {y1 : Int32} (hYB : YB ≤ 900000) : PAIR e x m0 C S0 YB 136 289 [.int y1] (ks2 1 2) m := by
  have hR : hB TR 1 x R m := Z.2.1.1
  have hA : hB TA 19 (x + 26) (Ar 0) m := Z.2.1.2.2.2.2 0 (by omega)
  rcases Z.2.2.2.2.2.2.2.2.2.2.1 with ⟨rl, ml, ub⟩ | ⟨rl, ml, Y, hY, W⟩
  · exact pair_e Z (E := 1) (a136_1 (d := 11) hR hA rl) (by decide) (by decide) (fun m' => m289_1 (d := 14) (by omega) ml)
  · obtain ⟨n, n1, n2, -, n4⟩ := W.2.2.1.ex
    cases hx : rngB 0 ((n : Int) - 1) y1 with
    | false => exact pair_e Z (E := 2) (a136_2 (d := 11) hR hA rl W (by rw [show nN (M.1 1 0) = n from n2]; exact hx)) (by decide) (by decide) (fun m' => m289_2 (d := 14) (by omega) ml n1 (by omega) hx)
    | true =>
      obtain ⟨k, hk, rfl⟩ := rng_t hx
      obtain ⟨m2, g, X, F⟩ := a136_0 (d := 11) (by omega) hR hA rl W (i := k) (by rw [show nN (M.1 1 0) = n from n2]; exact hk) Z.2.2.1
      exact pair_t Z g X F (fun m' => m289_0 (d := 14) (by omega) ml W.2.1 W.2.2 n1 (by omega) hk)
theorem p50 (he : e.1 ≤ x) (Z : REL x m0 C S0 YB m R I H S Ar M l) (hYB : YB ≤ 900000) (D0 : hDig e x m0) : PAIR e x m0 C S0 YB 137 290 [] (ks1 1) m := by
  have hR : hB TR 1 x R m := Z.2.1.1
  have hA : hB TA 19 (x + 26) (Ar 0) m := Z.2.1.2.2.2.2 0 (by omega)
  rcases Z.2.2.2.2.2.2.2.2.2.2.1 with ⟨rl, ml, ub⟩ | ⟨rl, ml, Y, hY, W⟩
  · exact pair_e Z (E := 1) (a137_1 (d := 11) hR hA rl) (by decide) (by decide) (fun m' => m290_1 (d := 12) (by omega) ml)
  · have D : hDig e x m := D0.fr (fun q hq => Z.1 q hq)
    obtain ⟨m2, g, X, F⟩ := a137_0 (d := 11) (by omega) (by omega) hR hA rl W D Z.2.2.1
    exact pair_t Z g X F (fun m' => m290_0 (d := 12) (by omega) (by omega) ml W.2.1 W.2.2)
theorem p51 (he : e.1 ≤ x) (Z : REL x m0 C S0 YB m R I H S Ar M l) {y1 : Int32} (hYB : YB ≤ 900000) : PAIR e x m0 C S0 YB 138 291 [.int y1] (ks1 2) m := by
  have hR : hB TR 1 x R m := Z.2.1.1
  have yt := Z.2.2.2.2.1
  cases hx : rngB 0 ((l.length : Int) - 1) y1 with
  | false => exact pair_e Z (E := 2) (a138_1 (d := 16) hR Z.2.2.1 yt.2.1 hx) (by decide) (by decide) (fun m' => m291_1 (d := 17) (by omega) yt hx)
  | true =>
    obtain ⟨k, hk, rfl⟩ := rng_t hx
    exact pair_q0 Z (a138_0 (d := 16) hR Z.2.2.1 yt.2.1 hk) (fun m' => m291_0 (d := 17) (by omega) yt hk)
end
end
