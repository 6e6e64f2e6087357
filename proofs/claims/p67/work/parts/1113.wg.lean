/-! ===== the World while it is told: its cells, its text, the draws ===== -/
noncomputable section
/-- what holds of the World's cells holds where they are the same -/
def WFR (nb : Nat) (ad : Nat → Nat) (W : dMem → Prop) : Prop := ∀ m m' : dMem, W m → (∀ i, i < 7 + 2 * nb → m'.1 (ad i) = m.1 (ad i)) → (∀ i, i < 7 + 2 * nb → ad i < m'.2.1) → W m'
def WG (e : dEnv) (x0 b0 l0 N : Nat) (f : Nat → Int32) (a tx : Nat) (bb : xB) (C S : Nat) (l : List Nat) (nb : Nat) (ad : Nat → Nat) (W : dMem → Prop) (m : dMem) : Prop := W m ∧ WFR nb ad W ∧ ad 1000 = tx ∧ hX tx bb C S l m ∧ bb.2 = 10 ∧ hDig e x0 m ∧ hSt e x0 m ∧ DRW b0 l0 N f a m ∧ (∀ i, i < 7 + 2 * nb → bb.1 (ad i) ∧ ad i ≠ b0 ∧ ad i ≠ l0 ∧ x0 ≤ ad i) ∧ (bb.1 b0 ∧ bb.1 l0) ∧ (x0 ≤ tx ∧ e.1 ≤ x0 ∧ x0 ≤ b0)
section
variable {e : dEnv} {d x0 b0 l0 N a tx C S nb : Nat} {f : Nat → Int32} {bb : xB} {l : List Nat} {ad : Nat → Nat} {W : dMem → Prop} {m : dMem}
theorem WG.w (G : WG e x0 b0 l0 N f a tx bb C S l nb ad W m) : W m := G.1
theorem WG.fr (G : WG e x0 b0 l0 N f a tx bb C S l nb ad W m) : WFR nb ad W := G.2.1
theorem WG.t (G : WG e x0 b0 l0 N f a tx bb C S l nb ad W m) : ad 1000 = tx := G.2.2.1
theorem WG.x (G : WG e x0 b0 l0 N f a tx bb C S l nb ad W m) : hX tx bb C S l m := G.2.2.2.1
theorem WG.kk (G : WG e x0 b0 l0 N f a tx bb C S l nb ad W m) : bb.2 = 10 := G.2.2.2.2.1
theorem WG.dg (G : WG e x0 b0 l0 N f a tx bb C S l nb ad W m) : hDig e x0 m := G.2.2.2.2.2.1
theorem WG.st (G : WG e x0 b0 l0 N f a tx bb C S l nb ad W m) : hSt e x0 m := G.2.2.2.2.2.2.1
theorem WG.dr (G : WG e x0 b0 l0 N f a tx bb C S l nb ad W m) : DRW b0 l0 N f a m := G.2.2.2.2.2.2.2.1
theorem WG.pl (G : WG e x0 b0 l0 N f a tx bb C S l nb ad W m) : ∀ i, i < 7 + 2 * nb → bb.1 (ad i) ∧ ad i ≠ b0 ∧ ad i ≠ l0 ∧ x0 ≤ ad i := G.2.2.2.2.2.2.2.2.1
theorem WG.pb (G : WG e x0 b0 l0 N f a tx bb C S l nb ad W m) : bb.1 b0 ∧ bb.1 l0 := G.2.2.2.2.2.2.2.2.2.1
theorem WG.px (G : WG e x0 b0 l0 N f a tx bb C S l nb ad W m) : x0 ≤ tx ∧ e.1 ≤ x0 ∧ x0 ≤ b0 := G.2.2.2.2.2.2.2.2.2.2
theorem WG.of (w : W m) (fr : WFR nb ad W) (t : ad 1000 = tx) (x : hX tx bb C S l m) (kk : bb.2 = 10) (dg : hDig e x0 m) (st : hSt e x0 m) (dr : DRW b0 l0 N f a m) (pl : ∀ i, i < 7 + 2 * nb → bb.1 (ad i) ∧ ad i ≠ b0 ∧ ad i ≠ l0 ∧ x0 ≤ ad i) (pb : bb.1 b0 ∧ bb.1 l0) (px : x0 ≤ tx ∧ e.1 ≤ x0 ∧ x0 ≤ b0) : WG e x0 b0 l0 N f a tx bb C S l nb ad W m := ⟨w, fr, t, x, kk, dg, st, dr, pl, pb, px⟩
theorem WG.he (G : WG e x0 b0 l0 N f a tx bb C S l nb ad W m) : e.1 ≤ tx ∧ e.1 ≤ b0 := ⟨Nat.le_trans G.px.2.1 G.px.1, Nat.le_trans G.px.2.1 G.px.2.2⟩
theorem WG.lo (G : WG e x0 b0 l0 N f a tx bb C S l nb ad W m) {q : Nat} (h : q < x0) : bb.1 q := G.x.pr.1 q (Nat.lt_of_lt_of_le h G.px.1)
/-- the text changes, nothing else that is known -/
theorem WG.tex (G : WG e x0 b0 l0 N f a tx bb C S l nb ad W m) {l' : List Nat} {m' : dMem} (Z : hX tx bb C S l' m') (F : frX tx bb m m') : WG e x0 b0 l0 N f a tx bb C S l' nb ad W m' := WG.of (w := G.fr m m' G.w (fun i hi => F _ (G.pl i hi).1) (fun i hi => Z.pr.2.2.1 _ (G.pl i hi).1)) (fr := G.fr) (t := G.t) (x := Z) (kk := G.kk) (dg := G.dg.fr (fun q h => F q (G.lo h))) (st := G.st.fr (fun q h => F q (G.lo h))) (dr := G.dr.fr (F _ G.pb.1) (F _ G.pb.2)) (pl := G.pl) (pb := G.pb) (px := G.px)
/-- cells of the World's change, new ones come -/
theorem WG.cha (G : WG e x0 b0 l0 N f a tx bb C S l nb ad W m) {W' : dMem → Prop} {m' : dMem} {c z : Nat} (F : fW nb ad m m' c z) (h : W' m') (hf : WFR nb ad W') : WG e x0 b0 l0 N f a tx bb (C + c) (S + z) l nb ad W' m' := by
  have pr := G.x.pr
  have hlt : ∀ q, q < x0 → q < m.2.1 := fun q h => pr.2.2.1 q (G.lo h)
  have ho : ∀ q, q < x0 → m'.1 q = m.1 q := fun q h => F.1 q (hlt q h) (fun i hi z => by have := (G.pl i hi).2.2.2; omega)
  exact WG.of (w := h) (fr := hf) (t := G.t) (x := G.x.kp (fG.of F.2) (fun q h1 h2 => F.1 q h1 (fun i hi z => h2 (z ▸ (G.pl i hi).1)))) (kk := G.kk) (dg := G.dg.fr ho) (st := G.st.fr ho) (dr := G.dr.fr (F.1 _ (pr.2.2.1 _ G.pb.1) (fun i hi => (G.pl i hi).2.1)) (F.1 _ (pr.2.2.1 _ G.pb.2) (fun i hi => (G.pl i hi).2.2.1))) (pl := G.pl) (pb := G.pb) (px := G.px)
theorem WG.le (G : WG e x0 b0 l0 N f a tx bb C S l nb ad W m) {C' S' : Nat} (h1 : C ≤ C') (h2 : S ≤ S') : WG e x0 b0 l0 N f a tx bb C' S' l nb ad W m := ⟨G.w, G.fr, G.t, G.x.le1 h1 h2, G.kk, G.dg, G.st, G.dr, G.pl, G.pb, G.px⟩
theorem WG.wW (G : WG e x0 b0 l0 N f a tx bb C S l nb ad W m) {W' : dMem → Prop} (h : W' m) (hf : WFR nb ad W') : WG e x0 b0 l0 N f a tx bb C S l nb ad W' m := ⟨h, hf, G.t, G.x, G.kk, G.dg, G.st, G.dr, G.pl, G.pb, G.px⟩
theorem wg_draw (G : WG e x0 b0 l0 N f a tx bb C S l nb ad W m) {lo hi : Nat} (ha : a < 1000000) (h1 : lo ≤ hi) (h2 : hi < 1000000) : ∃ v m', dN e (d + 9) 164 [.ref b0, .int (Int32.ofNat lo), .int (Int32.ofNat hi)] m = rI (Int32.ofNat v) m' ∧ lo ≤ v ∧ v ≤ hi ∧ WG e x0 b0 l0 N f (a + 1) tx bb C S l nb ad W m' := by
  obtain ⟨v, m', g, v1, v2, D, o, s⟩ := d_next (e := e) (d := d + 8) G.dr G.he.2 ha h1 h2
  have pr := G.x.pr
  have ho : ∀ q, q < x0 → m'.1 q = m.1 q := fun q h => o q (by have := G.px.2.2; omega)
  have X' : hX tx bb (C + 0) (S + 0) l m' := G.x.kp (fG.eq s) (fun q h1 h2 => o q (fun z => h2 (z ▸ G.pb.1)))
  exact ⟨v, m', g, v1, v2, WG.of (w := G.fr m m' G.w (fun i hi => o _ (G.pl i hi).2.1) (fun i hi => by rw [s]; exact pr.2.2.1 _ (G.pl i hi).1)) (fr := G.fr) (t := G.t) (x := X') (kk := G.kk) (dg := G.dg.fr ho) (st := G.st.fr ho) (dr := D) (pl := G.pl) (pb := G.pb) (px := G.px)⟩
theorem WG.gm (G : WG e x0 b0 l0 N f a tx bb C S l nb ad W m) : gM bb.2 = 830 := by rw [G.kk]; rfl
/-- a constant, a String, a number, a letter are appended -/
theorem wg_st (G : WG e x0 b0 l0 N f a tx bb C S l nb ad W m) {r : Nat} {w : List Nat} (T : hS2 bb.1 m r w) (hw : w.length ≤ 16) (hv : ∀ v, v ∈ w → v < 128) (hl : l.length + w.length ≤ 800) : ∃ m', dN e (d + 9) 392 [.ref tx, .ref r] m = some (.inl (some (.ref tx)), m') ∧ WG e x0 b0 l0 N f a tx bb C S (l ++ w) nb ad W m' := by
  obtain ⟨m', g, Z, F⟩ := x392 (e := e) (d := d + 3) G.x T hw hv (by rw [G.gm]; omega) G.he.1
  exact ⟨m', g, G.tex Z F⟩
theorem WG.sk (G : WG e x0 b0 l0 N f a tx bb C S l nb ad W m) {k : Nat} (hk : k < 36) : hS2 bb.1 m (e.2 k) (wd k) := by
  have h := G.st
  exact (h k hk).to2.mono (fun q h => G.lo h)
theorem wd36 : ∀ k, k < 36 → (wd k).length ≤ 16 ∧ ∀ v, v ∈ wd k → v < 128 := by decide
theorem wg_k (G : WG e x0 b0 l0 N f a tx bb C S l nb ad W m) {k : Nat} (hk : k < 36) (hl : l.length ≤ 780) : ∃ m', dN e (d + 9) 392 [.ref tx, .ref (e.2 k)] m = some (.inl (some (.ref tx)), m') ∧ WG e x0 b0 l0 N f a tx bb C S (l ++ wd k) nb ad W m' := by
  obtain ⟨w1, w2⟩ := wd36 k hk
  exact wg_st G (G.sk hk) w1 w2 (by omega)
theorem wg_n (G : WG e x0 b0 l0 N f a tx bb C S l nb ad W m) {v : Nat} (hv : v < 1000000) (hl : l.length ≤ 780) : ∃ m', dN e (d + 9) 368 [.ref tx, .int (Int32.ofNat v)] m = some (.inl (some (.ref tx)), m') ∧ WG e x0 b0 l0 N f a tx bb C S (l ++ dig v) nb ad W m' := by
  obtain ⟨m', g, Z, F⟩ := x368g (e := e) (d := d + 4) (x := x0) G.x (v := v) (by rw [G.gm]; omega) hv G.dg G.px.1 G.he.1
  exact ⟨m', g, G.tex Z F⟩
theorem wg_c (G : WG e x0 b0 l0 N f a tx bb C S l nb ad W m) {v : Nat} (hv : v < 128) (hl : l.length ≤ 780) : ∃ m', dN e (d + 9) 367 [.ref tx, .int (Int32.ofNat v)] m = some (.inl (some (.ref tx)), m') ∧ WG e x0 b0 l0 N f a tx bb C S (l ++ [v]) nb ad W m' := by
  obtain ⟨m', g, Z, F⟩ := x367g (e := e) (d := d + 4) G.x (by rw [G.gm]; omega) hv G.he.1
  exact ⟨m', g, G.tex Z F⟩
theorem wg_len (G : WG e x0 b0 l0 N f a tx bb C S l nb ad W m) : dN e (d + 9) 370 [.ref tx] m = rI (Int32.ofNat l.length) m := x370 (d := d + 7) G.x
/-- something is made elsewhere, and kept -/
theorem WG.mak (G : WG e x0 b0 l0 N f a tx bb C S l nb ad W m) {m' : dMem} {c z : Nat} (F : ∀ q, q < m.2.1 → m'.1 q = m.1 q) (g : fG m m' c z) : WG e x0 b0 l0 N f a tx (fun q => bb.1 q ∨ (m.2.1 ≤ q ∧ q < m'.2.1), bb.2) (C + c) (S + z) l nb ad W m' := by
  have pr := G.x.pr
  have ho : ∀ q, q < x0 → m'.1 q = m.1 q := fun q h => F q (pr.2.2.1 q (G.lo h))
  exact WG.of (w := G.fr m m' G.w (fun i hi => F _ (pr.2.2.1 _ (G.pl i hi).1)) (fun i hi => Nat.lt_of_lt_of_le (pr.2.2.1 _ (G.pl i hi).1) g.1)) (fr := G.fr) (t := G.t) (x := G.x.gr _ (fun q h => h) (fun q h => Or.inl (pr.1 q h)) g (fun q h _ => F q h)) (kk := G.kk) (dg := G.dg.fr ho) (st := G.st.fr ho) (dr := G.dr.fr (F _ (pr.2.2.1 _ G.pb.1)) (F _ (pr.2.2.1 _ G.pb.2))) (pl := fun i hi => ⟨Or.inl (G.pl i hi).1, (G.pl i hi).2⟩) (pb := ⟨Or.inl G.pb.1, Or.inl G.pb.2⟩) (px := G.px)
theorem kN_ok : ∀ k, k < 24 → ((kN k).length ≤ 16 ∧ ∀ v, v ∈ kN k → v < 128) ∧ (rN k).length ≤ 16 ∧ ∀ v, v ∈ rN k → v < 128 := by decide
theorem WG.mlt (G : WG e x0 b0 l0 N f a tx bb C S l nb ad W m) : x0 ≤ m.2.1 := by have := G.x.pr.2.1; have := G.px.1; omega
/-- a name is made and appended -/
theorem wg_kind (G : WG e x0 b0 l0 N f a tx bb C S l nb ad W m) {k : Nat} (hk : k < 24) (hl : l.length ≤ 780) : ∃ r m1 m2 bb', dN e (d + 9) 168 [.int (Int32.ofNat k)] m = some (.inl (some (.ref r)), m1) ∧ dN e (d + 9) 392 [.ref tx, .ref r] m1 = some (.inl (some (.ref tx)), m2) ∧ WG e x0 b0 l0 N f a tx bb' (C + 8) (S + 700) (l ++ kN k) nb ad W m2 := by
  obtain ⟨r, m1, g1, T, F, gg⟩ := v_kind (e := e) (d := d + 1) G.st G.mlt G.px.2.1 hk
  have G1 := G.mak F gg
  obtain ⟨m2, g2, G2⟩ := wg_st (d := d) G1 (T.mono (fun q h => by
    rcases h.1 with y | y
    · exact Or.inl (G.lo y)
    · exact Or.inr ⟨y, h.2⟩)) (kN_ok k hk).1.1 (kN_ok k hk).1.2 (by have := (kN_ok k hk).1.1; omega)
  exact ⟨r, m1, m2, _, g1, g2, G2⟩
theorem wg_reader (G : WG e x0 b0 l0 N f a tx bb C S l nb ad W m) {k : Nat} (hk : k < 24) (hl : l.length ≤ 780) : ∃ r m1 m2 bb', dN e (d + 9) 169 [.int (Int32.ofNat k)] m = some (.inl (some (.ref r)), m1) ∧ dN e (d + 9) 392 [.ref tx, .ref r] m1 = some (.inl (some (.ref tx)), m2) ∧ WG e x0 b0 l0 N f a tx bb' (C + 8) (S + 700) (l ++ rN k) nb ad W m2 := by
  obtain ⟨r, m1, g1, T, F, gg⟩ := v_reader (e := e) (d := d + 1) G.st G.mlt G.px.2.1 hk
  have G1 := G.mak F gg
  obtain ⟨m2, g2, G2⟩ := wg_st (d := d) G1 (T.mono (fun q h => by
    rcases h.1 with y | y
    · exact Or.inl (G.lo y)
    · exact Or.inr ⟨y, h.2⟩)) (kN_ok k hk).2.1 (kN_ok k hk).2.2 (by have := (kN_ok k hk).2.1; omega)
  exact ⟨r, m1, m2, _, g1, g2, G2⟩
end
/-! while classes and readers are told: the bare cells -/
def W1 (e : dEnv) (ad : Nat → Nat) (X : wX) (m : dMem) : Prop := iAd ad (7 + 2 * 0) ∧ oAd e 0 ad ∧ (∀ i, i < 7 + 2 * 0 → ad i < m.2.1) ∧ hA (TW 0) (7 + 2 * 0) ad X m
theorem W1_fr {e : dEnv} {ad : Nat → Nat} {X : wX} : WFR 0 ad (W1 e ad X) := fun m m' h h1 h2 => ⟨h.1, h.2.1, h2, hA_mem h.2.2.2 h1⟩
section
variable {e : dEnv} {ad : Nat → Nat} {X : wX} {m : dMem}
theorem W1.self (Z : W1 e ad X m) : wM 0 ad X m = m := wM_self Z.2.2.2
theorem W1.ch {run : dMem → Option dMem} {X' : wX} (Z : W1 e ad X m) (h : run (wM 0 ad X m) = some (wM 0 ad X' m)) : ∃ m', run m = some m' ∧ W1 e ad X' m' ∧ fW 0 ad m m' 0 0 := by
  rw [Z.self] at h
  exact ⟨_, h, ⟨Z.1, Z.2.1, Z.2.2.1, hA_ovA Z.1⟩, fW.ov⟩
theorem W1_g (Z : W1 e ad X m) {k : Nat} (hk : TWr0 k = 0) : gI m (ad 0) 12 k = some (X 0 k) := by
  have h := ovA_gI (T := TW 0) (X := X) (m := m) (i := 0) (c := 12) (k := k) Z.1 (by omega) rfl hk
  rwa [show ovA (TW 0) (7 + 2 * 0) ad X m = m from Z.self] at h
theorem W1_r (Z : W1 e ad X m) {k q : Nat} (hk : TWr0 k = q + 1) : gR m (ad 0) 12 k = some (ad q) := by
  have h := ovA_gR (T := TW 0) (X := X) (m := m) (i := 0) (c := 12) (k := k) (q := q) Z.1 (by omega) rfl hk
  rwa [show ovA (TW 0) (7 + 2 * 0) ad X m = m from Z.self] at h
theorem W1_a (Z : W1 e ad X m) {i kd n j : Nat} (hi : i < 7) (h0 : TWc i = 0) (hk : TWk i = kd) (h6 : kd ≠ 6) (hn : TWn i = n) (h24 : n ≤ 24) (hj : j < n) : aI m kd (ad i) (Int32.ofNat j) = some (X i j) := by
  have h := ovA_aI (T := TW 0) (X := X) (m := m) (i := i) (kd := kd) (N := n) Z.1 (by omega) h0 hk h6 hn (by omega) hj
  rwa [show ovA (TW 0) (7 + 2 * 0) ad X m = m from Z.self] at h
theorem W1_s (Z : W1 e ad X m) {i kd n j : Nat} {x : Int32} (hi : i < 7) (h0 : TWc i = 0) (hk : TWk i = kd) (h6 : kd ≠ 6) (hn : TWn i = n) (h24 : n ≤ 24) (hj : j < n) (hx : cvI kd x = x) : ∃ m', sI e m kd (ad i) (Int32.ofNat j) x = some m' ∧ W1 e ad (uX X i (wr (X i) j x)) m' ∧ fW 0 ad m m' 0 0 := Z.ch (run := fun m => sI e m kd (ad i) (Int32.ofNat j) x) (by
  have h := ovA_sI (e := e) (T := TW 0) (X := X) (m := m) (i := i) (kd := kd) (N := n) (x := x) Z.1 (by omega) (Z.2.1 i (by omega)) h0 hk h6 hn (by omega) hj
  rw [hx] at h
  exact h)
end
end
