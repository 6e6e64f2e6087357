/-! ===== the law's state: the World, the object, the draws ===== -/
noncomputable section
theorem sys_eq {x : Nat} {R I H S : bX} {Ar : Nat → bX} {m m' : dMem} (Z : hSys x R I H S Ar m) (h : ∀ q, x ≤ q → q < x + 259 → m'.1 q = m.1 q) : hSys x R I H S Ar m' := by
  obtain ⟨z1, z2, z3, z4, z5⟩ := Z
  refine ⟨hB_mem z1 (fun i hi => h _ (by omega) (by omega)), hB_mem z2 (fun i hi => h _ (by omega) (by omega)), hB_mem z3 (fun i hi => h _ (by omega) (by omega)), hB_mem z4 (fun i hi => h _ (by omega) (by omega)), fun i hi => ?_⟩
  have b := oA_b i hi
  exact hB_mem (z5 i hi) (fun j hj => h _ (by omega) (by omega))
theorem HisOK_rem {H : bX} {n c : Nat} (K : HisOK H n c) : HisOK (remH H n c) ((n + 1) % 8) (min (c + 1) 8) := by
  refine ⟨?_, Nat.mod_lt _ (by omega), ?_, by omega⟩
  · unfold remH
    rw [uA_s, wr_n (by omega), wr_s]
  · unfold remH
    rw [uA_s, wr_s]
theorem hDig.up {e : dEnv} {x x' : Nat} {m : dMem} (Z : hDig e x m) (h : x ≤ x') : hDig e x' m := ⟨by have := Z.1; omega, by have := Z.2.1; omega, Z.2.2⟩
/-- the object -/
def CLA (e : dEnv) (x Y : Nat) (h s : sV) (m : dMem) : Prop := ∃ R I H S Ar n c, hSys x R I H S Ar m ∧ HisOK H n c ∧ R.1 0 6 = Int32.ofNat 1 ∧ OKA Y (Ar 0) h s
theorem CLA.eq {e : dEnv} {x Y : Nat} {h s : sV} {m m' : dMem} (Z : CLA e x Y h s m) (hq : ∀ q, x ≤ q → q < x + 259 → m'.1 q = m.1 q) : CLA e x Y h s m' := by
  obtain ⟨R, I, H, S, Ar, n, c, z1, z2, z3, z4⟩ := Z
  exact ⟨R, I, H, S, Ar, n, c, sys_eq z1 hq, z2, z3, z4⟩
def GS (e : dEnv) (x0 x b0 l0 N : Nat) (f : Nat → Int32) (a : Nat) (bb : xB) (C S : Nat) (l : List Nat) (nb Y : Nat) (ad : Nat → Nat) (h s : sV) (Yc : Nat) (sc : sV) (m : dMem) : Prop := WST e nb Y ad h s m ∧ CLA e x Yc h sc m ∧ hX (x + 259) bb C S l m ∧ l.length ≤ 280 ∧ hDig e x0 m ∧ hSt e x0 m ∧ DRW b0 l0 N f a m ∧ (∀ i, i < 7 + 2 * nb → bb.1 (ad i) ∧ (ad i < x ∨ x + 259 ≤ ad i) ∧ ad i ≠ b0 ∧ ad i ≠ l0 ∧ x0 ≤ ad i) ∧ (b0 < x ∧ l0 < x) ∧ (e.1 ≤ x0 ∧ x0 ≤ b0 ∧ x0 ≤ x)
section
variable {e : dEnv} {d x0 x b0 l0 N a C S nb Y Yc : Nat} {f : Nat → Int32} {bb : xB} {l : List Nat} {ad : Nat → Nat} {h s sc : sV} {m : dMem}
theorem GS.w (G : GS e x0 x b0 l0 N f a bb C S l nb Y ad h s Yc sc m) : WST e nb Y ad h s m := G.1
theorem GS.c (G : GS e x0 x b0 l0 N f a bb C S l nb Y ad h s Yc sc m) : CLA e x Yc h sc m := G.2.1
theorem GS.t (G : GS e x0 x b0 l0 N f a bb C S l nb Y ad h s Yc sc m) : hX (x + 259) bb C S l m := G.2.2.1
theorem GS.tl (G : GS e x0 x b0 l0 N f a bb C S l nb Y ad h s Yc sc m) : l.length ≤ 280 := G.2.2.2.1
theorem GS.dg (G : GS e x0 x b0 l0 N f a bb C S l nb Y ad h s Yc sc m) : hDig e x m := G.2.2.2.2.1.up G.2.2.2.2.2.2.2.2.2.2.2
theorem GS.he (G : GS e x0 x b0 l0 N f a bb C S l nb Y ad h s Yc sc m) : e.1 ≤ x := by have := G.2.2.2.2.2.2.2.2.2; omega
/-- other cells change, new ones come -/
theorem GS.fr (G : GS e x0 x b0 l0 N f a bb C S l nb Y ad h s Yc sc m) {m' : dMem} {c z : Nat} (F : ∀ q, q < m.2.1 → m'.1 q = m.1 q) (g : fG m m' c z) : GS e x0 x b0 l0 N f a bb (C + c) (S + z) l nb Y ad h s Yc sc m' := by
  obtain ⟨w, k, t, tl, dg, st, dr, pl, pb, px⟩ := G
  have pr := t.pr
  have p1 := pr.2.1
  exact ⟨w.fr (fun i hi => F _ (pr.2.2.1 _ (pl i hi).1)) (fun i hi => Nat.lt_of_lt_of_le (pr.2.2.1 _ (pl i hi).1) g.1), k.eq (fun q h1 h2 => F q (by omega)), t.kp g (fun q h1 _ => F q h1), tl, dg.fr (fun q h => F q (by omega)), st.fr (fun q h => F q (by omega)), dr.fr (F _ (by omega)) (F _ (by omega)), pl, pb, px⟩
/-- what was made elsewhere is not to be touched either -/
theorem GS.mak (G : GS e x0 x b0 l0 N f a bb C S l nb Y ad h s Yc sc m) {m' : dMem} {c z : Nat} (F : ∀ q, q < m.2.1 → m'.1 q = m.1 q) (g : fG m m' c z) : GS e x0 x b0 l0 N f a (fun q => bb.1 q ∨ (m.2.1 ≤ q ∧ q < m'.2.1), bb.2) (C + c) (S + z) l nb Y ad h s Yc sc m' := by
  have G' := G.fr F g
  have pr := G.t.pr
  obtain ⟨w, k, t, tl, dg, st, dr, pl, pb, px⟩ := G'
  exact ⟨w, k, G.t.gr _ (fun q h => h) (fun q h => Or.inl (pr.1 q h)) g (fun q h _ => F q h), tl, dg, st, dr, fun i hi => ⟨Or.inl (pl i hi).1, (pl i hi).2⟩, pb, px⟩
theorem GS.le (G : GS e x0 x b0 l0 N f a bb C S l nb Y ad h s Yc sc m) {C' S' : Nat} (h1 : C ≤ C') (h2 : S ≤ S') : GS e x0 x b0 l0 N f a bb C' S' l nb Y ad h s Yc sc m := ⟨G.1, G.2.1, G.2.2.1.le1 h1 h2, G.2.2.2⟩
/-- an exception was made -/
def mTh (m : dMem) : dMem := (m.1, m.2.1 + 1, m.2.2 + 6)
theorem GS.th (G : GS e x0 x b0 l0 N f a bb C S l nb Y ad h s Yc sc m) : GS e x0 x b0 l0 N f a bb (C + 1) (S + 6) l nb Y ad h s Yc sc (mTh m) := G.fr (fun _ _ => rfl) (fG.of rfl)
theorem g_draw (G : GS e x0 x b0 l0 N f a bb C S l nb Y ad h s Yc sc m) {lo hi : Nat} (ha : a < 1000000) (h1 : lo ≤ hi) (h2 : hi < 1000000) : ∃ v m', dN e (d + 1) 164 [.ref b0, .int (Int32.ofNat lo), .int (Int32.ofNat hi)] m = rI (Int32.ofNat v) m' ∧ lo ≤ v ∧ v ≤ hi ∧ GS e x0 x b0 l0 N f (a + 1) bb C S l nb Y ad h s Yc sc m' := by
  obtain ⟨w, k, t, tl, dg, st, dr, pl, pb, px⟩ := G
  obtain ⟨v, m', g, v1, v2, D, o, s2⟩ := d_next (e := e) (d := d) dr (by omega) ha h1 h2
  have pr := t.pr
  have X' : hX (x + 259) bb (C + 0) (S + 0) l m' := t.kp (fG.eq s2) (fun q h1 h2 => o q (fun z => h2 (pr.1 q (by omega))))
  exact ⟨v, m', g, v1, v2, w.fr (fun i hi => o _ (pl i hi).2.2.1) (fun i hi => by rw [s2]; exact pr.2.2.1 _ (pl i hi).1), k.eq (fun q h1 h2 => o q (by omega)), X', tl, dg.fr (fun q h => o q (by omega)), st.fr (fun q h => o q (by omega)), D, pl, pb, px⟩
/-- the World changes -/
theorem GS.wd (G : GS e x0 x b0 l0 N f a bb C S l nb Y ad h s Yc sc m) {Y' : Nat} {s' : sV} {m' : dMem} {c z : Nat} (W' : WST e nb Y' ad h s' m') (F : fW nb ad m m' c z) : GS e x0 x b0 l0 N f a bb (C + c) (S + z) l nb Y' ad h s' Yc sc m' := by
  obtain ⟨w, k, t, tl, dg, st, dr, pl, pb, px⟩ := G
  have pr := t.pr
  have p1 := pr.2.1
  exact ⟨W', k.eq (fun q h1 h2 => F.1 q (by omega) (fun i hi z => by have := (pl i hi).2.1; omega)), t.kp (fG.of F.2) (fun q h1 h2 => F.1 q h1 (fun i hi z => h2 (z ▸ (pl i hi).1))), tl, dg.fr (fun q h => F.1 q (by omega) (fun i hi z => by have := (pl i hi).2.2.2.2; omega)), st.fr (fun q h => F.1 q (by omega) (fun i hi z => by have := (pl i hi).2.2.2.2; omega)), dr.fr (F.1 _ (by omega) (fun i hi => (pl i hi).2.2.1)) (F.1 _ (by omega) (fun i hi => (pl i hi).2.2.2.1)), pl, pb, px⟩
/-- a box is made -/
theorem GS.add (G : GS e x0 x b0 l0 N f a bb C S l nb Y ad h s Yc sc m) {s' : sV} {m' : dMem} (hnb : nb < 24) (W' : WST e (nb + 1) Y (xAd ad nb m.2.1) h s' m') (F : fW nb ad m m' 2 15) : ∃ bb', GS e x0 x b0 l0 N f a bb' (C + 2) (S + 15) l (nb + 1) Y (xAd ad nb m.2.1) h s' Yc sc m' := by
  obtain ⟨w, k, t, tl, dg, st, dr, pl, pb, px⟩ := G
  have pr := t.pr
  have p1 := pr.2.1
  have e1 : m'.2.1 = m.2.1 + 2 := by rw [F.2]
  refine ⟨(fun q => bb.1 q ∨ (m.2.1 ≤ q ∧ q < m'.2.1), bb.2), W', k.eq (fun q h1 h2 => F.1 q (by omega) (fun i hi z => by have := (pl i hi).2.1; omega)), t.gr _ (fun q h => h) (fun q h => Or.inl (pr.1 q h)) (fG.of F.2) (fun q h1 h2 => F.1 q h1 (fun i hi z => h2 (z ▸ (pl i hi).1))), tl, dg.fr (fun q h => F.1 q (by omega) (fun i hi z => by have := (pl i hi).2.2.2.2; omega)), st.fr (fun q h => F.1 q (by omega) (fun i hi z => by have := (pl i hi).2.2.2.2; omega)), dr.fr (F.1 _ (by omega) (fun i hi => (pl i hi).2.2.1)) (F.1 _ (by omega) (fun i hi => (pl i hi).2.2.2.1)), fun i hi => ?_, pb, px⟩
  by_cases q1 : i = 7 + 2 * nb
  · subst q1
    rw [xAd_b]
    exact ⟨Or.inr ⟨Nat.le_refl _, by omega⟩, by omega, by omega, by omega, by omega⟩
  · by_cases q2 : i = 7 + 2 * nb + 1
    · subst q2
      rw [xAd_q]
      exact ⟨Or.inr ⟨by omega, by omega⟩, by omega, by omega, by omega, by omega⟩
    · rw [xAd_o (by omega)]
      have := pl i (by omega)
      exact ⟨Or.inl this.1, this.2⟩
/-- the object changes -/
theorem GS.chg (G : GS e x0 x b0 l0 N f a bb C S l nb Y ad h s Yc sc m) {Y' : Nat} {s' : sV} {m' : dMem} (F : frm x m m') (K : CLA e x Y' h s' m') : GS e x0 x b0 l0 N f a bb C S l nb Y ad h s Y' s' m' := by
  obtain ⟨w, k, t, tl, dg, st, dr, pl, pb, px⟩ := G
  have pr := t.pr
  have p1 := pr.2.1
  have X' : hX (x + 259) bb (C + 0) (S + 0) l m' := t.kp (fG.eq F.2) (fun q h1 h2 => F.1 q (by
    rcases Nat.lt_or_ge q (x + 259) with z | z
    · exact absurd (pr.1 q z) h2
    · exact Or.inr z))
  exact ⟨w.fr (fun i hi => F.1 _ (pl i hi).2.1) (fun i hi => by rw [F.2]; exact pr.2.2.1 _ (pl i hi).1), K, X', tl, dg.fr (fun q h => F.1 q (by omega)), st.fr (fun q h => F.1 q (by omega)), dr.fr (F.1 _ (by omega)) (F.1 _ (by omega)), pl, pb, px⟩
/-- the object's text changes -/
theorem GS.txt (G : GS e x0 x b0 l0 N f a bb C S l nb Y ad h s Yc sc m) {l' : List Nat} {m' : dMem} (Z : hX (x + 259) bb C S l' m') (hl : l'.length ≤ 280) (F : frX (x + 259) bb m m') : GS e x0 x b0 l0 N f a bb C S l' nb Y ad h s Yc sc m' := by
  obtain ⟨w, k, t, tl, dg, st, dr, pl, pb, px⟩ := G
  have pr := t.pr
  exact ⟨w.fr (fun i hi => F _ (pl i hi).1) (fun i hi => Z.pr.2.2.1 _ (pl i hi).1), k.eq (fun q h1 h2 => F q (pr.1 q (by omega))), Z, hl, dg.fr (fun q h => F q (pr.1 q (by omega))), st.fr (fun q h => F q (pr.1 q (by omega))), dr.fr (F _ (pr.1 _ (by omega))) (F _ (pr.1 _ (by omega))), pl, pb, px⟩
/-- a change of the object, out of its own words -/
theorem CLA.of {R I H S' : bX} {Ar : Nat → bX} {n c Y' : Nat} {s' : sV} {m' : dMem} (K : HisOK H n c) (hl : R.1 0 6 = Int32.ofNat 1) (Z : Chg x R I H S' Ar n c Y' h s' m m') : CLA e x Y' h s' m' ∧ frm x m m' := by
  obtain ⟨B', A', z1, z2, z3, z4⟩ := Z
  exact ⟨⟨R, I, _, S', _, _, _, z1, HisOK_rem K, hl, by rw [seA_s]; exact z3⟩, z4⟩
end
end
