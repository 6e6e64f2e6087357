/-! ===== the boxes, one behind the other; the list (printed by wip/p67/lw9.py) ===== -/
noncomputable section
theorem sumI_s (f : Nat → Int32) (k : Nat) : sumI f (k + 1) = sumI f k + f k := rfl
theorem mrk_len {Y : Nat} {s h : sV} {k : Nat} (W : WS Y h s) (H : WH h) (hk : k < nbS s) : (mrkS s h k).length ≤ 20 := by
  unfold mrkS
  have h1 := nmK_len (h := h) (p := 46 + 6 * clN s k) (n := 6) (i := 0)
  have hP : nN (bx s k 4) % nN (h 1) < 10 := by
    have h8 := H.2.1.2.2
    have h0 := H.2.1.2.1
    have := Nat.mod_lt (nN (bx s k 4)) (show 0 < nN (h 1) by omega)
    omega
  have h2 := dl1 hP
  have h3 : (if gonB s k = true then [45] else [65 + nN (bx s k 4) / nN (h 1)] ++ dig (nN (bx s k 4) % nN (h 1))).length ≤ 2 := by
    split
    · decide
    · simp only [List.length_append, List.length_cons, List.length_nil]; omega
  simp only [List.length_append, List.length_cons, List.length_nil]
  omega
/-- the boxes' loop: the list's text lies there untouched -/
def BXS (e : dEnv) (x0 x b0 l0 N : Nat) (f : Nat → Int32) (a nb Y : Nat) (ad : Nat → Nat) (h s : sV) (lq : Nat) (m0 : dMem) (C SS : Nat) (m : dMem) : Prop := ∃ bb l, GS e x0 x b0 l0 N f a bb C SS l nb Y ad h s Y s m ∧ bb.1 lq ∧ bb.1 (lq + 1) ∧ (∀ q, lq ≤ q → q < lq + 2 → m.1 q = m0.1 q) ∧ lq + 2 ≤ m.2.1
section
variable {e : dEnv} {d x0 x b0 l0 N a C SS nb Y S P K R k w lq : Nat} {f : Nat → Int32} {bb : xB} {l : List Nat} {ad : Nat → Nat} {h s : sV} {m m0 : dMem}
theorem BXS.le {C' S' : Nat} (G : BXS e x0 x b0 l0 N f a nb Y ad h s lq m0 C SS m) (h1 : C ≤ C') (h2 : SS ≤ S') : BXS e x0 x b0 l0 N f a nb Y ad h s lq m0 C' S' m := by
  obtain ⟨bb, l, G, z⟩ := G
  exact ⟨bb, l, G.le h1 h2, z⟩
theorem b_step (I : BXS e x0 x b0 l0 N f a nb Y ad h s lq m0 C SS m) (Q : QR h S P K R) (hk : k < nb) : ∃ m', BXS e x0 x b0 l0 N f a nb Y ad h s lq m0 (C + 15) (SS + 1258) m' ∧ ∀ t, ∃ t', t ≤ t' ∧ runL e (dN e (d + 19)) 196 (t + 40) 1 [some (.ref x), some (.ref (ad 0)), some (.int (sumI (fun k => if gonB s k = true then Int32.ofNat 0 else s 0 - bx s k 1) k)), some (.int (Int32.ofNat (cnt (fun k => !gonB s k) k))), some (.int (oI (ndF s h k))), some (.ref (lq)), some (.int (Int32.ofNat k)), none, none, none] [] m = runL e (dN e (d + 19)) 196 t' 1 [some (.ref x), some (.ref (ad 0)), some (.int (sumI (fun k => if gonB s k = true then Int32.ofNat 0 else s 0 - bx s k 1) (k + 1))), some (.int (Int32.ofNat (cnt (fun k => !gonB s k) (k + 1)))), some (.int (oI (ndF s h (k + 1)))), some (.ref (lq)), some (.int (Int32.ofNat (k + 1))), none, none, none] [] m' := by
  obtain ⟨bb, l, G, b1, b2, bF, bl⟩ := I
  have nn := Q.nn
  have qe := Q.e
  have QQ := Q
  obtain ⟨T, s1, s2, p1, p2, k1, k2, u1, u2⟩ := Q
  have hns := G.w.nbs
  have hks : k < nbS s := by omega
  obtain ⟨r, m1, m2, m3, m4, g1, r2, g3, c0, g4, m5, bt, g5, X5, btl, o5, gg5⟩ := b_mark (d := d) (lq := lq) G QQ hk
  have G5 := G.mak o5 gg5
  have g10 := f_b10g G5.w hk
  have wb := G.w.ws.1.2.2.2.1 k hks
  -- sums and the first
  have r3 : ∀ t, ∃ t', t ≤ t' ∧ runL e (dN e (d + 19)) 196 (t + 2) 3 [some (.ref x), some (.ref (ad 0)), some (.int (sumI (fun k => if gonB s k = true then Int32.ofNat 0 else s 0 - bx s k 1) k)), some (.int (Int32.ofNat (cnt (fun k => !gonB s k) k))), some (.int (oI (ndF s h k))), some (.ref (lq)), some (.int (Int32.ofNat k)), some (.ref (ad (7 + 2 * k))), some (.ref (m.2.1)), none] [] m2 = runL e (dN e (d + 19)) 196 t' 5 [some (.ref x), some (.ref (ad 0)), some (.int (sumI (fun k => if gonB s k = true then Int32.ofNat 0 else s 0 - bx s k 1) (k + 1))), some (.int (Int32.ofNat (cnt (fun k => !gonB s k) (k + 1)))), some (.int (oI (ndF s h (k + 1)))), some (.ref (lq)), some (.int (Int32.ofNat k)), some (.ref (ad (7 + 2 * k))), some (.ref (m.2.1)), none] [] m5 := by
    intro t
    have st : runL e (dN e (d + 19)) 196 (t + 2) 3 [some (.ref x), some (.ref (ad 0)), some (.int (sumI (fun k => if gonB s k = true then Int32.ofNat 0 else s 0 - bx s k 1) k)), some (.int (Int32.ofNat (cnt (fun k => !gonB s k) k))), some (.int (oI (ndF s h k))), some (.ref (lq)), some (.int (Int32.ofNat k)), some (.ref (ad (7 + 2 * k))), some (.ref (m.2.1)), none] [] m2 = (if bI (gonB s k) = Int32.ofNat 0 then (if h (110 + clN s k) = Int32.ofNat 0 then (if oI (ndF s h k) < Int32.ofNat 0 then runL e (dN e (d + 19)) 196 (t + 1) 4 [some (.ref x), some (.ref (ad 0)), some (.int (sumI (fun k => if gonB s k = true then Int32.ofNat 0 else s 0 - bx s k 1) k + (s 0 - bx s k 1))), some (.int (Int32.ofNat (cnt (fun k => !gonB s k) k) + Int32.ofNat 1)), none, some (.ref (lq)), some (.int (Int32.ofNat k)), some (.ref (ad (7 + 2 * k))), some (.ref (m.2.1)), none] [] m5 else (kI (dN e (d + 19) 175 [.ref (ad 0), .ref (ad (7 + 2 * k))] m5) dPass fun v15 m14 => ((gR m14 (ad 0) 12 9).bind fun v16 => ((aR m14 6 v16 (oI (ndF s h k))).bind fun v17 => (kI (dN e (d + 19) 175 [.ref (ad 0), .ref v17] m14) dPass fun v19 m18 => (if v15 < v19 then runL e (dN e (d + 19)) 196 (t + 1) 4 [some (.ref x), some (.ref (ad 0)), some (.int (sumI (fun k => if gonB s k = true then Int32.ofNat 0 else s 0 - bx s k 1) k + (s 0 - bx s k 1))), some (.int (Int32.ofNat (cnt (fun k => !gonB s k) k) + Int32.ofNat 1)), none, some (.ref (lq)), some (.int (Int32.ofNat k)), some (.ref (ad (7 + 2 * k))), some (.ref (m.2.1)), none] [] m18 else runL e (dN e (d + 19)) 196 (t + 1) 5 [some (.ref x), some (.ref (ad 0)), some (.int (sumI (fun k => if gonB s k = true then Int32.ofNat 0 else s 0 - bx s k 1) k + (s 0 - bx s k 1))), some (.int (Int32.ofNat (cnt (fun k => !gonB s k) k) + Int32.ofNat 1)), some (.int (oI (ndF s h k))), some (.ref (lq)), some (.int (Int32.ofNat k)), some (.ref (ad (7 + 2 * k))), some (.ref (m.2.1)), none] [] m18)))))) else runL e (dN e (d + 19)) 196 (t + 1) 5 [some (.ref x), some (.ref (ad 0)), some (.int (sumI (fun k => if gonB s k = true then Int32.ofNat 0 else s 0 - bx s k 1) k + (s 0 - bx s k 1))), some (.int (Int32.ofNat (cnt (fun k => !gonB s k) k) + Int32.ofNat 1)), some (.int (oI (ndF s h k))), some (.ref (lq)), some (.int (Int32.ofNat k)), some (.ref (ad (7 + 2 * k))), some (.ref (m.2.1)), none] [] m5) else runL e (dN e (d + 19)) 196 (t + 1) 5 [some (.ref x), some (.ref (ad 0)), some (.int (sumI (fun k => if gonB s k = true then Int32.ofNat 0 else s 0 - bx s k 1) k)), some (.int (Int32.ofNat (cnt (fun k => !gonB s k) k))), some (.int (oI (ndF s h k))), some (.ref (lq)), some (.int (Int32.ofNat k)), some (.ref (ad (7 + 2 * k))), some (.ref (m.2.1)), none] [] m5) := by
      have hk0 : bx s k 0 = Int32.ofNat (clN s k) := wb.1.1
      have fe := f_evr G5.w (c := clN s k) wb.2.1 (by have := wb.2.1; omega)
      rw [q196_3, g3, kR_r, c0, bd_s, g4, kR_r, g5, kR_r, g10, bd_s, f_yr G5.w, bd_s, f_b1 G5.w hk, bd_s, f_revr G5.w, bd_s, f_b0 G5.w hk, bd_s, hk0, fe, bd_s]
    cases hg : gonB s k with
    | true =>
      have ea : sumI (fun k => if gonB s k = true then Int32.ofNat 0 else s 0 - bx s k 1) (k + 1) = sumI (fun k => if gonB s k = true then Int32.ofNat 0 else s 0 - bx s k 1) k := by
        rw [sumI_s, hg, if_pos rfl]
        exact Int32.add_zero _
      have ec : cnt (fun k => !gonB s k) (k + 1) = cnt (fun k => !gonB s k) k := cnt_f (by rw [hg]; rfl)
      have en : ndF s h (k + 1) = ndF s h k := by
        show (bif !gonB s k && !forB s h k then _ else ndF s h k) = _
        rw [hg]
        rfl
      refine ⟨t + 1, by omega, ?_⟩
      rw [st, hg, if_neg (by decide +kernel), ea, ec, en]
    | false =>
      have ea : sumI (fun k => if gonB s k = true then Int32.ofNat 0 else s 0 - bx s k 1) (k + 1) = sumI (fun k => if gonB s k = true then Int32.ofNat 0 else s 0 - bx s k 1) k + (s 0 - bx s k 1) := by
        rw [sumI_s, hg, if_neg Bool.false_ne_true]
      have ec : cnt (fun k => !gonB s k) (k + 1) = cnt (fun k => !gonB s k) k + 1 := cnt_t (by rw [hg]; rfl)
      have hfb : h (110 + clN s k) = bI (forB s h k) := h01 G.w.ws.2 wb.2.1
      have en : ndF s h (k + 1) = bif !forB s h k then (match ndF s h k with | none => some k | some j => if dueS s h k < dueS s h j then some k else some j) else ndF s h k := by
        show (bif !gonB s k && !forB s h k then _ else ndF s h k) = _
        rw [hg]
        rfl
      have hol := oI_lt (fun j (hj : ndF s h k = some j) => ndF_lt hj) (show k ≤ 1000 by omega)
      rw [st, hg, bI_f, if_pos rfl, hfb, ea, ec, en]
      cases hfo : forB s h k with
      | true =>
        refine ⟨t + 1, by omega, ?_⟩
        rw [if_neg (by decide +kernel), nAdd]
        rfl
      | false =>
        rw [bI_f, if_pos rfl]
        simp only [Bool.not_false, cond_true]
        cases hn : ndF s h k with
        | none =>
          rw [hn] at hol
          refine ⟨t, Nat.le_refl _, ?_⟩
          rw [if_pos (by rw [hol]), q196_4, nAdd]
          rfl
        | some j =>
          have hj := ndF_lt hn
          rw [hn] at hol
          have hj0 : ¬ oI (some j) < Int32.ofNat 0 := by rw [hol]; exact fun q => by cases q
          have vj := v_due (e := e) (d := d + 18) G5.w (k := j) (by omega)
          have ab : aR m5 6 (ad 5) (oI (some j)) = some (ad (7 + 2 * j)) := f_box G5.w (by omega) (by omega)
          rw [if_neg hj0, v_due (d := d + 18) G5.w hk, kI_r, f_rbxs G5.w, bd_s, ab, bd_s, vj, kI_r]
          by_cases hlt : dueS s h k < dueS s h j
          · refine ⟨t, Nat.le_refl _, ?_⟩
            rw [if_pos hlt, q196_4, nAdd]
            simp only [if_pos hlt]
            rfl
          · refine ⟨t + 1, by omega, ?_⟩
            rw [if_neg hlt, nAdd]
            simp only [if_neg hlt]
  -- answers and the mark
  have ml := mrk_len G.w.ws.1 G.w.ws.2 hks
  obtain ⟨R', I', H', S', Ar, n, c, Kc, -, hl, KA⟩ := G5.c
  obtain ⟨m6, g6, Z6, F6⟩ := a135_0 (e := e) (d := d + 11) G5.he Kc.1 (Kc.2.2.2.2 0 (by omega)) hl KA (k := k) hns.2.2 hns.2.1 hk G5.dg G5.t
  have G6 := G5.txt Z6 (by omega) F6
  have Zc : hCS m.2.1 (mrkS s h k) m6 := X5.cs3 (fun q h1 _ h2 => F6 q (Or.inr ⟨h1, h2⟩))
  have g7 := g_isText (d := d + 12) G6 Zc
  have G7 := G6.th
  have r5 : ∀ t, ∃ t', t ≤ t' ∧ runL e (dN e (d + 19)) 196 (t + 4) 5 [some (.ref x), some (.ref (ad 0)), some (.int (sumI (fun k => if gonB s k = true then Int32.ofNat 0 else s 0 - bx s k 1) (k + 1))), some (.int (Int32.ofNat (cnt (fun k => !gonB s k) (k + 1)))), some (.int (oI (ndF s h (k + 1)))), some (.ref (lq)), some (.int (Int32.ofNat k)), some (.ref (ad (7 + 2 * k))), some (.ref (m.2.1)), none] [] m5 = runL e (dN e (d + 19)) 196 t' 10 [some (.ref x), some (.ref (ad 0)), some (.int (sumI (fun k => if gonB s k = true then Int32.ofNat 0 else s 0 - bx s k 1) (k + 1))), some (.int (Int32.ofNat (cnt (fun k => !gonB s k) (k + 1)))), some (.int (oI (ndF s h (k + 1)))), some (.ref (lq)), some (.int (Int32.ofNat k)), none, none, some (.int (Int32.ofNat 0))] [] (mTh m6) := by
    intro t
    have st : runL e (dN e (d + 19)) 196 (t + 4) 5 [some (.ref x), some (.ref (ad 0)), some (.int (sumI (fun k => if gonB s k = true then Int32.ofNat 0 else s 0 - bx s k 1) (k + 1))), some (.int (Int32.ofNat (cnt (fun k => !gonB s k) (k + 1)))), some (.int (oI (ndF s h (k + 1)))), some (.ref (lq)), some (.int (Int32.ofNat k)), some (.ref (ad (7 + 2 * k))), some (.ref (m.2.1)), none] [] m5 = (if bx s k 3 < s 0 then runL e (dN e (d + 19)) 196 (t + 3) 6 [some (.ref x), some (.ref (ad 0)), some (.int (sumI (fun k => if gonB s k = true then Int32.ofNat 0 else s 0 - bx s k 1) (k + 1))), some (.int (Int32.ofNat (cnt (fun k => !gonB s k) (k + 1)))), some (.int (oI (ndF s h (k + 1)))), some (.ref (lq)), some (.int (Int32.ofNat k)), none, some (.ref (m.2.1)), none] [.int (bI (selB s k))] m5 else runL e (dN e (d + 19)) 196 (t + 3) 7 [some (.ref x), some (.ref (ad 0)), some (.int (sumI (fun k => if gonB s k = true then Int32.ofNat 0 else s 0 - bx s k 1) (k + 1))), some (.int (Int32.ofNat (cnt (fun k => !gonB s k) (k + 1)))), some (.int (oI (ndF s h (k + 1)))), some (.ref (lq)), some (.int (Int32.ofNat k)), none, some (.ref (m.2.1)), none] [.int (Int32.ofNat 1), .int (bI (selB s k))] m5) := by
      rw [q196_5, cq118 G5.c hks, kI_r, v_due (d := d + 18) G5.w hk, kI_r, if_pos rfl, cq120 G5.c hks, kI_r, v_bars (d := d + 17) G5.w hk, kI_r, if_pos rfl, cq114 G5.c hks, kI_r, f_b4 G5.w hk, bd_s, f_yr G5.w, bd_s]
    have fin : ∀ t, runL e (dN e (d + 19)) 196 (t + 2) 7 [some (.ref x), some (.ref (ad 0)), some (.int (sumI (fun k => if gonB s k = true then Int32.ofNat 0 else s 0 - bx s k 1) (k + 1))), some (.int (Int32.ofNat (cnt (fun k => !gonB s k) (k + 1)))), some (.int (oI (ndF s h (k + 1)))), some (.ref (lq)), some (.int (Int32.ofNat k)), none, some (.ref (m.2.1)), none] [.int (bI (selB s k)), .int (bI (selB s k))] m5 = runL e (dN e (d + 19)) 196 t 10 [some (.ref x), some (.ref (ad 0)), some (.int (sumI (fun k => if gonB s k = true then Int32.ofNat 0 else s 0 - bx s k 1) (k + 1))), some (.int (Int32.ofNat (cnt (fun k => !gonB s k) (k + 1)))), some (.int (oI (ndF s h (k + 1)))), some (.ref (lq)), some (.int (Int32.ofNat k)), none, none, some (.int (Int32.ofNat 0))] [] (mTh m6) := by
      intro t
      rw [q196_7, if_pos rfl, g6, kI_r, g7, kI_r, if_neg (by decide +kernel), q196_9]
    by_cases hs : bx s k 3 < s 0
    · have hsl : selB s k = false := by unfold selB; rw [decide_eq_true hs]; rfl
      have f1 := fin t
      rw [hsl] at f1
      exact ⟨t, Nat.le_refl _, by rw [st, if_pos hs, hsl, q196_6]; exact f1⟩
    · have hsl : selB s k = true := by unfold selB; rw [decide_eq_false hs]; rfl
      have f1 := fin (t + 1)
      rw [hsl] at f1
      exact ⟨t + 1, by omega, by rw [st, if_neg hs, hsl]; exact f1⟩
  have r10 : ∀ n i t, i + n = R → runL e (dN e (d + 19)) 196 (t + 2 * n + 2) 10 [some (.ref x), some (.ref (ad 0)), some (.int (sumI (fun k => if gonB s k = true then Int32.ofNat 0 else s 0 - bx s k 1) (k + 1))), some (.int (Int32.ofNat (cnt (fun k => !gonB s k) (k + 1)))), some (.int (oI (ndF s h (k + 1)))), some (.ref (lq)), some (.int (Int32.ofNat k)), none, none, some (.int (Int32.ofNat i))] [] (mTh m6) = runL e (dN e (d + 19)) 196 t 1 [some (.ref x), some (.ref (ad 0)), some (.int (sumI (fun k => if gonB s k = true then Int32.ofNat 0 else s 0 - bx s k 1) (k + 1))), some (.int (Int32.ofNat (cnt (fun k => !gonB s k) (k + 1)))), some (.int (oI (ndF s h (k + 1)))), some (.ref (lq)), some (.int (Int32.ofNat (k + 1))), none, none, none] [] (mTh m6) := by
    intro n
    induction n with
    | zero =>
      intro i t hi
      rw [Nat.mul_zero, Nat.add_zero, q196_10, f_R G7.w, bd_s, qe.2.2.2, if_neg (by rw [nLt (by omega) (by omega)]; omega), q196_12, nAdd]
    | succ n ih =>
      intro i t hi
      rw [show t + 2 * (n + 1) + 2 = t + 2 * n + 2 + 1 + 1 by omega, q196_10, f_R G7.w, bd_s, qe.2.2.2, if_pos (by rw [nLt (by omega) (by omega)]; omega), cq126 G7.c (by omega) (by omega) hks, kI_r, v_bar (d := d + 17) G7.w hk, kI_r, if_pos rfl, q196_11, nAdd, ih (i + 1) t (by omega)]
  have pr := G.t.pr
  have pr7 := G7.t.pr
  refine ⟨mTh m6, ⟨_, _, G7.le (by omega) (by omega), Or.inl b1, Or.inl b2, fun q h1 h2 => ?_, ?_⟩, fun t => ?_⟩
  · have hb : bb.1 q := by
      have : q = lq ∨ q = lq + 1 := by omega
      rcases this with z | z <;> subst z <;> assumption
    show m6.1 q = _
    rw [F6 q (Or.inl hb), o5 q (pr.2.2.1 q hb)]
    exact bF q h1 h2
  · have h1 : bb.1 (lq + 1) := b2
    have h3 := pr7.2.2.1 (lq + 1) (Or.inl b2)
    omega
  · obtain ⟨t1, a1, e1⟩ := r2 (t + 38)
    obtain ⟨v1, rfl⟩ : ∃ u, t1 = u + 2 := ⟨t1 - 2, by omega⟩
    obtain ⟨t2, a2, e2⟩ := r3 v1
    obtain ⟨v2, rfl⟩ : ∃ u, t2 = u + 4 := ⟨t2 - 4, by omega⟩
    obtain ⟨t3, a3, e3⟩ := r5 v2
    obtain ⟨v3, rfl⟩ : ∃ u, t3 = u + 2 * R + 2 := ⟨t3 - (2 * R + 2), by omega⟩
    exact ⟨v3, by omega, by rw [e1, e2, e3, r10 R 0 v3 (by omega)]⟩
end
end
