/-! ===== the relation of class and reference ===== -/
noncomputable section
section
variable {Y : Nat} {A : bX} {h h' s s' : sV}
theorem pkN_ag {p : Nat} (hp : p + 6 ≤ 118) (hw : ∀ j, j < 118 → h' j = h j) : pkN h' p = pkN h p := by
  unfold pkN
  simp only [upF]
  rw [hw (p + 0) (by omega), hw (p + 1) (by omega), hw (p + 2) (by omega), hw (p + 3) (by omega), hw (p + 4) (by omega), hw (p + 5) (by omega)]
theorem WN_ag {p : Nat} (hp : p + 6 ≤ 118) (hw : ∀ j, j < 118 → h' j = h j) (W : WN h p) : WN h' p := by
  obtain ⟨a, b, c⟩ := W
  refine ⟨fun i hi => ?_, ?_, fun i hi => ?_⟩
  · rw [hw (p + i) (by omega)]
    exact a i hi
  · rw [hw p (by omega)]
    exact b
  · rw [hw (p + i) (by omega), hw (p + (i + 1)) (by omega)]
    exact c i hi
theorem WH_ag (hw : ∀ j, j < 118 → h' j = h j) (W : WH h) : WH h' := by
  obtain ⟨a, b, c, d, f, g⟩ := W
  have c8 : nN (h 2) ≤ 8 := c.2.2
  have d6 : nN (h 3) ≤ 6 := d.2.2
  refine ⟨?_, ?_, ?_, ?_, fun k hk => ?_, fun r hr => ?_⟩
  · rw [hw 0 (by omega)]; exact a
  · rw [hw 1 (by omega)]; exact b
  · rw [hw 2 (by omega)]; exact c
  · rw [hw 3 (by omega)]; exact d
  · rw [hw 2 (by omega)] at hk
    obtain ⟨f1, f2, f3, f4⟩ := f k hk
    rw [hw (94 + k) (by omega), hw (102 + k) (by omega), hw (110 + k) (by omega)]
    exact ⟨f1, f2, f3, WN_ag (by omega) hw f4⟩
  · rw [hw 3 (by omega)] at hr
    obtain ⟨g1, g2⟩ := g r hr
    rw [hw (40 + r) (by omega)]
    exact ⟨g1, WN_ag (by omega) hw g2⟩
theorem RH_ag (hw : ∀ j, j < 118 → h' j = h j) (W : WH h) (Z : RH A h) : RH A h' := by
  obtain ⟨-, -, c, d, -, -⟩ := W
  have c8 : nN (h 2) ≤ 8 := c.2.2
  have d6 : nN (h 3) ≤ 6 := d.2.2
  obtain ⟨z1, z2, z3, z4, z5, z6⟩ := Z
  refine ⟨?_, ?_, ?_, ?_, fun k hk => ?_, fun r hr => ?_⟩
  · rw [hw 0 (by omega)]; exact z1
  · rw [hw 1 (by omega)]; exact z2
  · rw [hw 2 (by omega)]; exact z3
  · rw [hw 3 (by omega)]; exact z4
  · rw [hw 2 (by omega)] at hk
    rw [hw (94 + k) (by omega), hw (102 + k) (by omega), hw (110 + k) (by omega), pkN_ag (by omega) hw]
    exact z5 k hk
  · rw [hw 3 (by omega)] at hr
    rw [hw (40 + r) (by omega), pkN_ag (by omega) hw]
    exact z6 r hr
theorem bx_ag (hs : ∀ j, j < 315 → s' j = s j) {k f : Nat} (hk : k < 24) (hf : f < 12) : bx s' k f = bx s k f := hs _ (by omega)
theorem WB_ag (hw : ∀ j, j < 118 → h' j = h j) (hs : ∀ j, j < 315 → s' j = s j) {k : Nat} (hk : k < 24) (c8 : nN (h 2) ≤ 8) (W : WB h s k) : WB h' s' k := by
  have b : ∀ f, f < 12 → bx s' k f = bx s k f := fun f hf => bx_ag hs hk hf
  obtain ⟨a1, a2, a3, a4, a5, a6, a7, a8⟩ := W
  have e1 : clN s' k = clN s k := by unfold clN; rw [b 0 (by omega)]
  have n3 : nN (bx s k 8) ≤ 3 := a7.2.2
  have em : mkN h' = mkN h := by unfold mkN; rw [hw 0 (by omega), hw 1 (by omega)]
  unfold WB
  rw [e1, em, b 0 (by omega), b 1 (by omega), b 2 (by omega), b 4 (by omega), b 5 (by omega), b 7 (by omega), b 8 (by omega), hs 0 (by omega), hw 2 (by omega), hw 3 (by omega), hw (94 + clN s k) (by omega)]
  refine ⟨a1, a2, a3, a4, a5, a6, a7, fun i hi => ?_⟩
  rw [b (9 + i) (by omega)]
  exact a8 i hi
theorem WS_ag (hw : ∀ j, j < 118 → h' j = h j) (hs : ∀ j, j < 315 → s' j = s j) (H : WH h) (W : WS Y h s) : WS Y h' s' := by
  have c8 : nN (h 2) ≤ 8 := H.2.2.1.2.2
  obtain ⟨a1, a2, a3, a4, a5, a6⟩ := W
  have b24 : nbS s ≤ 24 := a1.2.2
  have l24 : nlS s ≤ 24 := a2.2.2
  have e1 : nbS s' = nbS s := by unfold nbS; rw [hs 1 (by omega)]
  have e2 : nlS s' = nlS s := by unfold nlS; rw [hs 2 (by omega)]
  refine ⟨by rw [hs 1 (by omega)]; exact a1, by rw [hs 2 (by omega)]; exact a2, by rw [hs 0 (by omega)]; exact a3, fun k hk => ?_, fun i hi => ?_, fun i j hij hj => ?_⟩
  · rw [e1] at hk
    exact WB_ag hw hs (by omega) c8 (a4 k hk)
  · rw [e2] at hi
    obtain ⟨x1, x2, x3⟩ := a5 i hi
    have k24 : nN (s (3 + i)) < 24 := by omega
    have cl := (a4 _ x2).2.1
    have ed : dueS s' h' (nN (s (3 + i))) = dueS s h (nN (s (3 + i))) := by
      unfold dueS
      have ec : clN s' (nN (s (3 + i))) = clN s (nN (s (3 + i))) := by unfold clN; rw [bx_ag hs k24 (by omega)]
      rw [ec, bx_ag hs k24 (by omega), bx_ag hs k24 (by omega), hw (94 + clN s (nN (s (3 + i)))) (by omega)]
    rw [hs (3 + i) (by omega), e1, ed, hs 0 (by omega)]
    exact ⟨x1, x2, x3⟩
  · rw [e2] at hj
    rw [hs (3 + i) (by omega), hs (3 + j) (by omega)]
    exact a6 i j hij hj
theorem OKA_ag (hw : ∀ j, j < 118 → h' j = h j) (hs : ∀ j, j < 315 → s' j = s j) (Z : OKA Y A h s) : OKA Y A h' s' := by
  obtain ⟨⟨r1, r2, r3, r4, r5, r6⟩, W, H⟩ := Z
  have b24 : nbS s ≤ 24 := W.1.2.2
  have l24 : nlS s ≤ 24 := W.2.1.2.2
  have e1 : nbS s' = nbS s := by unfold nbS; rw [hs 1 (by omega)]
  have e2 : nlS s' = nlS s := by unfold nlS; rw [hs 2 (by omega)]
  refine ⟨⟨by rw [hs 2 (by omega)]; exact r1, by rw [hs 1 (by omega)]; exact r2, by rw [hs 0 (by omega)]; exact r3, RH_ag hw H r4, fun k hk => ?_, fun i hi => ?_⟩, WS_ag hw hs H W, WH_ag hw H⟩
  · rw [e1] at hk
    have b : ∀ f, f < 12 → bx s' k f = bx s k f := fun f hf => bx_ag hs (by omega) hf
    have n3 : nN (bx s k 8) ≤ 3 := (W.2.2.2.1 k hk).2.2.2.2.2.2.1.2.2
    obtain ⟨q0, q1, q2, q3, q4, q5, q6, q7, q8⟩ := r5 k hk
    unfold RB
    rw [b 0 (by omega), b 1 (by omega), b 2 (by omega), b 3 (by omega), b 4 (by omega), b 5 (by omega), b 6 (by omega), b 8 (by omega)]
    refine ⟨q0, q1, q2, q3, q4, q5, q6, q7, fun i hi => ?_⟩
    rw [b (9 + i) (by omega)]
    exact q8 i hi
  · rw [e2] at hi
    rw [hs (3 + i) (by omega)]
    exact r6 i hi
end
/-! the relation -/
def BUF (I M : bX) : Prop := ∃ (k : Nat) (B : Nat → Nat), k ≤ 600 ∧ I.1 1 1 = Int32.ofNat k ∧ M.1 0 8 = Int32.ofNat k ∧ (∀ j, B j < 256) ∧ ∀ j, j < k → I.1 2 j = sg8 (B j) ∧ M.1 5 j = Int32.ofNat (B j)
/-- a store of the reference -/
def STO (M : bX) (i : Nat) : sV := fun j => M.1 3 (315 * i + j)
def HIS (YB : Nat) (H : bX) (Ar : Nat → bX) (M : bX) : Prop := ∃ n c, HisOK H n c ∧ M.1 0 5 = Int32.ofNat c ∧ ∀ i, i < c → ∃ Y, Y ≤ YB ∧ OKA Y (Ar (3 + (n + 8 - c + i) % 8)) (M.1 1) (STO M i)
def SLO (YB : Nat) (S : bX) (Ar : Nat → bX) (M : bX) : Prop := ∀ k, k < 2 → S.1 2 k = Int32.ofNat 0 ∧ M.1 4 k = Int32.ofNat 0 ∨ S.1 2 k = Int32.ofNat 1 ∧ M.1 4 k = Int32.ofNat 1 ∧ ∃ Y, Y ≤ YB ∧ OKA Y (Ar (11 + k)) (M.1 1) (STO M (8 + k))
def LOA (YB : Nat) (R : bX) (Ar : Nat → bX) (M : bX) : Prop := R.1 0 6 = Int32.ofNat 0 ∧ M.1 0 1 = Int32.ofNat 0 ∧ okI 0 24 (M.1 2 1) ∨ R.1 0 6 = Int32.ofNat 1 ∧ M.1 0 1 = Int32.ofNat 1 ∧ ∃ Y, Y ≤ YB ∧ OKA Y (Ar 0) (M.1 1) (M.1 2)
def CND (YB : Nat) (R I H S : bX) (Ar : Nat → bX) (M : bX) : Prop := BUF I M ∧ I.1 0 2 = M.1 0 9 ∧ I.1 0 3 = M.1 0 10 ∧ LOA YB R Ar M ∧ HIS YB H Ar M ∧ SLO YB S Ar M
/-- what the relation speaks of is the same -/
def AGM (M M' : bX) : Prop := (∀ k, k = 1 ∨ k = 5 ∨ k = 8 ∨ k = 9 ∨ k = 10 ∨ k = 21 → M'.1 0 k = M.1 0 k) ∧ (∀ j, j < 118 → M'.1 1 j = M.1 1 j) ∧ (∀ j, j < 315 → M'.1 2 j = M.1 2 j) ∧ (∀ j, j < 3150 → M'.1 3 j = M.1 3 j) ∧ M'.1 4 = M.1 4 ∧ M'.1 5 = M.1 5 ∧ M'.1 7 = M.1 7
theorem AGM_mT {M : bX} {c : Nat} : AGM M (mT M c) := ⟨fun k hk => mT_0k (by omega), fun j _ => by rw [mT_n (by omega)], fun j _ => by rw [mT_n (by omega)], fun j _ => by rw [mT_n (by omega)], mT_n (by omega), mT_n (by omega), mT_n (by omega)⟩
theorem AGM_bk {M : bX} {t : sV} : AGM M (bkM M t) := by
  unfold bkM
  refine ⟨fun k hk => ?_, fun j hj => ?_, fun j hj => ?_, fun j hj => ?_, ?_, ?_, ?_⟩
  · rw [uA_n (by omega), uA_n (by omega), mT_0k (by omega)]
  · rw [uA_n (by omega), uA_n (by omega), mT_n (by omega)]
  · rw [uA_n (by omega), uA_s]
    exact if_pos hj
  · rw [uA_s]
    unfold dCp
    rw [if_neg (by omega)]
  · rw [uA_n (by omega), uA_n (by omega), mT_n (by omega)]
  · rw [uA_n (by omega), uA_n (by omega), mT_n (by omega)]
  · rw [uA_n (by omega), uA_n (by omega), mT_n (by omega)]
theorem STO_ag {M M' : bX} (Z : ∀ j, j < 3150 → M'.1 3 j = M.1 3 j) {i : Nat} (hi : i < 10) : ∀ j, j < 315 → STO M' i j = STO M i j := fun j hj => Z _ (by omega)
theorem HIS_ag {YB : Nat} {H M M' : bX} {Ar Ar' : Nat → bX} (h5 : M'.1 0 5 = M.1 0 5) (h1 : ∀ j, j < 118 → M'.1 1 j = M.1 1 j) (h3 : ∀ j, j < 3150 → M'.1 3 j = M.1 3 j) (hA : ∀ i, 3 ≤ i → i < 11 → Ar' i = Ar i) (Z : HIS YB H Ar M) : HIS YB H Ar' M' := by
  obtain ⟨n, c, K, k5, kk⟩ := Z
  have c8 : c ≤ 8 := K.2.2.2
  refine ⟨n, c, K, h5.trans k5, fun i hi => ?_⟩
  obtain ⟨Y, y1, y2⟩ := kk i hi
  rw [hA _ (by omega) (by omega)]
  exact ⟨Y, y1, OKA_ag h1 (STO_ag h3 (by omega)) y2⟩
theorem SLO_ag {YB : Nat} {S M M' : bX} {Ar Ar' : Nat → bX} (h4 : M'.1 4 = M.1 4) (h1 : ∀ j, j < 118 → M'.1 1 j = M.1 1 j) (h3 : ∀ j, j < 3150 → M'.1 3 j = M.1 3 j) (hA : ∀ i, 11 ≤ i → i < 13 → Ar' i = Ar i) (Z : SLO YB S Ar M) : SLO YB S Ar' M' := by
  intro k hk
  rcases Z k hk with ⟨a, b⟩ | ⟨a, b, Y, y1, y2⟩
  · exact Or.inl ⟨a, by rw [h4]; exact b⟩
  · refine Or.inr ⟨a, by rw [h4]; exact b, Y, y1, ?_⟩
    rw [hA _ (by omega) (by omega)]
    exact OKA_ag h1 (STO_ag h3 (by omega)) y2
theorem CND_ag {YB : Nat} {R I H S M M' : bX} {Ar Ar' : Nat → bX} (G : AGM M M') (hA : ∀ i, i ≠ 1 → i ≠ 2 → Ar' i = Ar i) (Z : CND YB R I H S Ar M) : CND YB R I H S Ar' M' := by
  obtain ⟨g0, g1, g2, g3, g4, g5, g7⟩ := G
  obtain ⟨⟨k, B, b1, b2, b3, b4, b5⟩, z2, z3, z4, z5, z6⟩ := Z
  refine ⟨⟨k, B, b1, b2, (g0 8 (by omega)).trans b3, b4, fun j hj => ⟨(b5 j hj).1, by rw [g5]; exact (b5 j hj).2⟩⟩, by rw [g0 9 (by omega)]; exact z2, by rw [g0 10 (by omega)]; exact z3, ?_, HIS_ag (g0 5 (by omega)) g1 g3 (fun i _ _ => hA i (by omega) (by omega)) z5, SLO_ag g4 g1 g3 (fun i _ _ => hA i (by omega) (by omega)) z6⟩
  rcases z4 with ⟨a, b, u⟩ | ⟨a, b, Y, y1, y2⟩
  · exact Or.inl ⟨a, by rw [g0 1 (by omega)]; exact b, by rw [g2 1 (by omega)]; exact u⟩
  · refine Or.inr ⟨a, by rw [g0 1 (by omega)]; exact b, Y, y1, ?_⟩
    rw [hA 0 (by omega) (by omega)]
    exact OKA_ag g1 g2 y2
theorem CND_mono {YB YB' : Nat} {R I H S M : bX} {Ar : Nat → bX} (hY : YB ≤ YB') (Z : CND YB R I H S Ar M) : CND YB' R I H S Ar M := by
  obtain ⟨z1, z2, z3, z4, ⟨n, c, K, k5, kk⟩, z6⟩ := Z
  refine ⟨z1, z2, z3, ?_, ⟨n, c, K, k5, fun i hi => ?_⟩, fun k hk => ?_⟩
  · rcases z4 with ⟨a, b, u⟩ | ⟨a, b, Y, y1, y2⟩
    · exact Or.inl ⟨a, b, u⟩
    · exact Or.inr ⟨a, b, Y, by omega, y2⟩
  · obtain ⟨Y, y1, y2⟩ := kk i hi
    exact ⟨Y, by omega, y2⟩
  · rcases z6 k hk with ⟨a, b⟩ | ⟨a, b, Y, y1, y2⟩
    · exact Or.inl ⟨a, b⟩
    · exact Or.inr ⟨a, b, Y, by omega, y2⟩
def OUTL (o : Nat) (m : dMem) : Prop := ∃ f, m.1 o = some (.inl (1, 1, .inr (.inl f)))
def OUTD (o : Nat) (m : dMem) : Prop := ∃ f, m.1 o = some (.inl (2, 1, .inr (.inr (.inl f))))
def REL (x : Nat) (m0 : dMem) (C S0 YB : Nat) (m : dMem) (R I H S : bX) (Ar : Nat → bX) (M : bX) (l : List Nat) : Prop := (∀ q, q < x → m.1 q = m0.1 q) ∧ hSys x R I H S Ar m ∧ hX (x + 259) (x + 271) C S0 l m ∧ hB TM 8 (x + 261) M m ∧ yT M l ∧ OUTL (x + 269) m ∧ OUTD (x + 270) m ∧ CND YB R I H S Ar M
def RELX (x : Nat) (m0 : dMem) (C S0 YB : Nat) (m : dMem) : Prop := ∃ R I H S Ar M l, REL x m0 C S0 YB m R I H S Ar M l
theorem hX_mem {a b C S C' S' : Nat} {l : List Nat} {m m2 : dMem} (Z : hX a b C S l m) (h1 : ∀ q, (q = a ∨ q = a + 1 ∨ b ≤ q) → m2.1 q = m.1 q) (h2 : m.2.1 ≤ m2.2.1) (h3 : m2.2.1 + C ≤ m.2.1 + C') (h4 : m2.2.2 + S ≤ m.2.2 + S') : hX a b C' S' l m2 := by
  obtain ⟨p, g, w, ⟨F, f1, f2, f3, f4, f5, f6, f7, f8⟩, z2, z3, z4, z5, z6, z7, z8, z9, z10⟩ := Z
  refine ⟨p, g, w, ⟨F, (h1 a (by omega)).trans f1, f2, f3, f4, ?_, f6, f7, f8⟩, z2, z3, z4, by omega, z6, by omega, z8, by omega, by omega⟩
  rw [h1 p (by omega)]
  exact f5
theorem sL_o {e : dEnv} {o : Nat} {m : dMem} {v : Int64} (he : e.1 ≤ o) (Z : OUTL o m) : ∃ m2, sL e m 1 o (Int32.ofNat 0) v = some m2 ∧ aL m2 1 o (Int32.ofNat 0) = some v ∧ (∀ q, q ≠ o → m2.1 q = m.1 q) ∧ m2.2 = m.2 ∧ OUTL o m2 := by
  obtain ⟨f, z⟩ := Z
  have i0 : (Int32.ofNat 0).toInt = 0 := by decide +kernel
  refine ⟨dUp m o (.inl (1, 1, .inr (.inl (dFun f 0 v)))), ?_, ?_, fun q hq => if_neg hq, rfl, ⟨dFun f 0 v, if_pos rfl⟩⟩
  · unfold sL
    rw [z]
    simp only [i0]
    rw [if_pos ⟨trivial, he, by omega, by omega⟩]
    rfl
  · unfold aL
    rw [show (dUp m o (.inl (1, 1, .inr (.inl (dFun f 0 v))))).1 o = some (.inl (1, 1, .inr (.inl (dFun f 0 v)))) from if_pos rfl]
    simp only [i0]
    rw [if_pos ⟨trivial, by omega, by omega⟩]
    rfl
theorem sD_o {e : dEnv} {o : Nat} {m : dMem} {v : UInt64} (he : e.1 ≤ o) (Z : OUTD o m) : ∃ m2, sD e m 2 o (Int32.ofNat 0) v = some m2 ∧ aD m2 2 o (Int32.ofNat 0) = some v ∧ (∀ q, q ≠ o → m2.1 q = m.1 q) ∧ m2.2 = m.2 ∧ OUTD o m2 := by
  obtain ⟨f, z⟩ := Z
  have i0 : (Int32.ofNat 0).toInt = 0 := by decide +kernel
  refine ⟨dUp m o (.inl (2, 1, .inr (.inr (.inl (dFun f 0 v))))), ?_, ?_, fun q hq => if_neg hq, rfl, ⟨dFun f 0 v, if_pos rfl⟩⟩
  · unfold sD
    rw [z]
    simp only [i0]
    rw [if_pos ⟨trivial, he, by omega, by omega⟩]
    rfl
  · unfold aD
    rw [show (dUp m o (.inl (2, 1, .inr (.inr (.inl (dFun f 0 v)))))).1 o = some (.inl (2, 1, .inr (.inr (.inl (dFun f 0 v))))) from if_pos rfl]
    simp only [i0]
    rw [if_pos ⟨trivial, by omega, by omega⟩]
    rfl
theorem aL_m {o : Nat} {m m2 : dMem} {k : Nat} {i : Int32} (h : m2.1 o = m.1 o) : aL m2 k o i = aL m k o i := by unfold aL; rw [h]
theorem aD_m {o : Nat} {m m2 : dMem} {k : Nat} {i : Int32} (h : m2.1 o = m.1 o) : aD m2 k o i = aD m k o i := by unfold aD; rw [h]
theorem aI_m {o : Nat} {m m2 : dMem} {k : Nat} {i : Int32} (h : m2.1 o = m.1 o) : aI m2 k o i = aI m k o i := by unfold aI; rw [h]
theorem aN_m {o : Nat} {m m2 : dMem} (h : m2.1 o = m.1 o) : aN m2 o = aN m o := by unfold aN; rw [h]
end
