/-! ===== the lines of that text (pure) ===== -/
noncomputable section
def nmV (w : List Nat) (h : sV) (p : Nat) : sV := fun q => if p ≤ q ∧ q < p + 6 then nmE w (q - p) else h q
def clsE (w : List Nat) (h : sV) (p q f : Nat) : sV := wr (wr (wr (wr (nmV w h (46 + 6 * nN (h 2))) (94 + nN (h 2)) (Int32.ofNat p)) (102 + nN (h 2)) (Int32.ofNat q)) (110 + nN (h 2)) (Int32.ofNat f)) 2 (Int32.ofNat (nN (h 2) + 1))
def rdrE (w : List Nat) (h : sV) (p : Nat) : sV := wr (wr (nmV w h (4 + 6 * nN (h 3))) (40 + nN (h 3)) (Int32.ofNat p)) 3 (Int32.ofNat (nN (h 3) + 1))
theorem nmW_t {T : dTok} {c p q K : Nat} {w : List Nat} {h : sV} (Z : TKN T c p w K) : nmW T c h q = nmV w h q := by
  funext i
  unfold nmW nmV
  rw [nmL_t Z]
theorem clsH_t {T : dTok} {c p a b f K : Nat} {w : List Nat} {h : sV} (Z : TKN T c p w K) : clsH T c h a b f = clsE w h a b f := by
  unfold clsH clsE
  rw [nmW_t Z]
theorem rdrH_t {T : dTok} {c p a K : Nat} {w : List Nat} {h : sV} (Z : TKN T c p w K) : rdrH T c h a = rdrE w h a := by
  unfold rdrH rdrE
  rw [nmW_t Z]
theorem hasN_t {T : dTok} {c p q n K : Nat} {w : List Nat} {h : sV} (Z : TKN T c p w K) (hd : ∀ k, k < n → ∃ i, i < 6 ∧ h (q + 6 * k + i) ≠ nmE w i) : hasN T c h q n = false := by
  unfold hasN
  refine anyB_no.mpr (fun k hk => ?_)
  obtain ⟨i, i1, i2⟩ := hd k hk
  rw [anyB_iff.mpr ⟨i, i1, by rw [nmL_t Z, decide_eq_false i2]; rfl⟩]
  rfl
theorem pName_t {T : dTok} {c p q n : Nat} {w : List Nat} {h : sV} (Z : TKN T c p w 1) (l6 : w.length ≤ 6) (hd : ∀ k, k < n → ∃ i, i < 6 ∧ h (q + 6 * k + i) ≠ nmE w i) : pName T c h q n = .inr () := by
  unfold pName
  rw [kd_w Z (by omega), decide_eq_true rfl, pC_t, hasN_t Z hd, Z.2.2.2.1, decide_eq_false (by omega)]
  rfl
section
variable {T : dTok} {rp : Nat → Nat → pSt → pRs} {dp : Bool} {c p : Nat} {s h : sV} {y : Nat}
theorem li_1 (Z : TKN T c p (wd 1) 1) : lineP T rp dp (c, s, h, y) = pClass T (c, s, h, y) := by
  unfold lineP
  rw [if_pos (by rw [isW_t Z]; decide)]
theorem li_2 (Z : TKN T c p (wd 2) 1) : lineP T rp dp (c, s, h, y) = pNew T (c, s, h, y) := by
  unfold lineP
  rw [if_neg (by rw [isW_t Z]; decide), if_pos (by rw [isW_t Z]; decide)]
theorem li_3 (Z : TKN T c p (wd 3) 1) : lineP T rp dp (c, s, h, y) = pReader T (c, s, h, y) := by
  unfold lineP
  rw [if_neg (by rw [isW_t Z]; decide), if_neg (by rw [isW_t Z]; decide), if_pos (by rw [isW_t Z]; decide)]
theorem li_4 (Z : TKN T c p (wd 4) 1) : lineP T rp dp (c, s, h, y) = pSeal T (c, s, h, y) := by
  unfold lineP
  rw [if_neg (by rw [isW_t Z]; decide), if_neg (by rw [isW_t Z]; decide), if_neg (by rw [isW_t Z]; decide), if_pos (by rw [isW_t Z]; decide)]
theorem li_5 (Z : TKN T c p (wd 5) 1) : lineP T rp dp (c, s, h, y) = pReq T (c, s, h, y) := by
  unfold lineP
  rw [if_neg (by rw [isW_t Z]; decide), if_neg (by rw [isW_t Z]; decide), if_neg (by rw [isW_t Z]; decide), if_neg (by rw [isW_t Z]; decide), if_pos (by rw [isW_t Z]; decide)]
theorem li_8 (Z : TKN T c p (wd 8) 1) : lineP T rp dp (c, s, h, y) = .inr (c, listsS s h, h, y) := by
  unfold lineP
  rw [if_neg (by rw [isW_t Z]; decide), if_neg (by rw [isW_t Z]; decide), if_neg (by rw [isW_t Z]; decide), if_neg (by rw [isW_t Z]; decide), if_neg (by rw [isW_t Z]; decide), if_neg (by rw [isW_t Z]; decide), if_neg (by rw [isW_t Z]; decide), if_pos (by rw [isW_t Z]; decide)]
theorem li_10 (Z : TKN T c p (wd 10) 1) : lineP T rp dp (c, s, h, y) = .inr (c, aprS s h, h, y) := by
  unfold lineP
  rw [if_neg (by rw [isW_t Z]; decide), if_neg (by rw [isW_t Z]; decide), if_neg (by rw [isW_t Z]; decide), if_neg (by rw [isW_t Z]; decide), if_neg (by rw [isW_t Z]; decide), if_neg (by rw [isW_t Z]; decide), if_neg (by rw [isW_t Z]; decide), if_neg (by rw [isW_t Z]; decide), if_neg (by rw [isW_t Z]; decide), if_pos (by rw [isW_t Z]; decide)]
theorem li_11 (Z : TKN T c p (wd 11) 1) : lineP T rp dp (c, s, h, y) = pPass T (c, s, h, y) := by
  unfold lineP
  rw [if_neg (by rw [isW_t Z]; decide), if_neg (by rw [isW_t Z]; decide), if_neg (by rw [isW_t Z]; decide), if_neg (by rw [isW_t Z]; decide), if_neg (by rw [isW_t Z]; decide), if_neg (by rw [isW_t Z]; decide), if_neg (by rw [isW_t Z]; decide), if_neg (by rw [isW_t Z]; decide), if_neg (by rw [isW_t Z]; decide), if_neg (by rw [isW_t Z]; decide), if_pos (by rw [isW_t Z]; decide)]
theorem li_12 (Z : TKN T c p (wd 12) 1) : lineP T rp dp (c, s, h, y) = pRep T rp dp (c, s, h, y) := by
  unfold lineP
  rw [if_neg (by rw [isW_t Z]; decide), if_neg (by rw [isW_t Z]; decide), if_neg (by rw [isW_t Z]; decide), if_neg (by rw [isW_t Z]; decide), if_neg (by rw [isW_t Z]; decide), if_neg (by rw [isW_t Z]; decide), if_neg (by rw [isW_t Z]; decide), if_neg (by rw [isW_t Z]; decide), if_neg (by rw [isW_t Z]; decide), if_neg (by rw [isW_t Z]; decide), if_neg (by rw [isW_t Z]; decide)]
  rw [show isW T (c, s, h, y).1 (wd 12) = true from by rw [isW_t Z]; decide, pC_t]
end
theorem wd_l {k : Nat} (hk : k < 15) : (∀ v, v ∈ wd k → ck v = 1) ∧ 1 ≤ (wd k).length := by
  have : ∀ k, k < 15 → ((wd k).all fun v => decide (ck v = 1)) = true ∧ 1 ≤ (wd k).length := by decide
  obtain ⟨a, b⟩ := this k hk
  exact ⟨fun v hv => of_decide_eq_true (List.all_eq_true.mp a v hv), b⟩
/-- what a line does: behind the token c, from p to q, rows and years -/
def LNE (T : dTok) (c p q : Nat) (a b : sV × sV × Nat) : Prop := kd T (nx T c) = 59 ∧ ∃ c', RD T c' q ∧ lineX T 2 (nx T (nx T c), a) = .inr (c', b)
section
variable {T : dTok} {c p : Nat} {s h : sV} {y : Nat}
theorem sm_59 (Z : TOK T) (R : RD T c p) {k : Nat} {r : List Nat} (hk : k < 15) (B : BY T p (59 :: (wd k ++ 32 :: r))) : kd T (nx T c) = 59 ∧ nx T (nx T c) = c + 1 + 1 ∧ TKN T (c + 1 + 1) (p + 1) (wd k) 1 ∧ RD T (c + 1 + 1) (p + 1 + (wd k).length + 1) ∧ BY T (p + 1 + (wd k).length + 1) r := by
  obtain ⟨s1, s2, R1, B1⟩ := RD_s Z R B (Or.inl (by decide))
  obtain ⟨k2, R2, B2⟩ := st_w Z R1 B1 (wd_l hk).1 (wd_l hk).2 (by decide)
  obtain ⟨R3, B3⟩ := RD_sp Z R2 B2
  have e59 : ck 59 = 59 := by decide
  refine ⟨?_, ?_, k2, R3, B3⟩
  · rw [RD_nx R, kd_n (by rw [s2]; decide) (by rw [s2]; decide), s2, e59]
  · rw [RD_nx R, RD_nx R1]
theorem sm_59e (Z : TOK T) (R : RD T c p) {k : Nat} (hk : k < 15) (B : BY T p (59 :: wd k)) (E : EDs T (p + 1 + (wd k).length)) : kd T (nx T c) = 59 ∧ nx T (nx T c) = c + 1 + 1 ∧ TKN T (c + 1 + 1) (p + 1) (wd k) 1 ∧ RD T (c + 1 + 1) (p + 1 + (wd k).length) := by
  obtain ⟨s1, s2, R1, B1⟩ := RD_s Z R B (Or.inl (by decide))
  obtain ⟨k2, R2⟩ := ed_w Z R1 B1 (wd_l hk).1 (wd_l hk).2 E
  have e59 : ck 59 = 59 := by decide
  refine ⟨?_, ?_, k2, R2⟩
  · rw [RD_nx R, kd_n (by rw [s2]; decide) (by rw [s2]; decide), s2, e59]
  · rw [RD_nx R, RD_nx R1]
theorem ln_list (Z : TOK T) (R : RD T c p) (B : BY T p (59 :: wd 8)) (E : EDs T (p + (59 :: wd 8).length)) : LNE T c p (p + (59 :: wd 8).length) (s, h, y) (listsS s h, h, y) := by
  have e : p + (59 :: wd 8).length = p + 1 + (wd 8).length := by rw [List.length_cons]; omega
  rw [e] at E ⊢
  obtain ⟨a1, a2, a3, a4⟩ := sm_59e Z R (by omega) B E
  refine ⟨a1, _, a4, ?_⟩
  rw [a2]
  exact li_8 a3
theorem ln_apr (Z : TOK T) (R : RD T c p) (B : BY T p (59 :: wd 10)) (E : EDs T (p + (59 :: wd 10).length)) : LNE T c p (p + (59 :: wd 10).length) (s, h, y) (aprS s h, h, y) := by
  have e : p + (59 :: wd 10).length = p + 1 + (wd 10).length := by rw [List.length_cons]; omega
  rw [e] at E ⊢
  obtain ⟨a1, a2, a3, a4⟩ := sm_59e Z R (by omega) B E
  refine ⟨a1, _, a4, ?_⟩
  rw [a2]
  exact li_10 a3
theorem ln_pass (Z : TOK T) (R : RD T c p) {n : Nat} (B : BY T p (59 :: (wd 11 ++ 32 :: dig n))) (E : EDs T (p + (59 :: (wd 11 ++ 32 :: dig n)).length)) (n1 : 1 ≤ n) (n2 : n ≤ 50) (hy : y + n ≤ 500) : LNE T c p (p + (59 :: (wd 11 ++ 32 :: dig n)).length) (s, h, y) (yrsS h n s, h, y + n) := by
  have e : p + (59 :: (wd 11 ++ 32 :: dig n)).length = p + 1 + (wd 11).length + 1 + (dig n).length := by simp only [List.length_cons, List.length_append]; omega
  rw [e] at E ⊢
  obtain ⟨a1, a2, a3, a4, a5⟩ := sm_59 Z R (by omega) B
  obtain ⟨b1, b2⟩ := ed_n Z a4 a5 (by omega) E
  refine ⟨a1, _, b2, ?_⟩
  rw [a2]
  refine (li_11 a3).trans ?_
  unfold pPass
  simp only
  rw [RD_nx a4, pNum_t b1 (by omega) n1 (by omega), pB_r, decide_eq_false (by omega)]
  rfl
theorem ln_seal (Z : TOK T) (R : RD T c p) {k v : Nat} (B : BY T p (59 :: (wd 4 ++ 32 :: (dig k ++ 32 :: dig v)))) (E : EDs T (p + (59 :: (wd 4 ++ 32 :: (dig k ++ 32 :: dig v))).length)) (k1 : k < nbS s) (k2 : k < 24) (hg : gonB s k = false) (v1 : nN (s 0) ≤ v) (v2 : v ≤ 9999) : LNE T c p (p + (59 :: (wd 4 ++ 32 :: (dig k ++ 32 :: dig v))).length) (s, h, y) (lay s k 3 (Int32.ofNat v), h, y) := by
  have e : p + (59 :: (wd 4 ++ 32 :: (dig k ++ 32 :: dig v))).length = p + 1 + (wd 4).length + 1 + (dig k).length + 1 + (dig v).length := by simp only [List.length_cons, List.length_append]; omega
  rw [e] at E ⊢
  obtain ⟨a1, a2, a3, a4, a5⟩ := sm_59 Z R (by omega) B
  obtain ⟨b1, b2, b3⟩ := st_n Z a4 a5 (by omega) (by decide)
  obtain ⟨c2, c3⟩ := RD_sp Z b2 b3
  obtain ⟨d1, d2⟩ := ed_n Z c2 c3 (by omega) E
  refine ⟨a1, _, d2, ?_⟩
  rw [a2]
  refine (li_4 a3).trans ?_
  unfold pSeal pKept pBox
  simp only
  rw [RD_nx a4, pNum_t b1 (by omega) (Nat.zero_le _) (by omega), pB_r, hg]
  simp only [Bool.not_false, pC_t, pB_r]
  rw [RD_nx b2, pNum_t d1 (by omega) v1 (by omega), pB_r]
theorem ln_req (Z : TOK T) (R : RD T c p) {r k : Nat} (B : BY T p (59 :: (wd 5 ++ 32 :: (dig r ++ 32 :: dig k)))) (E : EDs T (p + (59 :: (wd 5 ++ 32 :: (dig r ++ 32 :: dig k))).length)) (k1 : k < nbS s) (k2 : k < 24) (r1 : r < nN (h 3)) (r2 : r < 24) (ho : obsS s h (Int32.ofNat r) k = Int32.ofNat 0) : LNE T c p (p + (59 :: (wd 5 ++ 32 :: (dig r ++ 32 :: dig k))).length) (s, h, y) (reqS s h (Int32.ofNat r) k, h, y) := by
  have e : p + (59 :: (wd 5 ++ 32 :: (dig r ++ 32 :: dig k))).length = p + 1 + (wd 5).length + 1 + (dig r).length + 1 + (dig k).length := by simp only [List.length_cons, List.length_append]; omega
  rw [e] at E ⊢
  obtain ⟨a1, a2, a3, a4, a5⟩ := sm_59 Z R (by omega) B
  obtain ⟨b1, b2, b3⟩ := st_n Z a4 a5 (by omega) (by decide)
  obtain ⟨c2, c3⟩ := RD_sp Z b2 b3
  obtain ⟨d1, d2⟩ := ed_n Z c2 c3 (by omega) E
  refine ⟨a1, _, d2, ?_⟩
  rw [a2]
  refine (li_5 a3).trans ?_
  unfold pReq pBox
  simp only
  rw [RD_nx a4, pNum_t b1 (by omega) (Nat.zero_le _) (by omega), pB_r, RD_nx b2, pNum_t d1 (by omega) (Nat.zero_le _) (by omega), pB_r, ho, decide_eq_true rfl, pC_t]
theorem ln_rdr (Z : TOK T) (R : RD T c p) {nm : List Nat} {a : Nat} (B : BY T p (59 :: (wd 3 ++ 32 :: (nm ++ 32 :: dig a)))) (E : EDs T (p + (59 :: (wd 3 ++ 32 :: (nm ++ 32 :: dig a))).length)) (hnm : ∀ v, v ∈ nm → ck v = 1) (l1 : 1 ≤ nm.length) (l6 : nm.length ≤ 6) (hn : nN (h 3) ≠ 6) (hd : ∀ k, k < nN (h 3) → ∃ i, i < 6 ∧ h (4 + 6 * k + i) ≠ nmE nm i) (a1 : 1 ≤ a) (a2 : a ≤ 4) : LNE T c p (p + (59 :: (wd 3 ++ 32 :: (nm ++ 32 :: dig a))).length) (s, h, y) (s, rdrE nm h a, y) := by
  have e : p + (59 :: (wd 3 ++ 32 :: (nm ++ 32 :: dig a))).length = p + 1 + (wd 3).length + 1 + nm.length + 1 + (dig a).length := by simp only [List.length_cons, List.length_append]; omega
  rw [e] at E ⊢
  obtain ⟨x1, x2, x3, x4, x5⟩ := sm_59 Z R (by omega) B
  obtain ⟨b1, b2, b3⟩ := st_w Z x4 x5 hnm l1 (by decide)
  obtain ⟨c2, c3⟩ := RD_sp Z b2 b3
  obtain ⟨d1, d2⟩ := ed_n Z c2 c3 (by omega) E
  refine ⟨x1, _, d2, ?_⟩
  rw [x2]
  refine (li_3 x3).trans ?_
  unfold pReader
  simp only
  rw [decide_eq_false hn, RD_nx x4, pName_t b1 l6 hd, RD_nx b2, pNum_t d1 (by omega) a1 (by omega)]
  show Sum.inr (c + 1 + 1 + 1 + 1, s, rdrH T (c + 1 + 1 + 1) h a, y) = _
  rw [rdrH_t b1]
theorem ln_cls (Z : TOK T) (R : RD T c p) {nm : List Nat} {a b : Nat} (B : BY T p (59 :: (wd 1 ++ 32 :: (nm ++ 32 :: (dig a ++ 32 :: dig b))))) (E : EDs T (p + (59 :: (wd 1 ++ 32 :: (nm ++ 32 :: (dig a ++ 32 :: dig b)))).length)) (hnm : ∀ v, v ∈ nm → ck v = 1) (l1 : 1 ≤ nm.length) (l6 : nm.length ≤ 6) (hn : nN (h 2) ≠ 8) (hd : ∀ k, k < nN (h 2) → ∃ i, i < 6 ∧ h (46 + 6 * k + i) ≠ nmE nm i) (a1 : 1 ≤ a) (a2 : a ≤ 50) (b2 : b ≤ 50) : LNE T c p (p + (59 :: (wd 1 ++ 32 :: (nm ++ 32 :: (dig a ++ 32 :: dig b)))).length) (s, h, y) (s, clsE nm h a b 0, y) := by
  have e : p + (59 :: (wd 1 ++ 32 :: (nm ++ 32 :: (dig a ++ 32 :: dig b)))).length = p + 1 + (wd 1).length + 1 + nm.length + 1 + (dig a).length + 1 + (dig b).length := by simp only [List.length_cons, List.length_append]; omega
  rw [e] at E ⊢
  obtain ⟨x1, x2, x3, x4, x5⟩ := sm_59 Z R (by omega) B
  obtain ⟨y1, y2, y3⟩ := st_w Z x4 x5 hnm l1 (by decide)
  obtain ⟨c2, c3⟩ := RD_sp Z y2 y3
  obtain ⟨d1, d2, d3⟩ := st_n Z c2 c3 (by omega) (by decide)
  obtain ⟨f2, f3⟩ := RD_sp Z d2 d3
  obtain ⟨g1, g2⟩ := ed_n Z f2 f3 (by omega) E
  refine ⟨x1, _, g2, ?_⟩
  rw [x2]
  refine (li_1 x3).trans ?_
  unfold pClass
  simp only
  rw [decide_eq_false hn, RD_nx x4, pName_t y1 l6 hd, RD_nx y2, pNum_t d1 (by omega) a1 (by omega), RD_nx d2, pNum_t g1 (by omega) (Nat.zero_le _) (by omega), RD_nx g2]
  simp only [pB_r, Bool.not_false, pC_t]
  rw [isW_k (ed_k Z g2 E).2.2]
  show Sum.inr (c + 1 + 1 + 1 + 1 + 1, s, clsH T (c + 1 + 1 + 1) h a b 0, y) = _
  rw [clsH_t y1]
theorem ln_clsf (Z : TOK T) (R : RD T c p) {nm : List Nat} {a b : Nat} (B : BY T p (59 :: (wd 1 ++ 32 :: (nm ++ 32 :: (dig a ++ 32 :: (dig b ++ 32 :: wd 13)))))) (E : EDs T (p + (59 :: (wd 1 ++ 32 :: (nm ++ 32 :: (dig a ++ 32 :: (dig b ++ 32 :: wd 13))))).length)) (hnm : ∀ v, v ∈ nm → ck v = 1) (l1 : 1 ≤ nm.length) (l6 : nm.length ≤ 6) (hn : nN (h 2) ≠ 8) (hd : ∀ k, k < nN (h 2) → ∃ i, i < 6 ∧ h (46 + 6 * k + i) ≠ nmE nm i) (a1 : 1 ≤ a) (a2 : a ≤ 50) (b2 : b ≤ 50) : LNE T c p (p + (59 :: (wd 1 ++ 32 :: (nm ++ 32 :: (dig a ++ 32 :: (dig b ++ 32 :: wd 13))))).length) (s, h, y) (s, clsE nm h a b 1, y) := by
  have e : p + (59 :: (wd 1 ++ 32 :: (nm ++ 32 :: (dig a ++ 32 :: (dig b ++ 32 :: wd 13))))).length = p + 1 + (wd 1).length + 1 + nm.length + 1 + (dig a).length + 1 + (dig b).length + 1 + (wd 13).length := by simp only [List.length_cons, List.length_append]; omega
  rw [e] at E ⊢
  obtain ⟨x1, x2, x3, x4, x5⟩ := sm_59 Z R (by omega) B
  obtain ⟨y1, y2, y3⟩ := st_w Z x4 x5 hnm l1 (by decide)
  obtain ⟨c2, c3⟩ := RD_sp Z y2 y3
  obtain ⟨d1, d2, d3⟩ := st_n Z c2 c3 (by omega) (by decide)
  obtain ⟨f2, f3⟩ := RD_sp Z d2 d3
  obtain ⟨g1, g2, g3⟩ := st_n Z f2 f3 (by omega) (by decide)
  obtain ⟨h2, h3⟩ := RD_sp Z g2 g3
  obtain ⟨i1, i2⟩ := ed_w Z h2 h3 (wd_l (k := 13) (by omega)).1 (wd_l (k := 13) (by omega)).2 E
  refine ⟨x1, _, i2, ?_⟩
  rw [x2]
  refine (li_1 x3).trans ?_
  unfold pClass
  simp only
  rw [decide_eq_false hn, RD_nx x4, pName_t y1 l6 hd, RD_nx y2, pNum_t d1 (by omega) a1 (by omega), RD_nx d2, pNum_t g1 (by omega) (Nat.zero_le _) (by omega), RD_nx g2]
  simp only [pB_r, Bool.not_false, pC_t]
  rw [isW_t i1, show eqW (wd 13) (wd 13) = true from by decide, clsH_t y1]
  rfl
theorem ln_box (Z : TOK T) (R : RD T c p) {k v : Nat} (B : BY T p (59 :: (wd 2 ++ 32 :: (dig k ++ 32 :: dig v)))) (E : EDs T (p + (59 :: (wd 2 ++ 32 :: (dig k ++ 32 :: dig v))).length)) (hb : nbS s < 24) (hf : fstS s h ≠ nM1) (k1 : k < nN (h 2)) (k2 : k < 24) (v1 : 1800 ≤ v) (v2 : v ≤ nN (s 0)) (v3 : v ≤ 9999) : LNE T c p (p + (59 :: (wd 2 ++ 32 :: (dig k ++ 32 :: dig v))).length) (s, h, y) (newS s (Int32.ofNat k) (Int32.ofNat v) (fstS s h), h, y) := by
  have e : p + (59 :: (wd 2 ++ 32 :: (dig k ++ 32 :: dig v))).length = p + 1 + (wd 2).length + 1 + (dig k).length + 1 + (dig v).length := by simp only [List.length_cons, List.length_append]; omega
  rw [e] at E ⊢
  obtain ⟨a1, a2, a3, a4, a5⟩ := sm_59 Z R (by omega) B
  obtain ⟨b1, b2, b3⟩ := st_n Z a4 a5 (by omega) (by decide)
  obtain ⟨c2, c3⟩ := RD_sp Z b2 b3
  obtain ⟨d1, d2⟩ := ed_n Z c2 c3 (by omega) E
  refine ⟨a1, _, d2, ?_⟩
  rw [a2]
  refine (li_2 a3).trans ?_
  unfold pNew
  simp only
  rw [decide_eq_true hb, decide_eq_false hf, RD_nx a4, pNum_t b1 (by omega) (Nat.zero_le _) (by omega), RD_nx b2, pNum_t d1 (by omega) v1 (by omega), RD_nx d2]
  simp only [pB_r, Bool.not_false, Bool.and_true, pC_t]
  rw [isW_k (ed_k Z d2 E).2.2]
  rfl
theorem ln_boxa (Z : TOK T) (R : RD T c p) {k v i j : Nat} (B : BY T p (59 :: (wd 2 ++ 32 :: (dig k ++ 32 :: (dig v ++ 32 :: (wd 14 ++ 32 :: (dig i ++ 32 :: dig j))))))) (E : EDs T (p + (59 :: (wd 2 ++ 32 :: (dig k ++ 32 :: (dig v ++ 32 :: (wd 14 ++ 32 :: (dig i ++ 32 :: dig j)))))).length)) (hb : nbS s < 24) (hf : fstS s h ≠ nM1) (k1 : k < nN (h 2)) (k2 : k < 24) (v1 : 1800 ≤ v) (v2 : v ≤ nN (s 0)) (v3 : v ≤ 9999) (i1 : i < nN (h 0)) (i2 : i < 24) (j1 : j < nN (h 1)) (j2 : j < 24) (hbo : boxOnS s (Int32.ofNat (i * nN (h 1) + j)) = nM1) : LNE T c p (p + (59 :: (wd 2 ++ 32 :: (dig k ++ 32 :: (dig v ++ 32 :: (wd 14 ++ 32 :: (dig i ++ 32 :: dig j)))))).length) (s, h, y) (newS s (Int32.ofNat k) (Int32.ofNat v) (Int32.ofNat (i * nN (h 1) + j)), h, y) := by
  have e : p + (59 :: (wd 2 ++ 32 :: (dig k ++ 32 :: (dig v ++ 32 :: (wd 14 ++ 32 :: (dig i ++ 32 :: dig j)))))).length = p + 1 + (wd 2).length + 1 + (dig k).length + 1 + (dig v).length + 1 + (wd 14).length + 1 + (dig i).length + 1 + (dig j).length := by simp only [List.length_cons, List.length_append]; omega
  rw [e] at E ⊢
  obtain ⟨a1, a2, a3, a4, a5⟩ := sm_59 Z R (by omega) B
  obtain ⟨b1, b2, b3⟩ := st_n Z a4 a5 (by omega) (by decide)
  obtain ⟨c2, c3⟩ := RD_sp Z b2 b3
  obtain ⟨d1, d2, d3⟩ := st_n Z c2 c3 (by omega) (by decide)
  obtain ⟨f2, f3⟩ := RD_sp Z d2 d3
  obtain ⟨g1, g2, g3⟩ := st_w Z f2 f3 (wd_l (k := 14) (by omega)).1 (wd_l (k := 14) (by omega)).2 (by decide)
  obtain ⟨h2, h3⟩ := RD_sp Z g2 g3
  obtain ⟨l1, l2, l3⟩ := st_n Z h2 h3 (by omega) (by decide)
  obtain ⟨m2, m3⟩ := RD_sp Z l2 l3
  obtain ⟨n1, n2⟩ := ed_n Z m2 m3 (by omega) E
  refine ⟨a1, _, n2, ?_⟩
  rw [a2]
  refine (li_2 a3).trans ?_
  unfold pNew pFree
  simp only
  rw [decide_eq_true hb, decide_eq_false hf, RD_nx a4, pNum_t b1 (by omega) (Nat.zero_le _) (by omega), RD_nx b2, pNum_t d1 (by omega) v1 (by omega), RD_nx d2, RD_nx g2, pNum_t l1 (by omega) (Nat.zero_le _) (by omega), RD_nx l2, pNum_t n1 (by omega) (Nat.zero_le _) (by omega)]
  simp only [pB_r, Bool.not_false, Bool.and_true, pC_t]
  rw [isW_t g1, show eqW (wd 14) (wd 14) = true from by decide, hbo, decide_eq_true rfl]
  rfl
/-- a list made and a year passed, again and again -/
def lpS (h : sV) : Nat → sV → sV
  | 0, s => s
  | t + 1, s => lpS h t (yrsS h 1 (listsS s h))
theorem lpS_s {h : sV} : ∀ {t : Nat} {s : sV}, lpS h (t + 1) s = yrsS h 1 (listsS (lpS h t s) h)
  | 0, s => rfl
  | t + 1, s => by
    show lpS h (t + 1) (yrsS h 1 (listsS s h)) = _
    rw [lpS_s (t := t)]
    rfl
theorem rep_go {b p1 p2 p3 : Nat} (nb : nx T b = b + 1) (n1 : nx T (b + 1) = b + 2) (n2 : nx T (b + 2) = b + 3) (n3 : nx T (b + 3) = b + 4) (n4 : nx T (b + 4) = b + 5) (k1 : TKN T (b + 1) p1 (wd 8) 1) (k2 : kd T (b + 2) = 59) (k3 : TKN T (b + 3) p2 (wd 11) 1) (k4 : TKN T (b + 4) p3 (dig 1) 2) (k5 : kd T (b + 5) = 41) : ∀ (t x : Nat) (s : sV) (y : Nat), y + t ≤ 500 → repP T (lineX T 1) t b (x, s, h, y) = .inr (if t = 0 then x else b + 5, lpS h t s, h, y + t)
  | 0, x, s, y, _ => rfl
  | t + 1, x, s, y, hy => by
    have st : lnsP T (lineX T 1) 600 (b, s, h, y) = .inr (b + 5, yrsS h 1 (listsS s h), h, y + 1) := by
      show pBn (lineX T 1 (nx T b, s, h, y)) _ = _
      rw [nb, show lineX T 1 (b + 1, s, h, y) = .inr (b + 1, listsS s h, h, y) from li_8 k1, pB_r]
      simp only
      rw [n1, k2, decide_eq_true rfl]
      show pBn (lineX T 1 (nx T (b + 2), listsS s h, h, y)) _ = _
      have hp : lineX T 1 (b + 3, listsS s h, h, y) = .inr (b + 4, yrsS h 1 (listsS s h), h, y + 1) := by
        refine (li_11 k3).trans ?_
        unfold pPass
        simp only
        rw [n3, pNum_t k4 (by omega) (Nat.le_refl _) (by omega), pB_r, decide_eq_false (by omega)]
        rfl
      rw [n2, hp, pB_r]
      simp only
      rw [n4, k5]
      rfl
    show pBn (lnsP T (lineX T 1) 600 (b, s, h, y)) _ = _
    rw [st, pB_r]
    simp only
    rw [k5, decide_eq_true rfl, pC_t, rep_go nb n1 n2 n3 n4 k1 k2 k3 k4 k5 t _ _ _ (by omega)]
    show Sum.inr (_, lpS h t (yrsS h 1 (listsS s h)), h, y + 1 + t) = Sum.inr (_, lpS h t (yrsS h 1 (listsS s h)), h, y + (t + 1))
    rw [if_neg (show t + 1 ≠ 0 by omega), show y + 1 + t = y + (t + 1) by omega]
    by_cases q : t = 0
    · rw [if_pos q]
    · rw [if_neg q]
theorem ln_rep (Z : TOK T) (R : RD T c p) {n : Nat} (B : BY T p (59 :: (wd 12 ++ 32 :: (dig n ++ 40 :: (wd 8 ++ 59 :: (wd 11 ++ 32 :: (dig 1 ++ [41]))))))) (n1 : 1 ≤ n) (n2 : n ≤ 9) (hy : y + n ≤ 500) : LNE T c p (p + (59 :: (wd 12 ++ 32 :: (dig n ++ 40 :: (wd 8 ++ 59 :: (wd 11 ++ 32 :: (dig 1 ++ [41])))))).length) (s, h, y) (lpS h n s, h, y + n) := by
  have e : p + (59 :: (wd 12 ++ 32 :: (dig n ++ 40 :: (wd 8 ++ 59 :: (wd 11 ++ 32 :: (dig 1 ++ [41])))))).length = p + 1 + (wd 12).length + 1 + (dig n).length + 1 + (wd 8).length + 1 + (wd 11).length + 1 + (dig 1).length + 1 := by simp only [List.length_cons, List.length_append, List.length_nil]; omega
  rw [e]
  obtain ⟨a1, a2, a3, a4, a5⟩ := sm_59 Z R (by omega) B
  obtain ⟨b1, b2, b3⟩ := st_n Z a4 a5 (by omega) (by decide)
  obtain ⟨c1, c2, c3, c4⟩ := RD_s Z b2 b3 (Or.inr (Or.inl (by decide)))
  obtain ⟨d1, d2, d3⟩ := st_w Z c3 c4 (wd_l (k := 8) (by omega)).1 (wd_l (k := 8) (by omega)).2 (by decide)
  obtain ⟨e1, e2, e3, e4⟩ := RD_s Z d2 d3 (Or.inl (by decide))
  obtain ⟨f1, f2, f3⟩ := st_w Z e3 e4 (wd_l (k := 11) (by omega)).1 (wd_l (k := 11) (by omega)).2 (by decide)
  obtain ⟨g2, g3⟩ := RD_sp Z f2 f3
  obtain ⟨h1, h2, h3⟩ := st_n Z g2 g3 (by omega) (by decide)
  obtain ⟨i1, i2, i3, i4⟩ := RD_s Z h2 h3 (Or.inr (Or.inr (by decide)))
  refine ⟨a1, _, i3, ?_⟩
  rw [a2]
  refine (li_12 a3).trans ?_
  unfold pRep
  simp only
  have k40 : kd T (c + 1 + 1 + 1 + 1) = 40 := by rw [kd_n (by rw [c2]; decide) (by rw [c2]; decide), c2]; decide
  have k59 : kd T (c + 1 + 1 + 1 + 1 + 1 + 1) = 59 := by rw [kd_n (by rw [e2]; decide) (by rw [e2]; decide), e2]; decide
  have k41 : kd T (c + 1 + 1 + 1 + 1 + 1 + 1 + 1 + 1 + 1) = 41 := by rw [kd_n (by rw [i2]; decide) (by rw [i2]; decide), i2]; decide
  rw [pC_t, RD_nx a4, pNum_t b1 (by omega) n1 (by omega), pB_r, RD_nx b2, k40, decide_eq_true rfl, pC_t, rep_go (b := c + 1 + 1 + 1 + 1) (RD_nx c3) (RD_nx d2) (RD_nx e3) (RD_nx f2) (RD_nx h2) d1 k59 f1 h1 k41 n _ _ _ hy, if_neg (by omega)]
end
/-! the whole text -/
def zS : sV := fun _ => Int32.ofNat 0
def donT (T : dTok) (k : Nat) (st : pSt) : pRs := bif decide (kd T (nx T st.1) = 59) then lnsP T (lineX T 2) k (nx T st.1, st.2) else .inr (nx T st.1, st.2)
def finT (T : dTok) (st : pSt) : pRs := pC (decide (kd T st.1 = 0)) 1 st.1 (.inr st)
/-- read so far: the letters l, n lines; the rows s, h, the years y -/
def PT (l : List Nat) (s h : sV) (y n : Nat) : Prop := ∀ T, TOK T → BY T 0 l → EDs T l.length → ∃ c, RD T c l.length ∧ textP T zS zS = pBn (donT T (600 - n) (c, s, h, y)) (finT T)
theorem don_ln {T : dTok} {c p q k : Nat} {a b : sV × sV × Nat} (L : LNE T c p q a b) : ∃ c', RD T c' q ∧ donT T (k + 1) (c, a) = donT T k (c', b) := by
  obtain ⟨l1, c', l2, l3⟩ := L
  refine ⟨c', l2, ?_⟩
  unfold donT
  simp only
  rw [l1, decide_eq_true rfl]
  show pBn (lineX T 2 (nx T (nx T c), a)) _ = _
  rw [l3]
  rfl
theorem PT_line {l w : List Nat} {s h s' h' : sV} {y y' n : Nat} (P : PT l s h y n) (hn : n < 600) (hw : ∃ r, w = 59 :: r) (hL : ∀ T c, TOK T → RD T c l.length → BY T l.length w → EDs T (l.length + w.length) → LNE T c l.length (l.length + w.length) (s, h, y) (s', h', y')) : PT (l ++ w) s' h' y' (n + 1) := by
  intro T Z B E
  have Bw := BY_r B
  rw [Nat.zero_add] at Bw
  have hl : (l ++ w).length = l.length + w.length := List.length_append
  have El : EDs T l.length := by
    obtain ⟨r, rfl⟩ := hw
    exact Or.inr (BY_h Bw).1
  rw [hl] at E ⊢
  obtain ⟨c, r1, r2⟩ := P T Z (BY_l B) El
  obtain ⟨c', q1, q2⟩ := don_ln (k := 600 - (n + 1)) (hL T c Z r1 Bw E)
  refine ⟨c', q1, ?_⟩
  rw [r2, ← q2, show 600 - (n + 1) + 1 = 600 - n by omega]
theorem PT_end {l : List Nat} {s h : sV} {y n : Nat} {T : dTok} (P : PT l s h y n) (Z : TOK T) (B : BY T 0 l) (E : tE T = l.length) : ∃ c, textP T zS zS = .inr (c, s, h, y) := by
  obtain ⟨c, r1, r2⟩ := P T Z B (Or.inl E.symm)
  have k0 := (ed_k Z r1 (Or.inl E.symm)).1 E.symm
  have kd0 : kd T (c + 1) = 0 := by rw [kd_n (by omega) (by omega), k0]
  refine ⟨c + 1, ?_⟩
  rw [r2]
  unfold donT finT
  simp only
  rw [RD_nx r1, kd0]
  show pBn (Sum.inr (c + 1, s, h, y)) _ = _
  rw [pB_r, kd0]
  rfl
theorem PT_head {a b d : Nat} (a1 : 1900 ≤ a) (a2 : a ≤ 2500) (b1 : 1 ≤ b) (b2 : b ≤ 6) (d1 : 1 ≤ d) (d2 : d ≤ 8) : PT (wd 0 ++ 32 :: (dig a ++ 32 :: (dig b ++ 32 :: dig d))) (wr zS 0 (Int32.ofNat a)) (wr (wr zS 0 (Int32.ofNat b)) 1 (Int32.ofNat d)) 0 0 := by
  intro T Z B E
  have e : (wd 0 ++ 32 :: (dig a ++ 32 :: (dig b ++ 32 :: dig d))).length = 0 + (wd 0).length + 1 + (dig a).length + 1 + (dig b).length + 1 + (dig d).length := by simp only [List.length_cons, List.length_append]; omega
  rw [e] at E ⊢
  have B0 := BY_l B
  have B1 := BY_r B
  have hl7 : (wd 0).length = 7 := rfl
  have hp0 : tPl T 0 = 0 := by
    rcases Nat.eq_zero_or_pos (tPl T 0) with q | q
    · exact q
    · have h0 := Z.2.2.1 0 q
      have h1 := B0.2 0 (by omega)
      rw [Nat.add_zero, h0] at h1
      exact absurd h1 (by decide)
  have hN : 0 + 1 < tN T := by
    by_cases q : 0 + 1 < tN T
    · exact q
    · have h1 := (tk_last Z (by have := Z.1.1; omega) q).1
      have h2 := B.1
      rw [e] at h2
      omega
  obtain ⟨k1, k2, k3, k4, k5, k6, k7, k8⟩ := Z.2.1 0 hN
  rw [hp0] at k3 k4 k6 k7 k8
  have cks : ∀ j, j < 7 → ck (tB T (0 + j)) = 1 := by
    intro j hj
    rw [B0.2 j (by omega)]
    have : ∀ j, j < 7 → ck ((wd 0).getD j 0) = 1 := by decide
    exact this j hj
  have hK : tK T 0 = 1 := by rw [← k4 0 (by omega)]; exact cks 0 (by omega)
  have hlen : tL T 0 = 7 := by
    rcases Nat.lt_trichotomy (tL T 0) 7 with q | q | q
    · refine absurd (by rw [hK]; exact cks _ q) (k8 (Or.inl hK) ?_)
      have h2 := B.1
      rw [e] at h2
      omega
    · exact q
    · have h1 := k4 7 q
      have h2 := (BY_h B1).1
      rw [hl7] at h2
      rw [h2, hK] at h1
      exact absurd h1 (by decide)
  have t0 : TKN T 0 0 (wd 0) 1 := ⟨hN, hK, hp0, hlen, B0⟩
  have R0 : RD T 0 (0 + (wd 0).length) := ⟨hN, by omega, by omega⟩
  obtain ⟨x2, x3⟩ := RD_sp Z R0 B1
  obtain ⟨y1, y2, y3⟩ := st_n Z x2 x3 (by omega) (by decide)
  obtain ⟨z2, z3⟩ := RD_sp Z y2 y3
  obtain ⟨u1, u2, u3⟩ := st_n Z z2 z3 (by omega) (by decide)
  obtain ⟨v2, v3⟩ := RD_sp Z u2 u3
  obtain ⟨w1, w2⟩ := ed_n Z v2 v3 (by omega) E
  refine ⟨_, w2, ?_⟩
  have hz : ∀ n, zrF n zS = zS := fun n => by funext k; unfold zrF zS; split <;> rfl
  have hh : headP T zS zS = .inr (nx T (0 + 1 + 1 + 1), wr zS 0 (Int32.ofNat a), wr (wr zS 0 (Int32.ofNat b)) 1 (Int32.ofNat d), 0) := by
    unfold headP
    rw [isW_t t0, show eqW (wd 0) (wd 0) = true from by decide, pC_t, RD_nx R0, pNum_t y1 (by omega) a1 (by omega), pB_r, RD_nx y2, pNum_t u1 (by omega) b1 (by omega), pB_r, RD_nx u2, pNum_t w1 (by omega) d1 (by omega), pB_r, hz, hz]
  unfold textP
  rw [hh, pB_r]
  rfl
end
