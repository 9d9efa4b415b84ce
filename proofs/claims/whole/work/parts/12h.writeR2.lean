/-! ===== write of the reference, whole ===== -/
abbrev WB : List Nat := [238, 239, 240, 241, 242, 243, 244, 245, 246, 247, 248, 249, 250, 261, 262, 263, 264]
def w8O (o : Option Nat) : Int32 := match o with
  | none => 0
  | some _ => 1
theorem put_R {S : gS} {m : mS} {key p2 x17 w14 : Int32} (h : RR S m) (k : mOk m) (hd : drOk (mDrf m)) (hp2 : ¬ p2 = 0 → m.2.1.2 = true) (hf : ¬ (mFnd (mTb m) key = none ∧ (mTb m).length = 40)) : ∃ S1, (if w8O (mFnd (mTb m) key) = 0 then (g_cVI S 9 237 (f_X9_insert S 237 key) fun x60 S59 => fFilR S59 x60 p2 (w8O (mFnd (mTb m) key)) (fun S21 => fEndR S21 x60 x17 w14 (w8O (mFnd (mTb m) key)))) else fFilR S (ixO (mFnd (mTb m) key)) p2 (w8O (mFnd (mTb m) key)) (fun S21 => fEndR S21 (ixO (mFnd (mTb m) key)) x17 w14 (w8O (mFnd (mTb m) key)))) = (if x17 = w14 then some ((if mFnd (mTb m) key = none then 0 else 1), S1) else some (-9, g_pI S1 609 237 1)) ∧ RE WB [582] S S1 ∧ RR S1 (wTb m (mPutT m key (decide (¬ p2 = 0)))) := by
  obtain ⟨dk, vr, pl, mg, sc, nx, dr, sn, tb⟩ := m
  obtain ⟨hI, h2, h3, h4, h5, h6, h7, h8, h9, h10⟩ := h
  obtain ⟨k1, k2, k3, k4, k5, k6, k7, k8⟩ := k
  have hR := hI.ref
  have k38 := k3.1
  have n8 : vr.2 = true → nx.length ≤ 8 := fun hr => (k4 hr).2.1.1
  replace hd : drOk dr := hd
  show ∃ S1, (if w8O (mFnd tb key) = 0 then (g_cVI S 9 237 (f_X9_insert S 237 key) fun x60 S59 => fFilR S59 x60 p2 (w8O (mFnd tb key)) (fun S21 => fEndR S21 x60 x17 w14 (w8O (mFnd tb key)))) else fFilR S (ixO (mFnd tb key)) p2 (w8O (mFnd tb key)) (fun S21 => fEndR S21 (ixO (mFnd tb key)) x17 w14 (w8O (mFnd tb key)))) = (if x17 = w14 then some ((if mFnd tb key = none then 0 else 1), S1) else some (-9, g_pI S1 609 237 1)) ∧ RE WB [582] S S1 ∧ RR S1 (dk, vr, pl, mg, sc, nx, dr, sn, match mFnd tb key with | some i => tb.set i (gWr dr mg sc nx vr.2 (decide (¬ p2 = 0)) (tb.getD i (0, 0, 0, [], []))) | none => mIns (cntLe key tb) (gWr dr mg sc nx vr.2 (decide (¬ p2 = 0)) (mNew key sc.length)) tb)
  -- the whole picture out of its pieces
  have rr : ∀ (S1 : gS) (tb' : List mRow), RE WB [582] S S1 → SchR S1 0 sc → (vr.2 = true → SchR S1 1 nx) → (∀ k, 640 ≤ k → k < 648 → SlotEq S S1 k) → TableR S1 tb' sc nx vr.2 → RR S1 (dk, vr, pl, mg, sc, nx, dr, sn, tb') := by
    intro S1 tb' e s0 s1 w ht
    exact ⟨e.imm hI, h2.e e (by decide), (e.fI (by decide)).trans h3, (e.fI (by decide)).trans h4, ⟨(e.fI (by decide)).trans h5.1, h5.2.e e (by decide)⟩, s0, h7.e e (by decide), h8.e e (by decide) (by decide) k8 w, ht, fun hr => ⟨s1 hr, (e.fI (by decide)).trans (h10 hr).2.1, (h10 hr).2.2.e e (by decide)⟩⟩
  cases hq : mFnd tb key with
  | none =>
    have hlt : tb.length < 40 := by
      have : ¬ tb.length = 40 := fun z => hf ⟨hq, z⟩
      omega
    have hc := cntLe_le key tb
    obtain ⟨S3, s, a1, a2, a3, a4, a5, a6, a7, a8⟩ := insert_R (key := key) (r0 := mNew key sc.length) h9 hI k7 hlt
    have hI3 := a2.imm hI
    have sl3 : ∀ k, SlotEq S S3 k := fun k => a2.slot (by decide) (by decide) (by decide)
    obtain ⟨S4, b1, b2, b3, b4, b5, b6⟩ := fil_R (S := S3) (i := cntLe key tb) (s := s) (run := vr.2) (mg := mg) (sc := sc) (nx := nx) (dr := dr) (p2 := p2) (w8 := 0) (old := List.replicate sc.length (0, [])) (fr0 := []) (K := fun S21 => fEndR S21 (nI (cntLe key tb)) x17 w14 0) hI3 (by omega) a3 a4 (h6.e a2 (by decide)) (h7.e a2 (by decide)) hd ((a2.fI (by decide)).trans h4) (fun hr => ⟨(h10 hr).1.e a2 (by decide), (a2.fI (by decide)).trans (h10 hr).2.1, (h10 hr).2.2.e a2 (by decide)⟩) k3 k4 hp2 (Or.inr ⟨rfl, rfl⟩)
    have hI4 := b2.imm hI3
    have hB4 : BO S4 := fun j => by rw [b2.aI (by decide), b2.aI (by decide)]; exact a8.2.2.1.2 j
    obtain ⟨S5, c1, c2, c3, c4, c5⟩ := end_R (S := S3) (S' := S4) (i := cntLe key tb) (s := s) (run := vr.2) (sc := sc) (nx := nx) (k0 := key) (s0 := 0) (x17 := x17) (w14 := w14) (w8 := 0) hI4 (by omega) a3 hB4 (by rw [b2.aI (by decide)]; exact a6) (by rw [b2.aI (by decide)]; exact a4) (by rw [b2.aI (by decide)]; exact a5) ((b2.fI (by decide)).trans ((a2.fI (by decide)).trans h4)) (by
      have : gaI S4 244 (cntLe key tb) = 0 := by rw [b2.aI (by decide)]; exact a7
      by_cases r : vr.2 = true
      · rw [if_pos r]; exact this
      · rw [if_neg r]; exact this) (fun _ => Or.inl rfl) b5 b6
    have e35 : RE [238, 239, 240, 241, 244, 245, 246, 248, 249, 250, 261, 262, 263, 264] [] S3 S5 := (b2.mono (by decide) (by decide)).trans (c2.mono (by decide) (by decide))
    have sl5 : ∀ k, SlotEq S4 S5 k := fun k => c2.slot (by decide) (by decide) (by decide)
    have tab : TableR S5 ((mIns (cntLe key tb) (mNew key sc.length) tb).set (cntLe key tb) (gWr dr mg sc nx vr.2 (decide (¬ p2 = 0)) (mNew key sc.length))) sc nx vr.2 := a8.put k38 n8 (by rw [mIns_len]; omega) a4 e35 (by decide) (by decide) (fun x hx j hj => (c3 x hx j hj).trans (by
      have : x = 244 ∨ x = 245 ∨ x = 246 := by simpa using hx
      rcases this with rfl | rfl | rfl
      · rw [b2.aI (by decide)]
      · rw [b2.aI (by decide)]
      · rw [b2.aI (by decide)])) (fun k hk _ => (b3 k hk).trans (sl5 k)) c4 c5
    rw [mIns_set hc] at tab
    refine ⟨S5, ?_, (a2.mono (by decide) (by decide)).trans (e35.mono (by decide) (by decide)), rr S5 _ ((a2.mono (by decide) (by decide)).trans (e35.mono (by decide) (by decide))) ((b4 0 sc (by decide) k38 (h6.e a2 (by decide))).e c2 (by decide)) (fun hr => (b4 1 nx (by decide) (n8 hr) ((h10 hr).1.e a2 (by decide))).e c2 (by decide)) (fun k q1 q2 => ((sl3 k).trans (b3 k (by omega))).trans (sl5 k)) tab⟩
    rw [show w8O none = (0 : Int32) from rfl, if_pos rfl]
    unfold g_cVI
    rw [ck9 hR, a1, Option.bind_some]
    dsimp only
    rw [b1]
    rw [c1, if_pos rfl, if_pos rfl]
  | some i =>
    have hi := mFnd_lt hq
    have hr := getD_some (d := ((0, 0, 0, [], []) : mRow)) hi
    obtain ⟨t1, t2, ⟨t3, t4⟩, t5⟩ := h9
    dsimp only
    generalize tb.getD i (0, 0, 0, [], []) = r at hr ⊢
    have hrow := t5 i r hr
    have hrk := k6 r (List.mem_of_getElem? hr)
    obtain ⟨r1, ⟨s, r2, r3, r4, r5, r6⟩, r7⟩ := hrow
    obtain ⟨S4, b1, b2, b3, b4, b5, b6⟩ := fil_R (S := S) (i := i) (s := s) (run := vr.2) (mg := mg) (sc := sc) (nx := nx) (dr := dr) (p2 := p2) (w8 := 1) (old := r.2.2.2.1) (fr0 := r.2.2.2.2) (K := fun S21 => fEndR S21 (nI i) x17 w14 1) hI (by omega) r2 r3 h6 h7 hd h4 h10 k3 k4 hp2 (Or.inl ⟨by decide, r5⟩)
    have hI4 := b2.imm hI
    have hB4 : BO S4 := fun j => by rw [b2.aI (by decide), b2.aI (by decide)]; exact t4 j
    obtain ⟨S5, c1, c2, c3, c4, c5⟩ := end_R (S := S) (S' := S4) (i := i) (s := s) (run := vr.2) (sc := sc) (nx := nx) (k0 := r.1) (s0 := r.2.1) (x17 := x17) (w14 := w14) (w8 := 1) hI4 (by omega) r2 hB4 (by rw [b2.aI (by decide)]; exact r1) (by rw [b2.aI (by decide)]; exact r3) (by rw [b2.aI (by decide)]; exact r4) ((b2.fI (by decide)).trans h4) (by
      by_cases z : vr.2 = true
      · rw [if_pos z] at r7 ⊢; rw [b2.aI (by decide)]; exact r7.2.2
      · rw [if_neg z] at r7 ⊢; rw [b2.aI (by decide)]; exact r7) (fun z => by
      rcases hrk.2 with q | q | q
      · exact Or.inl q
      · exact Or.inr q
      · exact absurd (z.symm.trans q.1) (by decide)) b5 b6
    have e35 : RE [238, 239, 240, 241, 244, 245, 246, 248, 249, 250, 261, 262, 263, 264] [] S S5 := (b2.mono (by decide) (by decide)).trans (c2.mono (by decide) (by decide))
    have sl5 : ∀ k, SlotEq S4 S5 k := fun k => c2.slot (by decide) (by decide) (by decide)
    have tx : TabX S tb i sc nx vr.2 := ⟨t1, t2, ⟨t3, t4⟩, fun j r _ hj => t5 j r hj⟩
    have tab : TableR S5 (tb.set i (gWr dr mg sc nx vr.2 (decide (¬ p2 = 0)) r)) sc nx vr.2 := tx.put k38 n8 hi r3 e35 (by decide) (by decide) (fun x hx j hj => (c3 x hx j hj).trans (by
      have : x = 244 ∨ x = 245 ∨ x = 246 := by simpa using hx
      rcases this with rfl | rfl | rfl
      · rw [b2.aI (by decide)]
      · rw [b2.aI (by decide)]
      · rw [b2.aI (by decide)])) (fun k hk _ => (b3 k hk).trans (sl5 k)) c4 c5
    refine ⟨S5, ?_, e35.mono (by decide) (by decide), rr S5 _ (e35.mono (by decide) (by decide)) ((b4 0 sc (by decide) k38 h6).e c2 (by decide)) (fun hr => (b4 1 nx (by decide) (n8 hr) (h10 hr).1).e c2 (by decide)) (fun k q1 q2 => (b3 k (by omega)).trans (sl5 k)) tab⟩
    rw [show w8O (some i) = (1 : Int32) from rfl, if_neg (show ¬ (1 : Int32) = 0 by decide), show ixO (some i) = nI i from rfl, b1]
    rw [c1, if_neg (show ¬ (1 : Int32) = 0 by decide), if_neg (show ¬ (some i = none) from fun z => by cases z)]
theorem act_W {S S1 : gS} {m : mS} {key p2 : Int32} {n : Nat} (hS : RR S m) (a3 : RF 605 610 S S1) (a4 : DiskR S1 (mStart m.1)) (h1 : RR S1 (wDk m (mStart m.1))) (k : mOk m) (hd : drOk (mDrf m)) (hn : n = 4 ∨ n = 1) (hp2 : ¬ p2 = 0 → m.2.1.2 = true) (hf : ¬ (mFnd (mTb m) key = none ∧ (mTb m).length = 40)) : COp S 237 265 (fActR S1 key p2 (w8O (mFnd (mTb m) key)) (ixO (mFnd (mTb m) key)) (nI n)) (if (mActs n (mStart m.1)).1 = 0 then ((-9 : Int32), wDk m (mActs n (mStart m.1)).2) else if (mActs n (mStart m.1)).1 = n then ((if mFnd (mTb m) key = none then (0 : Int32) else 1), wTb (wDk m (mActs n (mStart m.1)).2) (mPutT m key (decide (¬ p2 = 0)))) else ((-9 : Int32), wTb (wDk m ((mActs n (mStart m.1)).2.1, 1, (mActs n (mStart m.1)).2.2.2)) (mPutT m key (decide (¬ p2 = 0))))).1 (fun S2 => RR S2 (if (mActs n (mStart m.1)).1 = 0 then ((-9 : Int32), wDk m (mActs n (mStart m.1)).2) else if (mActs n (mStart m.1)).1 = n then ((if mFnd (mTb m) key = none then (0 : Int32) else 1), wTb (wDk m (mActs n (mStart m.1)).2) (mPutT m key (decide (¬ p2 = 0)))) else ((-9 : Int32), wTb (wDk m ((mActs n (mStart m.1)).2.1, 1, (mActs n (mStart m.1)).2.2.2)) (mPutT m key (decide (¬ p2 = 0))))).2) := by
  have hI1 : Imm S1 := h1.dk.1
  have ks := mStart_ok k.dk
  obtain ⟨S2, b1, b3, b4⟩ := acts_R (n := n) (by omega) hI1 ks a4
  have b3' : RF 605 610 S S2 := a3.trans (b3.mono (by decide) (by decide))
  have h2 : RR S2 (wDk m (mActs n (mStart m.1)).2) := hS.disk b3' b4
  have hI2 : Imm S2 := h2.dk.1
  have k2 : mOk (wDk m (mActs n (mStart m.1)).2) := k.disk (mActs_ok n ks)
  have hle := mActs_le n (mStart m.1)
  unfold fActR
  rw [show ∀ G : Int32 → gS → Option (Int32 × gS), g_cVI S1 9 237 (f_X9_acts S1 237 (nI n)) G = G (nI (mActs n (mStart m.1)).1) S2 from fun G => by unfold g_cVI; rw [ck9 hI1.ref, b1, Option.bind_some]]
  by_cases e2 : (mActs n (mStart m.1)).1 = 0
  · simp only [if_pos e2]
    rw [if_pos (show nI (mActs n (mStart m.1)).1 = 0 by rw [e2]; rfl)]
    exact ⟨S2, rfl, hI2, b3'.fr, h2⟩
  · simp only [if_neg e2]
    rw [if_neg (show ¬ nI (mActs n (mStart m.1)).1 = 0 from nI_ne0 (by omega) (by omega))]
    obtain ⟨S3, d1, d2, d3⟩ := put_R (key := key) (p2 := p2) (x17 := nI (mActs n (mStart m.1)).1) (w14 := nI n) h2 k2 hd hp2 hf
    have d1' : (if w8O (mFnd (mTb m) key) = 0 then (g_cVI S2 9 237 (f_X9_insert S2 237 key) fun x60 S59 => fFilR S59 x60 p2 (w8O (mFnd (mTb m) key)) (fun S21 => fEndR S21 x60 (nI (mActs n (mStart m.1)).1) (nI n) (w8O (mFnd (mTb m) key)))) else fFilR S2 (ixO (mFnd (mTb m) key)) p2 (w8O (mFnd (mTb m) key)) (fun S21 => fEndR S21 (ixO (mFnd (mTb m) key)) (nI (mActs n (mStart m.1)).1) (nI n) (w8O (mFnd (mTb m) key)))) = _ := d1
    have d3' : RR S3 (wTb (wDk m (mActs n (mStart m.1)).2) (mPutT m key (decide (¬ p2 = 0)))) := d3
    have hI3 := d2.imm hI2
    refine COp.of_eq d1' ?_
    by_cases e3 : (mActs n (mStart m.1)).1 = n
    · simp only [if_pos e3]
      rw [if_pos (show nI (mActs n (mStart m.1)).1 = nI n by rw [e3])]
      exact ⟨S3, rfl, hI3, b3'.fr.trans (d2.fr (by decide)), d3'⟩
    · simp only [if_neg e3]
      rw [if_neg (show ¬ nI (mActs n (mStart m.1)).1 = nI n by rw [nI_eq (by omega) (by omega)]; exact e3)]
      have q : RF 605 610 S3 (g_pI S3 609 237 1) := RF.pI (by decide) (by decide)
      refine ⟨_, rfl, q.imm hI3, (b3'.fr.trans (d2.fr (by decide))).trans q.fr, RR.disk d3' q ?_⟩
      obtain ⟨x1, x2, x3, x4, x5⟩ := d3'.dk.2
      unfold DiskR
      simp only [q_pI_fI, q_pI_fL, q_pI_fR, q_pI_aI, q_pI_aL, q_pI_aR, q_pI_K, q_pI_ln, q_pI_n, q_pI_sl, q_pI_is, q_pI_ck, q_pL_fI, q_pL_fL, q_pL_fR, q_pL_aI, q_pL_aL, q_pL_aR, q_pL_K, q_pL_ln, q_pL_n, q_pL_sl, q_pL_is, q_pL_ck, q_pR_fI, q_pR_fL, q_pR_fR, q_pR_aI, q_pR_aL, q_pR_aR, q_pR_K, q_pR_ln, q_pR_n, q_pR_sl, q_pR_is, q_pR_ck, q_rI_fI, q_rI_fL, q_rI_fR, q_rI_aI, q_rI_aL, q_rI_aR, q_rI_K, q_rI_ln, q_rI_n, q_rI_sl, q_rI_is, q_rI_ck, q_rL_fI, q_rL_fL, q_rL_fR, q_rL_aI, q_rL_aL, q_rL_aR, q_rL_K, q_rL_ln, q_rL_n, q_rL_sl, q_rL_is, q_rL_ck, q_rR_fI, q_rR_fL, q_rR_fR, q_rR_aI, q_rR_aL, q_rR_aR, q_rR_K, q_rR_ln, q_rR_n, q_rR_sl, q_rR_is, q_rR_ck]
      rw [g_up_s, g_up_f (by decide), g_up_f (by decide), g_up_f (by decide), g_up_f (by decide)]
      exact ⟨x1, rfl, x3, x4, x5⟩
theorem write_R {S : gS} {m : mS} {key p2 : Int32} (h : RR S m) (k : mOk m) (hn : mNt m) (hd : drOk (mDrf m)) : COp S 237 265 (f_X9_write S 237 key p2) (mWrite m key p2).1 (fun S1 => RR S1 (mWrite m key p2).2) := by
  obtain ⟨hI, hD⟩ := h.dk
  have kd := k.dk
  have a3 : RF 605 610 S (g_pI S 606 237 0) := RF.pI (by decide) (by decide)
  have a4 : DiskR (g_pI S 606 237 0) (mStart m.1) := by
    obtain ⟨d1, d2, d3, d4, d5⟩ := hD
    simp [DiskR, q_pI_fI, q_pI_fL, q_pI_fR, q_pI_aI, q_pI_aL, q_pI_aR, q_pI_K, q_pI_ln, q_pI_n, q_pI_sl, q_pI_is, q_pI_ck, q_pL_fI, q_pL_fL, q_pL_fR, q_pL_aI, q_pL_aL, q_pL_aR, q_pL_K, q_pL_ln, q_pL_n, q_pL_sl, q_pL_is, q_pL_ck, q_pR_fI, q_pR_fL, q_pR_fR, q_pR_aI, q_pR_aL, q_pR_aR, q_pR_K, q_pR_ln, q_pR_n, q_pR_sl, q_pR_is, q_pR_ck, q_rI_fI, q_rI_fL, q_rI_fR, q_rI_aI, q_rI_aL, q_rI_aR, q_rI_K, q_rI_ln, q_rI_n, q_rI_sl, q_rI_is, q_rI_ck, q_rL_fI, q_rL_fL, q_rL_fR, q_rL_aI, q_rL_aL, q_rL_aR, q_rL_K, q_rL_ln, q_rL_n, q_rL_sl, q_rL_is, q_rL_ck, q_rR_fI, q_rR_fL, q_rR_fR, q_rR_aI, q_rR_aL, q_rR_aR, q_rR_K, q_rR_ln, q_rR_n, q_rR_sl, q_rR_is, q_rR_ck, g_up, d1, d2, d3, d4, mStart]
  have h1 := h.disk a3 a4
  obtain ⟨u1, u2, u3⟩ := k.tb
  rw [rwrite_eq]
  simp only [g_putI, g_getI, Nat.reduceMul, Nat.reduceAdd, ck9 hI.ref]
  generalize g_pI S 606 237 0 = S1 at a3 a4 h1 ⊢
  have hI1 := a3.imm hI
  have hR1 := hI1.ref
  have tb1 : TableR S1 (mTb m) m.2.2.2.2.1 m.2.2.2.2.2.1 m.2.1.2 := h1.tb.1
  have run1 : gfI S1 591 237 = (if m.2.1.2 = true then 1 else 0) := h1.tb.2
  have fd := find_R tb1 hI1 u1 u3 key
  have fail : ∀ c : Int32, COp S 237 265 (some (c, S1)) c (fun S1 => RR S1 (wDk m (mStart m.1))) := fun c => ⟨S1, rfl, hI1, a3.fr, h1⟩
  simp only [g_cVI, g_jn, ck9 hR1, a4.1, fd, run1, b01, Option.bind_some, tb1.1]
  unfold mWrite
  show COp S 237 265 (if m.1.1 = 0 then _ else _) _ _
  by_cases e1 : m.1.1 = 0
  · simp only [if_pos e1]
    have go : (¬ p2 = 0 → m.2.1.2 = true) → ¬ (mFnd (mTb m) key = none ∧ (mTb m).length = 40) → COp S 237 265 (if m.2.1.2 = true then fActR S1 key p2 (w8O (mFnd (mTb m) key)) (ixO (mFnd (mTb m) key)) 4 else fActR S1 key p2 (w8O (mFnd (mTb m) key)) (ixO (mFnd (mTb m) key)) 1) (if (mAct (mStart m.1)).1 = true then mTail (wTb (wDk m (mAct (mStart m.1)).2) (mPutT m key (decide (¬ p2 = 0)))) (if mFnd (mTb m) key = none then 0 else 1) else (-9, wDk m (mAct (mStart m.1)).2)).1 (fun S1 => RR S1 (if (mAct (mStart m.1)).1 = true then mTail (wTb (wDk m (mAct (mStart m.1)).2) (mPutT m key (decide (¬ p2 = 0)))) (if mFnd (mTb m) key = none then 0 else 1) else (-9, wDk m (mAct (mStart m.1)).2)).2) := by
      intro g1 g2
      by_cases r : m.2.1.2 = true
      · rw [if_pos r, mW_run hn e1 r]
        exact act_W (n := 4) h a3 a4 h1 k hd (Or.inl rfl) g1 g2
      · rw [if_neg r, mW_not (by simpa using r)]
        exact act_W (n := 1) h a3 a4 h1 k hd (Or.inr rfl) g1 g2
    have rest : (¬ p2 = 0 → m.2.1.2 = true) → COp S 237 265 (if ixO (mFnd (mTb m) key) < 0 then (if (0 : Int32) = 0 then (if nI (mTb m).length = 40 then some ((-4 : Int32), S1) else (if m.2.1.2 = true then fActR S1 key p2 0 (ixO (mFnd (mTb m) key)) 4 else fActR S1 key p2 0 (ixO (mFnd (mTb m) key)) 1)) else (if m.2.1.2 = true then fActR S1 key p2 0 (ixO (mFnd (mTb m) key)) 4 else fActR S1 key p2 0 (ixO (mFnd (mTb m) key)) 1)) else (if (1 : Int32) = 0 then (if nI (mTb m).length = 40 then some ((-4 : Int32), S1) else (if m.2.1.2 = true then fActR S1 key p2 1 (ixO (mFnd (mTb m) key)) 4 else fActR S1 key p2 1 (ixO (mFnd (mTb m) key)) 1)) else (if m.2.1.2 = true then fActR S1 key p2 1 (ixO (mFnd (mTb m) key)) 4 else fActR S1 key p2 1 (ixO (mFnd (mTb m) key)) 1))) (if mFnd (mTb m) key = none ∧ (mTb m).length = 40 then (-4, wDk m (mStart m.1)) else if (mAct (mStart m.1)).1 = true then mTail (wTb (wDk m (mAct (mStart m.1)).2) (mPutT m key (decide (¬ p2 = 0)))) (if mFnd (mTb m) key = none then 0 else 1) else (-9, wDk m (mAct (mStart m.1)).2)).1 (fun S1 => RR S1 (if mFnd (mTb m) key = none ∧ (mTb m).length = 40 then (-4, wDk m (mStart m.1)) else if (mAct (mStart m.1)).1 = true then mTail (wTb (wDk m (mAct (mStart m.1)).2) (mPutT m key (decide (¬ p2 = 0)))) (if mFnd (mTb m) key = none then 0 else 1) else (-9, wDk m (mAct (mStart m.1)).2)).2) := by
      intro g1
      by_cases e3 : mFnd (mTb m) key = none
      · rw [if_pos (show ixO (mFnd (mTb m) key) < 0 by rw [e3]; decide), if_pos rfl]
        by_cases e4 : (mTb m).length = 40
        · rw [if_pos (show nI (mTb m).length = 40 by rw [e4]; rfl)]
          simp only [if_pos (show mFnd (mTb m) key = none ∧ (mTb m).length = 40 from ⟨e3, e4⟩)]
          exact fail (-4)
        · rw [if_neg (show ¬ nI (mTb m).length = 40 from fun z => e4 ((nI_eq (b := 40) (by omega) (by omega)).mp z))]
          have g2 : ¬ (mFnd (mTb m) key = none ∧ (mTb m).length = 40) := fun z => e4 z.2
          simp only [if_neg g2]
          have := go g1 g2
          rw [show w8O (mFnd (mTb m) key) = 0 by rw [e3]; rfl] at this
          exact this
      · rw [if_neg (show ¬ ixO (mFnd (mTb m) key) < 0 from fun z => e3 ((ixO_neg u1).mp z)), if_neg (show ¬ (1 : Int32) = 0 by decide)]
        have g2 : ¬ (mFnd (mTb m) key = none ∧ (mTb m).length = 40) := fun z => e3 z.1
        simp only [if_neg g2]
        have := go g1 g2
        rw [show w8O (mFnd (mTb m) key) = 1 by
          cases hq : mFnd (mTb m) key with
          | none => exact absurd hq e3
          | some i => rfl] at this
        exact this
    by_cases e2 : p2 = 0
    · have g2 : ¬ (¬ p2 = 0 ∧ m.2.1.2 = false) := fun z => z.1 e2
      rw [if_pos e2]
      simp only [if_neg g2]
      exact rest (fun z => absurd e2 z)
    · rw [if_neg e2]
      by_cases e3 : m.2.1.2 = true
      · have g2 : ¬ (¬ p2 = 0 ∧ m.2.1.2 = false) := fun z => absurd (e3.symm.trans z.2) (by decide)
        rw [if_pos e3]
        simp only [if_neg g2]
        exact rest (fun _ => e3)
      · have g2 : ¬ p2 = 0 ∧ m.2.1.2 = false := ⟨e2, by simpa using e3⟩
        rw [if_neg e3]
        simp only [if_pos g2]
        exact fail (-2)
  · simp only [if_neg e1]
    exact fail (-8)
