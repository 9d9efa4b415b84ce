/-! ===== no note while the disk is up ===== -/
def nt (d : mDk) : Prop := d.1 = 0 → d.2.1 = 0
theorem mAct_nt {d : mDk} (h : nt d) : nt (mAct d).2 := by
  unfold mAct
  by_cases c : d.2.2.1 = 1
  · rw [if_pos c]
    intro q
    exact absurd (show (1 : Int32) = 0 from q) (by decide)
  · rw [if_neg c]
    exact h
theorem mAct_fail {d : mDk} (h : ¬ (mAct d).1 = true) : (mAct d).2.1 = 1 := by
  unfold mAct at h ⊢
  by_cases c : d.2.2.1 = 1
  · rw [if_pos c]
  · rw [if_neg c] at h
    exact absurd rfl h
theorem mActs_s {n : Nat} {d : mDk} : mActs (n + 1) d = if (mAct d).1 = true then ((mActs n (mAct d).2).1 + 1, (mActs n (mAct d).2).2) else (0, (mAct d).2) := rfl
theorem mActs_nt : ∀ (n : Nat) (d : mDk), nt d → nt (mActs n d).2 := by
  intro n
  induction n with
  | zero => intro d h; exact h
  | succ n ih =>
    intro d h
    rw [mActs_s]
    split
    · exact ih _ (mAct_nt h)
    · exact mAct_nt h
theorem mActs_fail : ∀ (n : Nat) (d : mDk), (mActs n d).1 ≠ n → (mActs n d).2.1 = 1 := by
  intro n
  induction n with
  | zero => intro d h; exact absurd rfl h
  | succ n ih =>
    intro d h
    rw [mActs_s] at h ⊢
    by_cases c : (mAct d).1 = true
    · rw [if_pos c] at h ⊢
      exact ih _ (fun q => h (by dsimp only; rw [q]))
    · rw [if_neg c]
      exact mAct_fail c
theorem mNote_nt (d : mDk) : nt (mNote d).2 := by
  unfold mNote
  dsimp only
  by_cases c : (mActs 3 (d.1, 1, d.2.2)).1 = 3
  · rw [if_pos c]
    intro _
    rfl
  · rw [if_neg c]
    intro q
    rw [mActs_fail 3 _ c] at q
    exact absurd q (by decide)
theorem mStart_nt {d : mDk} (h : nt d) : nt (mStart d) := h
theorem wDk_nt {m : mS} {d : mDk} (h : nt d) : mNt (wDk m d) := h
theorem wTb_nt {m : mS} {T : List mRow} (h : mNt m) : mNt (wTb m T) := by
  obtain ⟨dk, vr, pl, mg, sc, nx, dr, sn, tb⟩ := m
  exact h
theorem mTail_nt {m : mS} {x : Int32} (h : mNt m) : mNt (mTail m x).2 := by
  unfold mTail
  split
  · exact wDk_nt (mNote_nt _)
  · exact h
theorem mPlan_nt {m : mS} {w n o a b : Int32} (h : mNt m) : mNt (mPlan m w n o a b).2 := by
  obtain ⟨dk, vr, pl, mg, sc, nx, dr, sn, tb⟩ := m
  unfold mPlan
  refine mPlanG_or (P := fun z : Int32 × mS => mNt z.2) h (fun _ => ?_)
  split
  · exact h
  · exact h
theorem mScrap_nt {m : mS} (h : mNt m) : mNt (mScrap m).2 := by
  obtain ⟨dk, vr, pl, mg, sc, nx, dr, sn, tb⟩ := m
  exact h
theorem mScrap_ok {m : mS} (k : mOk m) : mOk (mScrap m).2 := by
  obtain ⟨dk, vr, pl, mg, sc, nx, dr, sn, tb⟩ := m
  obtain ⟨k1, k2, k3⟩ := k
  exact ⟨k1, ⟨Nat.zero_le _, fun st h => by cases h⟩, k3⟩
theorem mDraft_nt {m : mS} {i a b : Int32} (h : mNt m) : mNt (mDraft m i a b).2 := by
  obtain ⟨dk, vr, pl, mg, sc, nx, dr, sn, tb⟩ := m
  unfold mDraft
  split
  · exact h
  · exact h
theorem mLetters_nt {m : mS} {i a b : Int32} (h : mNt m) : mNt (mLetters m i a b).2 := by
  obtain ⟨dk, vr, pl, mg, sc, nx, dr, sn, tb⟩ := m
  unfold mLetters
  split
  · exact h
  · split
    · exact h
    · exact h
theorem mWrite_nt {m : mS} {key p2 : Int32} (h : mNt m) : mNt (mWrite m key p2).2 := by
  have hs : nt (mStart m.1) := mStart_nt h
  unfold mWrite
  split
  · split
    · exact wDk_nt hs
    · split
      · exact wDk_nt hs
      · split
        · exact mTail_nt (wTb_nt (wDk_nt (mAct_nt hs)))
        · exact wDk_nt (mAct_nt hs)
  · exact wDk_nt hs
theorem mRemove_nt {m : mS} {key : Int32} (h : mNt m) : mNt (mRemove m key).2 := by
  have hs : nt (mStart m.1) := mStart_nt h
  unfold mRemove
  split
  · split
    · exact wDk_nt hs
    · split
      · exact mTail_nt (wTb_nt (wDk_nt (mActs_nt _ _ hs)))
      · exact wDk_nt (mActs_nt _ _ hs)
  · exact wDk_nt hs
theorem mRead_nt {m : mS} {key f : Int32} (h : mNt m) : mNt (mRead m key f).2 := by
  obtain ⟨dk, vr, pl, mg, sc, nx, dr, sn, tb⟩ := m
  unfold mRead
  dsimp only
  split
  · split
    · exact h
    · split
      · exact h
      · exact h
  · exact h
theorem mEnd_nt {m : mS} (h : mNt m) : nt (mEnd m).2 := by
  have hs : nt (mStart m.1) := mStart_nt h
  unfold mEnd
  split
  · split
    · split
      · exact mAct_nt hs
      · exact mAct_nt hs
    · exact hs
  · exact hs
theorem mFinish_nt {m : mS} (h : mNt m) : mNt (mFinish m).2 := by
  have he := mEnd_nt h
  obtain ⟨dk, vr, pl, mg, sc, nx, dr, sn, tb⟩ := m
  unfold mFinish
  dsimp only
  split
  · exact he
  · exact he
theorem mRollback_nt {m : mS} (h : mNt m) : mNt (mRollback m).2 := by
  have he := mEnd_nt h
  obtain ⟨dk, vr, pl, mg, sc, nx, dr, sn, tb⟩ := m
  unfold mRollback
  dsimp only
  split
  · exact he
  · exact he
theorem mBegin_nt {m : mS} (h : mNt m) : mNt (mBegin m).2 := by
  have hs : nt (mStart m.1) := mStart_nt h
  obtain ⟨dk, vr, pl, mg, sc, nx, dr, sn, tb⟩ := m
  unfold mBegin
  dsimp only
  split
  · split
    · exact hs
    · split
      · exact hs
      · split
        · split
          · exact hs
          · split
            · exact hs
            · split
              · exact mAct_nt hs
              · exact mAct_nt hs
        · exact hs
  · exact hs
theorem mBfL_nt : ∀ (l : List mRow) (c : Nat) (d : mDk), nt d → nt (mBfL l c d).2.2.1 := by
  intro l
  induction l with
  | nil => intro c d h; exact h
  | cons r l ih =>
    intro c d h
    rw [mBfL_cons]
    split
    · exact h
    · split
      · exact ih _ _ h
      · split
        · exact ih _ _ (mActs_nt _ _ h)
        · exact mActs_nt _ _ h
theorem mBfE_nt {z : Bool × Nat × mDk × List mRow} (h : nt z.2.2.1) : nt (mBfE z).2 := by
  unfold mBfE
  split
  · split
    · exact h
    · split
      · exact mAct_nt h
      · exact mAct_nt h
  · exact h
theorem mBackfill_nt {m : mS} (h : mNt m) : mNt (mBackfill m).2 := by
  have hs : nt (mStart m.1) := mStart_nt h
  unfold mBackfill
  split
  · exact wTb_nt (wDk_nt (mBfE_nt (mBfL_nt _ _ _ hs)))
  · exact wDk_nt hs
theorem mCrash_nt {m : mS} {n : Int32} (h : mNt m) : mNt (mCrash m n).2 := by
  obtain ⟨dk, vr, pl, mg, sc, nx, dr, sn, tb⟩ := m
  unfold mCrash
  dsimp only
  split
  · exact h
  · exact h
theorem mCrash_ok {m : mS} {n : Int32} (k : mOk m) : mOk (mCrash m n).2 := by
  obtain ⟨dk, vr, pl, mg, sc, nx, dr, sn, tb⟩ := m
  unfold mCrash
  dsimp only
  split
  · exact k
  · rename_i hn
    obtain ⟨j, j1, j2⟩ := nI_of (fun q => hn (Or.inl q))
    have h3 : ¬ (1000 : Int32) < n := fun q => hn (Or.inr q)
    rw [j2, show (1000 : Int32) = nI 1000 from rfl, nI_ltI (by omega) j1] at h3
    exact ⟨⟨k.1.1, k.1.2.1, j, by omega, j2⟩, k.2⟩
theorem mRestart_nt {m : mS} (h : mNt m) : mNt (mRestart m).2 := by
  have hs : nt (mStart m.1) := mStart_nt h
  unfold mRestart
  split
  · exact wDk_nt hs
  · split
    · rename_i h0
      exact wDk_nt (fun _ => h0)
    · split
      · rename_i hn
        refine wDk_nt (fun _ => ?_)
        show (mNote (mStart m.1)).2.2.1 = 0
        unfold mNote at hn ⊢
        dsimp only at hn ⊢
        rw [if_pos (of_decide_eq_true hn)]
      · exact wDk_nt (mNote_nt _)
theorem mRestart_ok {m : mS} (k : mOk m) : mOk (mRestart m).2 := by
  have ks := mStart_ok k.dk
  have kn := mNote_ok ks
  unfold mRestart
  split
  · exact k.disk ks
  · split
    · exact k.disk ⟨Or.inl rfl, ks.2⟩
    · split
      · exact k.disk ⟨Or.inl rfl, kn.2⟩
      · exact k.disk kn
/-! ===== the law ===== -/
def Inv (S : gS) (m : mS) : Prop := RC S m ∧ RR S m ∧ mOk m ∧ mNt m
theorem Inv.dr {S : gS} {m : mS} (h : Inv S m) : drOk (mDrf m) := by
  obtain ⟨dk, vr, pl, mg, sc, nx, dr, sn, tb⟩ := m
  obtain ⟨⟨hI, sA, sB, pA, pB, h1, h2, h3, h4, h5, h6, h7, h8⟩, -⟩ := h
  intro q hq
  obtain ⟨-, t1, t2, t3, t4⟩ := h5 q hq
  exact ⟨t2, t3⟩
theorem pair_I {S : gS} {m m' : mS} {x : Int32} {oC : Option (Int32 × gS)} {oR : gS → Option (Int32 × gS)} (h : Inv S m) (hC : COp S 0 237 oC x (fun S1 => RC S1 m')) (hR : ∀ S1, RR S1 m → COp S1 237 265 (oR S1) x (fun S2 => RR S2 m')) (ok : mOk m') (n : mNt m') : ∃ S2, Inv S2 m' ∧ ∀ (G : gS → Option (Int32 × gS)), (g_cVI S 8 0 oC fun x1 S1 => g_cVI S1 9 237 (oR S1) fun x2 S2 => if x1 = x2 then G S2 else some ((0 : Int32), S2)) = G S2 := by
  obtain ⟨S1, a1, a2, a3, a4⟩ := hC
  obtain ⟨S2, b1, b2, b3, b4⟩ := hR S1 (h.2.1.fr a2 a3)
  refine ⟨S2, ⟨a4.fr ok b2 b3, b4, ok, n⟩, fun G => ?_⟩
  unfold g_cVI
  rw [g_ck_t (h.1.dk.1.is (show 0 < 265 by decide) (show K0 0 = 8 by decide)), a1, Option.bind_some]
  dsimp only
  rw [ck9 a2.ref, b1, Option.bind_some, if_pos rfl]
theorem pair_L {S : gS} {m m' : mS} {x : Int64} {oC : Option (Int64 × gS)} {oR : gS → Option (Int64 × gS)} (h : Inv S m) (hC : COp S 0 237 oC x (fun S1 => RC S1 m')) (hR : ∀ S1, RR S1 m → COp S1 237 265 (oR S1) x (fun S2 => RR S2 m')) (ok : mOk m') (n : mNt m') : ∃ S2, Inv S2 m' ∧ ∀ (G : gS → Option (Int32 × gS)), (g_cVL S 8 0 oC fun x1 S1 => g_cVL S1 9 237 (oR S1) fun x2 S2 => if (lg_cmp x1 x2) = 0 then G S2 else some ((0 : Int32), S2)) = G S2 := by
  obtain ⟨S1, a1, a2, a3, a4⟩ := hC
  obtain ⟨S2, b1, b2, b3, b4⟩ := hR S1 (h.2.1.fr a2 a3)
  refine ⟨S2, ⟨a4.fr ok b2 b3, b4, ok, n⟩, fun G => ?_⟩
  unfold g_cVL
  rw [g_ck_t (h.1.dk.1.is (show 0 < 265 by decide) (show K0 0 = 8 by decide)), a1, Option.bind_some]
  dsimp only
  rw [ck9 a2.ref, b1, Option.bind_some, if_pos ((lg_cmp_eq _ _).mpr rfl)]
