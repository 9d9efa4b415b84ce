/-! ===== the model: what both sides hold ===== -/
abbrev mStep : Type := Int32 × Int32 × Int32 × Int64
abbrev mCol : Type := Int32 × Int32
abbrev mRow : Type := Int32 × Int32 × Int32 × List mV × List mV
abbrev mDk : Type := Int32 × Int32 × Int32 × Int32 × Int32
abbrev mDr : Type := Nat → Int64 × List Nat
abbrev mSn : Type := Option (List Int32 × List mV)
abbrev mS : Type := mDk × (Int32 × Bool) × List mStep × List mStep × List mCol × List mCol × mDr × mSn × List mRow
def isTy (t : Int32) : Prop := t = 0 ∨ t = 1 ∨ t = 2 ∨ t = 3 ∨ t = 4
def tys (l : List mCol) : List Int32 := l.map (fun c => c.2)
/-! the class's side -/
def DiskC (S : gS) (d : mDk) : Prop := gfI S 0 1 = d.1 ∧ gfI S 1 1 = d.2.1 ∧ gfI S 2 1 = d.2.2.1 ∧ gfI S 3 1 = d.2.2.2.1 ∧ gfI S 4 1 = d.2.2.2.2
def PlanC (S : gS) (p : Nat) (l : List mStep) : Prop := gfI S 193 p = nI l.length ∧ ∀ k st, l[k]? = some st → gfI S 384 (p + 3 + k) = st.1 ∧ gfI S 385 (p + 3 + k) = st.2.1 ∧ gfI S 386 (p + 3 + k) = st.2.2.1 ∧ gfL S 387 (p + 3 + k) = st.2.2.2
def SchC (S : gS) (s : Nat) (l : List mCol) : Prop := gfI S 322 s = nI l.length ∧ ∀ i c, l[i]? = some c → gaI S (s + 1) i = c.1 ∧ gaI S (s + 2) i = c.2
def FormC (w : Nat → Int64) (ts : List Int32) (vs : List mV) : Prop := vs.length = ts.length ∧ ∀ i t x, ts[i]? = some t → vs[i]? = some x → CVw t w i x
def DraftC (S : gS) (dr : mDr) : Prop := ∀ i, i < 8 → gaL S 205 i = (dr i).1 ∧ TxW (gaL S 207) i (dr i).2
def SeenC (S : gS) (sn : mSn) : Prop := match sn with
  | none => gfI S 517 0 = 0
  | some (ts, vs) => gfI S 517 0 = 1 ∧ gfI S 322 210 = nI ts.length ∧ (∀ i t, ts[i]? = some t → gaI S 212 i = t) ∧ FormC (gaL S 209) ts vs
def HouseC (S : gS) (sA sB pA pB : Nat) (vr : Int32 × Bool) : Prop := gfR S 518 0 = some sA ∧ gfR S 519 0 = some sB ∧ gfR S 520 0 = some pA ∧ gfR S 521 0 = some pB ∧ gfI S 523 0 = vr.1 ∧ gfI S 522 0 = (if vr.2 = true then 1 else 0) ∧ ((sA = 213 ∧ sB = 216) ∨ (sA = 216 ∧ sB = 213)) ∧ ((pA = 219 ∧ pB = 228) ∨ (pA = 228 ∧ pB = 219))
def RowSw (S : gS) (p fp ff : Nat) : Prop := gfR S 259 (4 + 5 * p) = some fp ∧ gfR S 260 (4 + 5 * p) = some ff ∧ ((fp = 5 + 5 * p ∧ ff = 7 + 5 * p) ∨ (fp = 7 + 5 * p ∧ ff = 5 + 5 * p))
def RowC (S : gS) (p : Nat) (r : mRow) (sc nx : List mCol) (run : Bool) : Prop := gfI S 256 (4 + 5 * p) = r.1 ∧ gfI S 257 (4 + 5 * p) = r.2.1 ∧ gfI S 258 (4 + 5 * p) = r.2.2.1 ∧ ∃ fp ff, RowSw S p fp ff ∧ FormC (gaL S (fp + 1)) (tys sc) r.2.2.2.1 ∧ (run = true → FormC (gaL S (ff + 1)) (tys nx) r.2.2.2.2)
/-- the rows array is a row of all rows, each once -/
def PermC (S : gS) (q : Nat → Nat) : Prop := (∀ i, i < 40 → q i < 40) ∧ (∀ i j, i < 40 → j < 40 → q i = q j → i = j) ∧ ∀ i, i < 40 → gaR S 3 i = some (4 + 5 * q i)
def TableC (S : gS) (tb : List mRow) (sc nx : List mCol) (run : Bool) : Prop := gfI S 449 2 = nI tb.length ∧ ∃ q, PermC S q ∧ (∀ p, p < 40 → ∃ fp ff, RowSw S p fp ff) ∧ ∀ i r, tb[i]? = some r → RowC S (q i) r sc nx run
/-! schemas and steps -/
def mPlace (l : List mCol) (nm : Int32) : Nat := l.findIdx (fun c => c.1 == nm)
def mHas (l : List mCol) (nm : Int32) : Prop := mPlace l nm < l.length
def mCan (f t : Int32) : Prop := (f = 0 ∧ (t = 1 ∨ t = 2 ∨ t = 3)) ∨ (f = 1 ∧ (t = 0 ∨ t = 2 ∨ t = 3)) ∨ (f = 2 ∧ (t = 0 ∨ t = 1 ∨ t = 3 ∨ t = 4)) ∨ (f = 3 ∧ (t = 0 ∨ t = 1 ∨ t = 2 ∨ t = 4)) ∨ (f = 4 ∧ (t = 2 ∨ t = 3))
def mTyAt (l : List mCol) (i : Nat) : Int32 := (l.getD i (0, 0)).2
def mWrong (st : mStep) (l : List mCol) : Prop := if st.1 = 0 then mHas l st.2.1 ∨ 8 ≤ l.length else ¬ mHas l st.2.1 ∨ (st.1 = 2 ∧ mHas l st.2.2.1) ∨ (st.1 = 3 ∧ ¬ mCan (mTyAt l (mPlace l st.2.1)) st.2.2.1)
def mStepS (st : mStep) (l : List mCol) : List mCol := if st.1 = 0 then l ++ [(st.2.1, st.2.2.1)] else if st.1 = 1 then l.eraseIdx (mPlace l st.2.1) else if st.1 = 2 then l.set (mPlace l st.2.1) (st.2.2.1, mTyAt l (mPlace l st.2.1)) else l.set (mPlace l st.2.1) (st.2.1, st.2.2.1)
def mSchs (l : List mCol) (ss : List mStep) : List mCol := ss.foldl (fun l st => mStepS st l) l
def mUp1 (st : mStep) (l : List mCol) (vs : List mV) : List mV := if st.1 = 0 then vs ++ [mTell st.2.2.1 st.2.2.2] else if st.1 = 1 then vs.eraseIdx (mPlace l st.2.1) else if st.1 = 3 then vs.set (mPlace l st.2.1) (mBec (mTyAt l (mPlace l st.2.1)) st.2.2.1 (vs.getD (mPlace l st.2.1) (0, []))) else vs
def mUp : List mStep → List mCol → List mV → List mV
  | [], _, vs => vs
  | st :: ss, l, vs => mUp ss (mStepS st l) (mUp1 st l vs)
/-- where the column at p stands behind a step -/
def mBeh (st : mStep) (l : List mCol) (p : Nat) : Option Nat := if st.1 = 1 then (if p < mPlace l st.2.1 then some p else if p = mPlace l st.2.1 then none else some (p - 1)) else some p
/-- what the column at p gets back: later steps first -/
def mBackV : List mStep → List mCol → Nat → List mV → Option mV
  | [], _, p, vs => some (vs.getD p (0, []))
  | st :: ss, l, p, vs => match mBeh st l p with
    | none => none
    | some p2 => (mBackV ss (mStepS st l) p2 vs).map (fun v => if st.1 = 3 ∧ mPlace l st.2.1 = p then mBec st.2.2.1 (mTyAt l p) v else v)
def mDown (ss : List mStep) (l : List mCol) (vs old : List mV) : List mV := (List.range l.length).map (fun i => (mBackV ss l i vs).getD (old.getD i (0, [])))
/-- the running migration: the class keeps place and type before with each step -/
def MigC (S : gS) (p : Nat) (l : List mStep) (sc : List mCol) : Prop := PlanC S p l ∧ ∀ k st, l[k]? = some st → gfI S 388 (p + 3 + k) = nI (mPlace (mSchs sc (l.take k)) st.2.1) ∧ (st.1 ≠ 0 → gfI S 389 (p + 3 + k) = mTyAt (mSchs sc (l.take k)) (mPlace (mSchs sc (l.take k)) st.2.1))
def RC (S : gS) (m : mS) : Prop := match m with
  | (dk, vr, pl, mg, sc, nx, dr, sn, tb) => Imm S ∧ ∃ sA sB pA pB, HouseC S sA sB pA pB vr ∧ DiskC S dk ∧ PlanC S pA pl ∧ SchC S sA sc ∧ DraftC S dr ∧ SeenC S sn ∧ TableC S tb sc nx vr.2 ∧ (vr.2 = true → SchC S sB nx ∧ MigC S pB mg sc)
/-! the reference's side -/
def DiskR (S : gS) (d : mDk) : Prop := gfI S 608 237 = d.1 ∧ gfI S 609 237 = d.2.1 ∧ gfI S 607 237 = d.2.2.1 ∧ gfI S 605 237 = d.2.2.2.1 ∧ gfI S 606 237 = d.2.2.2.2
def PlanR (S : gS) (o : Nat) (l : List mStep) : Prop := ∀ k st, l[k]? = some st → gaI S 251 (o + k) = st.1 ∧ gaI S 252 (o + k) = st.2.1 ∧ gaI S 253 (o + k) = st.2.2.1 ∧ mJoin (gaI S 254 (o + k)) (gaI S 255 (o + k)) = st.2.2.2
def SchR (S : gS) (j : Nat) (l : List mCol) : Prop := gaI S 250 j = nI l.length ∧ ∀ i c, l[i]? = some c → gaI S 248 (8 * j + i) = c.1 ∧ gaI S 249 (8 * j + i) = c.2
def FormR (S : gS) (s : Nat) (ts : List Int32) (vs : List mV) : Prop := vs.length = ts.length ∧ ∀ i t x, ts[i]? = some t → vs[i]? = some x → RVv t (gaL S 238) (gaI S 239) (gaI S 240) (s + i) x
def DraftR (S : gS) (dr : mDr) : Prop := ∀ i, i < 8 → mJoin (gaI S 256 i) (gaI S 257 i) = (dr i).1 ∧ gaI S 258 i = nI (dr i).2.length ∧ ∀ j, j < (dr i).2.length → gaI S 259 (24 * i + j) = nI ((dr i).2.getD j 0)
def SeenR (S : gS) (sn : mSn) : Prop := match sn with
  | none => gfI S 603 237 = -1
  | some (ts, vs) => gfI S 603 237 = nI ts.length ∧ (∀ i t, ts[i]? = some t → gaI S 260 i = t) ∧ FormR S 640 ts vs
def RowR (S : gS) (i : Nat) (r : mRow) (sc nx : List mCol) (run : Bool) : Prop := gaI S 242 i = r.1 ∧ (∃ s, s < 40 ∧ gaI S 243 i = nI s ∧ gaI S 247 s = 1 ∧ FormR S (16 * s) (tys sc) r.2.2.2.1 ∧ (run = true → FormR S (16 * s + 8) (tys nx) r.2.2.2.2)) ∧ (if run = true then gaI S 245 i = r.2.1 ∧ gaI S 246 i = r.2.2.1 ∧ gaI S 244 i = 0 else gaI S 244 i = r.2.1)
def TableR (S : gS) (tb : List mRow) (sc nx : List mCol) (run : Bool) : Prop := gfI S 582 237 = nI tb.length ∧ (∀ i j, i < tb.length → j < tb.length → gaI S 243 i = gaI S 243 j → i = j) ∧ ((∀ s, s < 40 → (gaI S 247 s = 0 ∨ (gaI S 247 s = 1 ∧ ∃ i, i < tb.length ∧ gaI S 243 i = nI s))) ∧ ∀ i, (gaI S 245 i = 0 ∨ gaI S 245 i = 1) ∧ (gaI S 246 i = 0 ∨ gaI S 246 i = 1)) ∧ ∀ i r, tb[i]? = some r → RowR S i r sc nx run
def RR (S : gS) (m : mS) : Prop := match m with
  | (dk, vr, pl, mg, sc, nx, dr, sn, tb) => Imm S ∧ DiskR S dk ∧ gfI S 590 237 = vr.1 ∧ gfI S 591 237 = (if vr.2 = true then 1 else 0) ∧ (gfI S 597 237 = nI pl.length ∧ PlanR S 0 pl) ∧ SchR S 0 sc ∧ DraftR S dr ∧ SeenR S sn ∧ TableR S tb sc nx vr.2 ∧ (vr.2 = true → SchR S 1 nx ∧ gfI S 598 237 = nI mg.length ∧ PlanR S 6 mg)
/-! what holds of a model that can be reached -/
def dkOk (d : mDk) : Prop := (d.1 = 0 ∨ d.1 = 1) ∧ (d.2.1 = 0 ∨ d.2.1 = 1) ∧ ∃ c, c ≤ 1000 ∧ d.2.2.1 = nI c
def stOk (st : mStep) : Prop := (st.1 = 0 ∨ st.1 = 1 ∨ st.1 = 2 ∨ st.1 = 3) ∧ ((st.1 = 0 ∨ st.1 = 3) → isTy st.2.2.1)
def plOk (l : List mStep) : Prop := l.length ≤ 6 ∧ ∀ st ∈ l, stOk st
def scOk (l : List mCol) : Prop := l.length ≤ 8 ∧ (∀ c ∈ l, isTy c.2) ∧ (l.map (fun c => c.1)).Nodup
/-- no step is wrong on the way -/
def mgOk : List mStep → List mCol → Prop
  | [], _ => True
  | st :: ss, l => ¬ mWrong st l ∧ mgOk ss (mStepS st l)
def rwOk (r : mRow) (run : Bool) : Prop := (r.2.2.1 = 0 ∨ r.2.2.1 = 1) ∧ (r.2.1 = 0 ∨ r.2.1 = 1 ∨ (run = false ∧ r.2.1 = 2))
def mOk (m : mS) : Prop := match m with
  | (dk, vr, pl, mg, sc, nx, dr, sn, tb) => dkOk dk ∧ plOk pl ∧ scOk sc ∧ (vr.2 = true → plOk mg ∧ scOk nx ∧ mgOk mg sc ∧ nx = mSchs sc mg) ∧ tb.length ≤ 40 ∧ (∀ r ∈ tb, rwOk r vr.2) ∧ (tb.map (fun r => r.1)).Pairwise (fun a b => a < b) ∧ (∀ ts vs, sn = some (ts, vs) → ts.length ≤ 8 ∧ (∀ t ∈ ts, isTy t))
