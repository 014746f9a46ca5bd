theorem pz_w {u z z' : Int} (h : z % 4294967296 = z' % 4294967296) : pz (u * z) = pz (u * z') := by
  apply pz_cong
  have e : ∃ k, z = z' + 4294967296 * k := ⟨(z - z') / 4294967296, by omega⟩
  obtain ⟨k, rfl⟩ := e
  rw [Int.mul_add, show u * (4294967296 * k) = 32 * (u * (134217728 * k)) by grind, Int.add_mul_emod_self_left]
theorem i64_of (x : Int32) : x.toInt64.toInt = x.toInt := Int32.toInt_toInt64 x
def pmq (n m : Nat) (F G : Nat → Rg) (k i j : Nat) : Rg := sg i (fun a => sg n (fun b => if (a + b) % m = k then F a * G b else 0)) + sg j (fun b => if (i + b) % m = k then F i * G b else 0)
theorem pmq_00 (n m : Nat) (F G : Nat → Rg) (k : Nat) : pmq n m F G k 0 0 = 0 := by unfold pmq; rw [sg_0, sg_0, fr_0a]
theorem pmq_row (n m : Nat) (F G : Nat → Rg) (k i : Nat) : pmq n m F G k i n = pmq n m F G k (i + 1) 0 := by unfold pmq; rw [sg_s, sg_0, fr_a0]
theorem pmq_end (n m : Nat) (F G : Nat → Rg) (k : Nat) : pmq n m F G k n 0 = mq n m F G k := by unfold pmq mq; rw [sg_0, fr_a0]
theorem pmq_in {n m : Nat} (F G : Nat → Rg) {k i j : Nat} (h : (i + j) % m = k) : pmq n m F G k i (j + 1) = F i * G j + pmq n m F G k i j := by unfold pmq; rw [sg_s, if_pos h, ← fr_as, fr_ac]
theorem pmq_out {n m : Nat} (F G : Nat → Rg) {k i j : Nat} (h : ¬ (i + j) % m = k) : pmq n m F G k i (j + 1) = pmq n m F G k i j := by unfold pmq; rw [sg_s, if_neg h, fr_a0]
/-- filling what is made -/
def mFill (μ : mSt) (F : Nat → Rg) (i : Nat) (ν : mSt) : Prop := ∃ f, ν = mMa μ f ∧ ∀ j, j < i → f j = nI (F j).val
theorem mFill.step {μ ν ν' : mSt} {F : Nat → Rg} {i : Nat} {x : Int32} (h : mFill μ F i ν) (e : ν' = mMa ν (upd (mm ν) i x)) (hx : x = nI (F i).val) : mFill μ F (i + 1) ν' := by
  obtain ⟨f, rfl, hf⟩ := h
  subst e
  refine ⟨upd f i x, rfl, lt_s (fun j hj => by rw [upd_ne _ _ (by omega)]; exact hf j hj) (by rw [upd_at]; exact hx)⟩
theorem mFill.zero (μ : mSt) (F : Nat → Rg) : mFill μ F 0 μ := ⟨mm μ, rfl, fun j hj => absurd hj (Nat.not_lt_zero j)⟩
theorem mFill.rel {μ ν : mSt} {F : Nat → Rg} {i : Nat} {Δ : dSt} (h : mFill μ F i ν) (hR : mRel μ Δ) : mRel ν Δ := by obtain ⟨f, rfl, -⟩ := h; exact hR
theorem mFill.is {μ ν : mSt} {F G : Nat → Rg} {i k n : Nat} (h : mFill μ F i ν) (hG : mIs μ k n G) : mIs ν k n G := by obtain ⟨f, rfl, -⟩ := h; exact hG
theorem mFill.len {μ ν : mSt} {F : Nat → Rg} {i k : Nat} {x : Int32} (h : mFill μ F i ν) (hG : ml μ k = x) : ml ν k = x := by obtain ⟨f, rfl, -⟩ := h; exact hG
theorem mFill.odd {μ ν : mSt} {F : Nat → Rg} {i : Nat} (h : mFill μ F i ν) : mo ν = mo μ := by obtain ⟨f, rfl, -⟩ := h; rfl
theorem mFill.thr {μ ν : mSt} {F : Nat → Rg} {i : Nat} (h : mFill μ F i ν) : mt ν = mt μ := by obtain ⟨f, rfl, -⟩ := h; rfl
theorem mFill.got {μ ν : mSt} {F : Nat → Rg} {i : Nat} (h : mFill μ F i ν) : ∀ j, j < i → mm ν j = nI (F j).val := by obtain ⟨f, rfl, hf⟩ := h; exact hf
theorem mFill.cong {μ ν : mSt} {F G : Nat → Rg} {i : Nat} (h : mFill μ F i ν) (e : ∀ j, j < i → F j = G j) : mFill μ G i ν := by
  obtain ⟨f, rfl, hf⟩ := h
  exact ⟨f, rfl, fun j hj => by rw [← e j hj]; exact hf j hj⟩
/-- putting what is made into a row -/
def mPut (μ : mSt) (k : Nat) (F : Nat → Rg) (i : Nat) (ν : mSt) : Prop := ∃ f, ν = mRo μ k f ∧ (∀ j, j < i → f j = nI (F j).val) ∧ ∀ j, i ≤ j → f j = mn μ k j
theorem mRo_twice (μ : mSt) (k : Nat) (f g : Nat → Int32) : mRo (mRo μ k f) k g = mRo μ k g := by
  unfold mRo
  simp only [mo, mt, ml, mm, mn]
  congr 4
  funext j
  simp only [vf_upd]
  split <;> rfl
theorem mPut.step {μ ν ν' : mSt} {k : Nat} {F : Nat → Rg} {i : Nat} {x : Int32} (h : mPut μ k F i ν) (e : ν' = mRo ν k (upd (mn ν k) i x)) (hx : x = nI (F i).val) : mPut μ k F (i + 1) ν' := by
  obtain ⟨f, rfl, hf, hg⟩ := h
  subst e
  refine ⟨upd f i x, by rw [mn_ro, mRo_twice], lt_s (fun j hj => by rw [upd_ne _ _ (by omega)]; exact hf j hj) (by rw [upd_at]; exact hx), fun j hj => by rw [upd_ne _ _ (by omega)]; exact hg j (by omega)⟩
theorem mRo_self (μ : mSt) (k : Nat) : mRo μ k (mn μ k) = μ := by
  obtain ⟨a, b, c, d, e⟩ := μ
  unfold mRo
  simp only [mo, mt, ml, mm, mn]
  congr 4
  funext j
  simp only [vf_upd]
  split
  · rename_i h; rw [h]
  · rfl
theorem mPut.zero (μ : mSt) (k : Nat) (F : Nat → Rg) : mPut μ k F 0 μ := ⟨mn μ k, (mRo_self μ k).symm, fun j hj => absurd hj (Nat.not_lt_zero j), fun _ _ => rfl⟩
theorem mPut.len {μ ν : mSt} {k q i : Nat} {F : Nat → Rg} {x : Int32} (h : mPut μ k F i ν) (hG : ml μ q = x) : ml ν q = x := by obtain ⟨f, rfl, -⟩ := h; exact hG
theorem mPut.mad {μ ν : mSt} {k q i : Nat} {F : Nat → Rg} {x : Int32} (h : mPut μ k F i ν) (hG : mm μ q = x) : mm ν q = x := by obtain ⟨f, rfl, -⟩ := h; exact hG
theorem mPut.thr {μ ν : mSt} {k i : Nat} {F : Nat → Rg} (h : mPut μ k F i ν) : mt ν = mt μ := by obtain ⟨f, rfl, -⟩ := h; rfl
theorem mPut.old {μ ν : mSt} {k i j : Nat} {F : Nat → Rg} (h : mPut μ k F i ν) (hj : i ≤ j) : mn ν k j = mn μ k j := by obtain ⟨f, rfl, -, hg⟩ := h; rw [mn_ro]; exact hg j hj
theorem mPut.is {μ ν : mSt} {k n : Nat} {F : Nat → Rg} (h : mPut μ k F n ν) : mIs ν k n F := by obtain ⟨f, rfl, hf, -⟩ := h; intro j hj; rw [mn_ro]; exact hf j hj
/-- a row that got what was made, its length the same -/
theorem mPut.rel {μ ν : mSt} {k : Nat} {F : Nat → Rg} {Δ : dSt} (hR : mRel μ Δ) (hk : k < 4) (h : mPut μ k F (Δ.2.1 k) ν) : mRel ν (dRow Δ k (Δ.2.1 k) F) := by
  obtain ⟨a1, a2, a3, a4⟩ := hR.2.2 k hk
  refine hR.row ?_ a1 (h.len a2) h.is (fun j h1 h2 => by rw [h.old h1]; exact a4 j h1 h2) (fun q hq hne => ?_)
  · obtain ⟨f, rfl, -⟩ := h; rfl
  · obtain ⟨f, rfl, -⟩ := h; exact ⟨rfl, mn_rone _ _ hne⟩
theorem bI_ret {p : Prop} [Decidable p] : narrow .boolean (.int (bI p)) = .int (bI p) := bI_nar p _ rfl
theorem m_alike {μ : mSt} {Δ : dSt} {i j : Nat} (hR : mRel μ Δ) (hi : i < 4) (hj : j < 4) : (ml μ i = ml μ j ∧ ∀ t, t < 16 → mn μ i t = mn μ j t) ↔ dLike Δ i j := by
  obtain ⟨a1, a2, a3, a4⟩ := hR.2.2 i hi
  obtain ⟨b1, b2, b3, b4⟩ := hR.2.2 j hj
  have ha := a1.N.le
  have hb := b1.N.le
  rw [a2, b2, nI_eq (by omega) (by omega)]
  constructor
  · rintro ⟨h1, h2⟩
    exact ⟨h1, fun t ht => by have := h2 t (by omega); rw [a3 t ht, b3 t (by omega)] at this; exact val_ne.mp this⟩
  · rintro ⟨h1, h2⟩
    refine ⟨h1, fun t ht => ?_⟩
    rcases Nat.lt_or_ge t (Δ.2.1 i) with q | q
    · rw [a3 t q, b3 t (by omega), h2 t q]
    · rw [a4 t q ht, b4 t (by omega) ht]
