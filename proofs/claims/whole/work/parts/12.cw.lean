/-! The class's world: the object, its array of rows, ten rows (four of the document, six to reckon in) and their numbers -/
abbrev cSt : Type := Int32 × (Nat → Int32) × (Nat → Nat → Int32)
def cSz (σ : cSt) (k : Nat) (v : Int32) : cSt := (σ.1, upd σ.2.1 k v, σ.2.2)
def cNm (σ : cSt) (k : Nat) (f : Nat → Int32) : cSt := (σ.1, σ.2.1, vf_upd σ.2.2 k f)
def cOd (σ : cSt) (v : Int32) : cSt := (v, σ.2.1, σ.2.2)
/-- the layout: object, array of rows, rows, numbers, the classes of int[] and Row[], what else lies in the world, what else is known of arrays -/
abbrev cLay : Type := Nat × Nat × (Nat → Nat) × (Nat → Nat) × ClassId × ClassId × va_W × List (ClassId × FieldType)
def lx (L : cLay) : Nat := L.1
def lg (L : cLay) : Nat := L.2.1
def la (L : cLay) : Nat → Nat := L.2.2.1
def lb (L : cLay) : Nat → Nat := L.2.2.2.1
def lI (L : cLay) : ClassId := L.2.2.2.2.1
def lR (L : cLay) : ClassId := L.2.2.2.2.2.1
def lX (L : cLay) : va_W := L.2.2.2.2.2.2.1
def lT (L : cLay) : List (ClassId × FieldType) := L.2.2.2.2.2.2.2
def cTy (L : cLay) : List (ClassId × FieldType) := (lI L, .int) :: (lR L, .object "Rootrows$Row") :: lT L
def cObj (L : cLay) (σ : cSt) : List Value := [.ref (lg L), .ref (la L 4), .ref (la L 5), .ref (la L 6), .ref (la L 7), .ref (la L 8), .ref (la L 9), .int σ.1]
def cR1 (L : cLay) (σ : cSt) (k : Nat) : Nat × va_E := (la L k, .inr (0, [.ref (lb L k), .int (σ.2.1 k)]))
def cR2 (L : cLay) (σ : cSt) (k : Nat) : Nat × va_E := (lb L k, .inl (lI L, 16, .inl (σ.2.2 k)))
def WC (L : cLay) (σ : cSt) : va_W := (lx L, .inr (1, cObj L σ)) :: (lg L, .inl (lR L, 4, .inr (.inr (.inr (.inr (fun i => some (la L i))))))) ::
  cR1 L σ 0 :: cR2 L σ 0 :: cR1 L σ 1 :: cR2 L σ 1 :: cR1 L σ 2 :: cR2 L σ 2 :: cR1 L σ 3 :: cR2 L σ 3 :: cR1 L σ 4 :: cR2 L σ 4 :: cR1 L σ 5 :: cR2 L σ 5 :: cR1 L σ 6 :: cR2 L σ 6 :: cR1 L σ 7 :: cR2 L σ 7 :: cR1 L σ 8 :: cR2 L σ 8 :: cR1 L σ 9 :: cR2 L σ 9 :: lX L
theorem c_ten {P : Nat → Prop} {k : Nat} (hk : k < 10) (h0 : P 0) (h1 : P 1) (h2 : P 2) (h3 : P 3) (h4 : P 4) (h5 : P 5) (h6 : P 6) (h7 : P 7) (h8 : P 8) (h9 : P 9) : P k := by
  rcases (show k = 0 ∨ k = 1 ∨ k = 2 ∨ k = 3 ∨ k = 4 ∨ k = 5 ∨ k = 6 ∨ k = 7 ∨ k = 8 ∨ k = 9 by omega) with rfl | rfl | rfl | rfl | rfl | rfl | rfl | rfl | rfl | rfl <;> assumption
theorem wc_row {L : cLay} {σ : cSt} {k : Nat} (hk : k < 10) : (WC L σ)[2 + 2 * k]? = some (la L k, .inr (0, [.ref (lb L k), .int (σ.2.1 k)])) :=
  c_ten (P := fun k => (WC L σ)[2 + 2 * k]? = some (la L k, .inr (0, [.ref (lb L k), .int (σ.2.1 k)]))) hk rfl rfl rfl rfl rfl rfl rfl rfl rfl rfl
theorem wc_num {L : cLay} {σ : cSt} {k : Nat} (hk : k < 10) : (WC L σ)[3 + 2 * k]? = some (lb L k, .inl (lI L, 16, .inl (σ.2.2 k))) :=
  c_ten (P := fun k => (WC L σ)[3 + 2 * k]? = some (lb L k, .inl (lI L, 16, .inl (σ.2.2 k)))) hk rfl rfl rfl rfl rfl rfl rfl rfl rfl rfl
theorem cR1_nm (L : cLay) (σ : cSt) (k j : Nat) (f : Nat → Int32) : cR1 L (cNm σ k f) j = cR1 L σ j := rfl
theorem cR2_sz (L : cLay) (σ : cSt) (k j : Nat) (v : Int32) : cR2 L (cSz σ k v) j = cR2 L σ j := rfl
theorem cR1_ne (L : cLay) (σ : cSt) {k j : Nat} (v : Int32) (h : j ≠ k) : cR1 L (cSz σ k v) j = cR1 L σ j := by simp [cR1, cSz, upd, h]
theorem cR1_eq (L : cLay) (σ : cSt) (k : Nat) (v : Int32) : cR1 L (cSz σ k v) k = (la L k, .inr (0, [.ref (lb L k), .int v])) := by simp [cR1, cSz, upd]
theorem cR2_ne (L : cLay) (σ : cSt) {k j : Nat} (f : Nat → Int32) (h : j ≠ k) : cR2 L (cNm σ k f) j = cR2 L σ j := by simp [cR2, cNm, vf_upd, h]
theorem cR2_eq (L : cLay) (σ : cSt) (k : Nat) (f : Nat → Int32) : cR2 L (cNm σ k f) k = (lb L k, .inl (lI L, 16, .inl f)) := by simp [cR2, cNm, vf_upd]
theorem wc_putSize {L : cLay} {σ : cSt} {k : Nat} (hk : k < 10) (v : Int32) : (WC L σ).set (2 + 2 * k) (la L k, .inr (0, [.ref (lb L k), .int v])) = WC L (cSz σ k v) := by
  refine c_ten (P := fun k => (WC L σ).set (2 + 2 * k) (la L k, .inr (0, [.ref (lb L k), .int v])) = WC L (cSz σ k v)) hk ?_ ?_ ?_ ?_ ?_ ?_ ?_ ?_ ?_ ?_ <;>
    (unfold WC; simp only [cR2_sz, cR1_eq]; repeat rw [cR1_ne _ _ _ (by decide)]; rfl)
theorem wc_putNum {L : cLay} {σ : cSt} {k : Nat} (hk : k < 10) (f : Nat → Int32) : (WC L σ).set (3 + 2 * k) (lb L k, .inl (lI L, 16, .inl f)) = WC L (cNm σ k f) := by
  refine c_ten (P := fun k => (WC L σ).set (3 + 2 * k) (lb L k, .inl (lI L, 16, .inl f)) = WC L (cNm σ k f)) hk ?_ ?_ ?_ ?_ ?_ ?_ ?_ ?_ ?_ ?_ <;>
    (unfold WC; simp only [cR1_nm, cR2_eq]; repeat rw [cR2_ne _ _ _ (by decide)]; rfl)
section CW
variable {p : Program} {l : Launch} {e : Env} {R : Room} {s : State} {m : MethodId} {args : Array Value} {below : List Frame} {meth : Method} {c : Code}
variable {cc : ByteArray} {nL k n pc : Nat} {own : String} {Ts : List Cond} {D : va_G} {L : cLay} {A : Nat → Prop} {Q : State → Prop} {σ : cSt} {lv : List (Nat × Value)} {st : List Value}
theorem cGetSize (hC : gC p s m args meth c cc nL own Ts D (cTy L) A) {i K : Nat} (hK : K < 10) (hin : ∀ w ∈ u_ws RX0 TX0 2, w ∈ Ts) (hlink : Cond.fieldLink own i "Rootrows$Row" "size" "I" ∈ Ts) {v : Int32} (hv : σ.2.1 K = v) (d : decode cc pc = .ok (.getfield i, 3)) (kk : gG p l e R s m args below meth c D A nL k n Q (WC L σ) (pc + 3) lv (.int v :: st)) : gG p l e R s m args below meth c D A nL k n Q (WC L σ) pc lv (.ref (la L K) :: st) := by
  subst hv
  exact gGet (T := TX0) (N := 2) (C := RX0) (ci := 0) hC hin _ (wc_row hK) rfl 1 (by decide) hlink rfl rfl d kk
theorem cGetNums (hC : gC p s m args meth c cc nL own Ts D (cTy L) A) {i K : Nat} (hK : K < 10) (hin : ∀ w ∈ u_ws RX0 TX0 2, w ∈ Ts) (hlink : Cond.fieldLink own i "Rootrows$Row" "numbers" "[I" ∈ Ts) (d : decode cc pc = .ok (.getfield i, 3)) (kk : gG p l e R s m args below meth c D A nL k n Q (WC L σ) (pc + 3) lv (.ref (lb L K) :: st)) : gG p l e R s m args below meth c D A nL k n Q (WC L σ) pc lv (.ref (la L K) :: st) :=
  gGet (T := TX0) (N := 2) (C := RX0) (ci := 0) hC hin _ (wc_row hK) rfl 0 (by decide) hlink rfl rfl d kk
theorem cPutSize (hC : gC p s m args meth c cc nL own Ts D (cTy L) A) {i K : Nat} {v : Int32} {σ' : cSt} (hK : K < 10) (hin : ∀ w ∈ u_ws RX0 TX0 2, w ∈ Ts) (hlink : Cond.fieldLink own i "Rootrows$Row" "size" "I" ∈ Ts) (hσ : σ' = cSz σ K v) (d : decode cc pc = .ok (.putfield i, 3)) (kk : gG p l e R s m args below meth c D A nL k n Q (WC L σ') (pc + 3) lv st) : gG p l e R s m args below meth c D A nL k n Q (WC L σ) pc lv (.int v :: .ref (la L K) :: st) := by
  subst hσ
  exact gPut (T := TX0) (N := 2) (C := RX0) (ci := 0) (ty := .int) hC hin tyX0 tyX0_ok nmX0 _ (wc_row hK) rfl 1 (by decide) hlink rfl rfl (by decide +kernel) rfl rfl (Nat.le_of_ble_eq_true rfl) d (wc_putSize hK v) kk
theorem cNumLd (hC : gC p s m args meth c cc nL own Ts D (cTy L) A) {K : Nat} {i v : Int32} (hK : K < 10) (j : Nat) (hij : i = nI j) (hj : j < 16) (hv : σ.2.2 K j = v) (d : decode cc pc = .ok (.iaload, 1)) (kk : gG p l e R s m args below meth c D A nL k n Q (WC L σ) (pc + 1) lv (.int v :: st)) : gG p l e R s m args below meth c D A nL k n Q (WC L σ) pc lv (.int i :: .ref (lb L K) :: st) :=
  gIald hC j hij hj (by decide) _ 0 (wc_num hK) rfl hv d kk
theorem cNumSt (hC : gC p s m args meth c cc nL own Ts D (cTy L) A) {K : Nat} {i x : Int32} {σ' : cSt} (hK : K < 10) (j : Nat) (hij : i = nI j) (hj : j < 16) (hσ : σ' = cNm σ K (upd (σ.2.2 K) j x)) (d : decode cc pc = .ok (.iastore, 1)) (kk : gG p l e R s m args below meth c D A nL k n Q (WC L σ') (pc + 1) lv st) : gG p l e R s m args below meth c D A nL k n Q (WC L σ) pc lv (.int x :: .int i :: .ref (lb L K) :: st) := by
  subst hσ
  exact gIast hC j hij hj (by decide) _ 0 (wc_num hK) rfl d (wc_putNum hK _) kk
theorem cGetRow (hC : gC p s m args meth c cc nL own Ts D (cTy L) A) {i : Nat} (j : Nat) {nm : String} (hj : 1 ≤ j ∧ j ≤ 6) (hnm : (TX1 j).2.1 = nm) (hin : ∀ w ∈ u_ws RX1 TX1 8, w ∈ Ts) (hlink : Cond.fieldLink own i "Rootrows" nm "LRootrows$Row;" ∈ Ts) (d : decode cc pc = .ok (.getfield i, 3)) (kk : gG p l e R s m args below meth c D A nL k n Q (WC L σ) (pc + 3) lv (.ref (la L (3 + j)) :: st)) : gG p l e R s m args below meth c D A nL k n Q (WC L σ) pc lv (.ref (lx L) :: st) := by
  subst hnm
  have hd : (TX1 j).1 = "Rootrows" ∧ (TX1 j).2.2.1 = "LRootrows$Row;" ∧ (cObj L σ)[j]? = some (.ref (la L (3 + j))) := by
    rcases (show j = 1 ∨ j = 2 ∨ j = 3 ∨ j = 4 ∨ j = 5 ∨ j = 6 by omega) with rfl | rfl | rfl | rfl | rfl | rfl <;> exact ⟨rfl, rfl, rfl⟩
  exact gGet (T := TX1) (N := 8) (C := RX1) (ci := 1) hC hin 0 rfl rfl j (by omega) (by rw [hd.2.1]; exact hlink) hd.1 hd.2.2 d kk
theorem cGetRows (hC : gC p s m args meth c cc nL own Ts D (cTy L) A) {i : Nat} (hin : ∀ w ∈ u_ws RX1 TX1 8, w ∈ Ts) (hlink : Cond.fieldLink own i "Rootrows" "rows" "[LRootrows$Row;" ∈ Ts) (d : decode cc pc = .ok (.getfield i, 3)) (kk : gG p l e R s m args below meth c D A nL k n Q (WC L σ) (pc + 3) lv (.ref (lg L) :: st)) : gG p l e R s m args below meth c D A nL k n Q (WC L σ) pc lv (.ref (lx L) :: st) :=
  gGet (T := TX1) (N := 8) (C := RX1) (ci := 1) hC hin 0 rfl rfl 0 (by decide) hlink rfl rfl d kk
theorem cGetOdd (hC : gC p s m args meth c cc nL own Ts D (cTy L) A) {i : Nat} (hin : ∀ w ∈ u_ws RX1 TX1 8, w ∈ Ts) (hlink : Cond.fieldLink own i "Rootrows" "odd" "I" ∈ Ts) {v : Int32} (hv : σ.1 = v) (d : decode cc pc = .ok (.getfield i, 3)) (kk : gG p l e R s m args below meth c D A nL k n Q (WC L σ) (pc + 3) lv (.int v :: st)) : gG p l e R s m args below meth c D A nL k n Q (WC L σ) pc lv (.ref (lx L) :: st) := by
  subst hv
  exact gGet (T := TX1) (N := 8) (C := RX1) (ci := 1) hC hin 0 rfl rfl 7 (by decide) hlink rfl rfl d kk
theorem cPutOdd (hC : gC p s m args meth c cc nL own Ts D (cTy L) A) {i : Nat} {v : Int32} (hin : ∀ w ∈ u_ws RX1 TX1 8, w ∈ Ts) (hlink : Cond.fieldLink own i "Rootrows" "odd" "I" ∈ Ts) (d : decode cc pc = .ok (.putfield i, 3)) (kk : gG p l e R s m args below meth c D A nL k n Q (WC L (cOd σ v)) (pc + 3) lv st) : gG p l e R s m args below meth c D A nL k n Q (WC L σ) pc lv (.int v :: .ref (lx L) :: st) :=
  gPut (T := TX1) (N := 8) (C := RX1) (ci := 1) (ty := .int) hC hin tyX1 tyX1_ok nmX1 0 rfl rfl 7 (by decide) hlink rfl rfl (by decide +kernel) rfl rfl (Nat.le_of_ble_eq_true rfl) d rfl kk
theorem cRowAld (hC : gC p s m args meth c cc nL own Ts D (cTy L) A) {i : Int32} (j : Nat) (hij : i = nI j) (hj : j < 4) (d : decode cc pc = .ok (.aaload, 1)) (kk : gG p l e R s m args below meth c D A nL k n Q (WC L σ) (pc + 1) lv (.ref (la L j) :: st)) : gG p l e R s m args below meth c D A nL k n Q (WC L σ) pc lv (.int i :: .ref (lg L) :: st) :=
  gAald hC j hij hj (by decide) 1 1 rfl rfl ⟨_, rfl⟩ rfl d kk
end CW
theorem loopUp {S : Type} (G : Nat → S → Prop) (I : Nat → S → Prop) (N : Nat) (hend : ∀ s, I N s → G N s) (hstep : ∀ i s, i < N → I i s → (∀ s', I (i + 1) s' → G (i + 1) s') → G i s) : ∀ (i : Nat) (s : S), i ≤ N → I i s → G i s := by
  intro i
  generalize hd : N - i = d
  induction d generalizing i with
  | zero =>
    intro s hi hI
    have : i = N := by omega
    subst this
    exact hend s hI
  | succ d ih =>
    intro s hi hI
    exact hstep i s (by omega) hI (fun s' hI' => ih (i + 1) (by omega) s' (by omega) hI')
