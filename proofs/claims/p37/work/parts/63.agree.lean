/-! what agrees below 5 N gives the same -/
def agC (g g' : Nat → Int32) (N : Nat) : Prop := ∀ j, j < 5 * N → g j = g' j
theorem idG_c {g g' : Nat → Int32} {N i : Nat} (h : agC g g' N) (hi : i < N) : idG g i = idG g' i := by unfold idG; rw [h _ (by omega), h _ (by omega)]
theorem flG_c {g g' : Nat → Int32} {N i : Nat} (h : agC g g' N) (hi : i < N) : flG g i = flG g' i := by unfold flG; rw [h _ (by omega), idG_c h hi]
theorem roG_c {g g' : Nat → Int32} {N i : Nat} (h : agC g g' N) (hi : i < N) : roG g i = roG g' i := by unfold roG; rw [h _ (by omega)]
theorem topG_c {g g' : Nat → Int32} {N i : Nat} (h : agC g g' N) (hi : i < N) : topG g i = topG g' i := by unfold topG; rw [h _ (by omega), h _ (by omega), h _ (by omega)]
theorem botG_c {g g' : Nat → Int32} {N i : Nat} (h : agC g g' N) (hi : i < N) : botG g i = botG g' i := by unfold botG; rw [h _ (by omega), h _ (by omega)]
theorem nwV_congr {ids fls rods ids' fls' rods' : Nat → UInt32} {n : Nat} {x : UInt32} {h : Nat → Bool} (H : ∀ j, j < n → ids j = ids' j ∧ fls j = fls' j ∧ rods j = rods' j) (j : Nat) (hj : j < n) : nwV ids fls rods x h j = nwV ids' fls' rods' x h j := by
  unfold nwV
  rw [(H j hj).1, (H j hj).2.1, (H j hj).2.2]
theorem hnV_congr {ids fls rods ids' fls' rods' : Nat → UInt32} {n : Nat} {x : UInt32} {h : Nat → Bool} (H : ∀ j, j < n → ids j = ids' j ∧ fls j = fls' j ∧ rods j = rods' j) : hnV ids fls rods n x h = hnV ids' fls' rods' n x h := by
  funext j
  unfold hnV
  by_cases hj : j < n
  · rw [nwV_congr H j hj]
  · rw [decide_eq_false hj, Bool.false_and, Bool.false_and]
theorem rnV_congr {W : UInt32} {ids fls rods ids' fls' rods' : Nat → UInt32} {n : Nat} (H : ∀ j, j < n → ids j = ids' j ∧ fls j = fls' j ∧ rods j = rods' j) : ∀ (k : Nat) (h : Nat → Bool), rnV W ids fls rods n k h = rnV W ids' fls' rods' n k h := by
  intro k
  induction k with
  | zero => intro h; rfl
  | succ k ih =>
    intro h
    have e1 : balF W ids fls rods h n = balF W ids' fls' rods' h n := balF_congr fun j hj => ⟨(H j hj).1, (H j hj).2.1, (H j hj).2.2, rfl⟩
    have e2 : anyB (nwV ids fls rods (balF W ids' fls' rods' h n) h) n = anyB (nwV ids' fls' rods' (balF W ids' fls' rods' h n) h) n := anyB_congr fun j hj => nwV_congr H j hj
    unfold rnV
    rw [e1, e2, hnV_congr H, ih]
theorem setV_c {g g' : Nat → Int32} {w : Int32} {N a n : Nat} (h : agC g g' N) (hn : a + n ≤ N) : setV g w a n = setV g' w a n := by
  unfold setV
  exact rnV_congr (fun j hj => ⟨idG_c h (by omega), flG_c h (by omega), roG_c h (by omega)⟩) 33 _
theorem lenV_c {g g' : Nat → Int32} {w : Int32} {N a n j : Nat} (h : agC g g' N) (hn : a + n ≤ N) (hj : j < n) : lenV g w a n j = lenV g' w a n j := by
  unfold lenV
  rw [setV_c h hn, idG_c h (by omega), flG_c h (by omega), roG_c h (by omega)]
theorem atV_c {g g' : Nat → Int32} {w : Int32} {N a n k : Nat} (h : agC g g' N) (hn : a + n ≤ N) (hk : k ≤ n) : atV g w a n k = atV g' w a n k := by
  unfold atV
  exact sumF_congr fun j hj => lenV_c h hn (by omega)
theorem heldV_c {g g' : Nat → Int32} {w : Int32} {N a n : Nat} (h : agC g g' N) (hn : a + n ≤ N) : heldV g w a n = heldV g' w a n := by unfold heldV; rw [setV_c h hn]
theorem cellV_c {g g' : Nat → Int32} {w : Int32} {N a n k : Nat} (h : agC g g' N) (hn : a + n ≤ N) (hk : k ≤ n) : cellV g w a n k = cellV g' w a n k := by unfold cellV; rw [atV_c h hn hk]
abbrev PCe : Type := Bool × Int32 × Int32
def nU (b : Bool) (t u : Int32) : Int32 := if b = true then mxI t u else t
def nL (b : Bool) (t u : Int32) : Int32 := if b = true then mnI t u else t
def upd_ (f : Nat → PCe) (p e : Nat) (t b : Int32) : Nat → PCe := fun y => if p ≤ y ∧ y < e then (true, nU (f y).1 t (f y).2.1, nL (f y).1 b (f y).2.2) else f y
theorem sk_upd {g : Nat → Int32} {w : Int32} {a n k : Nat} : skV g w a n (k + 1) = upd_ (skV g w a n k) (cellV g w a n k).toInt.toNat (inkE (cellV g w a n k) (g (5 * (a + k) + 3))).toInt.toNat (topG g (a + k)) (botG g (a + k)) := rfl
theorem skV_c {g g' : Nat → Int32} {w : Int32} {N a n : Nat} (h : agC g g' N) (hn : a + n ≤ N) : ∀ k, k ≤ n → skV g w a n k = skV g' w a n k := by
  intro k
  induction k with
  | zero => intro _; rfl
  | succ k ih =>
    intro hk
    rw [sk_upd, sk_upd, ih (by omega), cellV_c h hn (by omega), h _ (by omega), topG_c h (by omega), botG_c h (by omega)]
theorem skyV_c {g g' : Nat → Int32} {w : Int32} {N a n : Nat} (h : agC g g' N) (hn : a + n ≤ N) : skyV g w a n = skyV g' w a n := skV_c h hn n (Nat.le_refl n)
theorem apV_c {g g' : Nat → Int32} {w : Int32} {N a n c m : Nat} (h : agC g g' N) (hn : a + n ≤ N) (hm : c + m ≤ N) : apV g w a n c m = apV g' w a n c m := by
  unfold apV
  rw [skV_c h hn n (Nat.le_refl n), skV_c h hm m (Nat.le_refl m)]
theorem fitV_c {g g' : Nat → Int32} {w : Int32} {N a n : Nat} (h : agC g g' N) (hn : a + n ≤ N) : fitV g w a n = fitV g' w a n := by
  unfold fitV fitB
  rw [sumF_congr (f := fun j => roG g (a + j)) (f' := fun j => roG g' (a + j)) (fun j hj => roG_c h (by omega))]
theorem badV_c {g g' : Nat → Int32} {w : Int32} {N a n : Nat} (h : agC g g' N) (hn : a + n ≤ N) : badV g w a n = badV g' w a n := by
  unfold badV qF
  rw [sumF_congr (f := fun j => flG g (a + j)) (f' := fun j => flG g' (a + j)) (fun j hj => flG_c h (by omega)), sumF_congr (f := fun j => idG g (a + j)) (f' := fun j => idG g' (a + j)) (fun j hj => idG_c h (by omega))]
theorem rsV_c {g g' : Nat → Int32} {w : Int32} {N p k : Nat} {B : PBt} (h : agC g g' N) (hp : p ≤ N) (hk : k < p) : rsV g w p B k = rsV g' w p B k := by
  unfold rsV
  rw [fitV_c h (by omega), badV_c h (by omega)]
theorem rcV_c {g g' : Nat → Int32} {w : Int32} {N p : Nat} {B : PBt} (h : agC g g' N) (hp : p ≤ N) : ∀ k, k ≤ p → rcV g w p B k = rcV g' w p B k := by
  intro k
  induction k with
  | zero => intro _; rfl
  | succ k ih => intro hk; unfold rcV; rw [ih (by omega), rsV_c h hp (by omega)]
theorem fdV_c {g g' : Nat → Int32} {w : Int32} {N : Nat} (h : agC g g' N) : ∀ k, k ≤ N → fdV g w N k = fdV g' w N k := by
  intro k
  induction k with
  | zero => intro _; rfl
  | succ k ih =>
    intro hk
    unfold fdV
    rw [ih (by omega), rcV_c h hk (k + 1) (Nat.le_refl _), show isEnV g N (k + 1) = isEnV g' N (k + 1) by unfold isEnV; rw [h _ (by omega)]]
theorem beV_c {g g' : Nat → Int32} {w : Int32} {N : Nat} (h : agC g g' N) : beV g w N = beV g' w N := by unfold beV; rw [fdV_c h N (Nat.le_refl N)]
theorem fouV_c {g g' : Nat → Int32} {w : Int32} {N : Nat} (h : agC g g' N) : fouV g w N = fouV g' w N := by unfold fouV; rw [beV_c h]
theorem linV_c {g g' : Nat → Int32} {w : Int32} {N : Nat} (h : agC g g' N) : linV g w N = linV g' w N := by unfold linV; rw [beV_c h]
theorem totV_c {g g' : Nat → Int32} {w : Int32} {N : Nat} (h : agC g g' N) : totV g w N = totV g' w N := by unfold totV; rw [fdV_c h N (Nat.le_refl N)]
theorem staV_c {g g' : Nat → Int32} {w : Int32} {N k : Nat} (h : agC g g' N) : staV g w N k = staV g' w N k := by unfold staV; rw [beV_c h, linV_c h]
theorem cntN_c {g g' : Nat → Int32} {N : Nat} (h : agC g g' N) : ∀ k, k ≤ N → cntN g k = cntN g' k := by
  intro k
  induction k with
  | zero => intro _; rfl
  | succ k ih => intro hk; unfold cntN; rw [ih (by omega), h _ (by omega)]
theorem sumD_c {g g' : Nat → Int32} {N : Nat} (h : agC g g' N) : ∀ k, k ≤ N → sumD g k = sumD g' k := by
  intro k
  induction k with
  | zero => intro _; rfl
  | succ k ih => intro hk; unfold sumD; rw [ih (by omega), h _ (by omega), h _ (by omega)]
theorem inkV_c {g g' : Nat → Int32} {N c : Nat} {up : Bool} (h : agC g g' N) (hc : c < N) : inkV g up c = inkV g' up c := by unfold inkV; rw [topG_c h hc, botG_c h hc]
theorem sluV_c {g g' : Nat → Int32} {N x y : Nat} {up : Bool} (h : agC g g' N) (hxy : x ≤ y) (hy : y < N) : sluV g up x y = sluV g' up x y := by
  have e : ∀ k, k ≤ y - x - 1 → slhV g up x y k = slhV g' up x y k := by
    intro k
    induction k with
    | zero => intro _; rfl
    | succ k ih =>
      intro hk
      unfold slhV
      rw [ih (by omega), inkV_c h (by omega), show endV g up x y = endV g' up x y by unfold endV; rw [inkV_c h (by omega), inkV_c h hy]]
  unfold sluV
  exact e _ (Nat.le_refl _)
theorem ntsV_c {g g' : Nat → Int32} {N x : Nat} (h : agC g g' N) : ∀ k, x + k ≤ N → ntsV g x k = ntsV g' x k := by
  intro k
  induction k with
  | zero => intro _; rfl
  | succ k ih => intro hk; unfold ntsV; rw [ih (by omega), h _ (by omega)]
theorem upV_c {g g' : Nat → Int32} {N x k : Nat} (h : agC g g' N) (hk : x + k ≤ N) : upV g x k = upV g' x k := by
  have e : ∀ k, x + k ≤ N → stpV g x k = stpV g' x k := by
    intro k
    induction k with
    | zero => intro _; rfl
    | succ k ih => intro hk; unfold stpV; rw [ih (by omega), h _ (by omega)]
  unfold upV
  rw [e k hk]
theorem risV_c {g g' : Nat → Int32} {w : Int32} {N x y : Nat} (h : agC g g' N) (hxy : x ≤ y) (hy : y < N) : risV g w x y = risV g' w x y := by
  unfold risV
  rw [h _ (by omega), h _ (by omega), atV_c h (by omega) (by omega)]
theorem sloV_c {g g' : Nat → Int32} {w : Int32} {N x y : Nat} (h : agC g g' N) (hxy : x ≤ y) (hy : y < N) : sloV g w x y = sloV g' w x y := by unfold sloV; rw [risV_c h hxy hy]
theorem grtC_c {g g' : Nat → Int32} {w : Int32} {N x n : Nat} {up : Bool} {t pe : UInt32} (h : agC g g' N) (hn : x + n ≤ N) : ∀ k, k ≤ n → grtC up t (fun k => g (5 * (x + k) + 2)) (fun k => atV g w x n k) pe k = grtC up t (fun k => g' (5 * (x + k) + 2)) (fun k => atV g' w x n k) pe k := by
  intro k
  induction k with
  | zero => intro _; exact (show FP.fconst0 = FP.fconst0 from Eq.refl _)
  | succ k ih =>
    intro hk
    have i := ih (by omega)
    have e1 := h (5 * (x + k) + 2) (by omega)
    have e2 := atV_c (w := w) (a := x) (n := n) (k := k) h hn (by omega)
    unfold grtC
    rw [i, e1, e2]
theorem lifV_c {g g' : Nat → Int32} {w : Int32} {N x y : Nat} (h : agC g g' N) (hxy : x ≤ y) (hy : y < N) : lifV g w x y = lifV g' w x y := by
  have e1 := upV_c (x := x) (k := y - x + 1) h (by omega)
  have e2 := sloV_c (w := w) h hxy hy
  have e3 := atV_c (w := w) (a := x) (n := y - x + 1) (k := y - x) h (by omega) (by omega)
  have e4 := grtC_c (w := w) (x := x) (n := y - x + 1) (up := upV g' x (y - x + 1)) (t := tilC (upV g' x (y - x + 1)) (sloV g' w x y)) (pe := atV g' w x (y - x + 1) (y - x)) h (by omega) (y - x + 1) (Nat.le_refl _)
  unfold lifV lifC
  rw [e1, e2, e3, e4]
theorem difV_c {g g' f f' : Nat → Int32} {w : Int32} {N x n : Nat} (h : agC g g' N) (h2 : agC f f' N) (hn : x + n ≤ N) : ∀ k, k ≤ n → difV g f w x n k = difV g' f' w x n k := by
  intro k
  induction k with
  | zero => intro _; rfl
  | succ k ih => intro hk; unfold difV; rw [ih (by omega), atV_c h hn (by omega), atV_c h2 hn (by omega)]
