/-! ===== THE SETTING, as numbers ===== -/
def FAR : Int := 100000000
def bst1 (b v w : Int) : Int := if v < FAR ∧ v + w < b then v + w else b
/-- the best of the three: LEFT at v0 and w0 behind, RIGHT, LEFT OUT -/
def bst3 (v0 w0 v1 w1 v2 w2 : Int) : Int := bst1 (bst1 (bst1 FAR v0 w0) v1 w1) v2 w2
/-- the least cost of the last d of c STRIKES, with l, r the FISTS' last STRIKES (0: none yet) -/
def opt (c : Nat) (LC RC : Nat → Nat → Nat → Int) (π : Int) : Nat → Nat → Nat → Int
  | 0, _, _ => 0
  | d + 1, l, r => bst3 (LC (c - (d + 1)) l r) (opt c LC RC π d (c - (d + 1) + 1) r) (RC (c - (d + 1)) l r) (opt c LC RC π d l (c - (d + 1) + 1)) π (opt c LC RC π d l r)
/-- how far a FIST goes to k from its last STRIKE (told by one more than its number) -/
def mvF (tk bl : Nat → Int) (ρ : Int) (l k : Nat) : Int := if l = 0 then 0 else if tk k - tk (l - 1) < 1 ∨ ρ * (tk k - tk (l - 1)) < ((bl k - bl (l - 1)).natAbs : Int) then FAR else ((bl k - bl (l - 1)).natAbs : Int)
def LCc (tk bl : Nat → Int) (ρ : Int) (k l r : Nat) : Int := if r ≠ 0 ∧ tk (r - 1) = tk k then FAR else mvF tk bl ρ l k
def RCc (tk bl : Nat → Int) (ρ : Int) (k _l r : Nat) : Int := mvF tk bl ρ r k
theorem mvF_bd {tk bl : Nat → Int} {ρ : Int} {l k : Nat} (h : ∀ i, i = k ∨ i + 1 = l → 0 ≤ bl i ∧ bl i < 24) : 0 ≤ mvF tk bl ρ l k ∧ (mvF tk bl ρ l k = FAR ∨ mvF tk bl ρ l k < 24) := by
  unfold mvF FAR
  split
  · omega
  · have h1 := h k (Or.inl rfl)
    have h2 := h (l - 1) (Or.inr (by omega))
    split <;> omega
theorem LCc_bd {tk bl : Nat → Int} {ρ : Int} {l r k : Nat} (h : ∀ i, i = k ∨ i + 1 = l → 0 ≤ bl i ∧ bl i < 24) : 0 ≤ LCc tk bl ρ k l r ∧ (LCc tk bl ρ k l r = FAR ∨ LCc tk bl ρ k l r < 24) := by
  have := mvF_bd (tk := tk) (ρ := ρ) h
  unfold LCc
  split
  · unfold FAR; omega
  · exact this
/-- costs that are small, or FAR -/
def okC (c : Nat) (X : Nat → Nat → Nat → Int) : Prop := ∀ k l r, k < c → l ≤ k → r ≤ k → 0 ≤ X k l r ∧ (X k l r = FAR ∨ X k l r < 24)
theorem opt_bd {c : Nat} {LC RC : Nat → Nat → Nat → Int} {π : Int} (hL : okC c LC) (hR : okC c RC) (hp : 0 ≤ π ∧ π ≤ 10000) (hc : c ≤ 100) : ∀ d l r, d ≤ c → l ≤ c - d → r ≤ c - d → 0 ≤ opt c LC RC π d l r ∧ opt c LC RC π d l r ≤ π * d
  | 0, l, r, _, _, _ => by simp [opt]
  | d + 1, l, r, hd, hl, hr => by
    have i1 := opt_bd hL hR hp hc d (c - (d + 1) + 1) r (by omega) (by omega) (by omega)
    have i2 := opt_bd hL hR hp hc d l (c - (d + 1) + 1) (by omega) (by omega) (by omega)
    have i3 := opt_bd hL hR hp hc d l r (by omega) (by omega) (by omega)
    have g1 := hL (c - (d + 1)) l r (by omega) hl hr
    have g2 := hR (c - (d + 1)) l r (by omega) hl hr
    have m1 : π * ((d + 1 : Nat) : Int) = π * (d : Int) + π := by rw [Int.natCast_add, Int.mul_add]; omega
    have m2 : π * (d : Int) ≤ 10000 * (d : Int) := Int.mul_le_mul_of_nonneg_right hp.2 (by omega)
    have m3 : (d : Int) ≤ 99 := by omega
    simp only [opt]
    generalize opt c LC RC π d (c - (d + 1) + 1) r = a at *
    generalize opt c LC RC π d l (c - (d + 1) + 1) = b at *
    generalize opt c LC RC π d l r = e at *
    generalize LC (c - (d + 1)) l r = x at *
    generalize RC (c - (d + 1)) l r = y at *
    rw [m1]
    generalize π * (d : Int) = pd at *
    unfold bst3 bst1 FAR at *
    constructor <;> (repeat' split) <;> omega
/-- the least of the three, where LEFT OUT is always there -/
theorem opt_min {c : Nat} {LC RC : Nat → Nat → Nat → Int} {π : Int} (hL : okC c LC) (hR : okC c RC) (hp : 0 ≤ π ∧ π ≤ 10000) (hc : c ≤ 100) {d l r : Nat} (hd : d + 1 ≤ c) (hl : l ≤ c - (d + 1)) (hr : r ≤ c - (d + 1)) : opt c LC RC π (d + 1) l r = min (π + opt c LC RC π d l r) (min (if LC (c - (d + 1)) l r < FAR then LC (c - (d + 1)) l r + opt c LC RC π d (c - (d + 1) + 1) r else π + opt c LC RC π d l r) (if RC (c - (d + 1)) l r < FAR then RC (c - (d + 1)) l r + opt c LC RC π d l (c - (d + 1) + 1) else π + opt c LC RC π d l r)) := by
  have i1 := opt_bd hL hR hp hc d (c - (d + 1) + 1) r (by omega) (by omega) (by omega)
  have i2 := opt_bd hL hR hp hc d l (c - (d + 1) + 1) (by omega) (by omega) (by omega)
  have i3 := opt_bd hL hR hp hc d l r (by omega) (by omega) (by omega)
  have g1 := hL (c - (d + 1)) l r (by omega) hl hr
  have g2 := hR (c - (d + 1)) l r (by omega) hl hr
  have m2 : π * (d : Int) ≤ 10000 * (d : Int) := Int.mul_le_mul_of_nonneg_right hp.2 (by omega)
  have m3 : (d : Int) ≤ 99 := by omega
  simp only [opt]
  generalize opt c LC RC π d (c - (d + 1) + 1) r = a at *
  generalize opt c LC RC π d l (c - (d + 1) + 1) = b at *
  generalize opt c LC RC π d l r = e at *
  generalize LC (c - (d + 1)) l r = x at *
  generalize RC (c - (d + 1)) l r = y at *
  generalize π * (d : Int) = pd at *
  unfold bst3 bst1 FAR at *
  (repeat' split) <;> omega
/-- who strikes, with l, r before and d STRIKES left (this one among them) -/
def chs (c : Nat) (LC RC : Nat → Nat → Nat → Int) (π : Int) : Nat → Nat → Nat → Nat
  | 0, _, _ => 2
  | d + 1, l, r => if LC (c - (d + 1)) l r < FAR ∧ LC (c - (d + 1)) l r + opt c LC RC π d (c - (d + 1) + 1) r = opt c LC RC π (d + 1) l r then 0 else if RC (c - (d + 1)) l r < FAR ∧ RC (c - (d + 1)) l r + opt c LC RC π d l (c - (d + 1) + 1) = opt c LC RC π (d + 1) l r then 1 else 2
/-- the FISTS' last STRIKES ahead of STRIKE k -/
def pth (c : Nat) (LC RC : Nat → Nat → Nat → Int) (π : Int) : Nat → Nat × Nat
  | 0 => (0, 0)
  | k + 1 =>
    let q := pth c LC RC π k
    let w := chs c LC RC π (c - k) q.1 q.2
    if w = 0 then (k + 1, q.2) else if w = 1 then (q.1, k + 1) else q
def whoF (c : Nat) (LC RC : Nat → Nat → Nat → Int) (π : Int) (k : Nat) : Nat := chs c LC RC π (c - k) (pth c LC RC π k).1 (pth c LC RC π k).2
theorem pth_le (c : Nat) (LC RC : Nat → Nat → Nat → Int) (π : Int) : ∀ k, (pth c LC RC π k).1 ≤ k ∧ (pth c LC RC π k).2 ≤ k
  | 0 => by simp [pth]
  | k + 1 => by
    have := pth_le c LC RC π k
    simp only [pth]
    split
    · exact ⟨by simp, by simp; omega⟩
    · split
      · exact ⟨by simp; omega, by simp⟩
      · exact ⟨by omega, by omega⟩
/-- how far a FIST went ahead of STRIKE k -/
def goneF (c : Nat) (LC RC : Nat → Nat → Nat → Int) (π : Int) (mv : Nat → Nat → Int) (f : Nat) : Nat → Int
  | 0 => 0
  | k + 1 => goneF c LC RC π mv f k + (if whoF c LC RC π k = f then mv (if f = 0 then (pth c LC RC π k).1 else (pth c LC RC π k).2) k else 0)
def outF (c : Nat) (LC RC : Nat → Nat → Nat → Int) (π : Int) (k : Nat) : Nat := cntN (fun i => decide (whoF c LC RC π i = 2)) k
theorem opt_cong {c : Nat} {LC RC LC2 RC2 : Nat → Nat → Nat → Int} {π : Int} (h1 : ∀ k l r, k < c → l ≤ k → r ≤ k → LC k l r = LC2 k l r) (h2 : ∀ k l r, k < c → l ≤ k → r ≤ k → RC k l r = RC2 k l r) : ∀ d l r, d ≤ c → l ≤ c - d → r ≤ c - d → opt c LC RC π d l r = opt c LC2 RC2 π d l r
  | 0, l, r, _, _, _ => rfl
  | d + 1, l, r, hd, hl, hr => by
    simp only [opt]
    rw [h1 _ _ _ (by omega) hl hr, h2 _ _ _ (by omega) hl hr, opt_cong h1 h2 d _ _ (by omega) (by omega) (by omega), opt_cong h1 h2 d l _ (by omega) (by omega) (by omega), opt_cong h1 h2 d l r (by omega) (by omega) (by omega)]
