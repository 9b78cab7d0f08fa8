theorem xuI_o {M : Nat → Nat → Int32} {k j c : Nat} {v : Int32} (hc : c ≠ k) : xuI M k j v c = M c := by unfold xuI va_up; rw [if_neg hc]
theorem xuI_s {M : Nat → Nat → Int32} {k j : Nat} {v : Int32} : xuI M k j v k = upd (M k) j v := by unfold xuI va_up; rw [if_pos rfl]
theorem xuL_o {M : Nat → Nat → Int64} {k j c : Nat} {v : Int64} (hc : c ≠ k) : xuL M k j v c = M c := by unfold xuL va_up; rw [if_neg hc]
theorem va_up_o {α : Type} {M : Nat → α} {k c : Nat} {v : α} (hc : c ≠ k) : va_up M k v c = M c := by unfold va_up; rw [if_neg hc]
theorem va_up_s {α : Type} {M : Nat → α} {k : Nat} {v : α} : va_up M k v k = v := by unfold va_up; rw [if_pos rfl]
theorem upd_o {f : Nat → Int32} {k j : Nat} {v : Int32} (hc : j ≠ k) : upd f k v j = f j := by unfold upd; rw [if_neg hc]
theorem upd_s {f : Nat → Int32} {k : Nat} {v : Int32} : upd f k v k = v := by unfold upd; rw [if_pos rfl]
theorem bm32 (x : Int) : x.bmod (2 ^ 32) = (x + 2147483648) % 4294967296 - 2147483648 := by
  show x.bmod 4294967296 = _
  unfold Int.bmod; dsimp only; split <;> omega
theorem il_0 : (0 : Int32).toInt = 0 := rfl
theorem il_1 : (1 : Int32).toInt = 1 := rfl
theorem il_2 : (2 : Int32).toInt = 2 := rfl
theorem il_3 : (3 : Int32).toInt = 3 := rfl
theorem il_4 : (4 : Int32).toInt = 4 := rfl
theorem il_5 : (5 : Int32).toInt = 5 := rfl
theorem il_6 : (6 : Int32).toInt = 6 := rfl
theorem il_7 : (7 : Int32).toInt = 7 := rfl
theorem il_8 : (8 : Int32).toInt = 8 := rfl
theorem il_9 : (9 : Int32).toInt = 9 := rfl
theorem il_10 : (10 : Int32).toInt = 10 := rfl
theorem il_26 : (26 : Int32).toInt = 26 := rfl
theorem il_31 : (31 : Int32).toInt = 31 := rfl
theorem il_32 : (32 : Int32).toInt = 32 := rfl
theorem il_50 : (50 : Int32).toInt = 50 := rfl
theorem il_63 : (63 : Int32).toInt = 63 := rfl
theorem il_64 : (64 : Int32).toInt = 64 := rfl
theorem il_100 : (100 : Int32).toInt = 100 := rfl
theorem il_127 : (127 : Int32).toInt = 127 := rfl
theorem il_128 : (128 : Int32).toInt = 128 := rfl
theorem il_200 : (200 : Int32).toInt = 200 := rfl
theorem il_250 : (250 : Int32).toInt = 250 := rfl
theorem il_300 : (300 : Int32).toInt = 300 := rfl
theorem il_512 : (512 : Int32).toInt = 512 := rfl
theorem il_1000 : (1000 : Int32).toInt = 1000 := rfl
theorem il_16384 : (16384 : Int32).toInt = 16384 := rfl
theorem il_1000000 : (1000000 : Int32).toInt = 1000000 := rfl
theorem il_1048576 : (1048576 : Int32).toInt = 1048576 := rfl
theorem il_2097151 : (2097151 : Int32).toInt = 2097151 := rfl
theorem il_2097152 : (2097152 : Int32).toInt = 2097152 := rfl
theorem il_2000000000 : (2000000000 : Int32).toInt = 2000000000 := rfl
theorem il_m1 : (-1 : Int32).toInt = -1 := rfl
theorem i32_add {a b : Int32} (h1 : -2147483648 ≤ a.toInt + b.toInt) (h2 : a.toInt + b.toInt < 2147483648) : (a + b).toInt = a.toInt + b.toInt := by
  rw [Int32.toInt_add, bm32]; omega
theorem i32_sub {a b : Int32} (h1 : -2147483648 ≤ a.toInt - b.toInt) (h2 : a.toInt - b.toInt < 2147483648) : (a - b).toInt = a.toInt - b.toInt := by
  rw [Int32.toInt_sub, bm32]; omega
theorem i32_mul {a b : Int32} (h1 : -2147483648 ≤ a.toInt * b.toInt) (h2 : a.toInt * b.toInt < 2147483648) : (a * b).toInt = a.toInt * b.toInt := by
  rw [Int32.toInt_mul, bm32]; omega
theorem i32_rem {a : Int32} {b : Int32} (ha : 0 ≤ a.toInt) (hb : 0 < b.toInt) : (a - a / b * b).toInt = a.toInt % b.toInt := by
  have h1 := Int32.toInt_lt a
  have h2 := Int32.toInt_lt b
  have hd : (a / b).toInt = a.toInt / b.toInt := by
    rw [Int32.toInt_div, Int.tdiv_eq_ediv_of_nonneg ha, bm32]
    have e1 : a.toInt / b.toInt ≤ a.toInt := Int.ediv_le_self _ ha
    have e2 : 0 ≤ a.toInt / b.toInt := Int.ediv_nonneg ha (by omega)
    omega
  have e3 : a.toInt / b.toInt * b.toInt ≤ a.toInt := Int.ediv_mul_le _ (by omega)
  have e4 : 0 ≤ a.toInt / b.toInt * b.toInt := Int.mul_nonneg (Int.ediv_nonneg ha (by omega)) (by omega)
  have hm : (a / b * b).toInt = a.toInt / b.toInt * b.toInt := by
    rw [i32_mul (by rw [hd]; omega) (by rw [hd]; omega), hd]
  rw [i32_sub (by rw [hm]; omega) (by rw [hm]; omega), hm, Int.emod_def, Int.mul_comm]
theorem xin_of {i : Int32} {n : Nat} (h1 : 0 ≤ i.toInt) (h2 : i.toInt < n) : xin i n = true := by
  unfold xin
  rw [decide_eq_true_iff]
  intro hh
  rcases hh with hh | hh
  · rw [Int32.lt_iff_toInt_lt, il_0] at hh; omega
  · unfold Int32.toNatClampNeg at hh; omega
theorem tn_of {i : Int32} (h1 : 0 ≤ i.toInt) : (i.toNatClampNeg : Int) = i.toInt := by unfold Int32.toNatClampNeg; omega
theorem xgd_t {b : Bool} {e : XRes} (h : b = true) : xgd b e = e := by rw [h]; rfl
theorem xbi_s {v : Int32} {μ : XMu} {K : Int32 → XMu → XRes} : xbi (some (.inl (some (.int v)), μ)) K = K v μ := rfl
theorem xbv_s {μ : XMu} {K : XMu → XRes} : xbv (some (.inl none, μ)) K = K μ := rfl
theorem xbi_r {k : Nat} {μ : XMu} {K : Int32 → XMu → XRes} : xbi (some (.inr k, μ)) K = some (.inr k, μ) := rfl
theorem xbv_r {k : Nat} {μ : XMu} {K : XMu → XRes} : xbv (some (.inr k, μ)) K = some (.inr k, μ) := rfl
def zs (b n : Int32) : Nat := ((n - b) - (1 : Int32)).toNatClampNeg
def zr (n : Int32) : Nat := (n - n / (512 : Int32) * (512 : Int32)).toNatClampNeg
def ZL (b l : Int32) (t k v t' k' v' : Nat → Int32) : Prop := ∀ n : Int32, b.toInt < n.toInt → n.toInt ≤ l.toInt → t' (zr n) = t (zs b n) ∧ k' (zr n) = k (zs b n) ∧ v' (zr n) = v (zs b n)
def ZK (m : Nat) (k kl go : Nat → Int32) : Prop := ∀ s, s < m → 0 ≤ (kl s).toInt ∧ (kl s).toInt ≤ 26 ∧ go (s * 32) = kl s ∧ ∀ j : Nat, (j : Int) < (kl s).toInt → go (s * 32 + 1 + j) = k (s * 26 + j)
def ZW (w : Int32) (k kl go : Nat → Int32) : Prop := ZK w.toInt.toNat k kl go
def ZC (c : Int32) (r m ct cr : Nat → Int32) : Prop := ∀ j : Nat, j < 32 → (j : Int) < c.toInt → (r j = 0 ∧ cr j = -1 ∧ ct j = m j) ∨ (r j = 1 ∧ cr j = m j ∧ ¬ m j = -1)
def ZD (n : Nat) (l : Int32) (nx ma fl ak se : Nat → Int32) : Prop := ∀ j : Nat, j < 7 → (1 ≤ (nx j).toInt ∧ (nx j).toInt ≤ l.toInt + 1) ∧ (0 ≤ (ma j).toInt ∧ (ma j).toInt ≤ l.toInt) ∧ (0 ≤ (fl j).toInt ∧ (fl j).toInt ≤ 4) ∧ (0 ≤ (ak j).toInt ∧ (ak j).toInt ≤ 1000000 + n) ∧ (0 ≤ (se j).toInt ∧ (se j).toInt ≤ n)
def ZP (b l : Int32) (k : Nat → Int32) (m : Int32) : Prop := b.toInt ≤ m.toInt ∧ m.toInt ≤ l.toInt ∧ (b.toInt < m.toInt → k (zs b m) = 1) ∧ ∀ n : Int32, m.toInt < n.toInt → n.toInt ≤ l.toInt → ¬ k (zs b n) = 1
def ZM (b l : Int32) (k v : Nat → Int32) (bc m c : Int32) : Prop := ZP b l k m ∧ c = if m = b then bc else v (zs b m)
def RE (g h μ ν : XMu) : Prop := (μ.1 = g.1) ∧ (∀ c, 32 ≤ c → μ.2.1 c = g.2.1 c) ∧ (∀ c, 32 ≤ c → μ.2.2 c = g.2.2 c) ∧ (ν.1 = h.1) ∧ (∀ c, c < 32 ∨ 56 ≤ c → ν.2.1 c = h.2.1 c) ∧ (∀ c, c < 32 ∨ 56 ≤ c → ν.2.2 c = h.2.2 c) ∧ ((ν.2.1 32 0) = (h.2.1 32 0)) ∧ (ν.2.2 32 2 = μ.2.2 0 7) ∧ ((ν.2.1 32 1) = (μ.2.1 0 0)) ∧ ((ν.2.1 32 3) = (μ.2.1 0 8)) ∧ ((ν.2.1 32 4) = (μ.2.1 28 3)) ∧ ((ν.2.1 32 5) = (μ.2.1 28 4)) ∧ ((ν.2.1 32 9) = (μ.2.1 28 5)) ∧ ((ν.2.1 32 10) = (μ.2.1 28 9)) ∧ ((ν.2.1 32 11) = (μ.2.1 28 6)) ∧ ((ν.2.1 32 12) = (μ.2.1 28 7)) ∧ ((ν.2.1 32 13) = (μ.2.1 28 8)) ∧ ((ν.2.1 32 14) = (μ.2.1 28 11)) ∧ ((ν.2.1 32 15) = (μ.2.1 0 9)) ∧ ((ν.2.1 32 16) = (μ.2.1 0 10)) ∧ ((ν.2.1 32 17) = (μ.2.1 0 11)) ∧ ((ν.2.1 32 18) = (μ.2.1 0 12)) ∧ ((ν.2.1 32 19) = (μ.2.1 28 10)) ∧ ((ν.2.1 32 20) = (μ.2.1 0 13)) ∧ ((ν.2.1 32 21) = (μ.2.1 0 14)) ∧ ((ν.2.1 32 22) = (μ.2.1 0 15)) ∧ ((ν.2.1 32 23) = (μ.2.1 0 16)) ∧ ((ν.2.1 32 24) = (μ.2.1 0 17)) ∧ ((ν.2.1 32 25) = (μ.2.1 11 8)) ∧ ((ν.2.1 32 26) = (μ.2.1 11 9)) ∧ ((ν.2.1 32 35) = (μ.2.1 0 18)) ∧ ((ν.2.1 32 37) = (μ.2.1 7 4)) ∧ ((ν.2.1 32 38) = (μ.2.1 7 5)) ∧ ((ν.2.1 32 39) = (μ.2.1 7 6)) ∧ ((ν.2.1 32 40) = (μ.2.1 7 7)) ∧ ((ν.2.1 32 41) = (μ.2.1 7 8)) ∧ ((ν.2.1 32 42) = (μ.2.1 7 3)) ∧ ((ν.2.1 32 49) = (μ.2.1 1 4)) ∧ ((ν.2.1 32 50) = (μ.2.1 1 7)) ∧ ((ν.2.1 32 52) = (μ.2.1 25 2)) ∧ ((ν.2.1 32 55) = (μ.2.1 20 4)) ∧ ((ν.2.1 36) = (μ.2.1 12)) ∧ ((ν.2.1 37) = (μ.2.1 13)) ∧ ((ν.2.1 38) = (μ.2.1 14)) ∧ ((ν.2.1 39) = (μ.2.1 16)) ∧ ((ν.2.1 40) = (μ.2.1 17)) ∧ ((ν.2.1 41) = (μ.2.1 18)) ∧ ((ν.2.1 42) = (μ.2.1 15)) ∧ ((ν.2.1 43) = (μ.2.1 19)) ∧ ((ν.2.1 44) = (μ.2.1 8)) ∧ ((ν.2.1 45) = (μ.2.1 9)) ∧ ((ν.2.1 46) = (μ.2.1 10)) ∧ ((ν.2.1 50) = (μ.2.1 26)) ∧ ((ν.2.1 51) = (μ.2.1 27)) ∧ ((ν.2.1 52) = (μ.2.1 24)) ∧ ((ν.2.1 53) = (μ.2.1 22)) ∧ (¬ (μ.2.1 0 18) = (-1 : Int32) → (ν.2.1 32 36) = (μ.2.1 0 19)) ∧ (ZL (μ.2.1 28 5) (μ.2.1 28 9) (μ.2.1 29) (μ.2.1 30) (μ.2.1 31) (ν.2.1 33) (ν.2.1 34) (ν.2.1 35)) ∧ (ZK 64 (μ.2.1 5) (μ.2.1 6) (ν.2.1 49)) ∧ (ZW (μ.2.1 1 4) (μ.2.1 3) (μ.2.1 4) (ν.2.1 48)) ∧ (ZC (μ.2.1 20 4) (μ.2.1 21) (μ.2.1 23) (ν.2.1 54) (ν.2.1 55))
theorem RE.ft {g h μ ν : XMu} (q : RE g h μ ν) : μ.1 = g.1 := q.1
theorem RE.fg {g h μ ν : XMu} (q : RE g h μ ν) : ∀ c, 32 ≤ c → μ.2.1 c = g.2.1 c := q.2.1
theorem RE.fgl {g h μ ν : XMu} (q : RE g h μ ν) : ∀ c, 32 ≤ c → μ.2.2 c = g.2.2 c := q.2.2.1
theorem RE.ht {g h μ ν : XMu} (q : RE g h μ ν) : ν.1 = h.1 := q.2.2.2.1
theorem RE.hg {g h μ ν : XMu} (q : RE g h μ ν) : ∀ c, c < 32 ∨ 56 ≤ c → ν.2.1 c = h.2.1 c := q.2.2.2.2.1
theorem RE.hgl {g h μ ν : XMu} (q : RE g h μ ν) : ∀ c, c < 32 ∨ 56 ≤ c → ν.2.2 c = h.2.2 c := q.2.2.2.2.2.1
theorem RE.thr {g h μ ν : XMu} (q : RE g h μ ν) : (ν.2.1 32 0) = (h.2.1 32 0) := q.2.2.2.2.2.2.1
theorem RE.row {g h μ ν : XMu} (q : RE g h μ ν) : ν.2.2 32 2 = μ.2.2 0 7 := q.2.2.2.2.2.2.2.1
theorem RE.itself {g h μ ν : XMu} (q : RE g h μ ν) : (ν.2.1 32 1) = (μ.2.1 0 0) := q.2.2.2.2.2.2.2.2.1
theorem RE.now {g h μ ν : XMu} (q : RE g h μ ν) : (ν.2.1 32 3) = (μ.2.1 0 8) := q.2.2.2.2.2.2.2.2.2.1
theorem RE.term {g h μ ν : XMu} (q : RE g h μ ν) : (ν.2.1 32 4) = (μ.2.1 28 3) := q.2.2.2.2.2.2.2.2.2.2.1
theorem RE.voted {g h μ ν : XMu} (q : RE g h μ ν) : (ν.2.1 32 5) = (μ.2.1 28 4) := q.2.2.2.2.2.2.2.2.2.2.2.1
theorem RE.base {g h μ ν : XMu} (q : RE g h μ ν) : (ν.2.1 32 9) = (μ.2.1 28 5) := q.2.2.2.2.2.2.2.2.2.2.2.2.1
theorem RE.last {g h μ ν : XMu} (q : RE g h μ ν) : (ν.2.1 32 10) = (μ.2.1 28 9) := q.2.2.2.2.2.2.2.2.2.2.2.2.2.1
theorem RE.baseTerm {g h μ ν : XMu} (q : RE g h μ ν) : (ν.2.1 32 11) = (μ.2.1 28 6) := q.2.2.2.2.2.2.2.2.2.2.2.2.2.2.1
theorem RE.baseCode {g h μ ν : XMu} (q : RE g h μ ν) : (ν.2.1 32 12) = (μ.2.1 28 7) := q.2.2.2.2.2.2.2.2.2.2.2.2.2.2.2.1
theorem RE.snapshot {g h μ ν : XMu} (q : RE g h μ ν) : (ν.2.1 32 13) = (μ.2.1 28 8) := q.2.2.2.2.2.2.2.2.2.2.2.2.2.2.2.2.1
theorem RE.dirty {g h μ ν : XMu} (q : RE g h μ ν) : (ν.2.1 32 14) = (μ.2.1 28 11) := q.2.2.2.2.2.2.2.2.2.2.2.2.2.2.2.2.2.1
theorem RE.role {g h μ ν : XMu} (q : RE g h μ ν) : (ν.2.1 32 15) = (μ.2.1 0 9) := q.2.2.2.2.2.2.2.2.2.2.2.2.2.2.2.2.2.2.1
theorem RE.leader {g h μ ν : XMu} (q : RE g h μ ν) : (ν.2.1 32 16) = (μ.2.1 0 10) := q.2.2.2.2.2.2.2.2.2.2.2.2.2.2.2.2.2.2.2.1
theorem RE.commit {g h μ ν : XMu} (q : RE g h μ ν) : (ν.2.1 32 17) = (μ.2.1 0 11) := q.2.2.2.2.2.2.2.2.2.2.2.2.2.2.2.2.2.2.2.2.1
theorem RE.applied {g h μ ν : XMu} (q : RE g h μ ν) : (ν.2.1 32 18) = (μ.2.1 0 12) := q.2.2.2.2.2.2.2.2.2.2.2.2.2.2.2.2.2.2.2.2.2.1
theorem RE.synced {g h μ ν : XMu} (q : RE g h μ ν) : (ν.2.1 32 19) = (μ.2.1 28 10) := q.2.2.2.2.2.2.2.2.2.2.2.2.2.2.2.2.2.2.2.2.2.2.1
theorem RE.heard {g h μ ν : XMu} (q : RE g h μ ν) : (ν.2.1 32 20) = (μ.2.1 0 13) := q.2.2.2.2.2.2.2.2.2.2.2.2.2.2.2.2.2.2.2.2.2.2.2.1
theorem RE.alarm {g h μ ν : XMu} (q : RE g h μ ν) : (ν.2.1 32 21) = (μ.2.1 0 14) := q.2.2.2.2.2.2.2.2.2.2.2.2.2.2.2.2.2.2.2.2.2.2.2.2.1
theorem RE.votes {g h μ ν : XMu} (q : RE g h μ ν) : (ν.2.1 32 22) = (μ.2.1 0 15) := q.2.2.2.2.2.2.2.2.2.2.2.2.2.2.2.2.2.2.2.2.2.2.2.2.2.1
theorem RE.handing {g h μ ν : XMu} (q : RE g h μ ν) : (ν.2.1 32 23) = (μ.2.1 0 16) := q.2.2.2.2.2.2.2.2.2.2.2.2.2.2.2.2.2.2.2.2.2.2.2.2.2.2.1
theorem RE.handed {g h μ ν : XMu} (q : RE g h μ ν) : (ν.2.1 32 24) = (μ.2.1 0 17) := q.2.2.2.2.2.2.2.2.2.2.2.2.2.2.2.2.2.2.2.2.2.2.2.2.2.2.2.1
theorem RE.first {g h μ ν : XMu} (q : RE g h μ ν) : (ν.2.1 32 25) = (μ.2.1 11 8) := q.2.2.2.2.2.2.2.2.2.2.2.2.2.2.2.2.2.2.2.2.2.2.2.2.2.2.2.2.1
theorem RE.round {g h μ ν : XMu} (q : RE g h μ ν) : (ν.2.1 32 26) = (μ.2.1 11 9) := q.2.2.2.2.2.2.2.2.2.2.2.2.2.2.2.2.2.2.2.2.2.2.2.2.2.2.2.2.2.1
theorem RE.assembly {g h μ ν : XMu} (q : RE g h μ ν) : (ν.2.1 32 35) = (μ.2.1 0 18) := q.2.2.2.2.2.2.2.2.2.2.2.2.2.2.2.2.2.2.2.2.2.2.2.2.2.2.2.2.2.2.1
theorem RE.described {g h μ ν : XMu} (q : RE g h μ ν) : (ν.2.1 32 37) = (μ.2.1 7 4) := q.2.2.2.2.2.2.2.2.2.2.2.2.2.2.2.2.2.2.2.2.2.2.2.2.2.2.2.2.2.2.2.1
theorem RE.toldBase {g h μ ν : XMu} (q : RE g h μ ν) : (ν.2.1 32 38) = (μ.2.1 7 5) := q.2.2.2.2.2.2.2.2.2.2.2.2.2.2.2.2.2.2.2.2.2.2.2.2.2.2.2.2.2.2.2.2.1
theorem RE.toldTerm {g h μ ν : XMu} (q : RE g h μ ν) : (ν.2.1 32 39) = (μ.2.1 7 6) := q.2.2.2.2.2.2.2.2.2.2.2.2.2.2.2.2.2.2.2.2.2.2.2.2.2.2.2.2.2.2.2.2.2.1
theorem RE.toldCode {g h μ ν : XMu} (q : RE g h μ ν) : (ν.2.1 32 40) = (μ.2.1 7 7) := q.2.2.2.2.2.2.2.2.2.2.2.2.2.2.2.2.2.2.2.2.2.2.2.2.2.2.2.2.2.2.2.2.2.2.1
theorem RE.toldSize {g h μ ν : XMu} (q : RE g h μ ν) : (ν.2.1 32 41) = (μ.2.1 7 8) := q.2.2.2.2.2.2.2.2.2.2.2.2.2.2.2.2.2.2.2.2.2.2.2.2.2.2.2.2.2.2.2.2.2.2.2.1
theorem RE.told {g h μ ν : XMu} (q : RE g h μ ν) : (ν.2.1 32 42) = (μ.2.1 7 3) := q.2.2.2.2.2.2.2.2.2.2.2.2.2.2.2.2.2.2.2.2.2.2.2.2.2.2.2.2.2.2.2.2.2.2.2.2.1
theorem RE.waits {g h μ ν : XMu} (q : RE g h μ ν) : (ν.2.1 32 49) = (μ.2.1 1 4) := q.2.2.2.2.2.2.2.2.2.2.2.2.2.2.2.2.2.2.2.2.2.2.2.2.2.2.2.2.2.2.2.2.2.2.2.2.2.1
theorem RE.went {g h μ ν : XMu} (q : RE g h μ ν) : (ν.2.1 32 50) = (μ.2.1 1 7) := q.2.2.2.2.2.2.2.2.2.2.2.2.2.2.2.2.2.2.2.2.2.2.2.2.2.2.2.2.2.2.2.2.2.2.2.2.2.2.1
theorem RE.done {g h μ ν : XMu} (q : RE g h μ ν) : (ν.2.1 32 52) = (μ.2.1 25 2) := q.2.2.2.2.2.2.2.2.2.2.2.2.2.2.2.2.2.2.2.2.2.2.2.2.2.2.2.2.2.2.2.2.2.2.2.2.2.2.2.1
theorem RE.calls {g h μ ν : XMu} (q : RE g h μ ν) : (ν.2.1 32 55) = (μ.2.1 20 4) := q.2.2.2.2.2.2.2.2.2.2.2.2.2.2.2.2.2.2.2.2.2.2.2.2.2.2.2.2.2.2.2.2.2.2.2.2.2.2.2.2.1
theorem RE.next {g h μ ν : XMu} (q : RE g h μ ν) : (ν.2.1 36) = (μ.2.1 12) := q.2.2.2.2.2.2.2.2.2.2.2.2.2.2.2.2.2.2.2.2.2.2.2.2.2.2.2.2.2.2.2.2.2.2.2.2.2.2.2.2.2.1
theorem RE.mtch {g h μ ν : XMu} (q : RE g h μ ν) : (ν.2.1 37) = (μ.2.1 13) := q.2.2.2.2.2.2.2.2.2.2.2.2.2.2.2.2.2.2.2.2.2.2.2.2.2.2.2.2.2.2.2.2.2.2.2.2.2.2.2.2.2.2.1
theorem RE.flying {g h μ ν : XMu} (q : RE g h μ ν) : (ν.2.1 38) = (μ.2.1 14) := q.2.2.2.2.2.2.2.2.2.2.2.2.2.2.2.2.2.2.2.2.2.2.2.2.2.2.2.2.2.2.2.2.2.2.2.2.2.2.2.2.2.2.2.1
theorem RE.offset {g h μ ν : XMu} (q : RE g h μ ν) : (ν.2.1 39) = (μ.2.1 16) := q.2.2.2.2.2.2.2.2.2.2.2.2.2.2.2.2.2.2.2.2.2.2.2.2.2.2.2.2.2.2.2.2.2.2.2.2.2.2.2.2.2.2.2.2.1
theorem RE.ack {g h μ ν : XMu} (q : RE g h μ ν) : (ν.2.1 40) = (μ.2.1 17) := q.2.2.2.2.2.2.2.2.2.2.2.2.2.2.2.2.2.2.2.2.2.2.2.2.2.2.2.2.2.2.2.2.2.2.2.2.2.2.2.2.2.2.2.2.2.1
theorem RE.seen {g h μ ν : XMu} (q : RE g h μ ν) : (ν.2.1 41) = (μ.2.1 18) := q.2.2.2.2.2.2.2.2.2.2.2.2.2.2.2.2.2.2.2.2.2.2.2.2.2.2.2.2.2.2.2.2.2.2.2.2.2.2.2.2.2.2.2.2.2.2.1
theorem RE.probing {g h μ ν : XMu} (q : RE g h μ ν) : (ν.2.1 42) = (μ.2.1 15) := q.2.2.2.2.2.2.2.2.2.2.2.2.2.2.2.2.2.2.2.2.2.2.2.2.2.2.2.2.2.2.2.2.2.2.2.2.2.2.2.2.2.2.2.2.2.2.2.1
theorem RE.answered {g h μ ν : XMu} (q : RE g h μ ν) : (ν.2.1 43) = (μ.2.1 19) := q.2.2.2.2.2.2.2.2.2.2.2.2.2.2.2.2.2.2.2.2.2.2.2.2.2.2.2.2.2.2.2.2.2.2.2.2.2.2.2.2.2.2.2.2.2.2.2.2.1
theorem RE.toldTerms {g h μ ν : XMu} (q : RE g h μ ν) : (ν.2.1 44) = (μ.2.1 8) := q.2.2.2.2.2.2.2.2.2.2.2.2.2.2.2.2.2.2.2.2.2.2.2.2.2.2.2.2.2.2.2.2.2.2.2.2.2.2.2.2.2.2.2.2.2.2.2.2.2.1
theorem RE.toldKinds {g h μ ν : XMu} (q : RE g h μ ν) : (ν.2.1 45) = (μ.2.1 9) := q.2.2.2.2.2.2.2.2.2.2.2.2.2.2.2.2.2.2.2.2.2.2.2.2.2.2.2.2.2.2.2.2.2.2.2.2.2.2.2.2.2.2.2.2.2.2.2.2.2.2.1
theorem RE.toldValues {g h μ ν : XMu} (q : RE g h μ ν) : (ν.2.1 46) = (μ.2.1 10) := q.2.2.2.2.2.2.2.2.2.2.2.2.2.2.2.2.2.2.2.2.2.2.2.2.2.2.2.2.2.2.2.2.2.2.2.2.2.2.2.2.2.2.2.2.2.2.2.2.2.2.2.1
theorem RE.doneNumbers {g h μ ν : XMu} (q : RE g h μ ν) : (ν.2.1 50) = (μ.2.1 26) := q.2.2.2.2.2.2.2.2.2.2.2.2.2.2.2.2.2.2.2.2.2.2.2.2.2.2.2.2.2.2.2.2.2.2.2.2.2.2.2.2.2.2.2.2.2.2.2.2.2.2.2.2.1
theorem RE.doneValues {g h μ ν : XMu} (q : RE g h μ ν) : (ν.2.1 51) = (μ.2.1 27) := q.2.2.2.2.2.2.2.2.2.2.2.2.2.2.2.2.2.2.2.2.2.2.2.2.2.2.2.2.2.2.2.2.2.2.2.2.2.2.2.2.2.2.2.2.2.2.2.2.2.2.2.2.2.1
theorem RE.callState {g h μ ν : XMu} (q : RE g h μ ν) : (ν.2.1 52) = (μ.2.1 24) := q.2.2.2.2.2.2.2.2.2.2.2.2.2.2.2.2.2.2.2.2.2.2.2.2.2.2.2.2.2.2.2.2.2.2.2.2.2.2.2.2.2.2.2.2.2.2.2.2.2.2.2.2.2.2.1
theorem RE.callNumber {g h μ ν : XMu} (q : RE g h μ ν) : (ν.2.1 53) = (μ.2.1 22) := q.2.2.2.2.2.2.2.2.2.2.2.2.2.2.2.2.2.2.2.2.2.2.2.2.2.2.2.2.2.2.2.2.2.2.2.2.2.2.2.2.2.2.2.2.2.2.2.2.2.2.2.2.2.2.2.1
theorem RE.got {g h μ ν : XMu} (q : RE g h μ ν) : ¬ (μ.2.1 0 18) = (-1 : Int32) → (ν.2.1 32 36) = (μ.2.1 0 19) := q.2.2.2.2.2.2.2.2.2.2.2.2.2.2.2.2.2.2.2.2.2.2.2.2.2.2.2.2.2.2.2.2.2.2.2.2.2.2.2.2.2.2.2.2.2.2.2.2.2.2.2.2.2.2.2.2.1
theorem RE.log {g h μ ν : XMu} (q : RE g h μ ν) : ZL (μ.2.1 28 5) (μ.2.1 28 9) (μ.2.1 29) (μ.2.1 30) (μ.2.1 31) (ν.2.1 33) (ν.2.1 34) (ν.2.1 35) := q.2.2.2.2.2.2.2.2.2.2.2.2.2.2.2.2.2.2.2.2.2.2.2.2.2.2.2.2.2.2.2.2.2.2.2.2.2.2.2.2.2.2.2.2.2.2.2.2.2.2.2.2.2.2.2.2.2.1
theorem RE.kept {g h μ ν : XMu} (q : RE g h μ ν) : ZK 64 (μ.2.1 5) (μ.2.1 6) (ν.2.1 49) := q.2.2.2.2.2.2.2.2.2.2.2.2.2.2.2.2.2.2.2.2.2.2.2.2.2.2.2.2.2.2.2.2.2.2.2.2.2.2.2.2.2.2.2.2.2.2.2.2.2.2.2.2.2.2.2.2.2.2.1
theorem RE.wait {g h μ ν : XMu} (q : RE g h μ ν) : ZW (μ.2.1 1 4) (μ.2.1 3) (μ.2.1 4) (ν.2.1 48) := q.2.2.2.2.2.2.2.2.2.2.2.2.2.2.2.2.2.2.2.2.2.2.2.2.2.2.2.2.2.2.2.2.2.2.2.2.2.2.2.2.2.2.2.2.2.2.2.2.2.2.2.2.2.2.2.2.2.2.2.1
theorem RE.cls {g h μ ν : XMu} (q : RE g h μ ν) : ZC (μ.2.1 20 4) (μ.2.1 21) (μ.2.1 23) (ν.2.1 54) (ν.2.1 55) := q.2.2.2.2.2.2.2.2.2.2.2.2.2.2.2.2.2.2.2.2.2.2.2.2.2.2.2.2.2.2.2.2.2.2.2.2.2.2.2.2.2.2.2.2.2.2.2.2.2.2.2.2.2.2.2.2.2.2.2.2
theorem RE.mk {g h μ ν : XMu} (ft : μ.1 = g.1) (fg : ∀ c, 32 ≤ c → μ.2.1 c = g.2.1 c) (fgl : ∀ c, 32 ≤ c → μ.2.2 c = g.2.2 c) (ht : ν.1 = h.1) (hg : ∀ c, c < 32 ∨ 56 ≤ c → ν.2.1 c = h.2.1 c) (hgl : ∀ c, c < 32 ∨ 56 ≤ c → ν.2.2 c = h.2.2 c) (thr : (ν.2.1 32 0) = (h.2.1 32 0)) (row : ν.2.2 32 2 = μ.2.2 0 7) (itself : (ν.2.1 32 1) = (μ.2.1 0 0)) (now : (ν.2.1 32 3) = (μ.2.1 0 8)) (term : (ν.2.1 32 4) = (μ.2.1 28 3)) (voted : (ν.2.1 32 5) = (μ.2.1 28 4)) (base : (ν.2.1 32 9) = (μ.2.1 28 5)) (last : (ν.2.1 32 10) = (μ.2.1 28 9)) (baseTerm : (ν.2.1 32 11) = (μ.2.1 28 6)) (baseCode : (ν.2.1 32 12) = (μ.2.1 28 7)) (snapshot : (ν.2.1 32 13) = (μ.2.1 28 8)) (dirty : (ν.2.1 32 14) = (μ.2.1 28 11)) (role : (ν.2.1 32 15) = (μ.2.1 0 9)) (leader : (ν.2.1 32 16) = (μ.2.1 0 10)) (commit : (ν.2.1 32 17) = (μ.2.1 0 11)) (applied : (ν.2.1 32 18) = (μ.2.1 0 12)) (synced : (ν.2.1 32 19) = (μ.2.1 28 10)) (heard : (ν.2.1 32 20) = (μ.2.1 0 13)) (alarm : (ν.2.1 32 21) = (μ.2.1 0 14)) (votes : (ν.2.1 32 22) = (μ.2.1 0 15)) (handing : (ν.2.1 32 23) = (μ.2.1 0 16)) (handed : (ν.2.1 32 24) = (μ.2.1 0 17)) (first : (ν.2.1 32 25) = (μ.2.1 11 8)) (round : (ν.2.1 32 26) = (μ.2.1 11 9)) (assembly : (ν.2.1 32 35) = (μ.2.1 0 18)) (described : (ν.2.1 32 37) = (μ.2.1 7 4)) (toldBase : (ν.2.1 32 38) = (μ.2.1 7 5)) (toldTerm : (ν.2.1 32 39) = (μ.2.1 7 6)) (toldCode : (ν.2.1 32 40) = (μ.2.1 7 7)) (toldSize : (ν.2.1 32 41) = (μ.2.1 7 8)) (told : (ν.2.1 32 42) = (μ.2.1 7 3)) (waits : (ν.2.1 32 49) = (μ.2.1 1 4)) (went : (ν.2.1 32 50) = (μ.2.1 1 7)) (done : (ν.2.1 32 52) = (μ.2.1 25 2)) (calls : (ν.2.1 32 55) = (μ.2.1 20 4)) (next : (ν.2.1 36) = (μ.2.1 12)) (mtch : (ν.2.1 37) = (μ.2.1 13)) (flying : (ν.2.1 38) = (μ.2.1 14)) (offset : (ν.2.1 39) = (μ.2.1 16)) (ack : (ν.2.1 40) = (μ.2.1 17)) (seen : (ν.2.1 41) = (μ.2.1 18)) (probing : (ν.2.1 42) = (μ.2.1 15)) (answered : (ν.2.1 43) = (μ.2.1 19)) (toldTerms : (ν.2.1 44) = (μ.2.1 8)) (toldKinds : (ν.2.1 45) = (μ.2.1 9)) (toldValues : (ν.2.1 46) = (μ.2.1 10)) (doneNumbers : (ν.2.1 50) = (μ.2.1 26)) (doneValues : (ν.2.1 51) = (μ.2.1 27)) (callState : (ν.2.1 52) = (μ.2.1 24)) (callNumber : (ν.2.1 53) = (μ.2.1 22)) (got : ¬ (μ.2.1 0 18) = (-1 : Int32) → (ν.2.1 32 36) = (μ.2.1 0 19)) (log : ZL (μ.2.1 28 5) (μ.2.1 28 9) (μ.2.1 29) (μ.2.1 30) (μ.2.1 31) (ν.2.1 33) (ν.2.1 34) (ν.2.1 35)) (kept : ZK 64 (μ.2.1 5) (μ.2.1 6) (ν.2.1 49)) (wait : ZW (μ.2.1 1 4) (μ.2.1 3) (μ.2.1 4) (ν.2.1 48)) (cls : ZC (μ.2.1 20 4) (μ.2.1 21) (μ.2.1 23) (ν.2.1 54) (ν.2.1 55)) : RE g h μ ν := ⟨ft, fg, fgl, ht, hg, hgl, thr, row, itself, now, term, voted, base, last, baseTerm, baseCode, snapshot, dirty, role, leader, commit, applied, synced, heard, alarm, votes, handing, handed, first, round, assembly, described, toldBase, toldTerm, toldCode, toldSize, told, waits, went, done, calls, next, mtch, flying, offset, ack, seen, probing, answered, toldTerms, toldKinds, toldValues, doneNumbers, doneValues, callState, callNumber, got, log, kept, wait, cls⟩
def RI (n : Nat) (μ : XMu) : Prop := (0 ≤ (μ.2.1 0 0).toInt ∧ (μ.2.1 0 0).toInt ≤ 6) ∧ ((μ.2.1 0 9) = 0 ∨ (μ.2.1 0 9) = 1 ∨ (μ.2.1 0 9) = 2 ∨ (μ.2.1 0 9) = 3) ∧ (0 ≤ (μ.2.1 28 5).toInt) ∧ ((μ.2.1 28 5).toInt ≤ (μ.2.1 0 12).toInt) ∧ ((μ.2.1 0 12).toInt ≤ (μ.2.1 0 11).toInt) ∧ ((μ.2.1 0 11).toInt ≤ (μ.2.1 28 9).toInt) ∧ ((μ.2.1 28 9).toInt ≤ (μ.2.1 28 5).toInt + 300) ∧ ((μ.2.1 28 9).toInt ≤ 1000000 + n) ∧ (0 ≤ (μ.2.1 28 10).toInt ∧ (μ.2.1 28 10).toInt ≤ (μ.2.1 28 9).toInt) ∧ (x01 (μ.2.1 28 11) = true) ∧ (x01 (μ.2.1 7 4) = true) ∧ (0 ≤ (μ.2.1 0 8).toInt ∧ (μ.2.1 0 8).toInt ≤ n) ∧ (0 ≤ (μ.2.1 28 3).toInt ∧ (μ.2.1 28 3).toInt ≤ 1000000 + n) ∧ (0 ≤ (μ.2.1 1 7).toInt ∧ (μ.2.1 1 7).toInt ≤ n) ∧ (0 ≤ (μ.2.1 1 4).toInt ∧ (μ.2.1 1 4).toInt ≤ 200) ∧ (0 ≤ (μ.2.1 25 2).toInt ∧ (μ.2.1 25 2).toInt ≤ n) ∧ (0 ≤ (μ.2.1 20 4).toInt ∧ (μ.2.1 20 4).toInt ≤ n) ∧ (0 ≤ (μ.2.1 7 3).toInt ∧ (μ.2.1 7 3).toInt ≤ 6) ∧ (0 ≤ (μ.2.1 11 9).toInt ∧ (μ.2.1 11 9).toInt ≤ n) ∧ ((μ.2.1 0 16) = -1 ∨ (0 ≤ (μ.2.1 0 16).toInt ∧ (μ.2.1 0 16).toInt ≤ 6)) ∧ (-1 ≤ (μ.2.1 0 13).toInt ∧ (μ.2.1 0 13).toInt ≤ n) ∧ ((μ.2.1 0 9) = 2 ∨ (μ.2.1 0 9) = 3 → (μ.2.1 28 4) = (μ.2.1 0 0)) ∧ ((μ.2.1 0 9) = 3 → ZD n (μ.2.1 28 9) (μ.2.1 12) (μ.2.1 13) (μ.2.1 14) (μ.2.1 17) (μ.2.1 18)) ∧ (¬ (μ.2.1 0 9) = 3 → ∀ j : Nat, j < 32 → (j : Int) < (μ.2.1 20 4).toInt → ¬ (μ.2.1 24) j = 0) ∧ (∀ j : Nat, j < 32 → (j : Int) < (μ.2.1 20 4).toInt → (μ.2.1 24) j = 0 → (μ.2.1 21) j = 0 → (μ.2.1 0 12).toInt < ((μ.2.1 22) j).toInt) ∧ (∀ j : Nat, j < 6 → 0 ≤ ((μ.2.1 8) j).toInt) ∧ (0 ≤ (μ.2.1 7 5).toInt ∧ (μ.2.1 7 5).toInt ≤ 1000000 ∧ 0 ≤ (μ.2.1 7 8).toInt ∧ (μ.2.1 7 8).toInt ≤ 1000000 ∧ 0 ≤ (μ.2.1 7 6).toInt ∧ (μ.2.1 7 6).toInt ≤ 1000000) ∧ (0 ≤ (μ.2.1 0 19).toInt ∧ (μ.2.1 0 19).toInt ≤ 1000200) ∧ (ZM (μ.2.1 28 5) (μ.2.1 28 9) (μ.2.1 30) (μ.2.1 31) (μ.2.1 28 7) (μ.2.1 28 12) (μ.2.1 28 13))
theorem RI.itself {n : Nat} {μ : XMu} (q : RI n μ) : 0 ≤ (μ.2.1 0 0).toInt ∧ (μ.2.1 0 0).toInt ≤ 6 := q.1
theorem RI.role {n : Nat} {μ : XMu} (q : RI n μ) : (μ.2.1 0 9) = 0 ∨ (μ.2.1 0 9) = 1 ∨ (μ.2.1 0 9) = 2 ∨ (μ.2.1 0 9) = 3 := q.2.1
theorem RI.base {n : Nat} {μ : XMu} (q : RI n μ) : 0 ≤ (μ.2.1 28 5).toInt := q.2.2.1
theorem RI.ba {n : Nat} {μ : XMu} (q : RI n μ) : (μ.2.1 28 5).toInt ≤ (μ.2.1 0 12).toInt := q.2.2.2.1
theorem RI.ac {n : Nat} {μ : XMu} (q : RI n μ) : (μ.2.1 0 12).toInt ≤ (μ.2.1 0 11).toInt := q.2.2.2.2.1
theorem RI.cl {n : Nat} {μ : XMu} (q : RI n μ) : (μ.2.1 0 11).toInt ≤ (μ.2.1 28 9).toInt := q.2.2.2.2.2.1
theorem RI.lb {n : Nat} {μ : XMu} (q : RI n μ) : (μ.2.1 28 9).toInt ≤ (μ.2.1 28 5).toInt + 300 := q.2.2.2.2.2.2.1
theorem RI.last {n : Nat} {μ : XMu} (q : RI n μ) : (μ.2.1 28 9).toInt ≤ 1000000 + n := q.2.2.2.2.2.2.2.1
theorem RI.syn {n : Nat} {μ : XMu} (q : RI n μ) : 0 ≤ (μ.2.1 28 10).toInt ∧ (μ.2.1 28 10).toInt ≤ (μ.2.1 28 9).toInt := q.2.2.2.2.2.2.2.2.1
theorem RI.dirty {n : Nat} {μ : XMu} (q : RI n μ) : x01 (μ.2.1 28 11) = true := q.2.2.2.2.2.2.2.2.2.1
theorem RI.desc {n : Nat} {μ : XMu} (q : RI n μ) : x01 (μ.2.1 7 4) = true := q.2.2.2.2.2.2.2.2.2.2.1
theorem RI.now {n : Nat} {μ : XMu} (q : RI n μ) : 0 ≤ (μ.2.1 0 8).toInt ∧ (μ.2.1 0 8).toInt ≤ n := q.2.2.2.2.2.2.2.2.2.2.2.1
theorem RI.term {n : Nat} {μ : XMu} (q : RI n μ) : 0 ≤ (μ.2.1 28 3).toInt ∧ (μ.2.1 28 3).toInt ≤ 1000000 + n := q.2.2.2.2.2.2.2.2.2.2.2.2.1
theorem RI.went {n : Nat} {μ : XMu} (q : RI n μ) : 0 ≤ (μ.2.1 1 7).toInt ∧ (μ.2.1 1 7).toInt ≤ n := q.2.2.2.2.2.2.2.2.2.2.2.2.2.1
theorem RI.waits {n : Nat} {μ : XMu} (q : RI n μ) : 0 ≤ (μ.2.1 1 4).toInt ∧ (μ.2.1 1 4).toInt ≤ 200 := q.2.2.2.2.2.2.2.2.2.2.2.2.2.2.1
theorem RI.done {n : Nat} {μ : XMu} (q : RI n μ) : 0 ≤ (μ.2.1 25 2).toInt ∧ (μ.2.1 25 2).toInt ≤ n := q.2.2.2.2.2.2.2.2.2.2.2.2.2.2.2.1
theorem RI.calls {n : Nat} {μ : XMu} (q : RI n μ) : 0 ≤ (μ.2.1 20 4).toInt ∧ (μ.2.1 20 4).toInt ≤ n := q.2.2.2.2.2.2.2.2.2.2.2.2.2.2.2.2.1
theorem RI.told {n : Nat} {μ : XMu} (q : RI n μ) : 0 ≤ (μ.2.1 7 3).toInt ∧ (μ.2.1 7 3).toInt ≤ 6 := q.2.2.2.2.2.2.2.2.2.2.2.2.2.2.2.2.2.1
theorem RI.round {n : Nat} {μ : XMu} (q : RI n μ) : 0 ≤ (μ.2.1 11 9).toInt ∧ (μ.2.1 11 9).toInt ≤ n := q.2.2.2.2.2.2.2.2.2.2.2.2.2.2.2.2.2.2.1
theorem RI.hand {n : Nat} {μ : XMu} (q : RI n μ) : (μ.2.1 0 16) = -1 ∨ (0 ≤ (μ.2.1 0 16).toInt ∧ (μ.2.1 0 16).toInt ≤ 6) := q.2.2.2.2.2.2.2.2.2.2.2.2.2.2.2.2.2.2.2.1
theorem RI.heard {n : Nat} {μ : XMu} (q : RI n μ) : -1 ≤ (μ.2.1 0 13).toInt ∧ (μ.2.1 0 13).toInt ≤ n := q.2.2.2.2.2.2.2.2.2.2.2.2.2.2.2.2.2.2.2.2.1
theorem RI.vote {n : Nat} {μ : XMu} (q : RI n μ) : (μ.2.1 0 9) = 2 ∨ (μ.2.1 0 9) = 3 → (μ.2.1 28 4) = (μ.2.1 0 0) := q.2.2.2.2.2.2.2.2.2.2.2.2.2.2.2.2.2.2.2.2.2.1
theorem RI.lead {n : Nat} {μ : XMu} (q : RI n μ) : (μ.2.1 0 9) = 3 → ZD n (μ.2.1 28 9) (μ.2.1 12) (μ.2.1 13) (μ.2.1 14) (μ.2.1 17) (μ.2.1 18) := q.2.2.2.2.2.2.2.2.2.2.2.2.2.2.2.2.2.2.2.2.2.2.1
theorem RI.quiet {n : Nat} {μ : XMu} (q : RI n μ) : ¬ (μ.2.1 0 9) = 3 → ∀ j : Nat, j < 32 → (j : Int) < (μ.2.1 20 4).toInt → ¬ (μ.2.1 24) j = 0 := q.2.2.2.2.2.2.2.2.2.2.2.2.2.2.2.2.2.2.2.2.2.2.2.1
theorem RI.cmd {n : Nat} {μ : XMu} (q : RI n μ) : ∀ j : Nat, j < 32 → (j : Int) < (μ.2.1 20 4).toInt → (μ.2.1 24) j = 0 → (μ.2.1 21) j = 0 → (μ.2.1 0 12).toInt < ((μ.2.1 22) j).toInt := q.2.2.2.2.2.2.2.2.2.2.2.2.2.2.2.2.2.2.2.2.2.2.2.2.1
theorem RI.tt {n : Nat} {μ : XMu} (q : RI n μ) : ∀ j : Nat, j < 6 → 0 ≤ ((μ.2.1 8) j).toInt := q.2.2.2.2.2.2.2.2.2.2.2.2.2.2.2.2.2.2.2.2.2.2.2.2.2.1
theorem RI.tb {n : Nat} {μ : XMu} (q : RI n μ) : 0 ≤ (μ.2.1 7 5).toInt ∧ (μ.2.1 7 5).toInt ≤ 1000000 ∧ 0 ≤ (μ.2.1 7 8).toInt ∧ (μ.2.1 7 8).toInt ≤ 1000000 ∧ 0 ≤ (μ.2.1 7 6).toInt ∧ (μ.2.1 7 6).toInt ≤ 1000000 := q.2.2.2.2.2.2.2.2.2.2.2.2.2.2.2.2.2.2.2.2.2.2.2.2.2.2.1
theorem RI.got {n : Nat} {μ : XMu} (q : RI n μ) : 0 ≤ (μ.2.1 0 19).toInt ∧ (μ.2.1 0 19).toInt ≤ 1000200 := q.2.2.2.2.2.2.2.2.2.2.2.2.2.2.2.2.2.2.2.2.2.2.2.2.2.2.2.1
theorem RI.mem {n : Nat} {μ : XMu} (q : RI n μ) : ZM (μ.2.1 28 5) (μ.2.1 28 9) (μ.2.1 30) (μ.2.1 31) (μ.2.1 28 7) (μ.2.1 28 12) (μ.2.1 28 13) := q.2.2.2.2.2.2.2.2.2.2.2.2.2.2.2.2.2.2.2.2.2.2.2.2.2.2.2.2
theorem RI.mk {n : Nat} {μ : XMu} (itself : 0 ≤ (μ.2.1 0 0).toInt ∧ (μ.2.1 0 0).toInt ≤ 6) (role : (μ.2.1 0 9) = 0 ∨ (μ.2.1 0 9) = 1 ∨ (μ.2.1 0 9) = 2 ∨ (μ.2.1 0 9) = 3) (base : 0 ≤ (μ.2.1 28 5).toInt) (ba : (μ.2.1 28 5).toInt ≤ (μ.2.1 0 12).toInt) (ac : (μ.2.1 0 12).toInt ≤ (μ.2.1 0 11).toInt) (cl : (μ.2.1 0 11).toInt ≤ (μ.2.1 28 9).toInt) (lb : (μ.2.1 28 9).toInt ≤ (μ.2.1 28 5).toInt + 300) (last : (μ.2.1 28 9).toInt ≤ 1000000 + n) (syn : 0 ≤ (μ.2.1 28 10).toInt ∧ (μ.2.1 28 10).toInt ≤ (μ.2.1 28 9).toInt) (dirty : x01 (μ.2.1 28 11) = true) (desc : x01 (μ.2.1 7 4) = true) (now : 0 ≤ (μ.2.1 0 8).toInt ∧ (μ.2.1 0 8).toInt ≤ n) (term : 0 ≤ (μ.2.1 28 3).toInt ∧ (μ.2.1 28 3).toInt ≤ 1000000 + n) (went : 0 ≤ (μ.2.1 1 7).toInt ∧ (μ.2.1 1 7).toInt ≤ n) (waits : 0 ≤ (μ.2.1 1 4).toInt ∧ (μ.2.1 1 4).toInt ≤ 200) (done : 0 ≤ (μ.2.1 25 2).toInt ∧ (μ.2.1 25 2).toInt ≤ n) (calls : 0 ≤ (μ.2.1 20 4).toInt ∧ (μ.2.1 20 4).toInt ≤ n) (told : 0 ≤ (μ.2.1 7 3).toInt ∧ (μ.2.1 7 3).toInt ≤ 6) (round : 0 ≤ (μ.2.1 11 9).toInt ∧ (μ.2.1 11 9).toInt ≤ n) (hand : (μ.2.1 0 16) = -1 ∨ (0 ≤ (μ.2.1 0 16).toInt ∧ (μ.2.1 0 16).toInt ≤ 6)) (heard : -1 ≤ (μ.2.1 0 13).toInt ∧ (μ.2.1 0 13).toInt ≤ n) (vote : (μ.2.1 0 9) = 2 ∨ (μ.2.1 0 9) = 3 → (μ.2.1 28 4) = (μ.2.1 0 0)) (lead : (μ.2.1 0 9) = 3 → ZD n (μ.2.1 28 9) (μ.2.1 12) (μ.2.1 13) (μ.2.1 14) (μ.2.1 17) (μ.2.1 18)) (quiet : ¬ (μ.2.1 0 9) = 3 → ∀ j : Nat, j < 32 → (j : Int) < (μ.2.1 20 4).toInt → ¬ (μ.2.1 24) j = 0) (cmd : ∀ j : Nat, j < 32 → (j : Int) < (μ.2.1 20 4).toInt → (μ.2.1 24) j = 0 → (μ.2.1 21) j = 0 → (μ.2.1 0 12).toInt < ((μ.2.1 22) j).toInt) (tt : ∀ j : Nat, j < 6 → 0 ≤ ((μ.2.1 8) j).toInt) (tb : 0 ≤ (μ.2.1 7 5).toInt ∧ (μ.2.1 7 5).toInt ≤ 1000000 ∧ 0 ≤ (μ.2.1 7 8).toInt ∧ (μ.2.1 7 8).toInt ≤ 1000000 ∧ 0 ≤ (μ.2.1 7 6).toInt ∧ (μ.2.1 7 6).toInt ≤ 1000000) (got : 0 ≤ (μ.2.1 0 19).toInt ∧ (μ.2.1 0 19).toInt ≤ 1000200) (mem : ZM (μ.2.1 28 5) (μ.2.1 28 9) (μ.2.1 30) (μ.2.1 31) (μ.2.1 28 7) (μ.2.1 28 12) (μ.2.1 28 13)) : RI n μ := ⟨itself, role, base, ba, ac, cl, lb, last, syn, dirty, desc, now, term, went, waits, done, calls, told, round, hand, heard, vote, lead, quiet, cmd, tt, tb, got, mem⟩
theorem RI.mono {n n' : Nat} {μ : XMu} (q : RI n μ) (hn : n ≤ n') : RI n' μ := by
  have h1 := q.last
  have h2 := q.now
  have h3 := q.term
  have h4 := q.went
  have h5 := q.done
  have h6 := q.calls
  have h7 := q.round
  have h8 := q.heard
  exact (RI.mk (itself := q.itself) (role := q.role) (base := q.base) (ba := q.ba) (ac := q.ac) (cl := q.cl) (lb := q.lb) (last := by omega) (syn := q.syn) (dirty := q.dirty) (desc := q.desc) (now := by omega) (term := by omega) (went := by omega) (waits := q.waits) (done := by omega) (calls := by omega) (told := q.told) (round := by omega) (hand := q.hand) (heard := by omega) (vote := q.vote) (lead := fun r j hj => by have := q.lead r j hj; omega) (quiet := q.quiet) (cmd := q.cmd) (tt := q.tt) (tb := q.tb) (got := q.got) (mem := q.mem))
theorem has_bv (x : BitVec 32) (k : Nat) (hk : k < 32) : (x &&& (1#32 <<< k) = 0#32) ↔ ¬ ((x.sshiftRight k) &&& 1#32 = 1#32) := by
  have h1 : x &&& (1#32 <<< k) = if x.getLsbD k then BitVec.twoPow 32 k else 0#32 := by
    rw [← BitVec.and_twoPow]; rfl
  have h2 : (x.sshiftRight k) &&& 1#32 = (BitVec.ofBool (x.getLsbD k)).setWidth 32 := by
    rw [BitVec.and_one_eq_setWidth_ofBool_getLsbD, BitVec.getLsbD_sshiftRight]
    simp [hk]
  rw [h1, h2]
  cases hb : x.getLsbD k with
  | true =>
    simp
    intro h
    have := congrArg BitVec.toNat h
    rw [BitVec.toNat_twoPow] at this
    simp at this
    rw [Nat.mod_eq_of_lt (Nat.pow_lt_pow_right (by omega) hk)] at this
    have := Nat.two_pow_pos k
    omega
  | false => simp
theorem seven {i : Int32} (h1 : 0 ≤ i.toInt) (h2 : i.toInt ≤ 6) : i = 0 ∨ i = 1 ∨ i = 2 ∨ i = 3 ∨ i = 4 ∨ i = 5 ∨ i = 6 := by
  simp only [← Int32.toInt_inj, il_0, il_1, il_2, il_3, il_4, il_5, il_6]
  omega
theorem has_eq (s : Int32) {i : Int32} (h1 : 0 ≤ i.toInt) (h2 : i.toInt ≤ 6) : yM_has s i = yC_has s i := by
  have hh : ∀ k : Nat, k < 7 → ((s &&& yC_bit (Int32.ofNat k)) = (0 : Int32) ↔ ¬ ((s >>> (Int32.ofNat k &&& 31)) &&& (1 : Int32)) = (1 : Int32)) := by
    intro k hk
    have := has_bv s.toBitVec k (by omega)
    rw [← Int32.toBitVec_inj, ← Int32.toBitVec_inj, Int32.toBitVec_and, Int32.toBitVec_and]
    unfold yC_bit
    rcases (show k = 0 ∨ k = 1 ∨ k = 2 ∨ k = 3 ∨ k = 4 ∨ k = 5 ∨ k = 6 by omega) with rfl | rfl | rfl | rfl | rfl | rfl | rfl <;> exact this
  have h3 : ∃ k : Nat, k < 7 ∧ i = Int32.ofNat k := by
    rcases seven h1 h2 with rfl | rfl | rfl | rfl | rfl | rfl | rfl
    · exact ⟨0, by omega, rfl⟩
    · exact ⟨1, by omega, rfl⟩
    · exact ⟨2, by omega, rfl⟩
    · exact ⟨3, by omega, rfl⟩
    · exact ⟨4, by omega, rfl⟩
    · exact ⟨5, by omega, rfl⟩
    · exact ⟨6, by omega, rfl⟩
  obtain ⟨k, hk, rfl⟩ := h3
  unfold yM_has yC_has
  by_cases hz : (s &&& yC_bit (Int32.ofNat k)) = (0 : Int32)
  · rw [if_pos hz, if_pos ((hh k hk).mp hz)]
  · rw [if_neg hz, if_neg (fun h => hz ((hh k hk).mpr h))]
def z7 (v : Int32) : Prop := 0 ≤ v.toInt ∧ v.toInt ≤ 127
theorem z7_and (x : Int32) : z7 (x &&& 127) := by
  have h : (x &&& 127).toBitVec.toNat ≤ 127 := by
    rw [Int32.toBitVec_and, BitVec.toNat_and]
    exact Nat.and_le_right
  unfold z7
  have e : (x &&& 127).toInt = (x &&& 127).toBitVec.toInt := rfl
  rw [e, BitVec.toInt_eq_toNat_of_lt (by omega)]
  omega
theorem z7_of {v : Int32} (h : z7 v) : ∃ k : Nat, k < 128 ∧ v = Int32.ofNat k := by
  refine ⟨v.toInt.toNat, by unfold z7 at h; omega, ?_⟩
  rw [← Int32.toInt_inj, Int32.toInt_ofNat', bm32]
  unfold z7 at h
  omega
def pc7 (x : Int32) : Int32 := ((((((((0 : Int32) + ((x >>> ((0 : Int32) &&& 31)) &&& 1)) + ((x >>> ((0 + 1 : Int32) &&& 31)) &&& 1)) + ((x >>> ((0 + 1 + 1 : Int32) &&& 31)) &&& 1)) + ((x >>> ((0 + 1 + 1 + 1 : Int32) &&& 31)) &&& 1)) + ((x >>> ((0 + 1 + 1 + 1 + 1 : Int32) &&& 31)) &&& 1)) + ((x >>> ((0 + 1 + 1 + 1 + 1 + 1 : Int32) &&& 31)) &&& 1)) + ((x >>> ((0 + 1 + 1 + 1 + 1 + 1 + 1 : Int32) &&& 31)) &&& 1))
theorem bits_eq (x : Int32) (μ : XMu) : yM_bits x μ = some (.inl (some (.int (pc7 x))), μ) := rfl
set_option maxRecDepth 100000 in
theorem bitc_all : ∀ k : Fin 128, yI_bitCount (Int32.ofNat k.val) = pc7 (Int32.ofNat k.val) := by decide
theorem bitc_eq {v : Int32} (h : z7 v) : yI_bitCount v = pc7 v := by
  obtain ⟨k, hk, rfl⟩ := z7_of h
  exact bitc_all ⟨k, hk⟩
theorem z7_and2 {x y : Int32} (h : z7 y) : z7 (x &&& y) := by
  obtain ⟨k, hk, rfl⟩ := z7_of h
  have e : (x &&& Int32.ofNat k) = (x &&& Int32.ofNat k) &&& 127 := by
    rw [Int32.and_assoc]
    have : ∀ k : Fin 128, Int32.ofNat k.val &&& 127 = Int32.ofNat k.val := by decide
    rw [this ⟨k, hk⟩]
  rw [e]
  exact z7_and _
def LB (μ : XMu) : Prop := 0 ≤ (μ.2.1 28 5).toInt ∧ (μ.2.1 28 5).toInt ≤ (μ.2.1 28 9).toInt ∧ (μ.2.1 28 9).toInt ≤ (μ.2.1 28 5).toInt + 300 ∧ (μ.2.1 28 9).toInt ≤ 3000000
theorem RI.LB {n : Nat} {μ : XMu} (q : RI n μ) (hn : n ≤ 1000000) : LB μ := by
  have h1 := q.base
  have h2 := q.ba
  have h3 := q.ac
  have h4 := q.cl
  have h5 := q.lb
  have h6 := q.last
  exact ⟨h1, by omega, h5, by omega⟩
theorem holds1 {μ : XMu} {n : Int32} (hb : LB μ) (h1 : (μ.2.1 28 5).toInt < n.toInt) (h2 : n.toInt ≤ (μ.2.1 28 9).toInt) : yDi_holds n μ = 1 := by
  obtain ⟨b1, b2, b3, b4⟩ := hb
  unfold yDi_holds
  rw [if_neg (by rw [Int32.le_iff_toInt_le]; omega), if_neg (by rw [Int32.lt_iff_toInt_lt]; omega), if_neg]
  rw [Int32.lt_iff_toInt_lt, i32_sub (by omega) (by omega), il_300]
  omega
theorem holds0 {μ : XMu} {n : Int32} (hb : LB μ) (h1 : ¬ ((μ.2.1 28 5).toInt < n.toInt ∧ n.toInt ≤ (μ.2.1 28 9).toInt)) : yDi_holds n μ = 0 := by
  obtain ⟨b1, b2, b3, b4⟩ := hb
  unfold yDi_holds
  by_cases h : n ≤ (μ.2.1 28 5)
  · rw [if_pos h]
  · rw [if_neg h, if_pos]
    rw [Int32.le_iff_toInt_le] at h
    rw [Int32.lt_iff_toInt_lt]
    omega
theorem zs_i {b n : Int32} (h0 : 0 ≤ b.toInt) (h1 : b.toInt < n.toInt) : ((n - b) - (1 : Int32)).toInt = n.toInt - b.toInt - 1 := by
  have e1 : (n - b).toInt = n.toInt - b.toInt := i32_sub (by omega) (by have := Int32.toInt_lt n; omega)
  rw [i32_sub (by rw [e1, il_1]; omega) (by rw [e1, il_1]; have := Int32.toInt_lt n; omega), e1, il_1]
theorem zs_n {b n : Int32} (h0 : 0 ≤ b.toInt) (h1 : b.toInt < n.toInt) : (zs b n : Int) = n.toInt - b.toInt - 1 := by
  unfold zs
  rw [tn_of (by rw [zs_i h0 h1]; omega), zs_i h0 h1]
theorem zs_in {μ : XMu} {n : Int32} (hb : LB μ) (h1 : (μ.2.1 28 5).toInt < n.toInt) (h2 : n.toInt ≤ (μ.2.1 28 9).toInt) : xin ((n - (μ.2.1 28 5)) - (1 : Int32)) 300 = true := by
  obtain ⟨b1, b2, b3, b4⟩ := hb
  exact xin_of (by rw [zs_i b1 h1]; omega) (by rw [zs_i b1 h1]; omega)
theorem zr_i {n : Int32} (h0 : 0 ≤ n.toInt) : (n - n / (512 : Int32) * (512 : Int32)).toInt = n.toInt % 512 := i32_rem h0 (by rw [il_512]; omega)
theorem zr_n {n : Int32} (h0 : 0 ≤ n.toInt) : (zr n : Int) = n.toInt % 512 := by
  unfold zr
  rw [tn_of (by rw [zr_i h0]; omega), zr_i h0]
theorem zr_in {n : Int32} (h0 : 0 ≤ n.toInt) : xin (n - n / (512 : Int32) * (512 : Int32)) 512 = true := xin_of (by rw [zr_i h0]; omega) (by rw [zr_i h0]; omega)
def zt (μ : XMu) (n : Int32) : Int32 := if n = (μ.2.1 28 5) then (μ.2.1 28 6) else (μ.2.1 29) (zs (μ.2.1 28 5) n)
theorem inj_i {a b : Int32} (h : a.toInt = b.toInt) : a = b := Int32.toInt_inj.mp h
theorem termAt_c {μ : XMu} {n : Int32} (hb : LB μ) (h1 : (μ.2.1 28 5).toInt ≤ n.toInt) (h2 : n.toInt ≤ (μ.2.1 28 9).toInt) : yDi_termAt n μ = some (.inl (some (.int (zt μ n))), μ) := by
  unfold yDi_termAt zt
  by_cases h : n = (μ.2.1 28 5)
  · rw [if_neg (fun k => k h), if_pos h]
  · have h3 : (μ.2.1 28 5).toInt < n.toInt := by
      rcases Int.lt_or_eq_of_le h1 with h4 | h4
      · exact h4
      · exact absurd (inj_i h4.symm) h
    rw [if_pos h, if_neg h, holds1 hb h3 h2, if_neg (by decide), xgd_t (zs_in hb h3 h2)]
    rfl
theorem termAt_n {μ : XMu} {n : Int32} (hb : LB μ) (h1 : ¬ ((μ.2.1 28 5).toInt ≤ n.toInt ∧ n.toInt ≤ (μ.2.1 28 9).toInt)) : yDi_termAt n μ = some (.inl (some (.int (-1))), μ) := by
  unfold yDi_termAt
  have h : ¬ n = (μ.2.1 28 5) := by
    intro h
    rw [h] at h1
    exact h1 ⟨Int.le_refl _, hb.2.1⟩
  rw [if_pos h, holds0 hb (by omega), if_pos rfl]
theorem kindAt_c {μ : XMu} {n : Int32} (hb : LB μ) (h1 : (μ.2.1 28 5).toInt < n.toInt) (h2 : n.toInt ≤ (μ.2.1 28 9).toInt) : yDi_kindAt n μ = some (.inl (some (.int ((μ.2.1 30) (zs (μ.2.1 28 5) n)))), μ) := by
  unfold yDi_kindAt
  rw [holds1 hb h1 h2, if_neg (by decide), xgd_t (zs_in hb h1 h2)]
  rfl
theorem valueAt_c {μ : XMu} {n : Int32} (hb : LB μ) (h1 : (μ.2.1 28 5).toInt < n.toInt) (h2 : n.toInt ≤ (μ.2.1 28 9).toInt) : yDi_valueAt n μ = some (.inl (some (.int ((μ.2.1 31) (zs (μ.2.1 28 5) n)))), μ) := by
  unfold yDi_valueAt
  rw [holds1 hb h1 h2, if_neg (by decide), xgd_t (zs_in hb h1 h2)]
  rfl
theorem lastTerm_c {μ : XMu} (hb : LB μ) : yDi_lastTerm μ = some (.inl (some (.int (zt μ (μ.2.1 28 9)))), μ) := by
  unfold yDi_lastTerm
  rw [termAt_c hb hb.2.1 (Int.le_refl _), xbi_s]
theorem termAt_m {g h μ ν : XMu} (he : RE g h μ ν) {n : Int32} (hb : LB μ) (h1 : (μ.2.1 28 5).toInt ≤ n.toInt) (h2 : n.toInt ≤ (μ.2.1 28 9).toInt) : yM_termAt n ν = some (.inl (some (.int (zt μ n))), ν) := by
  unfold yM_termAt zt
  rw [he.base, he.baseTerm]
  by_cases h : n = (μ.2.1 28 5)
  · rw [if_neg (fun k => k h), if_pos h]
  · have h3 : (μ.2.1 28 5).toInt < n.toInt := by
      rcases Int.lt_or_eq_of_le h1 with h4 | h4
      · exact h4
      · exact absurd (inj_i h4.symm) h
    rw [if_pos h, if_neg h, xgd_t (zr_in (by have := hb.1; omega))]
    rw [← (he.log n h3 h2).1]
    rfl
theorem dec_i {n : Int32} (h : -2147483647 ≤ n.toInt) : (n + (-1 : Int32)).toInt = n.toInt - 1 := by
  rw [i32_add (by rw [il_m1]; omega) (by rw [il_m1]; have := Int32.toInt_lt n; omega), il_m1]; omega
theorem inc_i {n : Int32} (h : n.toInt ≤ 2147483646) : (n + (1 : Int32)).toInt = n.toInt + 1 := by
  rw [i32_add (by rw [il_1]; have := Int32.le_toInt n; omega) (by rw [il_1]; omega), il_1]
theorem ZP_uniq {b l : Int32} {k : Nat → Int32} {m m' : Int32} (h : ZP b l k m) (h' : ZP b l k m') : m = m' := by
  obtain ⟨a1, a2, a3, a4⟩ := h
  obtain ⟨c1, c2, c3, c4⟩ := h'
  apply inj_i
  rcases Int.lt_trichotomy m.toInt m'.toInt with h | h | h
  · exact absurd (c3 (by omega)) (a4 m' h c2)
  · exact h
  · exact absurd (a3 (by omega)) (c4 m h a2)
theorem membersAt_m {g h μ ν : XMu} (he : RE g h μ ν) (hb : LB μ) : ∀ (f : Nat) (n : Int32), (μ.2.1 28 5).toInt ≤ n.toInt → n.toInt ≤ (μ.2.1 28 9).toInt → n.toInt - (μ.2.1 28 5).toInt < f → ∃ m, yM_membersAt_b2_L f n ν = some (.inl (some (.int m)), ν) ∧ ZP (μ.2.1 28 5) n (μ.2.1 30) m := by
  intro f
  induction f with
  | zero => intro n h1 h2 h3; omega
  | succ f ih =>
    intro n h1 h2 h3
    have b1 := hb.1
    unfold yM_membersAt_b2_L yM_membersAt_b2
    rw [he.base]
    by_cases h : n ≤ (μ.2.1 28 5)
    · rw [Int32.le_iff_toInt_le] at h
      rw [if_pos (Int32.le_iff_toInt_le.mpr h)]
      exact ⟨n, rfl, h1, Int.le_refl _, fun h4 => by omega, fun x h4 h5 => by omega⟩
    · rw [if_neg h]
      rw [Int32.le_iff_toInt_le] at h
      rw [xgd_t (zr_in (by omega))]
      have hl := (he.log n (by omega) h2).2.1
      unfold zr at hl
      rw [hl]
      by_cases hk : (μ.2.1 30) (zs (μ.2.1 28 5) n) = 1
      · rw [if_pos hk]
        exact ⟨n, rfl, h1, Int.le_refl _, fun _ => hk, fun x h4 h5 => by omega⟩
      · rw [if_neg hk]
        have e := dec_i (n := n) (by omega)
        obtain ⟨m, hm, p1, p2, p3, p4⟩ := ih (n + (-1 : Int32)) (by omega) (by omega) (by omega)
        refine ⟨m, hm, p1, by omega, p3, fun x h4 h5 => ?_⟩
        rcases Int.lt_or_eq_of_le h5 with h6 | h6
        · exact p4 x h4 (by omega)
        · rw [inj_i h6]; exact hk
theorem membersUpTo_c {μ : XMu} (hb : LB μ) : ∀ (f : Nat) (n : Int32), (μ.2.1 28 5).toInt ≤ n.toInt → n.toInt ≤ (μ.2.1 28 9).toInt → n.toInt - (μ.2.1 28 5).toInt < f → ∃ m, yDi_membersUpTo_b2_L f n μ = some (.inl (some (.int m)), μ) ∧ ZP (μ.2.1 28 5) n (μ.2.1 30) m := by
  intro f
  induction f with
  | zero => intro n h1 h2 h3; omega
  | succ f ih =>
    intro n h1 h2 h3
    have b1 := hb.1
    unfold yDi_membersUpTo_b2_L yDi_membersUpTo_b2
    by_cases h : n ≤ (μ.2.1 28 5)
    · rw [Int32.le_iff_toInt_le] at h
      rw [if_pos (Int32.le_iff_toInt_le.mpr h)]
      exact ⟨n, rfl, h1, Int.le_refl _, fun h4 => by omega, fun x h4 h5 => by omega⟩
    · rw [if_neg h]
      rw [Int32.le_iff_toInt_le] at h
      rw [kindAt_c hb (by omega) h2, xbi_s]
      by_cases hk : (μ.2.1 30) (zs (μ.2.1 28 5) n) = 1
      · rw [if_pos hk]
        exact ⟨n, rfl, h1, Int.le_refl _, fun _ => hk, fun x h4 h5 => by omega⟩
      · rw [if_neg hk]
        have e := dec_i (n := n) (by omega)
        obtain ⟨m, hm, p1, p2, p3, p4⟩ := ih (n + (-1 : Int32)) (by omega) (by omega) (by omega)
        refine ⟨m, hm, p1, by omega, p3, fun x h4 h5 => ?_⟩
        rcases Int.lt_or_eq_of_le h5 with h6 | h6
        · exact p4 x h4 (by omega)
        · rw [inj_i h6]; exact hk
def zc (μ : XMu) (m : Int32) : Int32 := if m = (μ.2.1 28 5) then (μ.2.1 28 7) else (μ.2.1 31) (zs (μ.2.1 28 5) m)
theorem members_pair {g h μ ν : XMu} (he : RE g h μ ν) (hb : LB μ) {n : Int32} (h1 : (μ.2.1 28 5).toInt ≤ n.toInt) (h2 : n.toInt ≤ (μ.2.1 28 9).toInt) : ∃ m, yDi_membersUpTo n μ = some (.inl (some (.int m)), μ) ∧ yM_membersAt n ν = some (.inl (some (.int m)), ν) ∧ ZP (μ.2.1 28 5) n (μ.2.1 30) m := by
  obtain ⟨m, hm, pm⟩ := membersUpTo_c hb 1000 n h1 h2 (by have := hb.2.2.1; omega)
  obtain ⟨m', hm', pm'⟩ := membersAt_m he hb 1000 n h1 h2 (by have := hb.2.2.1; omega)
  have e := ZP_uniq pm pm'
  subst e
  exact ⟨m, hm, hm', pm⟩
theorem codeOf_c {μ : XMu} (hb : LB μ) {m : Int32} (h1 : (μ.2.1 28 5).toInt ≤ m.toInt) (h2 : m.toInt ≤ (μ.2.1 28 9).toInt) : yDi_codeOfMembersAt m μ = some (.inl (some (.int (zc μ m))), μ) := by
  unfold yDi_codeOfMembersAt zc
  by_cases h : m = (μ.2.1 28 5)
  · rw [holds0 hb (by rw [h]; omega), if_pos rfl, if_pos h]
  · have h3 : (μ.2.1 28 5).toInt < m.toInt := by
      rcases Int.lt_or_eq_of_le h1 with h4 | h4
      · exact h4
      · exact absurd (inj_i h4.symm) h
    rw [holds1 hb h3 h2, if_neg (by decide), if_neg h, valueAt_c hb h3 h2, xbi_s]
theorem codeAt_pair {g h μ ν : XMu} (he : RE g h μ ν) (hb : LB μ) {n : Int32} (h1 : (μ.2.1 28 5).toInt ≤ n.toInt) (h2 : n.toInt ≤ (μ.2.1 28 9).toInt) : ∃ m, yDi_codeAt n μ = some (.inl (some (.int (zc μ m))), μ) ∧ yM_codeAt n ν = some (.inl (some (.int (zc μ m))), ν) ∧ yM_membersAt n ν = some (.inl (some (.int m)), ν) ∧ ZP (μ.2.1 28 5) n (μ.2.1 30) m := by
  obtain ⟨m, hm, hm', p⟩ := members_pair he hb h1 h2
  have b1 := hb.1
  refine ⟨m, ?_, ?_, hm', p⟩
  · unfold yDi_codeAt
    rw [hm, xbi_s, codeOf_c hb p.1 (by have := p.2.1; omega), xbi_s]
  · unfold yM_codeAt
    rw [hm', xbi_s, he.base, he.baseCode]
    unfold zc
    by_cases h : m = (μ.2.1 28 5)
    · rw [if_neg (fun k => k h), if_pos h]
    · have h3 : (μ.2.1 28 5).toInt < m.toInt := by
        rcases Int.lt_or_eq_of_le p.1 with h4 | h4
        · exact h4
        · exact absurd (inj_i h4.symm) h
      rw [if_pos h, if_neg h, xgd_t (zr_in (by omega)), ← (he.log m h3 (by have := p.2.1; omega)).2.2]
      rfl
theorem code_m {g h μ ν : XMu} (he : RE g h μ ν) (hb : LB μ) (hm : ZM (μ.2.1 28 5) (μ.2.1 28 9) (μ.2.1 30) (μ.2.1 31) (μ.2.1 28 7) (μ.2.1 28 12) (μ.2.1 28 13)) : yM_code ν = some (.inl (some (.int (μ.2.1 28 13))), ν) ∧ yM_membersAt (ν.2.1 32 10) ν = some (.inl (some (.int (μ.2.1 28 12))), ν) := by
  obtain ⟨m, _, h2, h3, p⟩ := codeAt_pair he hb hb.2.1 (Int.le_refl _)
  have e := ZP_uniq p hm.1
  subst e
  constructor
  · unfold yM_code
    rw [he.last, h2, xbi_s, hm.2]
    rfl
  · rw [he.last, h3]
theorem voters_m {g h μ ν : XMu} (he : RE g h μ ν) (hb : LB μ) (hm : ZM (μ.2.1 28 5) (μ.2.1 28 9) (μ.2.1 30) (μ.2.1 31) (μ.2.1 28 7) (μ.2.1 28 12) (μ.2.1 28 13)) : yM_voters ν = some (.inl (some (.int (yC_voters μ))), ν) := by
  have hc := (code_m he hb hm).1
  unfold yM_voters
  rw [hc, xbi_s, hc, xbi_s]
  rfl
theorem peers_m {g h μ ν : XMu} (he : RE g h μ ν) (hb : LB μ) (hm : ZM (μ.2.1 28 5) (μ.2.1 28 9) (μ.2.1 30) (μ.2.1 31) (μ.2.1 28 7) (μ.2.1 28 12) (μ.2.1 28 13)) : yM_peers ν = some (.inl (some (.int (yC_peers μ))), ν) := by
  have hc := (code_m he hb hm).1
  unfold yM_peers
  rw [voters_m he hb hm, xbi_s, hc, xbi_s, he.itself]
  rfl
theorem majority_m {g h μ ν : XMu} (he : RE g h μ ν) (hb : LB μ) (hm : ZM (μ.2.1 28 5) (μ.2.1 28 9) (μ.2.1 30) (μ.2.1 31) (μ.2.1 28 7) (μ.2.1 28 12) (μ.2.1 28 13)) (a : Int32) : yM_majority a ν = some (.inl (some (.int (yC_isMajority a μ))), ν) := by
  have hc := (code_m he hb hm).1
  unfold yM_majority yC_isMajority
  rw [hc, xbi_s, hc, xbi_s, bits_eq, xbi_s, bits_eq, xbi_s]
  have e1 : ∀ x, yM_old x = yC_oldOf x := fun _ => rfl
  have e2 : ∀ x, yM_fresh x = yC_newOf x := fun _ => rfl
  have z1 : z7 (yC_oldOf (μ.2.1 28 13)) := z7_and _
  have z2 : z7 (yC_newOf (μ.2.1 28 13)) := z7_and _
  rw [e1, e2, bitc_eq z1, bitc_eq z2, bitc_eq (z7_and2 z1), bitc_eq (z7_and2 z2), bits_eq, xbi_s, bits_eq, xbi_s]
  by_cases c1 : (2 : Int32) * pc7 (a &&& yC_oldOf (μ.2.1 28 13)) ≤ pc7 (yC_oldOf (μ.2.1 28 13))
  · rw [if_pos c1, if_pos c1]
    split
    · rfl
    · split <;> rfl
  · rw [if_neg c1, if_neg c1]
    by_cases c2 : yC_newOf (μ.2.1 28 13) = 0
    · rw [if_pos c2, if_pos c2]
    · rw [if_neg c2, if_neg c2]
      split <;> rfl
theorem and_i {w : Int32} {m : Nat} {lit : Int32} (hm : m < 31) (hl : lit.toBitVec.toNat = 2 ^ m - 1) (h : 0 ≤ w.toInt) : (w &&& lit).toInt = w.toInt % 2 ^ m := by
  have hw : w.toInt = (w.toBitVec.toNat : Int) := by
    have e : w.toInt = w.toBitVec.toInt := rfl
    rw [e] at h ⊢
    rw [BitVec.toInt_eq_toNat_cond] at h ⊢
    split
    · rfl
    · next hh => rw [if_neg hh] at h; have := w.toBitVec.isLt; omega
  have e2 : (w &&& lit).toBitVec.toNat = w.toBitVec.toNat % 2 ^ m := by
    rw [Int32.toBitVec_and, BitVec.toNat_and, hl, Nat.and_two_pow_sub_one_eq_mod]
  have hlt : w.toBitVec.toNat % 2 ^ m < 2 ^ 31 := Nat.lt_of_lt_of_le (Nat.mod_lt _ (Nat.two_pow_pos m)) (Nat.pow_le_pow_right (by omega) (by omega))
  have e3 : (w &&& lit).toInt = (w &&& lit).toBitVec.toInt := rfl
  rw [e3, BitVec.toInt_eq_toNat_of_lt (by rw [e2]; omega), e2, hw]
  simp
theorem and63 {w : Int32} (h : 0 ≤ w.toInt) : (w &&& 63).toInt = w.toInt % 64 := and_i (m := 6) (by omega) rfl h
theorem and31 {w : Int32} (h : 0 ≤ w.toInt) : (w &&& 31).toInt = w.toInt % 32 := and_i (m := 5) (by omega) rfl h
def zμ (μ : XMu) (L : Int32) (d : Nat → Int32) : XMu := (μ.1, va_up (va_up μ.2.1 1 (upd (μ.2.1 1) 1 L)) 2 d, μ.2.2)
def zν (ν : XMu) (L : Int32) (d : Nat → Int32) : XMu := (ν.1, va_up (va_up ν.2.1 32 (upd (ν.2.1 32) 47 L)) 47 d, ν.2.2)
def ZE (L : Int32) (d d' : Nat → Int32) : Prop := 0 ≤ L.toInt ∧ L.toInt ≤ 26 ∧ ∀ j : Nat, (j : Int) < L.toInt → d' (j + 1) = d j
theorem mem_ext {a b : Nat → Nat → Int32} (h : ∀ c p, a c p = b c p) : a = b := funext fun c => funext fun p => h c p
theorem L_add {μ ν : XMu} {L : Int32} {d d' : Nat → Int32} (hc : ZE L d d') (h : L.toInt < 26) (x : Int32) : ∃ d1 d1', yMa_add x (zμ μ L d) = some (.inl none, zμ μ (L + 1) d1) ∧ yM_add x (zν ν L d') = some (.inl none, zν ν (L + 1) d1') ∧ ZE (L + 1) d1 d1' := by
  obtain ⟨h0, h1, h2⟩ := hc
  have e := inc_i (n := L) (by omega)
  refine ⟨upd d L.toNatClampNeg x, upd d' (L + 1).toNatClampNeg x, ?_, ?_, by omega, by omega, fun j hj => ?_⟩
  · unfold yMa_add
    have e1 : (zμ μ L d).2.1 1 1 = L := rfl
    rw [e1, if_neg (by rw [Int32.le_iff_toInt_le, il_26]; omega), xgd_t (xin_of h0 (by omega))]
    refine congrArg some (Prod.ext rfl (Prod.ext rfl (Prod.ext ?_ rfl)))
    refine mem_ext fun c p => ?_
    show xuI (xuI (zμ μ L d).2.1 2 L.toNatClampNeg x) 1 1 (L + 1) c p = (zμ μ (L + 1) (upd d L.toNatClampNeg x)).2.1 c p
    unfold zμ xuI va_up upd
    dsimp only
    repeat' split
    all_goals first | rfl | omega | (simp_all; done)
  · unfold yM_add
    have e1 : (zν ν L d').2.1 32 47 = L := rfl
    rw [e1, xgd_t (xin_of (by omega) (by omega))]
    refine congrArg some (Prod.ext rfl (Prod.ext rfl (Prod.ext ?_ rfl)))
    refine mem_ext fun c p => ?_
    show xuI (xuI (zν ν L d').2.1 32 47 (L + 1)) 47 (L + 1).toNatClampNeg x c p = (zν ν (L + 1) (upd d' (L + 1).toNatClampNeg x)).2.1 c p
    unfold zν xuI va_up upd
    dsimp only
    repeat' split
    all_goals first | rfl | omega | (simp_all; done)
  · have t1 := tn_of h0
    have t2 : (((L + 1).toNatClampNeg : Nat) : Int) = L.toInt + 1 := by rw [tn_of (by omega), e]
    unfold upd
    by_cases hjj : (j : Int) = L.toInt
    · rw [if_pos (by omega), if_pos (by omega)]
    · rw [if_neg (by omega), if_neg (by omega)]
      exact h2 j (by omega)
theorem L_begin (μ ν : XMu) (a b c : Int32) : ∃ d d', yMa_begin a b c μ = some (.inl none, zμ μ 3 d) ∧ yM_begin a b c ν = some (.inl none, zν ν 3 d') ∧ ZE 3 d d' := by
  have s1 : ((μ.1, (xuI μ.2.1 1 1 (0 : Int32)), μ.2.2) : XMu) = zμ μ 0 (μ.2.1 2) := by
    unfold zμ
    refine Prod.ext rfl (Prod.ext ?_ rfl)
    refine mem_ext fun c p => ?_
    show xuI μ.2.1 1 1 0 c p = _
    unfold xuI va_up upd
    dsimp only
    repeat' split
    all_goals first | rfl | omega | (simp_all; done)
  have s2 : ((ν.1, (xuI ν.2.1 32 47 (0 : Int32)), ν.2.2) : XMu) = zν ν 0 (ν.2.1 47) := by
    unfold zν
    refine Prod.ext rfl (Prod.ext ?_ rfl)
    refine mem_ext fun c p => ?_
    show xuI ν.2.1 32 47 0 c p = _
    unfold xuI va_up upd
    dsimp only
    repeat' split
    all_goals first | rfl | omega | (simp_all; done)
  have z0 : ZE 0 (μ.2.1 2) (ν.2.1 47) := ⟨by decide, by decide, fun j hj => by rw [il_0] at hj; omega⟩
  obtain ⟨d1, d1', a1, a2, z1⟩ := L_add (μ := μ) (ν := ν) z0 (by decide) a
  obtain ⟨d2, d2', b1, b2, z2⟩ := L_add (μ := μ) (ν := ν) z1 (by decide) b
  obtain ⟨d3, d3', c1, c2, z3⟩ := L_add (μ := μ) (ν := ν) z2 (by decide) c
  refine ⟨d3, d3', ?_, ?_, z3⟩
  · unfold yMa_begin
    rw [s1, a1, xbv_s, b1, xbv_s, c1, xbv_s]
    rfl
  · unfold yM_begin
    rw [s2, a2, xbv_s, b2, xbv_s, c2, xbv_s]
    rfl
theorem ZK_put {m m' s sp sp' : Nat} {k kl go f f' : Nat → Int32} {L : Int32} (h : ZK m k kl go) (hm : ∀ s', s' < m' → s' ≠ s → s' < m) (h0 : 0 ≤ L.toInt) (h26 : L.toInt ≤ 26) (hl : f' sp' = L) (hc : ∀ j : Nat, (j : Int) < L.toInt → f' (sp' + 1 + j) = f (sp + j)) : ZK m' (va_cpy f k sp (s * 26) L.toNatClampNeg) (upd kl s L) (va_cpy f' go sp' (s * 32) 32) := by
  intro s' hs'
  have tn := tn_of h0
  by_cases e : s' = s
  · subst e
    rw [upd_s]
    refine ⟨h0, h26, ?_, fun j hj => ?_⟩
    · unfold va_cpy
      rw [if_pos (by omega), Nat.sub_self]
      exact hl
    · unfold va_cpy
      rw [if_pos (by omega), if_pos (by omega)]
      have e1 : sp' + (s' * 32 + 1 + j - s' * 32) = sp' + 1 + j := by omega
      have e2 : sp + (s' * 26 + j - s' * 26) = sp + j := by omega
      rw [e1, e2]
      exact hc j hj
  · rw [upd_o e]
    obtain ⟨a1, a2, a3, a4⟩ := h s' (hm s' hs' e)
    refine ⟨a1, a2, ?_, fun j hj => ?_⟩
    · unfold va_cpy
      rw [if_neg (by omega)]
      exact a3
    · unfold va_cpy
      rw [if_neg (by omega), if_neg (by omega)]
      exact a4 j hj
theorem cpy_0 {f g : Nat → Int32} {s d : Nat} : va_cpy f g s d 0 = g := by
  funext p
  unfold va_cpy
  rw [if_neg (by omega)]
theorem cpy_step {f g : Nat → Int32} {s d n : Nat} : va_cpy f (upd g d (f s)) (s + 1) (d + 1) n = va_cpy f g s d (n + 1) := by
  funext p
  unfold va_cpy upd
  by_cases h1 : p = d
  · subst h1
    rw [if_neg (by omega), if_pos rfl, if_pos (by omega), Nat.sub_self]
    rfl
  · by_cases h2 : d + 1 ≤ p ∧ p < d + 1 + n
    · rw [if_pos h2, if_pos (by omega)]
      congr 1
      omega
    · rw [if_neg h2, if_neg h1, if_neg (by omega)]
theorem va_up_xu {M : Nat → Nat → Int32} {k j : Nat} {v : Int32} {G : Nat → Int32} : va_up (xuI M k j v) k G = va_up M k G := by
  funext c
  unfold va_up xuI va_up
  by_cases h : c = k
  · rw [if_pos h, if_pos h]
  · rw [if_neg h, if_neg h, if_neg h]
theorem va_up_id {M : Nat → Nat → Int32} {k : Nat} : va_up M k (M k) = M := by
  funext c
  unfold va_up
  by_cases h : c = k
  · rw [if_pos h, h]
  · rw [if_neg h]
theorem mul_i {a : Int32} {k : Nat} {b : Int32} (hb : b.toInt = k) (hk : k ≤ 32) (h0 : 0 ≤ a.toInt) (h1 : a.toInt ≤ 1000000) : (a * b).toInt = a.toInt * k := by
  rw [i32_mul (by rw [hb]; have := Int.mul_nonneg h0 (Int.natCast_nonneg k); omega) (by rw [hb]; have := Int.mul_le_mul_of_nonneg_left (a := (k : Int)) (b := 32) (c := a.toInt) (by omega) h0; omega), hb]
theorem goes_new : ∀ (r f : Nat) (x2 : Int32) (ν : XMu) (s : Nat), 0 ≤ (ν.2.1 32 50).toInt → (s : Int) = (ν.2.1 32 50).toInt % 64 → 0 ≤ x2.toInt → x2.toInt + r = 32 → r < f → yM_goes_b2_L f (-1) x2 ν = yM_goes_b55 (ν.1, va_up ν.2.1 49 (va_cpy (ν.2.1 47) (ν.2.1 49) x2.toNatClampNeg (s * 32 + x2.toNatClampNeg) r), ν.2.2) := by
  intro r
  induction r with
  | zero =>
    intro f x2 ν s h0 hs hx hr hf
    obtain ⟨f, rfl⟩ : ∃ f', f = f' + 1 := ⟨f - 1, by omega⟩
    unfold yM_goes_b2_L yM_goes_b2
    rw [if_pos (by rw [Int32.le_iff_toInt_le, il_32]; omega), cpy_0, va_up_id]
  | succ r ih =>
    intro f x2 ν s h0 hs hx hr hf
    obtain ⟨f, rfl⟩ : ∃ f', f = f' + 1 := ⟨f - 1, by omega⟩
    unfold yM_goes_b2_L yM_goes_b2
    have e1 : ((ν.2.1 32 50) - (ν.2.1 32 50) / (64 : Int32) * (64 : Int32)).toInt = (ν.2.1 32 50).toInt % 64 := i32_rem h0 (by decide)
    have e2 : (((ν.2.1 32 50) - (ν.2.1 32 50) / (64 : Int32) * (64 : Int32)) * (32 : Int32)).toInt = (ν.2.1 32 50).toInt % 64 * 32 := by
      rw [mul_i (k := 32) rfl (by omega) (by omega) (by omega), e1]; omega
    have e3 : (((ν.2.1 32 50) - (ν.2.1 32 50) / (64 : Int32) * (64 : Int32)) * (32 : Int32) + x2).toInt = (ν.2.1 32 50).toInt % 64 * 32 + x2.toInt := by
      rw [i32_add (by omega) (by omega), e2]
    have e4 : (((ν.2.1 32 50) - (ν.2.1 32 50) / (64 : Int32) * (64 : Int32)) * (32 : Int32) + x2).toNatClampNeg = s * 32 + x2.toNatClampNeg := by
      have t1 := tn_of (i := (((ν.2.1 32 50) - (ν.2.1 32 50) / (64 : Int32) * (64 : Int32)) * (32 : Int32) + x2)) (by omega)
      have t2 := tn_of hx
      omega
    have e5 := inc_i (n := x2) (by omega)
    have e6 : (x2 + 1).toNatClampNeg = x2.toNatClampNeg + 1 := by
      have t1 := tn_of (i := x2 + 1) (by omega)
      have t2 := tn_of hx
      omega
    rw [if_neg (by rw [Int32.le_iff_toInt_le, il_32]; omega), if_neg (by decide), xgd_t (xin_of hx (by omega)), xgd_t (xin_of (by omega) (by omega)), e4]
    rw [ih f (x2 + 1) (ν.1, xuI ν.2.1 49 (s * 32 + x2.toNatClampNeg) (ν.2.1 47 x2.toNatClampNeg), ν.2.2) s h0 hs (by omega) (by omega) (by omega)]
    dsimp only
    rw [va_up_xu, xuI_s, xuI_o (by decide), e6, ← Nat.add_assoc, cpy_step]
theorem goes_old : ∀ (r f : Nat) (x1 x2 : Int32) (ν : XMu) (s : Nat), 0 ≤ x1.toInt → x1.toInt < 200 → 0 ≤ (ν.2.1 32 50).toInt → (s : Int) = (ν.2.1 32 50).toInt % 64 → 0 ≤ x2.toInt → x2.toInt + r = 32 → r < f → yM_goes_b2_L f x1 x2 ν = yM_goes_b55 (ν.1, va_up ν.2.1 49 (va_cpy (ν.2.1 48) (ν.2.1 49) (x1.toNatClampNeg * 32 + x2.toNatClampNeg) (s * 32 + x2.toNatClampNeg) r), ν.2.2) := by
  intro r
  induction r with
  | zero =>
    intro f x1 x2 ν s g1 g2 h0 hs hx hr hf
    obtain ⟨f, rfl⟩ : ∃ f', f = f' + 1 := ⟨f - 1, by omega⟩
    unfold yM_goes_b2_L yM_goes_b2
    rw [if_pos (by rw [Int32.le_iff_toInt_le, il_32]; omega), cpy_0, va_up_id]
  | succ r ih =>
    intro f x1 x2 ν s g1 g2 h0 hs hx hr hf
    obtain ⟨f, rfl⟩ : ∃ f', f = f' + 1 := ⟨f - 1, by omega⟩
    unfold yM_goes_b2_L yM_goes_b2
    have e1 : ((ν.2.1 32 50) - (ν.2.1 32 50) / (64 : Int32) * (64 : Int32)).toInt = (ν.2.1 32 50).toInt % 64 := i32_rem h0 (by decide)
    have e2 : (((ν.2.1 32 50) - (ν.2.1 32 50) / (64 : Int32) * (64 : Int32)) * (32 : Int32)).toInt = (ν.2.1 32 50).toInt % 64 * 32 := by
      rw [mul_i (k := 32) rfl (by omega) (by omega) (by omega), e1]; omega
    have e3 : (((ν.2.1 32 50) - (ν.2.1 32 50) / (64 : Int32) * (64 : Int32)) * (32 : Int32) + x2).toInt = (ν.2.1 32 50).toInt % 64 * 32 + x2.toInt := by
      rw [i32_add (by omega) (by omega), e2]
    have t2 := tn_of hx
    have t3 := tn_of g1
    have e4 : (((ν.2.1 32 50) - (ν.2.1 32 50) / (64 : Int32) * (64 : Int32)) * (32 : Int32) + x2).toNatClampNeg = s * 32 + x2.toNatClampNeg := by
      have t1 := tn_of (i := (((ν.2.1 32 50) - (ν.2.1 32 50) / (64 : Int32) * (64 : Int32)) * (32 : Int32) + x2)) (by omega)
      omega
    have m1 : (x1 * (32 : Int32)).toInt = x1.toInt * 32 := by
      rw [mul_i (k := 32) rfl (by omega) g1 (by omega)]; omega
    have m2 : (x1 * (32 : Int32) + x2).toInt = x1.toInt * 32 + x2.toInt := by
      rw [i32_add (by omega) (by omega), m1]
    have m3 : (x1 * (32 : Int32) + x2).toNatClampNeg = x1.toNatClampNeg * 32 + x2.toNatClampNeg := by
      have t1 := tn_of (i := (x1 * (32 : Int32) + x2)) (by omega)
      omega
    have e5 := inc_i (n := x2) (by omega)
    have e6 : (x2 + 1).toNatClampNeg = x2.toNatClampNeg + 1 := by
      have t1 := tn_of (i := x2 + 1) (by omega)
      omega
    rw [if_neg (by rw [Int32.le_iff_toInt_le, il_32]; omega), if_pos (by rw [Int32.le_iff_toInt_le, il_0]; omega), xgd_t (xin_of (by omega) (by omega)), xgd_t (xin_of (by omega) (by omega)), e4, m3]
    rw [ih f x1 (x2 + 1) (ν.1, xuI ν.2.1 49 (s * 32 + x2.toNatClampNeg) (ν.2.1 48 (x1.toNatClampNeg * 32 + x2.toNatClampNeg)), ν.2.2) s g1 g2 h0 hs (by omega) (by omega) (by omega)]
    dsimp only
    rw [va_up_xu, xuI_s, xuI_o (by decide), e6, ← Nat.add_assoc, ← Nat.add_assoc, cpy_step]
theorem send_wait : ∀ (r f : Nat) (x1 : Int32) (ν : XMu), 0 ≤ (ν.2.1 32 49).toInt → (ν.2.1 32 49).toInt < 200 → 0 ≤ x1.toInt → x1.toInt + r = 32 → r < f → yM_send_b37_L f x1 ν = yM_send_b69 (ν.1, va_up ν.2.1 48 (va_cpy (ν.2.1 47) (ν.2.1 48) x1.toNatClampNeg ((ν.2.1 32 49).toNatClampNeg * 32 + x1.toNatClampNeg) r), ν.2.2) := by
  intro r
  induction r with
  | zero =>
    intro f x1 ν g1 g2 hx hr hf
    obtain ⟨f, rfl⟩ : ∃ f', f = f' + 1 := ⟨f - 1, by omega⟩
    unfold yM_send_b37_L yM_send_b37
    rw [if_pos (by rw [Int32.le_iff_toInt_le, il_32]; omega), cpy_0, va_up_id]
  | succ r ih =>
    intro f x1 ν g1 g2 hx hr hf
    obtain ⟨f, rfl⟩ : ∃ f', f = f' + 1 := ⟨f - 1, by omega⟩
    unfold yM_send_b37_L yM_send_b37
    have t2 := tn_of hx
    have t3 := tn_of g1
    have m1 : ((ν.2.1 32 49) * (32 : Int32)).toInt = (ν.2.1 32 49).toInt * 32 := by
      rw [mul_i (k := 32) rfl (by omega) g1 (by omega)]; omega
    have m2 : ((ν.2.1 32 49) * (32 : Int32) + x1).toInt = (ν.2.1 32 49).toInt * 32 + x1.toInt := by
      rw [i32_add (by omega) (by omega), m1]
    have m3 : ((ν.2.1 32 49) * (32 : Int32) + x1).toNatClampNeg = (ν.2.1 32 49).toNatClampNeg * 32 + x1.toNatClampNeg := by
      have t1 := tn_of (i := ((ν.2.1 32 49) * (32 : Int32) + x1)) (by omega)
      omega
    have e5 := inc_i (n := x1) (by omega)
    have e6 : (x1 + 1).toNatClampNeg = x1.toNatClampNeg + 1 := by
      have t1 := tn_of (i := x1 + 1) (by omega)
      omega
    rw [if_neg (by rw [Int32.le_iff_toInt_le, il_32]; omega), xgd_t (xin_of (by omega) (by omega)), xgd_t (xin_of (by omega) (by omega)), m3]
    rw [ih f (x1 + 1) (ν.1, xuI ν.2.1 48 ((ν.2.1 32 49).toNatClampNeg * 32 + x1.toNatClampNeg) (ν.2.1 47 x1.toNatClampNeg), ν.2.2) g1 g2 (by omega) (by omega) (by omega)]
    dsimp only
    rw [va_up_xu, xuI_s, xuI_o (by decide), e6]
    show _ = yM_send_b69 (ν.1, va_up ν.2.1 48 (va_cpy (ν.2.1 47) (ν.2.1 48) x1.toNatClampNeg ((ν.2.1 32 49).toNatClampNeg * 32 + x1.toNatClampNeg) (r + 1)), ν.2.2)
    rw [← cpy_step]
    rfl
def zM (μ : XMu) (X : Nat → Nat → Int32) : XMu := (μ.1, fun c => bif Nat.beq c 0 || Nat.ble 7 c then μ.2.1 c else X c, μ.2.2)
def zN (ν : XMu) (Y : Nat → Int32) (Z : Nat → Nat → Int32) : XMu := (ν.1, fun c => bif Nat.beq c 32 then (fun j => bif Nat.beq j 47 || Nat.beq j 49 || Nat.beq j 50 then Y j else ν.2.1 32 j) else (bif Nat.beq c 47 || Nat.beq c 48 || Nat.beq c 49 then Z c else ν.2.1 c), ν.2.2)
theorem to_zM {μ μ' : XMu} (h1 : μ'.1 = μ.1) (h2 : μ'.2.2 = μ.2.2) (h : ∀ c, c = 0 ∨ 7 ≤ c → μ'.2.1 c = μ.2.1 c) : zM μ μ'.2.1 = μ' := by
  unfold zM
  refine Prod.ext h1.symm (Prod.ext ?_ h2.symm)
  funext c
  show (bif Nat.beq c 0 || Nat.ble 7 c then μ.2.1 c else μ'.2.1 c) = μ'.2.1 c
  cases hb : (Nat.beq c 0 || Nat.ble 7 c) with
  | true =>
    rw [Bool.or_eq_true, Nat.beq_eq, Nat.ble_eq] at hb
    exact (h c hb).symm
  | false => rfl
theorem to_zN {ν ν' : XMu} (h1 : ν'.1 = ν.1) (h2 : ν'.2.2 = ν.2.2) (h : ∀ c, c ≠ 32 → c ≠ 47 → c ≠ 48 → c ≠ 49 → ν'.2.1 c = ν.2.1 c) (h3 : ∀ j, j ≠ 47 → j ≠ 49 → j ≠ 50 → ν'.2.1 32 j = ν.2.1 32 j) : zN ν (ν'.2.1 32) ν'.2.1 = ν' := by
  unfold zN
  refine Prod.ext h1.symm (Prod.ext ?_ h2.symm)
  funext c
  show (bif Nat.beq c 32 then (fun j => bif Nat.beq j 47 || Nat.beq j 49 || Nat.beq j 50 then ν'.2.1 32 j else ν.2.1 32 j) else (bif Nat.beq c 47 || Nat.beq c 48 || Nat.beq c 49 then ν'.2.1 c else ν.2.1 c)) = ν'.2.1 c
  cases hb : Nat.beq c 32 with
  | true =>
    rw [Nat.beq_eq] at hb
    subst hb
    funext j
    show (bif Nat.beq j 47 || Nat.beq j 49 || Nat.beq j 50 then ν'.2.1 32 j else ν.2.1 32 j) = ν'.2.1 32 j
    cases hj : (Nat.beq j 47 || Nat.beq j 49 || Nat.beq j 50) with
    | true => rfl
    | false =>
      simp only [Bool.or_eq_false_iff] at hj
      obtain ⟨⟨a, b⟩, d⟩ := hj
      exact (h3 j (Nat.ne_of_beq_eq_false a) (Nat.ne_of_beq_eq_false b) (Nat.ne_of_beq_eq_false d)).symm
  | false =>
    show (bif Nat.beq c 47 || Nat.beq c 48 || Nat.beq c 49 then ν'.2.1 c else ν.2.1 c) = ν'.2.1 c
    cases hj : (Nat.beq c 47 || Nat.beq c 48 || Nat.beq c 49) with
    | true => rfl
    | false =>
      simp only [Bool.or_eq_false_iff] at hj
      obtain ⟨⟨a, b⟩, d⟩ := hj
      exact (h c (Nat.ne_of_beq_eq_false hb) (Nat.ne_of_beq_eq_false a) (Nat.ne_of_beq_eq_false b) (Nat.ne_of_beq_eq_false d)).symm
def zf (μ : XMu) (F : Nat → Int32) : XMu := (μ.1, va_up μ.2.1 14 F, μ.2.2)
theorem zf_id {μ : XMu} {F : Nat → Int32} (h : μ.2.1 14 = F) : zf μ F = μ := by
  subst h
  unfold zf
  rw [va_up_id]
theorem xcb_of {sp dp n : Int32} {a b : Nat} (h1 : 0 ≤ sp.toInt) (h2 : 0 ≤ dp.toInt) (h3 : 0 ≤ n.toInt) (h4 : sp.toInt + n.toInt ≤ a) (h5 : dp.toInt + n.toInt ≤ b) : xcb sp dp n a b = true := by
  have t1 := tn_of h1
  have t2 := tn_of h2
  have t3 := tn_of h3
  unfold xcb
  simp only [Bool.and_eq_true, decide_eq_true_iff, Int32.lt_iff_toInt_lt, il_0, Nat.ble_eq]
  omega
theorem x01_0 {x : Int32} (h : x01 x = true) (h1 : ¬ x = 0) : x = 1 := (x01_or h).resolve_left h1
theorem mail_fin {g h μ ν μ' ν' : XMu} {m : Nat} {P Q : XRes} (C : P = some (.inl none, μ')) (Mm : Q = some (.inl none, ν')) (e1 : zM μ μ'.2.1 = μ') (e2 : zN ν (ν'.2.1 32) ν'.2.1 = ν') {F : Nat → Int32} (hr : RE g h (zf μ' F) ν' ∧ RI m (zf μ' F)) : ∃ X Y Z, P = some (.inl none, zM μ X) ∧ Q = some (.inl none, zN ν Y Z) ∧ RE g h (zf (zM μ X) F) (zN ν Y Z) ∧ RI m (zf (zM μ X) F) := by
  refine ⟨μ'.2.1, ν'.2.1 32, ν'.2.1, ?_⟩
  rw [e1, e2]
  exact ⟨C, Mm, hr⟩
theorem L_postF {g h μ ν : XMu} {n : Nat} {F : Nat → Int32} (he : RE g h (zf μ F) ν) (hi : RI n (zf μ F)) (hn : n ≤ 1000000) {L : Int32} {d d' : Nat → Int32} (hc : ZE L d d') : ∃ X Y Z, yMa_post (μ.2.1 28 11) (zμ μ L d) = some (.inl none, zM μ X) ∧ yM_send (zν ν L d') = some (.inl none, zN ν Y Z) ∧ RE g h (zf (zM μ X) F) (zN ν Y Z) ∧ RI (n + 1) (zf (zM μ X) F) := by
  have qd : (ν.2.1 32 14) = (μ.2.1 28 11) := he.dirty
  have qw : (ν.2.1 32 50) = (μ.2.1 1 7) := he.went
  have qs : (ν.2.1 32 49) = (μ.2.1 1 4) := he.waits
  obtain ⟨c0, c1, c2⟩ := hc
  have hw : 0 ≤ (μ.2.1 1 7).toInt ∧ (μ.2.1 1 7).toInt ≤ n := hi.went
  have hq : 0 ≤ (μ.2.1 1 4).toInt ∧ (μ.2.1 1 4).toInt ≤ 200 := hi.waits
  have hi1 := hi.mono (Nat.le_add_right n 1)
  by_cases hd : (μ.2.1 28 11) = 0
  · -- it goes
    have k1 : (yMa_slotOf (μ.2.1 1 7)).toInt = (μ.2.1 1 7).toInt % 64 := and63 hw.1
    have k2 : (yMa_slotOf (μ.2.1 1 7) * (26 : Int32)).toInt = (μ.2.1 1 7).toInt % 64 * 26 := by
      rw [mul_i (k := 26) rfl (by omega) (by omega) (by omega), k1]; omega
    have k3 : (yMa_slotOf (μ.2.1 1 7) * (26 : Int32)).toNatClampNeg = (yMa_slotOf (μ.2.1 1 7)).toNatClampNeg * 26 := by
      have t1 := tn_of (i := yMa_slotOf (μ.2.1 1 7) * (26 : Int32)) (by omega)
      have t2 := tn_of (i := yMa_slotOf (μ.2.1 1 7)) (by omega)
      omega
    have k4 := inc_i (n := (μ.2.1 1 7)) (by omega)
    have k5 : ((yMa_slotOf (μ.2.1 1 7)).toNatClampNeg : Int) = (ν.2.1 32 50).toInt % 64 := by
      rw [tn_of (by omega), k1, qw]
    have C : yMa_post (μ.2.1 28 11) (zμ μ L d) = some (.inl none, ((zμ μ L d).1, xuI (xuI (va_up (zμ μ L d).2.1 5 (va_cpy d (μ.2.1 5) 0 ((yMa_slotOf (μ.2.1 1 7)).toNatClampNeg * 26) L.toNatClampNeg)) 6 (yMa_slotOf (μ.2.1 1 7)).toNatClampNeg L) 1 7 ((μ.2.1 1 7) + 1), (zμ μ L d).2.2)) := by
      unfold yMa_post
      rw [if_neg (fun k => k hd)]
      have e1 : (zμ μ L d).2.1 1 7 = (μ.2.1 1 7) := rfl
      have e2 : (zμ μ L d).2.1 1 1 = L := rfl
      rw [e1, e2, xgd_t (xcb_of (by decide) (by omega) c0 (by rw [il_0]; omega) (by omega)), xgd_t (xin_of (by omega) (by omega)), k3]
      rfl
    have Mm : yM_send (zν ν L d') = some (.inl none, ((zν ν L d').1, xuI (va_up (xuI (zν ν L d').2.1 47 0 L) 49 (va_cpy (upd d' 0 L) (ν.2.1 49) 0 ((yMa_slotOf (μ.2.1 1 7)).toNatClampNeg * 32) 32)) 32 50 ((ν.2.1 32 50) + 1), (zν ν L d').2.2)) := by
      unfold yM_send
      have e1 : (zν ν L d').2.1 32 14 = (ν.2.1 32 14) := rfl
      have e2 : (zν ν L d').2.1 32 47 = L := rfl
      rw [e1, e2, qd, if_neg (fun k => k hd)]
      unfold yM_goes
      rw [goes_new 32 1000 0 ((zν ν L d').1, xuI (zν ν L d').2.1 47 0 L, (zν ν L d').2.2) (yMa_slotOf (μ.2.1 1 7)).toNatClampNeg (show 0 ≤ (ν.2.1 32 50).toInt by rw [qw]; exact hw.1) k5 (by decide) (by decide) (by omega)]
      rfl
    refine mail_fin C Mm ?_ ?_ ?_
    · refine to_zM rfl rfl fun c hc => ?_
      show xuI (xuI (va_up (zμ μ L d).2.1 5 _) 6 _ L) 1 7 _ c = μ.2.1 c
      rw [xuI_o (by omega), xuI_o (by omega), va_up_o (by omega)]
      show va_up (va_up μ.2.1 1 _) 2 d c = _
      rw [va_up_o (by omega), va_up_o (by omega)]
    · refine to_zN rfl rfl (fun c h1 h2 h3 h4 => ?_) (fun j h1 h2 h3 => ?_)
      · show xuI (va_up (xuI (zν ν L d').2.1 47 0 L) 49 _) 32 50 _ c = ν.2.1 c
        rw [xuI_o h1, va_up_o h4, xuI_o h2]
        show va_up (va_up ν.2.1 32 _) 47 d' c = _
        rw [va_up_o h2, va_up_o h1]
      · show upd (upd (ν.2.1 32) 47 L) 50 _ j = _
        rw [upd_o h3, upd_o h1]
    · constructor
      · refine (RE.mk (ft := he.ft) (fg := fun c hc => ?_) (fgl := fun c hc => by first | exact he.fgl c hc | (have hh := he.fgl c hc; (try unfold zq at hh); (try unfold zd at hh); (try unfold zf at hh); (try unfold zo at hh); (try unfold zo); (try unfold zh at hh); (try unfold zh); (try unfold zq); (try unfold zd); (try unfold zf); (try dsimp only at hh); (try dsimp only); (repeat (first | rw [xuI_o (by omega)] at hh | rw [xuL_o (by omega)] at hh | rw [va_up_o (by omega)] at hh)); (repeat (first | rw [xuI_o (by omega)] | rw [xuL_o (by omega)] | rw [va_up_o (by omega)])); exact hh)) (ht := he.ht) (hg := fun c hc => ?_) (hgl := fun c hc => by first | exact he.hgl c hc | (have hh := he.hgl c hc; (try unfold zq at hh); (try unfold zd at hh); (try unfold zf at hh); (try unfold zo at hh); (try unfold zo); (try unfold zh at hh); (try unfold zh); (try unfold zq); (try unfold zd); (try unfold zf); (try dsimp only at hh); (try dsimp only); (repeat (first | rw [xuI_o (by omega)] at hh | rw [xuL_o (by omega)] at hh | rw [va_up_o (by omega)] at hh)); (repeat (first | rw [xuI_o (by omega)] | rw [xuL_o (by omega)] | rw [va_up_o (by omega)])); exact hh)) (thr := he.thr) (row := he.row) (itself := he.itself) (now := he.now) (term := he.term) (voted := he.voted) (base := he.base) (last := he.last) (baseTerm := he.baseTerm) (baseCode := he.baseCode) (snapshot := he.snapshot) (dirty := he.dirty) (role := he.role) (leader := he.leader) (commit := he.commit) (applied := he.applied) (synced := he.synced) (heard := he.heard) (alarm := he.alarm) (votes := he.votes) (handing := he.handing) (handed := he.handed) (first := he.first) (round := he.round) (assembly := he.assembly) (described := he.described) (toldBase := he.toldBase) (toldTerm := he.toldTerm) (toldCode := he.toldCode) (toldSize := he.toldSize) (told := he.told) (waits := he.waits) (went := ?_) (done := he.done) (calls := he.calls) (next := he.next) (mtch := he.mtch) (flying := he.flying) (offset := he.offset) (ack := he.ack) (seen := he.seen) (probing := he.probing) (answered := he.answered) (toldTerms := he.toldTerms) (toldKinds := he.toldKinds) (toldValues := he.toldValues) (doneNumbers := he.doneNumbers) (doneValues := he.doneValues) (callState := he.callState) (callNumber := he.callNumber) (got := he.got) (log := he.log) (kept := ?_) (wait := he.wait) (cls := he.cls))
        · show va_up (xuI (xuI (va_up (zμ μ L d).2.1 5 _) 6 _ L) 1 7 _) 14 F c = g.2.1 c
          have hh := he.fg c hc
          change va_up μ.2.1 14 F c = _ at hh
          rw [va_up_o (by omega)] at hh
          rw [va_up_o (by omega), xuI_o (by omega), xuI_o (by omega), va_up_o (by omega)]
          show va_up (va_up μ.2.1 1 _) 2 d c = _
          rw [va_up_o (by omega), va_up_o (by omega)]
          exact hh
        · show xuI (va_up (xuI (zν ν L d').2.1 47 0 L) 49 _) 32 50 _ c = h.2.1 c
          rw [xuI_o (by omega), va_up_o (by omega), xuI_o (by omega)]
          show va_up (va_up ν.2.1 32 _) 47 d' c = _
          rw [va_up_o (by omega), va_up_o (by omega)]
          exact he.hg c hc
        · show (ν.2.1 32 50) + 1 = (μ.2.1 1 7) + 1
          rw [qw]
        · exact ZK_put (sp := 0) (sp' := 0) he.kept (fun s' hs' _ => hs') c0 c1 rfl (fun j hj => by
            show upd d' 0 L (0 + 1 + j) = d (0 + j)
            rw [upd_o (by omega), show 0 + 1 + j = j + 1 by omega, Nat.zero_add]
            exact c2 j hj)
      · exact (RI.mk (itself := hi1.itself) (role := hi1.role) (base := hi1.base) (ba := hi1.ba) (ac := hi1.ac) (cl := hi1.cl) (lb := hi1.lb) (last := hi1.last) (syn := hi1.syn) (dirty := hi1.dirty) (desc := hi1.desc) (now := hi1.now) (term := hi1.term) (went := ⟨by show 0 ≤ ((μ.2.1 1 7) + 1).toInt; omega, by show ((μ.2.1 1 7) + 1).toInt ≤ _; omega⟩) (waits := hi1.waits) (done := hi1.done) (calls := hi1.calls) (told := hi1.told) (round := hi1.round) (hand := hi1.hand) (heard := hi1.heard) (vote := hi1.vote) (lead := hi1.lead) (quiet := hi1.quiet) (cmd := hi1.cmd) (tt := hi1.tt) (tb := hi1.tb) (got := hi1.got) (mem := hi1.mem))
  · have hd1 : (μ.2.1 28 11) = 1 := x01_0 hi.dirty hd
    by_cases hf : (200 : Int32) ≤ (μ.2.1 1 4)
    · -- no room
      have C : yMa_post (μ.2.1 28 11) (zμ μ L d) = some (.inl none, zμ μ L d) := by
        unfold yMa_post
        have e1 : (zμ μ L d).2.1 1 4 = (μ.2.1 1 4) := rfl
        rw [if_pos hd, e1, if_pos hf]
      have Mm : yM_send (zν ν L d') = some (.inl none, ((zν ν L d').1, xuI (zν ν L d').2.1 47 0 L, (zν ν L d').2.2)) := by
        unfold yM_send
        have e1 : (zν ν L d').2.1 32 14 = (ν.2.1 32 14) := rfl
        have e2 : (zν ν L d').2.1 32 47 = L := rfl
        have e3 : (zν ν L d').2.1 32 49 = (ν.2.1 32 49) := rfl
        rw [e1, e2, e3, qd, qs, if_pos hd, if_pos hf]
      refine mail_fin C Mm ?_ ?_ ?_
      · refine to_zM rfl rfl fun c hc => ?_
        show va_up (va_up μ.2.1 1 _) 2 d c = _
        rw [va_up_o (by omega), va_up_o (by omega)]
      · refine to_zN rfl rfl (fun c h1 h2 h3 h4 => ?_) (fun j h1 h2 h3 => ?_)
        · show xuI (zν ν L d').2.1 47 0 L c = ν.2.1 c
          rw [xuI_o h2]
          show va_up (va_up ν.2.1 32 _) 47 d' c = _
          rw [va_up_o h2, va_up_o h1]
        · show upd (ν.2.1 32) 47 L j = _
          rw [upd_o h1]
      · constructor
        · refine (RE.mk (ft := he.ft) (fg := fun c hc => ?_) (fgl := fun c hc => by first | exact he.fgl c hc | (have hh := he.fgl c hc; (try unfold zq at hh); (try unfold zd at hh); (try unfold zf at hh); (try unfold zo at hh); (try unfold zo); (try unfold zh at hh); (try unfold zh); (try unfold zq); (try unfold zd); (try unfold zf); (try dsimp only at hh); (try dsimp only); (repeat (first | rw [xuI_o (by omega)] at hh | rw [xuL_o (by omega)] at hh | rw [va_up_o (by omega)] at hh)); (repeat (first | rw [xuI_o (by omega)] | rw [xuL_o (by omega)] | rw [va_up_o (by omega)])); exact hh)) (ht := he.ht) (hg := fun c hc => ?_) (hgl := fun c hc => by first | exact he.hgl c hc | (have hh := he.hgl c hc; (try unfold zq at hh); (try unfold zd at hh); (try unfold zf at hh); (try unfold zo at hh); (try unfold zo); (try unfold zh at hh); (try unfold zh); (try unfold zq); (try unfold zd); (try unfold zf); (try dsimp only at hh); (try dsimp only); (repeat (first | rw [xuI_o (by omega)] at hh | rw [xuL_o (by omega)] at hh | rw [va_up_o (by omega)] at hh)); (repeat (first | rw [xuI_o (by omega)] | rw [xuL_o (by omega)] | rw [va_up_o (by omega)])); exact hh)) (thr := he.thr) (row := he.row) (itself := he.itself) (now := he.now) (term := he.term) (voted := he.voted) (base := he.base) (last := he.last) (baseTerm := he.baseTerm) (baseCode := he.baseCode) (snapshot := he.snapshot) (dirty := he.dirty) (role := he.role) (leader := he.leader) (commit := he.commit) (applied := he.applied) (synced := he.synced) (heard := he.heard) (alarm := he.alarm) (votes := he.votes) (handing := he.handing) (handed := he.handed) (first := he.first) (round := he.round) (assembly := he.assembly) (described := he.described) (toldBase := he.toldBase) (toldTerm := he.toldTerm) (toldCode := he.toldCode) (toldSize := he.toldSize) (told := he.told) (waits := he.waits) (went := he.went) (done := he.done) (calls := he.calls) (next := he.next) (mtch := he.mtch) (flying := he.flying) (offset := he.offset) (ack := he.ack) (seen := he.seen) (probing := he.probing) (answered := he.answered) (toldTerms := he.toldTerms) (toldKinds := he.toldKinds) (toldValues := he.toldValues) (doneNumbers := he.doneNumbers) (doneValues := he.doneValues) (callState := he.callState) (callNumber := he.callNumber) (got := he.got) (log := he.log) (kept := he.kept) (wait := he.wait) (cls := he.cls))
          · show va_up (va_up (va_up μ.2.1 1 _) 2 d) 14 F c = _
            have hh := he.fg c hc
            change va_up μ.2.1 14 F c = _ at hh
            rw [va_up_o (by omega)] at hh
            rw [va_up_o (by omega), va_up_o (by omega), va_up_o (by omega)]
            exact hh
          · show xuI (zν ν L d').2.1 47 0 L c = h.2.1 c
            rw [xuI_o (by omega)]
            show va_up (va_up ν.2.1 32 _) 47 d' c = _
            rw [va_up_o (by omega), va_up_o (by omega)]
            exact he.hg c hc
        · exact (RI.mk (itself := hi1.itself) (role := hi1.role) (base := hi1.base) (ba := hi1.ba) (ac := hi1.ac) (cl := hi1.cl) (lb := hi1.lb) (last := hi1.last) (syn := hi1.syn) (dirty := hi1.dirty) (desc := hi1.desc) (now := hi1.now) (term := hi1.term) (went := hi1.went) (waits := hi1.waits) (done := hi1.done) (calls := hi1.calls) (told := hi1.told) (round := hi1.round) (hand := hi1.hand) (heard := hi1.heard) (vote := hi1.vote) (lead := hi1.lead) (quiet := hi1.quiet) (cmd := hi1.cmd) (tt := hi1.tt) (tb := hi1.tb) (got := hi1.got) (mem := hi1.mem))
    · -- it waits
      have hf' : (μ.2.1 1 4).toInt < 200 := by
        rw [Int32.le_iff_toInt_le, il_200] at hf; omega
      have k2 : ((μ.2.1 1 4) * (26 : Int32)).toInt = (μ.2.1 1 4).toInt * 26 := by
        rw [mul_i (k := 26) rfl (by omega) hq.1 (by omega)]; omega
      have k6 := tn_of hq.1
      have k3 : ((μ.2.1 1 4) * (26 : Int32)).toNatClampNeg = (μ.2.1 1 4).toNatClampNeg * 26 := by
        have t1 := tn_of (i := (μ.2.1 1 4) * (26 : Int32)) (by omega)
        omega
      have k4 := inc_i (n := (μ.2.1 1 4)) (by omega)
      have C : yMa_post (μ.2.1 28 11) (zμ μ L d) = some (.inl none, ((zμ μ L d).1, xuI (xuI (va_up (zμ μ L d).2.1 3 (va_cpy d (μ.2.1 3) 0 ((μ.2.1 1 4).toNatClampNeg * 26) L.toNatClampNeg)) 4 (μ.2.1 1 4).toNatClampNeg L) 1 4 ((μ.2.1 1 4) + 1), (zμ μ L d).2.2)) := by
        unfold yMa_post
        have e1 : (zμ μ L d).2.1 1 4 = (μ.2.1 1 4) := rfl
        have e2 : (zμ μ L d).2.1 1 1 = L := rfl
        rw [if_pos hd, e1, e2, if_neg hf, xgd_t (xcb_of (by decide) (by omega) c0 (by rw [il_0]; omega) (by omega)), xgd_t (xin_of (by omega) (by omega)), k3]
        rfl
      have Mm : yM_send (zν ν L d') = some (.inl none, ((zν ν L d').1, xuI (va_up (xuI (zν ν L d').2.1 47 0 L) 48 (va_cpy (upd d' 0 L) (ν.2.1 48) 0 ((μ.2.1 1 4).toNatClampNeg * 32) 32)) 32 49 ((μ.2.1 1 4) + 1), (zν ν L d').2.2)) := by
        unfold yM_send
        have e1 : (zν ν L d').2.1 32 14 = (ν.2.1 32 14) := rfl
        have e2 : (zν ν L d').2.1 32 47 = L := rfl
        have e3 : (zν ν L d').2.1 32 49 = (ν.2.1 32 49) := rfl
        rw [e1, e2, e3, qd, qs, if_pos hd, if_neg hf]
        rw [send_wait 32 1000 0 ((zν ν L d').1, xuI (zν ν L d').2.1 47 0 L, (zν ν L d').2.2) (show 0 ≤ (ν.2.1 32 49).toInt by rw [qs]; exact hq.1) (show (ν.2.1 32 49).toInt < 200 by rw [qs]; exact hf') (by decide) (by decide) (by omega)]
        have e4 : xuI (zν ν L d').2.1 47 0 L 32 49 = (μ.2.1 1 4) := qs
        dsimp only
        rw [e4]
        unfold yM_send_b69
        dsimp only
        rw [va_up_o (by decide), e4]
        rfl
      refine mail_fin C Mm ?_ ?_ ?_
      · refine to_zM rfl rfl fun c hc => ?_
        show xuI (xuI (va_up (zμ μ L d).2.1 3 _) 4 _ L) 1 4 _ c = μ.2.1 c
        rw [xuI_o (by omega), xuI_o (by omega), va_up_o (by omega)]
        show va_up (va_up μ.2.1 1 _) 2 d c = _
        rw [va_up_o (by omega), va_up_o (by omega)]
      · refine to_zN rfl rfl (fun c h1 h2 h3 h4 => ?_) (fun j h1 h2 h3 => ?_)
        · show xuI (va_up (xuI (zν ν L d').2.1 47 0 L) 48 _) 32 49 _ c = ν.2.1 c
          rw [xuI_o h1, va_up_o h3, xuI_o h2]
          show va_up (va_up ν.2.1 32 _) 47 d' c = _
          rw [va_up_o h2, va_up_o h1]
        · show upd (upd (ν.2.1 32) 47 L) 49 _ j = _
          rw [upd_o h2, upd_o h1]
      · constructor
        · refine (RE.mk (ft := he.ft) (fg := fun c hc => ?_) (fgl := fun c hc => by first | exact he.fgl c hc | (have hh := he.fgl c hc; (try unfold zq at hh); (try unfold zd at hh); (try unfold zf at hh); (try unfold zo at hh); (try unfold zo); (try unfold zh at hh); (try unfold zh); (try unfold zq); (try unfold zd); (try unfold zf); (try dsimp only at hh); (try dsimp only); (repeat (first | rw [xuI_o (by omega)] at hh | rw [xuL_o (by omega)] at hh | rw [va_up_o (by omega)] at hh)); (repeat (first | rw [xuI_o (by omega)] | rw [xuL_o (by omega)] | rw [va_up_o (by omega)])); exact hh)) (ht := he.ht) (hg := fun c hc => ?_) (hgl := fun c hc => by first | exact he.hgl c hc | (have hh := he.hgl c hc; (try unfold zq at hh); (try unfold zd at hh); (try unfold zf at hh); (try unfold zo at hh); (try unfold zo); (try unfold zh at hh); (try unfold zh); (try unfold zq); (try unfold zd); (try unfold zf); (try dsimp only at hh); (try dsimp only); (repeat (first | rw [xuI_o (by omega)] at hh | rw [xuL_o (by omega)] at hh | rw [va_up_o (by omega)] at hh)); (repeat (first | rw [xuI_o (by omega)] | rw [xuL_o (by omega)] | rw [va_up_o (by omega)])); exact hh)) (thr := he.thr) (row := he.row) (itself := he.itself) (now := he.now) (term := he.term) (voted := he.voted) (base := he.base) (last := he.last) (baseTerm := he.baseTerm) (baseCode := he.baseCode) (snapshot := he.snapshot) (dirty := he.dirty) (role := he.role) (leader := he.leader) (commit := he.commit) (applied := he.applied) (synced := he.synced) (heard := he.heard) (alarm := he.alarm) (votes := he.votes) (handing := he.handing) (handed := he.handed) (first := he.first) (round := he.round) (assembly := he.assembly) (described := he.described) (toldBase := he.toldBase) (toldTerm := he.toldTerm) (toldCode := he.toldCode) (toldSize := he.toldSize) (told := he.told) (waits := rfl) (went := he.went) (done := he.done) (calls := he.calls) (next := he.next) (mtch := he.mtch) (flying := he.flying) (offset := he.offset) (ack := he.ack) (seen := he.seen) (probing := he.probing) (answered := he.answered) (toldTerms := he.toldTerms) (toldKinds := he.toldKinds) (toldValues := he.toldValues) (doneNumbers := he.doneNumbers) (doneValues := he.doneValues) (callState := he.callState) (callNumber := he.callNumber) (got := he.got) (log := he.log) (kept := he.kept) (wait := ?_) (cls := he.cls))
          · show va_up (xuI (xuI (va_up (zμ μ L d).2.1 3 _) 4 _ L) 1 4 _) 14 F c = g.2.1 c
            have hh := he.fg c hc
            change va_up μ.2.1 14 F c = _ at hh
            rw [va_up_o (by omega)] at hh
            rw [va_up_o (by omega), xuI_o (by omega), xuI_o (by omega), va_up_o (by omega)]
            show va_up (va_up μ.2.1 1 _) 2 d c = _
            rw [va_up_o (by omega), va_up_o (by omega)]
            exact hh
          · show xuI (va_up (xuI (zν ν L d').2.1 47 0 L) 48 _) 32 49 _ c = h.2.1 c
            rw [xuI_o (by omega), va_up_o (by omega), xuI_o (by omega)]
            show va_up (va_up ν.2.1 32 _) 47 d' c = _
            rw [va_up_o (by omega), va_up_o (by omega)]
            exact he.hg c hc
          · exact ZK_put (m := (μ.2.1 1 4).toInt.toNat) (m' := ((μ.2.1 1 4) + 1).toInt.toNat) (s := (μ.2.1 1 4).toNatClampNeg) (sp := 0) (sp' := 0) he.wait (fun s' hs' hne => by omega) c0 c1 rfl (fun j hj => by
              show upd d' 0 L (0 + 1 + j) = d (0 + j)
              rw [upd_o (by omega), show 0 + 1 + j = j + 1 by omega, Nat.zero_add]
              exact c2 j hj)
        · exact (RI.mk (itself := hi1.itself) (role := hi1.role) (base := hi1.base) (ba := hi1.ba) (ac := hi1.ac) (cl := hi1.cl) (lb := hi1.lb) (last := hi1.last) (syn := hi1.syn) (dirty := hi1.dirty) (desc := hi1.desc) (now := hi1.now) (term := hi1.term) (went := hi1.went) (waits := ⟨by show 0 ≤ ((μ.2.1 1 4) + 1).toInt; omega, by show ((μ.2.1 1 4) + 1).toInt ≤ _; omega⟩) (done := hi1.done) (calls := hi1.calls) (told := hi1.told) (round := hi1.round) (hand := hi1.hand) (heard := hi1.heard) (vote := hi1.vote) (lead := hi1.lead) (quiet := hi1.quiet) (cmd := hi1.cmd) (tt := hi1.tt) (tb := hi1.tb) (got := hi1.got) (mem := hi1.mem))
theorem L_post {g h μ ν : XMu} {n : Nat} (he : RE g h μ ν) (hi : RI n μ) (hn : n ≤ 1000000) {L : Int32} {d d' : Nat → Int32} (hc : ZE L d d') : ∃ X Y Z, yMa_post (μ.2.1 28 11) (zμ μ L d) = some (.inl none, zM μ X) ∧ yM_send (zν ν L d') = some (.inl none, zN ν Y Z) ∧ RE g h (zM μ X) (zN ν Y Z) ∧ RI (n + 1) (zM μ X) := by
  have e : zf μ (μ.2.1 14) = μ := zf_id rfl
  obtain ⟨X, Y, Z, a, b, c, d⟩ := L_postF (F := μ.2.1 14) (by rw [e]; exact he) (by rw [e]; exact hi) hn hc
  have e2 : zf (zM μ X) (μ.2.1 14) = zM μ X := zf_id rfl
  rw [e2] at c d
  exact ⟨X, Y, Z, a, b, c, d⟩
