/-- LogServerModel.draw()V -/
def yM_draw  (μ : XMu) : XRes := some (.inl none, (μ.1, (xuI μ.2.1 32 21 (((μ.2.1 32 3) + (50 : Int32)) + (((((((μ.2.2 32 2) * (6364136223846793005 : Int64)) + (1442695040888963407 : Int64))).toUInt64 >>> (((33 : Int32)).toInt64.toUInt64 &&& Int64.toUInt64 63)).toInt64 - (((((μ.2.2 32 2) * (6364136223846793005 : Int64)) + (1442695040888963407 : Int64))).toUInt64 >>> (((33 : Int32)).toInt64.toUInt64 &&& Int64.toUInt64 63)).toInt64 / (50 : Int64) * (50 : Int64))).toInt32)), (xuL μ.2.2 32 2 (((μ.2.2 32 2) * (6364136223846793005 : Int64)) + (1442695040888963407 : Int64)))))
theorem yM_draw_ok {L : Nat} {xs : Nat → Int32}  (μ : XMu) : XB L xs 156 0 [some (.ref 32)] [] μ (yM_draw  μ) := by
  unfold yM_draw
  refine XB.go 22 (pc' := 40) (ls' := [some (.ref 32)]) (st' := []) (μ' := (μ.1, (xuI μ.2.1 32 21 (((μ.2.1 32 3) + (50 : Int32)) + (((((((μ.2.2 32 2) * (6364136223846793005 : Int64)) + (1442695040888963407 : Int64))).toUInt64 >>> (((33 : Int32)).toInt64.toUInt64 &&& Int64.toUInt64 63)).toInt64 - (((((μ.2.2 32 2) * (6364136223846793005 : Int64)) + (1442695040888963407 : Int64))).toUInt64 >>> (((33 : Int32)).toInt64.toUInt64 &&& Int64.toUInt64 63)).toInt64 / (50 : Int64) * (50 : Int64))).toInt32)), (xuL μ.2.2 32 2 (((μ.2.2 32 2) * (6364136223846793005 : Int64)) + (1442695040888963407 : Int64))))) rfl ?_
  exact XB.fin rfl
/-- LogServerModel.thrown()I -/
def yM_thrown  (μ : XMu) : Int32 := (μ.2.1 32 0)
theorem yM_thrown_ok {L : Nat} {xs : Nat → Int32}  (μ : XMu) : XB L xs 158 0 [some (.ref 32)] [] μ (some (.inl (some (.int (yM_thrown  μ))), μ)) := by
  unfold yM_thrown
  refine XB.go 2 (pc' := 4) (ls' := [some (.ref 32)]) (st' := [(.int (μ.2.1 32 0))]) (μ' := μ) rfl ?_
  exact XB.fin rfl
/-- LogServerModel.within(III)Z -/
def yM_within (a0 : Int32) (a1 : Int32) (a2 : Int32) : Int32 := (if a0 < a1 then (0 : Int32) else (if a2 < a0 then (0 : Int32) else (1 : Int32)))
theorem yM_within_ok {L : Nat} {xs : Nat → Int32} (a0 : Int32) (a1 : Int32) (a2 : Int32) (μ : XMu) : XB L xs 159 0 [some (.int a0), some (.int a1), some (.int a2)] [] μ (some (.inl (some (.int (yM_within a0 a1 a2))), μ)) := by
  unfold yM_within
  refine XB.go 2 (pc' := 2) (ls' := [some (.int a0), some (.int a1), some (.int a2)]) (st' := [(.int a1), (.int a0)]) (μ' := μ) rfl ?_
  refine XB.icmpv (P := a0 < a1) rfl rfl rfl (fun c2 => ?_) (fun c2 => ?_)
  · refine XB.go 1 (pc' := 15) (ls' := [some (.int a0), some (.int a1), some (.int a2)]) (st' := [(.int (0 : Int32))]) (μ' := μ) rfl ?_
    exact XB.fin rfl
  · refine XB.go 2 (pc' := 7) (ls' := [some (.int a0), some (.int a1), some (.int a2)]) (st' := [(.int a2), (.int a0)]) (μ' := μ) rfl ?_
    refine XB.icmpv (P := a2 < a0) rfl rfl rfl (fun c7 => ?_) (fun c7 => ?_)
    · refine XB.go 1 (pc' := 15) (ls' := [some (.int a0), some (.int a1), some (.int a2)]) (st' := [(.int (0 : Int32))]) (μ' := μ) rfl ?_
      exact XB.fin rfl
    · refine XB.go 2 (pc' := 15) (ls' := [some (.int a0), some (.int a1), some (.int a2)]) (st' := [(.int (1 : Int32))]) (μ' := μ) rfl ?_
      exact XB.fin rfl
theorem yM_within_01 (a0 : Int32) (a1 : Int32) (a2 : Int32) : x01 (yM_within a0 a1 a2) = true := by
  unfold yM_within
  repeat (first | rfl | (exact rfl) | split)
/-- LogServerModel.fail(I)I -/
def yM_fail (a1 : Int32) (μ : XMu) : XRes := some (.inl (some (.int (0 : Int32))), (μ.1, (xuI μ.2.1 32 0 a1), μ.2.2))
theorem yM_fail_ok {L : Nat} {xs : Nat → Int32} (a1 : Int32) (μ : XMu) : XB L xs 160 0 [some (.ref 32), some (.int a1)] [] μ (yM_fail a1 μ) := by
  unfold yM_fail
  refine XB.go 4 (pc' := 6) (ls' := [some (.ref 32), some (.int a1)]) (st' := [(.int (0 : Int32))]) (μ' := (μ.1, (xuI μ.2.1 32 0 a1), μ.2.2)) rfl ?_
  exact XB.fin rfl
/-- LogServerModel.has(II)Z -/
def yM_has (a0 : Int32) (a1 : Int32) : Int32 := (if ¬ ((a0 >>> (a1 &&& 31)) &&& (1 : Int32)) = (1 : Int32) then (0 : Int32) else (1 : Int32))
theorem yM_has_ok {L : Nat} {xs : Nat → Int32} (a0 : Int32) (a1 : Int32) (μ : XMu) : XB L xs 161 0 [some (.int a0), some (.int a1)] [] μ (some (.inl (some (.int (yM_has a0 a1))), μ)) := by
  unfold yM_has
  refine XB.go 6 (pc' := 6) (ls' := [some (.int a0), some (.int a1)]) (st' := [(.int (1 : Int32)), (.int ((a0 >>> (a1 &&& 31)) &&& (1 : Int32)))]) (μ' := μ) rfl ?_
  refine XB.icmpv (P := ¬ ((a0 >>> (a1 &&& 31)) &&& (1 : Int32)) = (1 : Int32)) rfl rfl rfl (fun c6 => ?_) (fun c6 => ?_)
  · refine XB.go 1 (pc' := 14) (ls' := [some (.int a0), some (.int a1)]) (st' := [(.int (0 : Int32))]) (μ' := μ) rfl ?_
    exact XB.fin rfl
  · refine XB.go 2 (pc' := 14) (ls' := [some (.int a0), some (.int a1)]) (st' := [(.int (1 : Int32))]) (μ' := μ) rfl ?_
    exact XB.fin rfl
theorem yM_has_01 (a0 : Int32) (a1 : Int32) : x01 (yM_has a0 a1) = true := by
  unfold yM_has
  repeat (first | rfl | (exact rfl) | split)
/-- LogServerModel.membersAt(I)I -/
def yM_membersAt_b2 (k2 : Int32 → XMu → XRes) (x2 : Int32) (μ : XMu) : XRes := (if x2 ≤ (μ.2.1 32 9) then some (.inl (some (.int x2)), μ) else xgd (xin (x2 - x2 / (512 : Int32) * (512 : Int32)) 512) ((if (μ.2.1 34 ((x2 - x2 / (512 : Int32) * (512 : Int32))).toNatClampNeg) = (1 : Int32) then some (.inl (some (.int x2)), μ) else k2 (x2 + (-1 : Int32)) μ)))
theorem yM_membersAt_b2_ok {L : Nat} {xs : Nat → Int32} (k2 : Int32 → XMu → XRes) (hk2 : ∀ (d1 : Option Int32) (x2 : Int32) (μ : XMu), XB L xs 162 2 [some (.ref 32), (xdl d1), some (.int x2)] [] μ (k2 x2 μ)) (d1 : Option Int32) (x2 : Int32) (μ : XMu) : XB L xs 162 2 [some (.ref 32), (xdl d1), some (.int x2)] [] μ (yM_membersAt_b2 k2 x2 μ) := by
  unfold yM_membersAt_b2
  refine XB.go 3 (pc' := 7) (ls' := [some (.ref 32), (xdl d1), some (.int x2)]) (st' := [(.int (μ.2.1 32 9)), (.int x2)]) (μ' := μ) rfl ?_
  refine XB.icmp (P := x2 ≤ (μ.2.1 32 9)) rfl rfl rfl (fun c7 => ?_) (fun c7 => ?_)
  · refine XB.go 1 (pc' := 31) (ls' := [some (.ref 32), (xdl d1), some (.int x2)]) (st' := [(.int x2)]) (μ' := μ) rfl ?_
    exact XB.fin rfl
  · refine XB.go 5 (pc' := 19) (ls' := [some (.ref 32), (xdl d1), some (.int x2)]) (st' := [(.int (x2 - x2 / (512 : Int32) * (512 : Int32))), (.ref 34)]) (μ' := μ) rfl ?_
    refine XB.gd (pc' := 20) (ls' := [some (.ref 32), (xdl d1), some (.int x2)]) (st' := [(.int (μ.2.1 34 ((x2 - x2 / (512 : Int32) * (512 : Int32))).toNatClampNeg))]) (μ' := μ) rfl rfl rfl (fun hb => xbT hb) ?_
    refine XB.go 1 (pc' := 21) (ls' := [some (.ref 32), (xdl d1), some (.int x2)]) (st' := [(.int (1 : Int32)), (.int (μ.2.1 34 ((x2 - x2 / (512 : Int32) * (512 : Int32))).toNatClampNeg))]) (μ' := μ) rfl ?_
    refine XB.icmp (P := (μ.2.1 34 ((x2 - x2 / (512 : Int32) * (512 : Int32))).toNatClampNeg) = (1 : Int32)) rfl rfl rfl (fun c21 => ?_) (fun c21 => ?_)
    · refine XB.go 1 (pc' := 31) (ls' := [some (.ref 32), (xdl d1), some (.int x2)]) (st' := [(.int x2)]) (μ' := μ) rfl ?_
      exact XB.fin rfl
    · refine XB.go 2 (pc' := 2) (ls' := [some (.ref 32), (xdl d1), some (.int (x2 + (-1 : Int32)))]) (st' := []) (μ' := μ) (by cases d1 <;> rfl) ?_
      exact hk2 (d1) (x2 + (-1 : Int32)) μ
def yM_membersAt_b2_L  : Nat → Int32 → XMu → XRes
  | 0 => fun _ _ => none
  | n + 1 => yM_membersAt_b2 (yM_membersAt_b2_L  n)
theorem yM_membersAt_b2_Lok {L : Nat} {xs : Nat → Int32}  : ∀ (n : Nat) (d1 : Option Int32) (x2 : Int32) (μ : XMu), XB L xs 162 2 [some (.ref 32), (xdl d1), some (.int x2)] [] μ (yM_membersAt_b2_L  n x2 μ) := by
  intro n
  induction n with
  | zero => intro d1 x2 μ r h; cases h
  | succ n ih => intro d1 x2 μ; exact yM_membersAt_b2_ok (yM_membersAt_b2_L  n) ih d1 x2 μ
def yM_membersAt (a1 : Int32) (μ : XMu) : XRes := yM_membersAt_b2_L  1000 a1 μ
theorem yM_membersAt_ok {L : Nat} {xs : Nat → Int32} (a1 : Int32) (μ : XMu) : XB L xs 162 0 [some (.ref 32), some (.int a1), none] [] μ (yM_membersAt a1 μ) := by
  unfold yM_membersAt
  refine XB.go 2 (pc' := 2) (ls' := [some (.ref 32), some (.int a1), some (.int a1)]) (st' := []) (μ' := μ) rfl ?_
  exact yM_membersAt_b2_Lok  1000 (some a1) a1 μ
/-- LogServerModel.codeAt(I)I -/
def yM_codeAt (a1 : Int32) (μ : XMu) : XRes := xbi (yM_membersAt a1 μ) (fun r2 m1 => (if ¬ r2 = (m1.2.1 32 9) then xgd (xin (r2 - r2 / (512 : Int32) * (512 : Int32)) 512) (some (.inl (some (.int (m1.2.1 35 ((r2 - r2 / (512 : Int32) * (512 : Int32))).toNatClampNeg))), m1)) else some (.inl (some (.int (m1.2.1 32 12))), m1)))
theorem yM_codeAt_ok {L : Nat} {xs : Nat → Int32} (a1 : Int32) (μ : XMu) : XB L xs 163 0 [some (.ref 32), some (.int a1), none] [] μ (yM_codeAt a1 μ) := by
  unfold yM_codeAt
  refine XB.go 2 (pc' := 2) (ls' := [some (.ref 32), some (.int a1), none]) (st' := [(.int a1), (.ref 32)]) (μ' := μ) rfl ?_
  refine XB.ci rfl rfl rfl rfl rfl (yM_membersAt_ok a1 μ) (fun r2 m1 => ?_)
  refine XB.go 4 (pc' := 11) (ls' := [some (.ref 32), some (.int a1), some (.int r2)]) (st' := [(.int (m1.2.1 32 9)), (.int r2)]) (μ' := m1) rfl ?_
  refine XB.icmp (P := ¬ r2 = (m1.2.1 32 9)) rfl rfl rfl (fun c11 => ?_) (fun c11 => ?_)
  · refine XB.go 5 (pc' := 30) (ls' := [some (.ref 32), some (.int a1), some (.int r2)]) (st' := [(.int (r2 - r2 / (512 : Int32) * (512 : Int32))), (.ref 35)]) (μ' := m1) rfl ?_
    refine XB.gd (pc' := 31) (ls' := [some (.ref 32), some (.int a1), some (.int r2)]) (st' := [(.int (m1.2.1 35 ((r2 - r2 / (512 : Int32) * (512 : Int32))).toNatClampNeg))]) (μ' := m1) rfl rfl rfl (fun hb => xbT hb) ?_
    exact XB.fin rfl
  · refine XB.go 3 (pc' := 31) (ls' := [some (.ref 32), some (.int a1), some (.int r2)]) (st' := [(.int (m1.2.1 32 12))]) (μ' := m1) rfl ?_
    exact XB.fin rfl
/-- LogServerModel.code()I -/
def yM_code  (μ : XMu) : XRes := xbi (yM_codeAt (μ.2.1 32 10) μ) (fun r2 m1 => some (.inl (some (.int r2)), m1))
theorem yM_code_ok {L : Nat} {xs : Nat → Int32}  (μ : XMu) : XB L xs 164 0 [some (.ref 32)] [] μ (yM_code  μ) := by
  unfold yM_code
  refine XB.go 3 (pc' := 5) (ls' := [some (.ref 32)]) (st' := [(.int (μ.2.1 32 10)), (.ref 32)]) (μ' := μ) rfl ?_
  refine XB.ci rfl rfl rfl rfl rfl (yM_codeAt_ok (μ.2.1 32 10) μ) (fun r2 m1 => ?_)
  exact XB.fin rfl
/-- LogServerModel.old(I)I -/
def yM_old (a0 : Int32) : Int32 := (a0 &&& (127 : Int32))
theorem yM_old_ok {L : Nat} {xs : Nat → Int32} (a0 : Int32) (μ : XMu) : XB L xs 165 0 [some (.int a0)] [] μ (some (.inl (some (.int (yM_old a0))), μ)) := by
  unfold yM_old
  refine XB.go 3 (pc' := 4) (ls' := [some (.int a0)]) (st' := [(.int (a0 &&& (127 : Int32)))]) (μ' := μ) rfl ?_
  exact XB.fin rfl
/-- LogServerModel.fresh(I)I -/
def yM_fresh (a0 : Int32) : Int32 := ((a0 >>> ((7 : Int32) &&& 31)) &&& (127 : Int32))
theorem yM_fresh_ok {L : Nat} {xs : Nat → Int32} (a0 : Int32) (μ : XMu) : XB L xs 166 0 [some (.int a0)] [] μ (some (.inl (some (.int (yM_fresh a0))), μ)) := by
  unfold yM_fresh
  refine XB.go 5 (pc' := 7) (ls' := [some (.int a0)]) (st' := [(.int ((a0 >>> ((7 : Int32) &&& 31)) &&& (127 : Int32)))]) (μ' := μ) rfl ?_
  exact XB.fin rfl
/-- LogServerModel.bits(I)I -/
def yM_bits_b4 (k4 : Int32 → Int32 → Int32 → XMu → XRes) (x0 : Int32) (x1 : Int32) (x2 : Int32) (μ : XMu) : XRes := (if (7 : Int32) ≤ x2 then some (.inl (some (.int x1)), μ) else k4 x0 (x1 + ((x0 >>> (x2 &&& 31)) &&& (1 : Int32))) (x2 + (1 : Int32)) μ)
theorem yM_bits_b4_ok {L : Nat} {xs : Nat → Int32} (k4 : Int32 → Int32 → Int32 → XMu → XRes) (hk4 : ∀  (x0 : Int32) (x1 : Int32) (x2 : Int32) (μ : XMu), XB L xs 167 4 [some (.int x0), some (.int x1), some (.int x2)] [] μ (k4 x0 x1 x2 μ))  (x0 : Int32) (x1 : Int32) (x2 : Int32) (μ : XMu) : XB L xs 167 4 [some (.int x0), some (.int x1), some (.int x2)] [] μ (yM_bits_b4 k4 x0 x1 x2 μ) := by
  unfold yM_bits_b4
  refine XB.go 2 (pc' := 7) (ls' := [some (.int x0), some (.int x1), some (.int x2)]) (st' := [(.int (7 : Int32)), (.int x2)]) (μ' := μ) rfl ?_
  refine XB.icmp (P := (7 : Int32) ≤ x2) rfl rfl rfl (fun c7 => ?_) (fun c7 => ?_)
  · refine XB.go 1 (pc' := 25) (ls' := [some (.int x0), some (.int x1), some (.int x2)]) (st' := [(.int x1)]) (μ' := μ) rfl ?_
    exact XB.fin rfl
  · refine XB.go 10 (pc' := 4) (ls' := [some (.int x0), some (.int (x1 + ((x0 >>> (x2 &&& 31)) &&& (1 : Int32)))), some (.int (x2 + (1 : Int32)))]) (st' := []) (μ' := μ) rfl ?_
    exact hk4  x0 (x1 + ((x0 >>> (x2 &&& 31)) &&& (1 : Int32))) (x2 + (1 : Int32)) μ
def yM_bits_b4_L  : Nat → Int32 → Int32 → Int32 → XMu → XRes
  | 0 => fun _ _ _ _ => none
  | n + 1 => yM_bits_b4 (yM_bits_b4_L  n)
theorem yM_bits_b4_Lok {L : Nat} {xs : Nat → Int32}  : ∀ (n : Nat)  (x0 : Int32) (x1 : Int32) (x2 : Int32) (μ : XMu), XB L xs 167 4 [some (.int x0), some (.int x1), some (.int x2)] [] μ (yM_bits_b4_L  n x0 x1 x2 μ) := by
  intro n
  induction n with
  | zero => intro  x0 x1 x2 μ r h; cases h
  | succ n ih => intro  x0 x1 x2 μ; exact yM_bits_b4_ok (yM_bits_b4_L  n) ih  x0 x1 x2 μ
def yM_bits (a0 : Int32) (μ : XMu) : XRes := yM_bits_b4_L  1000 a0 (0 : Int32) (0 : Int32) μ
theorem yM_bits_ok {L : Nat} {xs : Nat → Int32} (a0 : Int32) (μ : XMu) : XB L xs 167 0 [some (.int a0), none, none] [] μ (yM_bits a0 μ) := by
  unfold yM_bits
  refine XB.go 4 (pc' := 4) (ls' := [some (.int a0), some (.int (0 : Int32)), some (.int (0 : Int32))]) (st' := []) (μ' := μ) rfl ?_
  exact yM_bits_b4_Lok  1000  a0 (0 : Int32) (0 : Int32) μ
/-- LogServerModel.majority(I)Z -/
def yM_majority (a1 : Int32) (μ : XMu) : XRes := xbi (yM_code μ) (fun r2 m1 => xbi (yM_code m1) (fun r4 m3 => xbi (yM_bits (a1 &&& (yM_old r2)) m3) (fun r6 m5 => xbi (yM_bits (yM_old r2) m5) (fun r8 m7 => (if ((2 : Int32) * r6) ≤ r8 then some (.inl (some (.int (0 : Int32))), m7) else (if (yM_fresh r4) = (0 : Int32) then some (.inl (some (.int (1 : Int32))), m7) else xbi (yM_bits (a1 &&& (yM_fresh r4)) m7) (fun r10 m9 => xbi (yM_bits (yM_fresh r4) m9) (fun r12 m11 => (if ((2 : Int32) * r10) ≤ r12 then some (.inl (some (.int (0 : Int32))), m11) else some (.inl (some (.int (1 : Int32))), m11))))))))))
theorem yM_majority_ok {L : Nat} {xs : Nat → Int32} (a1 : Int32) (μ : XMu) : XB L xs 168 0 [some (.ref 32), some (.int a1), none, none] [] μ (yM_majority a1 μ) := by
  unfold yM_majority
  refine XB.go 1 (pc' := 1) (ls' := [some (.ref 32), some (.int a1), none, none]) (st' := [(.ref 32)]) (μ' := μ) rfl ?_
  refine XB.ci rfl rfl rfl rfl rfl (yM_code_ok μ) (fun r2 m1 => ?_)
  refine XB.cp rfl rfl rfl (yM_old_ok r2 m1) ?_
  refine XB.go 2 (pc' := 9) (ls' := [some (.ref 32), some (.int a1), some (.int (yM_old r2)), none]) (st' := [(.ref 32)]) (μ' := m1) rfl ?_
  refine XB.ci rfl rfl rfl rfl rfl (yM_code_ok m1) (fun r4 m3 => ?_)
  refine XB.cp rfl rfl rfl (yM_fresh_ok r4 m3) ?_
  refine XB.go 5 (pc' := 20) (ls' := [some (.ref 32), some (.int a1), some (.int (yM_old r2)), some (.int (yM_fresh r4))]) (st' := [(.int (a1 &&& (yM_old r2))), (.int (2 : Int32))]) (μ' := m3) rfl ?_
  refine XB.ci rfl rfl rfl rfl rfl (yM_bits_ok (a1 &&& (yM_old r2)) m3) (fun r6 m5 => ?_)
  refine XB.go 2 (pc' := 25) (ls' := [some (.ref 32), some (.int a1), some (.int (yM_old r2)), some (.int (yM_fresh r4))]) (st' := [(.int (yM_old r2)), (.int ((2 : Int32) * r6))]) (μ' := m5) rfl ?_
  refine XB.ci rfl rfl rfl rfl rfl (yM_bits_ok (yM_old r2) m5) (fun r8 m7 => ?_)
  refine XB.icmp (P := ((2 : Int32) * r6) ≤ r8) rfl rfl rfl (fun c28 => ?_) (fun c28 => ?_)
  · refine XB.go 1 (pc' := 55) (ls' := [some (.ref 32), some (.int a1), some (.int (yM_old r2)), some (.int (yM_fresh r4))]) (st' := [(.int (0 : Int32))]) (μ' := m7) rfl ?_
    exact XB.fin rfl
  · refine XB.go 1 (pc' := 32) (ls' := [some (.ref 32), some (.int a1), some (.int (yM_old r2)), some (.int (yM_fresh r4))]) (st' := [(.int (yM_fresh r4))]) (μ' := m7) rfl ?_
    refine XB.ifz (P := (yM_fresh r4) = (0 : Int32)) rfl rfl rfl (fun c32 => ?_) (fun c32 => ?_)
    · refine XB.go 2 (pc' := 55) (ls' := [some (.ref 32), some (.int a1), some (.int (yM_old r2)), some (.int (yM_fresh r4))]) (st' := [(.int (1 : Int32))]) (μ' := m7) rfl ?_
      exact XB.fin rfl
    · refine XB.go 4 (pc' := 39) (ls' := [some (.ref 32), some (.int a1), some (.int (yM_old r2)), some (.int (yM_fresh r4))]) (st' := [(.int (a1 &&& (yM_fresh r4))), (.int (2 : Int32))]) (μ' := m7) rfl ?_
      refine XB.ci rfl rfl rfl rfl rfl (yM_bits_ok (a1 &&& (yM_fresh r4)) m7) (fun r10 m9 => ?_)
      refine XB.go 2 (pc' := 44) (ls' := [some (.ref 32), some (.int a1), some (.int (yM_old r2)), some (.int (yM_fresh r4))]) (st' := [(.int (yM_fresh r4)), (.int ((2 : Int32) * r10))]) (μ' := m9) rfl ?_
      refine XB.ci rfl rfl rfl rfl rfl (yM_bits_ok (yM_fresh r4) m9) (fun r12 m11 => ?_)
      refine XB.icmp (P := ((2 : Int32) * r10) ≤ r12) rfl rfl rfl (fun c47 => ?_) (fun c47 => ?_)
      · refine XB.go 1 (pc' := 55) (ls' := [some (.ref 32), some (.int a1), some (.int (yM_old r2)), some (.int (yM_fresh r4))]) (st' := [(.int (0 : Int32))]) (μ' := m11) rfl ?_
        exact XB.fin rfl
      · refine XB.go 2 (pc' := 55) (ls' := [some (.ref 32), some (.int a1), some (.int (yM_old r2)), some (.int (yM_fresh r4))]) (st' := [(.int (1 : Int32))]) (μ' := m11) rfl ?_
        exact XB.fin rfl
/-- LogServerModel.agreed(I)I -/
def yM_agreed_b89 (k4 : Int32 → Int32 → Int32 → XMu → XRes) (x1 : Int32) (x2 : Int32) (x3 : Int32) (x4 : Int32) (μ : XMu) : XRes := xbi (yM_majority x3 μ) (fun r2 m1 => (if r2 = (0 : Int32) then k4 x1 x2 (x3 + (1 : Int32)) m1 else (if x4 ≤ x2 then k4 x1 x2 (x3 + (1 : Int32)) m1 else k4 x1 x4 (x3 + (1 : Int32)) m1)))
theorem yM_agreed_b89_ok {L : Nat} {xs : Nat → Int32} (k4 : Int32 → Int32 → Int32 → XMu → XRes) (hk4 : ∀ (d4 : Option Int32) (d5 : Option Int32) (d6 : Option Int32) (x1 : Int32) (x2 : Int32) (x3 : Int32) (μ : XMu), XB L xs 169 4 [some (.ref 32), some (.int x1), some (.int x2), some (.int x3), (xdl d4), (xdl d5), (xdl d6)] [] μ (k4 x1 x2 x3 μ)) (d5 : Option Int32) (d6 : Option Int32) (x1 : Int32) (x2 : Int32) (x3 : Int32) (x4 : Int32) (μ : XMu) : XB L xs 169 89 [some (.ref 32), some (.int x1), some (.int x2), some (.int x3), some (.int x4), (xdl d5), (xdl d6)] [] μ (yM_agreed_b89 k4 x1 x2 x3 x4 μ) := by
  unfold yM_agreed_b89
  refine XB.go 2 (pc' := 91) (ls' := [some (.ref 32), some (.int x1), some (.int x2), some (.int x3), some (.int x4), (xdl d5), (xdl d6)]) (st' := [(.int x3), (.ref 32)]) (μ' := μ) rfl ?_
  refine XB.ci rfl rfl rfl rfl rfl (yM_majority_ok x3 μ) (fun r2 m1 => ?_)
  refine XB.ifz (P := r2 = (0 : Int32)) rfl rfl rfl (fun c94 => ?_) (fun c94 => ?_)
  · refine XB.go 2 (pc' := 4) (ls' := [some (.ref 32), some (.int x1), some (.int x2), some (.int (x3 + (1 : Int32))), some (.int x4), (xdl d5), (xdl d6)]) (st' := []) (μ' := m1) rfl ?_
    exact hk4 (some x4) (d5) (d6) x1 x2 (x3 + (1 : Int32)) m1
  · refine XB.go 2 (pc' := 100) (ls' := [some (.ref 32), some (.int x1), some (.int x2), some (.int x3), some (.int x4), (xdl d5), (xdl d6)]) (st' := [(.int x2), (.int x4)]) (μ' := m1) rfl ?_
    refine XB.icmp (P := x4 ≤ x2) rfl rfl rfl (fun c100 => ?_) (fun c100 => ?_)
    · refine XB.go 2 (pc' := 4) (ls' := [some (.ref 32), some (.int x1), some (.int x2), some (.int (x3 + (1 : Int32))), some (.int x4), (xdl d5), (xdl d6)]) (st' := []) (μ' := m1) rfl ?_
      exact hk4 (some x4) (d5) (d6) x1 x2 (x3 + (1 : Int32)) m1
    · refine XB.go 4 (pc' := 4) (ls' := [some (.ref 32), some (.int x1), some (.int x4), some (.int (x3 + (1 : Int32))), some (.int x4), (xdl d5), (xdl d6)]) (st' := []) (μ' := m1) rfl ?_
      exact hk4 (some x4) (d5) (d6) x1 x4 (x3 + (1 : Int32)) m1
def yM_agreed_b18 (k4 : Int32 → Int32 → Int32 → XMu → XRes) (k18 : Int32 → Int32 → Int32 → Int32 → Int32 → XMu → XRes) (x1 : Int32) (x2 : Int32) (x3 : Int32) (x4 : Int32) (x5 : Int32) (μ : XMu) : XRes := (if (7 : Int32) ≤ x5 then yM_agreed_b89 k4 x1 x2 x3 x4 μ else (if ¬ x1 = (0 : Int32) then (if ¬ x1 = (1 : Int32) then xgd (xin x5 7) ((if (yM_has x3 x5) = (0 : Int32) then k18 x1 x2 x3 x4 (x5 + (1 : Int32)) μ else (if x4 ≤ (μ.2.1 40 (x5).toNatClampNeg) then k18 x1 x2 x3 x4 (x5 + (1 : Int32)) μ else k18 x1 x2 x3 (μ.2.1 40 (x5).toNatClampNeg) (x5 + (1 : Int32)) μ))) else xgd (xin x5 7) ((if (yM_has x3 x5) = (0 : Int32) then k18 x1 x2 x3 x4 (x5 + (1 : Int32)) μ else (if x4 ≤ (μ.2.1 41 (x5).toNatClampNeg) then k18 x1 x2 x3 x4 (x5 + (1 : Int32)) μ else k18 x1 x2 x3 (μ.2.1 41 (x5).toNatClampNeg) (x5 + (1 : Int32)) μ)))) else xgd (xin x5 7) ((if (yM_has x3 x5) = (0 : Int32) then k18 x1 x2 x3 x4 (x5 + (1 : Int32)) μ else (if x4 ≤ (μ.2.1 37 (x5).toNatClampNeg) then k18 x1 x2 x3 x4 (x5 + (1 : Int32)) μ else k18 x1 x2 x3 (μ.2.1 37 (x5).toNatClampNeg) (x5 + (1 : Int32)) μ)))))
theorem yM_agreed_b18_ok {L : Nat} {xs : Nat → Int32} (k4 : Int32 → Int32 → Int32 → XMu → XRes) (hk4 : ∀ (d4 : Option Int32) (d5 : Option Int32) (d6 : Option Int32) (x1 : Int32) (x2 : Int32) (x3 : Int32) (μ : XMu), XB L xs 169 4 [some (.ref 32), some (.int x1), some (.int x2), some (.int x3), (xdl d4), (xdl d5), (xdl d6)] [] μ (k4 x1 x2 x3 μ)) (k18 : Int32 → Int32 → Int32 → Int32 → Int32 → XMu → XRes) (hk18 : ∀ (d6 : Option Int32) (x1 : Int32) (x2 : Int32) (x3 : Int32) (x4 : Int32) (x5 : Int32) (μ : XMu), XB L xs 169 18 [some (.ref 32), some (.int x1), some (.int x2), some (.int x3), some (.int x4), some (.int x5), (xdl d6)] [] μ (k18 x1 x2 x3 x4 x5 μ)) (d6 : Option Int32) (x1 : Int32) (x2 : Int32) (x3 : Int32) (x4 : Int32) (x5 : Int32) (μ : XMu) : XB L xs 169 18 [some (.ref 32), some (.int x1), some (.int x2), some (.int x3), some (.int x4), some (.int x5), (xdl d6)] [] μ (yM_agreed_b18 k4 k18 x1 x2 x3 x4 x5 μ) := by
  unfold yM_agreed_b18
  refine XB.go 2 (pc' := 22) (ls' := [some (.ref 32), some (.int x1), some (.int x2), some (.int x3), some (.int x4), some (.int x5), (xdl d6)]) (st' := [(.int (7 : Int32)), (.int x5)]) (μ' := μ) rfl ?_
  refine XB.icmp (P := (7 : Int32) ≤ x5) rfl rfl rfl (fun c22 => ?_) (fun c22 => ?_)
  · exact yM_agreed_b89_ok k4 hk4 (some x5) (d6) x1 x2 x3 x4 μ
  · refine XB.go 1 (pc' := 26) (ls' := [some (.ref 32), some (.int x1), some (.int x2), some (.int x3), some (.int x4), some (.int x5), (xdl d6)]) (st' := [(.int x1)]) (μ' := μ) rfl ?_
    refine XB.ifz (P := ¬ x1 = (0 : Int32)) rfl rfl rfl (fun c26 => ?_) (fun c26 => ?_)
    · refine XB.go 2 (pc' := 41) (ls' := [some (.ref 32), some (.int x1), some (.int x2), some (.int x3), some (.int x4), some (.int x5), (xdl d6)]) (st' := [(.int (1 : Int32)), (.int x1)]) (μ' := μ) rfl ?_
      refine XB.icmp (P := ¬ x1 = (1 : Int32)) rfl rfl rfl (fun c41 => ?_) (fun c41 => ?_)
      · refine XB.go 3 (pc' := 60) (ls' := [some (.ref 32), some (.int x1), some (.int x2), some (.int x3), some (.int x4), some (.int x5), (xdl d6)]) (st' := [(.int x5), (.ref 40)]) (μ' := μ) rfl ?_
        refine XB.gd (pc' := 61) (ls' := [some (.ref 32), some (.int x1), some (.int x2), some (.int x3), some (.int x4), some (.int x5), (xdl d6)]) (st' := [(.int (μ.2.1 40 (x5).toNatClampNeg))]) (μ' := μ) rfl rfl rfl (fun hb => xbT hb) ?_
        refine XB.go 3 (pc' := 66) (ls' := [some (.ref 32), some (.int x1), some (.int x2), some (.int x3), some (.int x4), some (.int x5), some (.int (μ.2.1 40 (x5).toNatClampNeg))]) (st' := [(.int x5), (.int x3)]) (μ' := μ) rfl ?_
        refine XB.cp rfl rfl rfl (yM_has_ok x3 x5 μ) ?_
        refine XB.ifz (P := (yM_has x3 x5) = (0 : Int32)) rfl rfl rfl (fun c69 => ?_) (fun c69 => ?_)
        · refine XB.go 2 (pc' := 18) (ls' := [some (.ref 32), some (.int x1), some (.int x2), some (.int x3), some (.int x4), some (.int (x5 + (1 : Int32))), some (.int (μ.2.1 40 (x5).toNatClampNeg))]) (st' := []) (μ' := μ) rfl ?_
          exact hk18 (some (μ.2.1 40 (x5).toNatClampNeg)) x1 x2 x3 x4 (x5 + (1 : Int32)) μ
        · refine XB.go 2 (pc' := 76) (ls' := [some (.ref 32), some (.int x1), some (.int x2), some (.int x3), some (.int x4), some (.int x5), some (.int (μ.2.1 40 (x5).toNatClampNeg))]) (st' := [(.int x4), (.int (μ.2.1 40 (x5).toNatClampNeg))]) (μ' := μ) rfl ?_
          refine XB.icmp (P := x4 ≤ (μ.2.1 40 (x5).toNatClampNeg)) rfl rfl rfl (fun c76 => ?_) (fun c76 => ?_)
          · refine XB.go 2 (pc' := 18) (ls' := [some (.ref 32), some (.int x1), some (.int x2), some (.int x3), some (.int x4), some (.int (x5 + (1 : Int32))), some (.int (μ.2.1 40 (x5).toNatClampNeg))]) (st' := []) (μ' := μ) rfl ?_
            exact hk18 (some (μ.2.1 40 (x5).toNatClampNeg)) x1 x2 x3 x4 (x5 + (1 : Int32)) μ
          · refine XB.go 4 (pc' := 18) (ls' := [some (.ref 32), some (.int x1), some (.int x2), some (.int x3), some (.int (μ.2.1 40 (x5).toNatClampNeg)), some (.int (x5 + (1 : Int32))), some (.int (μ.2.1 40 (x5).toNatClampNeg))]) (st' := []) (μ' := μ) rfl ?_
            exact hk18 (some (μ.2.1 40 (x5).toNatClampNeg)) x1 x2 x3 (μ.2.1 40 (x5).toNatClampNeg) (x5 + (1 : Int32)) μ
      · refine XB.go 3 (pc' := 50) (ls' := [some (.ref 32), some (.int x1), some (.int x2), some (.int x3), some (.int x4), some (.int x5), (xdl d6)]) (st' := [(.int x5), (.ref 41)]) (μ' := μ) rfl ?_
        refine XB.gd (pc' := 51) (ls' := [some (.ref 32), some (.int x1), some (.int x2), some (.int x3), some (.int x4), some (.int x5), (xdl d6)]) (st' := [(.int (μ.2.1 41 (x5).toNatClampNeg))]) (μ' := μ) rfl rfl rfl (fun hb => xbT hb) ?_
        refine XB.go 4 (pc' := 66) (ls' := [some (.ref 32), some (.int x1), some (.int x2), some (.int x3), some (.int x4), some (.int x5), some (.int (μ.2.1 41 (x5).toNatClampNeg))]) (st' := [(.int x5), (.int x3)]) (μ' := μ) rfl ?_
        refine XB.cp rfl rfl rfl (yM_has_ok x3 x5 μ) ?_
        refine XB.ifz (P := (yM_has x3 x5) = (0 : Int32)) rfl rfl rfl (fun c69 => ?_) (fun c69 => ?_)
        · refine XB.go 2 (pc' := 18) (ls' := [some (.ref 32), some (.int x1), some (.int x2), some (.int x3), some (.int x4), some (.int (x5 + (1 : Int32))), some (.int (μ.2.1 41 (x5).toNatClampNeg))]) (st' := []) (μ' := μ) rfl ?_
          exact hk18 (some (μ.2.1 41 (x5).toNatClampNeg)) x1 x2 x3 x4 (x5 + (1 : Int32)) μ
        · refine XB.go 2 (pc' := 76) (ls' := [some (.ref 32), some (.int x1), some (.int x2), some (.int x3), some (.int x4), some (.int x5), some (.int (μ.2.1 41 (x5).toNatClampNeg))]) (st' := [(.int x4), (.int (μ.2.1 41 (x5).toNatClampNeg))]) (μ' := μ) rfl ?_
          refine XB.icmp (P := x4 ≤ (μ.2.1 41 (x5).toNatClampNeg)) rfl rfl rfl (fun c76 => ?_) (fun c76 => ?_)
          · refine XB.go 2 (pc' := 18) (ls' := [some (.ref 32), some (.int x1), some (.int x2), some (.int x3), some (.int x4), some (.int (x5 + (1 : Int32))), some (.int (μ.2.1 41 (x5).toNatClampNeg))]) (st' := []) (μ' := μ) rfl ?_
            exact hk18 (some (μ.2.1 41 (x5).toNatClampNeg)) x1 x2 x3 x4 (x5 + (1 : Int32)) μ
          · refine XB.go 4 (pc' := 18) (ls' := [some (.ref 32), some (.int x1), some (.int x2), some (.int x3), some (.int (μ.2.1 41 (x5).toNatClampNeg)), some (.int (x5 + (1 : Int32))), some (.int (μ.2.1 41 (x5).toNatClampNeg))]) (st' := []) (μ' := μ) rfl ?_
            exact hk18 (some (μ.2.1 41 (x5).toNatClampNeg)) x1 x2 x3 (μ.2.1 41 (x5).toNatClampNeg) (x5 + (1 : Int32)) μ
    · refine XB.go 3 (pc' := 35) (ls' := [some (.ref 32), some (.int x1), some (.int x2), some (.int x3), some (.int x4), some (.int x5), (xdl d6)]) (st' := [(.int x5), (.ref 37)]) (μ' := μ) rfl ?_
      refine XB.gd (pc' := 36) (ls' := [some (.ref 32), some (.int x1), some (.int x2), some (.int x3), some (.int x4), some (.int x5), (xdl d6)]) (st' := [(.int (μ.2.1 37 (x5).toNatClampNeg))]) (μ' := μ) rfl rfl rfl (fun hb => xbT hb) ?_
      refine XB.go 4 (pc' := 66) (ls' := [some (.ref 32), some (.int x1), some (.int x2), some (.int x3), some (.int x4), some (.int x5), some (.int (μ.2.1 37 (x5).toNatClampNeg))]) (st' := [(.int x5), (.int x3)]) (μ' := μ) rfl ?_
      refine XB.cp rfl rfl rfl (yM_has_ok x3 x5 μ) ?_
      refine XB.ifz (P := (yM_has x3 x5) = (0 : Int32)) rfl rfl rfl (fun c69 => ?_) (fun c69 => ?_)
      · refine XB.go 2 (pc' := 18) (ls' := [some (.ref 32), some (.int x1), some (.int x2), some (.int x3), some (.int x4), some (.int (x5 + (1 : Int32))), some (.int (μ.2.1 37 (x5).toNatClampNeg))]) (st' := []) (μ' := μ) rfl ?_
        exact hk18 (some (μ.2.1 37 (x5).toNatClampNeg)) x1 x2 x3 x4 (x5 + (1 : Int32)) μ
      · refine XB.go 2 (pc' := 76) (ls' := [some (.ref 32), some (.int x1), some (.int x2), some (.int x3), some (.int x4), some (.int x5), some (.int (μ.2.1 37 (x5).toNatClampNeg))]) (st' := [(.int x4), (.int (μ.2.1 37 (x5).toNatClampNeg))]) (μ' := μ) rfl ?_
        refine XB.icmp (P := x4 ≤ (μ.2.1 37 (x5).toNatClampNeg)) rfl rfl rfl (fun c76 => ?_) (fun c76 => ?_)
        · refine XB.go 2 (pc' := 18) (ls' := [some (.ref 32), some (.int x1), some (.int x2), some (.int x3), some (.int x4), some (.int (x5 + (1 : Int32))), some (.int (μ.2.1 37 (x5).toNatClampNeg))]) (st' := []) (μ' := μ) rfl ?_
          exact hk18 (some (μ.2.1 37 (x5).toNatClampNeg)) x1 x2 x3 x4 (x5 + (1 : Int32)) μ
        · refine XB.go 4 (pc' := 18) (ls' := [some (.ref 32), some (.int x1), some (.int x2), some (.int x3), some (.int (μ.2.1 37 (x5).toNatClampNeg)), some (.int (x5 + (1 : Int32))), some (.int (μ.2.1 37 (x5).toNatClampNeg))]) (st' := []) (μ' := μ) rfl ?_
          exact hk18 (some (μ.2.1 37 (x5).toNatClampNeg)) x1 x2 x3 (μ.2.1 37 (x5).toNatClampNeg) (x5 + (1 : Int32)) μ
def yM_agreed_b18_L (k4 : Int32 → Int32 → Int32 → XMu → XRes) : Nat → Int32 → Int32 → Int32 → Int32 → Int32 → XMu → XRes
  | 0 => fun _ _ _ _ _ _ => none
  | n + 1 => yM_agreed_b18 k4 (yM_agreed_b18_L k4 n)
theorem yM_agreed_b18_Lok {L : Nat} {xs : Nat → Int32} (k4 : Int32 → Int32 → Int32 → XMu → XRes) (hk4 : ∀ (d4 : Option Int32) (d5 : Option Int32) (d6 : Option Int32) (x1 : Int32) (x2 : Int32) (x3 : Int32) (μ : XMu), XB L xs 169 4 [some (.ref 32), some (.int x1), some (.int x2), some (.int x3), (xdl d4), (xdl d5), (xdl d6)] [] μ (k4 x1 x2 x3 μ)) : ∀ (n : Nat) (d6 : Option Int32) (x1 : Int32) (x2 : Int32) (x3 : Int32) (x4 : Int32) (x5 : Int32) (μ : XMu), XB L xs 169 18 [some (.ref 32), some (.int x1), some (.int x2), some (.int x3), some (.int x4), some (.int x5), (xdl d6)] [] μ (yM_agreed_b18_L k4 n x1 x2 x3 x4 x5 μ) := by
  intro n
  induction n with
  | zero => intro d6 x1 x2 x3 x4 x5 μ r h; cases h
  | succ n ih => intro d6 x1 x2 x3 x4 x5 μ; exact yM_agreed_b18_ok k4 hk4 (yM_agreed_b18_L k4 n) ih d6 x1 x2 x3 x4 x5 μ
def yM_agreed_b4 (k4 : Int32 → Int32 → Int32 → XMu → XRes) (x1 : Int32) (x2 : Int32) (x3 : Int32) (μ : XMu) : XRes := (if (128 : Int32) ≤ x3 then some (.inl (some (.int x2)), μ) else yM_agreed_b18_L k4 1000 x1 x2 x3 (2000000000 : Int32) (0 : Int32) μ)
theorem yM_agreed_b4_ok {L : Nat} {xs : Nat → Int32} (k4 : Int32 → Int32 → Int32 → XMu → XRes) (hk4 : ∀ (d4 : Option Int32) (d5 : Option Int32) (d6 : Option Int32) (x1 : Int32) (x2 : Int32) (x3 : Int32) (μ : XMu), XB L xs 169 4 [some (.ref 32), some (.int x1), some (.int x2), some (.int x3), (xdl d4), (xdl d5), (xdl d6)] [] μ (k4 x1 x2 x3 μ)) (d4 : Option Int32) (d5 : Option Int32) (d6 : Option Int32) (x1 : Int32) (x2 : Int32) (x3 : Int32) (μ : XMu) : XB L xs 169 4 [some (.ref 32), some (.int x1), some (.int x2), some (.int x3), (xdl d4), (xdl d5), (xdl d6)] [] μ (yM_agreed_b4 k4 x1 x2 x3 μ) := by
  unfold yM_agreed_b4
  refine XB.go 2 (pc' := 8) (ls' := [some (.ref 32), some (.int x1), some (.int x2), some (.int x3), (xdl d4), (xdl d5), (xdl d6)]) (st' := [(.int (128 : Int32)), (.int x3)]) (μ' := μ) rfl ?_
  refine XB.icmp (P := (128 : Int32) ≤ x3) rfl rfl rfl (fun c8 => ?_) (fun c8 => ?_)
  · refine XB.go 1 (pc' := 113) (ls' := [some (.ref 32), some (.int x1), some (.int x2), some (.int x3), (xdl d4), (xdl d5), (xdl d6)]) (st' := [(.int x2)]) (μ' := μ) rfl ?_
    exact XB.fin rfl
  · refine XB.go 4 (pc' := 18) (ls' := [some (.ref 32), some (.int x1), some (.int x2), some (.int x3), some (.int (2000000000 : Int32)), some (.int (0 : Int32)), (xdl d6)]) (st' := []) (μ' := μ) rfl ?_
    exact yM_agreed_b18_Lok k4 hk4 1000 (d6) x1 x2 x3 (2000000000 : Int32) (0 : Int32) μ
def yM_agreed_b4_L  : Nat → Int32 → Int32 → Int32 → XMu → XRes
  | 0 => fun _ _ _ _ => none
  | n + 1 => yM_agreed_b4 (yM_agreed_b4_L  n)
theorem yM_agreed_b4_Lok {L : Nat} {xs : Nat → Int32}  : ∀ (n : Nat) (d4 : Option Int32) (d5 : Option Int32) (d6 : Option Int32) (x1 : Int32) (x2 : Int32) (x3 : Int32) (μ : XMu), XB L xs 169 4 [some (.ref 32), some (.int x1), some (.int x2), some (.int x3), (xdl d4), (xdl d5), (xdl d6)] [] μ (yM_agreed_b4_L  n x1 x2 x3 μ) := by
  intro n
  induction n with
  | zero => intro d4 d5 d6 x1 x2 x3 μ r h; cases h
  | succ n ih => intro d4 d5 d6 x1 x2 x3 μ; exact yM_agreed_b4_ok (yM_agreed_b4_L  n) ih d4 d5 d6 x1 x2 x3 μ
def yM_agreed (a1 : Int32) (μ : XMu) : XRes := yM_agreed_b4_L  1000 a1 (0 : Int32) (1 : Int32) μ
theorem yM_agreed_ok {L : Nat} {xs : Nat → Int32} (a1 : Int32) (μ : XMu) : XB L xs 169 0 [some (.ref 32), some (.int a1), none, none, none, none, none] [] μ (yM_agreed a1 μ) := by
  unfold yM_agreed
  refine XB.go 4 (pc' := 4) (ls' := [some (.ref 32), some (.int a1), some (.int (0 : Int32)), some (.int (1 : Int32)), none, none, none]) (st' := []) (μ' := μ) rfl ?_
  exact yM_agreed_b4_Lok  1000 (none) (none) (none) a1 (0 : Int32) (1 : Int32) μ
/-- LogServerModel.callWaits(I)Z -/
def yM_callWaits (a1 : Int32) (μ : XMu) : XRes := (if (μ.2.1 32 55) ≤ a1 then some (.inl (some (.int (0 : Int32))), μ) else xgd (xin a1 32) ((if ¬ (μ.2.1 52 (a1).toNatClampNeg) = (0 : Int32) then some (.inl (some (.int (0 : Int32))), μ) else some (.inl (some (.int (1 : Int32))), μ))))
theorem yM_callWaits_ok {L : Nat} {xs : Nat → Int32} (a1 : Int32) (μ : XMu) : XB L xs 170 0 [some (.ref 32), some (.int a1)] [] μ (yM_callWaits a1 μ) := by
  unfold yM_callWaits
  refine XB.go 3 (pc' := 5) (ls' := [some (.ref 32), some (.int a1)]) (st' := [(.int (μ.2.1 32 55)), (.int a1)]) (μ' := μ) rfl ?_
  refine XB.icmp (P := (μ.2.1 32 55) ≤ a1) rfl rfl rfl (fun c5 => ?_) (fun c5 => ?_)
  · refine XB.go 1 (pc' := 22) (ls' := [some (.ref 32), some (.int a1)]) (st' := [(.int (0 : Int32))]) (μ' := μ) rfl ?_
    exact XB.fin rfl
  · refine XB.go 3 (pc' := 13) (ls' := [some (.ref 32), some (.int a1)]) (st' := [(.int a1), (.ref 52)]) (μ' := μ) rfl ?_
    refine XB.gd (pc' := 14) (ls' := [some (.ref 32), some (.int a1)]) (st' := [(.int (μ.2.1 52 (a1).toNatClampNeg))]) (μ' := μ) rfl rfl rfl (fun hb => xbT hb) ?_
    refine XB.ifz (P := ¬ (μ.2.1 52 (a1).toNatClampNeg) = (0 : Int32)) rfl rfl rfl (fun c14 => ?_) (fun c14 => ?_)
    · refine XB.go 1 (pc' := 22) (ls' := [some (.ref 32), some (.int a1)]) (st' := [(.int (0 : Int32))]) (μ' := μ) rfl ?_
      exact XB.fin rfl
    · refine XB.go 2 (pc' := 22) (ls' := [some (.ref 32), some (.int a1)]) (st' := [(.int (1 : Int32))]) (μ' := μ) rfl ?_
      exact XB.fin rfl
/-- LogServerModel.settle(IZ)V -/
def yM_settle (a1 : Int32) (a2 : Int32) (μ : XMu) : XRes := (if a2 = (0 : Int32) then xgd (xin a1 32) (some (.inl none, (μ.1, (xuI μ.2.1 52 (a1).toNatClampNeg (2 : Int32)), μ.2.2))) else xgd (xin a1 32) (some (.inl none, (μ.1, (xuI μ.2.1 52 (a1).toNatClampNeg (1 : Int32)), μ.2.2))))
theorem yM_settle_ok {L : Nat} {xs : Nat → Int32} (a1 : Int32) (a2 : Int32) (μ : XMu) : XB L xs 171 0 [some (.ref 32), some (.int a1), some (.int a2)] [] μ (yM_settle a1 a2 μ) := by
  unfold yM_settle
  refine XB.go 4 (pc' := 6) (ls' := [some (.ref 32), some (.int a1), some (.int a2)]) (st' := [(.int a2), (.int a1), (.ref 52)]) (μ' := μ) rfl ?_
  refine XB.ifz (P := a2 = (0 : Int32)) rfl rfl rfl (fun c6 => ?_) (fun c6 => ?_)
  · refine XB.go 1 (pc' := 14) (ls' := [some (.ref 32), some (.int a1), some (.int a2)]) (st' := [(.int (2 : Int32)), (.int a1), (.ref 52)]) (μ' := μ) rfl ?_
    refine XB.gd (pc' := 15) (ls' := [some (.ref 32), some (.int a1), some (.int a2)]) (st' := []) (μ' := (μ.1, (xuI μ.2.1 52 (a1).toNatClampNeg (2 : Int32)), μ.2.2)) rfl rfl rfl (fun hb => xbT hb) ?_
    exact XB.fin rfl
  · refine XB.go 2 (pc' := 14) (ls' := [some (.ref 32), some (.int a1), some (.int a2)]) (st' := [(.int (1 : Int32)), (.int a1), (.ref 52)]) (μ' := μ) rfl ?_
    refine XB.gd (pc' := 15) (ls' := [some (.ref 32), some (.int a1), some (.int a2)]) (st' := []) (μ' := (μ.1, (xuI μ.2.1 52 (a1).toNatClampNeg (1 : Int32)), μ.2.2)) rfl rfl rfl (fun hb => xbT hb) ?_
    exact XB.fin rfl
/-- LogServerModel.dropCalls()V -/
def yM_dropCalls_b2 (k2 : Int32 → XMu → XRes) (x1 : Int32) (μ : XMu) : XRes := (if (32 : Int32) ≤ x1 then some (.inl none, μ) else xbi (yM_callWaits x1 μ) (fun r2 m1 => (if r2 = (0 : Int32) then k2 (x1 + (1 : Int32)) m1 else xbv (yM_settle x1 (0 : Int32) m1) (fun m3 => k2 (x1 + (1 : Int32)) m3))))
theorem yM_dropCalls_b2_ok {L : Nat} {xs : Nat → Int32} (k2 : Int32 → XMu → XRes) (hk2 : ∀  (x1 : Int32) (μ : XMu), XB L xs 172 2 [some (.ref 32), some (.int x1)] [] μ (k2 x1 μ))  (x1 : Int32) (μ : XMu) : XB L xs 172 2 [some (.ref 32), some (.int x1)] [] μ (yM_dropCalls_b2 k2 x1 μ) := by
  unfold yM_dropCalls_b2
  refine XB.go 2 (pc' := 5) (ls' := [some (.ref 32), some (.int x1)]) (st' := [(.int (32 : Int32)), (.int x1)]) (μ' := μ) rfl ?_
  refine XB.icmp (P := (32 : Int32) ≤ x1) rfl rfl rfl (fun c5 => ?_) (fun c5 => ?_)
  · exact XB.fin rfl
  · refine XB.go 2 (pc' := 10) (ls' := [some (.ref 32), some (.int x1)]) (st' := [(.int x1), (.ref 32)]) (μ' := μ) rfl ?_
    refine XB.ci rfl rfl rfl rfl rfl (yM_callWaits_ok x1 μ) (fun r2 m1 => ?_)
    refine XB.ifz (P := r2 = (0 : Int32)) rfl rfl rfl (fun c13 => ?_) (fun c13 => ?_)
    · refine XB.go 2 (pc' := 2) (ls' := [some (.ref 32), some (.int (x1 + (1 : Int32)))]) (st' := []) (μ' := m1) rfl ?_
      exact hk2  (x1 + (1 : Int32)) m1
    · refine XB.go 3 (pc' := 19) (ls' := [some (.ref 32), some (.int x1)]) (st' := [(.int (0 : Int32)), (.int x1), (.ref 32)]) (μ' := m1) rfl ?_
      refine XB.cv rfl rfl rfl rfl rfl (yM_settle_ok x1 (0 : Int32) m1) (fun m3 => ?_)
      refine XB.go 2 (pc' := 2) (ls' := [some (.ref 32), some (.int (x1 + (1 : Int32)))]) (st' := []) (μ' := m3) rfl ?_
      exact hk2  (x1 + (1 : Int32)) m3
def yM_dropCalls_b2_L  : Nat → Int32 → XMu → XRes
  | 0 => fun _ _ => none
  | n + 1 => yM_dropCalls_b2 (yM_dropCalls_b2_L  n)
theorem yM_dropCalls_b2_Lok {L : Nat} {xs : Nat → Int32}  : ∀ (n : Nat)  (x1 : Int32) (μ : XMu), XB L xs 172 2 [some (.ref 32), some (.int x1)] [] μ (yM_dropCalls_b2_L  n x1 μ) := by
  intro n
  induction n with
  | zero => intro  x1 μ r h; cases h
  | succ n ih => intro  x1 μ; exact yM_dropCalls_b2_ok (yM_dropCalls_b2_L  n) ih  x1 μ
def yM_dropCalls  (μ : XMu) : XRes := yM_dropCalls_b2_L  1000 (0 : Int32) μ
theorem yM_dropCalls_ok {L : Nat} {xs : Nat → Int32}  (μ : XMu) : XB L xs 172 0 [some (.ref 32), none] [] μ (yM_dropCalls  μ) := by
  unfold yM_dropCalls
  refine XB.go 2 (pc' := 2) (ls' := [some (.ref 32), some (.int (0 : Int32))]) (st' := []) (μ' := μ) rfl ?_
  exact yM_dropCalls_b2_Lok  1000  (0 : Int32) μ
/-- LogServerModel.stepDown(II)V -/
def yM_stepDown_b23  (x2 : Int32) (μ : XMu) : XRes := (if ¬ (μ.2.1 32 15) = (3 : Int32) then some (.inl none, (μ.1, (xuI (xuI μ.2.1 32 15 (0 : Int32)) 32 16 x2), μ.2.2)) else xbv (yM_draw μ) (fun m1 => xbv (yM_dropCalls m1) (fun m2 => some (.inl none, (m2.1, (xuI (xuI (xuI m2.2.1 32 23 (-1 : Int32)) 32 15 (0 : Int32)) 32 16 x2), m2.2.2)))))
theorem yM_stepDown_b23_ok {L : Nat} {xs : Nat → Int32}  (d1 : Option Int32) (x2 : Int32) (μ : XMu) : XB L xs 173 23 [some (.ref 32), (xdl d1), some (.int x2)] [] μ (yM_stepDown_b23  x2 μ) := by
  unfold yM_stepDown_b23
  refine XB.go 3 (pc' := 28) (ls' := [some (.ref 32), (xdl d1), some (.int x2)]) (st' := [(.int (3 : Int32)), (.int (μ.2.1 32 15))]) (μ' := μ) rfl ?_
  refine XB.icmp (P := ¬ (μ.2.1 32 15) = (3 : Int32)) rfl rfl rfl (fun c28 => ?_) (fun c28 => ?_)
  · refine XB.go 6 (pc' := 54) (ls' := [some (.ref 32), (xdl d1), some (.int x2)]) (st' := []) (μ' := (μ.1, (xuI (xuI μ.2.1 32 15 (0 : Int32)) 32 16 x2), μ.2.2)) rfl ?_
    exact XB.fin rfl
  · refine XB.go 1 (pc' := 32) (ls' := [some (.ref 32), (xdl d1), some (.int x2)]) (st' := [(.ref 32)]) (μ' := μ) rfl ?_
    refine XB.cv rfl rfl rfl rfl rfl (yM_draw_ok μ) (fun m1 => ?_)
    refine XB.go 1 (pc' := 36) (ls' := [some (.ref 32), (xdl d1), some (.int x2)]) (st' := [(.ref 32)]) (μ' := m1) rfl ?_
    refine XB.cv rfl rfl rfl rfl rfl (yM_dropCalls_ok m1) (fun m2 => ?_)
    refine XB.go 9 (pc' := 54) (ls' := [some (.ref 32), (xdl d1), some (.int x2)]) (st' := []) (μ' := (m2.1, (xuI (xuI (xuI m2.2.1 32 23 (-1 : Int32)) 32 15 (0 : Int32)) 32 16 x2), m2.2.2)) rfl ?_
    exact XB.fin rfl
def yM_stepDown (a1 : Int32) (a2 : Int32) (μ : XMu) : XRes := (if a1 ≤ (μ.2.1 32 4) then yM_stepDown_b23  a2 μ else yM_stepDown_b23  a2 (μ.1, (xuI (xuI (xuI μ.2.1 32 4 a1) 32 5 (-1 : Int32)) 32 14 (1 : Int32)), μ.2.2))
theorem yM_stepDown_ok {L : Nat} {xs : Nat → Int32} (a1 : Int32) (a2 : Int32) (μ : XMu) : XB L xs 173 0 [some (.ref 32), some (.int a1), some (.int a2)] [] μ (yM_stepDown a1 a2 μ) := by
  unfold yM_stepDown
  refine XB.go 3 (pc' := 5) (ls' := [some (.ref 32), some (.int a1), some (.int a2)]) (st' := [(.int (μ.2.1 32 4)), (.int a1)]) (μ' := μ) rfl ?_
  refine XB.icmp (P := a1 ≤ (μ.2.1 32 4)) rfl rfl rfl (fun c5 => ?_) (fun c5 => ?_)
  · exact yM_stepDown_b23_ok  (some a1) a2 μ
  · refine XB.go 9 (pc' := 23) (ls' := [some (.ref 32), some (.int a1), some (.int a2)]) (st' := []) (μ' := (μ.1, (xuI (xuI (xuI μ.2.1 32 4 a1) 32 5 (-1 : Int32)) 32 14 (1 : Int32)), μ.2.2)) rfl ?_
    exact yM_stepDown_b23_ok  (some a1) a2 (μ.1, (xuI (xuI (xuI μ.2.1 32 4 a1) 32 5 (-1 : Int32)) 32 14 (1 : Int32)), μ.2.2)
/-- LogServerModel.voters()I -/
def yM_voters  (μ : XMu) : XRes := xbi (yM_code μ) (fun r2 m1 => xbi (yM_code m1) (fun r4 m3 => some (.inl (some (.int ((yM_old r2) ||| (yM_fresh r4)))), m3)))
theorem yM_voters_ok {L : Nat} {xs : Nat → Int32}  (μ : XMu) : XB L xs 174 0 [some (.ref 32)] [] μ (yM_voters  μ) := by
  unfold yM_voters
  refine XB.go 1 (pc' := 1) (ls' := [some (.ref 32)]) (st' := [(.ref 32)]) (μ' := μ) rfl ?_
  refine XB.ci rfl rfl rfl rfl rfl (yM_code_ok μ) (fun r2 m1 => ?_)
  refine XB.cp rfl rfl rfl (yM_old_ok r2 m1) ?_
  refine XB.go 1 (pc' := 8) (ls' := [some (.ref 32)]) (st' := [(.ref 32), (.int (yM_old r2))]) (μ' := m1) rfl ?_
  refine XB.ci rfl rfl rfl rfl rfl (yM_code_ok m1) (fun r4 m3 => ?_)
  refine XB.cp rfl rfl rfl (yM_fresh_ok r4 m3) ?_
  refine XB.go 1 (pc' := 15) (ls' := [some (.ref 32)]) (st' := [(.int ((yM_old r2) ||| (yM_fresh r4)))]) (μ' := m3) rfl ?_
  exact XB.fin rfl
/-- LogServerModel.learning(I)I -/
def yM_learning (a0 : Int32) : Int32 := ((a0 >>> ((14 : Int32) &&& 31)) &&& (127 : Int32))
theorem yM_learning_ok {L : Nat} {xs : Nat → Int32} (a0 : Int32) (μ : XMu) : XB L xs 175 0 [some (.int a0)] [] μ (some (.inl (some (.int (yM_learning a0))), μ)) := by
  unfold yM_learning
  refine XB.go 5 (pc' := 7) (ls' := [some (.int a0)]) (st' := [(.int ((a0 >>> ((14 : Int32) &&& 31)) &&& (127 : Int32)))]) (μ' := μ) rfl ?_
  exact XB.fin rfl
/-- LogServerModel.peers()I -/
def yM_peers  (μ : XMu) : XRes := xbi (yM_voters μ) (fun r2 m1 => xbi (yM_code m1) (fun r4 m3 => some (.inl (some (.int ((r2 ||| (yM_learning r4)) &&& (((1 : Int32) <<< ((m3.2.1 32 1) &&& 31)) ^^^ (-1 : Int32))))), m3)))
theorem yM_peers_ok {L : Nat} {xs : Nat → Int32}  (μ : XMu) : XB L xs 176 0 [some (.ref 32)] [] μ (yM_peers  μ) := by
  unfold yM_peers
  refine XB.go 1 (pc' := 1) (ls' := [some (.ref 32)]) (st' := [(.ref 32)]) (μ' := μ) rfl ?_
  refine XB.ci rfl rfl rfl rfl rfl (yM_voters_ok μ) (fun r2 m1 => ?_)
  refine XB.go 1 (pc' := 5) (ls' := [some (.ref 32)]) (st' := [(.ref 32), (.int r2)]) (μ' := m1) rfl ?_
  refine XB.ci rfl rfl rfl rfl rfl (yM_code_ok m1) (fun r4 m3 => ?_)
  refine XB.cp rfl rfl rfl (yM_learning_ok r4 m3) ?_
  refine XB.go 8 (pc' := 21) (ls' := [some (.ref 32)]) (st' := [(.int ((r2 ||| (yM_learning r4)) &&& (((1 : Int32) <<< ((m3.2.1 32 1) &&& 31)) ^^^ (-1 : Int32))))]) (μ' := m3) rfl ?_
  exact XB.fin rfl
/-- LogServerModel.add(I)V -/
def yM_add (a1 : Int32) (μ : XMu) : XRes := xgd (xin ((μ.2.1 32 47) + (1 : Int32)) 32) (some (.inl none, (μ.1, (xuI (xuI μ.2.1 32 47 ((μ.2.1 32 47) + (1 : Int32))) 47 (((μ.2.1 32 47) + (1 : Int32))).toNatClampNeg a1), μ.2.2)))
theorem yM_add_ok {L : Nat} {xs : Nat → Int32} (a1 : Int32) (μ : XMu) : XB L xs 177 0 [some (.ref 32), some (.int a1)] [] μ (yM_add a1 μ) := by
  unfold yM_add
  refine XB.go 11 (pc' := 19) (ls' := [some (.ref 32), some (.int a1)]) (st' := [(.int a1), (.int ((μ.2.1 32 47) + (1 : Int32))), (.ref 47)]) (μ' := (μ.1, (xuI μ.2.1 32 47 ((μ.2.1 32 47) + (1 : Int32))), μ.2.2)) rfl ?_
  refine XB.gd (pc' := 20) (ls' := [some (.ref 32), some (.int a1)]) (st' := []) (μ' := (μ.1, (xuI (xuI μ.2.1 32 47 ((μ.2.1 32 47) + (1 : Int32))) 47 (((μ.2.1 32 47) + (1 : Int32))).toNatClampNeg a1), μ.2.2)) rfl rfl rfl (fun hb => xbT hb) ?_
  exact XB.fin rfl
/-- LogServerModel.begin(III)V -/
def yM_begin (a1 : Int32) (a2 : Int32) (a3 : Int32) (μ : XMu) : XRes := xbv (yM_add a1 (μ.1, (xuI μ.2.1 32 47 (0 : Int32)), μ.2.2)) (fun m1 => xbv (yM_add a2 m1) (fun m2 => xbv (yM_add a3 m2) (fun m3 => some (.inl none, m3))))
theorem yM_begin_ok {L : Nat} {xs : Nat → Int32} (a1 : Int32) (a2 : Int32) (a3 : Int32) (μ : XMu) : XB L xs 178 0 [some (.ref 32), some (.int a1), some (.int a2), some (.int a3)] [] μ (yM_begin a1 a2 a3 μ) := by
  unfold yM_begin
  refine XB.go 5 (pc' := 7) (ls' := [some (.ref 32), some (.int a1), some (.int a2), some (.int a3)]) (st' := [(.int a1), (.ref 32)]) (μ' := (μ.1, (xuI μ.2.1 32 47 (0 : Int32)), μ.2.2)) rfl ?_
  refine XB.cv rfl rfl rfl rfl rfl (yM_add_ok a1 (μ.1, (xuI μ.2.1 32 47 (0 : Int32)), μ.2.2)) (fun m1 => ?_)
  refine XB.go 2 (pc' := 12) (ls' := [some (.ref 32), some (.int a1), some (.int a2), some (.int a3)]) (st' := [(.int a2), (.ref 32)]) (μ' := m1) rfl ?_
  refine XB.cv rfl rfl rfl rfl rfl (yM_add_ok a2 m1) (fun m2 => ?_)
  refine XB.go 2 (pc' := 17) (ls' := [some (.ref 32), some (.int a1), some (.int a2), some (.int a3)]) (st' := [(.int a3), (.ref 32)]) (μ' := m2) rfl ?_
  refine XB.cv rfl rfl rfl rfl rfl (yM_add_ok a3 m2) (fun m3 => ?_)
  exact XB.fin rfl
/-- LogServerModel.goes(I)V -/
def yM_goes_b55   (μ : XMu) : XRes := some (.inl none, (μ.1, (xuI μ.2.1 32 50 ((μ.2.1 32 50) + (1 : Int32))), μ.2.2))
theorem yM_goes_b55_ok {L : Nat} {xs : Nat → Int32}  (d1 : Option Int32) (d2 : Option Int32)  (μ : XMu) : XB L xs 179 55 [some (.ref 32), (xdl d1), (xdl d2)] [] μ (yM_goes_b55   μ) := by
  unfold yM_goes_b55
  refine XB.go 6 (pc' := 65) (ls' := [some (.ref 32), (xdl d1), (xdl d2)]) (st' := []) (μ' := (μ.1, (xuI μ.2.1 32 50 ((μ.2.1 32 50) + (1 : Int32))), μ.2.2)) rfl ?_
  exact XB.fin rfl
def yM_goes_b2 (k2 : Int32 → Int32 → XMu → XRes) (x1 : Int32) (x2 : Int32) (μ : XMu) : XRes := (if (32 : Int32) ≤ x2 then yM_goes_b55  μ else (if (0 : Int32) ≤ x1 then xgd (xin ((x1 * (32 : Int32)) + x2) 6400) (xgd (xin ((((μ.2.1 32 50) - (μ.2.1 32 50) / (64 : Int32) * (64 : Int32)) * (32 : Int32)) + x2) 2048) (k2 x1 (x2 + (1 : Int32)) (μ.1, (xuI μ.2.1 49 (((((μ.2.1 32 50) - (μ.2.1 32 50) / (64 : Int32) * (64 : Int32)) * (32 : Int32)) + x2)).toNatClampNeg (μ.2.1 48 (((x1 * (32 : Int32)) + x2)).toNatClampNeg)), μ.2.2))) else xgd (xin x2 32) (xgd (xin ((((μ.2.1 32 50) - (μ.2.1 32 50) / (64 : Int32) * (64 : Int32)) * (32 : Int32)) + x2) 2048) (k2 x1 (x2 + (1 : Int32)) (μ.1, (xuI μ.2.1 49 (((((μ.2.1 32 50) - (μ.2.1 32 50) / (64 : Int32) * (64 : Int32)) * (32 : Int32)) + x2)).toNatClampNeg (μ.2.1 47 (x2).toNatClampNeg)), μ.2.2)))))
theorem yM_goes_b2_ok {L : Nat} {xs : Nat → Int32} (k2 : Int32 → Int32 → XMu → XRes) (hk2 : ∀  (x1 : Int32) (x2 : Int32) (μ : XMu), XB L xs 179 2 [some (.ref 32), some (.int x1), some (.int x2)] [] μ (k2 x1 x2 μ))  (x1 : Int32) (x2 : Int32) (μ : XMu) : XB L xs 179 2 [some (.ref 32), some (.int x1), some (.int x2)] [] μ (yM_goes_b2 k2 x1 x2 μ) := by
  unfold yM_goes_b2
  refine XB.go 2 (pc' := 5) (ls' := [some (.ref 32), some (.int x1), some (.int x2)]) (st' := [(.int (32 : Int32)), (.int x2)]) (μ' := μ) rfl ?_
  refine XB.icmp (P := (32 : Int32) ≤ x2) rfl rfl rfl (fun c5 => ?_) (fun c5 => ?_)
  · exact yM_goes_b55_ok  (some x1) (some x2) μ
  · refine XB.go 11 (pc' := 25) (ls' := [some (.ref 32), some (.int x1), some (.int x2)]) (st' := [(.int x1), (.int ((((μ.2.1 32 50) - (μ.2.1 32 50) / (64 : Int32) * (64 : Int32)) * (32 : Int32)) + x2)), (.ref 49)]) (μ' := μ) rfl ?_
    refine XB.ifz (P := (0 : Int32) ≤ x1) rfl rfl rfl (fun c25 => ?_) (fun c25 => ?_)
    · refine XB.go 7 (pc' := 47) (ls' := [some (.ref 32), some (.int x1), some (.int x2)]) (st' := [(.int ((x1 * (32 : Int32)) + x2)), (.ref 48), (.int ((((μ.2.1 32 50) - (μ.2.1 32 50) / (64 : Int32) * (64 : Int32)) * (32 : Int32)) + x2)), (.ref 49)]) (μ' := μ) rfl ?_
      refine XB.gd (pc' := 48) (ls' := [some (.ref 32), some (.int x1), some (.int x2)]) (st' := [(.int (μ.2.1 48 (((x1 * (32 : Int32)) + x2)).toNatClampNeg)), (.int ((((μ.2.1 32 50) - (μ.2.1 32 50) / (64 : Int32) * (64 : Int32)) * (32 : Int32)) + x2)), (.ref 49)]) (μ' := μ) rfl rfl rfl (fun hb => xbT hb) ?_
      refine XB.gd (pc' := 49) (ls' := [some (.ref 32), some (.int x1), some (.int x2)]) (st' := []) (μ' := (μ.1, (xuI μ.2.1 49 (((((μ.2.1 32 50) - (μ.2.1 32 50) / (64 : Int32) * (64 : Int32)) * (32 : Int32)) + x2)).toNatClampNeg (μ.2.1 48 (((x1 * (32 : Int32)) + x2)).toNatClampNeg)), μ.2.2)) rfl rfl rfl (fun hb => xbT hb) ?_
      refine XB.go 2 (pc' := 2) (ls' := [some (.ref 32), some (.int x1), some (.int (x2 + (1 : Int32)))]) (st' := []) (μ' := (μ.1, (xuI μ.2.1 49 (((((μ.2.1 32 50) - (μ.2.1 32 50) / (64 : Int32) * (64 : Int32)) * (32 : Int32)) + x2)).toNatClampNeg (μ.2.1 48 (((x1 * (32 : Int32)) + x2)).toNatClampNeg)), μ.2.2)) rfl ?_
      exact hk2  x1 (x2 + (1 : Int32)) (μ.1, (xuI μ.2.1 49 (((((μ.2.1 32 50) - (μ.2.1 32 50) / (64 : Int32) * (64 : Int32)) * (32 : Int32)) + x2)).toNatClampNeg (μ.2.1 48 (((x1 * (32 : Int32)) + x2)).toNatClampNeg)), μ.2.2)
    · refine XB.go 3 (pc' := 33) (ls' := [some (.ref 32), some (.int x1), some (.int x2)]) (st' := [(.int x2), (.ref 47), (.int ((((μ.2.1 32 50) - (μ.2.1 32 50) / (64 : Int32) * (64 : Int32)) * (32 : Int32)) + x2)), (.ref 49)]) (μ' := μ) rfl ?_
      refine XB.gd (pc' := 34) (ls' := [some (.ref 32), some (.int x1), some (.int x2)]) (st' := [(.int (μ.2.1 47 (x2).toNatClampNeg)), (.int ((((μ.2.1 32 50) - (μ.2.1 32 50) / (64 : Int32) * (64 : Int32)) * (32 : Int32)) + x2)), (.ref 49)]) (μ' := μ) rfl rfl rfl (fun hb => xbT hb) ?_
      refine XB.go 1 (pc' := 48) (ls' := [some (.ref 32), some (.int x1), some (.int x2)]) (st' := [(.int (μ.2.1 47 (x2).toNatClampNeg)), (.int ((((μ.2.1 32 50) - (μ.2.1 32 50) / (64 : Int32) * (64 : Int32)) * (32 : Int32)) + x2)), (.ref 49)]) (μ' := μ) rfl ?_
      refine XB.gd (pc' := 49) (ls' := [some (.ref 32), some (.int x1), some (.int x2)]) (st' := []) (μ' := (μ.1, (xuI μ.2.1 49 (((((μ.2.1 32 50) - (μ.2.1 32 50) / (64 : Int32) * (64 : Int32)) * (32 : Int32)) + x2)).toNatClampNeg (μ.2.1 47 (x2).toNatClampNeg)), μ.2.2)) rfl rfl rfl (fun hb => xbT hb) ?_
      refine XB.go 2 (pc' := 2) (ls' := [some (.ref 32), some (.int x1), some (.int (x2 + (1 : Int32)))]) (st' := []) (μ' := (μ.1, (xuI μ.2.1 49 (((((μ.2.1 32 50) - (μ.2.1 32 50) / (64 : Int32) * (64 : Int32)) * (32 : Int32)) + x2)).toNatClampNeg (μ.2.1 47 (x2).toNatClampNeg)), μ.2.2)) rfl ?_
      exact hk2  x1 (x2 + (1 : Int32)) (μ.1, (xuI μ.2.1 49 (((((μ.2.1 32 50) - (μ.2.1 32 50) / (64 : Int32) * (64 : Int32)) * (32 : Int32)) + x2)).toNatClampNeg (μ.2.1 47 (x2).toNatClampNeg)), μ.2.2)
def yM_goes_b2_L  : Nat → Int32 → Int32 → XMu → XRes
  | 0 => fun _ _ _ => none
  | n + 1 => yM_goes_b2 (yM_goes_b2_L  n)
theorem yM_goes_b2_Lok {L : Nat} {xs : Nat → Int32}  : ∀ (n : Nat)  (x1 : Int32) (x2 : Int32) (μ : XMu), XB L xs 179 2 [some (.ref 32), some (.int x1), some (.int x2)] [] μ (yM_goes_b2_L  n x1 x2 μ) := by
  intro n
  induction n with
  | zero => intro  x1 x2 μ r h; cases h
  | succ n ih => intro  x1 x2 μ; exact yM_goes_b2_ok (yM_goes_b2_L  n) ih  x1 x2 μ
def yM_goes (a1 : Int32) (μ : XMu) : XRes := yM_goes_b2_L  1000 a1 (0 : Int32) μ
theorem yM_goes_ok {L : Nat} {xs : Nat → Int32} (a1 : Int32) (μ : XMu) : XB L xs 179 0 [some (.ref 32), some (.int a1), none] [] μ (yM_goes a1 μ) := by
  unfold yM_goes
  refine XB.go 2 (pc' := 2) (ls' := [some (.ref 32), some (.int a1), some (.int (0 : Int32))]) (st' := []) (μ' := μ) rfl ?_
  exact yM_goes_b2_Lok  1000  a1 (0 : Int32) μ
/-- LogServerModel.send()V -/
def yM_send_b69   (μ : XMu) : XRes := some (.inl none, (μ.1, (xuI μ.2.1 32 49 ((μ.2.1 32 49) + (1 : Int32))), μ.2.2))
theorem yM_send_b69_ok {L : Nat} {xs : Nat → Int32}  (d1 : Option Int32)  (μ : XMu) : XB L xs 180 69 [some (.ref 32), (xdl d1)] [] μ (yM_send_b69   μ) := by
  unfold yM_send_b69
  refine XB.go 6 (pc' := 79) (ls' := [some (.ref 32), (xdl d1)]) (st' := []) (μ' := (μ.1, (xuI μ.2.1 32 49 ((μ.2.1 32 49) + (1 : Int32))), μ.2.2)) rfl ?_
  exact XB.fin rfl
def yM_send_b37 (k37 : Int32 → XMu → XRes) (x1 : Int32) (μ : XMu) : XRes := (if (32 : Int32) ≤ x1 then yM_send_b69  μ else xgd (xin x1 32) (xgd (xin (((μ.2.1 32 49) * (32 : Int32)) + x1) 6400) (k37 (x1 + (1 : Int32)) (μ.1, (xuI μ.2.1 48 ((((μ.2.1 32 49) * (32 : Int32)) + x1)).toNatClampNeg (μ.2.1 47 (x1).toNatClampNeg)), μ.2.2))))
theorem yM_send_b37_ok {L : Nat} {xs : Nat → Int32} (k37 : Int32 → XMu → XRes) (hk37 : ∀  (x1 : Int32) (μ : XMu), XB L xs 180 37 [some (.ref 32), some (.int x1)] [] μ (k37 x1 μ))  (x1 : Int32) (μ : XMu) : XB L xs 180 37 [some (.ref 32), some (.int x1)] [] μ (yM_send_b37 k37 x1 μ) := by
  unfold yM_send_b37
  refine XB.go 2 (pc' := 40) (ls' := [some (.ref 32), some (.int x1)]) (st' := [(.int (32 : Int32)), (.int x1)]) (μ' := μ) rfl ?_
  refine XB.icmp (P := (32 : Int32) ≤ x1) rfl rfl rfl (fun c40 => ?_) (fun c40 => ?_)
  · exact yM_send_b69_ok  (some x1) μ
  · refine XB.go 11 (pc' := 61) (ls' := [some (.ref 32), some (.int x1)]) (st' := [(.int x1), (.ref 47), (.int (((μ.2.1 32 49) * (32 : Int32)) + x1)), (.ref 48)]) (μ' := μ) rfl ?_
    refine XB.gd (pc' := 62) (ls' := [some (.ref 32), some (.int x1)]) (st' := [(.int (μ.2.1 47 (x1).toNatClampNeg)), (.int (((μ.2.1 32 49) * (32 : Int32)) + x1)), (.ref 48)]) (μ' := μ) rfl rfl rfl (fun hb => xbT hb) ?_
    refine XB.gd (pc' := 63) (ls' := [some (.ref 32), some (.int x1)]) (st' := []) (μ' := (μ.1, (xuI μ.2.1 48 ((((μ.2.1 32 49) * (32 : Int32)) + x1)).toNatClampNeg (μ.2.1 47 (x1).toNatClampNeg)), μ.2.2)) rfl rfl rfl (fun hb => xbT hb) ?_
    refine XB.go 2 (pc' := 37) (ls' := [some (.ref 32), some (.int (x1 + (1 : Int32)))]) (st' := []) (μ' := (μ.1, (xuI μ.2.1 48 ((((μ.2.1 32 49) * (32 : Int32)) + x1)).toNatClampNeg (μ.2.1 47 (x1).toNatClampNeg)), μ.2.2)) rfl ?_
    exact hk37  (x1 + (1 : Int32)) (μ.1, (xuI μ.2.1 48 ((((μ.2.1 32 49) * (32 : Int32)) + x1)).toNatClampNeg (μ.2.1 47 (x1).toNatClampNeg)), μ.2.2)
def yM_send_b37_L  : Nat → Int32 → XMu → XRes
  | 0 => fun _ _ => none
  | n + 1 => yM_send_b37 (yM_send_b37_L  n)
theorem yM_send_b37_Lok {L : Nat} {xs : Nat → Int32}  : ∀ (n : Nat)  (x1 : Int32) (μ : XMu), XB L xs 180 37 [some (.ref 32), some (.int x1)] [] μ (yM_send_b37_L  n x1 μ) := by
  intro n
  induction n with
  | zero => intro  x1 μ r h; cases h
  | succ n ih => intro  x1 μ; exact yM_send_b37_ok (yM_send_b37_L  n) ih  x1 μ
def yM_send  (μ : XMu) : XRes := (if ¬ (μ.2.1 32 14) = (0 : Int32) then (if (200 : Int32) ≤ (μ.2.1 32 49) then some (.inl none, (μ.1, (xuI μ.2.1 47 0 (μ.2.1 32 47)), μ.2.2)) else yM_send_b37_L  1000 (0 : Int32) (μ.1, (xuI μ.2.1 47 0 (μ.2.1 32 47)), μ.2.2)) else xbv (yM_goes (-1 : Int32) (μ.1, (xuI μ.2.1 47 0 (μ.2.1 32 47)), μ.2.2)) (fun m1 => some (.inl none, m1)))
theorem yM_send_ok {L : Nat} {xs : Nat → Int32}  (μ : XMu) : XB L xs 180 0 [some (.ref 32), none] [] μ (yM_send  μ) := by
  unfold yM_send
  refine XB.go 8 (pc' := 14) (ls' := [some (.ref 32), none]) (st' := [(.int (μ.2.1 32 14))]) (μ' := (μ.1, (xuI μ.2.1 47 0 (μ.2.1 32 47)), μ.2.2)) rfl ?_
  refine XB.ifz (P := ¬ (μ.2.1 32 14) = (0 : Int32)) rfl rfl rfl (fun c14 => ?_) (fun c14 => ?_)
  · refine XB.go 3 (pc' := 32) (ls' := [some (.ref 32), none]) (st' := [(.int (200 : Int32)), (.int (μ.2.1 32 49))]) (μ' := (μ.1, (xuI μ.2.1 47 0 (μ.2.1 32 47)), μ.2.2)) rfl ?_
    refine XB.icmp (P := (200 : Int32) ≤ (μ.2.1 32 49)) rfl rfl rfl (fun c32 => ?_) (fun c32 => ?_)
    · exact XB.fin rfl
    · refine XB.go 2 (pc' := 37) (ls' := [some (.ref 32), some (.int (0 : Int32))]) (st' := []) (μ' := (μ.1, (xuI μ.2.1 47 0 (μ.2.1 32 47)), μ.2.2)) rfl ?_
      exact yM_send_b37_Lok  1000  (0 : Int32) (μ.1, (xuI μ.2.1 47 0 (μ.2.1 32 47)), μ.2.2)
  · refine XB.go 2 (pc' := 19) (ls' := [some (.ref 32), none]) (st' := [(.int (-1 : Int32)), (.ref 32)]) (μ' := (μ.1, (xuI μ.2.1 47 0 (μ.2.1 32 47)), μ.2.2)) rfl ?_
    refine XB.cv rfl rfl rfl rfl rfl (yM_goes_ok (-1 : Int32) (μ.1, (xuI μ.2.1 47 0 (μ.2.1 32 47)), μ.2.2)) (fun m1 => ?_)
    refine XB.go 1 (pc' := 79) (ls' := [some (.ref 32), none]) (st' := []) (μ' := m1) rfl ?_
    exact XB.fin rfl
/-- LogServerModel.sendPiece(I)V -/
def yM_sendPiece_b34  (x1 : Int32) (s0 : Int32) (μ : XMu) : XRes := xbv (yM_begin x1 (7 : Int32) (μ.2.1 32 4) μ) (fun m1 => xbv (yM_add (m1.2.1 32 9) m1) (fun m2 => xbv (yM_add (m2.2.1 32 11) m2) (fun m3 => xbv (yM_add (m3.2.1 32 12) m3) (fun m4 => xbv (yM_add (m4.2.1 32 13) m4) (fun m5 => xgd (xin x1 7) (xbv (yM_add (m5.2.1 39 (x1).toNatClampNeg) m5) (fun m6 => xbv (yM_add s0 m6) (fun m7 => xbv (yM_add (m7.2.1 32 26) m7) (fun m8 => xbv (yM_send m8) (fun m9 => some (.inl none, m9)))))))))))
theorem yM_sendPiece_b34_ok {L : Nat} {xs : Nat → Int32}  (d2 : Option Int32) (x1 : Int32) (s0 : Int32) (μ : XMu) : XB L xs 181 34 [some (.ref 32), some (.int x1), (xdl d2)] [(.int s0)] μ (yM_sendPiece_b34  x1 s0 μ) := by
  unfold yM_sendPiece_b34
  refine XB.go 6 (pc' := 43) (ls' := [some (.ref 32), some (.int x1), some (.int s0)]) (st' := [(.int (μ.2.1 32 4)), (.int (7 : Int32)), (.int x1), (.ref 32)]) (μ' := μ) rfl ?_
  refine XB.cv rfl rfl rfl rfl rfl (yM_begin_ok x1 (7 : Int32) (μ.2.1 32 4) μ) (fun m1 => ?_)
  refine XB.go 3 (pc' := 51) (ls' := [some (.ref 32), some (.int x1), some (.int s0)]) (st' := [(.int (m1.2.1 32 9)), (.ref 32)]) (μ' := m1) rfl ?_
  refine XB.cv rfl rfl rfl rfl rfl (yM_add_ok (m1.2.1 32 9) m1) (fun m2 => ?_)
  refine XB.go 3 (pc' := 59) (ls' := [some (.ref 32), some (.int x1), some (.int s0)]) (st' := [(.int (m2.2.1 32 11)), (.ref 32)]) (μ' := m2) rfl ?_
  refine XB.cv rfl rfl rfl rfl rfl (yM_add_ok (m2.2.1 32 11) m2) (fun m3 => ?_)
  refine XB.go 3 (pc' := 67) (ls' := [some (.ref 32), some (.int x1), some (.int s0)]) (st' := [(.int (m3.2.1 32 12)), (.ref 32)]) (μ' := m3) rfl ?_
  refine XB.cv rfl rfl rfl rfl rfl (yM_add_ok (m3.2.1 32 12) m3) (fun m4 => ?_)
  refine XB.go 3 (pc' := 75) (ls' := [some (.ref 32), some (.int x1), some (.int s0)]) (st' := [(.int (m4.2.1 32 13)), (.ref 32)]) (μ' := m4) rfl ?_
  refine XB.cv rfl rfl rfl rfl rfl (yM_add_ok (m4.2.1 32 13) m4) (fun m5 => ?_)
  refine XB.go 4 (pc' := 84) (ls' := [some (.ref 32), some (.int x1), some (.int s0)]) (st' := [(.int x1), (.ref 39), (.ref 32)]) (μ' := m5) rfl ?_
  refine XB.gd (pc' := 85) (ls' := [some (.ref 32), some (.int x1), some (.int s0)]) (st' := [(.int (m5.2.1 39 (x1).toNatClampNeg)), (.ref 32)]) (μ' := m5) rfl rfl rfl (fun hb => xbT hb) ?_
  refine XB.cv rfl rfl rfl rfl rfl (yM_add_ok (m5.2.1 39 (x1).toNatClampNeg) m5) (fun m6 => ?_)
  refine XB.go 2 (pc' := 90) (ls' := [some (.ref 32), some (.int x1), some (.int s0)]) (st' := [(.int s0), (.ref 32)]) (μ' := m6) rfl ?_
  refine XB.cv rfl rfl rfl rfl rfl (yM_add_ok s0 m6) (fun m7 => ?_)
  refine XB.go 3 (pc' := 98) (ls' := [some (.ref 32), some (.int x1), some (.int s0)]) (st' := [(.int (m7.2.1 32 26)), (.ref 32)]) (μ' := m7) rfl ?_
  refine XB.cv rfl rfl rfl rfl rfl (yM_add_ok (m7.2.1 32 26) m7) (fun m8 => ?_)
  refine XB.go 1 (pc' := 102) (ls' := [some (.ref 32), some (.int x1), some (.int s0)]) (st' := [(.ref 32)]) (μ' := m8) rfl ?_
  refine XB.cv rfl rfl rfl rfl rfl (yM_send_ok m8) (fun m9 => ?_)
  exact XB.fin rfl
def yM_sendPiece (a1 : Int32) (μ : XMu) : XRes := xgd (xin a1 7) ((if ((μ.2.1 32 13) - (μ.2.1 39 (a1).toNatClampNeg)) ≤ (200 : Int32) then xgd (xin a1 7) (yM_sendPiece_b34  a1 ((μ.2.1 32 13) - (μ.2.1 39 (a1).toNatClampNeg)) μ) else yM_sendPiece_b34  a1 (200 : Int32) μ))
theorem yM_sendPiece_ok {L : Nat} {xs : Nat → Int32} (a1 : Int32) (μ : XMu) : XB L xs 181 0 [some (.ref 32), some (.int a1), none] [] μ (yM_sendPiece a1 μ) := by
  unfold yM_sendPiece
  refine XB.go 5 (pc' := 9) (ls' := [some (.ref 32), some (.int a1), none]) (st' := [(.int a1), (.ref 39), (.int (μ.2.1 32 13))]) (μ' := μ) rfl ?_
  refine XB.gd (pc' := 10) (ls' := [some (.ref 32), some (.int a1), none]) (st' := [(.int (μ.2.1 39 (a1).toNatClampNeg)), (.int (μ.2.1 32 13))]) (μ' := μ) rfl rfl rfl (fun hb => xbT hb) ?_
  refine XB.go 2 (pc' := 14) (ls' := [some (.ref 32), some (.int a1), none]) (st' := [(.int (200 : Int32)), (.int ((μ.2.1 32 13) - (μ.2.1 39 (a1).toNatClampNeg)))]) (μ' := μ) rfl ?_
  refine XB.icmp (P := ((μ.2.1 32 13) - (μ.2.1 39 (a1).toNatClampNeg)) ≤ (200 : Int32)) rfl rfl rfl (fun c14 => ?_) (fun c14 => ?_)
  · refine XB.go 5 (pc' := 32) (ls' := [some (.ref 32), some (.int a1), none]) (st' := [(.int a1), (.ref 39), (.int (μ.2.1 32 13))]) (μ' := μ) rfl ?_
    refine XB.gd (pc' := 33) (ls' := [some (.ref 32), some (.int a1), none]) (st' := [(.int (μ.2.1 39 (a1).toNatClampNeg)), (.int (μ.2.1 32 13))]) (μ' := μ) rfl rfl rfl (fun hb => xbT hb) ?_
    refine XB.go 1 (pc' := 34) (ls' := [some (.ref 32), some (.int a1), none]) (st' := [(.int ((μ.2.1 32 13) - (μ.2.1 39 (a1).toNatClampNeg)))]) (μ' := μ) rfl ?_
    exact yM_sendPiece_b34_ok  (none) a1 ((μ.2.1 32 13) - (μ.2.1 39 (a1).toNatClampNeg)) μ
  · refine XB.go 2 (pc' := 34) (ls' := [some (.ref 32), some (.int a1), none]) (st' := [(.int (200 : Int32))]) (μ' := μ) rfl ?_
    exact yM_sendPiece_b34_ok  (none) a1 (200 : Int32) μ
/-- LogServerModel.termAt(I)I -/
def yM_termAt (a1 : Int32) (μ : XMu) : XRes := (if ¬ a1 = (μ.2.1 32 9) then xgd (xin (a1 - a1 / (512 : Int32) * (512 : Int32)) 512) (some (.inl (some (.int (μ.2.1 33 ((a1 - a1 / (512 : Int32) * (512 : Int32))).toNatClampNeg))), μ)) else some (.inl (some (.int (μ.2.1 32 11))), μ))
theorem yM_termAt_ok {L : Nat} {xs : Nat → Int32} (a1 : Int32) (μ : XMu) : XB L xs 182 0 [some (.ref 32), some (.int a1)] [] μ (yM_termAt a1 μ) := by
  unfold yM_termAt
  refine XB.go 3 (pc' := 5) (ls' := [some (.ref 32), some (.int a1)]) (st' := [(.int (μ.2.1 32 9)), (.int a1)]) (μ' := μ) rfl ?_
  refine XB.icmp (P := ¬ a1 = (μ.2.1 32 9)) rfl rfl rfl (fun c5 => ?_) (fun c5 => ?_)
  · refine XB.go 5 (pc' := 24) (ls' := [some (.ref 32), some (.int a1)]) (st' := [(.int (a1 - a1 / (512 : Int32) * (512 : Int32))), (.ref 33)]) (μ' := μ) rfl ?_
    refine XB.gd (pc' := 25) (ls' := [some (.ref 32), some (.int a1)]) (st' := [(.int (μ.2.1 33 ((a1 - a1 / (512 : Int32) * (512 : Int32))).toNatClampNeg))]) (μ' := μ) rfl rfl rfl (fun hb => xbT hb) ?_
    exact XB.fin rfl
  · refine XB.go 3 (pc' := 25) (ls' := [some (.ref 32), some (.int a1)]) (st' := [(.int (μ.2.1 32 11))]) (μ' := μ) rfl ?_
    exact XB.fin rfl
/-- LogServerModel.sendEntries(II)V -/
def yM_sendEntries_b66 (k66 : Int32 → Int32 → Int32 → XMu → XRes) (x1 : Int32) (x2 : Int32) (x3 : Int32) (μ : XMu) : XRes := xgd (xin x1 7) ((if ((μ.2.1 36 (x1).toNatClampNeg) + x2) ≤ x3 then xbv (yM_send μ) (fun m9 => some (.inl none, m9)) else xgd (xin (x3 - x3 / (512 : Int32) * (512 : Int32)) 512) (xbv (yM_add (μ.2.1 33 ((x3 - x3 / (512 : Int32) * (512 : Int32))).toNatClampNeg) μ) (fun m10 => xgd (xin (x3 - x3 / (512 : Int32) * (512 : Int32)) 512) (xbv (yM_add (m10.2.1 34 ((x3 - x3 / (512 : Int32) * (512 : Int32))).toNatClampNeg) m10) (fun m11 => xgd (xin (x3 - x3 / (512 : Int32) * (512 : Int32)) 512) (xbv (yM_add (m11.2.1 35 ((x3 - x3 / (512 : Int32) * (512 : Int32))).toNatClampNeg) m11) (fun m12 => k66 x1 x2 (x3 + (1 : Int32)) m12))))))))
theorem yM_sendEntries_b66_ok {L : Nat} {xs : Nat → Int32} (k66 : Int32 → Int32 → Int32 → XMu → XRes) (hk66 : ∀  (x1 : Int32) (x2 : Int32) (x3 : Int32) (μ : XMu), XB L xs 183 66 [some (.ref 32), some (.int x1), some (.int x2), some (.int x3)] [] μ (k66 x1 x2 x3 μ))  (x1 : Int32) (x2 : Int32) (x3 : Int32) (μ : XMu) : XB L xs 183 66 [some (.ref 32), some (.int x1), some (.int x2), some (.int x3)] [] μ (yM_sendEntries_b66 k66 x1 x2 x3 μ) := by
  unfold yM_sendEntries_b66
  refine XB.go 4 (pc' := 72) (ls' := [some (.ref 32), some (.int x1), some (.int x2), some (.int x3)]) (st' := [(.int x1), (.ref 36), (.int x3)]) (μ' := μ) rfl ?_
  refine XB.gd (pc' := 73) (ls' := [some (.ref 32), some (.int x1), some (.int x2), some (.int x3)]) (st' := [(.int (μ.2.1 36 (x1).toNatClampNeg)), (.int x3)]) (μ' := μ) rfl rfl rfl (fun hb => xbT hb) ?_
  refine XB.go 2 (pc' := 75) (ls' := [some (.ref 32), some (.int x1), some (.int x2), some (.int x3)]) (st' := [(.int ((μ.2.1 36 (x1).toNatClampNeg) + x2)), (.int x3)]) (μ' := μ) rfl ?_
  refine XB.icmp (P := ((μ.2.1 36 (x1).toNatClampNeg) + x2) ≤ x3) rfl rfl rfl (fun c75 => ?_) (fun c75 => ?_)
  · refine XB.go 1 (pc' := 127) (ls' := [some (.ref 32), some (.int x1), some (.int x2), some (.int x3)]) (st' := [(.ref 32)]) (μ' := μ) rfl ?_
    refine XB.cv rfl rfl rfl rfl rfl (yM_send_ok μ) (fun m9 => ?_)
    exact XB.fin rfl
  · refine XB.go 6 (pc' := 88) (ls' := [some (.ref 32), some (.int x1), some (.int x2), some (.int x3)]) (st' := [(.int (x3 - x3 / (512 : Int32) * (512 : Int32))), (.ref 33), (.ref 32)]) (μ' := μ) rfl ?_
    refine XB.gd (pc' := 89) (ls' := [some (.ref 32), some (.int x1), some (.int x2), some (.int x3)]) (st' := [(.int (μ.2.1 33 ((x3 - x3 / (512 : Int32) * (512 : Int32))).toNatClampNeg)), (.ref 32)]) (μ' := μ) rfl rfl rfl (fun hb => xbT hb) ?_
    refine XB.cv rfl rfl rfl rfl rfl (yM_add_ok (μ.2.1 33 ((x3 - x3 / (512 : Int32) * (512 : Int32))).toNatClampNeg) μ) (fun m10 => ?_)
    refine XB.go 6 (pc' := 102) (ls' := [some (.ref 32), some (.int x1), some (.int x2), some (.int x3)]) (st' := [(.int (x3 - x3 / (512 : Int32) * (512 : Int32))), (.ref 34), (.ref 32)]) (μ' := m10) rfl ?_
    refine XB.gd (pc' := 103) (ls' := [some (.ref 32), some (.int x1), some (.int x2), some (.int x3)]) (st' := [(.int (m10.2.1 34 ((x3 - x3 / (512 : Int32) * (512 : Int32))).toNatClampNeg)), (.ref 32)]) (μ' := m10) rfl rfl rfl (fun hb => xbT hb) ?_
    refine XB.cv rfl rfl rfl rfl rfl (yM_add_ok (m10.2.1 34 ((x3 - x3 / (512 : Int32) * (512 : Int32))).toNatClampNeg) m10) (fun m11 => ?_)
    refine XB.go 6 (pc' := 116) (ls' := [some (.ref 32), some (.int x1), some (.int x2), some (.int x3)]) (st' := [(.int (x3 - x3 / (512 : Int32) * (512 : Int32))), (.ref 35), (.ref 32)]) (μ' := m11) rfl ?_
    refine XB.gd (pc' := 117) (ls' := [some (.ref 32), some (.int x1), some (.int x2), some (.int x3)]) (st' := [(.int (m11.2.1 35 ((x3 - x3 / (512 : Int32) * (512 : Int32))).toNatClampNeg)), (.ref 32)]) (μ' := m11) rfl rfl rfl (fun hb => xbT hb) ?_
    refine XB.cv rfl rfl rfl rfl rfl (yM_add_ok (m11.2.1 35 ((x3 - x3 / (512 : Int32) * (512 : Int32))).toNatClampNeg) m11) (fun m12 => ?_)
    refine XB.go 2 (pc' := 66) (ls' := [some (.ref 32), some (.int x1), some (.int x2), some (.int (x3 + (1 : Int32)))]) (st' := []) (μ' := m12) rfl ?_
    exact hk66  x1 x2 (x3 + (1 : Int32)) m12
def yM_sendEntries_b66_L  : Nat → Int32 → Int32 → Int32 → XMu → XRes
  | 0 => fun _ _ _ _ => none
  | n + 1 => yM_sendEntries_b66 (yM_sendEntries_b66_L  n)
theorem yM_sendEntries_b66_Lok {L : Nat} {xs : Nat → Int32}  : ∀ (n : Nat)  (x1 : Int32) (x2 : Int32) (x3 : Int32) (μ : XMu), XB L xs 183 66 [some (.ref 32), some (.int x1), some (.int x2), some (.int x3)] [] μ (yM_sendEntries_b66_L  n x1 x2 x3 μ) := by
  intro n
  induction n with
  | zero => intro  x1 x2 x3 μ r h; cases h
  | succ n ih => intro  x1 x2 x3 μ; exact yM_sendEntries_b66_ok (yM_sendEntries_b66_L  n) ih  x1 x2 x3 μ
def yM_sendEntries (a1 : Int32) (a2 : Int32) (μ : XMu) : XRes := xbv (yM_begin a1 (5 : Int32) (μ.2.1 32 4) μ) (fun m1 => xgd (xin a1 7) (xbv (yM_add ((m1.2.1 36 (a1).toNatClampNeg) - (1 : Int32)) m1) (fun m2 => xgd (xin a1 7) (xbi (yM_termAt ((m2.2.1 36 (a1).toNatClampNeg) - (1 : Int32)) m2) (fun r4 m3 => xbv (yM_add r4 m3) (fun m5 => xbv (yM_add (m5.2.1 32 17) m5) (fun m6 => xbv (yM_add (m6.2.1 32 26) m6) (fun m7 => xbv (yM_add a2 m7) (fun m8 => xgd (xin a1 7) (yM_sendEntries_b66_L  1000 a1 a2 (m8.2.1 36 (a1).toNatClampNeg) m8))))))))))
theorem yM_sendEntries_ok {L : Nat} {xs : Nat → Int32} (a1 : Int32) (a2 : Int32) (μ : XMu) : XB L xs 183 0 [some (.ref 32), some (.int a1), some (.int a2), none] [] μ (yM_sendEntries a1 a2 μ) := by
  unfold yM_sendEntries
  refine XB.go 5 (pc' := 7) (ls' := [some (.ref 32), some (.int a1), some (.int a2), none]) (st' := [(.int (μ.2.1 32 4)), (.int (5 : Int32)), (.int a1), (.ref 32)]) (μ' := μ) rfl ?_
  refine XB.cv rfl rfl rfl rfl rfl (yM_begin_ok a1 (5 : Int32) (μ.2.1 32 4) μ) (fun m1 => ?_)
  refine XB.go 4 (pc' := 16) (ls' := [some (.ref 32), some (.int a1), some (.int a2), none]) (st' := [(.int a1), (.ref 36), (.ref 32)]) (μ' := m1) rfl ?_
  refine XB.gd (pc' := 17) (ls' := [some (.ref 32), some (.int a1), some (.int a2), none]) (st' := [(.int (m1.2.1 36 (a1).toNatClampNeg)), (.ref 32)]) (μ' := m1) rfl rfl rfl (fun hb => xbT hb) ?_
  refine XB.go 2 (pc' := 19) (ls' := [some (.ref 32), some (.int a1), some (.int a2), none]) (st' := [(.int ((m1.2.1 36 (a1).toNatClampNeg) - (1 : Int32))), (.ref 32)]) (μ' := m1) rfl ?_
  refine XB.cv rfl rfl rfl rfl rfl (yM_add_ok ((m1.2.1 36 (a1).toNatClampNeg) - (1 : Int32)) m1) (fun m2 => ?_)
  refine XB.go 5 (pc' := 29) (ls' := [some (.ref 32), some (.int a1), some (.int a2), none]) (st' := [(.int a1), (.ref 36), (.ref 32), (.ref 32)]) (μ' := m2) rfl ?_
  refine XB.gd (pc' := 30) (ls' := [some (.ref 32), some (.int a1), some (.int a2), none]) (st' := [(.int (m2.2.1 36 (a1).toNatClampNeg)), (.ref 32), (.ref 32)]) (μ' := m2) rfl rfl rfl (fun hb => xbT hb) ?_
  refine XB.go 2 (pc' := 32) (ls' := [some (.ref 32), some (.int a1), some (.int a2), none]) (st' := [(.int ((m2.2.1 36 (a1).toNatClampNeg) - (1 : Int32))), (.ref 32), (.ref 32)]) (μ' := m2) rfl ?_
  refine XB.ci rfl rfl rfl rfl rfl (yM_termAt_ok ((m2.2.1 36 (a1).toNatClampNeg) - (1 : Int32)) m2) (fun r4 m3 => ?_)
  refine XB.cv rfl rfl rfl rfl rfl (yM_add_ok r4 m3) (fun m5 => ?_)
  refine XB.go 3 (pc' := 43) (ls' := [some (.ref 32), some (.int a1), some (.int a2), none]) (st' := [(.int (m5.2.1 32 17)), (.ref 32)]) (μ' := m5) rfl ?_
  refine XB.cv rfl rfl rfl rfl rfl (yM_add_ok (m5.2.1 32 17) m5) (fun m6 => ?_)
  refine XB.go 3 (pc' := 51) (ls' := [some (.ref 32), some (.int a1), some (.int a2), none]) (st' := [(.int (m6.2.1 32 26)), (.ref 32)]) (μ' := m6) rfl ?_
  refine XB.cv rfl rfl rfl rfl rfl (yM_add_ok (m6.2.1 32 26) m6) (fun m7 => ?_)
  refine XB.go 2 (pc' := 56) (ls' := [some (.ref 32), some (.int a1), some (.int a2), none]) (st' := [(.int a2), (.ref 32)]) (μ' := m7) rfl ?_
  refine XB.cv rfl rfl rfl rfl rfl (yM_add_ok a2 m7) (fun m8 => ?_)
  refine XB.go 3 (pc' := 64) (ls' := [some (.ref 32), some (.int a1), some (.int a2), none]) (st' := [(.int a1), (.ref 36)]) (μ' := m8) rfl ?_
  refine XB.gd (pc' := 65) (ls' := [some (.ref 32), some (.int a1), some (.int a2), none]) (st' := [(.int (m8.2.1 36 (a1).toNatClampNeg))]) (μ' := m8) rfl rfl rfl (fun hb => xbT hb) ?_
  refine XB.go 1 (pc' := 66) (ls' := [some (.ref 32), some (.int a1), some (.int a2), some (.int (m8.2.1 36 (a1).toNatClampNeg))]) (st' := []) (μ' := m8) rfl ?_
  exact yM_sendEntries_b66_Lok  1000  a1 a2 (m8.2.1 36 (a1).toNatClampNeg) m8
/-- LogServerModel.sendTo(IZ)V -/
def yM_sendTo_b137  (x1 : Int32) (x2 : Int32) (x3 : Int32) (μ : XMu) : XRes := (if ¬ x3 = (0 : Int32) then some (.inl none, μ) else (if x2 = (0 : Int32) then some (.inl none, μ) else xbv (yM_sendEntries x1 (0 : Int32) μ) (fun m1 => some (.inl none, m1))))
theorem yM_sendTo_b137_ok {L : Nat} {xs : Nat → Int32}  (d4 : Option Int32) (x1 : Int32) (x2 : Int32) (x3 : Int32) (μ : XMu) : XB L xs 184 137 [some (.ref 32), some (.int x1), some (.int x2), some (.int x3), (xdl d4)] [] μ (yM_sendTo_b137  x1 x2 x3 μ) := by
  unfold yM_sendTo_b137
  refine XB.go 1 (pc' := 138) (ls' := [some (.ref 32), some (.int x1), some (.int x2), some (.int x3), (xdl d4)]) (st' := [(.int x3)]) (μ' := μ) rfl ?_
  refine XB.ifz (P := ¬ x3 = (0 : Int32)) rfl rfl rfl (fun c138 => ?_) (fun c138 => ?_)
  · exact XB.fin rfl
  · refine XB.go 1 (pc' := 142) (ls' := [some (.ref 32), some (.int x1), some (.int x2), some (.int x3), (xdl d4)]) (st' := [(.int x2)]) (μ' := μ) rfl ?_
    refine XB.ifz (P := x2 = (0 : Int32)) rfl rfl rfl (fun c142 => ?_) (fun c142 => ?_)
    · exact XB.fin rfl
    · refine XB.go 3 (pc' := 148) (ls' := [some (.ref 32), some (.int x1), some (.int x2), some (.int x3), (xdl d4)]) (st' := [(.int (0 : Int32)), (.int x1), (.ref 32)]) (μ' := μ) rfl ?_
      refine XB.cv rfl rfl rfl rfl rfl (yM_sendEntries_ok x1 (0 : Int32) μ) (fun m1 => ?_)
      exact XB.fin rfl
def yM_sendTo_b102 (k37 : Int32 → Int32 → Int32 → XMu → XRes) (x1 : Int32) (x2 : Int32) (s0 : Int32) (μ : XMu) : XRes := xbv (yM_sendEntries x1 s0 μ) (fun m2 => xgd (xin x1 7) (xgd (xin x1 7) (xgd (xin x1 7) (xgd (xin x1 7) (k37 x1 x2 (1 : Int32) (m2.1, (xuI (xuI m2.2.1 38 (x1).toNatClampNeg ((m2.2.1 38 (x1).toNatClampNeg) + (1 : Int32))) 36 (x1).toNatClampNeg ((m2.2.1 36 (x1).toNatClampNeg) + s0)), m2.2.2))))))
theorem yM_sendTo_b102_ok {L : Nat} {xs : Nat → Int32} (k37 : Int32 → Int32 → Int32 → XMu → XRes) (hk37 : ∀ (d4 : Option Int32) (x1 : Int32) (x2 : Int32) (x3 : Int32) (μ : XMu), XB L xs 184 37 [some (.ref 32), some (.int x1), some (.int x2), some (.int x3), (xdl d4)] [] μ (k37 x1 x2 x3 μ)) (d3 : Option Int32) (d4 : Option Int32) (x1 : Int32) (x2 : Int32) (s0 : Int32) (μ : XMu) : XB L xs 184 102 [some (.ref 32), some (.int x1), some (.int x2), (xdl d3), (xdl d4)] [(.int s0)] μ (yM_sendTo_b102 k37 x1 x2 s0 μ) := by
  unfold yM_sendTo_b102
  refine XB.go 4 (pc' := 108) (ls' := [some (.ref 32), some (.int x1), some (.int x2), (xdl d3), some (.int s0)]) (st' := [(.int s0), (.int x1), (.ref 32)]) (μ' := μ) (by cases d3 <;> rfl) ?_
  refine XB.cv rfl rfl rfl rfl rfl (yM_sendEntries_ok x1 s0 μ) (fun m2 => ?_)
  refine XB.go 4 (pc' := 117) (ls' := [some (.ref 32), some (.int x1), some (.int x2), (xdl d3), some (.int s0)]) (st' := [(.int x1), (.ref 38), (.int x1), (.ref 38)]) (μ' := m2) rfl ?_
  refine XB.gd (pc' := 118) (ls' := [some (.ref 32), some (.int x1), some (.int x2), (xdl d3), some (.int s0)]) (st' := [(.int (m2.2.1 38 (x1).toNatClampNeg)), (.int x1), (.ref 38)]) (μ' := m2) rfl rfl rfl (fun hb => xbT hb) ?_
  refine XB.go 2 (pc' := 120) (ls' := [some (.ref 32), some (.int x1), some (.int x2), (xdl d3), some (.int s0)]) (st' := [(.int ((m2.2.1 38 (x1).toNatClampNeg) + (1 : Int32))), (.int x1), (.ref 38)]) (μ' := m2) rfl ?_
  refine XB.gd (pc' := 121) (ls' := [some (.ref 32), some (.int x1), some (.int x2), (xdl d3), some (.int s0)]) (st' := []) (μ' := (m2.1, (xuI m2.2.1 38 (x1).toNatClampNeg ((m2.2.1 38 (x1).toNatClampNeg) + (1 : Int32))), m2.2.2)) rfl rfl rfl (fun hb => xbT hb) ?_
  refine XB.go 4 (pc' := 127) (ls' := [some (.ref 32), some (.int x1), some (.int x2), (xdl d3), some (.int s0)]) (st' := [(.int x1), (.ref 36), (.int x1), (.ref 36)]) (μ' := (m2.1, (xuI m2.2.1 38 (x1).toNatClampNeg ((m2.2.1 38 (x1).toNatClampNeg) + (1 : Int32))), m2.2.2)) rfl ?_
  refine XB.gd (pc' := 128) (ls' := [some (.ref 32), some (.int x1), some (.int x2), (xdl d3), some (.int s0)]) (st' := [(.int (m2.2.1 36 (x1).toNatClampNeg)), (.int x1), (.ref 36)]) (μ' := (m2.1, (xuI m2.2.1 38 (x1).toNatClampNeg ((m2.2.1 38 (x1).toNatClampNeg) + (1 : Int32))), m2.2.2)) rfl rfl rfl (fun hb => xbT hb) ?_
  refine XB.go 2 (pc' := 131) (ls' := [some (.ref 32), some (.int x1), some (.int x2), (xdl d3), some (.int s0)]) (st' := [(.int ((m2.2.1 36 (x1).toNatClampNeg) + s0)), (.int x1), (.ref 36)]) (μ' := (m2.1, (xuI m2.2.1 38 (x1).toNatClampNeg ((m2.2.1 38 (x1).toNatClampNeg) + (1 : Int32))), m2.2.2)) rfl ?_
  refine XB.gd (pc' := 132) (ls' := [some (.ref 32), some (.int x1), some (.int x2), (xdl d3), some (.int s0)]) (st' := []) (μ' := (m2.1, (xuI (xuI m2.2.1 38 (x1).toNatClampNeg ((m2.2.1 38 (x1).toNatClampNeg) + (1 : Int32))) 36 (x1).toNatClampNeg ((m2.2.1 36 (x1).toNatClampNeg) + s0)), m2.2.2)) rfl rfl rfl (fun hb => xbT hb) ?_
  refine XB.go 3 (pc' := 37) (ls' := [some (.ref 32), some (.int x1), some (.int x2), some (.int (1 : Int32)), some (.int s0)]) (st' := []) (μ' := (m2.1, (xuI (xuI m2.2.1 38 (x1).toNatClampNeg ((m2.2.1 38 (x1).toNatClampNeg) + (1 : Int32))) 36 (x1).toNatClampNeg ((m2.2.1 36 (x1).toNatClampNeg) + s0)), m2.2.2)) rfl ?_
  exact hk37 (some s0) x1 x2 (1 : Int32) (m2.1, (xuI (xuI m2.2.1 38 (x1).toNatClampNeg ((m2.2.1 38 (x1).toNatClampNeg) + (1 : Int32))) 36 (x1).toNatClampNeg ((m2.2.1 36 (x1).toNatClampNeg) + s0)), m2.2.2)
def yM_sendTo_b70 (k37 : Int32 → Int32 → Int32 → XMu → XRes) (x1 : Int32) (x2 : Int32) (x3 : Int32) (s0 : Int32) (s1 : Int32) (μ : XMu) : XRes := (if s1 ≤ s0 then yM_sendTo_b137  x1 x2 x3 μ else xgd (xin x1 7) ((if (((μ.2.1 32 10) - (μ.2.1 36 (x1).toNatClampNeg)) + (1 : Int32)) ≤ (6 : Int32) then yM_sendTo_b102 k37 x1 x2 (((μ.2.1 32 10) - (μ.2.1 36 (x1).toNatClampNeg)) + (1 : Int32)) μ else yM_sendTo_b102 k37 x1 x2 (6 : Int32) μ)))
theorem yM_sendTo_b70_ok {L : Nat} {xs : Nat → Int32} (k37 : Int32 → Int32 → Int32 → XMu → XRes) (hk37 : ∀ (d4 : Option Int32) (x1 : Int32) (x2 : Int32) (x3 : Int32) (μ : XMu), XB L xs 184 37 [some (.ref 32), some (.int x1), some (.int x2), some (.int x3), (xdl d4)] [] μ (k37 x1 x2 x3 μ)) (d4 : Option Int32) (x1 : Int32) (x2 : Int32) (x3 : Int32) (s0 : Int32) (s1 : Int32) (μ : XMu) : XB L xs 184 70 [some (.ref 32), some (.int x1), some (.int x2), some (.int x3), (xdl d4)] [(.int s1), (.int s0)] μ (yM_sendTo_b70 k37 x1 x2 x3 s0 s1 μ) := by
  unfold yM_sendTo_b70
  refine XB.icmp (P := s1 ≤ s0) rfl rfl rfl (fun c70 => ?_) (fun c70 => ?_)
  · exact yM_sendTo_b137_ok  (d4) x1 x2 x3 μ
  · refine XB.go 5 (pc' := 82) (ls' := [some (.ref 32), some (.int x1), some (.int x2), some (.int x3), (xdl d4)]) (st' := [(.int x1), (.ref 36), (.int (μ.2.1 32 10))]) (μ' := μ) rfl ?_
    refine XB.gd (pc' := 83) (ls' := [some (.ref 32), some (.int x1), some (.int x2), some (.int x3), (xdl d4)]) (st' := [(.int (μ.2.1 36 (x1).toNatClampNeg)), (.int (μ.2.1 32 10))]) (μ' := μ) rfl rfl rfl (fun hb => xbT hb) ?_
    refine XB.go 6 (pc' := 92) (ls' := [some (.ref 32), some (.int x1), some (.int x2), some (.int x3), some (.int (((μ.2.1 32 10) - (μ.2.1 36 (x1).toNatClampNeg)) + (1 : Int32)))]) (st' := [(.int (6 : Int32)), (.int (((μ.2.1 32 10) - (μ.2.1 36 (x1).toNatClampNeg)) + (1 : Int32)))]) (μ' := μ) rfl ?_
    refine XB.icmp (P := (((μ.2.1 32 10) - (μ.2.1 36 (x1).toNatClampNeg)) + (1 : Int32)) ≤ (6 : Int32)) rfl rfl rfl (fun c92 => ?_) (fun c92 => ?_)
    · refine XB.go 1 (pc' := 102) (ls' := [some (.ref 32), some (.int x1), some (.int x2), some (.int x3), some (.int (((μ.2.1 32 10) - (μ.2.1 36 (x1).toNatClampNeg)) + (1 : Int32)))]) (st' := [(.int (((μ.2.1 32 10) - (μ.2.1 36 (x1).toNatClampNeg)) + (1 : Int32)))]) (μ' := μ) rfl ?_
      exact yM_sendTo_b102_ok k37 hk37 (some x3) (some (((μ.2.1 32 10) - (μ.2.1 36 (x1).toNatClampNeg)) + (1 : Int32))) x1 x2 (((μ.2.1 32 10) - (μ.2.1 36 (x1).toNatClampNeg)) + (1 : Int32)) μ
    · refine XB.go 2 (pc' := 102) (ls' := [some (.ref 32), some (.int x1), some (.int x2), some (.int x3), some (.int (((μ.2.1 32 10) - (μ.2.1 36 (x1).toNatClampNeg)) + (1 : Int32)))]) (st' := [(.int (6 : Int32))]) (μ' := μ) rfl ?_
      exact yM_sendTo_b102_ok k37 hk37 (some x3) (some (((μ.2.1 32 10) - (μ.2.1 36 (x1).toNatClampNeg)) + (1 : Int32))) x1 x2 (6 : Int32) μ
def yM_sendTo_b37 (k37 : Int32 → Int32 → Int32 → XMu → XRes) (x1 : Int32) (x2 : Int32) (x3 : Int32) (μ : XMu) : XRes := xgd (xin x1 7) ((if (μ.2.1 32 10) < (μ.2.1 36 (x1).toNatClampNeg) then yM_sendTo_b137  x1 x2 x3 μ else xgd (xin x1 7) (xgd (xin x1 7) ((if (μ.2.1 42 (x1).toNatClampNeg) = (0 : Int32) then yM_sendTo_b70 k37 x1 x2 x3 (μ.2.1 38 (x1).toNatClampNeg) (4 : Int32) μ else yM_sendTo_b70 k37 x1 x2 x3 (μ.2.1 38 (x1).toNatClampNeg) (1 : Int32) μ)))))
theorem yM_sendTo_b37_ok {L : Nat} {xs : Nat → Int32} (k37 : Int32 → Int32 → Int32 → XMu → XRes) (hk37 : ∀ (d4 : Option Int32) (x1 : Int32) (x2 : Int32) (x3 : Int32) (μ : XMu), XB L xs 184 37 [some (.ref 32), some (.int x1), some (.int x2), some (.int x3), (xdl d4)] [] μ (k37 x1 x2 x3 μ)) (d4 : Option Int32) (x1 : Int32) (x2 : Int32) (x3 : Int32) (μ : XMu) : XB L xs 184 37 [some (.ref 32), some (.int x1), some (.int x2), some (.int x3), (xdl d4)] [] μ (yM_sendTo_b37 k37 x1 x2 x3 μ) := by
  unfold yM_sendTo_b37
  refine XB.go 3 (pc' := 42) (ls' := [some (.ref 32), some (.int x1), some (.int x2), some (.int x3), (xdl d4)]) (st' := [(.int x1), (.ref 36)]) (μ' := μ) rfl ?_
  refine XB.gd (pc' := 43) (ls' := [some (.ref 32), some (.int x1), some (.int x2), some (.int x3), (xdl d4)]) (st' := [(.int (μ.2.1 36 (x1).toNatClampNeg))]) (μ' := μ) rfl rfl rfl (fun hb => xbT hb) ?_
  refine XB.go 2 (pc' := 47) (ls' := [some (.ref 32), some (.int x1), some (.int x2), some (.int x3), (xdl d4)]) (st' := [(.int (μ.2.1 32 10)), (.int (μ.2.1 36 (x1).toNatClampNeg))]) (μ' := μ) rfl ?_
  refine XB.icmp (P := (μ.2.1 32 10) < (μ.2.1 36 (x1).toNatClampNeg)) rfl rfl rfl (fun c47 => ?_) (fun c47 => ?_)
  · exact yM_sendTo_b137_ok  (d4) x1 x2 x3 μ
  · refine XB.go 3 (pc' := 55) (ls' := [some (.ref 32), some (.int x1), some (.int x2), some (.int x3), (xdl d4)]) (st' := [(.int x1), (.ref 38)]) (μ' := μ) rfl ?_
    refine XB.gd (pc' := 56) (ls' := [some (.ref 32), some (.int x1), some (.int x2), some (.int x3), (xdl d4)]) (st' := [(.int (μ.2.1 38 (x1).toNatClampNeg))]) (μ' := μ) rfl rfl rfl (fun hb => xbT hb) ?_
    refine XB.go 3 (pc' := 61) (ls' := [some (.ref 32), some (.int x1), some (.int x2), some (.int x3), (xdl d4)]) (st' := [(.int x1), (.ref 42), (.int (μ.2.1 38 (x1).toNatClampNeg))]) (μ' := μ) rfl ?_
    refine XB.gd (pc' := 62) (ls' := [some (.ref 32), some (.int x1), some (.int x2), some (.int x3), (xdl d4)]) (st' := [(.int (μ.2.1 42 (x1).toNatClampNeg)), (.int (μ.2.1 38 (x1).toNatClampNeg))]) (μ' := μ) rfl rfl rfl (fun hb => xbT hb) ?_
    refine XB.ifz (P := (μ.2.1 42 (x1).toNatClampNeg) = (0 : Int32)) rfl rfl rfl (fun c62 => ?_) (fun c62 => ?_)
    · refine XB.go 1 (pc' := 70) (ls' := [some (.ref 32), some (.int x1), some (.int x2), some (.int x3), (xdl d4)]) (st' := [(.int (4 : Int32)), (.int (μ.2.1 38 (x1).toNatClampNeg))]) (μ' := μ) rfl ?_
      exact yM_sendTo_b70_ok k37 hk37 (d4) x1 x2 x3 (μ.2.1 38 (x1).toNatClampNeg) (4 : Int32) μ
    · refine XB.go 2 (pc' := 70) (ls' := [some (.ref 32), some (.int x1), some (.int x2), some (.int x3), (xdl d4)]) (st' := [(.int (1 : Int32)), (.int (μ.2.1 38 (x1).toNatClampNeg))]) (μ' := μ) rfl ?_
      exact yM_sendTo_b70_ok k37 hk37 (d4) x1 x2 x3 (μ.2.1 38 (x1).toNatClampNeg) (1 : Int32) μ
def yM_sendTo_b37_L  : Nat → Int32 → Int32 → Int32 → XMu → XRes
  | 0 => fun _ _ _ _ => none
  | n + 1 => yM_sendTo_b37 (yM_sendTo_b37_L  n)
theorem yM_sendTo_b37_Lok {L : Nat} {xs : Nat → Int32}  : ∀ (n : Nat) (d4 : Option Int32) (x1 : Int32) (x2 : Int32) (x3 : Int32) (μ : XMu), XB L xs 184 37 [some (.ref 32), some (.int x1), some (.int x2), some (.int x3), (xdl d4)] [] μ (yM_sendTo_b37_L  n x1 x2 x3 μ) := by
  intro n
  induction n with
  | zero => intro d4 x1 x2 x3 μ r h; cases h
  | succ n ih => intro d4 x1 x2 x3 μ; exact yM_sendTo_b37_ok (yM_sendTo_b37_L  n) ih d4 x1 x2 x3 μ
def yM_sendTo (a1 : Int32) (a2 : Int32) (μ : XMu) : XRes := xgd (xin a1 7) ((if (μ.2.1 32 9) < (μ.2.1 36 (a1).toNatClampNeg) then yM_sendTo_b37_L  1000 a1 a2 (0 : Int32) μ else xgd (xin a1 7) ((if ¬ (μ.2.1 38 (a1).toNatClampNeg) = (0 : Int32) then some (.inl none, μ) else xgd (xin a1 7) (xbv (yM_sendPiece a1 (μ.1, (xuI μ.2.1 38 (a1).toNatClampNeg (1 : Int32)), μ.2.2)) (fun m3 => some (.inl none, m3)))))))
theorem yM_sendTo_ok {L : Nat} {xs : Nat → Int32} (a1 : Int32) (a2 : Int32) (μ : XMu) : XB L xs 184 0 [some (.ref 32), some (.int a1), some (.int a2), none, none] [] μ (yM_sendTo a1 a2 μ) := by
  unfold yM_sendTo
  refine XB.go 3 (pc' := 5) (ls' := [some (.ref 32), some (.int a1), some (.int a2), none, none]) (st' := [(.int a1), (.ref 36)]) (μ' := μ) rfl ?_
  refine XB.gd (pc' := 6) (ls' := [some (.ref 32), some (.int a1), some (.int a2), none, none]) (st' := [(.int (μ.2.1 36 (a1).toNatClampNeg))]) (μ' := μ) rfl rfl rfl (fun hb => xbT hb) ?_
  refine XB.go 2 (pc' := 10) (ls' := [some (.ref 32), some (.int a1), some (.int a2), none, none]) (st' := [(.int (μ.2.1 32 9)), (.int (μ.2.1 36 (a1).toNatClampNeg))]) (μ' := μ) rfl ?_
  refine XB.icmp (P := (μ.2.1 32 9) < (μ.2.1 36 (a1).toNatClampNeg)) rfl rfl rfl (fun c10 => ?_) (fun c10 => ?_)
  · refine XB.go 2 (pc' := 37) (ls' := [some (.ref 32), some (.int a1), some (.int a2), some (.int (0 : Int32)), none]) (st' := []) (μ' := μ) rfl ?_
    exact yM_sendTo_b37_Lok  1000 (none) a1 a2 (0 : Int32) μ
  · refine XB.go 3 (pc' := 18) (ls' := [some (.ref 32), some (.int a1), some (.int a2), none, none]) (st' := [(.int a1), (.ref 38)]) (μ' := μ) rfl ?_
    refine XB.gd (pc' := 19) (ls' := [some (.ref 32), some (.int a1), some (.int a2), none, none]) (st' := [(.int (μ.2.1 38 (a1).toNatClampNeg))]) (μ' := μ) rfl rfl rfl (fun hb => xbT hb) ?_
    refine XB.ifz (P := ¬ (μ.2.1 38 (a1).toNatClampNeg) = (0 : Int32)) rfl rfl rfl (fun c19 => ?_) (fun c19 => ?_)
    · exact XB.fin rfl
    · refine XB.go 4 (pc' := 28) (ls' := [some (.ref 32), some (.int a1), some (.int a2), none, none]) (st' := [(.int (1 : Int32)), (.int a1), (.ref 38)]) (μ' := μ) rfl ?_
      refine XB.gd (pc' := 29) (ls' := [some (.ref 32), some (.int a1), some (.int a2), none, none]) (st' := []) (μ' := (μ.1, (xuI μ.2.1 38 (a1).toNatClampNeg (1 : Int32)), μ.2.2)) rfl rfl rfl (fun hb => xbT hb) ?_
      refine XB.go 2 (pc' := 31) (ls' := [some (.ref 32), some (.int a1), some (.int a2), none, none]) (st' := [(.int a1), (.ref 32)]) (μ' := (μ.1, (xuI μ.2.1 38 (a1).toNatClampNeg (1 : Int32)), μ.2.2)) rfl ?_
      refine XB.cv rfl rfl rfl rfl rfl (yM_sendPiece_ok a1 (μ.1, (xuI μ.2.1 38 (a1).toNatClampNeg (1 : Int32)), μ.2.2)) (fun m3 => ?_)
      exact XB.fin rfl
/-- LogServerModel.sendAll(Z)V -/
def yM_sendAll_b2 (k2 : Int32 → Int32 → XMu → XRes) (x1 : Int32) (x2 : Int32) (μ : XMu) : XRes := (if (7 : Int32) ≤ x2 then some (.inl none, μ) else xbi (yM_peers μ) (fun r2 m1 => (if (yM_has r2 x2) = (0 : Int32) then k2 x1 (x2 + (1 : Int32)) m1 else xbv (yM_sendTo x2 x1 m1) (fun m3 => k2 x1 (x2 + (1 : Int32)) m3))))
theorem yM_sendAll_b2_ok {L : Nat} {xs : Nat → Int32} (k2 : Int32 → Int32 → XMu → XRes) (hk2 : ∀  (x1 : Int32) (x2 : Int32) (μ : XMu), XB L xs 185 2 [some (.ref 32), some (.int x1), some (.int x2)] [] μ (k2 x1 x2 μ))  (x1 : Int32) (x2 : Int32) (μ : XMu) : XB L xs 185 2 [some (.ref 32), some (.int x1), some (.int x2)] [] μ (yM_sendAll_b2 k2 x1 x2 μ) := by
  unfold yM_sendAll_b2
  refine XB.go 2 (pc' := 5) (ls' := [some (.ref 32), some (.int x1), some (.int x2)]) (st' := [(.int (7 : Int32)), (.int x2)]) (μ' := μ) rfl ?_
  refine XB.icmp (P := (7 : Int32) ≤ x2) rfl rfl rfl (fun c5 => ?_) (fun c5 => ?_)
  · exact XB.fin rfl
  · refine XB.go 1 (pc' := 9) (ls' := [some (.ref 32), some (.int x1), some (.int x2)]) (st' := [(.ref 32)]) (μ' := μ) rfl ?_
    refine XB.ci rfl rfl rfl rfl rfl (yM_peers_ok μ) (fun r2 m1 => ?_)
    refine XB.go 1 (pc' := 13) (ls' := [some (.ref 32), some (.int x1), some (.int x2)]) (st' := [(.int x2), (.int r2)]) (μ' := m1) rfl ?_
    refine XB.cp rfl rfl rfl (yM_has_ok r2 x2 m1) ?_
    refine XB.ifz (P := (yM_has r2 x2) = (0 : Int32)) rfl rfl rfl (fun c16 => ?_) (fun c16 => ?_)
    · refine XB.go 2 (pc' := 2) (ls' := [some (.ref 32), some (.int x1), some (.int (x2 + (1 : Int32)))]) (st' := []) (μ' := m1) rfl ?_
      exact hk2  x1 (x2 + (1 : Int32)) m1
    · refine XB.go 3 (pc' := 22) (ls' := [some (.ref 32), some (.int x1), some (.int x2)]) (st' := [(.int x1), (.int x2), (.ref 32)]) (μ' := m1) rfl ?_
      refine XB.cv rfl rfl rfl rfl rfl (yM_sendTo_ok x2 x1 m1) (fun m3 => ?_)
      refine XB.go 2 (pc' := 2) (ls' := [some (.ref 32), some (.int x1), some (.int (x2 + (1 : Int32)))]) (st' := []) (μ' := m3) rfl ?_
      exact hk2  x1 (x2 + (1 : Int32)) m3
def yM_sendAll_b2_L  : Nat → Int32 → Int32 → XMu → XRes
  | 0 => fun _ _ _ => none
  | n + 1 => yM_sendAll_b2 (yM_sendAll_b2_L  n)
theorem yM_sendAll_b2_Lok {L : Nat} {xs : Nat → Int32}  : ∀ (n : Nat)  (x1 : Int32) (x2 : Int32) (μ : XMu), XB L xs 185 2 [some (.ref 32), some (.int x1), some (.int x2)] [] μ (yM_sendAll_b2_L  n x1 x2 μ) := by
  intro n
  induction n with
  | zero => intro  x1 x2 μ r h; cases h
  | succ n ih => intro  x1 x2 μ; exact yM_sendAll_b2_ok (yM_sendAll_b2_L  n) ih  x1 x2 μ
def yM_sendAll (a1 : Int32) (μ : XMu) : XRes := yM_sendAll_b2_L  1000 a1 (0 : Int32) μ
theorem yM_sendAll_ok {L : Nat} {xs : Nat → Int32} (a1 : Int32) (μ : XMu) : XB L xs 185 0 [some (.ref 32), some (.int a1), none] [] μ (yM_sendAll a1 μ) := by
  unfold yM_sendAll
  refine XB.go 2 (pc' := 2) (ls' := [some (.ref 32), some (.int a1), some (.int (0 : Int32))]) (st' := []) (μ' := μ) rfl ?_
  exact yM_sendAll_b2_Lok  1000  a1 (0 : Int32) μ
/-- LogServerModel.reads()V -/
def yM_reads_b17 (k17 : Int32 → Int32 → XMu → XRes) (x1 : Int32) (x2 : Int32) (μ : XMu) : XRes := (if (32 : Int32) ≤ x2 then some (.inl none, μ) else xbi (yM_callWaits x2 μ) (fun r4 m3 => (if r4 = (0 : Int32) then k17 x1 (x2 + (1 : Int32)) m3 else xgd (xin x2 32) ((if (m3.2.1 55 (x2).toNatClampNeg) = (-1 : Int32) then k17 x1 (x2 + (1 : Int32)) m3 else xgd (xin x2 32) ((if (m3.2.1 32 18) < (m3.2.1 53 (x2).toNatClampNeg) then k17 x1 (x2 + (1 : Int32)) m3 else xgd (xin x2 32) ((if x1 < (m3.2.1 55 (x2).toNatClampNeg) then k17 x1 (x2 + (1 : Int32)) m3 else xbv (yM_settle x2 (1 : Int32) m3) (fun m5 => k17 x1 (x2 + (1 : Int32)) m5))))))))))
theorem yM_reads_b17_ok {L : Nat} {xs : Nat → Int32} (k17 : Int32 → Int32 → XMu → XRes) (hk17 : ∀  (x1 : Int32) (x2 : Int32) (μ : XMu), XB L xs 186 17 [some (.ref 32), some (.int x1), some (.int x2)] [] μ (k17 x1 x2 μ))  (x1 : Int32) (x2 : Int32) (μ : XMu) : XB L xs 186 17 [some (.ref 32), some (.int x1), some (.int x2)] [] μ (yM_reads_b17 k17 x1 x2 μ) := by
  unfold yM_reads_b17
  refine XB.go 2 (pc' := 20) (ls' := [some (.ref 32), some (.int x1), some (.int x2)]) (st' := [(.int (32 : Int32)), (.int x2)]) (μ' := μ) rfl ?_
  refine XB.icmp (P := (32 : Int32) ≤ x2) rfl rfl rfl (fun c20 => ?_) (fun c20 => ?_)
  · exact XB.fin rfl
  · refine XB.go 2 (pc' := 25) (ls' := [some (.ref 32), some (.int x1), some (.int x2)]) (st' := [(.int x2), (.ref 32)]) (μ' := μ) rfl ?_
    refine XB.ci rfl rfl rfl rfl rfl (yM_callWaits_ok x2 μ) (fun r4 m3 => ?_)
    refine XB.ifz (P := r4 = (0 : Int32)) rfl rfl rfl (fun c28 => ?_) (fun c28 => ?_)
    · refine XB.go 2 (pc' := 17) (ls' := [some (.ref 32), some (.int x1), some (.int (x2 + (1 : Int32)))]) (st' := []) (μ' := m3) rfl ?_
      exact hk17  x1 (x2 + (1 : Int32)) m3
    · refine XB.go 3 (pc' := 36) (ls' := [some (.ref 32), some (.int x1), some (.int x2)]) (st' := [(.int x2), (.ref 55)]) (μ' := m3) rfl ?_
      refine XB.gd (pc' := 37) (ls' := [some (.ref 32), some (.int x1), some (.int x2)]) (st' := [(.int (m3.2.1 55 (x2).toNatClampNeg))]) (μ' := m3) rfl rfl rfl (fun hb => xbT hb) ?_
      refine XB.go 1 (pc' := 38) (ls' := [some (.ref 32), some (.int x1), some (.int x2)]) (st' := [(.int (-1 : Int32)), (.int (m3.2.1 55 (x2).toNatClampNeg))]) (μ' := m3) rfl ?_
      refine XB.icmp (P := (m3.2.1 55 (x2).toNatClampNeg) = (-1 : Int32)) rfl rfl rfl (fun c38 => ?_) (fun c38 => ?_)
      · refine XB.go 2 (pc' := 17) (ls' := [some (.ref 32), some (.int x1), some (.int (x2 + (1 : Int32)))]) (st' := []) (μ' := m3) rfl ?_
        exact hk17  x1 (x2 + (1 : Int32)) m3
      · refine XB.go 5 (pc' := 50) (ls' := [some (.ref 32), some (.int x1), some (.int x2)]) (st' := [(.int x2), (.ref 53), (.int (m3.2.1 32 18))]) (μ' := m3) rfl ?_
        refine XB.gd (pc' := 51) (ls' := [some (.ref 32), some (.int x1), some (.int x2)]) (st' := [(.int (m3.2.1 53 (x2).toNatClampNeg)), (.int (m3.2.1 32 18))]) (μ' := m3) rfl rfl rfl (fun hb => xbT hb) ?_
        refine XB.icmp (P := (m3.2.1 32 18) < (m3.2.1 53 (x2).toNatClampNeg)) rfl rfl rfl (fun c51 => ?_) (fun c51 => ?_)
        · refine XB.go 2 (pc' := 17) (ls' := [some (.ref 32), some (.int x1), some (.int (x2 + (1 : Int32)))]) (st' := []) (μ' := m3) rfl ?_
          exact hk17  x1 (x2 + (1 : Int32)) m3
        · refine XB.go 4 (pc' := 60) (ls' := [some (.ref 32), some (.int x1), some (.int x2)]) (st' := [(.int x2), (.ref 55), (.int x1)]) (μ' := m3) rfl ?_
          refine XB.gd (pc' := 61) (ls' := [some (.ref 32), some (.int x1), some (.int x2)]) (st' := [(.int (m3.2.1 55 (x2).toNatClampNeg)), (.int x1)]) (μ' := m3) rfl rfl rfl (fun hb => xbT hb) ?_
          refine XB.icmp (P := x1 < (m3.2.1 55 (x2).toNatClampNeg)) rfl rfl rfl (fun c61 => ?_) (fun c61 => ?_)
          · refine XB.go 2 (pc' := 17) (ls' := [some (.ref 32), some (.int x1), some (.int (x2 + (1 : Int32)))]) (st' := []) (μ' := m3) rfl ?_
            exact hk17  x1 (x2 + (1 : Int32)) m3
          · refine XB.go 3 (pc' := 67) (ls' := [some (.ref 32), some (.int x1), some (.int x2)]) (st' := [(.int (1 : Int32)), (.int x2), (.ref 32)]) (μ' := m3) rfl ?_
            refine XB.cv rfl rfl rfl rfl rfl (yM_settle_ok x2 (1 : Int32) m3) (fun m5 => ?_)
            refine XB.go 2 (pc' := 17) (ls' := [some (.ref 32), some (.int x1), some (.int (x2 + (1 : Int32)))]) (st' := []) (μ' := m5) rfl ?_
            exact hk17  x1 (x2 + (1 : Int32)) m5
def yM_reads_b17_L  : Nat → Int32 → Int32 → XMu → XRes
  | 0 => fun _ _ _ => none
  | n + 1 => yM_reads_b17 (yM_reads_b17_L  n)
theorem yM_reads_b17_Lok {L : Nat} {xs : Nat → Int32}  : ∀ (n : Nat)  (x1 : Int32) (x2 : Int32) (μ : XMu), XB L xs 186 17 [some (.ref 32), some (.int x1), some (.int x2)] [] μ (yM_reads_b17_L  n x1 x2 μ) := by
  intro n
  induction n with
  | zero => intro  x1 x2 μ r h; cases h
  | succ n ih => intro  x1 x2 μ; exact yM_reads_b17_ok (yM_reads_b17_L  n) ih  x1 x2 μ
def yM_reads  (μ : XMu) : XRes := (if (μ.2.1 32 15) = (3 : Int32) then xbi (yM_agreed (2 : Int32) μ) (fun r2 m1 => yM_reads_b17_L  1000 r2 (0 : Int32) m1) else some (.inl none, μ))
theorem yM_reads_ok {L : Nat} {xs : Nat → Int32}  (μ : XMu) : XB L xs 186 0 [some (.ref 32), none, none] [] μ (yM_reads  μ) := by
  unfold yM_reads
  refine XB.go 3 (pc' := 5) (ls' := [some (.ref 32), none, none]) (st' := [(.int (3 : Int32)), (.int (μ.2.1 32 15))]) (μ' := μ) rfl ?_
  refine XB.icmp (P := (μ.2.1 32 15) = (3 : Int32)) rfl rfl rfl (fun c5 => ?_) (fun c5 => ?_)
  · refine XB.go 2 (pc' := 11) (ls' := [some (.ref 32), none, none]) (st' := [(.int (2 : Int32)), (.ref 32)]) (μ' := μ) rfl ?_
    refine XB.ci rfl rfl rfl rfl rfl (yM_agreed_ok (2 : Int32) μ) (fun r2 m1 => ?_)
    refine XB.go 3 (pc' := 17) (ls' := [some (.ref 32), some (.int r2), some (.int (0 : Int32))]) (st' := []) (μ' := m1) rfl ?_
    exact yM_reads_b17_Lok  1000  r2 (0 : Int32) m1
  · exact XB.fin rfl
/-- LogServerModel.beat()V -/
def yM_beat_b125   (μ : XMu) : XRes := xgd (xin (μ.2.1 32 1) 7) (xgd (xin (μ.2.1 32 1) 7) (xgd (xin (μ.2.1 32 1) 7) (xbv (yM_sendAll (1 : Int32) (μ.1, (xuI (xuI (xuI μ.2.1 37 ((μ.2.1 32 1)).toNatClampNeg (μ.2.1 32 19)) 41 ((μ.2.1 32 1)).toNatClampNeg (μ.2.1 32 3)) 40 ((μ.2.1 32 1)).toNatClampNeg (μ.2.1 32 26)), μ.2.2)) (fun m1 => xbv (yM_reads m1) (fun m2 => some (.inl none, m2))))))
theorem yM_beat_b125_ok {L : Nat} {xs : Nat → Int32}  (d1 : Option Int32)  (μ : XMu) : XB L xs 187 125 [some (.ref 32), (xdl d1)] [] μ (yM_beat_b125   μ) := by
  unfold yM_beat_b125
  refine XB.go 6 (pc' := 137) (ls' := [some (.ref 32), (xdl d1)]) (st' := [(.int (μ.2.1 32 19)), (.int (μ.2.1 32 1)), (.ref 37)]) (μ' := μ) rfl ?_
  refine XB.gd (pc' := 138) (ls' := [some (.ref 32), (xdl d1)]) (st' := []) (μ' := (μ.1, (xuI μ.2.1 37 ((μ.2.1 32 1)).toNatClampNeg (μ.2.1 32 19)), μ.2.2)) rfl rfl rfl (fun hb => xbT hb) ?_
  refine XB.go 6 (pc' := 150) (ls' := [some (.ref 32), (xdl d1)]) (st' := [(.int (μ.2.1 32 3)), (.int (μ.2.1 32 1)), (.ref 41)]) (μ' := (μ.1, (xuI μ.2.1 37 ((μ.2.1 32 1)).toNatClampNeg (μ.2.1 32 19)), μ.2.2)) rfl ?_
  refine XB.gd (pc' := 151) (ls' := [some (.ref 32), (xdl d1)]) (st' := []) (μ' := (μ.1, (xuI (xuI μ.2.1 37 ((μ.2.1 32 1)).toNatClampNeg (μ.2.1 32 19)) 41 ((μ.2.1 32 1)).toNatClampNeg (μ.2.1 32 3)), μ.2.2)) rfl rfl rfl (fun hb => xbT hb) ?_
  refine XB.go 6 (pc' := 163) (ls' := [some (.ref 32), (xdl d1)]) (st' := [(.int (μ.2.1 32 26)), (.int (μ.2.1 32 1)), (.ref 40)]) (μ' := (μ.1, (xuI (xuI μ.2.1 37 ((μ.2.1 32 1)).toNatClampNeg (μ.2.1 32 19)) 41 ((μ.2.1 32 1)).toNatClampNeg (μ.2.1 32 3)), μ.2.2)) rfl ?_
  refine XB.gd (pc' := 164) (ls' := [some (.ref 32), (xdl d1)]) (st' := []) (μ' := (μ.1, (xuI (xuI (xuI μ.2.1 37 ((μ.2.1 32 1)).toNatClampNeg (μ.2.1 32 19)) 41 ((μ.2.1 32 1)).toNatClampNeg (μ.2.1 32 3)) 40 ((μ.2.1 32 1)).toNatClampNeg (μ.2.1 32 26)), μ.2.2)) rfl rfl rfl (fun hb => xbT hb) ?_
  refine XB.go 2 (pc' := 166) (ls' := [some (.ref 32), (xdl d1)]) (st' := [(.int (1 : Int32)), (.ref 32)]) (μ' := (μ.1, (xuI (xuI (xuI μ.2.1 37 ((μ.2.1 32 1)).toNatClampNeg (μ.2.1 32 19)) 41 ((μ.2.1 32 1)).toNatClampNeg (μ.2.1 32 3)) 40 ((μ.2.1 32 1)).toNatClampNeg (μ.2.1 32 26)), μ.2.2)) rfl ?_
  refine XB.cv rfl rfl rfl rfl rfl (yM_sendAll_ok (1 : Int32) (μ.1, (xuI (xuI (xuI μ.2.1 37 ((μ.2.1 32 1)).toNatClampNeg (μ.2.1 32 19)) 41 ((μ.2.1 32 1)).toNatClampNeg (μ.2.1 32 3)) 40 ((μ.2.1 32 1)).toNatClampNeg (μ.2.1 32 26)), μ.2.2)) (fun m1 => ?_)
  refine XB.go 1 (pc' := 170) (ls' := [some (.ref 32), (xdl d1)]) (st' := [(.ref 32)]) (μ' := m1) rfl ?_
  refine XB.cv rfl rfl rfl rfl rfl (yM_reads_ok m1) (fun m2 => ?_)
  exact XB.fin rfl
def yM_beat_b49 (k49 : Int32 → XMu → XRes) (x1 : Int32) (μ : XMu) : XRes := (if (7 : Int32) ≤ x1 then yM_beat_b125  μ else xbi (yM_peers μ) (fun r4 m3 => (if (yM_has r4 x1) = (0 : Int32) then xgd (xin x1 7) (k49 (x1 + (1 : Int32)) (m3.1, (xuI m3.2.1 43 (x1).toNatClampNeg (0 : Int32)), m3.2.2)) else xgd (xin x1 7) ((if (m3.2.1 38 (x1).toNatClampNeg) ≤ (0 : Int32) then xgd (xin x1 7) (k49 (x1 + (1 : Int32)) (m3.1, (xuI m3.2.1 43 (x1).toNatClampNeg (0 : Int32)), m3.2.2)) else xgd (xin x1 7) ((if ¬ (m3.2.1 43 (x1).toNatClampNeg) = (0 : Int32) then xgd (xin x1 7) (k49 (x1 + (1 : Int32)) (m3.1, (xuI m3.2.1 43 (x1).toNatClampNeg (0 : Int32)), m3.2.2)) else xgd (xin x1 7) (xgd (xin x1 7) (xgd (xin x1 7) (xgd (xin x1 7) (xgd (xin x1 7) (k49 (x1 + (1 : Int32)) (m3.1, (xuI (xuI (xuI (xuI m3.2.1 38 (x1).toNatClampNeg (0 : Int32)) 42 (x1).toNatClampNeg (1 : Int32)) 36 (x1).toNatClampNeg ((m3.2.1 37 (x1).toNatClampNeg) + (1 : Int32))) 43 (x1).toNatClampNeg (0 : Int32)), m3.2.2)))))))))))))
theorem yM_beat_b49_ok {L : Nat} {xs : Nat → Int32} (k49 : Int32 → XMu → XRes) (hk49 : ∀  (x1 : Int32) (μ : XMu), XB L xs 187 49 [some (.ref 32), some (.int x1)] [] μ (k49 x1 μ))  (x1 : Int32) (μ : XMu) : XB L xs 187 49 [some (.ref 32), some (.int x1)] [] μ (yM_beat_b49 k49 x1 μ) := by
  unfold yM_beat_b49
  refine XB.go 2 (pc' := 52) (ls' := [some (.ref 32), some (.int x1)]) (st' := [(.int (7 : Int32)), (.int x1)]) (μ' := μ) rfl ?_
  refine XB.icmp (P := (7 : Int32) ≤ x1) rfl rfl rfl (fun c52 => ?_) (fun c52 => ?_)
  · exact yM_beat_b125_ok  (some x1) μ
  · refine XB.go 1 (pc' := 56) (ls' := [some (.ref 32), some (.int x1)]) (st' := [(.ref 32)]) (μ' := μ) rfl ?_
    refine XB.ci rfl rfl rfl rfl rfl (yM_peers_ok μ) (fun r4 m3 => ?_)
    refine XB.go 1 (pc' := 60) (ls' := [some (.ref 32), some (.int x1)]) (st' := [(.int x1), (.int r4)]) (μ' := m3) rfl ?_
    refine XB.cp rfl rfl rfl (yM_has_ok r4 x1 m3) ?_
    refine XB.ifz (P := (yM_has r4 x1) = (0 : Int32)) rfl rfl rfl (fun c63 => ?_) (fun c63 => ?_)
    · refine XB.go 4 (pc' := 118) (ls' := [some (.ref 32), some (.int x1)]) (st' := [(.int (0 : Int32)), (.int x1), (.ref 43)]) (μ' := m3) rfl ?_
      refine XB.gd (pc' := 119) (ls' := [some (.ref 32), some (.int x1)]) (st' := []) (μ' := (m3.1, (xuI m3.2.1 43 (x1).toNatClampNeg (0 : Int32)), m3.2.2)) rfl rfl rfl (fun hb => xbT (xbL hb)) ?_
      refine XB.go 2 (pc' := 49) (ls' := [some (.ref 32), some (.int (x1 + (1 : Int32)))]) (st' := []) (μ' := (m3.1, (xuI m3.2.1 43 (x1).toNatClampNeg (0 : Int32)), m3.2.2)) rfl ?_
      exact hk49  (x1 + (1 : Int32)) (m3.1, (xuI m3.2.1 43 (x1).toNatClampNeg (0 : Int32)), m3.2.2)
    · refine XB.go 3 (pc' := 71) (ls' := [some (.ref 32), some (.int x1)]) (st' := [(.int x1), (.ref 38)]) (μ' := m3) rfl ?_
      refine XB.gd (pc' := 72) (ls' := [some (.ref 32), some (.int x1)]) (st' := [(.int (m3.2.1 38 (x1).toNatClampNeg))]) (μ' := m3) rfl rfl rfl (fun hb => xbT hb) ?_
      refine XB.ifz (P := (m3.2.1 38 (x1).toNatClampNeg) ≤ (0 : Int32)) rfl rfl rfl (fun c72 => ?_) (fun c72 => ?_)
      · refine XB.go 4 (pc' := 118) (ls' := [some (.ref 32), some (.int x1)]) (st' := [(.int (0 : Int32)), (.int x1), (.ref 43)]) (μ' := m3) rfl ?_
        refine XB.gd (pc' := 119) (ls' := [some (.ref 32), some (.int x1)]) (st' := []) (μ' := (m3.1, (xuI m3.2.1 43 (x1).toNatClampNeg (0 : Int32)), m3.2.2)) rfl rfl rfl (fun hb => xbT (xbL hb)) ?_
        refine XB.go 2 (pc' := 49) (ls' := [some (.ref 32), some (.int (x1 + (1 : Int32)))]) (st' := []) (μ' := (m3.1, (xuI m3.2.1 43 (x1).toNatClampNeg (0 : Int32)), m3.2.2)) rfl ?_
        exact hk49  (x1 + (1 : Int32)) (m3.1, (xuI m3.2.1 43 (x1).toNatClampNeg (0 : Int32)), m3.2.2)
      · refine XB.go 3 (pc' := 80) (ls' := [some (.ref 32), some (.int x1)]) (st' := [(.int x1), (.ref 43)]) (μ' := m3) rfl ?_
        refine XB.gd (pc' := 81) (ls' := [some (.ref 32), some (.int x1)]) (st' := [(.int (m3.2.1 43 (x1).toNatClampNeg))]) (μ' := m3) rfl rfl rfl (fun hb => xbT hb) ?_
        refine XB.ifz (P := ¬ (m3.2.1 43 (x1).toNatClampNeg) = (0 : Int32)) rfl rfl rfl (fun c81 => ?_) (fun c81 => ?_)
        · refine XB.go 4 (pc' := 118) (ls' := [some (.ref 32), some (.int x1)]) (st' := [(.int (0 : Int32)), (.int x1), (.ref 43)]) (μ' := m3) rfl ?_
          refine XB.gd (pc' := 119) (ls' := [some (.ref 32), some (.int x1)]) (st' := []) (μ' := (m3.1, (xuI m3.2.1 43 (x1).toNatClampNeg (0 : Int32)), m3.2.2)) rfl rfl rfl (fun hb => xbT (xbL hb)) ?_
          refine XB.go 2 (pc' := 49) (ls' := [some (.ref 32), some (.int (x1 + (1 : Int32)))]) (st' := []) (μ' := (m3.1, (xuI m3.2.1 43 (x1).toNatClampNeg (0 : Int32)), m3.2.2)) rfl ?_
          exact hk49  (x1 + (1 : Int32)) (m3.1, (xuI m3.2.1 43 (x1).toNatClampNeg (0 : Int32)), m3.2.2)
        · refine XB.go 4 (pc' := 90) (ls' := [some (.ref 32), some (.int x1)]) (st' := [(.int (0 : Int32)), (.int x1), (.ref 38)]) (μ' := m3) rfl ?_
          refine XB.gd (pc' := 91) (ls' := [some (.ref 32), some (.int x1)]) (st' := []) (μ' := (m3.1, (xuI m3.2.1 38 (x1).toNatClampNeg (0 : Int32)), m3.2.2)) rfl rfl rfl (fun hb => xbT hb) ?_
          refine XB.go 4 (pc' := 97) (ls' := [some (.ref 32), some (.int x1)]) (st' := [(.int (1 : Int32)), (.int x1), (.ref 42)]) (μ' := (m3.1, (xuI m3.2.1 38 (x1).toNatClampNeg (0 : Int32)), m3.2.2)) rfl ?_
          refine XB.gd (pc' := 98) (ls' := [some (.ref 32), some (.int x1)]) (st' := []) (μ' := (m3.1, (xuI (xuI m3.2.1 38 (x1).toNatClampNeg (0 : Int32)) 42 (x1).toNatClampNeg (1 : Int32)), m3.2.2)) rfl rfl rfl (fun hb => xbT (xbL hb)) ?_
          refine XB.go 6 (pc' := 108) (ls' := [some (.ref 32), some (.int x1)]) (st' := [(.int x1), (.ref 37), (.int x1), (.ref 36)]) (μ' := (m3.1, (xuI (xuI m3.2.1 38 (x1).toNatClampNeg (0 : Int32)) 42 (x1).toNatClampNeg (1 : Int32)), m3.2.2)) rfl ?_
          refine XB.gd (pc' := 109) (ls' := [some (.ref 32), some (.int x1)]) (st' := [(.int (m3.2.1 37 (x1).toNatClampNeg)), (.int x1), (.ref 36)]) (μ' := (m3.1, (xuI (xuI m3.2.1 38 (x1).toNatClampNeg (0 : Int32)) 42 (x1).toNatClampNeg (1 : Int32)), m3.2.2)) rfl rfl rfl (fun hb => xbT hb) ?_
          refine XB.go 2 (pc' := 111) (ls' := [some (.ref 32), some (.int x1)]) (st' := [(.int ((m3.2.1 37 (x1).toNatClampNeg) + (1 : Int32))), (.int x1), (.ref 36)]) (μ' := (m3.1, (xuI (xuI m3.2.1 38 (x1).toNatClampNeg (0 : Int32)) 42 (x1).toNatClampNeg (1 : Int32)), m3.2.2)) rfl ?_
          refine XB.gd (pc' := 112) (ls' := [some (.ref 32), some (.int x1)]) (st' := []) (μ' := (m3.1, (xuI (xuI (xuI m3.2.1 38 (x1).toNatClampNeg (0 : Int32)) 42 (x1).toNatClampNeg (1 : Int32)) 36 (x1).toNatClampNeg ((m3.2.1 37 (x1).toNatClampNeg) + (1 : Int32))), m3.2.2)) rfl rfl rfl (fun hb => xbT hb) ?_
          refine XB.go 4 (pc' := 118) (ls' := [some (.ref 32), some (.int x1)]) (st' := [(.int (0 : Int32)), (.int x1), (.ref 43)]) (μ' := (m3.1, (xuI (xuI (xuI m3.2.1 38 (x1).toNatClampNeg (0 : Int32)) 42 (x1).toNatClampNeg (1 : Int32)) 36 (x1).toNatClampNeg ((m3.2.1 37 (x1).toNatClampNeg) + (1 : Int32))), m3.2.2)) rfl ?_
          refine XB.gd (pc' := 119) (ls' := [some (.ref 32), some (.int x1)]) (st' := []) (μ' := (m3.1, (xuI (xuI (xuI (xuI m3.2.1 38 (x1).toNatClampNeg (0 : Int32)) 42 (x1).toNatClampNeg (1 : Int32)) 36 (x1).toNatClampNeg ((m3.2.1 37 (x1).toNatClampNeg) + (1 : Int32))) 43 (x1).toNatClampNeg (0 : Int32)), m3.2.2)) rfl rfl rfl (fun hb => xbT (xbL hb)) ?_
          refine XB.go 2 (pc' := 49) (ls' := [some (.ref 32), some (.int (x1 + (1 : Int32)))]) (st' := []) (μ' := (m3.1, (xuI (xuI (xuI (xuI m3.2.1 38 (x1).toNatClampNeg (0 : Int32)) 42 (x1).toNatClampNeg (1 : Int32)) 36 (x1).toNatClampNeg ((m3.2.1 37 (x1).toNatClampNeg) + (1 : Int32))) 43 (x1).toNatClampNeg (0 : Int32)), m3.2.2)) rfl ?_
          exact hk49  (x1 + (1 : Int32)) (m3.1, (xuI (xuI (xuI (xuI m3.2.1 38 (x1).toNatClampNeg (0 : Int32)) 42 (x1).toNatClampNeg (1 : Int32)) 36 (x1).toNatClampNeg ((m3.2.1 37 (x1).toNatClampNeg) + (1 : Int32))) 43 (x1).toNatClampNeg (0 : Int32)), m3.2.2)
def yM_beat_b49_L  : Nat → Int32 → XMu → XRes
  | 0 => fun _ _ => none
  | n + 1 => yM_beat_b49 (yM_beat_b49_L  n)
theorem yM_beat_b49_Lok {L : Nat} {xs : Nat → Int32}  : ∀ (n : Nat)  (x1 : Int32) (μ : XMu), XB L xs 187 49 [some (.ref 32), some (.int x1)] [] μ (yM_beat_b49_L  n x1 μ) := by
  intro n
  induction n with
  | zero => intro  x1 μ r h; cases h
  | succ n ih => intro  x1 μ; exact yM_beat_b49_ok (yM_beat_b49_L  n) ih  x1 μ
def yM_beat_b26   (μ : XMu) : XRes := yM_beat_b49_L  1000 (0 : Int32) (μ.1, (xuI (xuI μ.2.1 32 21 ((μ.2.1 32 3) + (10 : Int32))) 32 26 ((μ.2.1 32 26) + (1 : Int32))), μ.2.2)
theorem yM_beat_b26_ok {L : Nat} {xs : Nat → Int32}  (d1 : Option Int32)  (μ : XMu) : XB L xs 187 26 [some (.ref 32), (xdl d1)] [] μ (yM_beat_b26   μ) := by
  unfold yM_beat_b26
  refine XB.go 14 (pc' := 49) (ls' := [some (.ref 32), some (.int (0 : Int32))]) (st' := []) (μ' := (μ.1, (xuI (xuI μ.2.1 32 21 ((μ.2.1 32 3) + (10 : Int32))) 32 26 ((μ.2.1 32 26) + (1 : Int32))), μ.2.2)) rfl ?_
  exact yM_beat_b49_Lok  1000  (0 : Int32) (μ.1, (xuI (xuI μ.2.1 32 21 ((μ.2.1 32 3) + (10 : Int32))) 32 26 ((μ.2.1 32 26) + (1 : Int32))), μ.2.2)
def yM_beat  (μ : XMu) : XRes := (if (μ.2.1 32 23) < (0 : Int32) then yM_beat_b26  μ else (if ((μ.2.1 32 3) - (μ.2.1 32 24)) ≤ (50 : Int32) then yM_beat_b26  μ else yM_beat_b26  (μ.1, (xuI μ.2.1 32 23 (-1 : Int32)), μ.2.2)))
theorem yM_beat_ok {L : Nat} {xs : Nat → Int32}  (μ : XMu) : XB L xs 187 0 [some (.ref 32), none] [] μ (yM_beat  μ) := by
  unfold yM_beat
  refine XB.go 2 (pc' := 4) (ls' := [some (.ref 32), none]) (st' := [(.int (μ.2.1 32 23))]) (μ' := μ) rfl ?_
  refine XB.ifz (P := (μ.2.1 32 23) < (0 : Int32)) rfl rfl rfl (fun c4 => ?_) (fun c4 => ?_)
  · exact yM_beat_b26_ok  (none) μ
  · refine XB.go 6 (pc' := 18) (ls' := [some (.ref 32), none]) (st' := [(.int (50 : Int32)), (.int ((μ.2.1 32 3) - (μ.2.1 32 24)))]) (μ' := μ) rfl ?_
    refine XB.icmp (P := ((μ.2.1 32 3) - (μ.2.1 32 24)) ≤ (50 : Int32)) rfl rfl rfl (fun c18 => ?_) (fun c18 => ?_)
    · exact yM_beat_b26_ok  (none) μ
    · refine XB.go 3 (pc' := 26) (ls' := [some (.ref 32), none]) (st' := []) (μ' := (μ.1, (xuI μ.2.1 32 23 (-1 : Int32)), μ.2.2)) rfl ?_
      exact yM_beat_b26_ok  (none) (μ.1, (xuI μ.2.1 32 23 (-1 : Int32)), μ.2.2)
/-- LogServerModel.question(II)V -/
def yM_question_b2 (k2 : Int32 → Int32 → Int32 → XMu → XRes) (x1 : Int32) (x2 : Int32) (x3 : Int32) (μ : XMu) : XRes := (if (7 : Int32) ≤ x3 then some (.inl none, μ) else xbi (yM_voters μ) (fun r2 m1 => (if (yM_has r2 x3) = (0 : Int32) then k2 x1 x2 (x3 + (1 : Int32)) m1 else (if x3 = (m1.2.1 32 1) then k2 x1 x2 (x3 + (1 : Int32)) m1 else xbv (yM_begin x3 x1 x2 m1) (fun m3 => xbv (yM_add (m3.2.1 32 10) m3) (fun m4 => xbi (yM_termAt (m4.2.1 32 10) m4) (fun r6 m5 => xbv (yM_add r6 m5) (fun m7 => xbv (yM_send m7) (fun m8 => k2 x1 x2 (x3 + (1 : Int32)) m8)))))))))
theorem yM_question_b2_ok {L : Nat} {xs : Nat → Int32} (k2 : Int32 → Int32 → Int32 → XMu → XRes) (hk2 : ∀  (x1 : Int32) (x2 : Int32) (x3 : Int32) (μ : XMu), XB L xs 188 2 [some (.ref 32), some (.int x1), some (.int x2), some (.int x3)] [] μ (k2 x1 x2 x3 μ))  (x1 : Int32) (x2 : Int32) (x3 : Int32) (μ : XMu) : XB L xs 188 2 [some (.ref 32), some (.int x1), some (.int x2), some (.int x3)] [] μ (yM_question_b2 k2 x1 x2 x3 μ) := by
  unfold yM_question_b2
  refine XB.go 2 (pc' := 5) (ls' := [some (.ref 32), some (.int x1), some (.int x2), some (.int x3)]) (st' := [(.int (7 : Int32)), (.int x3)]) (μ' := μ) rfl ?_
  refine XB.icmp (P := (7 : Int32) ≤ x3) rfl rfl rfl (fun c5 => ?_) (fun c5 => ?_)
  · exact XB.fin rfl
  · refine XB.go 1 (pc' := 9) (ls' := [some (.ref 32), some (.int x1), some (.int x2), some (.int x3)]) (st' := [(.ref 32)]) (μ' := μ) rfl ?_
    refine XB.ci rfl rfl rfl rfl rfl (yM_voters_ok μ) (fun r2 m1 => ?_)
    refine XB.go 1 (pc' := 13) (ls' := [some (.ref 32), some (.int x1), some (.int x2), some (.int x3)]) (st' := [(.int x3), (.int r2)]) (μ' := m1) rfl ?_
    refine XB.cp rfl rfl rfl (yM_has_ok r2 x3 m1) ?_
    refine XB.ifz (P := (yM_has r2 x3) = (0 : Int32)) rfl rfl rfl (fun c16 => ?_) (fun c16 => ?_)
    · refine XB.go 2 (pc' := 2) (ls' := [some (.ref 32), some (.int x1), some (.int x2), some (.int (x3 + (1 : Int32)))]) (st' := []) (μ' := m1) rfl ?_
      exact hk2  x1 x2 (x3 + (1 : Int32)) m1
    · refine XB.go 3 (pc' := 24) (ls' := [some (.ref 32), some (.int x1), some (.int x2), some (.int x3)]) (st' := [(.int (m1.2.1 32 1)), (.int x3)]) (μ' := m1) rfl ?_
      refine XB.icmp (P := x3 = (m1.2.1 32 1)) rfl rfl rfl (fun c24 => ?_) (fun c24 => ?_)
      · refine XB.go 2 (pc' := 2) (ls' := [some (.ref 32), some (.int x1), some (.int x2), some (.int (x3 + (1 : Int32)))]) (st' := []) (μ' := m1) rfl ?_
        exact hk2  x1 x2 (x3 + (1 : Int32)) m1
      · refine XB.go 4 (pc' := 31) (ls' := [some (.ref 32), some (.int x1), some (.int x2), some (.int x3)]) (st' := [(.int x2), (.int x1), (.int x3), (.ref 32)]) (μ' := m1) rfl ?_
        refine XB.cv rfl rfl rfl rfl rfl (yM_begin_ok x3 x1 x2 m1) (fun m3 => ?_)
        refine XB.go 3 (pc' := 39) (ls' := [some (.ref 32), some (.int x1), some (.int x2), some (.int x3)]) (st' := [(.int (m3.2.1 32 10)), (.ref 32)]) (μ' := m3) rfl ?_
        refine XB.cv rfl rfl rfl rfl rfl (yM_add_ok (m3.2.1 32 10) m3) (fun m4 => ?_)
        refine XB.go 4 (pc' := 48) (ls' := [some (.ref 32), some (.int x1), some (.int x2), some (.int x3)]) (st' := [(.int (m4.2.1 32 10)), (.ref 32), (.ref 32)]) (μ' := m4) rfl ?_
        refine XB.ci rfl rfl rfl rfl rfl (yM_termAt_ok (m4.2.1 32 10) m4) (fun r6 m5 => ?_)
        refine XB.cv rfl rfl rfl rfl rfl (yM_add_ok r6 m5) (fun m7 => ?_)
        refine XB.go 1 (pc' := 55) (ls' := [some (.ref 32), some (.int x1), some (.int x2), some (.int x3)]) (st' := [(.ref 32)]) (μ' := m7) rfl ?_
        refine XB.cv rfl rfl rfl rfl rfl (yM_send_ok m7) (fun m8 => ?_)
        refine XB.go 2 (pc' := 2) (ls' := [some (.ref 32), some (.int x1), some (.int x2), some (.int (x3 + (1 : Int32)))]) (st' := []) (μ' := m8) rfl ?_
        exact hk2  x1 x2 (x3 + (1 : Int32)) m8
def yM_question_b2_L  : Nat → Int32 → Int32 → Int32 → XMu → XRes
  | 0 => fun _ _ _ _ => none
  | n + 1 => yM_question_b2 (yM_question_b2_L  n)
theorem yM_question_b2_Lok {L : Nat} {xs : Nat → Int32}  : ∀ (n : Nat)  (x1 : Int32) (x2 : Int32) (x3 : Int32) (μ : XMu), XB L xs 188 2 [some (.ref 32), some (.int x1), some (.int x2), some (.int x3)] [] μ (yM_question_b2_L  n x1 x2 x3 μ) := by
  intro n
  induction n with
  | zero => intro  x1 x2 x3 μ r h; cases h
  | succ n ih => intro  x1 x2 x3 μ; exact yM_question_b2_ok (yM_question_b2_L  n) ih  x1 x2 x3 μ
def yM_question (a1 : Int32) (a2 : Int32) (μ : XMu) : XRes := yM_question_b2_L  1000 a1 a2 (0 : Int32) μ
theorem yM_question_ok {L : Nat} {xs : Nat → Int32} (a1 : Int32) (a2 : Int32) (μ : XMu) : XB L xs 188 0 [some (.ref 32), some (.int a1), some (.int a2), none] [] μ (yM_question a1 a2 μ) := by
  unfold yM_question
  refine XB.go 2 (pc' := 2) (ls' := [some (.ref 32), some (.int a1), some (.int a2), some (.int (0 : Int32))]) (st' := []) (μ' := μ) rfl ?_
  exact yM_question_b2_Lok  1000  a1 a2 (0 : Int32) μ
/-- LogServerModel.campaign()V -/
def yM_campaign  (μ : XMu) : XRes := xbv (yM_draw (μ.1, (xuI (xuI (xuI (xuI (xuI (xuI μ.2.1 32 15 (2 : Int32)) 32 16 (-1 : Int32)) 32 4 ((μ.2.1 32 4) + (1 : Int32))) 32 5 (μ.2.1 32 1)) 32 14 (1 : Int32)) 32 22 (0 : Int32)), μ.2.2)) (fun m1 => xbv (yM_question (3 : Int32) (m1.2.1 32 4) m1) (fun m2 => some (.inl none, m2)))
theorem yM_campaign_ok {L : Nat} {xs : Nat → Int32}  (μ : XMu) : XB L xs 189 0 [some (.ref 32)] [] μ (yM_campaign  μ) := by
  unfold yM_campaign
  refine XB.go 23 (pc' := 39) (ls' := [some (.ref 32)]) (st' := [(.ref 32)]) (μ' := (μ.1, (xuI (xuI (xuI (xuI (xuI (xuI μ.2.1 32 15 (2 : Int32)) 32 16 (-1 : Int32)) 32 4 ((μ.2.1 32 4) + (1 : Int32))) 32 5 (μ.2.1 32 1)) 32 14 (1 : Int32)) 32 22 (0 : Int32)), μ.2.2)) rfl ?_
  refine XB.cv rfl rfl rfl rfl rfl (yM_draw_ok (μ.1, (xuI (xuI (xuI (xuI (xuI (xuI μ.2.1 32 15 (2 : Int32)) 32 16 (-1 : Int32)) 32 4 ((μ.2.1 32 4) + (1 : Int32))) 32 5 (μ.2.1 32 1)) 32 14 (1 : Int32)) 32 22 (0 : Int32)), μ.2.2)) (fun m1 => ?_)
  refine XB.go 4 (pc' := 48) (ls' := [some (.ref 32)]) (st' := [(.int (m1.2.1 32 4)), (.int (3 : Int32)), (.ref 32)]) (μ' := m1) rfl ?_
  refine XB.cv rfl rfl rfl rfl rfl (yM_question_ok (3 : Int32) (m1.2.1 32 4) m1) (fun m2 => ?_)
  exact XB.fin rfl
/-- LogServerModel.tick(I)Z -/
def yM_tick (a1 : Int32) (μ : XMu) : XRes := (if ¬ (yM_within a1 (1 : Int32) (1000 : Int32)) = (0 : Int32) then (if (μ.2.1 32 21) ≤ ((μ.2.1 32 3) + a1) then (if ¬ (μ.2.1 32 15) = (3 : Int32) then xbv (yM_draw (μ.1, (xuI (xuI μ.2.1 32 0 (0 : Int32)) 32 3 ((μ.2.1 32 3) + a1)), μ.2.2)) (fun m1 => xbi (yM_voters m1) (fun r3 m2 => (if (yM_has r3 (m2.2.1 32 1)) = (0 : Int32) then some (.inl (some (.int (1 : Int32))), m2) else xbv (yM_question (1 : Int32) ((m2.2.1 32 4) + (1 : Int32)) (m2.1, (xuI (xuI (xuI m2.2.1 32 15 (1 : Int32)) 32 16 (-1 : Int32)) 32 22 ((1 : Int32) <<< ((m2.2.1 32 1) &&& 31))), m2.2.2)) (fun m4 => xbi (yM_majority (m4.2.1 32 22) m4) (fun r6 m5 => (if r6 = (0 : Int32) then some (.inl (some (.int (1 : Int32))), m5) else xbv (yM_campaign m5) (fun m7 => some (.inl (some (.int (1 : Int32))), m7)))))))) else xgd (xin (μ.2.1 32 1) 7) (xbi (yM_agreed (1 : Int32) (μ.1, (xuI (xuI (xuI μ.2.1 32 0 (0 : Int32)) 32 3 ((μ.2.1 32 3) + a1)) 41 ((μ.2.1 32 1)).toNatClampNeg ((μ.2.1 32 3) + a1)), μ.2.2)) (fun r9 m8 => (if ((m8.2.1 32 3) - (100 : Int32)) ≤ r9 then xbv (yM_beat m8) (fun m10 => some (.inl (some (.int (1 : Int32))), m10)) else xbv (yM_stepDown (m8.2.1 32 4) (-1 : Int32) m8) (fun m11 => some (.inl (some (.int (1 : Int32))), m11)))))) else some (.inl (some (.int (0 : Int32))), (μ.1, (xuI (xuI μ.2.1 32 0 (0 : Int32)) 32 3 ((μ.2.1 32 3) + a1)), μ.2.2))) else xbi (yM_fail (1 : Int32) (μ.1, (xuI μ.2.1 32 0 (0 : Int32)), μ.2.2)) (fun r13 m12 => (if r13 ≤ (0 : Int32) then some (.inl (some (.int (0 : Int32))), m12) else some (.inl (some (.int (1 : Int32))), m12))))
theorem yM_tick_ok {L : Nat} {xs : Nat → Int32} (a1 : Int32) (μ : XMu) : XB L xs 190 0 [some (.ref 32), some (.int a1)] [] μ (yM_tick a1 μ) := by
  unfold yM_tick
  refine XB.go 6 (pc' := 10) (ls' := [some (.ref 32), some (.int a1)]) (st' := [(.int (1000 : Int32)), (.int (1 : Int32)), (.int a1)]) (μ' := (μ.1, (xuI μ.2.1 32 0 (0 : Int32)), μ.2.2)) rfl ?_
  refine XB.cp rfl rfl rfl (yM_within_ok a1 (1 : Int32) (1000 : Int32) (μ.1, (xuI μ.2.1 32 0 (0 : Int32)), μ.2.2)) ?_
  refine XB.ifz (P := ¬ (yM_within a1 (1 : Int32) (1000 : Int32)) = (0 : Int32)) rfl rfl rfl (fun c13 => ?_) (fun c13 => ?_)
  · refine XB.go 10 (pc' := 48) (ls' := [some (.ref 32), some (.int a1)]) (st' := [(.int ((μ.2.1 32 3) + a1)), (.int (μ.2.1 32 21))]) (μ' := (μ.1, (xuI (xuI μ.2.1 32 0 (0 : Int32)) 32 3 ((μ.2.1 32 3) + a1)), μ.2.2)) rfl ?_
    refine XB.icmp (P := (μ.2.1 32 21) ≤ ((μ.2.1 32 3) + a1)) rfl rfl rfl (fun c48 => ?_) (fun c48 => ?_)
    · refine XB.go 3 (pc' := 58) (ls' := [some (.ref 32), some (.int a1)]) (st' := [(.int (3 : Int32)), (.int (μ.2.1 32 15))]) (μ' := (μ.1, (xuI (xuI μ.2.1 32 0 (0 : Int32)) 32 3 ((μ.2.1 32 3) + a1)), μ.2.2)) rfl ?_
      refine XB.icmp (P := ¬ (μ.2.1 32 15) = (3 : Int32)) rfl rfl rfl (fun c58 => ?_) (fun c58 => ?_)
      · refine XB.go 1 (pc' := 108) (ls' := [some (.ref 32), some (.int a1)]) (st' := [(.ref 32)]) (μ' := (μ.1, (xuI (xuI μ.2.1 32 0 (0 : Int32)) 32 3 ((μ.2.1 32 3) + a1)), μ.2.2)) rfl ?_
        refine XB.cv rfl rfl rfl rfl rfl (yM_draw_ok (μ.1, (xuI (xuI μ.2.1 32 0 (0 : Int32)) 32 3 ((μ.2.1 32 3) + a1)), μ.2.2)) (fun m1 => ?_)
        refine XB.go 1 (pc' := 112) (ls' := [some (.ref 32), some (.int a1)]) (st' := [(.ref 32)]) (μ' := m1) rfl ?_
        refine XB.ci rfl rfl rfl rfl rfl (yM_voters_ok m1) (fun r3 m2 => ?_)
        refine XB.go 2 (pc' := 119) (ls' := [some (.ref 32), some (.int a1)]) (st' := [(.int (m2.2.1 32 1)), (.int r3)]) (μ' := m2) rfl ?_
        refine XB.cp rfl rfl rfl (yM_has_ok r3 (m2.2.1 32 1) m2) ?_
        refine XB.ifz (P := (yM_has r3 (m2.2.1 32 1)) = (0 : Int32)) rfl rfl rfl (fun c122 => ?_) (fun c122 => ?_)
        · refine XB.go 1 (pc' := 172) (ls' := [some (.ref 32), some (.int a1)]) (st' := [(.int (1 : Int32))]) (μ' := m2) rfl ?_
          exact XB.fin rfl
        · refine XB.go 18 (pc' := 153) (ls' := [some (.ref 32), some (.int a1)]) (st' := [(.int ((m2.2.1 32 4) + (1 : Int32))), (.int (1 : Int32)), (.ref 32)]) (μ' := (m2.1, (xuI (xuI (xuI m2.2.1 32 15 (1 : Int32)) 32 16 (-1 : Int32)) 32 22 ((1 : Int32) <<< ((m2.2.1 32 1) &&& 31))), m2.2.2)) rfl ?_
          refine XB.cv rfl rfl rfl rfl rfl (yM_question_ok (1 : Int32) ((m2.2.1 32 4) + (1 : Int32)) (m2.1, (xuI (xuI (xuI m2.2.1 32 15 (1 : Int32)) 32 16 (-1 : Int32)) 32 22 ((1 : Int32) <<< ((m2.2.1 32 1) &&& 31))), m2.2.2)) (fun m4 => ?_)
          refine XB.go 3 (pc' := 161) (ls' := [some (.ref 32), some (.int a1)]) (st' := [(.int (m4.2.1 32 22)), (.ref 32)]) (μ' := m4) rfl ?_
          refine XB.ci rfl rfl rfl rfl rfl (yM_majority_ok (m4.2.1 32 22) m4) (fun r6 m5 => ?_)
          refine XB.ifz (P := r6 = (0 : Int32)) rfl rfl rfl (fun c164 => ?_) (fun c164 => ?_)
          · refine XB.go 1 (pc' := 172) (ls' := [some (.ref 32), some (.int a1)]) (st' := [(.int (1 : Int32))]) (μ' := m5) rfl ?_
            exact XB.fin rfl
          · refine XB.go 1 (pc' := 168) (ls' := [some (.ref 32), some (.int a1)]) (st' := [(.ref 32)]) (μ' := m5) rfl ?_
            refine XB.cv rfl rfl rfl rfl rfl (yM_campaign_ok m5) (fun m7 => ?_)
            refine XB.go 1 (pc' := 172) (ls' := [some (.ref 32), some (.int a1)]) (st' := [(.int (1 : Int32))]) (μ' := m7) rfl ?_
            exact XB.fin rfl
      · refine XB.go 6 (pc' := 73) (ls' := [some (.ref 32), some (.int a1)]) (st' := [(.int ((μ.2.1 32 3) + a1)), (.int (μ.2.1 32 1)), (.ref 41)]) (μ' := (μ.1, (xuI (xuI μ.2.1 32 0 (0 : Int32)) 32 3 ((μ.2.1 32 3) + a1)), μ.2.2)) rfl ?_
        refine XB.gd (pc' := 74) (ls' := [some (.ref 32), some (.int a1)]) (st' := []) (μ' := (μ.1, (xuI (xuI (xuI μ.2.1 32 0 (0 : Int32)) 32 3 ((μ.2.1 32 3) + a1)) 41 ((μ.2.1 32 1)).toNatClampNeg ((μ.2.1 32 3) + a1)), μ.2.2)) rfl rfl rfl (fun hb => xbT hb) ?_
        refine XB.go 2 (pc' := 76) (ls' := [some (.ref 32), some (.int a1)]) (st' := [(.int (1 : Int32)), (.ref 32)]) (μ' := (μ.1, (xuI (xuI (xuI μ.2.1 32 0 (0 : Int32)) 32 3 ((μ.2.1 32 3) + a1)) 41 ((μ.2.1 32 1)).toNatClampNeg ((μ.2.1 32 3) + a1)), μ.2.2)) rfl ?_
        refine XB.ci rfl rfl rfl rfl rfl (yM_agreed_ok (1 : Int32) (μ.1, (xuI (xuI (xuI μ.2.1 32 0 (0 : Int32)) 32 3 ((μ.2.1 32 3) + a1)) 41 ((μ.2.1 32 1)).toNatClampNeg ((μ.2.1 32 3) + a1)), μ.2.2)) (fun r9 m8 => ?_)
        refine XB.go 4 (pc' := 86) (ls' := [some (.ref 32), some (.int a1)]) (st' := [(.int ((m8.2.1 32 3) - (100 : Int32))), (.int r9)]) (μ' := m8) rfl ?_
        refine XB.icmp (P := ((m8.2.1 32 3) - (100 : Int32)) ≤ r9) rfl rfl rfl (fun c86 => ?_) (fun c86 => ?_)
        · refine XB.go 1 (pc' := 102) (ls' := [some (.ref 32), some (.int a1)]) (st' := [(.ref 32)]) (μ' := m8) rfl ?_
          refine XB.cv rfl rfl rfl rfl rfl (yM_beat_ok m8) (fun m10 => ?_)
          refine XB.go 1 (pc' := 106) (ls' := [some (.ref 32), some (.int a1)]) (st' := [(.int (1 : Int32))]) (μ' := m10) rfl ?_
          exact XB.fin rfl
        · refine XB.go 4 (pc' := 95) (ls' := [some (.ref 32), some (.int a1)]) (st' := [(.int (-1 : Int32)), (.int (m8.2.1 32 4)), (.ref 32)]) (μ' := m8) rfl ?_
          refine XB.cv rfl rfl rfl rfl rfl (yM_stepDown_ok (m8.2.1 32 4) (-1 : Int32) m8) (fun m11 => ?_)
          refine XB.go 2 (pc' := 106) (ls' := [some (.ref 32), some (.int a1)]) (st' := [(.int (1 : Int32))]) (μ' := m11) rfl ?_
          exact XB.fin rfl
    · refine XB.go 1 (pc' := 52) (ls' := [some (.ref 32), some (.int a1)]) (st' := [(.int (0 : Int32))]) (μ' := (μ.1, (xuI (xuI μ.2.1 32 0 (0 : Int32)) 32 3 ((μ.2.1 32 3) + a1)), μ.2.2)) rfl ?_
      exact XB.fin rfl
  · refine XB.go 2 (pc' := 18) (ls' := [some (.ref 32), some (.int a1)]) (st' := [(.int (1 : Int32)), (.ref 32)]) (μ' := (μ.1, (xuI μ.2.1 32 0 (0 : Int32)), μ.2.2)) rfl ?_
    refine XB.ci rfl rfl rfl rfl rfl (yM_fail_ok (1 : Int32) (μ.1, (xuI μ.2.1 32 0 (0 : Int32)), μ.2.2)) (fun r13 m12 => ?_)
    refine XB.ifz (P := r13 ≤ (0 : Int32)) rfl rfl rfl (fun c21 => ?_) (fun c21 => ?_)
    · refine XB.go 1 (pc' := 29) (ls' := [some (.ref 32), some (.int a1)]) (st' := [(.int (0 : Int32))]) (μ' := m12) rfl ?_
      exact XB.fin rfl
    · refine XB.go 2 (pc' := 29) (ls' := [some (.ref 32), some (.int a1)]) (st' := [(.int (1 : Int32))]) (μ' := m12) rfl ?_
      exact XB.fin rfl
/-- LogServerModel.write(III)V -/
def yM_write (a1 : Int32) (a2 : Int32) (a3 : Int32) (μ : XMu) : XRes := xgd (xin (((μ.2.1 32 10) + (1 : Int32)) - ((μ.2.1 32 10) + (1 : Int32)) / (512 : Int32) * (512 : Int32)) 512) (xgd (xin (((μ.2.1 32 10) + (1 : Int32)) - ((μ.2.1 32 10) + (1 : Int32)) / (512 : Int32) * (512 : Int32)) 512) (xgd (xin (((μ.2.1 32 10) + (1 : Int32)) - ((μ.2.1 32 10) + (1 : Int32)) / (512 : Int32) * (512 : Int32)) 512) (some (.inl none, (μ.1, (xuI (xuI (xuI (xuI (xuI μ.2.1 32 10 ((μ.2.1 32 10) + (1 : Int32))) 33 ((((μ.2.1 32 10) + (1 : Int32)) - ((μ.2.1 32 10) + (1 : Int32)) / (512 : Int32) * (512 : Int32))).toNatClampNeg a1) 34 ((((μ.2.1 32 10) + (1 : Int32)) - ((μ.2.1 32 10) + (1 : Int32)) / (512 : Int32) * (512 : Int32))).toNatClampNeg a2) 35 ((((μ.2.1 32 10) + (1 : Int32)) - ((μ.2.1 32 10) + (1 : Int32)) / (512 : Int32) * (512 : Int32))).toNatClampNeg a3) 32 14 (1 : Int32)), μ.2.2)))))
theorem yM_write_ok {L : Nat} {xs : Nat → Int32} (a1 : Int32) (a2 : Int32) (a3 : Int32) (μ : XMu) : XB L xs 191 0 [some (.ref 32), some (.int a1), some (.int a2), some (.int a3)] [] μ (yM_write a1 a2 a3 μ) := by
  unfold yM_write
  refine XB.go 13 (pc' := 23) (ls' := [some (.ref 32), some (.int a1), some (.int a2), some (.int a3)]) (st' := [(.int a1), (.int (((μ.2.1 32 10) + (1 : Int32)) - ((μ.2.1 32 10) + (1 : Int32)) / (512 : Int32) * (512 : Int32))), (.ref 33)]) (μ' := (μ.1, (xuI μ.2.1 32 10 ((μ.2.1 32 10) + (1 : Int32))), μ.2.2)) rfl ?_
  refine XB.gd (pc' := 24) (ls' := [some (.ref 32), some (.int a1), some (.int a2), some (.int a3)]) (st' := []) (μ' := (μ.1, (xuI (xuI μ.2.1 32 10 ((μ.2.1 32 10) + (1 : Int32))) 33 ((((μ.2.1 32 10) + (1 : Int32)) - ((μ.2.1 32 10) + (1 : Int32)) / (512 : Int32) * (512 : Int32))).toNatClampNeg a1), μ.2.2)) rfl rfl rfl (fun hb => xbT hb) ?_
  refine XB.go 7 (pc' := 37) (ls' := [some (.ref 32), some (.int a1), some (.int a2), some (.int a3)]) (st' := [(.int a2), (.int (((μ.2.1 32 10) + (1 : Int32)) - ((μ.2.1 32 10) + (1 : Int32)) / (512 : Int32) * (512 : Int32))), (.ref 34)]) (μ' := (μ.1, (xuI (xuI μ.2.1 32 10 ((μ.2.1 32 10) + (1 : Int32))) 33 ((((μ.2.1 32 10) + (1 : Int32)) - ((μ.2.1 32 10) + (1 : Int32)) / (512 : Int32) * (512 : Int32))).toNatClampNeg a1), μ.2.2)) rfl ?_
  refine XB.gd (pc' := 38) (ls' := [some (.ref 32), some (.int a1), some (.int a2), some (.int a3)]) (st' := []) (μ' := (μ.1, (xuI (xuI (xuI μ.2.1 32 10 ((μ.2.1 32 10) + (1 : Int32))) 33 ((((μ.2.1 32 10) + (1 : Int32)) - ((μ.2.1 32 10) + (1 : Int32)) / (512 : Int32) * (512 : Int32))).toNatClampNeg a1) 34 ((((μ.2.1 32 10) + (1 : Int32)) - ((μ.2.1 32 10) + (1 : Int32)) / (512 : Int32) * (512 : Int32))).toNatClampNeg a2), μ.2.2)) rfl rfl rfl (fun hb => xbT hb) ?_
  refine XB.go 7 (pc' := 51) (ls' := [some (.ref 32), some (.int a1), some (.int a2), some (.int a3)]) (st' := [(.int a3), (.int (((μ.2.1 32 10) + (1 : Int32)) - ((μ.2.1 32 10) + (1 : Int32)) / (512 : Int32) * (512 : Int32))), (.ref 35)]) (μ' := (μ.1, (xuI (xuI (xuI μ.2.1 32 10 ((μ.2.1 32 10) + (1 : Int32))) 33 ((((μ.2.1 32 10) + (1 : Int32)) - ((μ.2.1 32 10) + (1 : Int32)) / (512 : Int32) * (512 : Int32))).toNatClampNeg a1) 34 ((((μ.2.1 32 10) + (1 : Int32)) - ((μ.2.1 32 10) + (1 : Int32)) / (512 : Int32) * (512 : Int32))).toNatClampNeg a2), μ.2.2)) rfl ?_
  refine XB.gd (pc' := 52) (ls' := [some (.ref 32), some (.int a1), some (.int a2), some (.int a3)]) (st' := []) (μ' := (μ.1, (xuI (xuI (xuI (xuI μ.2.1 32 10 ((μ.2.1 32 10) + (1 : Int32))) 33 ((((μ.2.1 32 10) + (1 : Int32)) - ((μ.2.1 32 10) + (1 : Int32)) / (512 : Int32) * (512 : Int32))).toNatClampNeg a1) 34 ((((μ.2.1 32 10) + (1 : Int32)) - ((μ.2.1 32 10) + (1 : Int32)) / (512 : Int32) * (512 : Int32))).toNatClampNeg a2) 35 ((((μ.2.1 32 10) + (1 : Int32)) - ((μ.2.1 32 10) + (1 : Int32)) / (512 : Int32) * (512 : Int32))).toNatClampNeg a3), μ.2.2)) rfl rfl rfl (fun hb => xbT hb) ?_
  refine XB.go 3 (pc' := 57) (ls' := [some (.ref 32), some (.int a1), some (.int a2), some (.int a3)]) (st' := []) (μ' := (μ.1, (xuI (xuI (xuI (xuI (xuI μ.2.1 32 10 ((μ.2.1 32 10) + (1 : Int32))) 33 ((((μ.2.1 32 10) + (1 : Int32)) - ((μ.2.1 32 10) + (1 : Int32)) / (512 : Int32) * (512 : Int32))).toNatClampNeg a1) 34 ((((μ.2.1 32 10) + (1 : Int32)) - ((μ.2.1 32 10) + (1 : Int32)) / (512 : Int32) * (512 : Int32))).toNatClampNeg a2) 35 ((((μ.2.1 32 10) + (1 : Int32)) - ((μ.2.1 32 10) + (1 : Int32)) / (512 : Int32) * (512 : Int32))).toNatClampNeg a3) 32 14 (1 : Int32)), μ.2.2)) rfl ?_
  exact XB.fin rfl
/-- LogServerModel.lead()V -/
def yM_lead_b121   (μ : XMu) : XRes := xbv (yM_write (μ.2.1 32 4) (0 : Int32) (0 : Int32) (μ.1, (xuI (xuI μ.2.1 32 26 (0 : Int32)) 32 25 ((μ.2.1 32 10) + (1 : Int32))), μ.2.2)) (fun m1 => xbv (yM_beat m1) (fun m2 => some (.inl none, m2)))
theorem yM_lead_b121_ok {L : Nat} {xs : Nat → Int32}  (d1 : Option Int32)  (μ : XMu) : XB L xs 192 121 [some (.ref 32), (xdl d1)] [] μ (yM_lead_b121   μ) := by
  unfold yM_lead_b121
  refine XB.go 14 (pc' := 143) (ls' := [some (.ref 32), (xdl d1)]) (st' := [(.int (0 : Int32)), (.int (0 : Int32)), (.int (μ.2.1 32 4)), (.ref 32)]) (μ' := (μ.1, (xuI (xuI μ.2.1 32 26 (0 : Int32)) 32 25 ((μ.2.1 32 10) + (1 : Int32))), μ.2.2)) rfl ?_
  refine XB.cv rfl rfl rfl rfl rfl (yM_write_ok (μ.2.1 32 4) (0 : Int32) (0 : Int32) (μ.1, (xuI (xuI μ.2.1 32 26 (0 : Int32)) 32 25 ((μ.2.1 32 10) + (1 : Int32))), μ.2.2)) (fun m1 => ?_)
  refine XB.go 1 (pc' := 147) (ls' := [some (.ref 32), (xdl d1)]) (st' := [(.ref 32)]) (μ' := m1) rfl ?_
  refine XB.cv rfl rfl rfl rfl rfl (yM_beat_ok m1) (fun m2 => ?_)
  exact XB.fin rfl
def yM_lead_b45 (k45 : Int32 → XMu → XRes) (x1 : Int32) (μ : XMu) : XRes := (if (7 : Int32) ≤ x1 then yM_lead_b121  μ else xgd (xin x1 7) (xgd (xin x1 7) (xgd (xin x1 7) (xgd (xin x1 7) (xgd (xin x1 7) (xgd (xin x1 7) (xgd (xin x1 7) (xgd (xin x1 7) (k45 (x1 + (1 : Int32)) (μ.1, (xuI (xuI (xuI (xuI (xuI (xuI (xuI (xuI μ.2.1 36 (x1).toNatClampNeg ((μ.2.1 32 10) + (1 : Int32))) 37 (x1).toNatClampNeg (0 : Int32)) 38 (x1).toNatClampNeg (0 : Int32)) 39 (x1).toNatClampNeg (0 : Int32)) 40 (x1).toNatClampNeg (0 : Int32)) 42 (x1).toNatClampNeg (1 : Int32)) 41 (x1).toNatClampNeg (μ.2.1 32 3)) 43 (x1).toNatClampNeg (0 : Int32)), μ.2.2))))))))))
theorem yM_lead_b45_ok {L : Nat} {xs : Nat → Int32} (k45 : Int32 → XMu → XRes) (hk45 : ∀  (x1 : Int32) (μ : XMu), XB L xs 192 45 [some (.ref 32), some (.int x1)] [] μ (k45 x1 μ))  (x1 : Int32) (μ : XMu) : XB L xs 192 45 [some (.ref 32), some (.int x1)] [] μ (yM_lead_b45 k45 x1 μ) := by
  unfold yM_lead_b45
  refine XB.go 2 (pc' := 48) (ls' := [some (.ref 32), some (.int x1)]) (st' := [(.int (7 : Int32)), (.int x1)]) (μ' := μ) rfl ?_
  refine XB.icmp (P := (7 : Int32) ≤ x1) rfl rfl rfl (fun c48 => ?_) (fun c48 => ?_)
  · exact yM_lead_b121_ok  (some x1) μ
  · refine XB.go 7 (pc' := 62) (ls' := [some (.ref 32), some (.int x1)]) (st' := [(.int ((μ.2.1 32 10) + (1 : Int32))), (.int x1), (.ref 36)]) (μ' := μ) rfl ?_
    refine XB.gd (pc' := 63) (ls' := [some (.ref 32), some (.int x1)]) (st' := []) (μ' := (μ.1, (xuI μ.2.1 36 (x1).toNatClampNeg ((μ.2.1 32 10) + (1 : Int32))), μ.2.2)) rfl rfl rfl (fun hb => xbT hb) ?_
    refine XB.go 4 (pc' := 69) (ls' := [some (.ref 32), some (.int x1)]) (st' := [(.int (0 : Int32)), (.int x1), (.ref 37)]) (μ' := (μ.1, (xuI μ.2.1 36 (x1).toNatClampNeg ((μ.2.1 32 10) + (1 : Int32))), μ.2.2)) rfl ?_
    refine XB.gd (pc' := 70) (ls' := [some (.ref 32), some (.int x1)]) (st' := []) (μ' := (μ.1, (xuI (xuI μ.2.1 36 (x1).toNatClampNeg ((μ.2.1 32 10) + (1 : Int32))) 37 (x1).toNatClampNeg (0 : Int32)), μ.2.2)) rfl rfl rfl (fun hb => xbT hb) ?_
    refine XB.go 4 (pc' := 76) (ls' := [some (.ref 32), some (.int x1)]) (st' := [(.int (0 : Int32)), (.int x1), (.ref 38)]) (μ' := (μ.1, (xuI (xuI μ.2.1 36 (x1).toNatClampNeg ((μ.2.1 32 10) + (1 : Int32))) 37 (x1).toNatClampNeg (0 : Int32)), μ.2.2)) rfl ?_
    refine XB.gd (pc' := 77) (ls' := [some (.ref 32), some (.int x1)]) (st' := []) (μ' := (μ.1, (xuI (xuI (xuI μ.2.1 36 (x1).toNatClampNeg ((μ.2.1 32 10) + (1 : Int32))) 37 (x1).toNatClampNeg (0 : Int32)) 38 (x1).toNatClampNeg (0 : Int32)), μ.2.2)) rfl rfl rfl (fun hb => xbT hb) ?_
    refine XB.go 4 (pc' := 83) (ls' := [some (.ref 32), some (.int x1)]) (st' := [(.int (0 : Int32)), (.int x1), (.ref 39)]) (μ' := (μ.1, (xuI (xuI (xuI μ.2.1 36 (x1).toNatClampNeg ((μ.2.1 32 10) + (1 : Int32))) 37 (x1).toNatClampNeg (0 : Int32)) 38 (x1).toNatClampNeg (0 : Int32)), μ.2.2)) rfl ?_
    refine XB.gd (pc' := 84) (ls' := [some (.ref 32), some (.int x1)]) (st' := []) (μ' := (μ.1, (xuI (xuI (xuI (xuI μ.2.1 36 (x1).toNatClampNeg ((μ.2.1 32 10) + (1 : Int32))) 37 (x1).toNatClampNeg (0 : Int32)) 38 (x1).toNatClampNeg (0 : Int32)) 39 (x1).toNatClampNeg (0 : Int32)), μ.2.2)) rfl rfl rfl (fun hb => xbT hb) ?_
    refine XB.go 4 (pc' := 90) (ls' := [some (.ref 32), some (.int x1)]) (st' := [(.int (0 : Int32)), (.int x1), (.ref 40)]) (μ' := (μ.1, (xuI (xuI (xuI (xuI μ.2.1 36 (x1).toNatClampNeg ((μ.2.1 32 10) + (1 : Int32))) 37 (x1).toNatClampNeg (0 : Int32)) 38 (x1).toNatClampNeg (0 : Int32)) 39 (x1).toNatClampNeg (0 : Int32)), μ.2.2)) rfl ?_
    refine XB.gd (pc' := 91) (ls' := [some (.ref 32), some (.int x1)]) (st' := []) (μ' := (μ.1, (xuI (xuI (xuI (xuI (xuI μ.2.1 36 (x1).toNatClampNeg ((μ.2.1 32 10) + (1 : Int32))) 37 (x1).toNatClampNeg (0 : Int32)) 38 (x1).toNatClampNeg (0 : Int32)) 39 (x1).toNatClampNeg (0 : Int32)) 40 (x1).toNatClampNeg (0 : Int32)), μ.2.2)) rfl rfl rfl (fun hb => xbT hb) ?_
    refine XB.go 4 (pc' := 97) (ls' := [some (.ref 32), some (.int x1)]) (st' := [(.int (1 : Int32)), (.int x1), (.ref 42)]) (μ' := (μ.1, (xuI (xuI (xuI (xuI (xuI μ.2.1 36 (x1).toNatClampNeg ((μ.2.1 32 10) + (1 : Int32))) 37 (x1).toNatClampNeg (0 : Int32)) 38 (x1).toNatClampNeg (0 : Int32)) 39 (x1).toNatClampNeg (0 : Int32)) 40 (x1).toNatClampNeg (0 : Int32)), μ.2.2)) rfl ?_
    refine XB.gd (pc' := 98) (ls' := [some (.ref 32), some (.int x1)]) (st' := []) (μ' := (μ.1, (xuI (xuI (xuI (xuI (xuI (xuI μ.2.1 36 (x1).toNatClampNeg ((μ.2.1 32 10) + (1 : Int32))) 37 (x1).toNatClampNeg (0 : Int32)) 38 (x1).toNatClampNeg (0 : Int32)) 39 (x1).toNatClampNeg (0 : Int32)) 40 (x1).toNatClampNeg (0 : Int32)) 42 (x1).toNatClampNeg (1 : Int32)), μ.2.2)) rfl rfl rfl (fun hb => xbT (xbL hb)) ?_
    refine XB.go 5 (pc' := 107) (ls' := [some (.ref 32), some (.int x1)]) (st' := [(.int (μ.2.1 32 3)), (.int x1), (.ref 41)]) (μ' := (μ.1, (xuI (xuI (xuI (xuI (xuI (xuI μ.2.1 36 (x1).toNatClampNeg ((μ.2.1 32 10) + (1 : Int32))) 37 (x1).toNatClampNeg (0 : Int32)) 38 (x1).toNatClampNeg (0 : Int32)) 39 (x1).toNatClampNeg (0 : Int32)) 40 (x1).toNatClampNeg (0 : Int32)) 42 (x1).toNatClampNeg (1 : Int32)), μ.2.2)) rfl ?_
    refine XB.gd (pc' := 108) (ls' := [some (.ref 32), some (.int x1)]) (st' := []) (μ' := (μ.1, (xuI (xuI (xuI (xuI (xuI (xuI (xuI μ.2.1 36 (x1).toNatClampNeg ((μ.2.1 32 10) + (1 : Int32))) 37 (x1).toNatClampNeg (0 : Int32)) 38 (x1).toNatClampNeg (0 : Int32)) 39 (x1).toNatClampNeg (0 : Int32)) 40 (x1).toNatClampNeg (0 : Int32)) 42 (x1).toNatClampNeg (1 : Int32)) 41 (x1).toNatClampNeg (μ.2.1 32 3)), μ.2.2)) rfl rfl rfl (fun hb => xbT hb) ?_
    refine XB.go 4 (pc' := 114) (ls' := [some (.ref 32), some (.int x1)]) (st' := [(.int (0 : Int32)), (.int x1), (.ref 43)]) (μ' := (μ.1, (xuI (xuI (xuI (xuI (xuI (xuI (xuI μ.2.1 36 (x1).toNatClampNeg ((μ.2.1 32 10) + (1 : Int32))) 37 (x1).toNatClampNeg (0 : Int32)) 38 (x1).toNatClampNeg (0 : Int32)) 39 (x1).toNatClampNeg (0 : Int32)) 40 (x1).toNatClampNeg (0 : Int32)) 42 (x1).toNatClampNeg (1 : Int32)) 41 (x1).toNatClampNeg (μ.2.1 32 3)), μ.2.2)) rfl ?_
    refine XB.gd (pc' := 115) (ls' := [some (.ref 32), some (.int x1)]) (st' := []) (μ' := (μ.1, (xuI (xuI (xuI (xuI (xuI (xuI (xuI (xuI μ.2.1 36 (x1).toNatClampNeg ((μ.2.1 32 10) + (1 : Int32))) 37 (x1).toNatClampNeg (0 : Int32)) 38 (x1).toNatClampNeg (0 : Int32)) 39 (x1).toNatClampNeg (0 : Int32)) 40 (x1).toNatClampNeg (0 : Int32)) 42 (x1).toNatClampNeg (1 : Int32)) 41 (x1).toNatClampNeg (μ.2.1 32 3)) 43 (x1).toNatClampNeg (0 : Int32)), μ.2.2)) rfl rfl rfl (fun hb => xbT (xbL hb)) ?_
    refine XB.go 2 (pc' := 45) (ls' := [some (.ref 32), some (.int (x1 + (1 : Int32)))]) (st' := []) (μ' := (μ.1, (xuI (xuI (xuI (xuI (xuI (xuI (xuI (xuI μ.2.1 36 (x1).toNatClampNeg ((μ.2.1 32 10) + (1 : Int32))) 37 (x1).toNatClampNeg (0 : Int32)) 38 (x1).toNatClampNeg (0 : Int32)) 39 (x1).toNatClampNeg (0 : Int32)) 40 (x1).toNatClampNeg (0 : Int32)) 42 (x1).toNatClampNeg (1 : Int32)) 41 (x1).toNatClampNeg (μ.2.1 32 3)) 43 (x1).toNatClampNeg (0 : Int32)), μ.2.2)) rfl ?_
    exact hk45  (x1 + (1 : Int32)) (μ.1, (xuI (xuI (xuI (xuI (xuI (xuI (xuI (xuI μ.2.1 36 (x1).toNatClampNeg ((μ.2.1 32 10) + (1 : Int32))) 37 (x1).toNatClampNeg (0 : Int32)) 38 (x1).toNatClampNeg (0 : Int32)) 39 (x1).toNatClampNeg (0 : Int32)) 40 (x1).toNatClampNeg (0 : Int32)) 42 (x1).toNatClampNeg (1 : Int32)) 41 (x1).toNatClampNeg (μ.2.1 32 3)) 43 (x1).toNatClampNeg (0 : Int32)), μ.2.2)
def yM_lead_b45_L  : Nat → Int32 → XMu → XRes
  | 0 => fun _ _ => none
  | n + 1 => yM_lead_b45 (yM_lead_b45_L  n)
theorem yM_lead_b45_Lok {L : Nat} {xs : Nat → Int32}  : ∀ (n : Nat)  (x1 : Int32) (μ : XMu), XB L xs 192 45 [some (.ref 32), some (.int x1)] [] μ (yM_lead_b45_L  n x1 μ) := by
  intro n
  induction n with
  | zero => intro  x1 μ r h; cases h
  | succ n ih => intro  x1 μ; exact yM_lead_b45_ok (yM_lead_b45_L  n) ih  x1 μ
def yM_lead  (μ : XMu) : XRes := (if ((μ.2.1 32 10) - (μ.2.1 32 9)) < (300 : Int32) then yM_lead_b45_L  1000 (0 : Int32) (μ.1, (xuI (xuI (xuI μ.2.1 32 15 (3 : Int32)) 32 16 (μ.2.1 32 1)) 32 23 (-1 : Int32)), μ.2.2) else xbv (yM_stepDown (μ.2.1 32 4) (-1 : Int32) μ) (fun m3 => some (.inl none, m3)))
theorem yM_lead_ok {L : Nat} {xs : Nat → Int32}  (μ : XMu) : XB L xs 192 0 [some (.ref 32), none] [] μ (yM_lead  μ) := by
  unfold yM_lead
  refine XB.go 6 (pc' := 12) (ls' := [some (.ref 32), none]) (st' := [(.int (300 : Int32)), (.int ((μ.2.1 32 10) - (μ.2.1 32 9)))]) (μ' := μ) rfl ?_
  refine XB.icmp (P := ((μ.2.1 32 10) - (μ.2.1 32 9)) < (300 : Int32)) rfl rfl rfl (fun c12 => ?_) (fun c12 => ?_)
  · refine XB.go 12 (pc' := 45) (ls' := [some (.ref 32), some (.int (0 : Int32))]) (st' := []) (μ' := (μ.1, (xuI (xuI (xuI μ.2.1 32 15 (3 : Int32)) 32 16 (μ.2.1 32 1)) 32 23 (-1 : Int32)), μ.2.2)) rfl ?_
    exact yM_lead_b45_Lok  1000  (0 : Int32) (μ.1, (xuI (xuI (xuI μ.2.1 32 15 (3 : Int32)) 32 16 (μ.2.1 32 1)) 32 23 (-1 : Int32)), μ.2.2)
  · refine XB.go 4 (pc' := 21) (ls' := [some (.ref 32), none]) (st' := [(.int (-1 : Int32)), (.int (μ.2.1 32 4)), (.ref 32)]) (μ' := μ) rfl ?_
    refine XB.cv rfl rfl rfl rfl rfl (yM_stepDown_ok (μ.2.1 32 4) (-1 : Int32) μ) (fun m3 => ?_)
    exact XB.fin rfl
/-- LogServerModel.apply()V -/
def yM_apply_b91 (k0 : XMu → XRes) (k91 : Int32 → XMu → XRes) (x1 : Int32) (μ : XMu) : XRes := (if (32 : Int32) ≤ x1 then k0 μ else xbi (yM_callWaits x1 μ) (fun r3 m2 => (if r3 = (0 : Int32) then k91 (x1 + (1 : Int32)) m2 else xgd (xin x1 32) ((if ¬ (m2.2.1 55 (x1).toNatClampNeg) = (-1 : Int32) then k91 (x1 + (1 : Int32)) m2 else xgd (xin x1 32) ((if ¬ (m2.2.1 53 (x1).toNatClampNeg) = (m2.2.1 32 18) then k91 (x1 + (1 : Int32)) m2 else xbi (yM_termAt (m2.2.1 32 18) m2) (fun r5 m4 => xgd (xin x1 32) ((if ¬ r5 = (m4.2.1 54 (x1).toNatClampNeg) then xbv (yM_settle x1 (0 : Int32) m4) (fun m6 => k91 (x1 + (1 : Int32)) m6) else xbv (yM_settle x1 (1 : Int32) m4) (fun m7 => k91 (x1 + (1 : Int32)) m7)))))))))))
theorem yM_apply_b91_ok {L : Nat} {xs : Nat → Int32} (k0 : XMu → XRes) (hk0 : ∀ (d1 : Option Int32)  (μ : XMu), XB L xs 193 0 [some (.ref 32), (xdl d1)] [] μ (k0  μ)) (k91 : Int32 → XMu → XRes) (hk91 : ∀  (x1 : Int32) (μ : XMu), XB L xs 193 91 [some (.ref 32), some (.int x1)] [] μ (k91 x1 μ))  (x1 : Int32) (μ : XMu) : XB L xs 193 91 [some (.ref 32), some (.int x1)] [] μ (yM_apply_b91 k0 k91 x1 μ) := by
  unfold yM_apply_b91
  refine XB.go 2 (pc' := 94) (ls' := [some (.ref 32), some (.int x1)]) (st' := [(.int (32 : Int32)), (.int x1)]) (μ' := μ) rfl ?_
  refine XB.icmp (P := (32 : Int32) ≤ x1) rfl rfl rfl (fun c94 => ?_) (fun c94 => ?_)
  · refine XB.go 1 (pc' := 0) (ls' := [some (.ref 32), some (.int x1)]) (st' := []) (μ' := μ) rfl ?_
    exact hk0 (some x1) μ
  · refine XB.go 2 (pc' := 99) (ls' := [some (.ref 32), some (.int x1)]) (st' := [(.int x1), (.ref 32)]) (μ' := μ) rfl ?_
    refine XB.ci rfl rfl rfl rfl rfl (yM_callWaits_ok x1 μ) (fun r3 m2 => ?_)
    refine XB.ifz (P := r3 = (0 : Int32)) rfl rfl rfl (fun c102 => ?_) (fun c102 => ?_)
    · refine XB.go 2 (pc' := 91) (ls' := [some (.ref 32), some (.int (x1 + (1 : Int32)))]) (st' := []) (μ' := m2) rfl ?_
      exact hk91  (x1 + (1 : Int32)) m2
    · refine XB.go 3 (pc' := 110) (ls' := [some (.ref 32), some (.int x1)]) (st' := [(.int x1), (.ref 55)]) (μ' := m2) rfl ?_
      refine XB.gd (pc' := 111) (ls' := [some (.ref 32), some (.int x1)]) (st' := [(.int (m2.2.1 55 (x1).toNatClampNeg))]) (μ' := m2) rfl rfl rfl (fun hb => xbT hb) ?_
      refine XB.go 1 (pc' := 112) (ls' := [some (.ref 32), some (.int x1)]) (st' := [(.int (-1 : Int32)), (.int (m2.2.1 55 (x1).toNatClampNeg))]) (μ' := m2) rfl ?_
      refine XB.icmp (P := ¬ (m2.2.1 55 (x1).toNatClampNeg) = (-1 : Int32)) rfl rfl rfl (fun c112 => ?_) (fun c112 => ?_)
      · refine XB.go 2 (pc' := 91) (ls' := [some (.ref 32), some (.int (x1 + (1 : Int32)))]) (st' := []) (μ' := m2) rfl ?_
        exact hk91  (x1 + (1 : Int32)) m2
      · refine XB.go 3 (pc' := 120) (ls' := [some (.ref 32), some (.int x1)]) (st' := [(.int x1), (.ref 53)]) (μ' := m2) rfl ?_
        refine XB.gd (pc' := 121) (ls' := [some (.ref 32), some (.int x1)]) (st' := [(.int (m2.2.1 53 (x1).toNatClampNeg))]) (μ' := m2) rfl rfl rfl (fun hb => xbT hb) ?_
        refine XB.go 2 (pc' := 125) (ls' := [some (.ref 32), some (.int x1)]) (st' := [(.int (m2.2.1 32 18)), (.int (m2.2.1 53 (x1).toNatClampNeg))]) (μ' := m2) rfl ?_
        refine XB.icmp (P := ¬ (m2.2.1 53 (x1).toNatClampNeg) = (m2.2.1 32 18)) rfl rfl rfl (fun c125 => ?_) (fun c125 => ?_)
        · refine XB.go 2 (pc' := 91) (ls' := [some (.ref 32), some (.int (x1 + (1 : Int32)))]) (st' := []) (μ' := m2) rfl ?_
          exact hk91  (x1 + (1 : Int32)) m2
        · refine XB.go 5 (pc' := 135) (ls' := [some (.ref 32), some (.int x1)]) (st' := [(.int (m2.2.1 32 18)), (.ref 32), (.int x1), (.ref 32)]) (μ' := m2) rfl ?_
          refine XB.ci rfl rfl rfl rfl rfl (yM_termAt_ok (m2.2.1 32 18) m2) (fun r5 m4 => ?_)
          refine XB.go 3 (pc' := 143) (ls' := [some (.ref 32), some (.int x1)]) (st' := [(.int x1), (.ref 54), (.int r5), (.int x1), (.ref 32)]) (μ' := m4) rfl ?_
          refine XB.gd (pc' := 144) (ls' := [some (.ref 32), some (.int x1)]) (st' := [(.int (m4.2.1 54 (x1).toNatClampNeg)), (.int r5), (.int x1), (.ref 32)]) (μ' := m4) rfl rfl rfl (fun hb => xbT hb) ?_
          refine XB.icmp (P := ¬ r5 = (m4.2.1 54 (x1).toNatClampNeg)) rfl rfl rfl (fun c144 => ?_) (fun c144 => ?_)
          · refine XB.go 1 (pc' := 152) (ls' := [some (.ref 32), some (.int x1)]) (st' := [(.int (0 : Int32)), (.int x1), (.ref 32)]) (μ' := m4) rfl ?_
            refine XB.cv rfl rfl rfl rfl rfl (yM_settle_ok x1 (0 : Int32) m4) (fun m6 => ?_)
            refine XB.go 2 (pc' := 91) (ls' := [some (.ref 32), some (.int (x1 + (1 : Int32)))]) (st' := []) (μ' := m6) rfl ?_
            exact hk91  (x1 + (1 : Int32)) m6
          · refine XB.go 2 (pc' := 152) (ls' := [some (.ref 32), some (.int x1)]) (st' := [(.int (1 : Int32)), (.int x1), (.ref 32)]) (μ' := m4) rfl ?_
            refine XB.cv rfl rfl rfl rfl rfl (yM_settle_ok x1 (1 : Int32) m4) (fun m7 => ?_)
            refine XB.go 2 (pc' := 91) (ls' := [some (.ref 32), some (.int (x1 + (1 : Int32)))]) (st' := []) (μ' := m7) rfl ?_
            exact hk91  (x1 + (1 : Int32)) m7
def yM_apply_b91_L (k0 : XMu → XRes) : Nat → Int32 → XMu → XRes
  | 0 => fun _ _ => none
  | n + 1 => yM_apply_b91 k0 (yM_apply_b91_L k0 n)
theorem yM_apply_b91_Lok {L : Nat} {xs : Nat → Int32} (k0 : XMu → XRes) (hk0 : ∀ (d1 : Option Int32)  (μ : XMu), XB L xs 193 0 [some (.ref 32), (xdl d1)] [] μ (k0  μ)) : ∀ (n : Nat)  (x1 : Int32) (μ : XMu), XB L xs 193 91 [some (.ref 32), some (.int x1)] [] μ (yM_apply_b91_L k0 n x1 μ) := by
  intro n
  induction n with
  | zero => intro  x1 μ r h; cases h
  | succ n ih => intro  x1 μ; exact yM_apply_b91_ok k0 hk0 (yM_apply_b91_L k0 n) ih  x1 μ
def yM_apply_b0 (k0 : XMu → XRes)  (μ : XMu) : XRes := (if (μ.2.1 32 17) ≤ (μ.2.1 32 18) then xbv (yM_reads μ) (fun m1 => some (.inl none, m1)) else xgd (xin (((μ.2.1 32 18) + (1 : Int32)) - ((μ.2.1 32 18) + (1 : Int32)) / (512 : Int32) * (512 : Int32)) 512) ((if ¬ (μ.2.1 34 ((((μ.2.1 32 18) + (1 : Int32)) - ((μ.2.1 32 18) + (1 : Int32)) / (512 : Int32) * (512 : Int32))).toNatClampNeg) = (2 : Int32) then yM_apply_b91_L k0 1000 (0 : Int32) (μ.1, (xuI μ.2.1 32 18 ((μ.2.1 32 18) + (1 : Int32))), μ.2.2) else xgd (xin ((μ.2.1 32 52) - (μ.2.1 32 52) / (64 : Int32) * (64 : Int32)) 64) (xgd (xin (((μ.2.1 32 18) + (1 : Int32)) - ((μ.2.1 32 18) + (1 : Int32)) / (512 : Int32) * (512 : Int32)) 512) (xgd (xin ((μ.2.1 32 52) - (μ.2.1 32 52) / (64 : Int32) * (64 : Int32)) 64) (yM_apply_b91_L k0 1000 (0 : Int32) (μ.1, (xuI (xuI (xuI (xuI μ.2.1 32 18 ((μ.2.1 32 18) + (1 : Int32))) 50 (((μ.2.1 32 52) - (μ.2.1 32 52) / (64 : Int32) * (64 : Int32))).toNatClampNeg ((μ.2.1 32 18) + (1 : Int32))) 51 (((μ.2.1 32 52) - (μ.2.1 32 52) / (64 : Int32) * (64 : Int32))).toNatClampNeg (μ.2.1 35 ((((μ.2.1 32 18) + (1 : Int32)) - ((μ.2.1 32 18) + (1 : Int32)) / (512 : Int32) * (512 : Int32))).toNatClampNeg)) 32 52 ((μ.2.1 32 52) + (1 : Int32))), μ.2.2)))))))
theorem yM_apply_b0_ok {L : Nat} {xs : Nat → Int32} (k0 : XMu → XRes) (hk0 : ∀ (d1 : Option Int32)  (μ : XMu), XB L xs 193 0 [some (.ref 32), (xdl d1)] [] μ (k0  μ)) (d1 : Option Int32)  (μ : XMu) : XB L xs 193 0 [some (.ref 32), (xdl d1)] [] μ (yM_apply_b0 k0  μ) := by
  unfold yM_apply_b0
  refine XB.go 4 (pc' := 8) (ls' := [some (.ref 32), (xdl d1)]) (st' := [(.int (μ.2.1 32 17)), (.int (μ.2.1 32 18))]) (μ' := μ) rfl ?_
  refine XB.icmp (P := (μ.2.1 32 17) ≤ (μ.2.1 32 18)) rfl rfl rfl (fun c8 => ?_) (fun c8 => ?_)
  · refine XB.go 1 (pc' := 165) (ls' := [some (.ref 32), (xdl d1)]) (st' := [(.ref 32)]) (μ' := μ) rfl ?_
    refine XB.cv rfl rfl rfl rfl rfl (yM_reads_ok μ) (fun m1 => ?_)
    exact XB.fin rfl
  · refine XB.go 12 (pc' := 33) (ls' := [some (.ref 32), (xdl d1)]) (st' := [(.int (((μ.2.1 32 18) + (1 : Int32)) - ((μ.2.1 32 18) + (1 : Int32)) / (512 : Int32) * (512 : Int32))), (.ref 34)]) (μ' := (μ.1, (xuI μ.2.1 32 18 ((μ.2.1 32 18) + (1 : Int32))), μ.2.2)) rfl ?_
    refine XB.gd (pc' := 34) (ls' := [some (.ref 32), (xdl d1)]) (st' := [(.int (μ.2.1 34 ((((μ.2.1 32 18) + (1 : Int32)) - ((μ.2.1 32 18) + (1 : Int32)) / (512 : Int32) * (512 : Int32))).toNatClampNeg))]) (μ' := (μ.1, (xuI μ.2.1 32 18 ((μ.2.1 32 18) + (1 : Int32))), μ.2.2)) rfl rfl rfl (fun hb => xbT hb) ?_
    refine XB.go 1 (pc' := 35) (ls' := [some (.ref 32), (xdl d1)]) (st' := [(.int (2 : Int32)), (.int (μ.2.1 34 ((((μ.2.1 32 18) + (1 : Int32)) - ((μ.2.1 32 18) + (1 : Int32)) / (512 : Int32) * (512 : Int32))).toNatClampNeg))]) (μ' := (μ.1, (xuI μ.2.1 32 18 ((μ.2.1 32 18) + (1 : Int32))), μ.2.2)) rfl ?_
    refine XB.icmp (P := ¬ (μ.2.1 34 ((((μ.2.1 32 18) + (1 : Int32)) - ((μ.2.1 32 18) + (1 : Int32)) / (512 : Int32) * (512 : Int32))).toNatClampNeg) = (2 : Int32)) rfl rfl rfl (fun c35 => ?_) (fun c35 => ?_)
    · refine XB.go 2 (pc' := 91) (ls' := [some (.ref 32), some (.int (0 : Int32))]) (st' := []) (μ' := (μ.1, (xuI μ.2.1 32 18 ((μ.2.1 32 18) + (1 : Int32))), μ.2.2)) rfl ?_
      exact yM_apply_b91_Lok k0 hk0 1000  (0 : Int32) (μ.1, (xuI μ.2.1 32 18 ((μ.2.1 32 18) + (1 : Int32))), μ.2.2)
    · refine XB.go 8 (pc' := 53) (ls' := [some (.ref 32), (xdl d1)]) (st' := [(.int ((μ.2.1 32 18) + (1 : Int32))), (.int ((μ.2.1 32 52) - (μ.2.1 32 52) / (64 : Int32) * (64 : Int32))), (.ref 50)]) (μ' := (μ.1, (xuI μ.2.1 32 18 ((μ.2.1 32 18) + (1 : Int32))), μ.2.2)) rfl ?_
      refine XB.gd (pc' := 54) (ls' := [some (.ref 32), (xdl d1)]) (st' := []) (μ' := (μ.1, (xuI (xuI μ.2.1 32 18 ((μ.2.1 32 18) + (1 : Int32))) 50 (((μ.2.1 32 52) - (μ.2.1 32 52) / (64 : Int32) * (64 : Int32))).toNatClampNeg ((μ.2.1 32 18) + (1 : Int32))), μ.2.2)) rfl rfl rfl (fun hb => xbT hb) ?_
      refine XB.go 12 (pc' := 77) (ls' := [some (.ref 32), (xdl d1)]) (st' := [(.int (((μ.2.1 32 18) + (1 : Int32)) - ((μ.2.1 32 18) + (1 : Int32)) / (512 : Int32) * (512 : Int32))), (.ref 35), (.int ((μ.2.1 32 52) - (μ.2.1 32 52) / (64 : Int32) * (64 : Int32))), (.ref 51)]) (μ' := (μ.1, (xuI (xuI μ.2.1 32 18 ((μ.2.1 32 18) + (1 : Int32))) 50 (((μ.2.1 32 52) - (μ.2.1 32 52) / (64 : Int32) * (64 : Int32))).toNatClampNeg ((μ.2.1 32 18) + (1 : Int32))), μ.2.2)) rfl ?_
      refine XB.gd (pc' := 78) (ls' := [some (.ref 32), (xdl d1)]) (st' := [(.int (μ.2.1 35 ((((μ.2.1 32 18) + (1 : Int32)) - ((μ.2.1 32 18) + (1 : Int32)) / (512 : Int32) * (512 : Int32))).toNatClampNeg)), (.int ((μ.2.1 32 52) - (μ.2.1 32 52) / (64 : Int32) * (64 : Int32))), (.ref 51)]) (μ' := (μ.1, (xuI (xuI μ.2.1 32 18 ((μ.2.1 32 18) + (1 : Int32))) 50 (((μ.2.1 32 52) - (μ.2.1 32 52) / (64 : Int32) * (64 : Int32))).toNatClampNeg ((μ.2.1 32 18) + (1 : Int32))), μ.2.2)) rfl rfl rfl (fun hb => xbT hb) ?_
      refine XB.gd (pc' := 79) (ls' := [some (.ref 32), (xdl d1)]) (st' := []) (μ' := (μ.1, (xuI (xuI (xuI μ.2.1 32 18 ((μ.2.1 32 18) + (1 : Int32))) 50 (((μ.2.1 32 52) - (μ.2.1 32 52) / (64 : Int32) * (64 : Int32))).toNatClampNeg ((μ.2.1 32 18) + (1 : Int32))) 51 (((μ.2.1 32 52) - (μ.2.1 32 52) / (64 : Int32) * (64 : Int32))).toNatClampNeg (μ.2.1 35 ((((μ.2.1 32 18) + (1 : Int32)) - ((μ.2.1 32 18) + (1 : Int32)) / (512 : Int32) * (512 : Int32))).toNatClampNeg)), μ.2.2)) rfl rfl rfl (fun hb => xbT hb) ?_
      refine XB.go 8 (pc' := 91) (ls' := [some (.ref 32), some (.int (0 : Int32))]) (st' := []) (μ' := (μ.1, (xuI (xuI (xuI (xuI μ.2.1 32 18 ((μ.2.1 32 18) + (1 : Int32))) 50 (((μ.2.1 32 52) - (μ.2.1 32 52) / (64 : Int32) * (64 : Int32))).toNatClampNeg ((μ.2.1 32 18) + (1 : Int32))) 51 (((μ.2.1 32 52) - (μ.2.1 32 52) / (64 : Int32) * (64 : Int32))).toNatClampNeg (μ.2.1 35 ((((μ.2.1 32 18) + (1 : Int32)) - ((μ.2.1 32 18) + (1 : Int32)) / (512 : Int32) * (512 : Int32))).toNatClampNeg)) 32 52 ((μ.2.1 32 52) + (1 : Int32))), μ.2.2)) rfl ?_
      exact yM_apply_b91_Lok k0 hk0 1000  (0 : Int32) (μ.1, (xuI (xuI (xuI (xuI μ.2.1 32 18 ((μ.2.1 32 18) + (1 : Int32))) 50 (((μ.2.1 32 52) - (μ.2.1 32 52) / (64 : Int32) * (64 : Int32))).toNatClampNeg ((μ.2.1 32 18) + (1 : Int32))) 51 (((μ.2.1 32 52) - (μ.2.1 32 52) / (64 : Int32) * (64 : Int32))).toNatClampNeg (μ.2.1 35 ((((μ.2.1 32 18) + (1 : Int32)) - ((μ.2.1 32 18) + (1 : Int32)) / (512 : Int32) * (512 : Int32))).toNatClampNeg)) 32 52 ((μ.2.1 32 52) + (1 : Int32))), μ.2.2)
def yM_apply_b0_L  : Nat → XMu → XRes
  | 0 => fun  _ => none
  | n + 1 => yM_apply_b0 (yM_apply_b0_L  n)
theorem yM_apply_b0_Lok {L : Nat} {xs : Nat → Int32}  : ∀ (n : Nat) (d1 : Option Int32)  (μ : XMu), XB L xs 193 0 [some (.ref 32), (xdl d1)] [] μ (yM_apply_b0_L  n  μ) := by
  intro n
  induction n with
  | zero => intro d1  μ r h; cases h
  | succ n ih => intro d1  μ; exact yM_apply_b0_ok (yM_apply_b0_L  n) ih d1  μ
def yM_apply  (μ : XMu) : XRes := yM_apply_b0_L  1000 μ
theorem yM_apply_ok {L : Nat} {xs : Nat → Int32}  (μ : XMu) : XB L xs 193 0 [some (.ref 32), none] [] μ (yM_apply  μ) := by
  unfold yM_apply
  exact yM_apply_b0_Lok  1000 (none) μ
/-- LogServerModel.count()V -/
def yM_count_b44   (μ : XMu) : XRes := xbi (yM_membersAt (μ.2.1 32 10) μ) (fun r4 m3 => (if r4 ≤ (m3.2.1 32 17) then xbi (yM_code m3) (fun r6 m5 => (if (yM_fresh r6) = (0 : Int32) then (if ¬ (yM_has (yM_old r6) (m5.2.1 32 1)) = (0 : Int32) then some (.inl none, m5) else xbv (yM_stepDown (m5.2.1 32 4) (-1 : Int32) m5) (fun m7 => some (.inl none, m7))) else (if (300 : Int32) ≤ ((m5.2.1 32 10) - (m5.2.1 32 9)) then some (.inl none, m5) else xbv (yM_write (m5.2.1 32 4) (1 : Int32) ((yM_fresh r6) + ((16384 : Int32) * (yM_learning r6))) m5) (fun m8 => xbv (yM_sendAll (0 : Int32) m8) (fun m9 => some (.inl none, m9)))))) else some (.inl none, m3)))
theorem yM_count_b44_ok {L : Nat} {xs : Nat → Int32}  (d1 : Option Int32) (d2 : Option Int32)  (μ : XMu) : XB L xs 194 44 [some (.ref 32), (xdl d1), (xdl d2)] [] μ (yM_count_b44   μ) := by
  unfold yM_count_b44
  refine XB.go 3 (pc' := 49) (ls' := [some (.ref 32), (xdl d1), (xdl d2)]) (st' := [(.int (μ.2.1 32 10)), (.ref 32)]) (μ' := μ) rfl ?_
  refine XB.ci rfl rfl rfl rfl rfl (yM_membersAt_ok (μ.2.1 32 10) μ) (fun r4 m3 => ?_)
  refine XB.go 2 (pc' := 56) (ls' := [some (.ref 32), (xdl d1), (xdl d2)]) (st' := [(.int (m3.2.1 32 17)), (.int r4)]) (μ' := m3) rfl ?_
  refine XB.icmp (P := r4 ≤ (m3.2.1 32 17)) rfl rfl rfl (fun c56 => ?_) (fun c56 => ?_)
  · refine XB.go 1 (pc' := 61) (ls' := [some (.ref 32), (xdl d1), (xdl d2)]) (st' := [(.ref 32)]) (μ' := m3) rfl ?_
    refine XB.ci rfl rfl rfl rfl rfl (yM_code_ok m3) (fun r6 m5 => ?_)
    refine XB.go 2 (pc' := 66) (ls' := [some (.ref 32), (xdl d1), some (.int r6)]) (st' := [(.int r6)]) (μ' := m5) (by cases d1 <;> rfl) ?_
    refine XB.cp rfl rfl rfl (yM_fresh_ok r6 m5) ?_
    refine XB.ifz (P := (yM_fresh r6) = (0 : Int32)) rfl rfl rfl (fun c69 => ?_) (fun c69 => ?_)
    · refine XB.go 1 (pc' := 118) (ls' := [some (.ref 32), (xdl d1), some (.int r6)]) (st' := [(.int r6)]) (μ' := m5) rfl ?_
      refine XB.cp rfl rfl rfl (yM_old_ok r6 m5) ?_
      refine XB.go 2 (pc' := 125) (ls' := [some (.ref 32), (xdl d1), some (.int r6)]) (st' := [(.int (m5.2.1 32 1)), (.int (yM_old r6))]) (μ' := m5) rfl ?_
      refine XB.cp rfl rfl rfl (yM_has_ok (yM_old r6) (m5.2.1 32 1) m5) ?_
      refine XB.ifz (P := ¬ (yM_has (yM_old r6) (m5.2.1 32 1)) = (0 : Int32)) rfl rfl rfl (fun c128 => ?_) (fun c128 => ?_)
      · exact XB.fin rfl
      · refine XB.go 4 (pc' := 137) (ls' := [some (.ref 32), (xdl d1), some (.int r6)]) (st' := [(.int (-1 : Int32)), (.int (m5.2.1 32 4)), (.ref 32)]) (μ' := m5) rfl ?_
        refine XB.cv rfl rfl rfl rfl rfl (yM_stepDown_ok (m5.2.1 32 4) (-1 : Int32) m5) (fun m7 => ?_)
        exact XB.fin rfl
    · refine XB.go 6 (pc' := 84) (ls' := [some (.ref 32), (xdl d1), some (.int r6)]) (st' := [(.int (300 : Int32)), (.int ((m5.2.1 32 10) - (m5.2.1 32 9)))]) (μ' := m5) rfl ?_
      refine XB.icmp (P := (300 : Int32) ≤ ((m5.2.1 32 10) - (m5.2.1 32 9))) rfl rfl rfl (fun c84 => ?_) (fun c84 => ?_)
      · exact XB.fin rfl
      · refine XB.go 5 (pc' := 94) (ls' := [some (.ref 32), (xdl d1), some (.int r6)]) (st' := [(.int r6), (.int (1 : Int32)), (.int (m5.2.1 32 4)), (.ref 32)]) (μ' := m5) rfl ?_
        refine XB.cp rfl rfl rfl (yM_fresh_ok r6 m5) ?_
        refine XB.go 2 (pc' := 101) (ls' := [some (.ref 32), (xdl d1), some (.int r6)]) (st' := [(.int r6), (.int (16384 : Int32)), (.int (yM_fresh r6)), (.int (1 : Int32)), (.int (m5.2.1 32 4)), (.ref 32)]) (μ' := m5) rfl ?_
        refine XB.cp rfl rfl rfl (yM_learning_ok r6 m5) ?_
        refine XB.go 2 (pc' := 106) (ls' := [some (.ref 32), (xdl d1), some (.int r6)]) (st' := [(.int ((yM_fresh r6) + ((16384 : Int32) * (yM_learning r6)))), (.int (1 : Int32)), (.int (m5.2.1 32 4)), (.ref 32)]) (μ' := m5) rfl ?_
        refine XB.cv rfl rfl rfl rfl rfl (yM_write_ok (m5.2.1 32 4) (1 : Int32) ((yM_fresh r6) + ((16384 : Int32) * (yM_learning r6))) m5) (fun m8 => ?_)
        refine XB.go 2 (pc' := 111) (ls' := [some (.ref 32), (xdl d1), some (.int r6)]) (st' := [(.int (0 : Int32)), (.ref 32)]) (μ' := m8) rfl ?_
        refine XB.cv rfl rfl rfl rfl rfl (yM_sendAll_ok (0 : Int32) m8) (fun m9 => ?_)
        refine XB.go 1 (pc' := 140) (ls' := [some (.ref 32), (xdl d1), some (.int r6)]) (st' := []) (μ' := m9) rfl ?_
        exact XB.fin rfl
  · exact XB.fin rfl
def yM_count  (μ : XMu) : XRes := (if (μ.2.1 32 15) = (3 : Int32) then xbi (yM_agreed (0 : Int32) μ) (fun r2 m1 => (if r2 ≤ (m1.2.1 32 17) then yM_count_b44  m1 else xbi (yM_termAt r2 m1) (fun r11 m10 => (if ¬ r11 = (m10.2.1 32 4) then yM_count_b44  m10 else xbv (yM_apply (m10.1, (xuI m10.2.1 32 17 r2), m10.2.2)) (fun m12 => yM_count_b44  m12))))) else some (.inl none, μ))
theorem yM_count_ok {L : Nat} {xs : Nat → Int32}  (μ : XMu) : XB L xs 194 0 [some (.ref 32), none, none] [] μ (yM_count  μ) := by
  unfold yM_count
  refine XB.go 3 (pc' := 5) (ls' := [some (.ref 32), none, none]) (st' := [(.int (3 : Int32)), (.int (μ.2.1 32 15))]) (μ' := μ) rfl ?_
  refine XB.icmp (P := (μ.2.1 32 15) = (3 : Int32)) rfl rfl rfl (fun c5 => ?_) (fun c5 => ?_)
  · refine XB.go 2 (pc' := 11) (ls' := [some (.ref 32), none, none]) (st' := [(.int (0 : Int32)), (.ref 32)]) (μ' := μ) rfl ?_
    refine XB.ci rfl rfl rfl rfl rfl (yM_agreed_ok (0 : Int32) μ) (fun r2 m1 => ?_)
    refine XB.go 4 (pc' := 20) (ls' := [some (.ref 32), some (.int r2), none]) (st' := [(.int (m1.2.1 32 17)), (.int r2)]) (μ' := m1) rfl ?_
    refine XB.icmp (P := r2 ≤ (m1.2.1 32 17)) rfl rfl rfl (fun c20 => ?_) (fun c20 => ?_)
    · exact yM_count_b44_ok  (some r2) (none) m1
    · refine XB.go 2 (pc' := 25) (ls' := [some (.ref 32), some (.int r2), none]) (st' := [(.int r2), (.ref 32)]) (μ' := m1) rfl ?_
      refine XB.ci rfl rfl rfl rfl rfl (yM_termAt_ok r2 m1) (fun r11 m10 => ?_)
      refine XB.go 2 (pc' := 32) (ls' := [some (.ref 32), some (.int r2), none]) (st' := [(.int (m10.2.1 32 4)), (.int r11)]) (μ' := m10) rfl ?_
      refine XB.icmp (P := ¬ r11 = (m10.2.1 32 4)) rfl rfl rfl (fun c32 => ?_) (fun c32 => ?_)
      · exact yM_count_b44_ok  (some r2) (none) m10
      · refine XB.go 4 (pc' := 41) (ls' := [some (.ref 32), some (.int r2), none]) (st' := [(.ref 32)]) (μ' := (m10.1, (xuI m10.2.1 32 17 r2), m10.2.2)) rfl ?_
        refine XB.cv rfl rfl rfl rfl rfl (yM_apply_ok (m10.1, (xuI m10.2.1 32 17 r2), m10.2.2)) (fun m12 => ?_)
        exact yM_count_b44_ok  (some r2) (none) m12
  · exact XB.fin rfl
/-- LogServerModel.sync()I -/
def yM_sync_b38  (x1 : Int32) (μ : XMu) : XRes := (if ¬ (μ.2.1 32 15) = (2 : Int32) then (if ¬ (μ.2.1 32 15) = (3 : Int32) then some (.inl (some (.int x1)), (μ.1, (xuI μ.2.1 32 19 (μ.2.1 32 10)), μ.2.2)) else xgd (xin (μ.2.1 32 1) 7) (xbv (yM_count (μ.1, (xuI (xuI μ.2.1 32 19 (μ.2.1 32 10)) 37 ((μ.2.1 32 1)).toNatClampNeg (μ.2.1 32 10)), μ.2.2)) (fun m1 => some (.inl (some (.int x1)), m1)))) else xbi (yM_majority ((μ.2.1 32 22) ||| ((1 : Int32) <<< ((μ.2.1 32 1) &&& 31))) (μ.1, (xuI (xuI μ.2.1 32 19 (μ.2.1 32 10)) 32 22 ((μ.2.1 32 22) ||| ((1 : Int32) <<< ((μ.2.1 32 1) &&& 31)))), μ.2.2)) (fun r3 m2 => (if r3 = (0 : Int32) then some (.inl (some (.int x1)), m2) else xbv (yM_lead m2) (fun m4 => some (.inl (some (.int x1)), m4)))))
theorem yM_sync_b38_ok {L : Nat} {xs : Nat → Int32}  (d2 : Option Int32) (x1 : Int32) (μ : XMu) : XB L xs 195 38 [some (.ref 32), some (.int x1), (xdl d2)] [] μ (yM_sync_b38  x1 μ) := by
  unfold yM_sync_b38
  refine XB.go 7 (pc' := 51) (ls' := [some (.ref 32), some (.int x1), (xdl d2)]) (st' := [(.int (2 : Int32)), (.int (μ.2.1 32 15))]) (μ' := (μ.1, (xuI μ.2.1 32 19 (μ.2.1 32 10)), μ.2.2)) rfl ?_
  refine XB.icmp (P := ¬ (μ.2.1 32 15) = (2 : Int32)) rfl rfl rfl (fun c51 => ?_) (fun c51 => ?_)
  · refine XB.go 3 (pc' := 92) (ls' := [some (.ref 32), some (.int x1), (xdl d2)]) (st' := [(.int (3 : Int32)), (.int (μ.2.1 32 15))]) (μ' := (μ.1, (xuI μ.2.1 32 19 (μ.2.1 32 10)), μ.2.2)) rfl ?_
    refine XB.icmp (P := ¬ (μ.2.1 32 15) = (3 : Int32)) rfl rfl rfl (fun c92 => ?_) (fun c92 => ?_)
    · refine XB.go 1 (pc' := 113) (ls' := [some (.ref 32), some (.int x1), (xdl d2)]) (st' := [(.int x1)]) (μ' := (μ.1, (xuI μ.2.1 32 19 (μ.2.1 32 10)), μ.2.2)) rfl ?_
      exact XB.fin rfl
    · refine XB.go 6 (pc' := 107) (ls' := [some (.ref 32), some (.int x1), (xdl d2)]) (st' := [(.int (μ.2.1 32 10)), (.int (μ.2.1 32 1)), (.ref 37)]) (μ' := (μ.1, (xuI μ.2.1 32 19 (μ.2.1 32 10)), μ.2.2)) rfl ?_
      refine XB.gd (pc' := 108) (ls' := [some (.ref 32), some (.int x1), (xdl d2)]) (st' := []) (μ' := (μ.1, (xuI (xuI μ.2.1 32 19 (μ.2.1 32 10)) 37 ((μ.2.1 32 1)).toNatClampNeg (μ.2.1 32 10)), μ.2.2)) rfl rfl rfl (fun hb => xbT hb) ?_
      refine XB.go 1 (pc' := 109) (ls' := [some (.ref 32), some (.int x1), (xdl d2)]) (st' := [(.ref 32)]) (μ' := (μ.1, (xuI (xuI μ.2.1 32 19 (μ.2.1 32 10)) 37 ((μ.2.1 32 1)).toNatClampNeg (μ.2.1 32 10)), μ.2.2)) rfl ?_
      refine XB.cv rfl rfl rfl rfl rfl (yM_count_ok (μ.1, (xuI (xuI μ.2.1 32 19 (μ.2.1 32 10)) 37 ((μ.2.1 32 1)).toNatClampNeg (μ.2.1 32 10)), μ.2.2)) (fun m1 => ?_)
      refine XB.go 1 (pc' := 113) (ls' := [some (.ref 32), some (.int x1), (xdl d2)]) (st' := [(.int x1)]) (μ' := m1) rfl ?_
      exact XB.fin rfl
  · refine XB.go 12 (pc' := 74) (ls' := [some (.ref 32), some (.int x1), (xdl d2)]) (st' := [(.int ((μ.2.1 32 22) ||| ((1 : Int32) <<< ((μ.2.1 32 1) &&& 31)))), (.ref 32)]) (μ' := (μ.1, (xuI (xuI μ.2.1 32 19 (μ.2.1 32 10)) 32 22 ((μ.2.1 32 22) ||| ((1 : Int32) <<< ((μ.2.1 32 1) &&& 31)))), μ.2.2)) rfl ?_
    refine XB.ci rfl rfl rfl rfl rfl (yM_majority_ok ((μ.2.1 32 22) ||| ((1 : Int32) <<< ((μ.2.1 32 1) &&& 31))) (μ.1, (xuI (xuI μ.2.1 32 19 (μ.2.1 32 10)) 32 22 ((μ.2.1 32 22) ||| ((1 : Int32) <<< ((μ.2.1 32 1) &&& 31)))), μ.2.2)) (fun r3 m2 => ?_)
    refine XB.ifz (P := r3 = (0 : Int32)) rfl rfl rfl (fun c77 => ?_) (fun c77 => ?_)
    · refine XB.go 1 (pc' := 113) (ls' := [some (.ref 32), some (.int x1), (xdl d2)]) (st' := [(.int x1)]) (μ' := m2) rfl ?_
      exact XB.fin rfl
    · refine XB.go 1 (pc' := 81) (ls' := [some (.ref 32), some (.int x1), (xdl d2)]) (st' := [(.ref 32)]) (μ' := m2) rfl ?_
      refine XB.cv rfl rfl rfl rfl rfl (yM_lead_ok m2) (fun m4 => ?_)
      refine XB.go 2 (pc' := 113) (ls' := [some (.ref 32), some (.int x1), (xdl d2)]) (st' := [(.int x1)]) (μ' := m4) rfl ?_
      exact XB.fin rfl
def yM_sync_b22 (k22 : Int32 → Int32 → XMu → XRes) (x1 : Int32) (x2 : Int32) (μ : XMu) : XRes := (if x1 ≤ x2 then yM_sync_b38  x1 μ else xbv (yM_goes x2 μ) (fun m5 => k22 x1 (x2 + (1 : Int32)) m5))
theorem yM_sync_b22_ok {L : Nat} {xs : Nat → Int32} (k22 : Int32 → Int32 → XMu → XRes) (hk22 : ∀  (x1 : Int32) (x2 : Int32) (μ : XMu), XB L xs 195 22 [some (.ref 32), some (.int x1), some (.int x2)] [] μ (k22 x1 x2 μ))  (x1 : Int32) (x2 : Int32) (μ : XMu) : XB L xs 195 22 [some (.ref 32), some (.int x1), some (.int x2)] [] μ (yM_sync_b22 k22 x1 x2 μ) := by
  unfold yM_sync_b22
  refine XB.go 2 (pc' := 24) (ls' := [some (.ref 32), some (.int x1), some (.int x2)]) (st' := [(.int x1), (.int x2)]) (μ' := μ) rfl ?_
  refine XB.icmp (P := x1 ≤ x2) rfl rfl rfl (fun c24 => ?_) (fun c24 => ?_)
  · exact yM_sync_b38_ok  (some x2) x1 μ
  · refine XB.go 2 (pc' := 29) (ls' := [some (.ref 32), some (.int x1), some (.int x2)]) (st' := [(.int x2), (.ref 32)]) (μ' := μ) rfl ?_
    refine XB.cv rfl rfl rfl rfl rfl (yM_goes_ok x2 μ) (fun m5 => ?_)
    refine XB.go 2 (pc' := 22) (ls' := [some (.ref 32), some (.int x1), some (.int (x2 + (1 : Int32)))]) (st' := []) (μ' := m5) rfl ?_
    exact hk22  x1 (x2 + (1 : Int32)) m5
def yM_sync_b22_L  : Nat → Int32 → Int32 → XMu → XRes
  | 0 => fun _ _ _ => none
  | n + 1 => yM_sync_b22 (yM_sync_b22_L  n)
theorem yM_sync_b22_Lok {L : Nat} {xs : Nat → Int32}  : ∀ (n : Nat)  (x1 : Int32) (x2 : Int32) (μ : XMu), XB L xs 195 22 [some (.ref 32), some (.int x1), some (.int x2)] [] μ (yM_sync_b22_L  n x1 x2 μ) := by
  intro n
  induction n with
  | zero => intro  x1 x2 μ r h; cases h
  | succ n ih => intro  x1 x2 μ; exact yM_sync_b22_ok (yM_sync_b22_L  n) ih  x1 x2 μ
def yM_sync  (μ : XMu) : XRes := yM_sync_b22_L  1000 (μ.2.1 32 49) (0 : Int32) (μ.1, (xuI (xuI (xuI μ.2.1 32 0 (0 : Int32)) 32 14 (0 : Int32)) 32 49 (0 : Int32)), μ.2.2)
theorem yM_sync_ok {L : Nat} {xs : Nat → Int32}  (μ : XMu) : XB L xs 195 0 [some (.ref 32), none, none] [] μ (yM_sync  μ) := by
  unfold yM_sync
  refine XB.go 14 (pc' := 22) (ls' := [some (.ref 32), some (.int (μ.2.1 32 49)), some (.int (0 : Int32))]) (st' := []) (μ' := (μ.1, (xuI (xuI (xuI μ.2.1 32 0 (0 : Int32)) 32 14 (0 : Int32)) 32 49 (0 : Int32)), μ.2.2)) rfl ?_
  exact yM_sync_b22_Lok  1000  (μ.2.1 32 49) (0 : Int32) (μ.1, (xuI (xuI (xuI μ.2.1 32 0 (0 : Int32)) 32 14 (0 : Int32)) 32 49 (0 : Int32)), μ.2.2)
/-- LogServerModel.restart()V -/
def yM_restart  (μ : XMu) : XRes := xbv (yM_dropCalls (μ.1, (xuI (xuI (xuI (xuI (xuI (xuI (xuI (xuI μ.2.1 32 0 (0 : Int32)) 32 14 (0 : Int32)) 32 49 (0 : Int32)) 32 35 (-1 : Int32)) 32 36 (0 : Int32)) 32 17 (μ.2.1 32 9)) 32 18 (μ.2.1 32 9)) 32 19 (μ.2.1 32 10)), μ.2.2)) (fun m1 => xbv (yM_draw (m1.1, (xuI (xuI (xuI (xuI (xuI m1.2.1 32 15 (0 : Int32)) 32 16 (-1 : Int32)) 32 22 (0 : Int32)) 32 23 (-1 : Int32)) 32 20 (-1 : Int32)), m1.2.2)) (fun m2 => some (.inl none, m2)))
theorem yM_restart_ok {L : Nat} {xs : Nat → Int32}  (μ : XMu) : XB L xs 196 0 [some (.ref 32)] [] μ (yM_restart  μ) := by
  unfold yM_restart
  refine XB.go 28 (pc' := 50) (ls' := [some (.ref 32)]) (st' := [(.ref 32)]) (μ' := (μ.1, (xuI (xuI (xuI (xuI (xuI (xuI (xuI (xuI μ.2.1 32 0 (0 : Int32)) 32 14 (0 : Int32)) 32 49 (0 : Int32)) 32 35 (-1 : Int32)) 32 36 (0 : Int32)) 32 17 (μ.2.1 32 9)) 32 18 (μ.2.1 32 9)) 32 19 (μ.2.1 32 10)), μ.2.2)) rfl ?_
  refine XB.cv rfl rfl rfl rfl rfl (yM_dropCalls_ok (μ.1, (xuI (xuI (xuI (xuI (xuI (xuI (xuI (xuI μ.2.1 32 0 (0 : Int32)) 32 14 (0 : Int32)) 32 49 (0 : Int32)) 32 35 (-1 : Int32)) 32 36 (0 : Int32)) 32 17 (μ.2.1 32 9)) 32 18 (μ.2.1 32 9)) 32 19 (μ.2.1 32 10)), μ.2.2)) (fun m1 => ?_)
  refine XB.go 16 (pc' := 79) (ls' := [some (.ref 32)]) (st' := [(.ref 32)]) (μ' := (m1.1, (xuI (xuI (xuI (xuI (xuI m1.2.1 32 15 (0 : Int32)) 32 16 (-1 : Int32)) 32 22 (0 : Int32)) 32 23 (-1 : Int32)) 32 20 (-1 : Int32)), m1.2.2)) rfl ?_
  refine XB.cv rfl rfl rfl rfl rfl (yM_draw_ok (m1.1, (xuI (xuI (xuI (xuI (xuI m1.2.1 32 15 (0 : Int32)) 32 16 (-1 : Int32)) 32 22 (0 : Int32)) 32 23 (-1 : Int32)) 32 20 (-1 : Int32)), m1.2.2)) (fun m2 => ?_)
  exact XB.fin rfl
/-- LogServerModel.isNumber(I)Z -/
def yM_isNumber (a0 : Int32) : Int32 := (yM_within a0 (0 : Int32) (1000000 : Int32))
theorem yM_isNumber_ok {L : Nat} {xs : Nat → Int32} (a0 : Int32) (μ : XMu) : XB L xs 197 0 [some (.int a0)] [] μ (some (.inl (some (.int (yM_isNumber a0))), μ)) := by
  unfold yM_isNumber
  refine XB.go 3 (pc' := 4) (ls' := [some (.int a0)]) (st' := [(.int (1000000 : Int32)), (.int (0 : Int32)), (.int a0)]) (μ' := μ) rfl ?_
  refine XB.cp rfl rfl rfl (yM_within_ok a0 (0 : Int32) (1000000 : Int32) μ) ?_
  exact XB.retp rfl rfl rfl (yM_within_01 a0 (0 : Int32) (1000000 : Int32))
theorem yM_isNumber_01 (a0 : Int32) : x01 (yM_isNumber a0) = true := by
  unfold yM_isNumber
  repeat (first | rfl | (exact yM_within_01 _ _ _) | split)
/-- LogServerModel.bad(IIIII)Z -/
def yM_bad (a1 : Int32) (a2 : Int32) (a3 : Int32) (a4 : Int32) (a5 : Int32) (μ : XMu) : XRes := (if (yM_within a1 (0 : Int32) (6 : Int32)) = (0 : Int32) then some (.inl (some (.int (1 : Int32))), (μ.1, (xuI μ.2.1 32 0 (1 : Int32)), μ.2.2)) else (if ¬ a1 = (μ.2.1 32 1) then (if (yM_isNumber a2) = (0 : Int32) then some (.inl (some (.int (1 : Int32))), (μ.1, (xuI μ.2.1 32 0 (2 : Int32)), μ.2.2)) else (if (yM_isNumber a3) = (0 : Int32) then some (.inl (some (.int (1 : Int32))), (μ.1, (xuI μ.2.1 32 0 (2 : Int32)), μ.2.2)) else (if (yM_isNumber a4) = (0 : Int32) then some (.inl (some (.int (1 : Int32))), (μ.1, (xuI μ.2.1 32 0 (2 : Int32)), μ.2.2)) else (if ¬ (yM_isNumber a5) = (0 : Int32) then (if (μ.2.1 32 0) ≤ (0 : Int32) then some (.inl (some (.int (0 : Int32))), μ) else some (.inl (some (.int (1 : Int32))), μ)) else some (.inl (some (.int (1 : Int32))), (μ.1, (xuI μ.2.1 32 0 (2 : Int32)), μ.2.2)))))) else some (.inl (some (.int (1 : Int32))), (μ.1, (xuI μ.2.1 32 0 (1 : Int32)), μ.2.2))))
theorem yM_bad_ok {L : Nat} {xs : Nat → Int32} (a1 : Int32) (a2 : Int32) (a3 : Int32) (a4 : Int32) (a5 : Int32) (μ : XMu) : XB L xs 198 0 [some (.ref 32), some (.int a1), some (.int a2), some (.int a3), some (.int a4), some (.int a5)] [] μ (yM_bad a1 a2 a3 a4 a5 μ) := by
  unfold yM_bad
  refine XB.go 3 (pc' := 4) (ls' := [some (.ref 32), some (.int a1), some (.int a2), some (.int a3), some (.int a4), some (.int a5)]) (st' := [(.int (6 : Int32)), (.int (0 : Int32)), (.int a1)]) (μ' := μ) rfl ?_
  refine XB.cp rfl rfl rfl (yM_within_ok a1 (0 : Int32) (6 : Int32) μ) ?_
  refine XB.ifz (P := (yM_within a1 (0 : Int32) (6 : Int32)) = (0 : Int32)) rfl rfl rfl (fun c7 => ?_) (fun c7 => ?_)
  · refine XB.go 6 (pc' := 65) (ls' := [some (.ref 32), some (.int a1), some (.int a2), some (.int a3), some (.int a4), some (.int a5)]) (st' := [(.int (1 : Int32))]) (μ' := (μ.1, (xuI μ.2.1 32 0 (1 : Int32)), μ.2.2)) rfl ?_
    refine XB.ifzF rfl rfl rfl ?_
    refine XB.go 2 (pc' := 73) (ls' := [some (.ref 32), some (.int a1), some (.int a2), some (.int a3), some (.int a4), some (.int a5)]) (st' := [(.int (1 : Int32))]) (μ' := (μ.1, (xuI μ.2.1 32 0 (1 : Int32)), μ.2.2)) rfl ?_
    exact XB.fin rfl
  · refine XB.go 3 (pc' := 15) (ls' := [some (.ref 32), some (.int a1), some (.int a2), some (.int a3), some (.int a4), some (.int a5)]) (st' := [(.int (μ.2.1 32 1)), (.int a1)]) (μ' := μ) rfl ?_
    refine XB.icmp (P := ¬ a1 = (μ.2.1 32 1)) rfl rfl rfl (fun c15 => ?_) (fun c15 => ?_)
    · refine XB.go 1 (pc' := 27) (ls' := [some (.ref 32), some (.int a1), some (.int a2), some (.int a3), some (.int a4), some (.int a5)]) (st' := [(.int a2)]) (μ' := μ) rfl ?_
      refine XB.cp rfl rfl rfl (yM_isNumber_ok a2 μ) ?_
      refine XB.ifz (P := (yM_isNumber a2) = (0 : Int32)) rfl rfl rfl (fun c30 => ?_) (fun c30 => ?_)
      · refine XB.go 5 (pc' := 65) (ls' := [some (.ref 32), some (.int a1), some (.int a2), some (.int a3), some (.int a4), some (.int a5)]) (st' := [(.int (2 : Int32))]) (μ' := (μ.1, (xuI μ.2.1 32 0 (2 : Int32)), μ.2.2)) rfl ?_
        refine XB.ifzF rfl rfl rfl ?_
        refine XB.go 2 (pc' := 73) (ls' := [some (.ref 32), some (.int a1), some (.int a2), some (.int a3), some (.int a4), some (.int a5)]) (st' := [(.int (1 : Int32))]) (μ' := (μ.1, (xuI μ.2.1 32 0 (2 : Int32)), μ.2.2)) rfl ?_
        exact XB.fin rfl
      · refine XB.go 1 (pc' := 34) (ls' := [some (.ref 32), some (.int a1), some (.int a2), some (.int a3), some (.int a4), some (.int a5)]) (st' := [(.int a3)]) (μ' := μ) rfl ?_
        refine XB.cp rfl rfl rfl (yM_isNumber_ok a3 μ) ?_
        refine XB.ifz (P := (yM_isNumber a3) = (0 : Int32)) rfl rfl rfl (fun c37 => ?_) (fun c37 => ?_)
        · refine XB.go 5 (pc' := 65) (ls' := [some (.ref 32), some (.int a1), some (.int a2), some (.int a3), some (.int a4), some (.int a5)]) (st' := [(.int (2 : Int32))]) (μ' := (μ.1, (xuI μ.2.1 32 0 (2 : Int32)), μ.2.2)) rfl ?_
          refine XB.ifzF rfl rfl rfl ?_
          refine XB.go 2 (pc' := 73) (ls' := [some (.ref 32), some (.int a1), some (.int a2), some (.int a3), some (.int a4), some (.int a5)]) (st' := [(.int (1 : Int32))]) (μ' := (μ.1, (xuI μ.2.1 32 0 (2 : Int32)), μ.2.2)) rfl ?_
          exact XB.fin rfl
        · refine XB.go 1 (pc' := 42) (ls' := [some (.ref 32), some (.int a1), some (.int a2), some (.int a3), some (.int a4), some (.int a5)]) (st' := [(.int a4)]) (μ' := μ) rfl ?_
          refine XB.cp rfl rfl rfl (yM_isNumber_ok a4 μ) ?_
          refine XB.ifz (P := (yM_isNumber a4) = (0 : Int32)) rfl rfl rfl (fun c45 => ?_) (fun c45 => ?_)
          · refine XB.go 5 (pc' := 65) (ls' := [some (.ref 32), some (.int a1), some (.int a2), some (.int a3), some (.int a4), some (.int a5)]) (st' := [(.int (2 : Int32))]) (μ' := (μ.1, (xuI μ.2.1 32 0 (2 : Int32)), μ.2.2)) rfl ?_
            refine XB.ifzF rfl rfl rfl ?_
            refine XB.go 2 (pc' := 73) (ls' := [some (.ref 32), some (.int a1), some (.int a2), some (.int a3), some (.int a4), some (.int a5)]) (st' := [(.int (1 : Int32))]) (μ' := (μ.1, (xuI μ.2.1 32 0 (2 : Int32)), μ.2.2)) rfl ?_
            exact XB.fin rfl
          · refine XB.go 1 (pc' := 50) (ls' := [some (.ref 32), some (.int a1), some (.int a2), some (.int a3), some (.int a4), some (.int a5)]) (st' := [(.int a5)]) (μ' := μ) rfl ?_
            refine XB.cp rfl rfl rfl (yM_isNumber_ok a5 μ) ?_
            refine XB.ifz (P := ¬ (yM_isNumber a5) = (0 : Int32)) rfl rfl rfl (fun c53 => ?_) (fun c53 => ?_)
            · refine XB.go 2 (pc' := 65) (ls' := [some (.ref 32), some (.int a1), some (.int a2), some (.int a3), some (.int a4), some (.int a5)]) (st' := [(.int (μ.2.1 32 0))]) (μ' := μ) rfl ?_
              refine XB.ifz (P := (μ.2.1 32 0) ≤ (0 : Int32)) rfl rfl rfl (fun c65 => ?_) (fun c65 => ?_)
              · refine XB.go 1 (pc' := 73) (ls' := [some (.ref 32), some (.int a1), some (.int a2), some (.int a3), some (.int a4), some (.int a5)]) (st' := [(.int (0 : Int32))]) (μ' := μ) rfl ?_
                exact XB.fin rfl
              · refine XB.go 2 (pc' := 73) (ls' := [some (.ref 32), some (.int a1), some (.int a2), some (.int a3), some (.int a4), some (.int a5)]) (st' := [(.int (1 : Int32))]) (μ' := μ) rfl ?_
                exact XB.fin rfl
            · refine XB.go 5 (pc' := 65) (ls' := [some (.ref 32), some (.int a1), some (.int a2), some (.int a3), some (.int a4), some (.int a5)]) (st' := [(.int (2 : Int32))]) (μ' := (μ.1, (xuI μ.2.1 32 0 (2 : Int32)), μ.2.2)) rfl ?_
              refine XB.ifzF rfl rfl rfl ?_
              refine XB.go 2 (pc' := 73) (ls' := [some (.ref 32), some (.int a1), some (.int a2), some (.int a3), some (.int a4), some (.int a5)]) (st' := [(.int (1 : Int32))]) (μ' := (μ.1, (xuI μ.2.1 32 0 (2 : Int32)), μ.2.2)) rfl ?_
              exact XB.fin rfl
    · refine XB.go 6 (pc' := 65) (ls' := [some (.ref 32), some (.int a1), some (.int a2), some (.int a3), some (.int a4), some (.int a5)]) (st' := [(.int (1 : Int32))]) (μ' := (μ.1, (xuI μ.2.1 32 0 (1 : Int32)), μ.2.2)) rfl ?_
      refine XB.ifzF rfl rfl rfl ?_
      refine XB.go 2 (pc' := 73) (ls' := [some (.ref 32), some (.int a1), some (.int a2), some (.int a3), some (.int a4), some (.int a5)]) (st' := [(.int (1 : Int32))]) (μ' := (μ.1, (xuI μ.2.1 32 0 (1 : Int32)), μ.2.2)) rfl ?_
      exact XB.fin rfl
/-- LogServerModel.asNew(II)Z -/
def yM_asNew (a1 : Int32) (a2 : Int32) (μ : XMu) : XRes := xbi (yM_termAt (μ.2.1 32 10) μ) (fun r2 m1 => (if r2 < a2 then some (.inl (some (.int (1 : Int32))), m1) else xbi (yM_termAt (m1.2.1 32 10) m1) (fun r4 m3 => (if ¬ a2 = r4 then some (.inl (some (.int (0 : Int32))), m3) else (if a1 < (m3.2.1 32 10) then some (.inl (some (.int (0 : Int32))), m3) else some (.inl (some (.int (1 : Int32))), m3))))))
theorem yM_asNew_ok {L : Nat} {xs : Nat → Int32} (a1 : Int32) (a2 : Int32) (μ : XMu) : XB L xs 199 0 [some (.ref 32), some (.int a1), some (.int a2)] [] μ (yM_asNew a1 a2 μ) := by
  unfold yM_asNew
  refine XB.go 4 (pc' := 6) (ls' := [some (.ref 32), some (.int a1), some (.int a2)]) (st' := [(.int (μ.2.1 32 10)), (.ref 32), (.int a2)]) (μ' := μ) rfl ?_
  refine XB.ci rfl rfl rfl rfl rfl (yM_termAt_ok (μ.2.1 32 10) μ) (fun r2 m1 => ?_)
  refine XB.icmp (P := r2 < a2) rfl rfl rfl (fun c9 => ?_) (fun c9 => ?_)
  · refine XB.go 2 (pc' := 37) (ls' := [some (.ref 32), some (.int a1), some (.int a2)]) (st' := [(.int (1 : Int32))]) (μ' := m1) rfl ?_
    exact XB.fin rfl
  · refine XB.go 4 (pc' := 18) (ls' := [some (.ref 32), some (.int a1), some (.int a2)]) (st' := [(.int (m1.2.1 32 10)), (.ref 32), (.int a2)]) (μ' := m1) rfl ?_
    refine XB.ci rfl rfl rfl rfl rfl (yM_termAt_ok (m1.2.1 32 10) m1) (fun r4 m3 => ?_)
    refine XB.icmp (P := ¬ a2 = r4) rfl rfl rfl (fun c21 => ?_) (fun c21 => ?_)
    · refine XB.go 1 (pc' := 37) (ls' := [some (.ref 32), some (.int a1), some (.int a2)]) (st' := [(.int (0 : Int32))]) (μ' := m3) rfl ?_
      exact XB.fin rfl
    · refine XB.go 3 (pc' := 29) (ls' := [some (.ref 32), some (.int a1), some (.int a2)]) (st' := [(.int (m3.2.1 32 10)), (.int a1)]) (μ' := m3) rfl ?_
      refine XB.icmp (P := a1 < (m3.2.1 32 10)) rfl rfl rfl (fun c29 => ?_) (fun c29 => ?_)
      · refine XB.go 1 (pc' := 37) (ls' := [some (.ref 32), some (.int a1), some (.int a2)]) (st' := [(.int (0 : Int32))]) (μ' := m3) rfl ?_
        exact XB.fin rfl
      · refine XB.go 2 (pc' := 37) (ls' := [some (.ref 32), some (.int a1), some (.int a2)]) (st' := [(.int (1 : Int32))]) (μ' := m3) rfl ?_
        exact XB.fin rfl
/-- LogServerModel.preask(IIII)V -/
def yM_preask_b72  (x1 : Int32) (x2 : Int32) (s0 : Int32) (μ : XMu) : XRes := (if s0 = (0 : Int32) then xbv (yM_begin x1 (2 : Int32) (μ.2.1 32 4) μ) (fun m3 => (if s0 = (0 : Int32) then xbv (yM_add (0 : Int32) m3) (fun m4 => xbv (yM_send m4) (fun m5 => some (.inl none, m5))) else xbv (yM_add (1 : Int32) m3) (fun m6 => xbv (yM_send m6) (fun m7 => some (.inl none, m7))))) else xbv (yM_begin x1 (2 : Int32) x2 μ) (fun m8 => (if s0 = (0 : Int32) then xbv (yM_add (0 : Int32) m8) (fun m9 => xbv (yM_send m9) (fun m10 => some (.inl none, m10))) else xbv (yM_add (1 : Int32) m8) (fun m11 => xbv (yM_send m11) (fun m12 => some (.inl none, m12))))))
theorem yM_preask_b72_ok {L : Nat} {xs : Nat → Int32}  (d3 : Option Int32) (d4 : Option Int32) (d5 : Option Int32) (x1 : Int32) (x2 : Int32) (s0 : Int32) (μ : XMu) : XB L xs 200 72 [some (.ref 32), some (.int x1), some (.int x2), (xdl d3), (xdl d4), (xdl d5)] [(.int s0)] μ (yM_preask_b72  x1 x2 s0 μ) := by
  unfold yM_preask_b72
  refine XB.go 5 (pc' := 79) (ls' := [some (.ref 32), some (.int x1), some (.int x2), (xdl d3), (xdl d4), some (.int s0)]) (st' := [(.int s0), (.int (2 : Int32)), (.int x1), (.ref 32)]) (μ' := μ) (by cases d4 <;> rfl) ?_
  refine XB.ifz (P := s0 = (0 : Int32)) rfl rfl rfl (fun c79 => ?_) (fun c79 => ?_)
  · refine XB.go 2 (pc' := 90) (ls' := [some (.ref 32), some (.int x1), some (.int x2), (xdl d3), (xdl d4), some (.int s0)]) (st' := [(.int (μ.2.1 32 4)), (.int (2 : Int32)), (.int x1), (.ref 32)]) (μ' := μ) rfl ?_
    refine XB.cv rfl rfl rfl rfl rfl (yM_begin_ok x1 (2 : Int32) (μ.2.1 32 4) μ) (fun m3 => ?_)
    refine XB.go 2 (pc' := 96) (ls' := [some (.ref 32), some (.int x1), some (.int x2), (xdl d3), (xdl d4), some (.int s0)]) (st' := [(.int s0), (.ref 32)]) (μ' := m3) rfl ?_
    refine XB.ifz (P := s0 = (0 : Int32)) rfl rfl rfl (fun c96 => ?_) (fun c96 => ?_)
    · refine XB.go 1 (pc' := 104) (ls' := [some (.ref 32), some (.int x1), some (.int x2), (xdl d3), (xdl d4), some (.int s0)]) (st' := [(.int (0 : Int32)), (.ref 32)]) (μ' := m3) rfl ?_
      refine XB.cv rfl rfl rfl rfl rfl (yM_add_ok (0 : Int32) m3) (fun m4 => ?_)
      refine XB.go 1 (pc' := 108) (ls' := [some (.ref 32), some (.int x1), some (.int x2), (xdl d3), (xdl d4), some (.int s0)]) (st' := [(.ref 32)]) (μ' := m4) rfl ?_
      refine XB.cv rfl rfl rfl rfl rfl (yM_send_ok m4) (fun m5 => ?_)
      exact XB.fin rfl
    · refine XB.go 2 (pc' := 104) (ls' := [some (.ref 32), some (.int x1), some (.int x2), (xdl d3), (xdl d4), some (.int s0)]) (st' := [(.int (1 : Int32)), (.ref 32)]) (μ' := m3) rfl ?_
      refine XB.cv rfl rfl rfl rfl rfl (yM_add_ok (1 : Int32) m3) (fun m6 => ?_)
      refine XB.go 1 (pc' := 108) (ls' := [some (.ref 32), some (.int x1), some (.int x2), (xdl d3), (xdl d4), some (.int s0)]) (st' := [(.ref 32)]) (μ' := m6) rfl ?_
      refine XB.cv rfl rfl rfl rfl rfl (yM_send_ok m6) (fun m7 => ?_)
      exact XB.fin rfl
  · refine XB.go 2 (pc' := 90) (ls' := [some (.ref 32), some (.int x1), some (.int x2), (xdl d3), (xdl d4), some (.int s0)]) (st' := [(.int x2), (.int (2 : Int32)), (.int x1), (.ref 32)]) (μ' := μ) rfl ?_
    refine XB.cv rfl rfl rfl rfl rfl (yM_begin_ok x1 (2 : Int32) x2 μ) (fun m8 => ?_)
    refine XB.go 2 (pc' := 96) (ls' := [some (.ref 32), some (.int x1), some (.int x2), (xdl d3), (xdl d4), some (.int s0)]) (st' := [(.int s0), (.ref 32)]) (μ' := m8) rfl ?_
    refine XB.ifz (P := s0 = (0 : Int32)) rfl rfl rfl (fun c96 => ?_) (fun c96 => ?_)
    · refine XB.go 1 (pc' := 104) (ls' := [some (.ref 32), some (.int x1), some (.int x2), (xdl d3), (xdl d4), some (.int s0)]) (st' := [(.int (0 : Int32)), (.ref 32)]) (μ' := m8) rfl ?_
      refine XB.cv rfl rfl rfl rfl rfl (yM_add_ok (0 : Int32) m8) (fun m9 => ?_)
      refine XB.go 1 (pc' := 108) (ls' := [some (.ref 32), some (.int x1), some (.int x2), (xdl d3), (xdl d4), some (.int s0)]) (st' := [(.ref 32)]) (μ' := m9) rfl ?_
      refine XB.cv rfl rfl rfl rfl rfl (yM_send_ok m9) (fun m10 => ?_)
      exact XB.fin rfl
    · refine XB.go 2 (pc' := 104) (ls' := [some (.ref 32), some (.int x1), some (.int x2), (xdl d3), (xdl d4), some (.int s0)]) (st' := [(.int (1 : Int32)), (.ref 32)]) (μ' := m8) rfl ?_
      refine XB.cv rfl rfl rfl rfl rfl (yM_add_ok (1 : Int32) m8) (fun m11 => ?_)
      refine XB.go 1 (pc' := 108) (ls' := [some (.ref 32), some (.int x1), some (.int x2), (xdl d3), (xdl d4), some (.int s0)]) (st' := [(.ref 32)]) (μ' := m11) rfl ?_
      refine XB.cv rfl rfl rfl rfl rfl (yM_send_ok m11) (fun m12 => ?_)
      exact XB.fin rfl
def yM_preask_b71  (x1 : Int32) (x2 : Int32) (μ : XMu) : XRes := yM_preask_b72  x1 x2 (0 : Int32) μ
theorem yM_preask_b71_ok {L : Nat} {xs : Nat → Int32}  (d3 : Option Int32) (d4 : Option Int32) (d5 : Option Int32) (x1 : Int32) (x2 : Int32) (μ : XMu) : XB L xs 200 71 [some (.ref 32), some (.int x1), some (.int x2), (xdl d3), (xdl d4), (xdl d5)] [] μ (yM_preask_b71  x1 x2 μ) := by
  unfold yM_preask_b71
  refine XB.go 1 (pc' := 72) (ls' := [some (.ref 32), some (.int x1), some (.int x2), (xdl d3), (xdl d4), (xdl d5)]) (st' := [(.int (0 : Int32))]) (μ' := μ) rfl ?_
  exact yM_preask_b72_ok  (d3) (d4) (d5) x1 x2 (0 : Int32) μ
def yM_preask_b67  (x1 : Int32) (x2 : Int32) (μ : XMu) : XRes := yM_preask_b72  x1 x2 (1 : Int32) μ
theorem yM_preask_b67_ok {L : Nat} {xs : Nat → Int32}  (d3 : Option Int32) (d4 : Option Int32) (d5 : Option Int32) (x1 : Int32) (x2 : Int32) (μ : XMu) : XB L xs 200 67 [some (.ref 32), some (.int x1), some (.int x2), (xdl d3), (xdl d4), (xdl d5)] [] μ (yM_preask_b67  x1 x2 μ) := by
  unfold yM_preask_b67
  refine XB.go 2 (pc' := 72) (ls' := [some (.ref 32), some (.int x1), some (.int x2), (xdl d3), (xdl d4), (xdl d5)]) (st' := [(.int (1 : Int32))]) (μ' := μ) rfl ?_
  exact yM_preask_b72_ok  (d3) (d4) (d5) x1 x2 (1 : Int32) μ
def yM_preask (a1 : Int32) (a2 : Int32) (a3 : Int32) (a4 : Int32) (μ : XMu) : XRes := xbi (yM_bad a1 a2 a3 a4 (0 : Int32) (μ.1, (xuI μ.2.1 32 0 (0 : Int32)), μ.2.2)) (fun r2 m1 => (if r2 = (0 : Int32) then (if a2 ≤ (m1.2.1 32 4) then yM_preask_b71  a1 a2 m1 else xbi (yM_asNew a3 a4 m1) (fun r14 m13 => (if r14 = (0 : Int32) then yM_preask_b71  a1 a2 m13 else (if (m13.2.1 32 15) = (3 : Int32) then yM_preask_b71  a1 a2 m13 else (if (m13.2.1 32 20) = (-1 : Int32) then yM_preask_b67  a1 a2 m13 else (if ((m13.2.1 32 3) - (50 : Int32)) < (m13.2.1 32 20) then yM_preask_b71  a1 a2 m13 else yM_preask_b67  a1 a2 m13)))))) else some (.inl none, m1)))
theorem yM_preask_ok {L : Nat} {xs : Nat → Int32} (a1 : Int32) (a2 : Int32) (a3 : Int32) (a4 : Int32) (μ : XMu) : XB L xs 200 0 [some (.ref 32), some (.int a1), some (.int a2), some (.int a3), some (.int a4), none] [] μ (yM_preask a1 a2 a3 a4 μ) := by
  unfold yM_preask
  refine XB.go 9 (pc' := 12) (ls' := [some (.ref 32), some (.int a1), some (.int a2), some (.int a3), some (.int a4), none]) (st' := [(.int (0 : Int32)), (.int a4), (.int a3), (.int a2), (.int a1), (.ref 32)]) (μ' := (μ.1, (xuI μ.2.1 32 0 (0 : Int32)), μ.2.2)) rfl ?_
  refine XB.ci rfl rfl rfl rfl rfl (yM_bad_ok a1 a2 a3 a4 (0 : Int32) (μ.1, (xuI μ.2.1 32 0 (0 : Int32)), μ.2.2)) (fun r2 m1 => ?_)
  refine XB.ifz (P := r2 = (0 : Int32)) rfl rfl rfl (fun c15 => ?_) (fun c15 => ?_)
  · refine XB.go 3 (pc' := 24) (ls' := [some (.ref 32), some (.int a1), some (.int a2), some (.int a3), some (.int a4), none]) (st' := [(.int (m1.2.1 32 4)), (.int a2)]) (μ' := m1) rfl ?_
    refine XB.icmp (P := a2 ≤ (m1.2.1 32 4)) rfl rfl rfl (fun c24 => ?_) (fun c24 => ?_)
    · exact yM_preask_b71_ok  (some a3) (some a4) (none) a1 a2 m1
    · refine XB.go 3 (pc' := 31) (ls' := [some (.ref 32), some (.int a1), some (.int a2), some (.int a3), some (.int a4), none]) (st' := [(.int a4), (.int a3), (.ref 32)]) (μ' := m1) rfl ?_
      refine XB.ci rfl rfl rfl rfl rfl (yM_asNew_ok a3 a4 m1) (fun r14 m13 => ?_)
      refine XB.ifz (P := r14 = (0 : Int32)) rfl rfl rfl (fun c34 => ?_) (fun c34 => ?_)
      · exact yM_preask_b71_ok  (some a3) (some a4) (none) a1 a2 m13
      · refine XB.go 3 (pc' := 42) (ls' := [some (.ref 32), some (.int a1), some (.int a2), some (.int a3), some (.int a4), none]) (st' := [(.int (3 : Int32)), (.int (m13.2.1 32 15))]) (μ' := m13) rfl ?_
        refine XB.icmp (P := (m13.2.1 32 15) = (3 : Int32)) rfl rfl rfl (fun c42 => ?_) (fun c42 => ?_)
        · exact yM_preask_b71_ok  (some a3) (some a4) (none) a1 a2 m13
        · refine XB.go 3 (pc' := 50) (ls' := [some (.ref 32), some (.int a1), some (.int a2), some (.int a3), some (.int a4), none]) (st' := [(.int (-1 : Int32)), (.int (m13.2.1 32 20))]) (μ' := m13) rfl ?_
          refine XB.icmp (P := (m13.2.1 32 20) = (-1 : Int32)) rfl rfl rfl (fun c50 => ?_) (fun c50 => ?_)
          · exact yM_preask_b67_ok  (some a3) (some a4) (none) a1 a2 m13
          · refine XB.go 6 (pc' := 64) (ls' := [some (.ref 32), some (.int a1), some (.int a2), some (.int a3), some (.int a4), none]) (st' := [(.int ((m13.2.1 32 3) - (50 : Int32))), (.int (m13.2.1 32 20))]) (μ' := m13) rfl ?_
            refine XB.icmp (P := ((m13.2.1 32 3) - (50 : Int32)) < (m13.2.1 32 20)) rfl rfl rfl (fun c64 => ?_) (fun c64 => ?_)
            · exact yM_preask_b71_ok  (some a3) (some a4) (none) a1 a2 m13
            · exact yM_preask_b67_ok  (some a3) (some a4) (none) a1 a2 m13
  · exact XB.fin rfl
/-- LogServerModel.above(I)V -/
def yM_above (a1 : Int32) (μ : XMu) : XRes := (if a1 ≤ (μ.2.1 32 4) then some (.inl none, μ) else xbv (yM_stepDown a1 (-1 : Int32) μ) (fun m1 => some (.inl none, m1)))
theorem yM_above_ok {L : Nat} {xs : Nat → Int32} (a1 : Int32) (μ : XMu) : XB L xs 201 0 [some (.ref 32), some (.int a1)] [] μ (yM_above a1 μ) := by
  unfold yM_above
  refine XB.go 3 (pc' := 5) (ls' := [some (.ref 32), some (.int a1)]) (st' := [(.int (μ.2.1 32 4)), (.int a1)]) (μ' := μ) rfl ?_
  refine XB.icmp (P := a1 ≤ (μ.2.1 32 4)) rfl rfl rfl (fun c5 => ?_) (fun c5 => ?_)
  · exact XB.fin rfl
  · refine XB.go 3 (pc' := 11) (ls' := [some (.ref 32), some (.int a1)]) (st' := [(.int (-1 : Int32)), (.int a1), (.ref 32)]) (μ' := μ) rfl ?_
    refine XB.cv rfl rfl rfl rfl rfl (yM_stepDown_ok a1 (-1 : Int32) μ) (fun m1 => ?_)
    exact XB.fin rfl
/-- LogServerModel.preanswer(IIZ)V -/
def yM_preanswer_b27  (x1 : Int32) (x2 : Int32) (x3 : Int32) (μ : XMu) : XRes := (if x3 = (0 : Int32) then some (.inl none, μ) else (if ¬ x2 = ((μ.2.1 32 4) + (1 : Int32)) then some (.inl none, μ) else (if ¬ (μ.2.1 32 15) = (1 : Int32) then some (.inl none, μ) else xbi (yM_majority ((μ.2.1 32 22) ||| ((1 : Int32) <<< (x1 &&& 31))) (μ.1, (xuI μ.2.1 32 22 ((μ.2.1 32 22) ||| ((1 : Int32) <<< (x1 &&& 31)))), μ.2.2)) (fun r4 m3 => (if r4 = (0 : Int32) then some (.inl none, m3) else xbv (yM_campaign m3) (fun m5 => some (.inl none, m5)))))))
theorem yM_preanswer_b27_ok {L : Nat} {xs : Nat → Int32}   (x1 : Int32) (x2 : Int32) (x3 : Int32) (μ : XMu) : XB L xs 202 27 [some (.ref 32), some (.int x1), some (.int x2), some (.int x3)] [] μ (yM_preanswer_b27  x1 x2 x3 μ) := by
  unfold yM_preanswer_b27
  refine XB.go 1 (pc' := 28) (ls' := [some (.ref 32), some (.int x1), some (.int x2), some (.int x3)]) (st' := [(.int x3)]) (μ' := μ) rfl ?_
  refine XB.ifz (P := x3 = (0 : Int32)) rfl rfl rfl (fun c28 => ?_) (fun c28 => ?_)
  · exact XB.fin rfl
  · refine XB.go 5 (pc' := 38) (ls' := [some (.ref 32), some (.int x1), some (.int x2), some (.int x3)]) (st' := [(.int ((μ.2.1 32 4) + (1 : Int32))), (.int x2)]) (μ' := μ) rfl ?_
    refine XB.icmp (P := ¬ x2 = ((μ.2.1 32 4) + (1 : Int32))) rfl rfl rfl (fun c38 => ?_) (fun c38 => ?_)
    · exact XB.fin rfl
    · refine XB.go 3 (pc' := 46) (ls' := [some (.ref 32), some (.int x1), some (.int x2), some (.int x3)]) (st' := [(.int (1 : Int32)), (.int (μ.2.1 32 15))]) (μ' := μ) rfl ?_
      refine XB.icmp (P := ¬ (μ.2.1 32 15) = (1 : Int32)) rfl rfl rfl (fun c46 => ?_) (fun c46 => ?_)
      · exact XB.fin rfl
      · refine XB.go 11 (pc' := 66) (ls' := [some (.ref 32), some (.int x1), some (.int x2), some (.int x3)]) (st' := [(.int ((μ.2.1 32 22) ||| ((1 : Int32) <<< (x1 &&& 31)))), (.ref 32)]) (μ' := (μ.1, (xuI μ.2.1 32 22 ((μ.2.1 32 22) ||| ((1 : Int32) <<< (x1 &&& 31)))), μ.2.2)) rfl ?_
        refine XB.ci rfl rfl rfl rfl rfl (yM_majority_ok ((μ.2.1 32 22) ||| ((1 : Int32) <<< (x1 &&& 31))) (μ.1, (xuI μ.2.1 32 22 ((μ.2.1 32 22) ||| ((1 : Int32) <<< (x1 &&& 31)))), μ.2.2)) (fun r4 m3 => ?_)
        refine XB.ifz (P := r4 = (0 : Int32)) rfl rfl rfl (fun c69 => ?_) (fun c69 => ?_)
        · exact XB.fin rfl
        · refine XB.go 1 (pc' := 73) (ls' := [some (.ref 32), some (.int x1), some (.int x2), some (.int x3)]) (st' := [(.ref 32)]) (μ' := m3) rfl ?_
          refine XB.cv rfl rfl rfl rfl rfl (yM_campaign_ok m3) (fun m5 => ?_)
          exact XB.fin rfl
def yM_preanswer (a1 : Int32) (a2 : Int32) (a3 : Int32) (μ : XMu) : XRes := xbi (yM_bad a1 a2 (0 : Int32) (0 : Int32) (0 : Int32) (μ.1, (xuI μ.2.1 32 0 (0 : Int32)), μ.2.2)) (fun r2 m1 => (if r2 = (0 : Int32) then (if ¬ a3 = (0 : Int32) then yM_preanswer_b27  a1 a2 a3 m1 else xbv (yM_above a2 m1) (fun m6 => yM_preanswer_b27  a1 a2 a3 m6)) else some (.inl none, m1)))
theorem yM_preanswer_ok {L : Nat} {xs : Nat → Int32} (a1 : Int32) (a2 : Int32) (a3 : Int32) (μ : XMu) : XB L xs 202 0 [some (.ref 32), some (.int a1), some (.int a2), some (.int a3)] [] μ (yM_preanswer a1 a2 a3 μ) := by
  unfold yM_preanswer
  refine XB.go 9 (pc' := 11) (ls' := [some (.ref 32), some (.int a1), some (.int a2), some (.int a3)]) (st' := [(.int (0 : Int32)), (.int (0 : Int32)), (.int (0 : Int32)), (.int a2), (.int a1), (.ref 32)]) (μ' := (μ.1, (xuI μ.2.1 32 0 (0 : Int32)), μ.2.2)) rfl ?_
  refine XB.ci rfl rfl rfl rfl rfl (yM_bad_ok a1 a2 (0 : Int32) (0 : Int32) (0 : Int32) (μ.1, (xuI μ.2.1 32 0 (0 : Int32)), μ.2.2)) (fun r2 m1 => ?_)
  refine XB.ifz (P := r2 = (0 : Int32)) rfl rfl rfl (fun c14 => ?_) (fun c14 => ?_)
  · refine XB.go 1 (pc' := 19) (ls' := [some (.ref 32), some (.int a1), some (.int a2), some (.int a3)]) (st' := [(.int a3)]) (μ' := m1) rfl ?_
    refine XB.ifz (P := ¬ a3 = (0 : Int32)) rfl rfl rfl (fun c19 => ?_) (fun c19 => ?_)
    · exact yM_preanswer_b27_ok   a1 a2 a3 m1
    · refine XB.go 2 (pc' := 24) (ls' := [some (.ref 32), some (.int a1), some (.int a2), some (.int a3)]) (st' := [(.int a2), (.ref 32)]) (μ' := m1) rfl ?_
      refine XB.cv rfl rfl rfl rfl rfl (yM_above_ok a2 m1) (fun m6 => ?_)
      exact yM_preanswer_b27_ok   a1 a2 a3 m6
  · exact XB.fin rfl
/-- LogServerModel.reply(IIIII)V -/
def yM_reply (a1 : Int32) (a2 : Int32) (a3 : Int32) (a4 : Int32) (a5 : Int32) (μ : XMu) : XRes := xbv (yM_begin a1 a2 (μ.2.1 32 4) μ) (fun m1 => xbv (yM_add a3 m1) (fun m2 => (if a2 = (6 : Int32) then xbv (yM_add a4 m2) (fun m3 => xbv (yM_add a5 m3) (fun m4 => xbv (yM_send m4) (fun m5 => some (.inl none, m5)))) else (if ¬ a2 = (8 : Int32) then xbv (yM_send m2) (fun m6 => some (.inl none, m6)) else xbv (yM_add a4 m2) (fun m7 => xbv (yM_add a5 m7) (fun m8 => xbv (yM_send m8) (fun m9 => some (.inl none, m9))))))))
theorem yM_reply_ok {L : Nat} {xs : Nat → Int32} (a1 : Int32) (a2 : Int32) (a3 : Int32) (a4 : Int32) (a5 : Int32) (μ : XMu) : XB L xs 203 0 [some (.ref 32), some (.int a1), some (.int a2), some (.int a3), some (.int a4), some (.int a5)] [] μ (yM_reply a1 a2 a3 a4 a5 μ) := by
  unfold yM_reply
  refine XB.go 5 (pc' := 7) (ls' := [some (.ref 32), some (.int a1), some (.int a2), some (.int a3), some (.int a4), some (.int a5)]) (st' := [(.int (μ.2.1 32 4)), (.int a2), (.int a1), (.ref 32)]) (μ' := μ) rfl ?_
  refine XB.cv rfl rfl rfl rfl rfl (yM_begin_ok a1 a2 (μ.2.1 32 4) μ) (fun m1 => ?_)
  refine XB.go 2 (pc' := 12) (ls' := [some (.ref 32), some (.int a1), some (.int a2), some (.int a3), some (.int a4), some (.int a5)]) (st' := [(.int a3), (.ref 32)]) (μ' := m1) rfl ?_
  refine XB.cv rfl rfl rfl rfl rfl (yM_add_ok a3 m1) (fun m2 => ?_)
  refine XB.go 2 (pc' := 18) (ls' := [some (.ref 32), some (.int a1), some (.int a2), some (.int a3), some (.int a4), some (.int a5)]) (st' := [(.int (6 : Int32)), (.int a2)]) (μ' := m2) rfl ?_
  refine XB.icmp (P := a2 = (6 : Int32)) rfl rfl rfl (fun c18 => ?_) (fun c18 => ?_)
  · refine XB.go 2 (pc' := 30) (ls' := [some (.ref 32), some (.int a1), some (.int a2), some (.int a3), some (.int a4), some (.int a5)]) (st' := [(.int a4), (.ref 32)]) (μ' := m2) rfl ?_
    refine XB.cv rfl rfl rfl rfl rfl (yM_add_ok a4 m2) (fun m3 => ?_)
    refine XB.go 2 (pc' := 36) (ls' := [some (.ref 32), some (.int a1), some (.int a2), some (.int a3), some (.int a4), some (.int a5)]) (st' := [(.int a5), (.ref 32)]) (μ' := m3) rfl ?_
    refine XB.cv rfl rfl rfl rfl rfl (yM_add_ok a5 m3) (fun m4 => ?_)
    refine XB.go 1 (pc' := 40) (ls' := [some (.ref 32), some (.int a1), some (.int a2), some (.int a3), some (.int a4), some (.int a5)]) (st' := [(.ref 32)]) (μ' := m4) rfl ?_
    refine XB.cv rfl rfl rfl rfl rfl (yM_send_ok m4) (fun m5 => ?_)
    exact XB.fin rfl
  · refine XB.go 2 (pc' := 24) (ls' := [some (.ref 32), some (.int a1), some (.int a2), some (.int a3), some (.int a4), some (.int a5)]) (st' := [(.int (8 : Int32)), (.int a2)]) (μ' := m2) rfl ?_
    refine XB.icmp (P := ¬ a2 = (8 : Int32)) rfl rfl rfl (fun c24 => ?_) (fun c24 => ?_)
    · refine XB.go 1 (pc' := 40) (ls' := [some (.ref 32), some (.int a1), some (.int a2), some (.int a3), some (.int a4), some (.int a5)]) (st' := [(.ref 32)]) (μ' := m2) rfl ?_
      refine XB.cv rfl rfl rfl rfl rfl (yM_send_ok m2) (fun m6 => ?_)
      exact XB.fin rfl
    · refine XB.go 2 (pc' := 30) (ls' := [some (.ref 32), some (.int a1), some (.int a2), some (.int a3), some (.int a4), some (.int a5)]) (st' := [(.int a4), (.ref 32)]) (μ' := m2) rfl ?_
      refine XB.cv rfl rfl rfl rfl rfl (yM_add_ok a4 m2) (fun m7 => ?_)
      refine XB.go 2 (pc' := 36) (ls' := [some (.ref 32), some (.int a1), some (.int a2), some (.int a3), some (.int a4), some (.int a5)]) (st' := [(.int a5), (.ref 32)]) (μ' := m7) rfl ?_
      refine XB.cv rfl rfl rfl rfl rfl (yM_add_ok a5 m7) (fun m8 => ?_)
      refine XB.go 1 (pc' := 40) (ls' := [some (.ref 32), some (.int a1), some (.int a2), some (.int a3), some (.int a4), some (.int a5)]) (st' := [(.ref 32)]) (μ' := m8) rfl ?_
      refine XB.cv rfl rfl rfl rfl rfl (yM_send_ok m8) (fun m9 => ?_)
      exact XB.fin rfl
/-- LogServerModel.ask(IIII)V -/
def yM_ask_b91  (x1 : Int32) (x5 : Int32) (s1 : Int32) (μ : XMu) : XRes := xgd (x01 s1) (xbv (yM_draw (μ.1, (xuI (xuI (xuI μ.2.1 32 14 s1) 32 5 x1) 32 15 (0 : Int32)), μ.2.2)) (fun m6 => (if x5 = (0 : Int32) then xbv (yM_reply x1 (4 : Int32) (0 : Int32) (0 : Int32) (0 : Int32) m6) (fun m7 => some (.inl none, m7)) else xbv (yM_reply x1 (4 : Int32) (1 : Int32) (0 : Int32) (0 : Int32) m6) (fun m8 => some (.inl none, m8)))))
theorem yM_ask_b91_ok {L : Nat} {xs : Nat → Int32}  (d2 : Option Int32) (d3 : Option Int32) (d4 : Option Int32) (x1 : Int32) (x5 : Int32) (s1 : Int32) (μ : XMu) : XB L xs 204 91 [some (.ref 32), some (.int x1), (xdl d2), (xdl d3), (xdl d4), some (.int x5)] [(.int s1), (.ref 32)] μ (yM_ask_b91  x1 x5 s1 μ) := by
  unfold yM_ask_b91
  refine XB.gd (pc' := 94) (ls' := [some (.ref 32), some (.int x1), (xdl d2), (xdl d3), (xdl d4), some (.int x5)]) (st' := []) (μ' := (μ.1, (xuI μ.2.1 32 14 s1), μ.2.2)) rfl rfl rfl (fun hb => by rcases x01_or hb with rfl | rfl <;> rfl) ?_
  refine XB.go 7 (pc' := 105) (ls' := [some (.ref 32), some (.int x1), (xdl d2), (xdl d3), (xdl d4), some (.int x5)]) (st' := [(.ref 32)]) (μ' := (μ.1, (xuI (xuI (xuI μ.2.1 32 14 s1) 32 5 x1) 32 15 (0 : Int32)), μ.2.2)) rfl ?_
  refine XB.cv rfl rfl rfl rfl rfl (yM_draw_ok (μ.1, (xuI (xuI (xuI μ.2.1 32 14 s1) 32 5 x1) 32 15 (0 : Int32)), μ.2.2)) (fun m6 => ?_)
  refine XB.go 4 (pc' := 113) (ls' := [some (.ref 32), some (.int x1), (xdl d2), (xdl d3), (xdl d4), some (.int x5)]) (st' := [(.int x5), (.int (4 : Int32)), (.int x1), (.ref 32)]) (μ' := m6) rfl ?_
  refine XB.ifz (P := x5 = (0 : Int32)) rfl rfl rfl (fun c113 => ?_) (fun c113 => ?_)
  · refine XB.go 3 (pc' := 123) (ls' := [some (.ref 32), some (.int x1), (xdl d2), (xdl d3), (xdl d4), some (.int x5)]) (st' := [(.int (0 : Int32)), (.int (0 : Int32)), (.int (0 : Int32)), (.int (4 : Int32)), (.int x1), (.ref 32)]) (μ' := m6) rfl ?_
    refine XB.cv rfl rfl rfl rfl rfl (yM_reply_ok x1 (4 : Int32) (0 : Int32) (0 : Int32) (0 : Int32) m6) (fun m7 => ?_)
    exact XB.fin rfl
  · refine XB.go 4 (pc' := 123) (ls' := [some (.ref 32), some (.int x1), (xdl d2), (xdl d3), (xdl d4), some (.int x5)]) (st' := [(.int (0 : Int32)), (.int (0 : Int32)), (.int (1 : Int32)), (.int (4 : Int32)), (.int x1), (.ref 32)]) (μ' := m6) rfl ?_
    refine XB.cv rfl rfl rfl rfl rfl (yM_reply_ok x1 (4 : Int32) (1 : Int32) (0 : Int32) (0 : Int32) m6) (fun m8 => ?_)
    exact XB.fin rfl
def yM_ask_b86  (x1 : Int32) (x5 : Int32) (μ : XMu) : XRes := yM_ask_b91  x1 x5 (1 : Int32) μ
theorem yM_ask_b86_ok {L : Nat} {xs : Nat → Int32}  (d2 : Option Int32) (d3 : Option Int32) (d4 : Option Int32) (x1 : Int32) (x5 : Int32) (μ : XMu) : XB L xs 204 86 [some (.ref 32), some (.int x1), (xdl d2), (xdl d3), (xdl d4), some (.int x5)] [(.ref 32)] μ (yM_ask_b86  x1 x5 μ) := by
  unfold yM_ask_b86
  refine XB.go 2 (pc' := 91) (ls' := [some (.ref 32), some (.int x1), (xdl d2), (xdl d3), (xdl d4), some (.int x5)]) (st' := [(.int (1 : Int32)), (.ref 32)]) (μ' := μ) rfl ?_
  exact yM_ask_b91_ok  (d2) (d3) (d4) x1 x5 (1 : Int32) μ
def yM_ask_b63  (x1 : Int32) (s0 : Int32) (μ : XMu) : XRes := (if s0 = (0 : Int32) then (if s0 = (0 : Int32) then xbv (yM_reply x1 (4 : Int32) (0 : Int32) (0 : Int32) (0 : Int32) μ) (fun m4 => some (.inl none, m4)) else xbv (yM_reply x1 (4 : Int32) (1 : Int32) (0 : Int32) (0 : Int32) μ) (fun m5 => some (.inl none, m5))) else (if ¬ (μ.2.1 32 14) = (0 : Int32) then yM_ask_b86  x1 s0 μ else (if (μ.2.1 32 5) = x1 then yM_ask_b91  x1 s0 (0 : Int32) μ else yM_ask_b86  x1 s0 μ)))
theorem yM_ask_b63_ok {L : Nat} {xs : Nat → Int32}  (d2 : Option Int32) (d3 : Option Int32) (d4 : Option Int32) (d5 : Option Int32) (x1 : Int32) (s0 : Int32) (μ : XMu) : XB L xs 204 63 [some (.ref 32), some (.int x1), (xdl d2), (xdl d3), (xdl d4), (xdl d5)] [(.int s0)] μ (yM_ask_b63  x1 s0 μ) := by
  unfold yM_ask_b63
  refine XB.go 2 (pc' := 67) (ls' := [some (.ref 32), some (.int x1), (xdl d2), (xdl d3), (xdl d4), some (.int s0)]) (st' := [(.int s0)]) (μ' := μ) (by cases d4 <;> rfl) ?_
  refine XB.ifz (P := s0 = (0 : Int32)) rfl rfl rfl (fun c67 => ?_) (fun c67 => ?_)
  · refine XB.go 4 (pc' := 113) (ls' := [some (.ref 32), some (.int x1), (xdl d2), (xdl d3), (xdl d4), some (.int s0)]) (st' := [(.int s0), (.int (4 : Int32)), (.int x1), (.ref 32)]) (μ' := μ) rfl ?_
    refine XB.ifz (P := s0 = (0 : Int32)) rfl rfl rfl (fun c113 => ?_) (fun c113 => ?_)
    · refine XB.go 3 (pc' := 123) (ls' := [some (.ref 32), some (.int x1), (xdl d2), (xdl d3), (xdl d4), some (.int s0)]) (st' := [(.int (0 : Int32)), (.int (0 : Int32)), (.int (0 : Int32)), (.int (4 : Int32)), (.int x1), (.ref 32)]) (μ' := μ) rfl ?_
      refine XB.cv rfl rfl rfl rfl rfl (yM_reply_ok x1 (4 : Int32) (0 : Int32) (0 : Int32) (0 : Int32) μ) (fun m4 => ?_)
      exact XB.fin rfl
    · refine XB.go 4 (pc' := 123) (ls' := [some (.ref 32), some (.int x1), (xdl d2), (xdl d3), (xdl d4), some (.int s0)]) (st' := [(.int (0 : Int32)), (.int (0 : Int32)), (.int (1 : Int32)), (.int (4 : Int32)), (.int x1), (.ref 32)]) (μ' := μ) rfl ?_
      refine XB.cv rfl rfl rfl rfl rfl (yM_reply_ok x1 (4 : Int32) (1 : Int32) (0 : Int32) (0 : Int32) μ) (fun m5 => ?_)
      exact XB.fin rfl
  · refine XB.go 3 (pc' := 75) (ls' := [some (.ref 32), some (.int x1), (xdl d2), (xdl d3), (xdl d4), some (.int s0)]) (st' := [(.int (μ.2.1 32 14)), (.ref 32)]) (μ' := μ) rfl ?_
    refine XB.ifz (P := ¬ (μ.2.1 32 14) = (0 : Int32)) rfl rfl rfl (fun c75 => ?_) (fun c75 => ?_)
    · exact yM_ask_b86_ok  (d2) (d3) (d4) x1 s0 μ
    · refine XB.go 3 (pc' := 83) (ls' := [some (.ref 32), some (.int x1), (xdl d2), (xdl d3), (xdl d4), some (.int s0)]) (st' := [(.int x1), (.int (μ.2.1 32 5)), (.ref 32)]) (μ' := μ) rfl ?_
      refine XB.icmp (P := (μ.2.1 32 5) = x1) rfl rfl rfl (fun c83 => ?_) (fun c83 => ?_)
      · refine XB.go 1 (pc' := 91) (ls' := [some (.ref 32), some (.int x1), (xdl d2), (xdl d3), (xdl d4), some (.int s0)]) (st' := [(.int (0 : Int32)), (.ref 32)]) (μ' := μ) rfl ?_
        exact yM_ask_b91_ok  (d2) (d3) (d4) x1 s0 (0 : Int32) μ
      · exact yM_ask_b86_ok  (d2) (d3) (d4) x1 s0 μ
def yM_ask_b62  (x1 : Int32) (μ : XMu) : XRes := yM_ask_b63  x1 (0 : Int32) μ
theorem yM_ask_b62_ok {L : Nat} {xs : Nat → Int32}  (d2 : Option Int32) (d3 : Option Int32) (d4 : Option Int32) (d5 : Option Int32) (x1 : Int32) (μ : XMu) : XB L xs 204 62 [some (.ref 32), some (.int x1), (xdl d2), (xdl d3), (xdl d4), (xdl d5)] [] μ (yM_ask_b62  x1 μ) := by
  unfold yM_ask_b62
  refine XB.go 1 (pc' := 63) (ls' := [some (.ref 32), some (.int x1), (xdl d2), (xdl d3), (xdl d4), (xdl d5)]) (st' := [(.int (0 : Int32))]) (μ' := μ) rfl ?_
  exact yM_ask_b63_ok  (d2) (d3) (d4) (d5) x1 (0 : Int32) μ
def yM_ask_b48  (x1 : Int32) (x3 : Int32) (x4 : Int32) (μ : XMu) : XRes := xbi (yM_asNew x3 x4 μ) (fun r10 m9 => (if r10 = (0 : Int32) then yM_ask_b62  x1 m9 else yM_ask_b63  x1 (1 : Int32) m9))
theorem yM_ask_b48_ok {L : Nat} {xs : Nat → Int32}  (d2 : Option Int32) (d5 : Option Int32) (x1 : Int32) (x3 : Int32) (x4 : Int32) (μ : XMu) : XB L xs 204 48 [some (.ref 32), some (.int x1), (xdl d2), some (.int x3), some (.int x4), (xdl d5)] [] μ (yM_ask_b48  x1 x3 x4 μ) := by
  unfold yM_ask_b48
  refine XB.go 3 (pc' := 52) (ls' := [some (.ref 32), some (.int x1), (xdl d2), some (.int x3), some (.int x4), (xdl d5)]) (st' := [(.int x4), (.int x3), (.ref 32)]) (μ' := μ) rfl ?_
  refine XB.ci rfl rfl rfl rfl rfl (yM_asNew_ok x3 x4 μ) (fun r10 m9 => ?_)
  refine XB.ifz (P := r10 = (0 : Int32)) rfl rfl rfl (fun c55 => ?_) (fun c55 => ?_)
  · exact yM_ask_b62_ok  (d2) (some x3) (some x4) (d5) x1 m9
  · refine XB.go 2 (pc' := 63) (ls' := [some (.ref 32), some (.int x1), (xdl d2), some (.int x3), some (.int x4), (xdl d5)]) (st' := [(.int (1 : Int32))]) (μ' := m9) rfl ?_
    exact yM_ask_b63_ok  (d2) (some x3) (some x4) (d5) x1 (1 : Int32) m9
def yM_ask (a1 : Int32) (a2 : Int32) (a3 : Int32) (a4 : Int32) (μ : XMu) : XRes := xbi (yM_bad a1 a2 a3 a4 (0 : Int32) (μ.1, (xuI μ.2.1 32 0 (0 : Int32)), μ.2.2)) (fun r2 m1 => (if r2 = (0 : Int32) then xbv (yM_above a2 m1) (fun m3 => (if ¬ a2 = (m3.2.1 32 4) then yM_ask_b62  a1 m3 else (if (m3.2.1 32 5) = (-1 : Int32) then yM_ask_b48  a1 a3 a4 m3 else (if ¬ (m3.2.1 32 5) = a1 then yM_ask_b62  a1 m3 else yM_ask_b48  a1 a3 a4 m3)))) else some (.inl none, m1)))
theorem yM_ask_ok {L : Nat} {xs : Nat → Int32} (a1 : Int32) (a2 : Int32) (a3 : Int32) (a4 : Int32) (μ : XMu) : XB L xs 204 0 [some (.ref 32), some (.int a1), some (.int a2), some (.int a3), some (.int a4), none] [] μ (yM_ask a1 a2 a3 a4 μ) := by
  unfold yM_ask
  refine XB.go 9 (pc' := 12) (ls' := [some (.ref 32), some (.int a1), some (.int a2), some (.int a3), some (.int a4), none]) (st' := [(.int (0 : Int32)), (.int a4), (.int a3), (.int a2), (.int a1), (.ref 32)]) (μ' := (μ.1, (xuI μ.2.1 32 0 (0 : Int32)), μ.2.2)) rfl ?_
  refine XB.ci rfl rfl rfl rfl rfl (yM_bad_ok a1 a2 a3 a4 (0 : Int32) (μ.1, (xuI μ.2.1 32 0 (0 : Int32)), μ.2.2)) (fun r2 m1 => ?_)
  refine XB.ifz (P := r2 = (0 : Int32)) rfl rfl rfl (fun c15 => ?_) (fun c15 => ?_)
  · refine XB.go 2 (pc' := 21) (ls' := [some (.ref 32), some (.int a1), some (.int a2), some (.int a3), some (.int a4), none]) (st' := [(.int a2), (.ref 32)]) (μ' := m1) rfl ?_
    refine XB.cv rfl rfl rfl rfl rfl (yM_above_ok a2 m1) (fun m3 => ?_)
    refine XB.go 3 (pc' := 29) (ls' := [some (.ref 32), some (.int a1), some (.int a2), some (.int a3), some (.int a4), none]) (st' := [(.int (m3.2.1 32 4)), (.int a2)]) (μ' := m3) rfl ?_
    refine XB.icmp (P := ¬ a2 = (m3.2.1 32 4)) rfl rfl rfl (fun c29 => ?_) (fun c29 => ?_)
    · exact yM_ask_b62_ok  (some a2) (some a3) (some a4) (none) a1 m3
    · refine XB.go 3 (pc' := 37) (ls' := [some (.ref 32), some (.int a1), some (.int a2), some (.int a3), some (.int a4), none]) (st' := [(.int (-1 : Int32)), (.int (m3.2.1 32 5))]) (μ' := m3) rfl ?_
      refine XB.icmp (P := (m3.2.1 32 5) = (-1 : Int32)) rfl rfl rfl (fun c37 => ?_) (fun c37 => ?_)
      · exact yM_ask_b48_ok  (some a2) (none) a1 a3 a4 m3
      · refine XB.go 3 (pc' := 45) (ls' := [some (.ref 32), some (.int a1), some (.int a2), some (.int a3), some (.int a4), none]) (st' := [(.int a1), (.int (m3.2.1 32 5))]) (μ' := m3) rfl ?_
        refine XB.icmp (P := ¬ (m3.2.1 32 5) = a1) rfl rfl rfl (fun c45 => ?_) (fun c45 => ?_)
        · exact yM_ask_b62_ok  (some a2) (some a3) (some a4) (none) a1 m3
        · exact yM_ask_b48_ok  (some a2) (none) a1 a3 a4 m3
  · exact XB.fin rfl
/-- LogServerModel.answer(IIZ)V -/
def yM_answer (a1 : Int32) (a2 : Int32) (a3 : Int32) (μ : XMu) : XRes := xbi (yM_bad a1 a2 (0 : Int32) (0 : Int32) (0 : Int32) (μ.1, (xuI μ.2.1 32 0 (0 : Int32)), μ.2.2)) (fun r2 m1 => (if r2 = (0 : Int32) then xbv (yM_above a2 m1) (fun m3 => (if a3 = (0 : Int32) then some (.inl none, m3) else (if ¬ a2 = (m3.2.1 32 4) then some (.inl none, m3) else (if ¬ (m3.2.1 32 15) = (2 : Int32) then some (.inl none, m3) else xbi (yM_majority ((m3.2.1 32 22) ||| ((1 : Int32) <<< (a1 &&& 31))) (m3.1, (xuI m3.2.1 32 22 ((m3.2.1 32 22) ||| ((1 : Int32) <<< (a1 &&& 31)))), m3.2.2)) (fun r5 m4 => (if r5 = (0 : Int32) then some (.inl none, m4) else xbv (yM_lead m4) (fun m6 => some (.inl none, m6)))))))) else some (.inl none, m1)))
theorem yM_answer_ok {L : Nat} {xs : Nat → Int32} (a1 : Int32) (a2 : Int32) (a3 : Int32) (μ : XMu) : XB L xs 205 0 [some (.ref 32), some (.int a1), some (.int a2), some (.int a3)] [] μ (yM_answer a1 a2 a3 μ) := by
  unfold yM_answer
  refine XB.go 9 (pc' := 11) (ls' := [some (.ref 32), some (.int a1), some (.int a2), some (.int a3)]) (st' := [(.int (0 : Int32)), (.int (0 : Int32)), (.int (0 : Int32)), (.int a2), (.int a1), (.ref 32)]) (μ' := (μ.1, (xuI μ.2.1 32 0 (0 : Int32)), μ.2.2)) rfl ?_
  refine XB.ci rfl rfl rfl rfl rfl (yM_bad_ok a1 a2 (0 : Int32) (0 : Int32) (0 : Int32) (μ.1, (xuI μ.2.1 32 0 (0 : Int32)), μ.2.2)) (fun r2 m1 => ?_)
  refine XB.ifz (P := r2 = (0 : Int32)) rfl rfl rfl (fun c14 => ?_) (fun c14 => ?_)
  · refine XB.go 2 (pc' := 20) (ls' := [some (.ref 32), some (.int a1), some (.int a2), some (.int a3)]) (st' := [(.int a2), (.ref 32)]) (μ' := m1) rfl ?_
    refine XB.cv rfl rfl rfl rfl rfl (yM_above_ok a2 m1) (fun m3 => ?_)
    refine XB.go 1 (pc' := 24) (ls' := [some (.ref 32), some (.int a1), some (.int a2), some (.int a3)]) (st' := [(.int a3)]) (μ' := m3) rfl ?_
    refine XB.ifz (P := a3 = (0 : Int32)) rfl rfl rfl (fun c24 => ?_) (fun c24 => ?_)
    · exact XB.fin rfl
    · refine XB.go 3 (pc' := 32) (ls' := [some (.ref 32), some (.int a1), some (.int a2), some (.int a3)]) (st' := [(.int (m3.2.1 32 4)), (.int a2)]) (μ' := m3) rfl ?_
      refine XB.icmp (P := ¬ a2 = (m3.2.1 32 4)) rfl rfl rfl (fun c32 => ?_) (fun c32 => ?_)
      · exact XB.fin rfl
      · refine XB.go 3 (pc' := 40) (ls' := [some (.ref 32), some (.int a1), some (.int a2), some (.int a3)]) (st' := [(.int (2 : Int32)), (.int (m3.2.1 32 15))]) (μ' := m3) rfl ?_
        refine XB.icmp (P := ¬ (m3.2.1 32 15) = (2 : Int32)) rfl rfl rfl (fun c40 => ?_) (fun c40 => ?_)
        · exact XB.fin rfl
        · refine XB.go 11 (pc' := 60) (ls' := [some (.ref 32), some (.int a1), some (.int a2), some (.int a3)]) (st' := [(.int ((m3.2.1 32 22) ||| ((1 : Int32) <<< (a1 &&& 31)))), (.ref 32)]) (μ' := (m3.1, (xuI m3.2.1 32 22 ((m3.2.1 32 22) ||| ((1 : Int32) <<< (a1 &&& 31)))), m3.2.2)) rfl ?_
          refine XB.ci rfl rfl rfl rfl rfl (yM_majority_ok ((m3.2.1 32 22) ||| ((1 : Int32) <<< (a1 &&& 31))) (m3.1, (xuI m3.2.1 32 22 ((m3.2.1 32 22) ||| ((1 : Int32) <<< (a1 &&& 31)))), m3.2.2)) (fun r5 m4 => ?_)
          refine XB.ifz (P := r5 = (0 : Int32)) rfl rfl rfl (fun c63 => ?_) (fun c63 => ?_)
          · exact XB.fin rfl
          · refine XB.go 1 (pc' := 67) (ls' := [some (.ref 32), some (.int a1), some (.int a2), some (.int a3)]) (st' := [(.ref 32)]) (μ' := m4) rfl ?_
            refine XB.cv rfl rfl rfl rfl rfl (yM_lead_ok m4) (fun m6 => ?_)
            exact XB.fin rfl
  · exact XB.fin rfl
/-- LogServerModel.isCode(I)Z -/
def yM_isCode (a0 : Int32) : Int32 := (if (yM_within a0 (0 : Int32) (2097151 : Int32)) = (0 : Int32) then (0 : Int32) else (if (yM_old a0) ≤ (0 : Int32) then (0 : Int32) else (if ¬ ((yM_learning a0) &&& ((yM_old a0) ||| (yM_fresh a0))) = (0 : Int32) then (0 : Int32) else (1 : Int32))))
theorem yM_isCode_ok {L : Nat} {xs : Nat → Int32} (a0 : Int32) (μ : XMu) : XB L xs 206 0 [some (.int a0)] [] μ (some (.inl (some (.int (yM_isCode a0))), μ)) := by
  unfold yM_isCode
  refine XB.go 3 (pc' := 4) (ls' := [some (.int a0)]) (st' := [(.int (2097151 : Int32)), (.int (0 : Int32)), (.int a0)]) (μ' := μ) rfl ?_
  refine XB.cp rfl rfl rfl (yM_within_ok a0 (0 : Int32) (2097151 : Int32) μ) ?_
  refine XB.ifzv (P := (yM_within a0 (0 : Int32) (2097151 : Int32)) = (0 : Int32)) rfl rfl rfl (fun c7 => ?_) (fun c7 => ?_)
  · refine XB.go 1 (pc' := 39) (ls' := [some (.int a0)]) (st' := [(.int (0 : Int32))]) (μ' := μ) rfl ?_
    exact XB.fin rfl
  · refine XB.go 1 (pc' := 11) (ls' := [some (.int a0)]) (st' := [(.int a0)]) (μ' := μ) rfl ?_
    refine XB.cp rfl rfl rfl (yM_old_ok a0 μ) ?_
    refine XB.ifzv (P := (yM_old a0) ≤ (0 : Int32)) rfl rfl rfl (fun c14 => ?_) (fun c14 => ?_)
    · refine XB.go 1 (pc' := 39) (ls' := [some (.int a0)]) (st' := [(.int (0 : Int32))]) (μ' := μ) rfl ?_
      exact XB.fin rfl
    · refine XB.go 1 (pc' := 18) (ls' := [some (.int a0)]) (st' := [(.int a0)]) (μ' := μ) rfl ?_
      refine XB.cp rfl rfl rfl (yM_learning_ok a0 μ) ?_
      refine XB.go 1 (pc' := 22) (ls' := [some (.int a0)]) (st' := [(.int a0), (.int (yM_learning a0))]) (μ' := μ) rfl ?_
      refine XB.cp rfl rfl rfl (yM_old_ok a0 μ) ?_
      refine XB.go 1 (pc' := 26) (ls' := [some (.int a0)]) (st' := [(.int a0), (.int (yM_old a0)), (.int (yM_learning a0))]) (μ' := μ) rfl ?_
      refine XB.cp rfl rfl rfl (yM_fresh_ok a0 μ) ?_
      refine XB.go 2 (pc' := 31) (ls' := [some (.int a0)]) (st' := [(.int ((yM_learning a0) &&& ((yM_old a0) ||| (yM_fresh a0))))]) (μ' := μ) rfl ?_
      refine XB.ifzv (P := ¬ ((yM_learning a0) &&& ((yM_old a0) ||| (yM_fresh a0))) = (0 : Int32)) rfl rfl rfl (fun c31 => ?_) (fun c31 => ?_)
      · refine XB.go 1 (pc' := 39) (ls' := [some (.int a0)]) (st' := [(.int (0 : Int32))]) (μ' := μ) rfl ?_
        exact XB.fin rfl
      · refine XB.go 2 (pc' := 39) (ls' := [some (.int a0)]) (st' := [(.int (1 : Int32))]) (μ' := μ) rfl ?_
        exact XB.fin rfl
theorem yM_isCode_01 (a0 : Int32) : x01 (yM_isCode a0) = true := by
  unfold yM_isCode
  repeat (first | rfl | (exact rfl) | split)
/-- LogServerModel.entry(III)I -/
def yM_entry_b39  (x1 : Int32) (x2 : Int32) (x3 : Int32) (μ : XMu) : XRes := (if ¬ (μ.2.1 32 42) = (6 : Int32) then xgd (xin (μ.2.1 32 42) 6) (xgd (xin (μ.2.1 32 42) 6) (xgd (xin (μ.2.1 32 42) 6) (some (.inl (some (.int ((μ.2.1 32 42) + (1 : Int32)))), (μ.1, (xuI (xuI (xuI (xuI μ.2.1 44 ((μ.2.1 32 42)).toNatClampNeg x1) 45 ((μ.2.1 32 42)).toNatClampNeg x2) 46 ((μ.2.1 32 42)).toNatClampNeg x3) 32 42 ((μ.2.1 32 42) + (1 : Int32))), μ.2.2))))) else xbi (yM_fail (2 : Int32) μ) (fun r6 m5 => some (.inl (some (.int r6)), m5)))
theorem yM_entry_b39_ok {L : Nat} {xs : Nat → Int32}   (x1 : Int32) (x2 : Int32) (x3 : Int32) (μ : XMu) : XB L xs 207 39 [some (.ref 32), some (.int x1), some (.int x2), some (.int x3)] [] μ (yM_entry_b39  x1 x2 x3 μ) := by
  unfold yM_entry_b39
  refine XB.go 3 (pc' := 45) (ls' := [some (.ref 32), some (.int x1), some (.int x2), some (.int x3)]) (st' := [(.int (6 : Int32)), (.int (μ.2.1 32 42))]) (μ' := μ) rfl ?_
  refine XB.icmp (P := ¬ (μ.2.1 32 42) = (6 : Int32)) rfl rfl rfl (fun c45 => ?_) (fun c45 => ?_)
  · refine XB.go 5 (pc' := 63) (ls' := [some (.ref 32), some (.int x1), some (.int x2), some (.int x3)]) (st' := [(.int x1), (.int (μ.2.1 32 42)), (.ref 44)]) (μ' := μ) rfl ?_
    refine XB.gd (pc' := 64) (ls' := [some (.ref 32), some (.int x1), some (.int x2), some (.int x3)]) (st' := []) (μ' := (μ.1, (xuI μ.2.1 44 ((μ.2.1 32 42)).toNatClampNeg x1), μ.2.2)) rfl rfl rfl (fun hb => xbT hb) ?_
    refine XB.go 5 (pc' := 73) (ls' := [some (.ref 32), some (.int x1), some (.int x2), some (.int x3)]) (st' := [(.int x2), (.int (μ.2.1 32 42)), (.ref 45)]) (μ' := (μ.1, (xuI μ.2.1 44 ((μ.2.1 32 42)).toNatClampNeg x1), μ.2.2)) rfl ?_
    refine XB.gd (pc' := 74) (ls' := [some (.ref 32), some (.int x1), some (.int x2), some (.int x3)]) (st' := []) (μ' := (μ.1, (xuI (xuI μ.2.1 44 ((μ.2.1 32 42)).toNatClampNeg x1) 45 ((μ.2.1 32 42)).toNatClampNeg x2), μ.2.2)) rfl rfl rfl (fun hb => xbT hb) ?_
    refine XB.go 5 (pc' := 83) (ls' := [some (.ref 32), some (.int x1), some (.int x2), some (.int x3)]) (st' := [(.int x3), (.int (μ.2.1 32 42)), (.ref 46)]) (μ' := (μ.1, (xuI (xuI μ.2.1 44 ((μ.2.1 32 42)).toNatClampNeg x1) 45 ((μ.2.1 32 42)).toNatClampNeg x2), μ.2.2)) rfl ?_
    refine XB.gd (pc' := 84) (ls' := [some (.ref 32), some (.int x1), some (.int x2), some (.int x3)]) (st' := []) (μ' := (μ.1, (xuI (xuI (xuI μ.2.1 44 ((μ.2.1 32 42)).toNatClampNeg x1) 45 ((μ.2.1 32 42)).toNatClampNeg x2) 46 ((μ.2.1 32 42)).toNatClampNeg x3), μ.2.2)) rfl rfl rfl (fun hb => xbT hb) ?_
    refine XB.go 8 (pc' := 98) (ls' := [some (.ref 32), some (.int x1), some (.int x2), some (.int x3)]) (st' := [(.int ((μ.2.1 32 42) + (1 : Int32)))]) (μ' := (μ.1, (xuI (xuI (xuI (xuI μ.2.1 44 ((μ.2.1 32 42)).toNatClampNeg x1) 45 ((μ.2.1 32 42)).toNatClampNeg x2) 46 ((μ.2.1 32 42)).toNatClampNeg x3) 32 42 ((μ.2.1 32 42) + (1 : Int32))), μ.2.2)) rfl ?_
    exact XB.fin rfl
  · refine XB.go 2 (pc' := 50) (ls' := [some (.ref 32), some (.int x1), some (.int x2), some (.int x3)]) (st' := [(.int (2 : Int32)), (.ref 32)]) (μ' := μ) rfl ?_
    refine XB.ci rfl rfl rfl rfl rfl (yM_fail_ok (2 : Int32) μ) (fun r6 m5 => ?_)
    exact XB.fin rfl
def yM_entry (a1 : Int32) (a2 : Int32) (a3 : Int32) (μ : XMu) : XRes := (if (yM_isNumber a1) = (0 : Int32) then xbi (yM_fail (1 : Int32) (μ.1, (xuI μ.2.1 32 0 (0 : Int32)), μ.2.2)) (fun r2 m1 => some (.inl (some (.int r2)), m1)) else (if (yM_within a2 (0 : Int32) (2 : Int32)) = (0 : Int32) then xbi (yM_fail (1 : Int32) (μ.1, (xuI μ.2.1 32 0 (0 : Int32)), μ.2.2)) (fun r4 m3 => some (.inl (some (.int r4)), m3)) else (if ¬ a2 = (1 : Int32) then yM_entry_b39  a1 a2 a3 (μ.1, (xuI μ.2.1 32 0 (0 : Int32)), μ.2.2) else (if ¬ (yM_isCode a3) = (0 : Int32) then yM_entry_b39  a1 a2 a3 (μ.1, (xuI μ.2.1 32 0 (0 : Int32)), μ.2.2) else xbi (yM_fail (1 : Int32) (μ.1, (xuI μ.2.1 32 0 (0 : Int32)), μ.2.2)) (fun r8 m7 => some (.inl (some (.int r8)), m7))))))
theorem yM_entry_ok {L : Nat} {xs : Nat → Int32} (a1 : Int32) (a2 : Int32) (a3 : Int32) (μ : XMu) : XB L xs 207 0 [some (.ref 32), some (.int a1), some (.int a2), some (.int a3)] [] μ (yM_entry a1 a2 a3 μ) := by
  unfold yM_entry
  refine XB.go 4 (pc' := 6) (ls' := [some (.ref 32), some (.int a1), some (.int a2), some (.int a3)]) (st' := [(.int a1)]) (μ' := (μ.1, (xuI μ.2.1 32 0 (0 : Int32)), μ.2.2)) rfl ?_
  refine XB.cp rfl rfl rfl (yM_isNumber_ok a1 (μ.1, (xuI μ.2.1 32 0 (0 : Int32)), μ.2.2)) ?_
  refine XB.ifz (P := (yM_isNumber a1) = (0 : Int32)) rfl rfl rfl (fun c9 => ?_) (fun c9 => ?_)
  · refine XB.go 2 (pc' := 35) (ls' := [some (.ref 32), some (.int a1), some (.int a2), some (.int a3)]) (st' := [(.int (1 : Int32)), (.ref 32)]) (μ' := (μ.1, (xuI μ.2.1 32 0 (0 : Int32)), μ.2.2)) rfl ?_
    refine XB.ci rfl rfl rfl rfl rfl (yM_fail_ok (1 : Int32) (μ.1, (xuI μ.2.1 32 0 (0 : Int32)), μ.2.2)) (fun r2 m1 => ?_)
    exact XB.fin rfl
  · refine XB.go 3 (pc' := 15) (ls' := [some (.ref 32), some (.int a1), some (.int a2), some (.int a3)]) (st' := [(.int (2 : Int32)), (.int (0 : Int32)), (.int a2)]) (μ' := (μ.1, (xuI μ.2.1 32 0 (0 : Int32)), μ.2.2)) rfl ?_
    refine XB.cp rfl rfl rfl (yM_within_ok a2 (0 : Int32) (2 : Int32) (μ.1, (xuI μ.2.1 32 0 (0 : Int32)), μ.2.2)) ?_
    refine XB.ifz (P := (yM_within a2 (0 : Int32) (2 : Int32)) = (0 : Int32)) rfl rfl rfl (fun c18 => ?_) (fun c18 => ?_)
    · refine XB.go 2 (pc' := 35) (ls' := [some (.ref 32), some (.int a1), some (.int a2), some (.int a3)]) (st' := [(.int (1 : Int32)), (.ref 32)]) (μ' := (μ.1, (xuI μ.2.1 32 0 (0 : Int32)), μ.2.2)) rfl ?_
      refine XB.ci rfl rfl rfl rfl rfl (yM_fail_ok (1 : Int32) (μ.1, (xuI μ.2.1 32 0 (0 : Int32)), μ.2.2)) (fun r4 m3 => ?_)
      exact XB.fin rfl
    · refine XB.go 2 (pc' := 23) (ls' := [some (.ref 32), some (.int a1), some (.int a2), some (.int a3)]) (st' := [(.int (1 : Int32)), (.int a2)]) (μ' := (μ.1, (xuI μ.2.1 32 0 (0 : Int32)), μ.2.2)) rfl ?_
      refine XB.icmp (P := ¬ a2 = (1 : Int32)) rfl rfl rfl (fun c23 => ?_) (fun c23 => ?_)
      · exact yM_entry_b39_ok   a1 a2 a3 (μ.1, (xuI μ.2.1 32 0 (0 : Int32)), μ.2.2)
      · refine XB.go 1 (pc' := 27) (ls' := [some (.ref 32), some (.int a1), some (.int a2), some (.int a3)]) (st' := [(.int a3)]) (μ' := (μ.1, (xuI μ.2.1 32 0 (0 : Int32)), μ.2.2)) rfl ?_
        refine XB.cp rfl rfl rfl (yM_isCode_ok a3 (μ.1, (xuI μ.2.1 32 0 (0 : Int32)), μ.2.2)) ?_
        refine XB.ifz (P := ¬ (yM_isCode a3) = (0 : Int32)) rfl rfl rfl (fun c30 => ?_) (fun c30 => ?_)
        · exact yM_entry_b39_ok   a1 a2 a3 (μ.1, (xuI μ.2.1 32 0 (0 : Int32)), μ.2.2)
        · refine XB.go 2 (pc' := 35) (ls' := [some (.ref 32), some (.int a1), some (.int a2), some (.int a3)]) (st' := [(.int (1 : Int32)), (.ref 32)]) (μ' := (μ.1, (xuI μ.2.1 32 0 (0 : Int32)), μ.2.2)) rfl ?_
          refine XB.ci rfl rfl rfl rfl rfl (yM_fail_ok (1 : Int32) (μ.1, (xuI μ.2.1 32 0 (0 : Int32)), μ.2.2)) (fun r8 m7 => ?_)
          exact XB.fin rfl
/-- LogServerModel.followed(IIIII)Z -/
def yM_followed (a1 : Int32) (a2 : Int32) (a3 : Int32) (a4 : Int32) (a5 : Int32) (μ : XMu) : XRes := xbv (yM_above a2 μ) (fun m1 => (if (m1.2.1 32 4) ≤ a2 then (if ¬ (m1.2.1 32 15) = (3 : Int32) then xbv (yM_stepDown (m1.2.1 32 4) a1 m1) (fun m2 => xbv (yM_draw (m2.1, (xuI m2.2.1 32 20 (m2.2.1 32 3)), m2.2.2)) (fun m3 => some (.inl (some (.int (1 : Int32))), m3))) else some (.inl (some (.int (0 : Int32))), m1)) else xbv (yM_reply a1 a3 a4 (0 : Int32) a5 m1) (fun m4 => some (.inl (some (.int (0 : Int32))), m4))))
theorem yM_followed_ok {L : Nat} {xs : Nat → Int32} (a1 : Int32) (a2 : Int32) (a3 : Int32) (a4 : Int32) (a5 : Int32) (μ : XMu) : XB L xs 208 0 [some (.ref 32), some (.int a1), some (.int a2), some (.int a3), some (.int a4), some (.int a5)] [] μ (yM_followed a1 a2 a3 a4 a5 μ) := by
  unfold yM_followed
  refine XB.go 2 (pc' := 2) (ls' := [some (.ref 32), some (.int a1), some (.int a2), some (.int a3), some (.int a4), some (.int a5)]) (st' := [(.int a2), (.ref 32)]) (μ' := μ) rfl ?_
  refine XB.cv rfl rfl rfl rfl rfl (yM_above_ok a2 μ) (fun m1 => ?_)
  refine XB.go 3 (pc' := 10) (ls' := [some (.ref 32), some (.int a1), some (.int a2), some (.int a3), some (.int a4), some (.int a5)]) (st' := [(.int (m1.2.1 32 4)), (.int a2)]) (μ' := m1) rfl ?_
  refine XB.icmp (P := (m1.2.1 32 4) ≤ a2) rfl rfl rfl (fun c10 => ?_) (fun c10 => ?_)
  · refine XB.go 3 (pc' := 31) (ls' := [some (.ref 32), some (.int a1), some (.int a2), some (.int a3), some (.int a4), some (.int a5)]) (st' := [(.int (3 : Int32)), (.int (m1.2.1 32 15))]) (μ' := m1) rfl ?_
    refine XB.icmp (P := ¬ (m1.2.1 32 15) = (3 : Int32)) rfl rfl rfl (fun c31 => ?_) (fun c31 => ?_)
    · refine XB.go 4 (pc' := 42) (ls' := [some (.ref 32), some (.int a1), some (.int a2), some (.int a3), some (.int a4), some (.int a5)]) (st' := [(.int a1), (.int (m1.2.1 32 4)), (.ref 32)]) (μ' := m1) rfl ?_
      refine XB.cv rfl rfl rfl rfl rfl (yM_stepDown_ok (m1.2.1 32 4) a1 m1) (fun m2 => ?_)
      refine XB.go 5 (pc' := 54) (ls' := [some (.ref 32), some (.int a1), some (.int a2), some (.int a3), some (.int a4), some (.int a5)]) (st' := [(.ref 32)]) (μ' := (m2.1, (xuI m2.2.1 32 20 (m2.2.1 32 3)), m2.2.2)) rfl ?_
      refine XB.cv rfl rfl rfl rfl rfl (yM_draw_ok (m2.1, (xuI m2.2.1 32 20 (m2.2.1 32 3)), m2.2.2)) (fun m3 => ?_)
      refine XB.go 1 (pc' := 58) (ls' := [some (.ref 32), some (.int a1), some (.int a2), some (.int a3), some (.int a4), some (.int a5)]) (st' := [(.int (1 : Int32))]) (μ' := m3) rfl ?_
      exact XB.fin rfl
    · refine XB.go 1 (pc' := 35) (ls' := [some (.ref 32), some (.int a1), some (.int a2), some (.int a3), some (.int a4), some (.int a5)]) (st' := [(.int (0 : Int32))]) (μ' := m1) rfl ?_
      exact XB.fin rfl
  · refine XB.go 6 (pc' := 21) (ls' := [some (.ref 32), some (.int a1), some (.int a2), some (.int a3), some (.int a4), some (.int a5)]) (st' := [(.int a5), (.int (0 : Int32)), (.int a4), (.int a3), (.int a1), (.ref 32)]) (μ' := m1) rfl ?_
    refine XB.cv rfl rfl rfl rfl rfl (yM_reply_ok a1 a3 a4 (0 : Int32) a5 m1) (fun m4 => ?_)
    refine XB.go 1 (pc' := 25) (ls' := [some (.ref 32), some (.int a1), some (.int a2), some (.int a3), some (.int a4), some (.int a5)]) (st' := [(.int (0 : Int32))]) (μ' := m4) rfl ?_
    exact XB.fin rfl
/-- LogServerModel.take(IIIII)V -/
def yM_take_b234  (x1 : Int32) (x5 : Int32) (x8 : Int32) (s0 : Int32) (μ : XMu) : XRes := (if s0 ≤ (μ.2.1 32 17) then xbv (yM_apply μ) (fun m1 => xbv (yM_reply x1 (6 : Int32) (1 : Int32) x8 x5 m1) (fun m2 => some (.inl none, m2))) else xbv (yM_apply (μ.1, (xuI μ.2.1 32 17 s0), μ.2.2)) (fun m3 => xbv (yM_reply x1 (6 : Int32) (1 : Int32) x8 x5 m3) (fun m4 => some (.inl none, m4))))
theorem yM_take_b234_ok {L : Nat} {xs : Nat → Int32}  (d2 : Option Int32) (d3 : Option Int32) (d4 : Option Int32) (d6 : Option Int32) (d7 : Option Int32) (d9 : Option Int32) (x1 : Int32) (x5 : Int32) (x8 : Int32) (s0 : Int32) (μ : XMu) : XB L xs 209 234 [some (.ref 32), some (.int x1), (xdl d2), (xdl d3), (xdl d4), some (.int x5), (xdl d6), (xdl d7), some (.int x8), (xdl d9)] [(.int s0)] μ (yM_take_b234  x1 x5 x8 s0 μ) := by
  unfold yM_take_b234
  refine XB.go 4 (pc' := 242) (ls' := [some (.ref 32), some (.int x1), (xdl d2), (xdl d3), (xdl d4), some (.int x5), (xdl d6), (xdl d7), some (.int x8), some (.int s0)]) (st' := [(.int (μ.2.1 32 17)), (.int s0)]) (μ' := μ) rfl ?_
  refine XB.icmp (P := s0 ≤ (μ.2.1 32 17)) rfl rfl rfl (fun c242 => ?_) (fun c242 => ?_)
  · refine XB.go 1 (pc' := 252) (ls' := [some (.ref 32), some (.int x1), (xdl d2), (xdl d3), (xdl d4), some (.int x5), (xdl d6), (xdl d7), some (.int x8), some (.int s0)]) (st' := [(.ref 32)]) (μ' := μ) rfl ?_
    refine XB.cv rfl rfl rfl rfl rfl (yM_apply_ok μ) (fun m1 => ?_)
    refine XB.go 6 (pc' := 264) (ls' := [some (.ref 32), some (.int x1), (xdl d2), (xdl d3), (xdl d4), some (.int x5), (xdl d6), (xdl d7), some (.int x8), some (.int s0)]) (st' := [(.int x5), (.int x8), (.int (1 : Int32)), (.int (6 : Int32)), (.int x1), (.ref 32)]) (μ' := m1) rfl ?_
    refine XB.cv rfl rfl rfl rfl rfl (yM_reply_ok x1 (6 : Int32) (1 : Int32) x8 x5 m1) (fun m2 => ?_)
    exact XB.fin rfl
  · refine XB.go 4 (pc' := 252) (ls' := [some (.ref 32), some (.int x1), (xdl d2), (xdl d3), (xdl d4), some (.int x5), (xdl d6), (xdl d7), some (.int x8), some (.int s0)]) (st' := [(.ref 32)]) (μ' := (μ.1, (xuI μ.2.1 32 17 s0), μ.2.2)) rfl ?_
    refine XB.cv rfl rfl rfl rfl rfl (yM_apply_ok (μ.1, (xuI μ.2.1 32 17 s0), μ.2.2)) (fun m3 => ?_)
    refine XB.go 6 (pc' := 264) (ls' := [some (.ref 32), some (.int x1), (xdl d2), (xdl d3), (xdl d4), some (.int x5), (xdl d6), (xdl d7), some (.int x8), some (.int s0)]) (st' := [(.int x5), (.int x8), (.int (1 : Int32)), (.int (6 : Int32)), (.int x1), (.ref 32)]) (μ' := m3) rfl ?_
    refine XB.cv rfl rfl rfl rfl rfl (yM_reply_ok x1 (6 : Int32) (1 : Int32) x8 x5 m3) (fun m4 => ?_)
    exact XB.fin rfl
def yM_take_b218  (x1 : Int32) (x4 : Int32) (x5 : Int32) (s0 : Int32) (μ : XMu) : XRes := (if s0 ≤ x4 then yM_take_b234  x1 x5 s0 s0 μ else yM_take_b234  x1 x5 s0 x4 μ)
theorem yM_take_b218_ok {L : Nat} {xs : Nat → Int32}  (d2 : Option Int32) (d3 : Option Int32) (d6 : Option Int32) (d7 : Option Int32) (d8 : Option Int32) (d9 : Option Int32) (x1 : Int32) (x4 : Int32) (x5 : Int32) (s0 : Int32) (μ : XMu) : XB L xs 209 218 [some (.ref 32), some (.int x1), (xdl d2), (xdl d3), some (.int x4), some (.int x5), (xdl d6), (xdl d7), (xdl d8), (xdl d9)] [(.int s0)] μ (yM_take_b218  x1 x4 x5 s0 μ) := by
  unfold yM_take_b218
  refine XB.go 3 (pc' := 224) (ls' := [some (.ref 32), some (.int x1), (xdl d2), (xdl d3), some (.int x4), some (.int x5), (xdl d6), (xdl d7), some (.int s0), (xdl d9)]) (st' := [(.int s0), (.int x4)]) (μ' := μ) (by cases d7 <;> rfl) ?_
  refine XB.icmp (P := s0 ≤ x4) rfl rfl rfl (fun c224 => ?_) (fun c224 => ?_)
  · refine XB.go 1 (pc' := 234) (ls' := [some (.ref 32), some (.int x1), (xdl d2), (xdl d3), some (.int x4), some (.int x5), (xdl d6), (xdl d7), some (.int s0), (xdl d9)]) (st' := [(.int s0)]) (μ' := μ) rfl ?_
    exact yM_take_b234_ok  (d2) (d3) (some x4) (d6) (d7) (d9) x1 x5 s0 s0 μ
  · refine XB.go 2 (pc' := 234) (ls' := [some (.ref 32), some (.int x1), (xdl d2), (xdl d3), some (.int x4), some (.int x5), (xdl d6), (xdl d7), some (.int s0), (xdl d9)]) (st' := [(.int x4)]) (μ' := μ) rfl ?_
    exact yM_take_b234_ok  (d2) (d3) (some x4) (d6) (d7) (d9) x1 x5 s0 x4 μ
def yM_take_b196  (x1 : Int32) (x2 : Int32) (x4 : Int32) (x5 : Int32) (x6 : Int32) (μ : XMu) : XRes := (if (x2 + x6) ≤ (μ.2.1 32 9) then yM_take_b218  x1 x4 x5 (μ.2.1 32 9) μ else yM_take_b218  x1 x4 x5 (x2 + x6) μ)
theorem yM_take_b196_ok {L : Nat} {xs : Nat → Int32}  (d3 : Option Int32) (d7 : Option Int32) (d8 : Option Int32) (d9 : Option Int32) (x1 : Int32) (x2 : Int32) (x4 : Int32) (x5 : Int32) (x6 : Int32) (μ : XMu) : XB L xs 209 196 [some (.ref 32), some (.int x1), some (.int x2), (xdl d3), some (.int x4), some (.int x5), some (.int x6), (xdl d7), (xdl d8), (xdl d9)] [] μ (yM_take_b196  x1 x2 x4 x5 x6 μ) := by
  unfold yM_take_b196
  refine XB.go 5 (pc' := 204) (ls' := [some (.ref 32), some (.int x1), some (.int x2), (xdl d3), some (.int x4), some (.int x5), some (.int x6), (xdl d7), (xdl d8), (xdl d9)]) (st' := [(.int (μ.2.1 32 9)), (.int (x2 + x6))]) (μ' := μ) rfl ?_
  refine XB.icmp (P := (x2 + x6) ≤ (μ.2.1 32 9)) rfl rfl rfl (fun c204 => ?_) (fun c204 => ?_)
  · refine XB.go 2 (pc' := 218) (ls' := [some (.ref 32), some (.int x1), some (.int x2), (xdl d3), some (.int x4), some (.int x5), some (.int x6), (xdl d7), (xdl d8), (xdl d9)]) (st' := [(.int (μ.2.1 32 9))]) (μ' := μ) rfl ?_
    exact yM_take_b218_ok  (some x2) (d3) (some x6) (d7) (d8) (d9) x1 x4 x5 (μ.2.1 32 9) μ
  · refine XB.go 4 (pc' := 218) (ls' := [some (.ref 32), some (.int x1), some (.int x2), (xdl d3), some (.int x4), some (.int x5), some (.int x6), (xdl d7), (xdl d8), (xdl d9)]) (st' := [(.int (x2 + x6))]) (μ' := μ) rfl ?_
    exact yM_take_b218_ok  (some x2) (d3) (some x6) (d7) (d8) (d9) x1 x4 x5 (x2 + x6) μ
def yM_take_b160 (k76 : Int32 → Int32 → Int32 → Int32 → Int32 → Int32 → Int32 → XMu → XRes) (x1 : Int32) (x2 : Int32) (x4 : Int32) (x5 : Int32) (x6 : Int32) (x7 : Int32) (x8 : Int32) (μ : XMu) : XRes := (if x7 = (0 : Int32) then k76 x1 x2 x4 x5 x6 x7 (x8 + (1 : Int32)) μ else xgd (xin x8 6) (xgd (xin x8 6) (xgd (xin x8 6) (xbv (yM_write (μ.2.1 44 (x8).toNatClampNeg) (μ.2.1 45 (x8).toNatClampNeg) (μ.2.1 46 (x8).toNatClampNeg) μ) (fun m5 => k76 x1 x2 x4 x5 x6 x7 (x8 + (1 : Int32)) m5)))))
theorem yM_take_b160_ok {L : Nat} {xs : Nat → Int32} (k76 : Int32 → Int32 → Int32 → Int32 → Int32 → Int32 → Int32 → XMu → XRes) (hk76 : ∀ (d3 : Option Int32) (d9 : Option Int32) (x1 : Int32) (x2 : Int32) (x4 : Int32) (x5 : Int32) (x6 : Int32) (x7 : Int32) (x8 : Int32) (μ : XMu), XB L xs 209 76 [some (.ref 32), some (.int x1), some (.int x2), (xdl d3), some (.int x4), some (.int x5), some (.int x6), some (.int x7), some (.int x8), (xdl d9)] [] μ (k76 x1 x2 x4 x5 x6 x7 x8 μ)) (d3 : Option Int32) (d9 : Option Int32) (x1 : Int32) (x2 : Int32) (x4 : Int32) (x5 : Int32) (x6 : Int32) (x7 : Int32) (x8 : Int32) (μ : XMu) : XB L xs 209 160 [some (.ref 32), some (.int x1), some (.int x2), (xdl d3), some (.int x4), some (.int x5), some (.int x6), some (.int x7), some (.int x8), (xdl d9)] [] μ (yM_take_b160 k76 x1 x2 x4 x5 x6 x7 x8 μ) := by
  unfold yM_take_b160
  refine XB.go 1 (pc' := 162) (ls' := [some (.ref 32), some (.int x1), some (.int x2), (xdl d3), some (.int x4), some (.int x5), some (.int x6), some (.int x7), some (.int x8), (xdl d9)]) (st' := [(.int x7)]) (μ' := μ) rfl ?_
  refine XB.ifz (P := x7 = (0 : Int32)) rfl rfl rfl (fun c162 => ?_) (fun c162 => ?_)
  · refine XB.go 2 (pc' := 76) (ls' := [some (.ref 32), some (.int x1), some (.int x2), (xdl d3), some (.int x4), some (.int x5), some (.int x6), some (.int x7), some (.int (x8 + (1 : Int32))), (xdl d9)]) (st' := []) (μ' := μ) rfl ?_
    exact hk76 (d3) (d9) x1 x2 x4 x5 x6 x7 (x8 + (1 : Int32)) μ
  · refine XB.go 4 (pc' := 172) (ls' := [some (.ref 32), some (.int x1), some (.int x2), (xdl d3), some (.int x4), some (.int x5), some (.int x6), some (.int x7), some (.int x8), (xdl d9)]) (st' := [(.int x8), (.ref 44), (.ref 32)]) (μ' := μ) rfl ?_
    refine XB.gd (pc' := 173) (ls' := [some (.ref 32), some (.int x1), some (.int x2), (xdl d3), some (.int x4), some (.int x5), some (.int x6), some (.int x7), some (.int x8), (xdl d9)]) (st' := [(.int (μ.2.1 44 (x8).toNatClampNeg)), (.ref 32)]) (μ' := μ) rfl rfl rfl (fun hb => xbT hb) ?_
    refine XB.go 3 (pc' := 179) (ls' := [some (.ref 32), some (.int x1), some (.int x2), (xdl d3), some (.int x4), some (.int x5), some (.int x6), some (.int x7), some (.int x8), (xdl d9)]) (st' := [(.int x8), (.ref 45), (.int (μ.2.1 44 (x8).toNatClampNeg)), (.ref 32)]) (μ' := μ) rfl ?_
    refine XB.gd (pc' := 180) (ls' := [some (.ref 32), some (.int x1), some (.int x2), (xdl d3), some (.int x4), some (.int x5), some (.int x6), some (.int x7), some (.int x8), (xdl d9)]) (st' := [(.int (μ.2.1 45 (x8).toNatClampNeg)), (.int (μ.2.1 44 (x8).toNatClampNeg)), (.ref 32)]) (μ' := μ) rfl rfl rfl (fun hb => xbT hb) ?_
    refine XB.go 3 (pc' := 186) (ls' := [some (.ref 32), some (.int x1), some (.int x2), (xdl d3), some (.int x4), some (.int x5), some (.int x6), some (.int x7), some (.int x8), (xdl d9)]) (st' := [(.int x8), (.ref 46), (.int (μ.2.1 45 (x8).toNatClampNeg)), (.int (μ.2.1 44 (x8).toNatClampNeg)), (.ref 32)]) (μ' := μ) rfl ?_
    refine XB.gd (pc' := 187) (ls' := [some (.ref 32), some (.int x1), some (.int x2), (xdl d3), some (.int x4), some (.int x5), some (.int x6), some (.int x7), some (.int x8), (xdl d9)]) (st' := [(.int (μ.2.1 46 (x8).toNatClampNeg)), (.int (μ.2.1 45 (x8).toNatClampNeg)), (.int (μ.2.1 44 (x8).toNatClampNeg)), (.ref 32)]) (μ' := μ) rfl rfl rfl (fun hb => xbT hb) ?_
    refine XB.cv rfl rfl rfl rfl rfl (yM_write_ok (μ.2.1 44 (x8).toNatClampNeg) (μ.2.1 45 (x8).toNatClampNeg) (μ.2.1 46 (x8).toNatClampNeg) μ) (fun m5 => ?_)
    refine XB.go 2 (pc' := 76) (ls' := [some (.ref 32), some (.int x1), some (.int x2), (xdl d3), some (.int x4), some (.int x5), some (.int x6), some (.int x7), some (.int (x8 + (1 : Int32))), (xdl d9)]) (st' := []) (μ' := m5) rfl ?_
    exact hk76 (d3) (d9) x1 x2 x4 x5 x6 x7 (x8 + (1 : Int32)) m5
def yM_take_b130 (k76 : Int32 → Int32 → Int32 → Int32 → Int32 → Int32 → Int32 → XMu → XRes) (x1 : Int32) (x2 : Int32) (x4 : Int32) (x5 : Int32) (x6 : Int32) (x8 : Int32) (x9 : Int32) (μ : XMu) : XRes := (if (μ.2.1 32 19) ≤ (x9 - (1 : Int32)) then yM_take_b160 k76 x1 x2 x4 x5 x6 (1 : Int32) x8 (μ.1, (xuI μ.2.1 32 10 (x9 - (1 : Int32))), μ.2.2) else yM_take_b160 k76 x1 x2 x4 x5 x6 (1 : Int32) x8 (μ.1, (xuI (xuI μ.2.1 32 10 (x9 - (1 : Int32))) 32 19 (x9 - (1 : Int32))), μ.2.2))
theorem yM_take_b130_ok {L : Nat} {xs : Nat → Int32} (k76 : Int32 → Int32 → Int32 → Int32 → Int32 → Int32 → Int32 → XMu → XRes) (hk76 : ∀ (d3 : Option Int32) (d9 : Option Int32) (x1 : Int32) (x2 : Int32) (x4 : Int32) (x5 : Int32) (x6 : Int32) (x7 : Int32) (x8 : Int32) (μ : XMu), XB L xs 209 76 [some (.ref 32), some (.int x1), some (.int x2), (xdl d3), some (.int x4), some (.int x5), some (.int x6), some (.int x7), some (.int x8), (xdl d9)] [] μ (k76 x1 x2 x4 x5 x6 x7 x8 μ)) (d3 : Option Int32) (d7 : Option Int32) (x1 : Int32) (x2 : Int32) (x4 : Int32) (x5 : Int32) (x6 : Int32) (x8 : Int32) (x9 : Int32) (μ : XMu) : XB L xs 209 130 [some (.ref 32), some (.int x1), some (.int x2), (xdl d3), some (.int x4), some (.int x5), some (.int x6), (xdl d7), some (.int x8), some (.int x9)] [] μ (yM_take_b130 k76 x1 x2 x4 x5 x6 x8 x9 μ) := by
  unfold yM_take_b130
  refine XB.go 11 (pc' := 149) (ls' := [some (.ref 32), some (.int x1), some (.int x2), (xdl d3), some (.int x4), some (.int x5), some (.int x6), some (.int (1 : Int32)), some (.int x8), some (.int x9)]) (st' := [(.int (x9 - (1 : Int32))), (.int (μ.2.1 32 19))]) (μ' := (μ.1, (xuI μ.2.1 32 10 (x9 - (1 : Int32))), μ.2.2)) rfl ?_
  refine XB.icmp (P := (μ.2.1 32 19) ≤ (x9 - (1 : Int32))) rfl rfl rfl (fun c149 => ?_) (fun c149 => ?_)
  · exact yM_take_b160_ok k76 hk76 (d3) (some x9) x1 x2 x4 x5 x6 (1 : Int32) x8 (μ.1, (xuI μ.2.1 32 10 (x9 - (1 : Int32))), μ.2.2)
  · refine XB.go 4 (pc' := 160) (ls' := [some (.ref 32), some (.int x1), some (.int x2), (xdl d3), some (.int x4), some (.int x5), some (.int x6), some (.int (1 : Int32)), some (.int x8), some (.int x9)]) (st' := []) (μ' := (μ.1, (xuI (xuI μ.2.1 32 10 (x9 - (1 : Int32))) 32 19 (x9 - (1 : Int32))), μ.2.2)) rfl ?_
    exact yM_take_b160_ok k76 hk76 (d3) (some x9) x1 x2 x4 x5 x6 (1 : Int32) x8 (μ.1, (xuI (xuI μ.2.1 32 10 (x9 - (1 : Int32))) 32 19 (x9 - (1 : Int32))), μ.2.2)
def yM_take_b76 (k76 : Int32 → Int32 → Int32 → Int32 → Int32 → Int32 → Int32 → XMu → XRes) (x1 : Int32) (x2 : Int32) (x4 : Int32) (x5 : Int32) (x6 : Int32) (x7 : Int32) (x8 : Int32) (μ : XMu) : XRes := (if x6 ≤ x8 then yM_take_b196  x1 x2 x4 x5 x6 μ else (if ¬ x7 = (0 : Int32) then yM_take_b160 k76 x1 x2 x4 x5 x6 x7 x8 μ else (if ((x2 + (1 : Int32)) + x8) ≤ (μ.2.1 32 9) then yM_take_b160 k76 x1 x2 x4 x5 x6 x7 x8 μ else (if (μ.2.1 32 10) < ((x2 + (1 : Int32)) + x8) then yM_take_b130 k76 x1 x2 x4 x5 x6 x8 ((x2 + (1 : Int32)) + x8) μ else xbi (yM_termAt ((x2 + (1 : Int32)) + x8) μ) (fun r7 m6 => xgd (xin x8 6) ((if r7 = (m6.2.1 44 (x8).toNatClampNeg) then yM_take_b160 k76 x1 x2 x4 x5 x6 x7 x8 m6 else yM_take_b130 k76 x1 x2 x4 x5 x6 x8 ((x2 + (1 : Int32)) + x8) m6)))))))
theorem yM_take_b76_ok {L : Nat} {xs : Nat → Int32} (k76 : Int32 → Int32 → Int32 → Int32 → Int32 → Int32 → Int32 → XMu → XRes) (hk76 : ∀ (d3 : Option Int32) (d9 : Option Int32) (x1 : Int32) (x2 : Int32) (x4 : Int32) (x5 : Int32) (x6 : Int32) (x7 : Int32) (x8 : Int32) (μ : XMu), XB L xs 209 76 [some (.ref 32), some (.int x1), some (.int x2), (xdl d3), some (.int x4), some (.int x5), some (.int x6), some (.int x7), some (.int x8), (xdl d9)] [] μ (k76 x1 x2 x4 x5 x6 x7 x8 μ)) (d3 : Option Int32) (d9 : Option Int32) (x1 : Int32) (x2 : Int32) (x4 : Int32) (x5 : Int32) (x6 : Int32) (x7 : Int32) (x8 : Int32) (μ : XMu) : XB L xs 209 76 [some (.ref 32), some (.int x1), some (.int x2), (xdl d3), some (.int x4), some (.int x5), some (.int x6), some (.int x7), some (.int x8), (xdl d9)] [] μ (yM_take_b76 k76 x1 x2 x4 x5 x6 x7 x8 μ) := by
  unfold yM_take_b76
  refine XB.go 2 (pc' := 80) (ls' := [some (.ref 32), some (.int x1), some (.int x2), (xdl d3), some (.int x4), some (.int x5), some (.int x6), some (.int x7), some (.int x8), (xdl d9)]) (st' := [(.int x6), (.int x8)]) (μ' := μ) rfl ?_
  refine XB.icmp (P := x6 ≤ x8) rfl rfl rfl (fun c80 => ?_) (fun c80 => ?_)
  · exact yM_take_b196_ok  (d3) (some x7) (some x8) (d9) x1 x2 x4 x5 x6 μ
  · refine XB.go 7 (pc' := 93) (ls' := [some (.ref 32), some (.int x1), some (.int x2), (xdl d3), some (.int x4), some (.int x5), some (.int x6), some (.int x7), some (.int x8), some (.int ((x2 + (1 : Int32)) + x8))]) (st' := [(.int x7)]) (μ' := μ) rfl ?_
    refine XB.ifz (P := ¬ x7 = (0 : Int32)) rfl rfl rfl (fun c93 => ?_) (fun c93 => ?_)
    · exact yM_take_b160_ok k76 hk76 (d3) (some ((x2 + (1 : Int32)) + x8)) x1 x2 x4 x5 x6 x7 x8 μ
    · refine XB.go 3 (pc' := 102) (ls' := [some (.ref 32), some (.int x1), some (.int x2), (xdl d3), some (.int x4), some (.int x5), some (.int x6), some (.int x7), some (.int x8), some (.int ((x2 + (1 : Int32)) + x8))]) (st' := [(.int (μ.2.1 32 9)), (.int ((x2 + (1 : Int32)) + x8))]) (μ' := μ) rfl ?_
      refine XB.icmp (P := ((x2 + (1 : Int32)) + x8) ≤ (μ.2.1 32 9)) rfl rfl rfl (fun c102 => ?_) (fun c102 => ?_)
      · exact yM_take_b160_ok k76 hk76 (d3) (some ((x2 + (1 : Int32)) + x8)) x1 x2 x4 x5 x6 x7 x8 μ
      · refine XB.go 3 (pc' := 111) (ls' := [some (.ref 32), some (.int x1), some (.int x2), (xdl d3), some (.int x4), some (.int x5), some (.int x6), some (.int x7), some (.int x8), some (.int ((x2 + (1 : Int32)) + x8))]) (st' := [(.int (μ.2.1 32 10)), (.int ((x2 + (1 : Int32)) + x8))]) (μ' := μ) rfl ?_
        refine XB.icmp (P := (μ.2.1 32 10) < ((x2 + (1 : Int32)) + x8)) rfl rfl rfl (fun c111 => ?_) (fun c111 => ?_)
        · exact yM_take_b130_ok k76 hk76 (d3) (some x7) x1 x2 x4 x5 x6 x8 ((x2 + (1 : Int32)) + x8) μ
        · refine XB.go 2 (pc' := 117) (ls' := [some (.ref 32), some (.int x1), some (.int x2), (xdl d3), some (.int x4), some (.int x5), some (.int x6), some (.int x7), some (.int x8), some (.int ((x2 + (1 : Int32)) + x8))]) (st' := [(.int ((x2 + (1 : Int32)) + x8)), (.ref 32)]) (μ' := μ) rfl ?_
          refine XB.ci rfl rfl rfl rfl rfl (yM_termAt_ok ((x2 + (1 : Int32)) + x8) μ) (fun r7 m6 => ?_)
          refine XB.go 3 (pc' := 126) (ls' := [some (.ref 32), some (.int x1), some (.int x2), (xdl d3), some (.int x4), some (.int x5), some (.int x6), some (.int x7), some (.int x8), some (.int ((x2 + (1 : Int32)) + x8))]) (st' := [(.int x8), (.ref 44), (.int r7)]) (μ' := m6) rfl ?_
          refine XB.gd (pc' := 127) (ls' := [some (.ref 32), some (.int x1), some (.int x2), (xdl d3), some (.int x4), some (.int x5), some (.int x6), some (.int x7), some (.int x8), some (.int ((x2 + (1 : Int32)) + x8))]) (st' := [(.int (m6.2.1 44 (x8).toNatClampNeg)), (.int r7)]) (μ' := m6) rfl rfl rfl (fun hb => xbT hb) ?_
          refine XB.icmp (P := r7 = (m6.2.1 44 (x8).toNatClampNeg)) rfl rfl rfl (fun c127 => ?_) (fun c127 => ?_)
          · exact yM_take_b160_ok k76 hk76 (d3) (some ((x2 + (1 : Int32)) + x8)) x1 x2 x4 x5 x6 x7 x8 m6
          · exact yM_take_b130_ok k76 hk76 (d3) (some x7) x1 x2 x4 x5 x6 x8 ((x2 + (1 : Int32)) + x8) m6
def yM_take_b76_L  : Nat → Int32 → Int32 → Int32 → Int32 → Int32 → Int32 → Int32 → XMu → XRes
  | 0 => fun _ _ _ _ _ _ _ _ => none
  | n + 1 => yM_take_b76 (yM_take_b76_L  n)
theorem yM_take_b76_Lok {L : Nat} {xs : Nat → Int32}  : ∀ (n : Nat) (d3 : Option Int32) (d9 : Option Int32) (x1 : Int32) (x2 : Int32) (x4 : Int32) (x5 : Int32) (x6 : Int32) (x7 : Int32) (x8 : Int32) (μ : XMu), XB L xs 209 76 [some (.ref 32), some (.int x1), some (.int x2), (xdl d3), some (.int x4), some (.int x5), some (.int x6), some (.int x7), some (.int x8), (xdl d9)] [] μ (yM_take_b76_L  n x1 x2 x4 x5 x6 x7 x8 μ) := by
  intro n
  induction n with
  | zero => intro d3 d9 x1 x2 x4 x5 x6 x7 x8 μ r h; cases h
  | succ n ih => intro d3 d9 x1 x2 x4 x5 x6 x7 x8 μ; exact yM_take_b76_ok (yM_take_b76_L  n) ih d3 d9 x1 x2 x4 x5 x6 x7 x8 μ
def yM_take_b70  (x1 : Int32) (x2 : Int32) (x4 : Int32) (x5 : Int32) (x6 : Int32) (μ : XMu) : XRes := yM_take_b76_L  1000 x1 x2 x4 x5 x6 (0 : Int32) (0 : Int32) μ
theorem yM_take_b70_ok {L : Nat} {xs : Nat → Int32}  (d3 : Option Int32) (d7 : Option Int32) (d8 : Option Int32) (d9 : Option Int32) (x1 : Int32) (x2 : Int32) (x4 : Int32) (x5 : Int32) (x6 : Int32) (μ : XMu) : XB L xs 209 70 [some (.ref 32), some (.int x1), some (.int x2), (xdl d3), some (.int x4), some (.int x5), some (.int x6), (xdl d7), (xdl d8), (xdl d9)] [] μ (yM_take_b70  x1 x2 x4 x5 x6 μ) := by
  unfold yM_take_b70
  refine XB.go 4 (pc' := 76) (ls' := [some (.ref 32), some (.int x1), some (.int x2), (xdl d3), some (.int x4), some (.int x5), some (.int x6), some (.int (0 : Int32)), some (.int (0 : Int32)), (xdl d9)]) (st' := []) (μ' := μ) rfl ?_
  exact yM_take_b76_Lok  1000 (d3) (d9) x1 x2 x4 x5 x6 (0 : Int32) (0 : Int32) μ
def yM_take_b14 (k14 : Int32 → Int32 → Int32 → Int32 → Int32 → Int32 → XMu → XRes) (x1 : Int32) (x2 : Int32) (x4 : Int32) (x5 : Int32) (x6 : Int32) (x7 : Int32) (μ : XMu) : XRes := (if x6 ≤ x7 then yM_take_b70  x1 x2 x4 x5 x6 μ else (if ((x2 + (1 : Int32)) + x7) < (μ.2.1 32 9) then k14 x1 x2 x4 x5 x6 (x7 + (1 : Int32)) μ else (if (μ.2.1 32 17) < ((x2 + (1 : Int32)) + x7) then k14 x1 x2 x4 x5 x6 (x7 + (1 : Int32)) μ else xbi (yM_termAt ((x2 + (1 : Int32)) + x7) μ) (fun r9 m8 => xgd (xin x7 6) ((if r9 = (m8.2.1 44 (x7).toNatClampNeg) then k14 x1 x2 x4 x5 x6 (x7 + (1 : Int32)) m8 else some (.inl none, m8)))))))
theorem yM_take_b14_ok {L : Nat} {xs : Nat → Int32} (k14 : Int32 → Int32 → Int32 → Int32 → Int32 → Int32 → XMu → XRes) (hk14 : ∀ (d3 : Option Int32) (d8 : Option Int32) (d9 : Option Int32) (x1 : Int32) (x2 : Int32) (x4 : Int32) (x5 : Int32) (x6 : Int32) (x7 : Int32) (μ : XMu), XB L xs 209 14 [some (.ref 32), some (.int x1), some (.int x2), (xdl d3), some (.int x4), some (.int x5), some (.int x6), some (.int x7), (xdl d8), (xdl d9)] [] μ (k14 x1 x2 x4 x5 x6 x7 μ)) (d3 : Option Int32) (d8 : Option Int32) (d9 : Option Int32) (x1 : Int32) (x2 : Int32) (x4 : Int32) (x5 : Int32) (x6 : Int32) (x7 : Int32) (μ : XMu) : XB L xs 209 14 [some (.ref 32), some (.int x1), some (.int x2), (xdl d3), some (.int x4), some (.int x5), some (.int x6), some (.int x7), (xdl d8), (xdl d9)] [] μ (yM_take_b14 k14 x1 x2 x4 x5 x6 x7 μ) := by
  unfold yM_take_b14
  refine XB.go 2 (pc' := 18) (ls' := [some (.ref 32), some (.int x1), some (.int x2), (xdl d3), some (.int x4), some (.int x5), some (.int x6), some (.int x7), (xdl d8), (xdl d9)]) (st' := [(.int x6), (.int x7)]) (μ' := μ) rfl ?_
  refine XB.icmp (P := x6 ≤ x7) rfl rfl rfl (fun c18 => ?_) (fun c18 => ?_)
  · exact yM_take_b70_ok  (d3) (some x7) (d8) (d9) x1 x2 x4 x5 x6 μ
  · refine XB.go 9 (pc' := 35) (ls' := [some (.ref 32), some (.int x1), some (.int x2), (xdl d3), some (.int x4), some (.int x5), some (.int x6), some (.int x7), some (.int ((x2 + (1 : Int32)) + x7)), (xdl d9)]) (st' := [(.int (μ.2.1 32 9)), (.int ((x2 + (1 : Int32)) + x7))]) (μ' := μ) rfl ?_
    refine XB.icmp (P := ((x2 + (1 : Int32)) + x7) < (μ.2.1 32 9)) rfl rfl rfl (fun c35 => ?_) (fun c35 => ?_)
    · refine XB.go 2 (pc' := 14) (ls' := [some (.ref 32), some (.int x1), some (.int x2), (xdl d3), some (.int x4), some (.int x5), some (.int x6), some (.int (x7 + (1 : Int32))), some (.int ((x2 + (1 : Int32)) + x7)), (xdl d9)]) (st' := []) (μ' := μ) rfl ?_
      exact hk14 (d3) (some ((x2 + (1 : Int32)) + x7)) (d9) x1 x2 x4 x5 x6 (x7 + (1 : Int32)) μ
    · refine XB.go 3 (pc' := 44) (ls' := [some (.ref 32), some (.int x1), some (.int x2), (xdl d3), some (.int x4), some (.int x5), some (.int x6), some (.int x7), some (.int ((x2 + (1 : Int32)) + x7)), (xdl d9)]) (st' := [(.int (μ.2.1 32 17)), (.int ((x2 + (1 : Int32)) + x7))]) (μ' := μ) rfl ?_
      refine XB.icmp (P := (μ.2.1 32 17) < ((x2 + (1 : Int32)) + x7)) rfl rfl rfl (fun c44 => ?_) (fun c44 => ?_)
      · refine XB.go 2 (pc' := 14) (ls' := [some (.ref 32), some (.int x1), some (.int x2), (xdl d3), some (.int x4), some (.int x5), some (.int x6), some (.int (x7 + (1 : Int32))), some (.int ((x2 + (1 : Int32)) + x7)), (xdl d9)]) (st' := []) (μ' := μ) rfl ?_
        exact hk14 (d3) (some ((x2 + (1 : Int32)) + x7)) (d9) x1 x2 x4 x5 x6 (x7 + (1 : Int32)) μ
      · refine XB.go 2 (pc' := 50) (ls' := [some (.ref 32), some (.int x1), some (.int x2), (xdl d3), some (.int x4), some (.int x5), some (.int x6), some (.int x7), some (.int ((x2 + (1 : Int32)) + x7)), (xdl d9)]) (st' := [(.int ((x2 + (1 : Int32)) + x7)), (.ref 32)]) (μ' := μ) rfl ?_
        refine XB.ci rfl rfl rfl rfl rfl (yM_termAt_ok ((x2 + (1 : Int32)) + x7) μ) (fun r9 m8 => ?_)
        refine XB.go 3 (pc' := 59) (ls' := [some (.ref 32), some (.int x1), some (.int x2), (xdl d3), some (.int x4), some (.int x5), some (.int x6), some (.int x7), some (.int ((x2 + (1 : Int32)) + x7)), (xdl d9)]) (st' := [(.int x7), (.ref 44), (.int r9)]) (μ' := m8) rfl ?_
        refine XB.gd (pc' := 60) (ls' := [some (.ref 32), some (.int x1), some (.int x2), (xdl d3), some (.int x4), some (.int x5), some (.int x6), some (.int x7), some (.int ((x2 + (1 : Int32)) + x7)), (xdl d9)]) (st' := [(.int (m8.2.1 44 (x7).toNatClampNeg)), (.int r9)]) (μ' := m8) rfl rfl rfl (fun hb => xbT hb) ?_
        refine XB.icmp (P := r9 = (m8.2.1 44 (x7).toNatClampNeg)) rfl rfl rfl (fun c60 => ?_) (fun c60 => ?_)
        · refine XB.go 2 (pc' := 14) (ls' := [some (.ref 32), some (.int x1), some (.int x2), (xdl d3), some (.int x4), some (.int x5), some (.int x6), some (.int (x7 + (1 : Int32))), some (.int ((x2 + (1 : Int32)) + x7)), (xdl d9)]) (st' := []) (μ' := m8) rfl ?_
          exact hk14 (d3) (some ((x2 + (1 : Int32)) + x7)) (d9) x1 x2 x4 x5 x6 (x7 + (1 : Int32)) m8
        · exact XB.fin rfl
def yM_take_b14_L  : Nat → Int32 → Int32 → Int32 → Int32 → Int32 → Int32 → XMu → XRes
  | 0 => fun _ _ _ _ _ _ _ => none
  | n + 1 => yM_take_b14 (yM_take_b14_L  n)
theorem yM_take_b14_Lok {L : Nat} {xs : Nat → Int32}  : ∀ (n : Nat) (d3 : Option Int32) (d8 : Option Int32) (d9 : Option Int32) (x1 : Int32) (x2 : Int32) (x4 : Int32) (x5 : Int32) (x6 : Int32) (x7 : Int32) (μ : XMu), XB L xs 209 14 [some (.ref 32), some (.int x1), some (.int x2), (xdl d3), some (.int x4), some (.int x5), some (.int x6), some (.int x7), (xdl d8), (xdl d9)] [] μ (yM_take_b14_L  n x1 x2 x4 x5 x6 x7 μ) := by
  intro n
  induction n with
  | zero => intro d3 d8 d9 x1 x2 x4 x5 x6 x7 μ r h; cases h
  | succ n ih => intro d3 d8 d9 x1 x2 x4 x5 x6 x7 μ; exact yM_take_b14_ok (yM_take_b14_L  n) ih d3 d8 d9 x1 x2 x4 x5 x6 x7 μ
def yM_take (a1 : Int32) (a2 : Int32) (a3 : Int32) (a4 : Int32) (a5 : Int32) (μ : XMu) : XRes := (if (0 : Int32) ≤ a3 then yM_take_b14_L  1000 a1 a2 a4 a5 a3 (0 : Int32) μ else yM_take_b14_L  1000 a1 a2 a4 a5 (0 : Int32) (0 : Int32) μ)
theorem yM_take_ok {L : Nat} {xs : Nat → Int32} (a1 : Int32) (a2 : Int32) (a3 : Int32) (a4 : Int32) (a5 : Int32) (μ : XMu) : XB L xs 209 0 [some (.ref 32), some (.int a1), some (.int a2), some (.int a3), some (.int a4), some (.int a5), none, none, none, none] [] μ (yM_take a1 a2 a3 a4 a5 μ) := by
  unfold yM_take
  refine XB.go 1 (pc' := 1) (ls' := [some (.ref 32), some (.int a1), some (.int a2), some (.int a3), some (.int a4), some (.int a5), none, none, none, none]) (st' := [(.int a3)]) (μ' := μ) rfl ?_
  refine XB.ifz (P := (0 : Int32) ≤ a3) rfl rfl rfl (fun c1 => ?_) (fun c1 => ?_)
  · refine XB.go 4 (pc' := 14) (ls' := [some (.ref 32), some (.int a1), some (.int a2), some (.int a3), some (.int a4), some (.int a5), some (.int a3), some (.int (0 : Int32)), none, none]) (st' := []) (μ' := μ) rfl ?_
    exact yM_take_b14_Lok  1000 (some a3) (none) (none) a1 a2 a4 a5 a3 (0 : Int32) μ
  · refine XB.go 5 (pc' := 14) (ls' := [some (.ref 32), some (.int a1), some (.int a2), some (.int a3), some (.int a4), some (.int a5), some (.int (0 : Int32)), some (.int (0 : Int32)), none, none]) (st' := []) (μ' := μ) rfl ?_
    exact yM_take_b14_Lok  1000 (some a3) (none) (none) a1 a2 a4 a5 (0 : Int32) (0 : Int32) μ
/-- LogServerModel.append(IIIIII)V -/
def yM_append_b236  (x1 : Int32) (x3 : Int32) (x5 : Int32) (x6 : Int32) (x7 : Int32) (μ : XMu) : XRes := (if (x3 + x7) ≤ ((μ.2.1 32 9) + (250 : Int32)) then xbv (yM_take x1 x3 x7 x5 x6 μ) (fun m7 => some (.inl none, m7)) else xbv (yM_take x1 x3 (((μ.2.1 32 9) + (250 : Int32)) - x3) x5 x6 μ) (fun m8 => some (.inl none, m8)))
theorem yM_append_b236_ok {L : Nat} {xs : Nat → Int32}  (d2 : Option Int32) (d4 : Option Int32) (d8 : Option Int32) (d9 : Option Int32) (x1 : Int32) (x3 : Int32) (x5 : Int32) (x6 : Int32) (x7 : Int32) (μ : XMu) : XB L xs 210 236 [some (.ref 32), some (.int x1), (xdl d2), some (.int x3), (xdl d4), some (.int x5), some (.int x6), some (.int x7), (xdl d8), (xdl d9)] [] μ (yM_append_b236  x1 x3 x5 x6 x7 μ) := by
  unfold yM_append_b236
  refine XB.go 10 (pc' := 251) (ls' := [some (.ref 32), some (.int x1), (xdl d2), some (.int x3), (xdl d4), some (.int x5), some (.int x6), some (.int x7), (xdl d8), (xdl d9)]) (st' := [(.int ((μ.2.1 32 9) + (250 : Int32))), (.int (x3 + x7)), (.int x3), (.int x1), (.ref 32)]) (μ' := μ) rfl ?_
  refine XB.icmp (P := (x3 + x7) ≤ ((μ.2.1 32 9) + (250 : Int32))) rfl rfl rfl (fun c251 => ?_) (fun c251 => ?_)
  · refine XB.go 3 (pc' := 273) (ls' := [some (.ref 32), some (.int x1), (xdl d2), some (.int x3), (xdl d4), some (.int x5), some (.int x6), some (.int x7), (xdl d8), (xdl d9)]) (st' := [(.int x6), (.int x5), (.int x7), (.int x3), (.int x1), (.ref 32)]) (μ' := μ) rfl ?_
    refine XB.cv rfl rfl rfl rfl rfl (yM_take_ok x1 x3 x7 x5 x6 μ) (fun m7 => ?_)
    exact XB.fin rfl
  · refine XB.go 9 (pc' := 273) (ls' := [some (.ref 32), some (.int x1), (xdl d2), some (.int x3), (xdl d4), some (.int x5), some (.int x6), some (.int x7), (xdl d8), (xdl d9)]) (st' := [(.int x6), (.int x5), (.int (((μ.2.1 32 9) + (250 : Int32)) - x3)), (.int x3), (.int x1), (.ref 32)]) (μ' := μ) rfl ?_
    refine XB.cv rfl rfl rfl rfl rfl (yM_take_ok x1 x3 (((μ.2.1 32 9) + (250 : Int32)) - x3) x5 x6 μ) (fun m8 => ?_)
    exact XB.fin rfl
def yM_append_b204  (x1 : Int32) (x3 : Int32) (x6 : Int32) (x9 : Int32) (μ : XMu) : XRes := (if ¬ x3 = (μ.2.1 32 9) then xbv (yM_reply x1 (6 : Int32) (0 : Int32) x9 x6 μ) (fun m11 => some (.inl none, m11)) else xbv (yM_reply x1 (6 : Int32) (0 : Int32) ((μ.2.1 32 9) + (1 : Int32)) x6 μ) (fun m12 => some (.inl none, m12)))
theorem yM_append_b204_ok {L : Nat} {xs : Nat → Int32}  (d2 : Option Int32) (d4 : Option Int32) (d5 : Option Int32) (d7 : Option Int32) (d8 : Option Int32) (x1 : Int32) (x3 : Int32) (x6 : Int32) (x9 : Int32) (μ : XMu) : XB L xs 210 204 [some (.ref 32), some (.int x1), (xdl d2), some (.int x3), (xdl d4), (xdl d5), some (.int x6), (xdl d7), (xdl d8), some (.int x9)] [] μ (yM_append_b204  x1 x3 x6 x9 μ) := by
  unfold yM_append_b204
  refine XB.go 7 (pc' := 214) (ls' := [some (.ref 32), some (.int x1), (xdl d2), some (.int x3), (xdl d4), (xdl d5), some (.int x6), (xdl d7), (xdl d8), some (.int x9)]) (st' := [(.int (μ.2.1 32 9)), (.int x3), (.int (0 : Int32)), (.int (6 : Int32)), (.int x1), (.ref 32)]) (μ' := μ) rfl ?_
  refine XB.icmp (P := ¬ x3 = (μ.2.1 32 9)) rfl rfl rfl (fun c214 => ?_) (fun c214 => ?_)
  · refine XB.go 2 (pc' := 230) (ls' := [some (.ref 32), some (.int x1), (xdl d2), some (.int x3), (xdl d4), (xdl d5), some (.int x6), (xdl d7), (xdl d8), some (.int x9)]) (st' := [(.int x6), (.int x9), (.int (0 : Int32)), (.int (6 : Int32)), (.int x1), (.ref 32)]) (μ' := μ) rfl ?_
    refine XB.cv rfl rfl rfl rfl rfl (yM_reply_ok x1 (6 : Int32) (0 : Int32) x9 x6 μ) (fun m11 => ?_)
    refine XB.go 1 (pc' := 276) (ls' := [some (.ref 32), some (.int x1), (xdl d2), some (.int x3), (xdl d4), (xdl d5), some (.int x6), (xdl d7), (xdl d8), some (.int x9)]) (st' := []) (μ' := m11) rfl ?_
    exact XB.fin rfl
  · refine XB.go 6 (pc' := 230) (ls' := [some (.ref 32), some (.int x1), (xdl d2), some (.int x3), (xdl d4), (xdl d5), some (.int x6), (xdl d7), (xdl d8), some (.int x9)]) (st' := [(.int x6), (.int ((μ.2.1 32 9) + (1 : Int32))), (.int (0 : Int32)), (.int (6 : Int32)), (.int x1), (.ref 32)]) (μ' := μ) rfl ?_
    refine XB.cv rfl rfl rfl rfl rfl (yM_reply_ok x1 (6 : Int32) (0 : Int32) ((μ.2.1 32 9) + (1 : Int32)) x6 μ) (fun m12 => ?_)
    refine XB.go 1 (pc' := 276) (ls' := [some (.ref 32), some (.int x1), (xdl d2), some (.int x3), (xdl d4), (xdl d5), some (.int x6), (xdl d7), (xdl d8), some (.int x9)]) (st' := []) (μ' := m12) rfl ?_
    exact XB.fin rfl
def yM_append_b171 (k171 : Int32 → Int32 → Int32 → Int32 → XMu → XRes) (x1 : Int32) (x3 : Int32) (x6 : Int32) (x9 : Int32) (μ : XMu) : XRes := (if (x9 - (1 : Int32)) ≤ (μ.2.1 32 9) then yM_append_b204  x1 x3 x6 x9 μ else xbi (yM_termAt (x9 - (1 : Int32)) μ) (fun r14 m13 => xbi (yM_termAt x3 m13) (fun r16 m15 => (if ¬ r14 = r16 then yM_append_b204  x1 x3 x6 x9 m15 else k171 x1 x3 x6 (x9 + (-1 : Int32)) m15))))
theorem yM_append_b171_ok {L : Nat} {xs : Nat → Int32} (k171 : Int32 → Int32 → Int32 → Int32 → XMu → XRes) (hk171 : ∀ (d2 : Option Int32) (d4 : Option Int32) (d5 : Option Int32) (d7 : Option Int32) (d8 : Option Int32) (x1 : Int32) (x3 : Int32) (x6 : Int32) (x9 : Int32) (μ : XMu), XB L xs 210 171 [some (.ref 32), some (.int x1), (xdl d2), some (.int x3), (xdl d4), (xdl d5), some (.int x6), (xdl d7), (xdl d8), some (.int x9)] [] μ (k171 x1 x3 x6 x9 μ)) (d2 : Option Int32) (d4 : Option Int32) (d5 : Option Int32) (d7 : Option Int32) (d8 : Option Int32) (x1 : Int32) (x3 : Int32) (x6 : Int32) (x9 : Int32) (μ : XMu) : XB L xs 210 171 [some (.ref 32), some (.int x1), (xdl d2), some (.int x3), (xdl d4), (xdl d5), some (.int x6), (xdl d7), (xdl d8), some (.int x9)] [] μ (yM_append_b171 k171 x1 x3 x6 x9 μ) := by
  unfold yM_append_b171
  refine XB.go 5 (pc' := 179) (ls' := [some (.ref 32), some (.int x1), (xdl d2), some (.int x3), (xdl d4), (xdl d5), some (.int x6), (xdl d7), (xdl d8), some (.int x9)]) (st' := [(.int (μ.2.1 32 9)), (.int (x9 - (1 : Int32)))]) (μ' := μ) rfl ?_
  refine XB.icmp (P := (x9 - (1 : Int32)) ≤ (μ.2.1 32 9)) rfl rfl rfl (fun c179 => ?_) (fun c179 => ?_)
  · exact yM_append_b204_ok  (d2) (d4) (d5) (d7) (d8) x1 x3 x6 x9 μ
  · refine XB.go 4 (pc' := 187) (ls' := [some (.ref 32), some (.int x1), (xdl d2), some (.int x3), (xdl d4), (xdl d5), some (.int x6), (xdl d7), (xdl d8), some (.int x9)]) (st' := [(.int (x9 - (1 : Int32))), (.ref 32)]) (μ' := μ) rfl ?_
    refine XB.ci rfl rfl rfl rfl rfl (yM_termAt_ok (x9 - (1 : Int32)) μ) (fun r14 m13 => ?_)
    refine XB.go 2 (pc' := 192) (ls' := [some (.ref 32), some (.int x1), (xdl d2), some (.int x3), (xdl d4), (xdl d5), some (.int x6), (xdl d7), (xdl d8), some (.int x9)]) (st' := [(.int x3), (.ref 32), (.int r14)]) (μ' := m13) rfl ?_
    refine XB.ci rfl rfl rfl rfl rfl (yM_termAt_ok x3 m13) (fun r16 m15 => ?_)
    refine XB.icmp (P := ¬ r14 = r16) rfl rfl rfl (fun c195 => ?_) (fun c195 => ?_)
    · exact yM_append_b204_ok  (d2) (d4) (d5) (d7) (d8) x1 x3 x6 x9 m15
    · refine XB.go 2 (pc' := 171) (ls' := [some (.ref 32), some (.int x1), (xdl d2), some (.int x3), (xdl d4), (xdl d5), some (.int x6), (xdl d7), (xdl d8), some (.int (x9 + (-1 : Int32)))]) (st' := []) (μ' := m15) (by cases d8 <;> rfl) ?_
      exact hk171 (d2) (d4) (d5) (d7) (d8) x1 x3 x6 (x9 + (-1 : Int32)) m15
def yM_append_b171_L  : Nat → Int32 → Int32 → Int32 → Int32 → XMu → XRes
  | 0 => fun _ _ _ _ _ => none
  | n + 1 => yM_append_b171 (yM_append_b171_L  n)
theorem yM_append_b171_Lok {L : Nat} {xs : Nat → Int32}  : ∀ (n : Nat) (d2 : Option Int32) (d4 : Option Int32) (d5 : Option Int32) (d7 : Option Int32) (d8 : Option Int32) (x1 : Int32) (x3 : Int32) (x6 : Int32) (x9 : Int32) (μ : XMu), XB L xs 210 171 [some (.ref 32), some (.int x1), (xdl d2), some (.int x3), (xdl d4), (xdl d5), some (.int x6), (xdl d7), (xdl d8), some (.int x9)] [] μ (yM_append_b171_L  n x1 x3 x6 x9 μ) := by
  intro n
  induction n with
  | zero => intro d2 d4 d5 d7 d8 x1 x3 x6 x9 μ r h; cases h
  | succ n ih => intro d2 d4 d5 d7 d8 x1 x3 x6 x9 μ; exact yM_append_b171_ok (yM_append_b171_L  n) ih d2 d4 d5 d7 d8 x1 x3 x6 x9 μ
def yM_append_b101  (x1 : Int32) (x2 : Int32) (x3 : Int32) (x4 : Int32) (x5 : Int32) (x6 : Int32) (x7 : Int32) (μ : XMu) : XRes := (if (0 : Int32) < (μ.2.1 32 0) then some (.inl none, μ) else xbi (yM_followed x1 x2 (6 : Int32) (0 : Int32) x6 μ) (fun r6 m5 => (if ¬ r6 = (0 : Int32) then (if x3 ≤ (m5.2.1 32 10) then (if x3 < (m5.2.1 32 9) then yM_append_b236  x1 x3 x5 x6 x7 m5 else xbi (yM_termAt x3 m5) (fun r10 m9 => (if r10 = x4 then yM_append_b236  x1 x3 x5 x6 x7 m9 else yM_append_b171_L  1000 x1 x3 x6 x3 m9))) else xbv (yM_reply x1 (6 : Int32) (0 : Int32) ((m5.2.1 32 10) + (1 : Int32)) x6 m5) (fun m17 => some (.inl none, m17))) else some (.inl none, m5))))
theorem yM_append_b101_ok {L : Nat} {xs : Nat → Int32}  (d8 : Option Int32) (d9 : Option Int32) (x1 : Int32) (x2 : Int32) (x3 : Int32) (x4 : Int32) (x5 : Int32) (x6 : Int32) (x7 : Int32) (μ : XMu) : XB L xs 210 101 [some (.ref 32), some (.int x1), some (.int x2), some (.int x3), some (.int x4), some (.int x5), some (.int x6), some (.int x7), (xdl d8), (xdl d9)] [] μ (yM_append_b101  x1 x2 x3 x4 x5 x6 x7 μ) := by
  unfold yM_append_b101
  refine XB.go 2 (pc' := 105) (ls' := [some (.ref 32), some (.int x1), some (.int x2), some (.int x3), some (.int x4), some (.int x5), some (.int x6), some (.int x7), (xdl d8), (xdl d9)]) (st' := [(.int (μ.2.1 32 0))]) (μ' := μ) rfl ?_
  refine XB.ifz (P := (0 : Int32) < (μ.2.1 32 0)) rfl rfl rfl (fun c105 => ?_) (fun c105 => ?_)
  · exact XB.fin rfl
  · refine XB.go 6 (pc' := 116) (ls' := [some (.ref 32), some (.int x1), some (.int x2), some (.int x3), some (.int x4), some (.int x5), some (.int x6), some (.int x7), (xdl d8), (xdl d9)]) (st' := [(.int x6), (.int (0 : Int32)), (.int (6 : Int32)), (.int x2), (.int x1), (.ref 32)]) (μ' := μ) rfl ?_
    refine XB.ci rfl rfl rfl rfl rfl (yM_followed_ok x1 x2 (6 : Int32) (0 : Int32) x6 μ) (fun r6 m5 => ?_)
    refine XB.ifz (P := ¬ r6 = (0 : Int32)) rfl rfl rfl (fun c119 => ?_) (fun c119 => ?_)
    · refine XB.go 3 (pc' := 128) (ls' := [some (.ref 32), some (.int x1), some (.int x2), some (.int x3), some (.int x4), some (.int x5), some (.int x6), some (.int x7), (xdl d8), (xdl d9)]) (st' := [(.int (m5.2.1 32 10)), (.int x3)]) (μ' := m5) rfl ?_
      refine XB.icmp (P := x3 ≤ (m5.2.1 32 10)) rfl rfl rfl (fun c128 => ?_) (fun c128 => ?_)
      · refine XB.go 3 (pc' := 155) (ls' := [some (.ref 32), some (.int x1), some (.int x2), some (.int x3), some (.int x4), some (.int x5), some (.int x6), some (.int x7), (xdl d8), (xdl d9)]) (st' := [(.int (m5.2.1 32 9)), (.int x3)]) (μ' := m5) rfl ?_
        refine XB.icmp (P := x3 < (m5.2.1 32 9)) rfl rfl rfl (fun c155 => ?_) (fun c155 => ?_)
        · exact yM_append_b236_ok  (some x2) (some x4) (d8) (d9) x1 x3 x5 x6 x7 m5
        · refine XB.go 2 (pc' := 160) (ls' := [some (.ref 32), some (.int x1), some (.int x2), some (.int x3), some (.int x4), some (.int x5), some (.int x6), some (.int x7), (xdl d8), (xdl d9)]) (st' := [(.int x3), (.ref 32)]) (μ' := m5) rfl ?_
          refine XB.ci rfl rfl rfl rfl rfl (yM_termAt_ok x3 m5) (fun r10 m9 => ?_)
          refine XB.go 1 (pc' := 165) (ls' := [some (.ref 32), some (.int x1), some (.int x2), some (.int x3), some (.int x4), some (.int x5), some (.int x6), some (.int x7), (xdl d8), (xdl d9)]) (st' := [(.int x4), (.int r10)]) (μ' := m9) rfl ?_
          refine XB.icmp (P := r10 = x4) rfl rfl rfl (fun c165 => ?_) (fun c165 => ?_)
          · exact yM_append_b236_ok  (some x2) (some x4) (d8) (d9) x1 x3 x5 x6 x7 m9
          · refine XB.go 2 (pc' := 171) (ls' := [some (.ref 32), some (.int x1), some (.int x2), some (.int x3), some (.int x4), some (.int x5), some (.int x6), some (.int x7), (xdl d8), some (.int x3)]) (st' := []) (μ' := m9) (by cases d8 <;> rfl) ?_
            exact yM_append_b171_Lok  1000 (some x2) (some x4) (some x5) (some x7) (d8) x1 x3 x6 x3 m9
      · refine XB.go 9 (pc' := 144) (ls' := [some (.ref 32), some (.int x1), some (.int x2), some (.int x3), some (.int x4), some (.int x5), some (.int x6), some (.int x7), (xdl d8), (xdl d9)]) (st' := [(.int x6), (.int ((m5.2.1 32 10) + (1 : Int32))), (.int (0 : Int32)), (.int (6 : Int32)), (.int x1), (.ref 32)]) (μ' := m5) rfl ?_
        refine XB.cv rfl rfl rfl rfl rfl (yM_reply_ok x1 (6 : Int32) (0 : Int32) ((m5.2.1 32 10) + (1 : Int32)) x6 m5) (fun m17 => ?_)
        refine XB.go 1 (pc' := 276) (ls' := [some (.ref 32), some (.int x1), some (.int x2), some (.int x3), some (.int x4), some (.int x5), some (.int x6), some (.int x7), (xdl d8), (xdl d9)]) (st' := []) (μ' := m17) rfl ?_
        exact XB.fin rfl
    · exact XB.fin rfl
def yM_append_b51 (k51 : Int32 → Int32 → Int32 → Int32 → Int32 → Int32 → Int32 → Int32 → Int32 → XMu → XRes) (x1 : Int32) (x2 : Int32) (x3 : Int32) (x4 : Int32) (x5 : Int32) (x6 : Int32) (x7 : Int32) (x8 : Int32) (x9 : Int32) (μ : XMu) : XRes := (if x7 ≤ x9 then yM_append_b101  x1 x2 x3 x4 x5 x6 x7 μ else xgd (xin x9 6) ((if (μ.2.1 44 (x9).toNatClampNeg) < x8 then xgd (xin x9 6) (k51 x1 x2 x3 x4 x5 x6 x7 (μ.2.1 44 (x9).toNatClampNeg) (x9 + (1 : Int32)) (μ.1, (xuI μ.2.1 32 0 (2 : Int32)), μ.2.2)) else xgd (xin x9 6) ((if (μ.2.1 44 (x9).toNatClampNeg) ≤ x2 then xgd (xin x9 6) (k51 x1 x2 x3 x4 x5 x6 x7 (μ.2.1 44 (x9).toNatClampNeg) (x9 + (1 : Int32)) μ) else xgd (xin x9 6) (k51 x1 x2 x3 x4 x5 x6 x7 (μ.2.1 44 (x9).toNatClampNeg) (x9 + (1 : Int32)) (μ.1, (xuI μ.2.1 32 0 (2 : Int32)), μ.2.2)))))))
theorem yM_append_b51_ok {L : Nat} {xs : Nat → Int32} (k51 : Int32 → Int32 → Int32 → Int32 → Int32 → Int32 → Int32 → Int32 → Int32 → XMu → XRes) (hk51 : ∀  (x1 : Int32) (x2 : Int32) (x3 : Int32) (x4 : Int32) (x5 : Int32) (x6 : Int32) (x7 : Int32) (x8 : Int32) (x9 : Int32) (μ : XMu), XB L xs 210 51 [some (.ref 32), some (.int x1), some (.int x2), some (.int x3), some (.int x4), some (.int x5), some (.int x6), some (.int x7), some (.int x8), some (.int x9)] [] μ (k51 x1 x2 x3 x4 x5 x6 x7 x8 x9 μ))  (x1 : Int32) (x2 : Int32) (x3 : Int32) (x4 : Int32) (x5 : Int32) (x6 : Int32) (x7 : Int32) (x8 : Int32) (x9 : Int32) (μ : XMu) : XB L xs 210 51 [some (.ref 32), some (.int x1), some (.int x2), some (.int x3), some (.int x4), some (.int x5), some (.int x6), some (.int x7), some (.int x8), some (.int x9)] [] μ (yM_append_b51 k51 x1 x2 x3 x4 x5 x6 x7 x8 x9 μ) := by
  unfold yM_append_b51
  refine XB.go 2 (pc' := 55) (ls' := [some (.ref 32), some (.int x1), some (.int x2), some (.int x3), some (.int x4), some (.int x5), some (.int x6), some (.int x7), some (.int x8), some (.int x9)]) (st' := [(.int x7), (.int x9)]) (μ' := μ) rfl ?_
  refine XB.icmp (P := x7 ≤ x9) rfl rfl rfl (fun c55 => ?_) (fun c55 => ?_)
  · exact yM_append_b101_ok  (some x8) (some x9) x1 x2 x3 x4 x5 x6 x7 μ
  · refine XB.go 3 (pc' := 64) (ls' := [some (.ref 32), some (.int x1), some (.int x2), some (.int x3), some (.int x4), some (.int x5), some (.int x6), some (.int x7), some (.int x8), some (.int x9)]) (st' := [(.int x9), (.ref 44)]) (μ' := μ) rfl ?_
    refine XB.gd (pc' := 65) (ls' := [some (.ref 32), some (.int x1), some (.int x2), some (.int x3), some (.int x4), some (.int x5), some (.int x6), some (.int x7), some (.int x8), some (.int x9)]) (st' := [(.int (μ.2.1 44 (x9).toNatClampNeg))]) (μ' := μ) rfl rfl rfl (fun hb => xbT hb) ?_
    refine XB.go 1 (pc' := 67) (ls' := [some (.ref 32), some (.int x1), some (.int x2), some (.int x3), some (.int x4), some (.int x5), some (.int x6), some (.int x7), some (.int x8), some (.int x9)]) (st' := [(.int x8), (.int (μ.2.1 44 (x9).toNatClampNeg))]) (μ' := μ) rfl ?_
    refine XB.icmp (P := (μ.2.1 44 (x9).toNatClampNeg) < x8) rfl rfl rfl (fun c67 => ?_) (fun c67 => ?_)
    · refine XB.go 6 (pc' := 92) (ls' := [some (.ref 32), some (.int x1), some (.int x2), some (.int x3), some (.int x4), some (.int x5), some (.int x6), some (.int x7), some (.int x8), some (.int x9)]) (st' := [(.int x9), (.ref 44)]) (μ' := (μ.1, (xuI μ.2.1 32 0 (2 : Int32)), μ.2.2)) rfl ?_
      refine XB.gd (pc' := 93) (ls' := [some (.ref 32), some (.int x1), some (.int x2), some (.int x3), some (.int x4), some (.int x5), some (.int x6), some (.int x7), some (.int x8), some (.int x9)]) (st' := [(.int (μ.2.1 44 (x9).toNatClampNeg))]) (μ' := (μ.1, (xuI μ.2.1 32 0 (2 : Int32)), μ.2.2)) rfl rfl rfl (fun hb => xbT hb) ?_
      refine XB.go 3 (pc' := 51) (ls' := [some (.ref 32), some (.int x1), some (.int x2), some (.int x3), some (.int x4), some (.int x5), some (.int x6), some (.int x7), some (.int (μ.2.1 44 (x9).toNatClampNeg)), some (.int (x9 + (1 : Int32)))]) (st' := []) (μ' := (μ.1, (xuI μ.2.1 32 0 (2 : Int32)), μ.2.2)) rfl ?_
      exact hk51  x1 x2 x3 x4 x5 x6 x7 (μ.2.1 44 (x9).toNatClampNeg) (x9 + (1 : Int32)) (μ.1, (xuI μ.2.1 32 0 (2 : Int32)), μ.2.2)
    · refine XB.go 3 (pc' := 76) (ls' := [some (.ref 32), some (.int x1), some (.int x2), some (.int x3), some (.int x4), some (.int x5), some (.int x6), some (.int x7), some (.int x8), some (.int x9)]) (st' := [(.int x9), (.ref 44)]) (μ' := μ) rfl ?_
      refine XB.gd (pc' := 77) (ls' := [some (.ref 32), some (.int x1), some (.int x2), some (.int x3), some (.int x4), some (.int x5), some (.int x6), some (.int x7), some (.int x8), some (.int x9)]) (st' := [(.int (μ.2.1 44 (x9).toNatClampNeg))]) (μ' := μ) rfl rfl rfl (fun hb => xbT hb) ?_
      refine XB.go 1 (pc' := 78) (ls' := [some (.ref 32), some (.int x1), some (.int x2), some (.int x3), some (.int x4), some (.int x5), some (.int x6), some (.int x7), some (.int x8), some (.int x9)]) (st' := [(.int x2), (.int (μ.2.1 44 (x9).toNatClampNeg))]) (μ' := μ) rfl ?_
      refine XB.icmp (P := (μ.2.1 44 (x9).toNatClampNeg) ≤ x2) rfl rfl rfl (fun c78 => ?_) (fun c78 => ?_)
      · refine XB.go 3 (pc' := 92) (ls' := [some (.ref 32), some (.int x1), some (.int x2), some (.int x3), some (.int x4), some (.int x5), some (.int x6), some (.int x7), some (.int x8), some (.int x9)]) (st' := [(.int x9), (.ref 44)]) (μ' := μ) rfl ?_
        refine XB.gd (pc' := 93) (ls' := [some (.ref 32), some (.int x1), some (.int x2), some (.int x3), some (.int x4), some (.int x5), some (.int x6), some (.int x7), some (.int x8), some (.int x9)]) (st' := [(.int (μ.2.1 44 (x9).toNatClampNeg))]) (μ' := μ) rfl rfl rfl (fun hb => xbT hb) ?_
        refine XB.go 3 (pc' := 51) (ls' := [some (.ref 32), some (.int x1), some (.int x2), some (.int x3), some (.int x4), some (.int x5), some (.int x6), some (.int x7), some (.int (μ.2.1 44 (x9).toNatClampNeg)), some (.int (x9 + (1 : Int32)))]) (st' := []) (μ' := μ) rfl ?_
        exact hk51  x1 x2 x3 x4 x5 x6 x7 (μ.2.1 44 (x9).toNatClampNeg) (x9 + (1 : Int32)) μ
      · refine XB.go 6 (pc' := 92) (ls' := [some (.ref 32), some (.int x1), some (.int x2), some (.int x3), some (.int x4), some (.int x5), some (.int x6), some (.int x7), some (.int x8), some (.int x9)]) (st' := [(.int x9), (.ref 44)]) (μ' := (μ.1, (xuI μ.2.1 32 0 (2 : Int32)), μ.2.2)) rfl ?_
        refine XB.gd (pc' := 93) (ls' := [some (.ref 32), some (.int x1), some (.int x2), some (.int x3), some (.int x4), some (.int x5), some (.int x6), some (.int x7), some (.int x8), some (.int x9)]) (st' := [(.int (μ.2.1 44 (x9).toNatClampNeg))]) (μ' := (μ.1, (xuI μ.2.1 32 0 (2 : Int32)), μ.2.2)) rfl rfl rfl (fun hb => xbT hb) ?_
        refine XB.go 3 (pc' := 51) (ls' := [some (.ref 32), some (.int x1), some (.int x2), some (.int x3), some (.int x4), some (.int x5), some (.int x6), some (.int x7), some (.int (μ.2.1 44 (x9).toNatClampNeg)), some (.int (x9 + (1 : Int32)))]) (st' := []) (μ' := (μ.1, (xuI μ.2.1 32 0 (2 : Int32)), μ.2.2)) rfl ?_
        exact hk51  x1 x2 x3 x4 x5 x6 x7 (μ.2.1 44 (x9).toNatClampNeg) (x9 + (1 : Int32)) (μ.1, (xuI μ.2.1 32 0 (2 : Int32)), μ.2.2)
def yM_append_b51_L  : Nat → Int32 → Int32 → Int32 → Int32 → Int32 → Int32 → Int32 → Int32 → Int32 → XMu → XRes
  | 0 => fun _ _ _ _ _ _ _ _ _ _ => none
  | n + 1 => yM_append_b51 (yM_append_b51_L  n)
theorem yM_append_b51_Lok {L : Nat} {xs : Nat → Int32}  : ∀ (n : Nat)  (x1 : Int32) (x2 : Int32) (x3 : Int32) (x4 : Int32) (x5 : Int32) (x6 : Int32) (x7 : Int32) (x8 : Int32) (x9 : Int32) (μ : XMu), XB L xs 210 51 [some (.ref 32), some (.int x1), some (.int x2), some (.int x3), some (.int x4), some (.int x5), some (.int x6), some (.int x7), some (.int x8), some (.int x9)] [] μ (yM_append_b51_L  n x1 x2 x3 x4 x5 x6 x7 x8 x9 μ) := by
  intro n
  induction n with
  | zero => intro  x1 x2 x3 x4 x5 x6 x7 x8 x9 μ r h; cases h
  | succ n ih => intro  x1 x2 x3 x4 x5 x6 x7 x8 x9 μ; exact yM_append_b51_ok (yM_append_b51_L  n) ih  x1 x2 x3 x4 x5 x6 x7 x8 x9 μ
def yM_append (a1 : Int32) (a2 : Int32) (a3 : Int32) (a4 : Int32) (a5 : Int32) (a6 : Int32) (μ : XMu) : XRes := xbi (yM_bad a1 a2 a3 a4 a5 (μ.1, (xuI (xuI μ.2.1 32 0 (0 : Int32)) 32 42 (0 : Int32)), μ.2.2)) (fun r2 m1 => (if ¬ r2 = (0 : Int32) then some (.inl none, m1) else xbi (yM_bad a1 a6 (0 : Int32) (0 : Int32) (0 : Int32) m1) (fun r4 m3 => (if r4 = (0 : Int32) then yM_append_b51_L  1000 a1 a2 a3 a4 a5 a6 (μ.2.1 32 42) a4 (0 : Int32) m3 else some (.inl none, m3)))))
theorem yM_append_ok {L : Nat} {xs : Nat → Int32} (a1 : Int32) (a2 : Int32) (a3 : Int32) (a4 : Int32) (a5 : Int32) (a6 : Int32) (μ : XMu) : XB L xs 210 0 [some (.ref 32), some (.int a1), some (.int a2), some (.int a3), some (.int a4), some (.int a5), some (.int a6), none, none, none] [] μ (yM_append a1 a2 a3 a4 a5 a6 μ) := by
  unfold yM_append
  refine XB.go 15 (pc' := 24) (ls' := [some (.ref 32), some (.int a1), some (.int a2), some (.int a3), some (.int a4), some (.int a5), some (.int a6), some (.int (μ.2.1 32 42)), none, none]) (st' := [(.int a5), (.int a4), (.int a3), (.int a2), (.int a1), (.ref 32)]) (μ' := (μ.1, (xuI (xuI μ.2.1 32 0 (0 : Int32)) 32 42 (0 : Int32)), μ.2.2)) rfl ?_
  refine XB.ci rfl rfl rfl rfl rfl (yM_bad_ok a1 a2 a3 a4 a5 (μ.1, (xuI (xuI μ.2.1 32 0 (0 : Int32)) 32 42 (0 : Int32)), μ.2.2)) (fun r2 m1 => ?_)
  refine XB.ifz (P := ¬ r2 = (0 : Int32)) rfl rfl rfl (fun c27 => ?_) (fun c27 => ?_)
  · exact XB.fin rfl
  · refine XB.go 6 (pc' := 37) (ls' := [some (.ref 32), some (.int a1), some (.int a2), some (.int a3), some (.int a4), some (.int a5), some (.int a6), some (.int (μ.2.1 32 42)), none, none]) (st' := [(.int (0 : Int32)), (.int (0 : Int32)), (.int (0 : Int32)), (.int a6), (.int a1), (.ref 32)]) (μ' := m1) rfl ?_
    refine XB.ci rfl rfl rfl rfl rfl (yM_bad_ok a1 a6 (0 : Int32) (0 : Int32) (0 : Int32) m1) (fun r4 m3 => ?_)
    refine XB.ifz (P := r4 = (0 : Int32)) rfl rfl rfl (fun c40 => ?_) (fun c40 => ?_)
    · refine XB.go 4 (pc' := 51) (ls' := [some (.ref 32), some (.int a1), some (.int a2), some (.int a3), some (.int a4), some (.int a5), some (.int a6), some (.int (μ.2.1 32 42)), some (.int a4), some (.int (0 : Int32))]) (st' := []) (μ' := m3) rfl ?_
      exact yM_append_b51_Lok  1000  a1 a2 a3 a4 a5 a6 (μ.2.1 32 42) a4 (0 : Int32) m3
    · exact XB.fin rfl
/-- LogServerModel.heardOf(III)Z -/
def yM_heardOf (a1 : Int32) (a2 : Int32) (a3 : Int32) (μ : XMu) : XRes := xbv (yM_above a2 μ) (fun m1 => (if ¬ a2 = (m1.2.1 32 4) then some (.inl (some (.int (0 : Int32))), m1) else (if ¬ (m1.2.1 32 15) = (3 : Int32) then some (.inl (some (.int (0 : Int32))), m1) else xbi (yM_peers m1) (fun r3 m2 => (if ¬ (yM_has r3 a1) = (0 : Int32) then xgd (xin a1 7) (xgd (xin a1 7) (xgd (xin a1 7) ((if a3 ≤ (m2.2.1 40 (a1).toNatClampNeg) then some (.inl (some (.int (1 : Int32))), (m2.1, (xuI (xuI m2.2.1 41 (a1).toNatClampNeg (m2.2.1 32 3)) 43 (a1).toNatClampNeg (1 : Int32)), m2.2.2)) else xgd (xin a1 7) (some (.inl (some (.int (1 : Int32))), (m2.1, (xuI (xuI (xuI m2.2.1 41 (a1).toNatClampNeg (m2.2.1 32 3)) 43 (a1).toNatClampNeg (1 : Int32)) 40 (a1).toNatClampNeg a3), m2.2.2))))))) else some (.inl (some (.int (0 : Int32))), m2))))))
theorem yM_heardOf_ok {L : Nat} {xs : Nat → Int32} (a1 : Int32) (a2 : Int32) (a3 : Int32) (μ : XMu) : XB L xs 211 0 [some (.ref 32), some (.int a1), some (.int a2), some (.int a3)] [] μ (yM_heardOf a1 a2 a3 μ) := by
  unfold yM_heardOf
  refine XB.go 2 (pc' := 2) (ls' := [some (.ref 32), some (.int a1), some (.int a2), some (.int a3)]) (st' := [(.int a2), (.ref 32)]) (μ' := μ) rfl ?_
  refine XB.cv rfl rfl rfl rfl rfl (yM_above_ok a2 μ) (fun m1 => ?_)
  refine XB.go 3 (pc' := 10) (ls' := [some (.ref 32), some (.int a1), some (.int a2), some (.int a3)]) (st' := [(.int (m1.2.1 32 4)), (.int a2)]) (μ' := m1) rfl ?_
  refine XB.icmp (P := ¬ a2 = (m1.2.1 32 4)) rfl rfl rfl (fun c10 => ?_) (fun c10 => ?_)
  · refine XB.go 1 (pc' := 33) (ls' := [some (.ref 32), some (.int a1), some (.int a2), some (.int a3)]) (st' := [(.int (0 : Int32))]) (μ' := m1) rfl ?_
    exact XB.fin rfl
  · refine XB.go 3 (pc' := 18) (ls' := [some (.ref 32), some (.int a1), some (.int a2), some (.int a3)]) (st' := [(.int (3 : Int32)), (.int (m1.2.1 32 15))]) (μ' := m1) rfl ?_
    refine XB.icmp (P := ¬ (m1.2.1 32 15) = (3 : Int32)) rfl rfl rfl (fun c18 => ?_) (fun c18 => ?_)
    · refine XB.go 1 (pc' := 33) (ls' := [some (.ref 32), some (.int a1), some (.int a2), some (.int a3)]) (st' := [(.int (0 : Int32))]) (μ' := m1) rfl ?_
      exact XB.fin rfl
    · refine XB.go 1 (pc' := 22) (ls' := [some (.ref 32), some (.int a1), some (.int a2), some (.int a3)]) (st' := [(.ref 32)]) (μ' := m1) rfl ?_
      refine XB.ci rfl rfl rfl rfl rfl (yM_peers_ok m1) (fun r3 m2 => ?_)
      refine XB.go 1 (pc' := 26) (ls' := [some (.ref 32), some (.int a1), some (.int a2), some (.int a3)]) (st' := [(.int a1), (.int r3)]) (μ' := m2) rfl ?_
      refine XB.cp rfl rfl rfl (yM_has_ok r3 a1 m2) ?_
      refine XB.ifz (P := ¬ (yM_has r3 a1) = (0 : Int32)) rfl rfl rfl (fun c29 => ?_) (fun c29 => ?_)
      · refine XB.go 5 (pc' := 43) (ls' := [some (.ref 32), some (.int a1), some (.int a2), some (.int a3)]) (st' := [(.int (m2.2.1 32 3)), (.int a1), (.ref 41)]) (μ' := m2) rfl ?_
        refine XB.gd (pc' := 44) (ls' := [some (.ref 32), some (.int a1), some (.int a2), some (.int a3)]) (st' := []) (μ' := (m2.1, (xuI m2.2.1 41 (a1).toNatClampNeg (m2.2.1 32 3)), m2.2.2)) rfl rfl rfl (fun hb => xbT hb) ?_
        refine XB.go 4 (pc' := 50) (ls' := [some (.ref 32), some (.int a1), some (.int a2), some (.int a3)]) (st' := [(.int (1 : Int32)), (.int a1), (.ref 43)]) (μ' := (m2.1, (xuI m2.2.1 41 (a1).toNatClampNeg (m2.2.1 32 3)), m2.2.2)) rfl ?_
        refine XB.gd (pc' := 51) (ls' := [some (.ref 32), some (.int a1), some (.int a2), some (.int a3)]) (st' := []) (μ' := (m2.1, (xuI (xuI m2.2.1 41 (a1).toNatClampNeg (m2.2.1 32 3)) 43 (a1).toNatClampNeg (1 : Int32)), m2.2.2)) rfl rfl rfl (fun hb => xbT (xbL hb)) ?_
        refine XB.go 4 (pc' := 57) (ls' := [some (.ref 32), some (.int a1), some (.int a2), some (.int a3)]) (st' := [(.int a1), (.ref 40), (.int a3)]) (μ' := (m2.1, (xuI (xuI m2.2.1 41 (a1).toNatClampNeg (m2.2.1 32 3)) 43 (a1).toNatClampNeg (1 : Int32)), m2.2.2)) rfl ?_
        refine XB.gd (pc' := 58) (ls' := [some (.ref 32), some (.int a1), some (.int a2), some (.int a3)]) (st' := [(.int (m2.2.1 40 (a1).toNatClampNeg)), (.int a3)]) (μ' := (m2.1, (xuI (xuI m2.2.1 41 (a1).toNatClampNeg (m2.2.1 32 3)) 43 (a1).toNatClampNeg (1 : Int32)), m2.2.2)) rfl rfl rfl (fun hb => xbT hb) ?_
        refine XB.icmp (P := a3 ≤ (m2.2.1 40 (a1).toNatClampNeg)) rfl rfl rfl (fun c58 => ?_) (fun c58 => ?_)
        · refine XB.go 1 (pc' := 69) (ls' := [some (.ref 32), some (.int a1), some (.int a2), some (.int a3)]) (st' := [(.int (1 : Int32))]) (μ' := (m2.1, (xuI (xuI m2.2.1 41 (a1).toNatClampNeg (m2.2.1 32 3)) 43 (a1).toNatClampNeg (1 : Int32)), m2.2.2)) rfl ?_
          exact XB.fin rfl
        · refine XB.go 4 (pc' := 67) (ls' := [some (.ref 32), some (.int a1), some (.int a2), some (.int a3)]) (st' := [(.int a3), (.int a1), (.ref 40)]) (μ' := (m2.1, (xuI (xuI m2.2.1 41 (a1).toNatClampNeg (m2.2.1 32 3)) 43 (a1).toNatClampNeg (1 : Int32)), m2.2.2)) rfl ?_
          refine XB.gd (pc' := 68) (ls' := [some (.ref 32), some (.int a1), some (.int a2), some (.int a3)]) (st' := []) (μ' := (m2.1, (xuI (xuI (xuI m2.2.1 41 (a1).toNatClampNeg (m2.2.1 32 3)) 43 (a1).toNatClampNeg (1 : Int32)) 40 (a1).toNatClampNeg a3), m2.2.2)) rfl rfl rfl (fun hb => xbT hb) ?_
          refine XB.go 1 (pc' := 69) (ls' := [some (.ref 32), some (.int a1), some (.int a2), some (.int a3)]) (st' := [(.int (1 : Int32))]) (μ' := (m2.1, (xuI (xuI (xuI m2.2.1 41 (a1).toNatClampNeg (m2.2.1 32 3)) 43 (a1).toNatClampNeg (1 : Int32)) 40 (a1).toNatClampNeg a3), m2.2.2)) rfl ?_
          exact XB.fin rfl
      · refine XB.go 1 (pc' := 33) (ls' := [some (.ref 32), some (.int a1), some (.int a2), some (.int a3)]) (st' := [(.int (0 : Int32))]) (μ' := m2) rfl ?_
        exact XB.fin rfl
/-- LogServerModel.goOn(I)V -/
def yM_goOn_b33  (x1 : Int32) (μ : XMu) : XRes := (if ¬ (μ.2.1 32 15) = (3 : Int32) then some (.inl none, μ) else (if ¬ (μ.2.1 32 23) = x1 then some (.inl none, μ) else xgd (xin x1 7) ((if ¬ (μ.2.1 37 (x1).toNatClampNeg) = (μ.2.1 32 10) then some (.inl none, μ) else xbv (yM_begin x1 (9 : Int32) (μ.2.1 32 4) μ) (fun m3 => xbv (yM_send m3) (fun m4 => some (.inl none, m4)))))))
theorem yM_goOn_b33_ok {L : Nat} {xs : Nat → Int32}   (x1 : Int32) (μ : XMu) : XB L xs 212 33 [some (.ref 32), some (.int x1)] [] μ (yM_goOn_b33  x1 μ) := by
  unfold yM_goOn_b33
  refine XB.go 3 (pc' := 38) (ls' := [some (.ref 32), some (.int x1)]) (st' := [(.int (3 : Int32)), (.int (μ.2.1 32 15))]) (μ' := μ) rfl ?_
  refine XB.icmp (P := ¬ (μ.2.1 32 15) = (3 : Int32)) rfl rfl rfl (fun c38 => ?_) (fun c38 => ?_)
  · exact XB.fin rfl
  · refine XB.go 3 (pc' := 46) (ls' := [some (.ref 32), some (.int x1)]) (st' := [(.int x1), (.int (μ.2.1 32 23))]) (μ' := μ) rfl ?_
    refine XB.icmp (P := ¬ (μ.2.1 32 23) = x1) rfl rfl rfl (fun c46 => ?_) (fun c46 => ?_)
    · exact XB.fin rfl
    · refine XB.go 3 (pc' := 54) (ls' := [some (.ref 32), some (.int x1)]) (st' := [(.int x1), (.ref 37)]) (μ' := μ) rfl ?_
      refine XB.gd (pc' := 55) (ls' := [some (.ref 32), some (.int x1)]) (st' := [(.int (μ.2.1 37 (x1).toNatClampNeg))]) (μ' := μ) rfl rfl rfl (fun hb => xbT hb) ?_
      refine XB.go 2 (pc' := 59) (ls' := [some (.ref 32), some (.int x1)]) (st' := [(.int (μ.2.1 32 10)), (.int (μ.2.1 37 (x1).toNatClampNeg))]) (μ' := μ) rfl ?_
      refine XB.icmp (P := ¬ (μ.2.1 37 (x1).toNatClampNeg) = (μ.2.1 32 10)) rfl rfl rfl (fun c59 => ?_) (fun c59 => ?_)
      · exact XB.fin rfl
      · refine XB.go 5 (pc' := 70) (ls' := [some (.ref 32), some (.int x1)]) (st' := [(.int (μ.2.1 32 4)), (.int (9 : Int32)), (.int x1), (.ref 32)]) (μ' := μ) rfl ?_
        refine XB.cv rfl rfl rfl rfl rfl (yM_begin_ok x1 (9 : Int32) (μ.2.1 32 4) μ) (fun m3 => ?_)
        refine XB.go 1 (pc' := 74) (ls' := [some (.ref 32), some (.int x1)]) (st' := [(.ref 32)]) (μ' := m3) rfl ?_
        refine XB.cv rfl rfl rfl rfl rfl (yM_send_ok m3) (fun m4 => ?_)
        exact XB.fin rfl
def yM_goOn (a1 : Int32) (μ : XMu) : XRes := xbv (yM_count μ) (fun m1 => xbv (yM_reads m1) (fun m2 => (if ¬ (m2.2.1 32 15) = (3 : Int32) then yM_goOn_b33  a1 m2 else xbi (yM_peers m2) (fun r6 m5 => (if (yM_has r6 a1) = (0 : Int32) then yM_goOn_b33  a1 m5 else xbv (yM_sendTo a1 (0 : Int32) m5) (fun m7 => yM_goOn_b33  a1 m7))))))
theorem yM_goOn_ok {L : Nat} {xs : Nat → Int32} (a1 : Int32) (μ : XMu) : XB L xs 212 0 [some (.ref 32), some (.int a1)] [] μ (yM_goOn a1 μ) := by
  unfold yM_goOn
  refine XB.go 1 (pc' := 1) (ls' := [some (.ref 32), some (.int a1)]) (st' := [(.ref 32)]) (μ' := μ) rfl ?_
  refine XB.cv rfl rfl rfl rfl rfl (yM_count_ok μ) (fun m1 => ?_)
  refine XB.go 1 (pc' := 5) (ls' := [some (.ref 32), some (.int a1)]) (st' := [(.ref 32)]) (μ' := m1) rfl ?_
  refine XB.cv rfl rfl rfl rfl rfl (yM_reads_ok m1) (fun m2 => ?_)
  refine XB.go 3 (pc' := 13) (ls' := [some (.ref 32), some (.int a1)]) (st' := [(.int (3 : Int32)), (.int (m2.2.1 32 15))]) (μ' := m2) rfl ?_
  refine XB.icmp (P := ¬ (m2.2.1 32 15) = (3 : Int32)) rfl rfl rfl (fun c13 => ?_) (fun c13 => ?_)
  · exact yM_goOn_b33_ok   a1 m2
  · refine XB.go 1 (pc' := 17) (ls' := [some (.ref 32), some (.int a1)]) (st' := [(.ref 32)]) (μ' := m2) rfl ?_
    refine XB.ci rfl rfl rfl rfl rfl (yM_peers_ok m2) (fun r6 m5 => ?_)
    refine XB.go 1 (pc' := 21) (ls' := [some (.ref 32), some (.int a1)]) (st' := [(.int a1), (.int r6)]) (μ' := m5) rfl ?_
    refine XB.cp rfl rfl rfl (yM_has_ok r6 a1 m5) ?_
    refine XB.ifz (P := (yM_has r6 a1) = (0 : Int32)) rfl rfl rfl (fun c24 => ?_) (fun c24 => ?_)
    · exact yM_goOn_b33_ok   a1 m5
    · refine XB.go 3 (pc' := 30) (ls' := [some (.ref 32), some (.int a1)]) (st' := [(.int (0 : Int32)), (.int a1), (.ref 32)]) (μ' := m5) rfl ?_
      refine XB.cv rfl rfl rfl rfl rfl (yM_sendTo_ok a1 (0 : Int32) m5) (fun m7 => ?_)
      exact yM_goOn_b33_ok   a1 m7
/-- LogServerModel.appended(IIZII)V -/
def yM_appended_b166  (x1 : Int32) (s0 : Int32) (μ : XMu) : XRes := (if s0 ≤ ((μ.2.1 32 10) + (1 : Int32)) then xgd (xin x1 7) (xbv (yM_goOn x1 (μ.1, (xuI μ.2.1 36 (x1).toNatClampNeg s0), μ.2.2)) (fun m5 => some (.inl none, m5))) else xgd (xin x1 7) (xbv (yM_goOn x1 (μ.1, (xuI μ.2.1 36 (x1).toNatClampNeg ((μ.2.1 32 10) + (1 : Int32))), μ.2.2)) (fun m6 => some (.inl none, m6))))
theorem yM_appended_b166_ok {L : Nat} {xs : Nat → Int32}  (d2 : Option Int32) (d3 : Option Int32) (d4 : Option Int32) (d5 : Option Int32) (d6 : Option Int32) (x1 : Int32) (s0 : Int32) (μ : XMu) : XB L xs 213 166 [some (.ref 32), some (.int x1), (xdl d2), (xdl d3), (xdl d4), (xdl d5), (xdl d6)] [(.int s0)] μ (yM_appended_b166  x1 s0 μ) := by
  unfold yM_appended_b166
  refine XB.go 9 (pc' := 181) (ls' := [some (.ref 32), some (.int x1), (xdl d2), (xdl d3), (xdl d4), (xdl d5), some (.int s0)]) (st' := [(.int ((μ.2.1 32 10) + (1 : Int32))), (.int s0), (.int x1), (.ref 36)]) (μ' := μ) (by cases d5 <;> rfl) ?_
  refine XB.icmp (P := s0 ≤ ((μ.2.1 32 10) + (1 : Int32))) rfl rfl rfl (fun c181 => ?_) (fun c181 => ?_)
  · refine XB.go 1 (pc' := 195) (ls' := [some (.ref 32), some (.int x1), (xdl d2), (xdl d3), (xdl d4), (xdl d5), some (.int s0)]) (st' := [(.int s0), (.int x1), (.ref 36)]) (μ' := μ) rfl ?_
    refine XB.gd (pc' := 196) (ls' := [some (.ref 32), some (.int x1), (xdl d2), (xdl d3), (xdl d4), (xdl d5), some (.int s0)]) (st' := []) (μ' := (μ.1, (xuI μ.2.1 36 (x1).toNatClampNeg s0), μ.2.2)) rfl rfl rfl (fun hb => xbT hb) ?_
    refine XB.go 2 (pc' := 198) (ls' := [some (.ref 32), some (.int x1), (xdl d2), (xdl d3), (xdl d4), (xdl d5), some (.int s0)]) (st' := [(.int x1), (.ref 32)]) (μ' := (μ.1, (xuI μ.2.1 36 (x1).toNatClampNeg s0), μ.2.2)) rfl ?_
    refine XB.cv rfl rfl rfl rfl rfl (yM_goOn_ok x1 (μ.1, (xuI μ.2.1 36 (x1).toNatClampNeg s0), μ.2.2)) (fun m5 => ?_)
    exact XB.fin rfl
  · refine XB.go 5 (pc' := 195) (ls' := [some (.ref 32), some (.int x1), (xdl d2), (xdl d3), (xdl d4), (xdl d5), some (.int s0)]) (st' := [(.int ((μ.2.1 32 10) + (1 : Int32))), (.int x1), (.ref 36)]) (μ' := μ) rfl ?_
    refine XB.gd (pc' := 196) (ls' := [some (.ref 32), some (.int x1), (xdl d2), (xdl d3), (xdl d4), (xdl d5), some (.int s0)]) (st' := []) (μ' := (μ.1, (xuI μ.2.1 36 (x1).toNatClampNeg ((μ.2.1 32 10) + (1 : Int32))), μ.2.2)) rfl rfl rfl (fun hb => xbT hb) ?_
    refine XB.go 2 (pc' := 198) (ls' := [some (.ref 32), some (.int x1), (xdl d2), (xdl d3), (xdl d4), (xdl d5), some (.int s0)]) (st' := [(.int x1), (.ref 32)]) (μ' := (μ.1, (xuI μ.2.1 36 (x1).toNatClampNeg ((μ.2.1 32 10) + (1 : Int32))), μ.2.2)) rfl ?_
    refine XB.cv rfl rfl rfl rfl rfl (yM_goOn_ok x1 (μ.1, (xuI μ.2.1 36 (x1).toNatClampNeg ((μ.2.1 32 10) + (1 : Int32))), μ.2.2)) (fun m6 => ?_)
    exact XB.fin rfl
def yM_appended_b100  (x1 : Int32) (x6 : Int32) (μ : XMu) : XRes := xgd (xin x1 7) ((if (x6 + (1 : Int32)) ≤ (μ.2.1 36 (x1).toNatClampNeg) then xbv (yM_goOn x1 μ) (fun m7 => some (.inl none, m7)) else xgd (xin x1 7) (xbv (yM_goOn x1 (μ.1, (xuI μ.2.1 36 (x1).toNatClampNeg (x6 + (1 : Int32))), μ.2.2)) (fun m8 => some (.inl none, m8)))))
theorem yM_appended_b100_ok {L : Nat} {xs : Nat → Int32}  (d2 : Option Int32) (d3 : Option Int32) (d4 : Option Int32) (d5 : Option Int32) (x1 : Int32) (x6 : Int32) (μ : XMu) : XB L xs 213 100 [some (.ref 32), some (.int x1), (xdl d2), (xdl d3), (xdl d4), (xdl d5), some (.int x6)] [] μ (yM_appended_b100  x1 x6 μ) := by
  unfold yM_appended_b100
  refine XB.go 6 (pc' := 109) (ls' := [some (.ref 32), some (.int x1), (xdl d2), (xdl d3), (xdl d4), (xdl d5), some (.int x6)]) (st' := [(.int x1), (.ref 36), (.int (x6 + (1 : Int32)))]) (μ' := μ) rfl ?_
  refine XB.gd (pc' := 110) (ls' := [some (.ref 32), some (.int x1), (xdl d2), (xdl d3), (xdl d4), (xdl d5), some (.int x6)]) (st' := [(.int (μ.2.1 36 (x1).toNatClampNeg)), (.int (x6 + (1 : Int32)))]) (μ' := μ) rfl rfl rfl (fun hb => xbT hb) ?_
  refine XB.icmp (P := (x6 + (1 : Int32)) ≤ (μ.2.1 36 (x1).toNatClampNeg)) rfl rfl rfl (fun c110 => ?_) (fun c110 => ?_)
  · refine XB.go 3 (pc' := 198) (ls' := [some (.ref 32), some (.int x1), (xdl d2), (xdl d3), (xdl d4), (xdl d5), some (.int x6)]) (st' := [(.int x1), (.ref 32)]) (μ' := μ) rfl ?_
    refine XB.cv rfl rfl rfl rfl rfl (yM_goOn_ok x1 μ) (fun m7 => ?_)
    exact XB.fin rfl
  · refine XB.go 6 (pc' := 122) (ls' := [some (.ref 32), some (.int x1), (xdl d2), (xdl d3), (xdl d4), (xdl d5), some (.int x6)]) (st' := [(.int (x6 + (1 : Int32))), (.int x1), (.ref 36)]) (μ' := μ) rfl ?_
    refine XB.gd (pc' := 123) (ls' := [some (.ref 32), some (.int x1), (xdl d2), (xdl d3), (xdl d4), (xdl d5), some (.int x6)]) (st' := []) (μ' := (μ.1, (xuI μ.2.1 36 (x1).toNatClampNeg (x6 + (1 : Int32))), μ.2.2)) rfl rfl rfl (fun hb => xbT hb) ?_
    refine XB.go 3 (pc' := 198) (ls' := [some (.ref 32), some (.int x1), (xdl d2), (xdl d3), (xdl d4), (xdl d5), some (.int x6)]) (st' := [(.int x1), (.ref 32)]) (μ' := (μ.1, (xuI μ.2.1 36 (x1).toNatClampNeg (x6 + (1 : Int32))), μ.2.2)) rfl ?_
    refine XB.cv rfl rfl rfl rfl rfl (yM_goOn_ok x1 (μ.1, (xuI μ.2.1 36 (x1).toNatClampNeg (x6 + (1 : Int32))), μ.2.2)) (fun m8 => ?_)
    exact XB.fin rfl
def yM_appended_b74  (x1 : Int32) (x6 : Int32) (μ : XMu) : XRes := xgd (xin x1 7) (xgd (xin x1 7) ((if (μ.2.1 38 (x1).toNatClampNeg) ≤ (0 : Int32) then yM_appended_b100  x1 x6 (μ.1, (xuI μ.2.1 42 (x1).toNatClampNeg (0 : Int32)), μ.2.2) else xgd (xin x1 7) (xgd (xin x1 7) (yM_appended_b100  x1 x6 (μ.1, (xuI (xuI μ.2.1 42 (x1).toNatClampNeg (0 : Int32)) 38 (x1).toNatClampNeg ((μ.2.1 38 (x1).toNatClampNeg) - (1 : Int32))), μ.2.2))))))
theorem yM_appended_b74_ok {L : Nat} {xs : Nat → Int32}  (d2 : Option Int32) (d3 : Option Int32) (d4 : Option Int32) (d5 : Option Int32) (x1 : Int32) (x6 : Int32) (μ : XMu) : XB L xs 213 74 [some (.ref 32), some (.int x1), (xdl d2), (xdl d3), (xdl d4), (xdl d5), some (.int x6)] [] μ (yM_appended_b74  x1 x6 μ) := by
  unfold yM_appended_b74
  refine XB.go 4 (pc' := 80) (ls' := [some (.ref 32), some (.int x1), (xdl d2), (xdl d3), (xdl d4), (xdl d5), some (.int x6)]) (st' := [(.int (0 : Int32)), (.int x1), (.ref 42)]) (μ' := μ) rfl ?_
  refine XB.gd (pc' := 81) (ls' := [some (.ref 32), some (.int x1), (xdl d2), (xdl d3), (xdl d4), (xdl d5), some (.int x6)]) (st' := []) (μ' := (μ.1, (xuI μ.2.1 42 (x1).toNatClampNeg (0 : Int32)), μ.2.2)) rfl rfl rfl (fun hb => xbT (xbL hb)) ?_
  refine XB.go 3 (pc' := 86) (ls' := [some (.ref 32), some (.int x1), (xdl d2), (xdl d3), (xdl d4), (xdl d5), some (.int x6)]) (st' := [(.int x1), (.ref 38)]) (μ' := (μ.1, (xuI μ.2.1 42 (x1).toNatClampNeg (0 : Int32)), μ.2.2)) rfl ?_
  refine XB.gd (pc' := 87) (ls' := [some (.ref 32), some (.int x1), (xdl d2), (xdl d3), (xdl d4), (xdl d5), some (.int x6)]) (st' := [(.int (μ.2.1 38 (x1).toNatClampNeg))]) (μ' := (μ.1, (xuI μ.2.1 42 (x1).toNatClampNeg (0 : Int32)), μ.2.2)) rfl rfl rfl (fun hb => xbT hb) ?_
  refine XB.ifz (P := (μ.2.1 38 (x1).toNatClampNeg) ≤ (0 : Int32)) rfl rfl rfl (fun c87 => ?_) (fun c87 => ?_)
  · exact yM_appended_b100_ok  (d2) (d3) (d4) (d5) x1 x6 (μ.1, (xuI μ.2.1 42 (x1).toNatClampNeg (0 : Int32)), μ.2.2)
  · refine XB.go 4 (pc' := 96) (ls' := [some (.ref 32), some (.int x1), (xdl d2), (xdl d3), (xdl d4), (xdl d5), some (.int x6)]) (st' := [(.int x1), (.ref 38), (.int x1), (.ref 38)]) (μ' := (μ.1, (xuI μ.2.1 42 (x1).toNatClampNeg (0 : Int32)), μ.2.2)) rfl ?_
    refine XB.gd (pc' := 97) (ls' := [some (.ref 32), some (.int x1), (xdl d2), (xdl d3), (xdl d4), (xdl d5), some (.int x6)]) (st' := [(.int (μ.2.1 38 (x1).toNatClampNeg)), (.int x1), (.ref 38)]) (μ' := (μ.1, (xuI μ.2.1 42 (x1).toNatClampNeg (0 : Int32)), μ.2.2)) rfl rfl rfl (fun hb => xbT hb) ?_
    refine XB.go 2 (pc' := 99) (ls' := [some (.ref 32), some (.int x1), (xdl d2), (xdl d3), (xdl d4), (xdl d5), some (.int x6)]) (st' := [(.int ((μ.2.1 38 (x1).toNatClampNeg) - (1 : Int32))), (.int x1), (.ref 38)]) (μ' := (μ.1, (xuI μ.2.1 42 (x1).toNatClampNeg (0 : Int32)), μ.2.2)) rfl ?_
    refine XB.gd (pc' := 100) (ls' := [some (.ref 32), some (.int x1), (xdl d2), (xdl d3), (xdl d4), (xdl d5), some (.int x6)]) (st' := []) (μ' := (μ.1, (xuI (xuI μ.2.1 42 (x1).toNatClampNeg (0 : Int32)) 38 (x1).toNatClampNeg ((μ.2.1 38 (x1).toNatClampNeg) - (1 : Int32))), μ.2.2)) rfl rfl rfl (fun hb => xbT hb) ?_
    exact yM_appended_b100_ok  (d2) (d3) (d4) (d5) x1 x6 (μ.1, (xuI (xuI μ.2.1 42 (x1).toNatClampNeg (0 : Int32)) 38 (x1).toNatClampNeg ((μ.2.1 38 (x1).toNatClampNeg) - (1 : Int32))), μ.2.2)
def yM_appended_b53  (x1 : Int32) (s0 : Int32) (μ : XMu) : XRes := xgd (xin x1 7) ((if s0 ≤ (μ.2.1 37 (x1).toNatClampNeg) then yM_appended_b74  x1 s0 μ else xgd (xin x1 7) (yM_appended_b74  x1 s0 (μ.1, (xuI μ.2.1 37 (x1).toNatClampNeg s0), μ.2.2))))
theorem yM_appended_b53_ok {L : Nat} {xs : Nat → Int32}  (d2 : Option Int32) (d3 : Option Int32) (d4 : Option Int32) (d5 : Option Int32) (d6 : Option Int32) (x1 : Int32) (s0 : Int32) (μ : XMu) : XB L xs 213 53 [some (.ref 32), some (.int x1), (xdl d2), (xdl d3), (xdl d4), (xdl d5), (xdl d6)] [(.int s0)] μ (yM_appended_b53  x1 s0 μ) := by
  unfold yM_appended_b53
  refine XB.go 5 (pc' := 62) (ls' := [some (.ref 32), some (.int x1), (xdl d2), (xdl d3), (xdl d4), (xdl d5), some (.int s0)]) (st' := [(.int x1), (.ref 37), (.int s0)]) (μ' := μ) (by cases d5 <;> rfl) ?_
  refine XB.gd (pc' := 63) (ls' := [some (.ref 32), some (.int x1), (xdl d2), (xdl d3), (xdl d4), (xdl d5), some (.int s0)]) (st' := [(.int (μ.2.1 37 (x1).toNatClampNeg)), (.int s0)]) (μ' := μ) rfl rfl rfl (fun hb => xbT hb) ?_
  refine XB.icmp (P := s0 ≤ (μ.2.1 37 (x1).toNatClampNeg)) rfl rfl rfl (fun c63 => ?_) (fun c63 => ?_)
  · exact yM_appended_b74_ok  (d2) (d3) (d4) (d5) x1 s0 μ
  · refine XB.go 4 (pc' := 73) (ls' := [some (.ref 32), some (.int x1), (xdl d2), (xdl d3), (xdl d4), (xdl d5), some (.int s0)]) (st' := [(.int s0), (.int x1), (.ref 37)]) (μ' := μ) rfl ?_
    refine XB.gd (pc' := 74) (ls' := [some (.ref 32), some (.int x1), (xdl d2), (xdl d3), (xdl d4), (xdl d5), some (.int s0)]) (st' := []) (μ' := (μ.1, (xuI μ.2.1 37 (x1).toNatClampNeg s0), μ.2.2)) rfl rfl rfl (fun hb => xbT hb) ?_
    exact yM_appended_b74_ok  (d2) (d3) (d4) (d5) x1 s0 (μ.1, (xuI μ.2.1 37 (x1).toNatClampNeg s0), μ.2.2)
def yM_appended (a1 : Int32) (a2 : Int32) (a3 : Int32) (a4 : Int32) (a5 : Int32) (μ : XMu) : XRes := xbi (yM_bad a1 a2 a4 a5 (0 : Int32) (μ.1, (xuI μ.2.1 32 0 (0 : Int32)), μ.2.2)) (fun r2 m1 => (if ¬ r2 = (0 : Int32) then some (.inl none, m1) else xbi (yM_heardOf a1 a2 a5 m1) (fun r4 m3 => (if ¬ r4 = (0 : Int32) then (if a3 = (0 : Int32) then xgd (xin a1 7) (xgd (xin a1 7) (xgd (xin a1 7) ((if a4 ≤ ((m3.2.1 37 (a1).toNatClampNeg) + (1 : Int32)) then xgd (xin a1 7) (yM_appended_b166  a1 ((m3.2.1 37 (a1).toNatClampNeg) + (1 : Int32)) (m3.1, (xuI (xuI m3.2.1 38 (a1).toNatClampNeg (0 : Int32)) 42 (a1).toNatClampNeg (1 : Int32)), m3.2.2)) else yM_appended_b166  a1 a4 (m3.1, (xuI (xuI m3.2.1 38 (a1).toNatClampNeg (0 : Int32)) 42 (a1).toNatClampNeg (1 : Int32)), m3.2.2))))) else (if (m3.2.1 32 10) ≤ a4 then yM_appended_b53  a1 (m3.2.1 32 10) m3 else yM_appended_b53  a1 a4 m3)) else some (.inl none, m3)))))
theorem yM_appended_ok {L : Nat} {xs : Nat → Int32} (a1 : Int32) (a2 : Int32) (a3 : Int32) (a4 : Int32) (a5 : Int32) (μ : XMu) : XB L xs 213 0 [some (.ref 32), some (.int a1), some (.int a2), some (.int a3), some (.int a4), some (.int a5), none] [] μ (yM_appended a1 a2 a3 a4 a5 μ) := by
  unfold yM_appended
  refine XB.go 9 (pc' := 13) (ls' := [some (.ref 32), some (.int a1), some (.int a2), some (.int a3), some (.int a4), some (.int a5), none]) (st' := [(.int (0 : Int32)), (.int a5), (.int a4), (.int a2), (.int a1), (.ref 32)]) (μ' := (μ.1, (xuI μ.2.1 32 0 (0 : Int32)), μ.2.2)) rfl ?_
  refine XB.ci rfl rfl rfl rfl rfl (yM_bad_ok a1 a2 a4 a5 (0 : Int32) (μ.1, (xuI μ.2.1 32 0 (0 : Int32)), μ.2.2)) (fun r2 m1 => ?_)
  refine XB.ifz (P := ¬ r2 = (0 : Int32)) rfl rfl rfl (fun c16 => ?_) (fun c16 => ?_)
  · exact XB.fin rfl
  · refine XB.go 4 (pc' := 24) (ls' := [some (.ref 32), some (.int a1), some (.int a2), some (.int a3), some (.int a4), some (.int a5), none]) (st' := [(.int a5), (.int a2), (.int a1), (.ref 32)]) (μ' := m1) rfl ?_
    refine XB.ci rfl rfl rfl rfl rfl (yM_heardOf_ok a1 a2 a5 m1) (fun r4 m3 => ?_)
    refine XB.ifz (P := ¬ r4 = (0 : Int32)) rfl rfl rfl (fun c27 => ?_) (fun c27 => ?_)
    · refine XB.go 1 (pc' := 32) (ls' := [some (.ref 32), some (.int a1), some (.int a2), some (.int a3), some (.int a4), some (.int a5), none]) (st' := [(.int a3)]) (μ' := m3) rfl ?_
      refine XB.ifz (P := a3 = (0 : Int32)) rfl rfl rfl (fun c32 => ?_) (fun c32 => ?_)
      · refine XB.go 4 (pc' := 132) (ls' := [some (.ref 32), some (.int a1), some (.int a2), some (.int a3), some (.int a4), some (.int a5), none]) (st' := [(.int (0 : Int32)), (.int a1), (.ref 38)]) (μ' := m3) rfl ?_
        refine XB.gd (pc' := 133) (ls' := [some (.ref 32), some (.int a1), some (.int a2), some (.int a3), some (.int a4), some (.int a5), none]) (st' := []) (μ' := (m3.1, (xuI m3.2.1 38 (a1).toNatClampNeg (0 : Int32)), m3.2.2)) rfl rfl rfl (fun hb => xbT hb) ?_
        refine XB.go 4 (pc' := 139) (ls' := [some (.ref 32), some (.int a1), some (.int a2), some (.int a3), some (.int a4), some (.int a5), none]) (st' := [(.int (1 : Int32)), (.int a1), (.ref 42)]) (μ' := (m3.1, (xuI m3.2.1 38 (a1).toNatClampNeg (0 : Int32)), m3.2.2)) rfl ?_
        refine XB.gd (pc' := 140) (ls' := [some (.ref 32), some (.int a1), some (.int a2), some (.int a3), some (.int a4), some (.int a5), none]) (st' := []) (μ' := (m3.1, (xuI (xuI m3.2.1 38 (a1).toNatClampNeg (0 : Int32)) 42 (a1).toNatClampNeg (1 : Int32)), m3.2.2)) rfl rfl rfl (fun hb => xbT (xbL hb)) ?_
        refine XB.go 4 (pc' := 147) (ls' := [some (.ref 32), some (.int a1), some (.int a2), some (.int a3), some (.int a4), some (.int a5), none]) (st' := [(.int a1), (.ref 37), (.int a4)]) (μ' := (m3.1, (xuI (xuI m3.2.1 38 (a1).toNatClampNeg (0 : Int32)) 42 (a1).toNatClampNeg (1 : Int32)), m3.2.2)) rfl ?_
        refine XB.gd (pc' := 148) (ls' := [some (.ref 32), some (.int a1), some (.int a2), some (.int a3), some (.int a4), some (.int a5), none]) (st' := [(.int (m3.2.1 37 (a1).toNatClampNeg)), (.int a4)]) (μ' := (m3.1, (xuI (xuI m3.2.1 38 (a1).toNatClampNeg (0 : Int32)) 42 (a1).toNatClampNeg (1 : Int32)), m3.2.2)) rfl rfl rfl (fun hb => xbT hb) ?_
        refine XB.go 2 (pc' := 150) (ls' := [some (.ref 32), some (.int a1), some (.int a2), some (.int a3), some (.int a4), some (.int a5), none]) (st' := [(.int ((m3.2.1 37 (a1).toNatClampNeg) + (1 : Int32))), (.int a4)]) (μ' := (m3.1, (xuI (xuI m3.2.1 38 (a1).toNatClampNeg (0 : Int32)) 42 (a1).toNatClampNeg (1 : Int32)), m3.2.2)) rfl ?_
        refine XB.icmp (P := a4 ≤ ((m3.2.1 37 (a1).toNatClampNeg) + (1 : Int32))) rfl rfl rfl (fun c150 => ?_) (fun c150 => ?_)
        · refine XB.go 3 (pc' := 163) (ls' := [some (.ref 32), some (.int a1), some (.int a2), some (.int a3), some (.int a4), some (.int a5), none]) (st' := [(.int a1), (.ref 37)]) (μ' := (m3.1, (xuI (xuI m3.2.1 38 (a1).toNatClampNeg (0 : Int32)) 42 (a1).toNatClampNeg (1 : Int32)), m3.2.2)) rfl ?_
          refine XB.gd (pc' := 164) (ls' := [some (.ref 32), some (.int a1), some (.int a2), some (.int a3), some (.int a4), some (.int a5), none]) (st' := [(.int (m3.2.1 37 (a1).toNatClampNeg))]) (μ' := (m3.1, (xuI (xuI m3.2.1 38 (a1).toNatClampNeg (0 : Int32)) 42 (a1).toNatClampNeg (1 : Int32)), m3.2.2)) rfl rfl rfl (fun hb => xbT hb) ?_
          refine XB.go 2 (pc' := 166) (ls' := [some (.ref 32), some (.int a1), some (.int a2), some (.int a3), some (.int a4), some (.int a5), none]) (st' := [(.int ((m3.2.1 37 (a1).toNatClampNeg) + (1 : Int32)))]) (μ' := (m3.1, (xuI (xuI m3.2.1 38 (a1).toNatClampNeg (0 : Int32)) 42 (a1).toNatClampNeg (1 : Int32)), m3.2.2)) rfl ?_
          exact yM_appended_b166_ok  (some a2) (some a3) (some a4) (some a5) (none) a1 ((m3.2.1 37 (a1).toNatClampNeg) + (1 : Int32)) (m3.1, (xuI (xuI m3.2.1 38 (a1).toNatClampNeg (0 : Int32)) 42 (a1).toNatClampNeg (1 : Int32)), m3.2.2)
        · refine XB.go 2 (pc' := 166) (ls' := [some (.ref 32), some (.int a1), some (.int a2), some (.int a3), some (.int a4), some (.int a5), none]) (st' := [(.int a4)]) (μ' := (m3.1, (xuI (xuI m3.2.1 38 (a1).toNatClampNeg (0 : Int32)) 42 (a1).toNatClampNeg (1 : Int32)), m3.2.2)) rfl ?_
          exact yM_appended_b166_ok  (some a2) (some a3) (some a4) (some a5) (none) a1 a4 (m3.1, (xuI (xuI m3.2.1 38 (a1).toNatClampNeg (0 : Int32)) 42 (a1).toNatClampNeg (1 : Int32)), m3.2.2)
      · refine XB.go 3 (pc' := 41) (ls' := [some (.ref 32), some (.int a1), some (.int a2), some (.int a3), some (.int a4), some (.int a5), none]) (st' := [(.int (m3.2.1 32 10)), (.int a4)]) (μ' := m3) rfl ?_
        refine XB.icmp (P := (m3.2.1 32 10) ≤ a4) rfl rfl rfl (fun c41 => ?_) (fun c41 => ?_)
        · refine XB.go 2 (pc' := 53) (ls' := [some (.ref 32), some (.int a1), some (.int a2), some (.int a3), some (.int a4), some (.int a5), none]) (st' := [(.int (m3.2.1 32 10))]) (μ' := m3) rfl ?_
          exact yM_appended_b53_ok  (some a2) (some a3) (some a4) (some a5) (none) a1 (m3.2.1 32 10) m3
        · refine XB.go 2 (pc' := 53) (ls' := [some (.ref 32), some (.int a1), some (.int a2), some (.int a3), some (.int a4), some (.int a5), none]) (st' := [(.int a4)]) (μ' := m3) rfl ?_
          exact yM_appended_b53_ok  (some a2) (some a3) (some a4) (some a5) (none) a1 a4 m3
    · exact XB.fin rfl
/-- LogServerModel.describe(IIII)V -/
def yM_describe (a1 : Int32) (a2 : Int32) (a3 : Int32) (a4 : Int32) (μ : XMu) : XRes := (if (yM_within a1 (1 : Int32) (1000000 : Int32)) = (0 : Int32) then some (.inl none, (μ.1, (xuI (xuI μ.2.1 32 0 (0 : Int32)) 32 0 (1 : Int32)), μ.2.2)) else (if (yM_isNumber a2) = (0 : Int32) then some (.inl none, (μ.1, (xuI (xuI μ.2.1 32 0 (0 : Int32)) 32 0 (1 : Int32)), μ.2.2)) else (if (yM_isCode a3) = (0 : Int32) then some (.inl none, (μ.1, (xuI (xuI μ.2.1 32 0 (0 : Int32)) 32 0 (1 : Int32)), μ.2.2)) else (if ¬ (yM_within a4 (1 : Int32) (1000000 : Int32)) = (0 : Int32) then some (.inl none, (μ.1, (xuI (xuI (xuI (xuI (xuI (xuI μ.2.1 32 0 (0 : Int32)) 32 37 (1 : Int32)) 32 38 a1) 32 39 a2) 32 40 a3) 32 41 a4), μ.2.2)) else some (.inl none, (μ.1, (xuI (xuI μ.2.1 32 0 (0 : Int32)) 32 0 (1 : Int32)), μ.2.2))))))
theorem yM_describe_ok {L : Nat} {xs : Nat → Int32} (a1 : Int32) (a2 : Int32) (a3 : Int32) (a4 : Int32) (μ : XMu) : XB L xs 214 0 [some (.ref 32), some (.int a1), some (.int a2), some (.int a3), some (.int a4)] [] μ (yM_describe a1 a2 a3 a4 μ) := by
  unfold yM_describe
  refine XB.go 6 (pc' := 9) (ls' := [some (.ref 32), some (.int a1), some (.int a2), some (.int a3), some (.int a4)]) (st' := [(.int (1000000 : Int32)), (.int (1 : Int32)), (.int a1)]) (μ' := (μ.1, (xuI μ.2.1 32 0 (0 : Int32)), μ.2.2)) rfl ?_
  refine XB.cp rfl rfl rfl (yM_within_ok a1 (1 : Int32) (1000000 : Int32) (μ.1, (xuI μ.2.1 32 0 (0 : Int32)), μ.2.2)) ?_
  refine XB.ifz (P := (yM_within a1 (1 : Int32) (1000000 : Int32)) = (0 : Int32)) rfl rfl rfl (fun c12 => ?_) (fun c12 => ?_)
  · refine XB.go 3 (pc' := 45) (ls' := [some (.ref 32), some (.int a1), some (.int a2), some (.int a3), some (.int a4)]) (st' := []) (μ' := (μ.1, (xuI (xuI μ.2.1 32 0 (0 : Int32)) 32 0 (1 : Int32)), μ.2.2)) rfl ?_
    exact XB.fin rfl
  · refine XB.go 1 (pc' := 16) (ls' := [some (.ref 32), some (.int a1), some (.int a2), some (.int a3), some (.int a4)]) (st' := [(.int a2)]) (μ' := (μ.1, (xuI μ.2.1 32 0 (0 : Int32)), μ.2.2)) rfl ?_
    refine XB.cp rfl rfl rfl (yM_isNumber_ok a2 (μ.1, (xuI μ.2.1 32 0 (0 : Int32)), μ.2.2)) ?_
    refine XB.ifz (P := (yM_isNumber a2) = (0 : Int32)) rfl rfl rfl (fun c19 => ?_) (fun c19 => ?_)
    · refine XB.go 3 (pc' := 45) (ls' := [some (.ref 32), some (.int a1), some (.int a2), some (.int a3), some (.int a4)]) (st' := []) (μ' := (μ.1, (xuI (xuI μ.2.1 32 0 (0 : Int32)) 32 0 (1 : Int32)), μ.2.2)) rfl ?_
      exact XB.fin rfl
    · refine XB.go 1 (pc' := 23) (ls' := [some (.ref 32), some (.int a1), some (.int a2), some (.int a3), some (.int a4)]) (st' := [(.int a3)]) (μ' := (μ.1, (xuI μ.2.1 32 0 (0 : Int32)), μ.2.2)) rfl ?_
      refine XB.cp rfl rfl rfl (yM_isCode_ok a3 (μ.1, (xuI μ.2.1 32 0 (0 : Int32)), μ.2.2)) ?_
      refine XB.ifz (P := (yM_isCode a3) = (0 : Int32)) rfl rfl rfl (fun c26 => ?_) (fun c26 => ?_)
      · refine XB.go 3 (pc' := 45) (ls' := [some (.ref 32), some (.int a1), some (.int a2), some (.int a3), some (.int a4)]) (st' := []) (μ' := (μ.1, (xuI (xuI μ.2.1 32 0 (0 : Int32)) 32 0 (1 : Int32)), μ.2.2)) rfl ?_
        exact XB.fin rfl
      · refine XB.go 3 (pc' := 34) (ls' := [some (.ref 32), some (.int a1), some (.int a2), some (.int a3), some (.int a4)]) (st' := [(.int (1000000 : Int32)), (.int (1 : Int32)), (.int a4)]) (μ' := (μ.1, (xuI μ.2.1 32 0 (0 : Int32)), μ.2.2)) rfl ?_
        refine XB.cp rfl rfl rfl (yM_within_ok a4 (1 : Int32) (1000000 : Int32) (μ.1, (xuI μ.2.1 32 0 (0 : Int32)), μ.2.2)) ?_
        refine XB.ifz (P := ¬ (yM_within a4 (1 : Int32) (1000000 : Int32)) = (0 : Int32)) rfl rfl rfl (fun c37 => ?_) (fun c37 => ?_)
        · refine XB.go 15 (pc' := 72) (ls' := [some (.ref 32), some (.int a1), some (.int a2), some (.int a3), some (.int a4)]) (st' := []) (μ' := (μ.1, (xuI (xuI (xuI (xuI (xuI (xuI μ.2.1 32 0 (0 : Int32)) 32 37 (1 : Int32)) 32 38 a1) 32 39 a2) 32 40 a3) 32 41 a4), μ.2.2)) rfl ?_
          exact XB.fin rfl
        · refine XB.go 3 (pc' := 45) (ls' := [some (.ref 32), some (.int a1), some (.int a2), some (.int a3), some (.int a4)]) (st' := []) (μ' := (μ.1, (xuI (xuI μ.2.1 32 0 (0 : Int32)) 32 0 (1 : Int32)), μ.2.2)) rfl ?_
          exact XB.fin rfl
/-- LogServerModel.adopt()V -/
def yM_adopt_b81   (μ : XMu) : XRes := some (.inl none, (μ.1, (xuI (xuI (xuI (xuI (xuI (xuI (xuI (xuI (xuI μ.2.1 32 9 (μ.2.1 32 38)) 32 11 (μ.2.1 32 39)) 32 12 (μ.2.1 32 40)) 32 13 (μ.2.1 32 41)) 32 17 (μ.2.1 32 38)) 32 18 (μ.2.1 32 38)) 32 14 (1 : Int32)) 32 35 (-1 : Int32)) 32 36 (0 : Int32)), μ.2.2))
theorem yM_adopt_b81_ok {L : Nat} {xs : Nat → Int32}  (d1 : Option Int32)  (μ : XMu) : XB L xs 215 81 [some (.ref 32), (xdl d1)] [] μ (yM_adopt_b81   μ) := by
  unfold yM_adopt_b81
  refine XB.go 33 (pc' := 144) (ls' := [some (.ref 32), (xdl d1)]) (st' := []) (μ' := (μ.1, (xuI (xuI (xuI (xuI (xuI (xuI (xuI (xuI (xuI μ.2.1 32 9 (μ.2.1 32 38)) 32 11 (μ.2.1 32 39)) 32 12 (μ.2.1 32 40)) 32 13 (μ.2.1 32 41)) 32 17 (μ.2.1 32 38)) 32 18 (μ.2.1 32 38)) 32 14 (1 : Int32)) 32 35 (-1 : Int32)) 32 36 (0 : Int32)), μ.2.2)) rfl ?_
  exact XB.fin rfl
def yM_adopt_b59  (s1 : Int32) (μ : XMu) : XRes := (if (μ.2.1 32 19) ≤ s1 then yM_adopt_b81  (μ.1, (xuI μ.2.1 32 10 s1), μ.2.2) else yM_adopt_b81  (μ.1, (xuI (xuI μ.2.1 32 10 s1) 32 19 s1), μ.2.2))
theorem yM_adopt_b59_ok {L : Nat} {xs : Nat → Int32}  (d1 : Option Int32) (s1 : Int32) (μ : XMu) : XB L xs 215 59 [some (.ref 32), (xdl d1)] [(.int s1), (.ref 32)] μ (yM_adopt_b59  s1 μ) := by
  unfold yM_adopt_b59
  refine XB.go 5 (pc' := 70) (ls' := [some (.ref 32), (xdl d1)]) (st' := [(.int s1), (.int (μ.2.1 32 19))]) (μ' := (μ.1, (xuI μ.2.1 32 10 s1), μ.2.2)) rfl ?_
  refine XB.icmp (P := (μ.2.1 32 19) ≤ s1) rfl rfl rfl (fun c70 => ?_) (fun c70 => ?_)
  · exact yM_adopt_b81_ok  (d1) (μ.1, (xuI μ.2.1 32 10 s1), μ.2.2)
  · refine XB.go 4 (pc' := 81) (ls' := [some (.ref 32), (xdl d1)]) (st' := []) (μ' := (μ.1, (xuI (xuI μ.2.1 32 10 s1) 32 19 s1), μ.2.2)) rfl ?_
    exact yM_adopt_b81_ok  (d1) (μ.1, (xuI (xuI μ.2.1 32 10 s1) 32 19 s1), μ.2.2)
def yM_adopt_b42  (s0 : Int32) (μ : XMu) : XRes := (if s0 = (0 : Int32) then yM_adopt_b59  (μ.2.1 32 38) μ else yM_adopt_b59  (μ.2.1 32 10) μ)
theorem yM_adopt_b42_ok {L : Nat} {xs : Nat → Int32}  (d1 : Option Int32) (s0 : Int32) (μ : XMu) : XB L xs 215 42 [some (.ref 32), (xdl d1)] [(.int s0)] μ (yM_adopt_b42  s0 μ) := by
  unfold yM_adopt_b42
  refine XB.go 3 (pc' := 45) (ls' := [some (.ref 32), some (.int s0)]) (st' := [(.int s0), (.ref 32)]) (μ' := μ) rfl ?_
  refine XB.ifz (P := s0 = (0 : Int32)) rfl rfl rfl (fun c45 => ?_) (fun c45 => ?_)
  · refine XB.go 2 (pc' := 59) (ls' := [some (.ref 32), some (.int s0)]) (st' := [(.int (μ.2.1 32 38)), (.ref 32)]) (μ' := μ) rfl ?_
    exact yM_adopt_b59_ok  (some s0) (μ.2.1 32 38) μ
  · refine XB.go 3 (pc' := 59) (ls' := [some (.ref 32), some (.int s0)]) (st' := [(.int (μ.2.1 32 10)), (.ref 32)]) (μ' := μ) rfl ?_
    exact yM_adopt_b59_ok  (some s0) (μ.2.1 32 10) μ
def yM_adopt_b41   (μ : XMu) : XRes := yM_adopt_b42  (0 : Int32) μ
theorem yM_adopt_b41_ok {L : Nat} {xs : Nat → Int32}  (d1 : Option Int32)  (μ : XMu) : XB L xs 215 41 [some (.ref 32), (xdl d1)] [] μ (yM_adopt_b41   μ) := by
  unfold yM_adopt_b41
  refine XB.go 1 (pc' := 42) (ls' := [some (.ref 32), (xdl d1)]) (st' := [(.int (0 : Int32))]) (μ' := μ) rfl ?_
  exact yM_adopt_b42_ok  (d1) (0 : Int32) μ
def yM_adopt  (μ : XMu) : XRes := (if (μ.2.1 32 10) < (μ.2.1 32 38) then yM_adopt_b41  μ else (if (μ.2.1 32 38) < (μ.2.1 32 9) then yM_adopt_b41  μ else xbi (yM_termAt (μ.2.1 32 38) μ) (fun r2 m1 => (if ¬ r2 = (m1.2.1 32 39) then yM_adopt_b41  m1 else yM_adopt_b42  (1 : Int32) m1))))
theorem yM_adopt_ok {L : Nat} {xs : Nat → Int32}  (μ : XMu) : XB L xs 215 0 [some (.ref 32), none] [] μ (yM_adopt  μ) := by
  unfold yM_adopt
  refine XB.go 4 (pc' := 8) (ls' := [some (.ref 32), none]) (st' := [(.int (μ.2.1 32 10)), (.int (μ.2.1 32 38))]) (μ' := μ) rfl ?_
  refine XB.icmp (P := (μ.2.1 32 10) < (μ.2.1 32 38)) rfl rfl rfl (fun c8 => ?_) (fun c8 => ?_)
  · exact yM_adopt_b41_ok  (none) μ
  · refine XB.go 4 (pc' := 19) (ls' := [some (.ref 32), none]) (st' := [(.int (μ.2.1 32 9)), (.int (μ.2.1 32 38))]) (μ' := μ) rfl ?_
    refine XB.icmp (P := (μ.2.1 32 38) < (μ.2.1 32 9)) rfl rfl rfl (fun c19 => ?_) (fun c19 => ?_)
    · exact yM_adopt_b41_ok  (none) μ
    · refine XB.go 3 (pc' := 27) (ls' := [some (.ref 32), none]) (st' := [(.int (μ.2.1 32 38)), (.ref 32)]) (μ' := μ) rfl ?_
      refine XB.ci rfl rfl rfl rfl rfl (yM_termAt_ok (μ.2.1 32 38) μ) (fun r2 m1 => ?_)
      refine XB.go 2 (pc' := 34) (ls' := [some (.ref 32), none]) (st' := [(.int (m1.2.1 32 39)), (.int r2)]) (μ' := m1) rfl ?_
      refine XB.icmp (P := ¬ r2 = (m1.2.1 32 39)) rfl rfl rfl (fun c34 => ?_) (fun c34 => ?_)
      · exact yM_adopt_b41_ok  (none) m1
      · refine XB.go 2 (pc' := 42) (ls' := [some (.ref 32), none]) (st' := [(.int (1 : Int32))]) (μ' := m1) rfl ?_
        exact yM_adopt_b42_ok  (none) (1 : Int32) m1
/-- LogServerModel.piece(IIIII)V -/
def yM_piece_b155  (x1 : Int32) (x3 : Int32) (x4 : Int32) (x5 : Int32) (s0 : Int32) (μ : XMu) : XRes := (if ¬ (μ.2.1 32 35) = (μ.2.1 32 38) then xbv (yM_reply x1 (8 : Int32) (μ.2.1 32 38) s0 x5 μ) (fun m5 => some (.inl none, m5)) else (if ¬ x3 = s0 then xbv (yM_reply x1 (8 : Int32) (μ.2.1 32 38) s0 x5 μ) (fun m6 => some (.inl none, m6)) else (if (s0 + x4) < (μ.2.1 32 41) then xbv (yM_reply x1 (8 : Int32) (μ.2.1 32 38) (s0 + x4) x5 (μ.1, (xuI μ.2.1 32 36 (s0 + x4)), μ.2.2)) (fun m7 => some (.inl none, m7)) else xbv (yM_adopt (μ.1, (xuI μ.2.1 32 36 (s0 + x4)), μ.2.2)) (fun m8 => xbv (yM_reply x1 (8 : Int32) (m8.2.1 32 38) (s0 + x4) x5 m8) (fun m9 => some (.inl none, m9))))))
theorem yM_piece_b155_ok {L : Nat} {xs : Nat → Int32}  (d2 : Option Int32) (d6 : Option Int32) (d7 : Option Int32) (x1 : Int32) (x3 : Int32) (x4 : Int32) (x5 : Int32) (s0 : Int32) (μ : XMu) : XB L xs 216 155 [some (.ref 32), some (.int x1), (xdl d2), some (.int x3), some (.int x4), some (.int x5), (xdl d6), (xdl d7)] [(.int s0)] μ (yM_piece_b155  x1 x3 x4 x5 s0 μ) := by
  unfold yM_piece_b155
  refine XB.go 5 (pc' := 165) (ls' := [some (.ref 32), some (.int x1), (xdl d2), some (.int x3), some (.int x4), some (.int x5), (xdl d6), some (.int s0)]) (st' := [(.int (μ.2.1 32 38)), (.int (μ.2.1 32 35))]) (μ' := μ) (by cases d6 <;> rfl) ?_
  refine XB.icmp (P := ¬ (μ.2.1 32 35) = (μ.2.1 32 38)) rfl rfl rfl (fun c165 => ?_) (fun c165 => ?_)
  · refine XB.go 7 (pc' := 212) (ls' := [some (.ref 32), some (.int x1), (xdl d2), some (.int x3), some (.int x4), some (.int x5), (xdl d6), some (.int s0)]) (st' := [(.int x5), (.int s0), (.int (μ.2.1 32 38)), (.int (8 : Int32)), (.int x1), (.ref 32)]) (μ' := μ) rfl ?_
    refine XB.cv rfl rfl rfl rfl rfl (yM_reply_ok x1 (8 : Int32) (μ.2.1 32 38) s0 x5 μ) (fun m5 => ?_)
    exact XB.fin rfl
  · refine XB.go 2 (pc' := 171) (ls' := [some (.ref 32), some (.int x1), (xdl d2), some (.int x3), some (.int x4), some (.int x5), (xdl d6), some (.int s0)]) (st' := [(.int s0), (.int x3)]) (μ' := μ) rfl ?_
    refine XB.icmp (P := ¬ x3 = s0) rfl rfl rfl (fun c171 => ?_) (fun c171 => ?_)
    · refine XB.go 7 (pc' := 212) (ls' := [some (.ref 32), some (.int x1), (xdl d2), some (.int x3), some (.int x4), some (.int x5), (xdl d6), some (.int s0)]) (st' := [(.int x5), (.int s0), (.int (μ.2.1 32 38)), (.int (8 : Int32)), (.int x1), (.ref 32)]) (μ' := μ) rfl ?_
      refine XB.cv rfl rfl rfl rfl rfl (yM_reply_ok x1 (8 : Int32) (μ.2.1 32 38) s0 x5 μ) (fun m6 => ?_)
      exact XB.fin rfl
    · refine XB.go 10 (pc' := 193) (ls' := [some (.ref 32), some (.int x1), (xdl d2), some (.int x3), some (.int x4), some (.int x5), (xdl d6), some (.int (s0 + x4))]) (st' := [(.int (μ.2.1 32 41)), (.int (s0 + x4))]) (μ' := (μ.1, (xuI μ.2.1 32 36 (s0 + x4)), μ.2.2)) (by cases d6 <;> rfl) ?_
      refine XB.icmp (P := (s0 + x4) < (μ.2.1 32 41)) rfl rfl rfl (fun c193 => ?_) (fun c193 => ?_)
      · refine XB.go 7 (pc' := 212) (ls' := [some (.ref 32), some (.int x1), (xdl d2), some (.int x3), some (.int x4), some (.int x5), (xdl d6), some (.int (s0 + x4))]) (st' := [(.int x5), (.int (s0 + x4)), (.int (μ.2.1 32 38)), (.int (8 : Int32)), (.int x1), (.ref 32)]) (μ' := (μ.1, (xuI μ.2.1 32 36 (s0 + x4)), μ.2.2)) rfl ?_
        refine XB.cv rfl rfl rfl rfl rfl (yM_reply_ok x1 (8 : Int32) (μ.2.1 32 38) (s0 + x4) x5 (μ.1, (xuI μ.2.1 32 36 (s0 + x4)), μ.2.2)) (fun m7 => ?_)
        exact XB.fin rfl
      · refine XB.go 1 (pc' := 197) (ls' := [some (.ref 32), some (.int x1), (xdl d2), some (.int x3), some (.int x4), some (.int x5), (xdl d6), some (.int (s0 + x4))]) (st' := [(.ref 32)]) (μ' := (μ.1, (xuI μ.2.1 32 36 (s0 + x4)), μ.2.2)) rfl ?_
        refine XB.cv rfl rfl rfl rfl rfl (yM_adopt_ok (μ.1, (xuI μ.2.1 32 36 (s0 + x4)), μ.2.2)) (fun m8 => ?_)
        refine XB.go 7 (pc' := 212) (ls' := [some (.ref 32), some (.int x1), (xdl d2), some (.int x3), some (.int x4), some (.int x5), (xdl d6), some (.int (s0 + x4))]) (st' := [(.int x5), (.int (s0 + x4)), (.int (m8.2.1 32 38)), (.int (8 : Int32)), (.int x1), (.ref 32)]) (μ' := m8) rfl ?_
        refine XB.cv rfl rfl rfl rfl rfl (yM_reply_ok x1 (8 : Int32) (m8.2.1 32 38) (s0 + x4) x5 m8) (fun m9 => ?_)
        exact XB.fin rfl
def yM_piece_b136  (x1 : Int32) (x3 : Int32) (x4 : Int32) (x5 : Int32) (μ : XMu) : XRes := (if ¬ (μ.2.1 32 35) = (μ.2.1 32 38) then yM_piece_b155  x1 x3 x4 x5 (0 : Int32) μ else yM_piece_b155  x1 x3 x4 x5 (μ.2.1 32 36) μ)
theorem yM_piece_b136_ok {L : Nat} {xs : Nat → Int32}  (d2 : Option Int32) (d6 : Option Int32) (d7 : Option Int32) (x1 : Int32) (x3 : Int32) (x4 : Int32) (x5 : Int32) (μ : XMu) : XB L xs 216 136 [some (.ref 32), some (.int x1), (xdl d2), some (.int x3), some (.int x4), some (.int x5), (xdl d6), (xdl d7)] [] μ (yM_piece_b136  x1 x3 x4 x5 μ) := by
  unfold yM_piece_b136
  refine XB.go 4 (pc' := 144) (ls' := [some (.ref 32), some (.int x1), (xdl d2), some (.int x3), some (.int x4), some (.int x5), (xdl d6), (xdl d7)]) (st' := [(.int (μ.2.1 32 38)), (.int (μ.2.1 32 35))]) (μ' := μ) rfl ?_
  refine XB.icmp (P := ¬ (μ.2.1 32 35) = (μ.2.1 32 38)) rfl rfl rfl (fun c144 => ?_) (fun c144 => ?_)
  · refine XB.go 1 (pc' := 155) (ls' := [some (.ref 32), some (.int x1), (xdl d2), some (.int x3), some (.int x4), some (.int x5), (xdl d6), (xdl d7)]) (st' := [(.int (0 : Int32))]) (μ' := μ) rfl ?_
    exact yM_piece_b155_ok  (d2) (d6) (d7) x1 x3 x4 x5 (0 : Int32) μ
  · refine XB.go 3 (pc' := 155) (ls' := [some (.ref 32), some (.int x1), (xdl d2), some (.int x3), some (.int x4), some (.int x5), (xdl d6), (xdl d7)]) (st' := [(.int (μ.2.1 32 36))]) (μ' := μ) rfl ?_
    exact yM_piece_b155_ok  (d2) (d6) (d7) x1 x3 x4 x5 (μ.2.1 32 36) μ
def yM_piece (a1 : Int32) (a2 : Int32) (a3 : Int32) (a4 : Int32) (a5 : Int32) (μ : XMu) : XRes := xbi (yM_bad a1 a2 a3 a5 (0 : Int32) (μ.1, (xuI (xuI μ.2.1 32 0 (0 : Int32)) 32 37 (0 : Int32)), μ.2.2)) (fun r2 m1 => (if r2 = (0 : Int32) then (if (μ.2.1 32 37) = (0 : Int32) then some (.inl none, (m1.1, (xuI m1.2.1 32 0 (2 : Int32)), m1.2.2)) else (if a2 < (m1.2.1 32 39) then some (.inl none, (m1.1, (xuI m1.2.1 32 0 (2 : Int32)), m1.2.2)) else (if (yM_within a4 (0 : Int32) (200 : Int32)) = (0 : Int32) then some (.inl none, (m1.1, (xuI m1.2.1 32 0 (2 : Int32)), m1.2.2)) else (if (a3 + a4) ≤ (m1.2.1 32 41) then xbi (yM_followed a1 a2 (8 : Int32) (m1.2.1 32 38) a5 m1) (fun r4 m3 => (if ¬ r4 = (0 : Int32) then (if (m3.2.1 32 17) < (m3.2.1 32 38) then (if ¬ a3 = (0 : Int32) then yM_piece_b136  a1 a3 a4 a5 m3 else yM_piece_b136  a1 a3 a4 a5 (m3.1, (xuI (xuI m3.2.1 32 35 (m3.2.1 32 38)) 32 36 (0 : Int32)), m3.2.2)) else xbv (yM_reply a1 (8 : Int32) (m3.2.1 32 38) (m3.2.1 32 41) a5 m3) (fun m10 => some (.inl none, m10))) else some (.inl none, m3))) else some (.inl none, (m1.1, (xuI m1.2.1 32 0 (2 : Int32)), m1.2.2)))))) else some (.inl none, m1)))
theorem yM_piece_ok {L : Nat} {xs : Nat → Int32} (a1 : Int32) (a2 : Int32) (a3 : Int32) (a4 : Int32) (a5 : Int32) (μ : XMu) : XB L xs 216 0 [some (.ref 32), some (.int a1), some (.int a2), some (.int a3), some (.int a4), some (.int a5), none, none] [] μ (yM_piece a1 a2 a3 a4 a5 μ) := by
  unfold yM_piece
  refine XB.go 15 (pc' := 23) (ls' := [some (.ref 32), some (.int a1), some (.int a2), some (.int a3), some (.int a4), some (.int a5), some (.int (μ.2.1 32 37)), none]) (st' := [(.int (0 : Int32)), (.int a5), (.int a3), (.int a2), (.int a1), (.ref 32)]) (μ' := (μ.1, (xuI (xuI μ.2.1 32 0 (0 : Int32)) 32 37 (0 : Int32)), μ.2.2)) rfl ?_
  refine XB.ci rfl rfl rfl rfl rfl (yM_bad_ok a1 a2 a3 a5 (0 : Int32) (μ.1, (xuI (xuI μ.2.1 32 0 (0 : Int32)) 32 37 (0 : Int32)), μ.2.2)) (fun r2 m1 => ?_)
  refine XB.ifz (P := r2 = (0 : Int32)) rfl rfl rfl (fun c26 => ?_) (fun c26 => ?_)
  · refine XB.go 1 (pc' := 32) (ls' := [some (.ref 32), some (.int a1), some (.int a2), some (.int a3), some (.int a4), some (.int a5), some (.int (μ.2.1 32 37)), none]) (st' := [(.int (μ.2.1 32 37))]) (μ' := m1) rfl ?_
    refine XB.ifz (P := (μ.2.1 32 37) = (0 : Int32)) rfl rfl rfl (fun c32 => ?_) (fun c32 => ?_)
    · refine XB.go 3 (pc' := 71) (ls' := [some (.ref 32), some (.int a1), some (.int a2), some (.int a3), some (.int a4), some (.int a5), some (.int (μ.2.1 32 37)), none]) (st' := []) (μ' := (m1.1, (xuI m1.2.1 32 0 (2 : Int32)), m1.2.2)) rfl ?_
      exact XB.fin rfl
    · refine XB.go 3 (pc' := 40) (ls' := [some (.ref 32), some (.int a1), some (.int a2), some (.int a3), some (.int a4), some (.int a5), some (.int (μ.2.1 32 37)), none]) (st' := [(.int a2), (.int (m1.2.1 32 39))]) (μ' := m1) rfl ?_
      refine XB.icmp (P := a2 < (m1.2.1 32 39)) rfl rfl rfl (fun c40 => ?_) (fun c40 => ?_)
      · refine XB.go 3 (pc' := 71) (ls' := [some (.ref 32), some (.int a1), some (.int a2), some (.int a3), some (.int a4), some (.int a5), some (.int (μ.2.1 32 37)), none]) (st' := []) (μ' := (m1.1, (xuI m1.2.1 32 0 (2 : Int32)), m1.2.2)) rfl ?_
        exact XB.fin rfl
      · refine XB.go 3 (pc' := 49) (ls' := [some (.ref 32), some (.int a1), some (.int a2), some (.int a3), some (.int a4), some (.int a5), some (.int (μ.2.1 32 37)), none]) (st' := [(.int (200 : Int32)), (.int (0 : Int32)), (.int a4)]) (μ' := m1) rfl ?_
        refine XB.cp rfl rfl rfl (yM_within_ok a4 (0 : Int32) (200 : Int32) m1) ?_
        refine XB.ifz (P := (yM_within a4 (0 : Int32) (200 : Int32)) = (0 : Int32)) rfl rfl rfl (fun c52 => ?_) (fun c52 => ?_)
        · refine XB.go 3 (pc' := 71) (ls' := [some (.ref 32), some (.int a1), some (.int a2), some (.int a3), some (.int a4), some (.int a5), some (.int (μ.2.1 32 37)), none]) (st' := []) (μ' := (m1.1, (xuI m1.2.1 32 0 (2 : Int32)), m1.2.2)) rfl ?_
          exact XB.fin rfl
        · refine XB.go 5 (pc' := 63) (ls' := [some (.ref 32), some (.int a1), some (.int a2), some (.int a3), some (.int a4), some (.int a5), some (.int (μ.2.1 32 37)), none]) (st' := [(.int (m1.2.1 32 41)), (.int (a3 + a4))]) (μ' := m1) rfl ?_
          refine XB.icmp (P := (a3 + a4) ≤ (m1.2.1 32 41)) rfl rfl rfl (fun c63 => ?_) (fun c63 => ?_)
          · refine XB.go 7 (pc' := 83) (ls' := [some (.ref 32), some (.int a1), some (.int a2), some (.int a3), some (.int a4), some (.int a5), some (.int (μ.2.1 32 37)), none]) (st' := [(.int a5), (.int (m1.2.1 32 38)), (.int (8 : Int32)), (.int a2), (.int a1), (.ref 32)]) (μ' := m1) rfl ?_
            refine XB.ci rfl rfl rfl rfl rfl (yM_followed_ok a1 a2 (8 : Int32) (m1.2.1 32 38) a5 m1) (fun r4 m3 => ?_)
            refine XB.ifz (P := ¬ r4 = (0 : Int32)) rfl rfl rfl (fun c86 => ?_) (fun c86 => ?_)
            · refine XB.go 4 (pc' := 98) (ls' := [some (.ref 32), some (.int a1), some (.int a2), some (.int a3), some (.int a4), some (.int a5), some (.int (μ.2.1 32 37)), none]) (st' := [(.int (m3.2.1 32 17)), (.int (m3.2.1 32 38))]) (μ' := m3) rfl ?_
              refine XB.icmp (P := (m3.2.1 32 17) < (m3.2.1 32 38)) rfl rfl rfl (fun c98 => ?_) (fun c98 => ?_)
              · refine XB.go 1 (pc' := 120) (ls' := [some (.ref 32), some (.int a1), some (.int a2), some (.int a3), some (.int a4), some (.int a5), some (.int (μ.2.1 32 37)), none]) (st' := [(.int a3)]) (μ' := m3) rfl ?_
                refine XB.ifz (P := ¬ a3 = (0 : Int32)) rfl rfl rfl (fun c120 => ?_) (fun c120 => ?_)
                · exact yM_piece_b136_ok  (some a2) (some (μ.2.1 32 37)) (none) a1 a3 a4 a5 m3
                · refine XB.go 7 (pc' := 136) (ls' := [some (.ref 32), some (.int a1), some (.int a2), some (.int a3), some (.int a4), some (.int a5), some (.int (μ.2.1 32 37)), none]) (st' := []) (μ' := (m3.1, (xuI (xuI m3.2.1 32 35 (m3.2.1 32 38)) 32 36 (0 : Int32)), m3.2.2)) rfl ?_
                  exact yM_piece_b136_ok  (some a2) (some (μ.2.1 32 37)) (none) a1 a3 a4 a5 (m3.1, (xuI (xuI m3.2.1 32 35 (m3.2.1 32 38)) 32 36 (0 : Int32)), m3.2.2)
              · refine XB.go 8 (pc' := 115) (ls' := [some (.ref 32), some (.int a1), some (.int a2), some (.int a3), some (.int a4), some (.int a5), some (.int (μ.2.1 32 37)), none]) (st' := [(.int a5), (.int (m3.2.1 32 41)), (.int (m3.2.1 32 38)), (.int (8 : Int32)), (.int a1), (.ref 32)]) (μ' := m3) rfl ?_
                refine XB.cv rfl rfl rfl rfl rfl (yM_reply_ok a1 (8 : Int32) (m3.2.1 32 38) (m3.2.1 32 41) a5 m3) (fun m10 => ?_)
                exact XB.fin rfl
            · exact XB.fin rfl
          · refine XB.go 3 (pc' := 71) (ls' := [some (.ref 32), some (.int a1), some (.int a2), some (.int a3), some (.int a4), some (.int a5), some (.int (μ.2.1 32 37)), none]) (st' := []) (μ' := (m1.1, (xuI m1.2.1 32 0 (2 : Int32)), m1.2.2)) rfl ?_
            exact XB.fin rfl
  · exact XB.fin rfl
/-- LogServerModel.stored(IIIII)V -/
def yM_stored_b99  (x1 : Int32) (μ : XMu) : XRes := xgd (xin x1 7) (xgd (xin x1 7) (xgd (xin x1 7) (xbv (yM_goOn x1 (μ.1, (xuI (xuI (xuI μ.2.1 36 (x1).toNatClampNeg ((μ.2.1 32 9) + (1 : Int32))) 42 (x1).toNatClampNeg (1 : Int32)) 39 (x1).toNatClampNeg (0 : Int32)), μ.2.2)) (fun m5 => some (.inl none, m5)))))
theorem yM_stored_b99_ok {L : Nat} {xs : Nat → Int32}  (d2 : Option Int32) (d3 : Option Int32) (d4 : Option Int32) (d5 : Option Int32) (x1 : Int32) (μ : XMu) : XB L xs 217 99 [some (.ref 32), some (.int x1), (xdl d2), (xdl d3), (xdl d4), (xdl d5)] [] μ (yM_stored_b99  x1 μ) := by
  unfold yM_stored_b99
  refine XB.go 7 (pc' := 110) (ls' := [some (.ref 32), some (.int x1), (xdl d2), (xdl d3), (xdl d4), (xdl d5)]) (st' := [(.int ((μ.2.1 32 9) + (1 : Int32))), (.int x1), (.ref 36)]) (μ' := μ) rfl ?_
  refine XB.gd (pc' := 111) (ls' := [some (.ref 32), some (.int x1), (xdl d2), (xdl d3), (xdl d4), (xdl d5)]) (st' := []) (μ' := (μ.1, (xuI μ.2.1 36 (x1).toNatClampNeg ((μ.2.1 32 9) + (1 : Int32))), μ.2.2)) rfl rfl rfl (fun hb => xbT hb) ?_
  refine XB.go 4 (pc' := 117) (ls' := [some (.ref 32), some (.int x1), (xdl d2), (xdl d3), (xdl d4), (xdl d5)]) (st' := [(.int (1 : Int32)), (.int x1), (.ref 42)]) (μ' := (μ.1, (xuI μ.2.1 36 (x1).toNatClampNeg ((μ.2.1 32 9) + (1 : Int32))), μ.2.2)) rfl ?_
  refine XB.gd (pc' := 118) (ls' := [some (.ref 32), some (.int x1), (xdl d2), (xdl d3), (xdl d4), (xdl d5)]) (st' := []) (μ' := (μ.1, (xuI (xuI μ.2.1 36 (x1).toNatClampNeg ((μ.2.1 32 9) + (1 : Int32))) 42 (x1).toNatClampNeg (1 : Int32)), μ.2.2)) rfl rfl rfl (fun hb => xbT (xbL hb)) ?_
  refine XB.go 4 (pc' := 124) (ls' := [some (.ref 32), some (.int x1), (xdl d2), (xdl d3), (xdl d4), (xdl d5)]) (st' := [(.int (0 : Int32)), (.int x1), (.ref 39)]) (μ' := (μ.1, (xuI (xuI μ.2.1 36 (x1).toNatClampNeg ((μ.2.1 32 9) + (1 : Int32))) 42 (x1).toNatClampNeg (1 : Int32)), μ.2.2)) rfl ?_
  refine XB.gd (pc' := 125) (ls' := [some (.ref 32), some (.int x1), (xdl d2), (xdl d3), (xdl d4), (xdl d5)]) (st' := []) (μ' := (μ.1, (xuI (xuI (xuI μ.2.1 36 (x1).toNatClampNeg ((μ.2.1 32 9) + (1 : Int32))) 42 (x1).toNatClampNeg (1 : Int32)) 39 (x1).toNatClampNeg (0 : Int32)), μ.2.2)) rfl rfl rfl (fun hb => xbT hb) ?_
  refine XB.go 2 (pc' := 127) (ls' := [some (.ref 32), some (.int x1), (xdl d2), (xdl d3), (xdl d4), (xdl d5)]) (st' := [(.int x1), (.ref 32)]) (μ' := (μ.1, (xuI (xuI (xuI μ.2.1 36 (x1).toNatClampNeg ((μ.2.1 32 9) + (1 : Int32))) 42 (x1).toNatClampNeg (1 : Int32)) 39 (x1).toNatClampNeg (0 : Int32)), μ.2.2)) rfl ?_
  refine XB.cv rfl rfl rfl rfl rfl (yM_goOn_ok x1 (μ.1, (xuI (xuI (xuI μ.2.1 36 (x1).toNatClampNeg ((μ.2.1 32 9) + (1 : Int32))) 42 (x1).toNatClampNeg (1 : Int32)) 39 (x1).toNatClampNeg (0 : Int32)), μ.2.2)) (fun m5 => ?_)
  exact XB.fin rfl
def yM_stored (a1 : Int32) (a2 : Int32) (a3 : Int32) (a4 : Int32) (a5 : Int32) (μ : XMu) : XRes := xbi (yM_bad a1 a2 a3 a4 a5 (μ.1, (xuI μ.2.1 32 0 (0 : Int32)), μ.2.2)) (fun r2 m1 => (if ¬ r2 = (0 : Int32) then some (.inl none, m1) else xbi (yM_heardOf a1 a2 a5 m1) (fun r4 m3 => (if ¬ r4 = (0 : Int32) then xgd (xin a1 7) ((if a3 = (m3.2.1 32 9) then (if (m3.2.1 32 13) ≤ a4 then xgd (xin a1 7) ((if (m3.2.1 32 9) ≤ (m3.2.1 37 (a1).toNatClampNeg) then yM_stored_b99  a1 (m3.1, (xuI m3.2.1 38 (a1).toNatClampNeg (0 : Int32)), m3.2.2) else xgd (xin a1 7) (yM_stored_b99  a1 (m3.1, (xuI (xuI m3.2.1 38 (a1).toNatClampNeg (0 : Int32)) 37 (a1).toNatClampNeg (m3.2.1 32 9)), m3.2.2)))) else xgd (xin a1 7) (xbv (yM_goOn a1 (m3.1, (xuI (xuI m3.2.1 38 (a1).toNatClampNeg (0 : Int32)) 39 (a1).toNatClampNeg a4), m3.2.2)) (fun m6 => some (.inl none, m6)))) else xgd (xin a1 7) (xbv (yM_goOn a1 (m3.1, (xuI (xuI m3.2.1 38 (a1).toNatClampNeg (0 : Int32)) 39 (a1).toNatClampNeg (0 : Int32)), m3.2.2)) (fun m7 => some (.inl none, m7))))) else some (.inl none, m3)))))
theorem yM_stored_ok {L : Nat} {xs : Nat → Int32} (a1 : Int32) (a2 : Int32) (a3 : Int32) (a4 : Int32) (a5 : Int32) (μ : XMu) : XB L xs 217 0 [some (.ref 32), some (.int a1), some (.int a2), some (.int a3), some (.int a4), some (.int a5)] [] μ (yM_stored a1 a2 a3 a4 a5 μ) := by
  unfold yM_stored
  refine XB.go 9 (pc' := 13) (ls' := [some (.ref 32), some (.int a1), some (.int a2), some (.int a3), some (.int a4), some (.int a5)]) (st' := [(.int a5), (.int a4), (.int a3), (.int a2), (.int a1), (.ref 32)]) (μ' := (μ.1, (xuI μ.2.1 32 0 (0 : Int32)), μ.2.2)) rfl ?_
  refine XB.ci rfl rfl rfl rfl rfl (yM_bad_ok a1 a2 a3 a4 a5 (μ.1, (xuI μ.2.1 32 0 (0 : Int32)), μ.2.2)) (fun r2 m1 => ?_)
  refine XB.ifz (P := ¬ r2 = (0 : Int32)) rfl rfl rfl (fun c16 => ?_) (fun c16 => ?_)
  · exact XB.fin rfl
  · refine XB.go 4 (pc' := 24) (ls' := [some (.ref 32), some (.int a1), some (.int a2), some (.int a3), some (.int a4), some (.int a5)]) (st' := [(.int a5), (.int a2), (.int a1), (.ref 32)]) (μ' := m1) rfl ?_
    refine XB.ci rfl rfl rfl rfl rfl (yM_heardOf_ok a1 a2 a5 m1) (fun r4 m3 => ?_)
    refine XB.ifz (P := ¬ r4 = (0 : Int32)) rfl rfl rfl (fun c27 => ?_) (fun c27 => ?_)
    · refine XB.go 4 (pc' := 37) (ls' := [some (.ref 32), some (.int a1), some (.int a2), some (.int a3), some (.int a4), some (.int a5)]) (st' := [(.int (0 : Int32)), (.int a1), (.ref 38)]) (μ' := m3) rfl ?_
      refine XB.gd (pc' := 38) (ls' := [some (.ref 32), some (.int a1), some (.int a2), some (.int a3), some (.int a4), some (.int a5)]) (st' := []) (μ' := (m3.1, (xuI m3.2.1 38 (a1).toNatClampNeg (0 : Int32)), m3.2.2)) rfl rfl rfl (fun hb => xbT hb) ?_
      refine XB.go 3 (pc' := 43) (ls' := [some (.ref 32), some (.int a1), some (.int a2), some (.int a3), some (.int a4), some (.int a5)]) (st' := [(.int (m3.2.1 32 9)), (.int a3)]) (μ' := (m3.1, (xuI m3.2.1 38 (a1).toNatClampNeg (0 : Int32)), m3.2.2)) rfl ?_
      refine XB.icmp (P := a3 = (m3.2.1 32 9)) rfl rfl rfl (fun c43 => ?_) (fun c43 => ?_)
      · refine XB.go 3 (pc' := 62) (ls' := [some (.ref 32), some (.int a1), some (.int a2), some (.int a3), some (.int a4), some (.int a5)]) (st' := [(.int (m3.2.1 32 13)), (.int a4)]) (μ' := (m3.1, (xuI m3.2.1 38 (a1).toNatClampNeg (0 : Int32)), m3.2.2)) rfl ?_
        refine XB.icmp (P := (m3.2.1 32 13) ≤ a4) rfl rfl rfl (fun c62 => ?_) (fun c62 => ?_)
        · refine XB.go 5 (pc' := 85) (ls' := [some (.ref 32), some (.int a1), some (.int a2), some (.int a3), some (.int a4), some (.int a5)]) (st' := [(.int a1), (.ref 37), (.int (m3.2.1 32 9))]) (μ' := (m3.1, (xuI m3.2.1 38 (a1).toNatClampNeg (0 : Int32)), m3.2.2)) rfl ?_
          refine XB.gd (pc' := 86) (ls' := [some (.ref 32), some (.int a1), some (.int a2), some (.int a3), some (.int a4), some (.int a5)]) (st' := [(.int (m3.2.1 37 (a1).toNatClampNeg)), (.int (m3.2.1 32 9))]) (μ' := (m3.1, (xuI m3.2.1 38 (a1).toNatClampNeg (0 : Int32)), m3.2.2)) rfl rfl rfl (fun hb => xbT hb) ?_
          refine XB.icmp (P := (m3.2.1 32 9) ≤ (m3.2.1 37 (a1).toNatClampNeg)) rfl rfl rfl (fun c86 => ?_) (fun c86 => ?_)
          · exact yM_stored_b99_ok  (some a2) (some a3) (some a4) (some a5) a1 (m3.1, (xuI m3.2.1 38 (a1).toNatClampNeg (0 : Int32)), m3.2.2)
          · refine XB.go 5 (pc' := 98) (ls' := [some (.ref 32), some (.int a1), some (.int a2), some (.int a3), some (.int a4), some (.int a5)]) (st' := [(.int (m3.2.1 32 9)), (.int a1), (.ref 37)]) (μ' := (m3.1, (xuI m3.2.1 38 (a1).toNatClampNeg (0 : Int32)), m3.2.2)) rfl ?_
            refine XB.gd (pc' := 99) (ls' := [some (.ref 32), some (.int a1), some (.int a2), some (.int a3), some (.int a4), some (.int a5)]) (st' := []) (μ' := (m3.1, (xuI (xuI m3.2.1 38 (a1).toNatClampNeg (0 : Int32)) 37 (a1).toNatClampNeg (m3.2.1 32 9)), m3.2.2)) rfl rfl rfl (fun hb => xbT hb) ?_
            exact yM_stored_b99_ok  (some a2) (some a3) (some a4) (some a5) a1 (m3.1, (xuI (xuI m3.2.1 38 (a1).toNatClampNeg (0 : Int32)) 37 (a1).toNatClampNeg (m3.2.1 32 9)), m3.2.2)
        · refine XB.go 4 (pc' := 72) (ls' := [some (.ref 32), some (.int a1), some (.int a2), some (.int a3), some (.int a4), some (.int a5)]) (st' := [(.int a4), (.int a1), (.ref 39)]) (μ' := (m3.1, (xuI m3.2.1 38 (a1).toNatClampNeg (0 : Int32)), m3.2.2)) rfl ?_
          refine XB.gd (pc' := 73) (ls' := [some (.ref 32), some (.int a1), some (.int a2), some (.int a3), some (.int a4), some (.int a5)]) (st' := []) (μ' := (m3.1, (xuI (xuI m3.2.1 38 (a1).toNatClampNeg (0 : Int32)) 39 (a1).toNatClampNeg a4), m3.2.2)) rfl rfl rfl (fun hb => xbT hb) ?_
          refine XB.go 3 (pc' := 127) (ls' := [some (.ref 32), some (.int a1), some (.int a2), some (.int a3), some (.int a4), some (.int a5)]) (st' := [(.int a1), (.ref 32)]) (μ' := (m3.1, (xuI (xuI m3.2.1 38 (a1).toNatClampNeg (0 : Int32)) 39 (a1).toNatClampNeg a4), m3.2.2)) rfl ?_
          refine XB.cv rfl rfl rfl rfl rfl (yM_goOn_ok a1 (m3.1, (xuI (xuI m3.2.1 38 (a1).toNatClampNeg (0 : Int32)) 39 (a1).toNatClampNeg a4), m3.2.2)) (fun m6 => ?_)
          exact XB.fin rfl
      · refine XB.go 4 (pc' := 52) (ls' := [some (.ref 32), some (.int a1), some (.int a2), some (.int a3), some (.int a4), some (.int a5)]) (st' := [(.int (0 : Int32)), (.int a1), (.ref 39)]) (μ' := (m3.1, (xuI m3.2.1 38 (a1).toNatClampNeg (0 : Int32)), m3.2.2)) rfl ?_
        refine XB.gd (pc' := 53) (ls' := [some (.ref 32), some (.int a1), some (.int a2), some (.int a3), some (.int a4), some (.int a5)]) (st' := []) (μ' := (m3.1, (xuI (xuI m3.2.1 38 (a1).toNatClampNeg (0 : Int32)) 39 (a1).toNatClampNeg (0 : Int32)), m3.2.2)) rfl rfl rfl (fun hb => xbT hb) ?_
        refine XB.go 3 (pc' := 127) (ls' := [some (.ref 32), some (.int a1), some (.int a2), some (.int a3), some (.int a4), some (.int a5)]) (st' := [(.int a1), (.ref 32)]) (μ' := (m3.1, (xuI (xuI m3.2.1 38 (a1).toNatClampNeg (0 : Int32)) 39 (a1).toNatClampNeg (0 : Int32)), m3.2.2)) rfl ?_
        refine XB.cv rfl rfl rfl rfl rfl (yM_goOn_ok a1 (m3.1, (xuI (xuI m3.2.1 38 (a1).toNatClampNeg (0 : Int32)) 39 (a1).toNatClampNeg (0 : Int32)), m3.2.2)) (fun m7 => ?_)
        exact XB.fin rfl
    · exact XB.fin rfl
/-- LogServerModel.go(II)V -/
def yM_go (a1 : Int32) (a2 : Int32) (μ : XMu) : XRes := xbi (yM_bad a1 a2 (0 : Int32) (0 : Int32) (0 : Int32) (μ.1, (xuI μ.2.1 32 0 (0 : Int32)), μ.2.2)) (fun r2 m1 => (if r2 = (0 : Int32) then xbv (yM_above a2 m1) (fun m3 => (if ¬ a2 = (m3.2.1 32 4) then some (.inl none, m3) else (if (2 : Int32) ≤ (m3.2.1 32 15) then some (.inl none, m3) else xbi (yM_voters m3) (fun r5 m4 => (if (yM_has r5 (m4.2.1 32 1)) = (0 : Int32) then some (.inl none, m4) else xbv (yM_campaign m4) (fun m6 => some (.inl none, m6))))))) else some (.inl none, m1)))
theorem yM_go_ok {L : Nat} {xs : Nat → Int32} (a1 : Int32) (a2 : Int32) (μ : XMu) : XB L xs 218 0 [some (.ref 32), some (.int a1), some (.int a2)] [] μ (yM_go a1 a2 μ) := by
  unfold yM_go
  refine XB.go 9 (pc' := 11) (ls' := [some (.ref 32), some (.int a1), some (.int a2)]) (st' := [(.int (0 : Int32)), (.int (0 : Int32)), (.int (0 : Int32)), (.int a2), (.int a1), (.ref 32)]) (μ' := (μ.1, (xuI μ.2.1 32 0 (0 : Int32)), μ.2.2)) rfl ?_
  refine XB.ci rfl rfl rfl rfl rfl (yM_bad_ok a1 a2 (0 : Int32) (0 : Int32) (0 : Int32) (μ.1, (xuI μ.2.1 32 0 (0 : Int32)), μ.2.2)) (fun r2 m1 => ?_)
  refine XB.ifz (P := r2 = (0 : Int32)) rfl rfl rfl (fun c14 => ?_) (fun c14 => ?_)
  · refine XB.go 2 (pc' := 20) (ls' := [some (.ref 32), some (.int a1), some (.int a2)]) (st' := [(.int a2), (.ref 32)]) (μ' := m1) rfl ?_
    refine XB.cv rfl rfl rfl rfl rfl (yM_above_ok a2 m1) (fun m3 => ?_)
    refine XB.go 3 (pc' := 28) (ls' := [some (.ref 32), some (.int a1), some (.int a2)]) (st' := [(.int (m3.2.1 32 4)), (.int a2)]) (μ' := m3) rfl ?_
    refine XB.icmp (P := ¬ a2 = (m3.2.1 32 4)) rfl rfl rfl (fun c28 => ?_) (fun c28 => ?_)
    · exact XB.fin rfl
    · refine XB.go 3 (pc' := 36) (ls' := [some (.ref 32), some (.int a1), some (.int a2)]) (st' := [(.int (2 : Int32)), (.int (m3.2.1 32 15))]) (μ' := m3) rfl ?_
      refine XB.icmp (P := (2 : Int32) ≤ (m3.2.1 32 15)) rfl rfl rfl (fun c36 => ?_) (fun c36 => ?_)
      · exact XB.fin rfl
      · refine XB.go 1 (pc' := 40) (ls' := [some (.ref 32), some (.int a1), some (.int a2)]) (st' := [(.ref 32)]) (μ' := m3) rfl ?_
        refine XB.ci rfl rfl rfl rfl rfl (yM_voters_ok m3) (fun r5 m4 => ?_)
        refine XB.go 2 (pc' := 47) (ls' := [some (.ref 32), some (.int a1), some (.int a2)]) (st' := [(.int (m4.2.1 32 1)), (.int r5)]) (μ' := m4) rfl ?_
        refine XB.cp rfl rfl rfl (yM_has_ok r5 (m4.2.1 32 1) m4) ?_
        refine XB.ifz (P := (yM_has r5 (m4.2.1 32 1)) = (0 : Int32)) rfl rfl rfl (fun c50 => ?_) (fun c50 => ?_)
        · exact XB.fin rfl
        · refine XB.go 1 (pc' := 54) (ls' := [some (.ref 32), some (.int a1), some (.int a2)]) (st' := [(.ref 32)]) (μ' := m4) rfl ?_
          refine XB.cv rfl rfl rfl rfl rfl (yM_campaign_ok m4) (fun m6 => ?_)
          exact XB.fin rfl
  · exact XB.fin rfl
/-- LogServerModel.asked(II)I -/
def yM_asked (a1 : Int32) (a2 : Int32) (μ : XMu) : XRes := xgd (xin ((μ.2.1 32 55) - (μ.2.1 32 55) / (32 : Int32) * (32 : Int32)) 32) (xgd (xin ((μ.2.1 32 55) - (μ.2.1 32 55) / (32 : Int32) * (32 : Int32)) 32) (xgd (xin ((μ.2.1 32 55) - (μ.2.1 32 55) / (32 : Int32) * (32 : Int32)) 32) (xgd (xin ((μ.2.1 32 55) - (μ.2.1 32 55) / (32 : Int32) * (32 : Int32)) 32) (some (.inl (some (.int (((μ.2.1 32 55) + (1 : Int32)) - (1 : Int32)))), (μ.1, (xuI (xuI (xuI (xuI (xuI μ.2.1 52 (((μ.2.1 32 55) - (μ.2.1 32 55) / (32 : Int32) * (32 : Int32))).toNatClampNeg (0 : Int32)) 53 (((μ.2.1 32 55) - (μ.2.1 32 55) / (32 : Int32) * (32 : Int32))).toNatClampNeg a1) 54 (((μ.2.1 32 55) - (μ.2.1 32 55) / (32 : Int32) * (32 : Int32))).toNatClampNeg (μ.2.1 32 4)) 55 (((μ.2.1 32 55) - (μ.2.1 32 55) / (32 : Int32) * (32 : Int32))).toNatClampNeg a2) 32 55 ((μ.2.1 32 55) + (1 : Int32))), μ.2.2))))))
theorem yM_asked_ok {L : Nat} {xs : Nat → Int32} (a1 : Int32) (a2 : Int32) (μ : XMu) : XB L xs 219 0 [some (.ref 32), some (.int a1), some (.int a2), none] [] μ (yM_asked a1 a2 μ) := by
  unfold yM_asked
  refine XB.go 9 (pc' := 14) (ls' := [some (.ref 32), some (.int a1), some (.int a2), some (.int ((μ.2.1 32 55) - (μ.2.1 32 55) / (32 : Int32) * (32 : Int32)))]) (st' := [(.int (0 : Int32)), (.int ((μ.2.1 32 55) - (μ.2.1 32 55) / (32 : Int32) * (32 : Int32))), (.ref 52)]) (μ' := μ) rfl ?_
  refine XB.gd (pc' := 15) (ls' := [some (.ref 32), some (.int a1), some (.int a2), some (.int ((μ.2.1 32 55) - (μ.2.1 32 55) / (32 : Int32) * (32 : Int32)))]) (st' := []) (μ' := (μ.1, (xuI μ.2.1 52 (((μ.2.1 32 55) - (μ.2.1 32 55) / (32 : Int32) * (32 : Int32))).toNatClampNeg (0 : Int32)), μ.2.2)) rfl rfl rfl (fun hb => xbT hb) ?_
  refine XB.go 4 (pc' := 21) (ls' := [some (.ref 32), some (.int a1), some (.int a2), some (.int ((μ.2.1 32 55) - (μ.2.1 32 55) / (32 : Int32) * (32 : Int32)))]) (st' := [(.int a1), (.int ((μ.2.1 32 55) - (μ.2.1 32 55) / (32 : Int32) * (32 : Int32))), (.ref 53)]) (μ' := (μ.1, (xuI μ.2.1 52 (((μ.2.1 32 55) - (μ.2.1 32 55) / (32 : Int32) * (32 : Int32))).toNatClampNeg (0 : Int32)), μ.2.2)) rfl ?_
  refine XB.gd (pc' := 22) (ls' := [some (.ref 32), some (.int a1), some (.int a2), some (.int ((μ.2.1 32 55) - (μ.2.1 32 55) / (32 : Int32) * (32 : Int32)))]) (st' := []) (μ' := (μ.1, (xuI (xuI μ.2.1 52 (((μ.2.1 32 55) - (μ.2.1 32 55) / (32 : Int32) * (32 : Int32))).toNatClampNeg (0 : Int32)) 53 (((μ.2.1 32 55) - (μ.2.1 32 55) / (32 : Int32) * (32 : Int32))).toNatClampNeg a1), μ.2.2)) rfl rfl rfl (fun hb => xbT hb) ?_
  refine XB.go 5 (pc' := 31) (ls' := [some (.ref 32), some (.int a1), some (.int a2), some (.int ((μ.2.1 32 55) - (μ.2.1 32 55) / (32 : Int32) * (32 : Int32)))]) (st' := [(.int (μ.2.1 32 4)), (.int ((μ.2.1 32 55) - (μ.2.1 32 55) / (32 : Int32) * (32 : Int32))), (.ref 54)]) (μ' := (μ.1, (xuI (xuI μ.2.1 52 (((μ.2.1 32 55) - (μ.2.1 32 55) / (32 : Int32) * (32 : Int32))).toNatClampNeg (0 : Int32)) 53 (((μ.2.1 32 55) - (μ.2.1 32 55) / (32 : Int32) * (32 : Int32))).toNatClampNeg a1), μ.2.2)) rfl ?_
  refine XB.gd (pc' := 32) (ls' := [some (.ref 32), some (.int a1), some (.int a2), some (.int ((μ.2.1 32 55) - (μ.2.1 32 55) / (32 : Int32) * (32 : Int32)))]) (st' := []) (μ' := (μ.1, (xuI (xuI (xuI μ.2.1 52 (((μ.2.1 32 55) - (μ.2.1 32 55) / (32 : Int32) * (32 : Int32))).toNatClampNeg (0 : Int32)) 53 (((μ.2.1 32 55) - (μ.2.1 32 55) / (32 : Int32) * (32 : Int32))).toNatClampNeg a1) 54 (((μ.2.1 32 55) - (μ.2.1 32 55) / (32 : Int32) * (32 : Int32))).toNatClampNeg (μ.2.1 32 4)), μ.2.2)) rfl rfl rfl (fun hb => xbT hb) ?_
  refine XB.go 4 (pc' := 38) (ls' := [some (.ref 32), some (.int a1), some (.int a2), some (.int ((μ.2.1 32 55) - (μ.2.1 32 55) / (32 : Int32) * (32 : Int32)))]) (st' := [(.int a2), (.int ((μ.2.1 32 55) - (μ.2.1 32 55) / (32 : Int32) * (32 : Int32))), (.ref 55)]) (μ' := (μ.1, (xuI (xuI (xuI μ.2.1 52 (((μ.2.1 32 55) - (μ.2.1 32 55) / (32 : Int32) * (32 : Int32))).toNatClampNeg (0 : Int32)) 53 (((μ.2.1 32 55) - (μ.2.1 32 55) / (32 : Int32) * (32 : Int32))).toNatClampNeg a1) 54 (((μ.2.1 32 55) - (μ.2.1 32 55) / (32 : Int32) * (32 : Int32))).toNatClampNeg (μ.2.1 32 4)), μ.2.2)) rfl ?_
  refine XB.gd (pc' := 39) (ls' := [some (.ref 32), some (.int a1), some (.int a2), some (.int ((μ.2.1 32 55) - (μ.2.1 32 55) / (32 : Int32) * (32 : Int32)))]) (st' := []) (μ' := (μ.1, (xuI (xuI (xuI (xuI μ.2.1 52 (((μ.2.1 32 55) - (μ.2.1 32 55) / (32 : Int32) * (32 : Int32))).toNatClampNeg (0 : Int32)) 53 (((μ.2.1 32 55) - (μ.2.1 32 55) / (32 : Int32) * (32 : Int32))).toNatClampNeg a1) 54 (((μ.2.1 32 55) - (μ.2.1 32 55) / (32 : Int32) * (32 : Int32))).toNatClampNeg (μ.2.1 32 4)) 55 (((μ.2.1 32 55) - (μ.2.1 32 55) / (32 : Int32) * (32 : Int32))).toNatClampNeg a2), μ.2.2)) rfl rfl rfl (fun hb => xbT hb) ?_
  refine XB.go 10 (pc' := 55) (ls' := [some (.ref 32), some (.int a1), some (.int a2), some (.int ((μ.2.1 32 55) - (μ.2.1 32 55) / (32 : Int32) * (32 : Int32)))]) (st' := [(.int (((μ.2.1 32 55) + (1 : Int32)) - (1 : Int32)))]) (μ' := (μ.1, (xuI (xuI (xuI (xuI (xuI μ.2.1 52 (((μ.2.1 32 55) - (μ.2.1 32 55) / (32 : Int32) * (32 : Int32))).toNatClampNeg (0 : Int32)) 53 (((μ.2.1 32 55) - (μ.2.1 32 55) / (32 : Int32) * (32 : Int32))).toNatClampNeg a1) 54 (((μ.2.1 32 55) - (μ.2.1 32 55) / (32 : Int32) * (32 : Int32))).toNatClampNeg (μ.2.1 32 4)) 55 (((μ.2.1 32 55) - (μ.2.1 32 55) / (32 : Int32) * (32 : Int32))).toNatClampNeg a2) 32 55 ((μ.2.1 32 55) + (1 : Int32))), μ.2.2)) rfl ?_
  exact XB.fin rfl
/-- LogServerModel.command(I)I -/
def yM_command (a1 : Int32) (μ : XMu) : XRes := (if ¬ (μ.2.1 32 15) = (3 : Int32) then some (.inl (some (.int (-1 : Int32))), (μ.1, (xuI μ.2.1 32 0 (0 : Int32)), μ.2.2)) else (if (0 : Int32) ≤ (μ.2.1 32 23) then some (.inl (some (.int (-1 : Int32))), (μ.1, (xuI μ.2.1 32 0 (0 : Int32)), μ.2.2)) else (if ((μ.2.1 32 10) - (μ.2.1 32 9)) < (200 : Int32) then xbv (yM_write (μ.2.1 32 4) (2 : Int32) a1 (μ.1, (xuI μ.2.1 32 0 (0 : Int32)), μ.2.2)) (fun m1 => xbi (yM_asked (m1.2.1 32 10) (-1 : Int32) m1) (fun r3 m2 => xbv (yM_sendAll (0 : Int32) m2) (fun m4 => some (.inl (some (.int r3)), m4)))) else some (.inl (some (.int (-1 : Int32))), (μ.1, (xuI μ.2.1 32 0 (0 : Int32)), μ.2.2)))))
theorem yM_command_ok {L : Nat} {xs : Nat → Int32} (a1 : Int32) (μ : XMu) : XB L xs 220 0 [some (.ref 32), some (.int a1), none] [] μ (yM_command a1 μ) := by
  unfold yM_command
  refine XB.go 6 (pc' := 10) (ls' := [some (.ref 32), some (.int a1), none]) (st' := [(.int (3 : Int32)), (.int (μ.2.1 32 15))]) (μ' := (μ.1, (xuI μ.2.1 32 0 (0 : Int32)), μ.2.2)) rfl ?_
  refine XB.icmp (P := ¬ (μ.2.1 32 15) = (3 : Int32)) rfl rfl rfl (fun c10 => ?_) (fun c10 => ?_)
  · refine XB.go 1 (pc' := 36) (ls' := [some (.ref 32), some (.int a1), none]) (st' := [(.int (-1 : Int32))]) (μ' := (μ.1, (xuI μ.2.1 32 0 (0 : Int32)), μ.2.2)) rfl ?_
    exact XB.fin rfl
  · refine XB.go 2 (pc' := 17) (ls' := [some (.ref 32), some (.int a1), none]) (st' := [(.int (μ.2.1 32 23))]) (μ' := (μ.1, (xuI μ.2.1 32 0 (0 : Int32)), μ.2.2)) rfl ?_
    refine XB.ifz (P := (0 : Int32) ≤ (μ.2.1 32 23)) rfl rfl rfl (fun c17 => ?_) (fun c17 => ?_)
    · refine XB.go 1 (pc' := 36) (ls' := [some (.ref 32), some (.int a1), none]) (st' := [(.int (-1 : Int32))]) (μ' := (μ.1, (xuI μ.2.1 32 0 (0 : Int32)), μ.2.2)) rfl ?_
      exact XB.fin rfl
    · refine XB.go 6 (pc' := 32) (ls' := [some (.ref 32), some (.int a1), none]) (st' := [(.int (200 : Int32)), (.int ((μ.2.1 32 10) - (μ.2.1 32 9)))]) (μ' := (μ.1, (xuI μ.2.1 32 0 (0 : Int32)), μ.2.2)) rfl ?_
      refine XB.icmp (P := ((μ.2.1 32 10) - (μ.2.1 32 9)) < (200 : Int32)) rfl rfl rfl (fun c32 => ?_) (fun c32 => ?_)
      · refine XB.go 5 (pc' := 44) (ls' := [some (.ref 32), some (.int a1), none]) (st' := [(.int a1), (.int (2 : Int32)), (.int (μ.2.1 32 4)), (.ref 32)]) (μ' := (μ.1, (xuI μ.2.1 32 0 (0 : Int32)), μ.2.2)) rfl ?_
        refine XB.cv rfl rfl rfl rfl rfl (yM_write_ok (μ.2.1 32 4) (2 : Int32) a1 (μ.1, (xuI μ.2.1 32 0 (0 : Int32)), μ.2.2)) (fun m1 => ?_)
        refine XB.go 4 (pc' := 53) (ls' := [some (.ref 32), some (.int a1), none]) (st' := [(.int (-1 : Int32)), (.int (m1.2.1 32 10)), (.ref 32)]) (μ' := m1) rfl ?_
        refine XB.ci rfl rfl rfl rfl rfl (yM_asked_ok (m1.2.1 32 10) (-1 : Int32) m1) (fun r3 m2 => ?_)
        refine XB.go 3 (pc' := 59) (ls' := [some (.ref 32), some (.int a1), some (.int r3)]) (st' := [(.int (0 : Int32)), (.ref 32)]) (μ' := m2) rfl ?_
        refine XB.cv rfl rfl rfl rfl rfl (yM_sendAll_ok (0 : Int32) m2) (fun m4 => ?_)
        refine XB.go 1 (pc' := 63) (ls' := [some (.ref 32), some (.int a1), some (.int r3)]) (st' := [(.int r3)]) (μ' := m4) rfl ?_
        exact XB.fin rfl
      · refine XB.go 1 (pc' := 36) (ls' := [some (.ref 32), some (.int a1), none]) (st' := [(.int (-1 : Int32))]) (μ' := (μ.1, (xuI μ.2.1 32 0 (0 : Int32)), μ.2.2)) rfl ?_
        exact XB.fin rfl
/-- LogServerModel.read()I -/
def yM_read  (μ : XMu) : XRes := (if ¬ (μ.2.1 32 15) = (3 : Int32) then some (.inl (some (.int (-1 : Int32))), (μ.1, (xuI μ.2.1 32 0 (0 : Int32)), μ.2.2)) else (if (μ.2.1 32 23) < (0 : Int32) then xbi (yM_termAt (μ.2.1 32 17) (μ.1, (xuI μ.2.1 32 0 (0 : Int32)), μ.2.2)) (fun r2 m1 => (if ¬ r2 = (m1.2.1 32 4) then xbi (yM_asked (m1.2.1 32 25) ((m1.2.1 32 26) + (1 : Int32)) m1) (fun r4 m3 => some (.inl (some (.int r4)), m3)) else xbi (yM_asked (m1.2.1 32 17) ((m1.2.1 32 26) + (1 : Int32)) m1) (fun r6 m5 => some (.inl (some (.int r6)), m5)))) else some (.inl (some (.int (-1 : Int32))), (μ.1, (xuI μ.2.1 32 0 (0 : Int32)), μ.2.2))))
theorem yM_read_ok {L : Nat} {xs : Nat → Int32}  (μ : XMu) : XB L xs 221 0 [some (.ref 32)] [] μ (yM_read  μ) := by
  unfold yM_read
  refine XB.go 6 (pc' := 10) (ls' := [some (.ref 32)]) (st' := [(.int (3 : Int32)), (.int (μ.2.1 32 15))]) (μ' := (μ.1, (xuI μ.2.1 32 0 (0 : Int32)), μ.2.2)) rfl ?_
  refine XB.icmp (P := ¬ (μ.2.1 32 15) = (3 : Int32)) rfl rfl rfl (fun c10 => ?_) (fun c10 => ?_)
  · refine XB.go 1 (pc' := 21) (ls' := [some (.ref 32)]) (st' := [(.int (-1 : Int32))]) (μ' := (μ.1, (xuI μ.2.1 32 0 (0 : Int32)), μ.2.2)) rfl ?_
    exact XB.fin rfl
  · refine XB.go 2 (pc' := 17) (ls' := [some (.ref 32)]) (st' := [(.int (μ.2.1 32 23))]) (μ' := (μ.1, (xuI μ.2.1 32 0 (0 : Int32)), μ.2.2)) rfl ?_
    refine XB.ifz (P := (μ.2.1 32 23) < (0 : Int32)) rfl rfl rfl (fun c17 => ?_) (fun c17 => ?_)
    · refine XB.go 4 (pc' := 28) (ls' := [some (.ref 32)]) (st' := [(.int (μ.2.1 32 17)), (.ref 32), (.ref 32)]) (μ' := (μ.1, (xuI μ.2.1 32 0 (0 : Int32)), μ.2.2)) rfl ?_
      refine XB.ci rfl rfl rfl rfl rfl (yM_termAt_ok (μ.2.1 32 17) (μ.1, (xuI μ.2.1 32 0 (0 : Int32)), μ.2.2)) (fun r2 m1 => ?_)
      refine XB.go 2 (pc' := 35) (ls' := [some (.ref 32)]) (st' := [(.int (m1.2.1 32 4)), (.int r2), (.ref 32)]) (μ' := m1) rfl ?_
      refine XB.icmp (P := ¬ r2 = (m1.2.1 32 4)) rfl rfl rfl (fun c35 => ?_) (fun c35 => ?_)
      · refine XB.go 6 (pc' := 55) (ls' := [some (.ref 32)]) (st' := [(.int ((m1.2.1 32 26) + (1 : Int32))), (.int (m1.2.1 32 25)), (.ref 32)]) (μ' := m1) rfl ?_
        refine XB.ci rfl rfl rfl rfl rfl (yM_asked_ok (m1.2.1 32 25) ((m1.2.1 32 26) + (1 : Int32)) m1) (fun r4 m3 => ?_)
        exact XB.fin rfl
      · refine XB.go 7 (pc' := 55) (ls' := [some (.ref 32)]) (st' := [(.int ((m1.2.1 32 26) + (1 : Int32))), (.int (m1.2.1 32 17)), (.ref 32)]) (μ' := m1) rfl ?_
        refine XB.ci rfl rfl rfl rfl rfl (yM_asked_ok (m1.2.1 32 17) ((m1.2.1 32 26) + (1 : Int32)) m1) (fun r6 m5 => ?_)
        exact XB.fin rfl
    · refine XB.go 1 (pc' := 21) (ls' := [some (.ref 32)]) (st' := [(.int (-1 : Int32))]) (μ' := (μ.1, (xuI μ.2.1 32 0 (0 : Int32)), μ.2.2)) rfl ?_
      exact XB.fin rfl
/-- LogServerModel.canChange()Z -/
def yM_canChange  (μ : XMu) : XRes := (if ¬ (μ.2.1 32 15) = (3 : Int32) then some (.inl (some (.int (0 : Int32))), μ) else (if (0 : Int32) ≤ (μ.2.1 32 23) then some (.inl (some (.int (0 : Int32))), μ) else (if (200 : Int32) ≤ ((μ.2.1 32 10) - (μ.2.1 32 9)) then some (.inl (some (.int (0 : Int32))), μ) else xbi (yM_membersAt (μ.2.1 32 10) μ) (fun r2 m1 => (if (m1.2.1 32 17) < r2 then some (.inl (some (.int (0 : Int32))), m1) else xbi (yM_code m1) (fun r4 m3 => (if ¬ (yM_fresh r4) = (0 : Int32) then some (.inl (some (.int (0 : Int32))), m3) else some (.inl (some (.int (1 : Int32))), m3))))))))
theorem yM_canChange_ok {L : Nat} {xs : Nat → Int32}  (μ : XMu) : XB L xs 222 0 [some (.ref 32)] [] μ (yM_canChange  μ) := by
  unfold yM_canChange
  refine XB.go 3 (pc' := 5) (ls' := [some (.ref 32)]) (st' := [(.int (3 : Int32)), (.int (μ.2.1 32 15))]) (μ' := μ) rfl ?_
  refine XB.icmp (P := ¬ (μ.2.1 32 15) = (3 : Int32)) rfl rfl rfl (fun c5 => ?_) (fun c5 => ?_)
  · refine XB.go 1 (pc' := 60) (ls' := [some (.ref 32)]) (st' := [(.int (0 : Int32))]) (μ' := μ) rfl ?_
    exact XB.fin rfl
  · refine XB.go 2 (pc' := 12) (ls' := [some (.ref 32)]) (st' := [(.int (μ.2.1 32 23))]) (μ' := μ) rfl ?_
    refine XB.ifz (P := (0 : Int32) ≤ (μ.2.1 32 23)) rfl rfl rfl (fun c12 => ?_) (fun c12 => ?_)
    · refine XB.go 1 (pc' := 60) (ls' := [some (.ref 32)]) (st' := [(.int (0 : Int32))]) (μ' := μ) rfl ?_
      exact XB.fin rfl
    · refine XB.go 6 (pc' := 27) (ls' := [some (.ref 32)]) (st' := [(.int (200 : Int32)), (.int ((μ.2.1 32 10) - (μ.2.1 32 9)))]) (μ' := μ) rfl ?_
      refine XB.icmp (P := (200 : Int32) ≤ ((μ.2.1 32 10) - (μ.2.1 32 9))) rfl rfl rfl (fun c27 => ?_) (fun c27 => ?_)
      · refine XB.go 1 (pc' := 60) (ls' := [some (.ref 32)]) (st' := [(.int (0 : Int32))]) (μ' := μ) rfl ?_
        exact XB.fin rfl
      · refine XB.go 3 (pc' := 35) (ls' := [some (.ref 32)]) (st' := [(.int (μ.2.1 32 10)), (.ref 32)]) (μ' := μ) rfl ?_
        refine XB.ci rfl rfl rfl rfl rfl (yM_membersAt_ok (μ.2.1 32 10) μ) (fun r2 m1 => ?_)
        refine XB.go 2 (pc' := 42) (ls' := [some (.ref 32)]) (st' := [(.int (m1.2.1 32 17)), (.int r2)]) (μ' := m1) rfl ?_
        refine XB.icmp (P := (m1.2.1 32 17) < r2) rfl rfl rfl (fun c42 => ?_) (fun c42 => ?_)
        · refine XB.go 1 (pc' := 60) (ls' := [some (.ref 32)]) (st' := [(.int (0 : Int32))]) (μ' := m1) rfl ?_
          exact XB.fin rfl
        · refine XB.go 1 (pc' := 46) (ls' := [some (.ref 32)]) (st' := [(.ref 32)]) (μ' := m1) rfl ?_
          refine XB.ci rfl rfl rfl rfl rfl (yM_code_ok m1) (fun r4 m3 => ?_)
          refine XB.cp rfl rfl rfl (yM_fresh_ok r4 m3) ?_
          refine XB.ifz (P := ¬ (yM_fresh r4) = (0 : Int32)) rfl rfl rfl (fun c52 => ?_) (fun c52 => ?_)
          · refine XB.go 1 (pc' := 60) (ls' := [some (.ref 32)]) (st' := [(.int (0 : Int32))]) (μ' := m3) rfl ?_
            exact XB.fin rfl
          · refine XB.go 2 (pc' := 60) (ls' := [some (.ref 32)]) (st' := [(.int (1 : Int32))]) (μ' := m3) rfl ?_
            exact XB.fin rfl
/-- LogServerModel.members(I)Z -/
def yM_members_b104  (x1 : Int32) (x2 : Int32) (x3 : Int32) (μ : XMu) : XRes := (if ¬ x3 = (0 : Int32) then xbv (yM_write (μ.2.1 32 4) (1 : Int32) (((yM_old x2) + ((128 : Int32) * x1)) + ((16384 : Int32) * ((yM_learning x2) &&& (x1 ^^^ (-1 : Int32))))) μ) (fun m5 => xbv (yM_sendAll (0 : Int32) m5) (fun m6 => some (.inl (some (.int (1 : Int32))), m6))) else some (.inl (some (.int (0 : Int32))), μ))
theorem yM_members_b104_ok {L : Nat} {xs : Nat → Int32}  (d4 : Option Int32) (x1 : Int32) (x2 : Int32) (x3 : Int32) (μ : XMu) : XB L xs 223 104 [some (.ref 32), some (.int x1), some (.int x2), some (.int x3), (xdl d4)] [] μ (yM_members_b104  x1 x2 x3 μ) := by
  unfold yM_members_b104
  refine XB.go 1 (pc' := 105) (ls' := [some (.ref 32), some (.int x1), some (.int x2), some (.int x3), (xdl d4)]) (st' := [(.int x3)]) (μ' := μ) rfl ?_
  refine XB.ifz (P := ¬ x3 = (0 : Int32)) rfl rfl rfl (fun c105 => ?_) (fun c105 => ?_)
  · refine XB.go 5 (pc' := 117) (ls' := [some (.ref 32), some (.int x1), some (.int x2), some (.int x3), (xdl d4)]) (st' := [(.int x2), (.int (1 : Int32)), (.int (μ.2.1 32 4)), (.ref 32)]) (μ' := μ) rfl ?_
    refine XB.cp rfl rfl rfl (yM_old_ok x2 μ) ?_
    refine XB.go 6 (pc' := 130) (ls' := [some (.ref 32), some (.int x1), some (.int x2), some (.int x3), (xdl d4)]) (st' := [(.int x2), (.int (16384 : Int32)), (.int ((yM_old x2) + ((128 : Int32) * x1))), (.int (1 : Int32)), (.int (μ.2.1 32 4)), (.ref 32)]) (μ' := μ) rfl ?_
    refine XB.cp rfl rfl rfl (yM_learning_ok x2 μ) ?_
    refine XB.go 6 (pc' := 139) (ls' := [some (.ref 32), some (.int x1), some (.int x2), some (.int x3), (xdl d4)]) (st' := [(.int (((yM_old x2) + ((128 : Int32) * x1)) + ((16384 : Int32) * ((yM_learning x2) &&& (x1 ^^^ (-1 : Int32)))))), (.int (1 : Int32)), (.int (μ.2.1 32 4)), (.ref 32)]) (μ' := μ) rfl ?_
    refine XB.cv rfl rfl rfl rfl rfl (yM_write_ok (μ.2.1 32 4) (1 : Int32) (((yM_old x2) + ((128 : Int32) * x1)) + ((16384 : Int32) * ((yM_learning x2) &&& (x1 ^^^ (-1 : Int32))))) μ) (fun m5 => ?_)
    refine XB.go 2 (pc' := 144) (ls' := [some (.ref 32), some (.int x1), some (.int x2), some (.int x3), (xdl d4)]) (st' := [(.int (0 : Int32)), (.ref 32)]) (μ' := m5) rfl ?_
    refine XB.cv rfl rfl rfl rfl rfl (yM_sendAll_ok (0 : Int32) m5) (fun m6 => ?_)
    refine XB.go 1 (pc' := 148) (ls' := [some (.ref 32), some (.int x1), some (.int x2), some (.int x3), (xdl d4)]) (st' := [(.int (1 : Int32))]) (μ' := m6) rfl ?_
    exact XB.fin rfl
  · refine XB.go 1 (pc' := 109) (ls' := [some (.ref 32), some (.int x1), some (.int x2), some (.int x3), (xdl d4)]) (st' := [(.int (0 : Int32))]) (μ' := μ) rfl ?_
    exact XB.fin rfl
def yM_members_b34 (k34 : Int32 → Int32 → Int32 → Int32 → XMu → XRes) (x1 : Int32) (x2 : Int32) (x3 : Int32) (x4 : Int32) (μ : XMu) : XRes := (if (7 : Int32) ≤ x4 then yM_members_b104  x1 x2 x3 μ else (if x3 = (0 : Int32) then k34 x1 x2 (0 : Int32) (x4 + (1 : Int32)) μ else (if (yM_has x1 x4) = (0 : Int32) then k34 x1 x2 (1 : Int32) (x4 + (1 : Int32)) μ else (if ¬ (yM_has (yM_old x2) x4) = (0 : Int32) then k34 x1 x2 (1 : Int32) (x4 + (1 : Int32)) μ else (if (yM_has (yM_learning x2) x4) = (0 : Int32) then k34 x1 x2 (0 : Int32) (x4 + (1 : Int32)) μ else xgd (xin x4 7) ((if (μ.2.1 37 (x4).toNatClampNeg) < (μ.2.1 32 17) then k34 x1 x2 (0 : Int32) (x4 + (1 : Int32)) μ else k34 x1 x2 (1 : Int32) (x4 + (1 : Int32)) μ)))))))
theorem yM_members_b34_ok {L : Nat} {xs : Nat → Int32} (k34 : Int32 → Int32 → Int32 → Int32 → XMu → XRes) (hk34 : ∀  (x1 : Int32) (x2 : Int32) (x3 : Int32) (x4 : Int32) (μ : XMu), XB L xs 223 34 [some (.ref 32), some (.int x1), some (.int x2), some (.int x3), some (.int x4)] [] μ (k34 x1 x2 x3 x4 μ))  (x1 : Int32) (x2 : Int32) (x3 : Int32) (x4 : Int32) (μ : XMu) : XB L xs 223 34 [some (.ref 32), some (.int x1), some (.int x2), some (.int x3), some (.int x4)] [] μ (yM_members_b34 k34 x1 x2 x3 x4 μ) := by
  unfold yM_members_b34
  refine XB.go 2 (pc' := 38) (ls' := [some (.ref 32), some (.int x1), some (.int x2), some (.int x3), some (.int x4)]) (st' := [(.int (7 : Int32)), (.int x4)]) (μ' := μ) rfl ?_
  refine XB.icmp (P := (7 : Int32) ≤ x4) rfl rfl rfl (fun c38 => ?_) (fun c38 => ?_)
  · exact yM_members_b104_ok  (some x4) x1 x2 x3 μ
  · refine XB.go 1 (pc' := 42) (ls' := [some (.ref 32), some (.int x1), some (.int x2), some (.int x3), some (.int x4)]) (st' := [(.int x3)]) (μ' := μ) rfl ?_
    refine XB.ifz (P := x3 = (0 : Int32)) rfl rfl rfl (fun c42 => ?_) (fun c42 => ?_)
    · refine XB.go 4 (pc' := 34) (ls' := [some (.ref 32), some (.int x1), some (.int x2), some (.int (0 : Int32)), some (.int (x4 + (1 : Int32)))]) (st' := []) (μ' := μ) rfl ?_
      exact hk34  x1 x2 (0 : Int32) (x4 + (1 : Int32)) μ
    · refine XB.go 2 (pc' := 48) (ls' := [some (.ref 32), some (.int x1), some (.int x2), some (.int x3), some (.int x4)]) (st' := [(.int x4), (.int x1)]) (μ' := μ) rfl ?_
      refine XB.cp rfl rfl rfl (yM_has_ok x1 x4 μ) ?_
      refine XB.ifz (P := (yM_has x1 x4) = (0 : Int32)) rfl rfl rfl (fun c51 => ?_) (fun c51 => ?_)
      · refine XB.go 5 (pc' := 34) (ls' := [some (.ref 32), some (.int x1), some (.int x2), some (.int (1 : Int32)), some (.int (x4 + (1 : Int32)))]) (st' := []) (μ' := μ) rfl ?_
        exact hk34  x1 x2 (1 : Int32) (x4 + (1 : Int32)) μ
      · refine XB.go 1 (pc' := 55) (ls' := [some (.ref 32), some (.int x1), some (.int x2), some (.int x3), some (.int x4)]) (st' := [(.int x2)]) (μ' := μ) rfl ?_
        refine XB.cp rfl rfl rfl (yM_old_ok x2 μ) ?_
        refine XB.go 1 (pc' := 60) (ls' := [some (.ref 32), some (.int x1), some (.int x2), some (.int x3), some (.int x4)]) (st' := [(.int x4), (.int (yM_old x2))]) (μ' := μ) rfl ?_
        refine XB.cp rfl rfl rfl (yM_has_ok (yM_old x2) x4 μ) ?_
        refine XB.ifz (P := ¬ (yM_has (yM_old x2) x4) = (0 : Int32)) rfl rfl rfl (fun c63 => ?_) (fun c63 => ?_)
        · refine XB.go 5 (pc' := 34) (ls' := [some (.ref 32), some (.int x1), some (.int x2), some (.int (1 : Int32)), some (.int (x4 + (1 : Int32)))]) (st' := []) (μ' := μ) rfl ?_
          exact hk34  x1 x2 (1 : Int32) (x4 + (1 : Int32)) μ
        · refine XB.go 1 (pc' := 67) (ls' := [some (.ref 32), some (.int x1), some (.int x2), some (.int x3), some (.int x4)]) (st' := [(.int x2)]) (μ' := μ) rfl ?_
          refine XB.cp rfl rfl rfl (yM_learning_ok x2 μ) ?_
          refine XB.go 1 (pc' := 72) (ls' := [some (.ref 32), some (.int x1), some (.int x2), some (.int x3), some (.int x4)]) (st' := [(.int x4), (.int (yM_learning x2))]) (μ' := μ) rfl ?_
          refine XB.cp rfl rfl rfl (yM_has_ok (yM_learning x2) x4 μ) ?_
          refine XB.ifz (P := (yM_has (yM_learning x2) x4) = (0 : Int32)) rfl rfl rfl (fun c75 => ?_) (fun c75 => ?_)
          · refine XB.go 4 (pc' := 34) (ls' := [some (.ref 32), some (.int x1), some (.int x2), some (.int (0 : Int32)), some (.int (x4 + (1 : Int32)))]) (st' := []) (μ' := μ) rfl ?_
            exact hk34  x1 x2 (0 : Int32) (x4 + (1 : Int32)) μ
          · refine XB.go 3 (pc' := 84) (ls' := [some (.ref 32), some (.int x1), some (.int x2), some (.int x3), some (.int x4)]) (st' := [(.int x4), (.ref 37)]) (μ' := μ) rfl ?_
            refine XB.gd (pc' := 85) (ls' := [some (.ref 32), some (.int x1), some (.int x2), some (.int x3), some (.int x4)]) (st' := [(.int (μ.2.1 37 (x4).toNatClampNeg))]) (μ' := μ) rfl rfl rfl (fun hb => xbT hb) ?_
            refine XB.go 2 (pc' := 89) (ls' := [some (.ref 32), some (.int x1), some (.int x2), some (.int x3), some (.int x4)]) (st' := [(.int (μ.2.1 32 17)), (.int (μ.2.1 37 (x4).toNatClampNeg))]) (μ' := μ) rfl ?_
            refine XB.icmp (P := (μ.2.1 37 (x4).toNatClampNeg) < (μ.2.1 32 17)) rfl rfl rfl (fun c89 => ?_) (fun c89 => ?_)
            · refine XB.go 4 (pc' := 34) (ls' := [some (.ref 32), some (.int x1), some (.int x2), some (.int (0 : Int32)), some (.int (x4 + (1 : Int32)))]) (st' := []) (μ' := μ) rfl ?_
              exact hk34  x1 x2 (0 : Int32) (x4 + (1 : Int32)) μ
            · refine XB.go 5 (pc' := 34) (ls' := [some (.ref 32), some (.int x1), some (.int x2), some (.int (1 : Int32)), some (.int (x4 + (1 : Int32)))]) (st' := []) (μ' := μ) rfl ?_
              exact hk34  x1 x2 (1 : Int32) (x4 + (1 : Int32)) μ
def yM_members_b34_L  : Nat → Int32 → Int32 → Int32 → Int32 → XMu → XRes
  | 0 => fun _ _ _ _ _ => none
  | n + 1 => yM_members_b34 (yM_members_b34_L  n)
theorem yM_members_b34_Lok {L : Nat} {xs : Nat → Int32}  : ∀ (n : Nat)  (x1 : Int32) (x2 : Int32) (x3 : Int32) (x4 : Int32) (μ : XMu), XB L xs 223 34 [some (.ref 32), some (.int x1), some (.int x2), some (.int x3), some (.int x4)] [] μ (yM_members_b34_L  n x1 x2 x3 x4 μ) := by
  intro n
  induction n with
  | zero => intro  x1 x2 x3 x4 μ r h; cases h
  | succ n ih => intro  x1 x2 x3 x4 μ; exact yM_members_b34_ok (yM_members_b34_L  n) ih  x1 x2 x3 x4 μ
def yM_members (a1 : Int32) (μ : XMu) : XRes := xbi (yM_canChange (μ.1, (xuI μ.2.1 32 0 (0 : Int32)), μ.2.2)) (fun r2 m1 => (if r2 = (0 : Int32) then some (.inl (some (.int (0 : Int32))), m1) else (if ¬ (yM_within a1 (1 : Int32) (127 : Int32)) = (0 : Int32) then xbi (yM_code m1) (fun r4 m3 => yM_members_b34_L  1000 a1 r4 (1 : Int32) (0 : Int32) m3) else some (.inl (some (.int (0 : Int32))), m1))))
theorem yM_members_ok {L : Nat} {xs : Nat → Int32} (a1 : Int32) (μ : XMu) : XB L xs 223 0 [some (.ref 32), some (.int a1), none, none, none] [] μ (yM_members a1 μ) := by
  unfold yM_members
  refine XB.go 4 (pc' := 6) (ls' := [some (.ref 32), some (.int a1), none, none, none]) (st' := [(.ref 32)]) (μ' := (μ.1, (xuI μ.2.1 32 0 (0 : Int32)), μ.2.2)) rfl ?_
  refine XB.ci rfl rfl rfl rfl rfl (yM_canChange_ok (μ.1, (xuI μ.2.1 32 0 (0 : Int32)), μ.2.2)) (fun r2 m1 => ?_)
  refine XB.ifz (P := r2 = (0 : Int32)) rfl rfl rfl (fun c9 => ?_) (fun c9 => ?_)
  · refine XB.go 1 (pc' := 23) (ls' := [some (.ref 32), some (.int a1), none, none, none]) (st' := [(.int (0 : Int32))]) (μ' := m1) rfl ?_
    exact XB.fin rfl
  · refine XB.go 3 (pc' := 16) (ls' := [some (.ref 32), some (.int a1), none, none, none]) (st' := [(.int (127 : Int32)), (.int (1 : Int32)), (.int a1)]) (μ' := m1) rfl ?_
    refine XB.cp rfl rfl rfl (yM_within_ok a1 (1 : Int32) (127 : Int32) m1) ?_
    refine XB.ifz (P := ¬ (yM_within a1 (1 : Int32) (127 : Int32)) = (0 : Int32)) rfl rfl rfl (fun c19 => ?_) (fun c19 => ?_)
    · refine XB.go 1 (pc' := 25) (ls' := [some (.ref 32), some (.int a1), none, none, none]) (st' := [(.ref 32)]) (μ' := m1) rfl ?_
      refine XB.ci rfl rfl rfl rfl rfl (yM_code_ok m1) (fun r4 m3 => ?_)
      refine XB.go 5 (pc' := 34) (ls' := [some (.ref 32), some (.int a1), some (.int r4), some (.int (1 : Int32)), some (.int (0 : Int32))]) (st' := []) (μ' := m3) rfl ?_
      exact yM_members_b34_Lok  1000  a1 r4 (1 : Int32) (0 : Int32) m3
    · refine XB.go 1 (pc' := 23) (ls' := [some (.ref 32), some (.int a1), none, none, none]) (st' := [(.int (0 : Int32))]) (μ' := m1) rfl ?_
      exact XB.fin rfl
/-- LogServerModel.learners(I)Z -/
def yM_learners (a1 : Int32) (μ : XMu) : XRes := xbi (yM_canChange (μ.1, (xuI μ.2.1 32 0 (0 : Int32)), μ.2.2)) (fun r2 m1 => (if r2 = (0 : Int32) then some (.inl (some (.int (0 : Int32))), m1) else (if (yM_within a1 (0 : Int32) (127 : Int32)) = (0 : Int32) then some (.inl (some (.int (0 : Int32))), m1) else xbi (yM_code m1) (fun r4 m3 => (if (a1 &&& (yM_old r4)) = (0 : Int32) then xbi (yM_code m3) (fun r6 m5 => xbv (yM_write (m3.2.1 32 4) (1 : Int32) ((yM_old r6) + ((16384 : Int32) * a1)) m5) (fun m7 => xbv (yM_sendAll (0 : Int32) m7) (fun m8 => some (.inl (some (.int (1 : Int32))), m8)))) else some (.inl (some (.int (0 : Int32))), m3))))))
theorem yM_learners_ok {L : Nat} {xs : Nat → Int32} (a1 : Int32) (μ : XMu) : XB L xs 224 0 [some (.ref 32), some (.int a1)] [] μ (yM_learners a1 μ) := by
  unfold yM_learners
  refine XB.go 4 (pc' := 6) (ls' := [some (.ref 32), some (.int a1)]) (st' := [(.ref 32)]) (μ' := (μ.1, (xuI μ.2.1 32 0 (0 : Int32)), μ.2.2)) rfl ?_
  refine XB.ci rfl rfl rfl rfl rfl (yM_canChange_ok (μ.1, (xuI μ.2.1 32 0 (0 : Int32)), μ.2.2)) (fun r2 m1 => ?_)
  refine XB.ifz (P := r2 = (0 : Int32)) rfl rfl rfl (fun c9 => ?_) (fun c9 => ?_)
  · refine XB.go 1 (pc' := 35) (ls' := [some (.ref 32), some (.int a1)]) (st' := [(.int (0 : Int32))]) (μ' := m1) rfl ?_
    exact XB.fin rfl
  · refine XB.go 3 (pc' := 16) (ls' := [some (.ref 32), some (.int a1)]) (st' := [(.int (127 : Int32)), (.int (0 : Int32)), (.int a1)]) (μ' := m1) rfl ?_
    refine XB.cp rfl rfl rfl (yM_within_ok a1 (0 : Int32) (127 : Int32) m1) ?_
    refine XB.ifz (P := (yM_within a1 (0 : Int32) (127 : Int32)) = (0 : Int32)) rfl rfl rfl (fun c19 => ?_) (fun c19 => ?_)
    · refine XB.go 1 (pc' := 35) (ls' := [some (.ref 32), some (.int a1)]) (st' := [(.int (0 : Int32))]) (μ' := m1) rfl ?_
      exact XB.fin rfl
    · refine XB.go 2 (pc' := 24) (ls' := [some (.ref 32), some (.int a1)]) (st' := [(.ref 32), (.int a1)]) (μ' := m1) rfl ?_
      refine XB.ci rfl rfl rfl rfl rfl (yM_code_ok m1) (fun r4 m3 => ?_)
      refine XB.cp rfl rfl rfl (yM_old_ok r4 m3) ?_
      refine XB.go 1 (pc' := 31) (ls' := [some (.ref 32), some (.int a1)]) (st' := [(.int (a1 &&& (yM_old r4)))]) (μ' := m3) rfl ?_
      refine XB.ifz (P := (a1 &&& (yM_old r4)) = (0 : Int32)) rfl rfl rfl (fun c31 => ?_) (fun c31 => ?_)
      · refine XB.go 5 (pc' := 43) (ls' := [some (.ref 32), some (.int a1)]) (st' := [(.ref 32), (.int (1 : Int32)), (.int (m3.2.1 32 4)), (.ref 32)]) (μ' := m3) rfl ?_
        refine XB.ci rfl rfl rfl rfl rfl (yM_code_ok m3) (fun r6 m5 => ?_)
        refine XB.cp rfl rfl rfl (yM_old_ok r6 m5) ?_
        refine XB.go 4 (pc' := 55) (ls' := [some (.ref 32), some (.int a1)]) (st' := [(.int ((yM_old r6) + ((16384 : Int32) * a1))), (.int (1 : Int32)), (.int (m3.2.1 32 4)), (.ref 32)]) (μ' := m5) rfl ?_
        refine XB.cv rfl rfl rfl rfl rfl (yM_write_ok (m3.2.1 32 4) (1 : Int32) ((yM_old r6) + ((16384 : Int32) * a1)) m5) (fun m7 => ?_)
        refine XB.go 2 (pc' := 60) (ls' := [some (.ref 32), some (.int a1)]) (st' := [(.int (0 : Int32)), (.ref 32)]) (μ' := m7) rfl ?_
        refine XB.cv rfl rfl rfl rfl rfl (yM_sendAll_ok (0 : Int32) m7) (fun m8 => ?_)
        refine XB.go 1 (pc' := 64) (ls' := [some (.ref 32), some (.int a1)]) (st' := [(.int (1 : Int32))]) (μ' := m8) rfl ?_
        exact XB.fin rfl
      · refine XB.go 1 (pc' := 35) (ls' := [some (.ref 32), some (.int a1)]) (st' := [(.int (0 : Int32))]) (μ' := m3) rfl ?_
        exact XB.fin rfl
/-- LogServerModel.hand(I)Z -/
def yM_hand (a1 : Int32) (μ : XMu) : XRes := (if ¬ (μ.2.1 32 15) = (3 : Int32) then some (.inl (some (.int (0 : Int32))), (μ.1, (xuI μ.2.1 32 0 (0 : Int32)), μ.2.2)) else (if (0 : Int32) ≤ (μ.2.1 32 23) then some (.inl (some (.int (0 : Int32))), (μ.1, (xuI μ.2.1 32 0 (0 : Int32)), μ.2.2)) else (if (yM_within a1 (0 : Int32) (6 : Int32)) = (0 : Int32) then some (.inl (some (.int (0 : Int32))), (μ.1, (xuI μ.2.1 32 0 (0 : Int32)), μ.2.2)) else (if a1 = (μ.2.1 32 1) then some (.inl (some (.int (0 : Int32))), (μ.1, (xuI μ.2.1 32 0 (0 : Int32)), μ.2.2)) else xbi (yM_voters (μ.1, (xuI μ.2.1 32 0 (0 : Int32)), μ.2.2)) (fun r2 m1 => (if ¬ (yM_has r2 a1) = (0 : Int32) then xgd (xin a1 7) ((if ¬ (m1.2.1 37 (a1).toNatClampNeg) = (m1.2.1 32 10) then xbv (yM_sendTo a1 (0 : Int32) (m1.1, (xuI (xuI m1.2.1 32 23 a1) 32 24 (m1.2.1 32 3)), m1.2.2)) (fun m3 => some (.inl (some (.int (1 : Int32))), m3)) else xbv (yM_begin a1 (9 : Int32) (m1.2.1 32 4) (m1.1, (xuI (xuI m1.2.1 32 23 a1) 32 24 (m1.2.1 32 3)), m1.2.2)) (fun m4 => xbv (yM_send m4) (fun m5 => some (.inl (some (.int (1 : Int32))), m5))))) else some (.inl (some (.int (0 : Int32))), m1)))))))
theorem yM_hand_ok {L : Nat} {xs : Nat → Int32} (a1 : Int32) (μ : XMu) : XB L xs 225 0 [some (.ref 32), some (.int a1)] [] μ (yM_hand a1 μ) := by
  unfold yM_hand
  refine XB.go 6 (pc' := 10) (ls' := [some (.ref 32), some (.int a1)]) (st' := [(.int (3 : Int32)), (.int (μ.2.1 32 15))]) (μ' := (μ.1, (xuI μ.2.1 32 0 (0 : Int32)), μ.2.2)) rfl ?_
  refine XB.icmp (P := ¬ (μ.2.1 32 15) = (3 : Int32)) rfl rfl rfl (fun c10 => ?_) (fun c10 => ?_)
  · refine XB.go 1 (pc' := 50) (ls' := [some (.ref 32), some (.int a1)]) (st' := [(.int (0 : Int32))]) (μ' := (μ.1, (xuI μ.2.1 32 0 (0 : Int32)), μ.2.2)) rfl ?_
    exact XB.fin rfl
  · refine XB.go 2 (pc' := 17) (ls' := [some (.ref 32), some (.int a1)]) (st' := [(.int (μ.2.1 32 23))]) (μ' := (μ.1, (xuI μ.2.1 32 0 (0 : Int32)), μ.2.2)) rfl ?_
    refine XB.ifz (P := (0 : Int32) ≤ (μ.2.1 32 23)) rfl rfl rfl (fun c17 => ?_) (fun c17 => ?_)
    · refine XB.go 1 (pc' := 50) (ls' := [some (.ref 32), some (.int a1)]) (st' := [(.int (0 : Int32))]) (μ' := (μ.1, (xuI μ.2.1 32 0 (0 : Int32)), μ.2.2)) rfl ?_
      exact XB.fin rfl
    · refine XB.go 3 (pc' := 24) (ls' := [some (.ref 32), some (.int a1)]) (st' := [(.int (6 : Int32)), (.int (0 : Int32)), (.int a1)]) (μ' := (μ.1, (xuI μ.2.1 32 0 (0 : Int32)), μ.2.2)) rfl ?_
      refine XB.cp rfl rfl rfl (yM_within_ok a1 (0 : Int32) (6 : Int32) (μ.1, (xuI μ.2.1 32 0 (0 : Int32)), μ.2.2)) ?_
      refine XB.ifz (P := (yM_within a1 (0 : Int32) (6 : Int32)) = (0 : Int32)) rfl rfl rfl (fun c27 => ?_) (fun c27 => ?_)
      · refine XB.go 1 (pc' := 50) (ls' := [some (.ref 32), some (.int a1)]) (st' := [(.int (0 : Int32))]) (μ' := (μ.1, (xuI μ.2.1 32 0 (0 : Int32)), μ.2.2)) rfl ?_
        exact XB.fin rfl
      · refine XB.go 3 (pc' := 35) (ls' := [some (.ref 32), some (.int a1)]) (st' := [(.int (μ.2.1 32 1)), (.int a1)]) (μ' := (μ.1, (xuI μ.2.1 32 0 (0 : Int32)), μ.2.2)) rfl ?_
        refine XB.icmp (P := a1 = (μ.2.1 32 1)) rfl rfl rfl (fun c35 => ?_) (fun c35 => ?_)
        · refine XB.go 1 (pc' := 50) (ls' := [some (.ref 32), some (.int a1)]) (st' := [(.int (0 : Int32))]) (μ' := (μ.1, (xuI μ.2.1 32 0 (0 : Int32)), μ.2.2)) rfl ?_
          exact XB.fin rfl
        · refine XB.go 1 (pc' := 39) (ls' := [some (.ref 32), some (.int a1)]) (st' := [(.ref 32)]) (μ' := (μ.1, (xuI μ.2.1 32 0 (0 : Int32)), μ.2.2)) rfl ?_
          refine XB.ci rfl rfl rfl rfl rfl (yM_voters_ok (μ.1, (xuI μ.2.1 32 0 (0 : Int32)), μ.2.2)) (fun r2 m1 => ?_)
          refine XB.go 1 (pc' := 43) (ls' := [some (.ref 32), some (.int a1)]) (st' := [(.int a1), (.int r2)]) (μ' := m1) rfl ?_
          refine XB.cp rfl rfl rfl (yM_has_ok r2 a1 m1) ?_
          refine XB.ifz (P := ¬ (yM_has r2 a1) = (0 : Int32)) rfl rfl rfl (fun c46 => ?_) (fun c46 => ?_)
          · refine XB.go 10 (pc' := 69) (ls' := [some (.ref 32), some (.int a1)]) (st' := [(.int a1), (.ref 37)]) (μ' := (m1.1, (xuI (xuI m1.2.1 32 23 a1) 32 24 (m1.2.1 32 3)), m1.2.2)) rfl ?_
            refine XB.gd (pc' := 70) (ls' := [some (.ref 32), some (.int a1)]) (st' := [(.int (m1.2.1 37 (a1).toNatClampNeg))]) (μ' := (m1.1, (xuI (xuI m1.2.1 32 23 a1) 32 24 (m1.2.1 32 3)), m1.2.2)) rfl rfl rfl (fun hb => xbT hb) ?_
            refine XB.go 2 (pc' := 74) (ls' := [some (.ref 32), some (.int a1)]) (st' := [(.int (m1.2.1 32 10)), (.int (m1.2.1 37 (a1).toNatClampNeg))]) (μ' := (m1.1, (xuI (xuI m1.2.1 32 23 a1) 32 24 (m1.2.1 32 3)), m1.2.2)) rfl ?_
            refine XB.icmp (P := ¬ (m1.2.1 37 (a1).toNatClampNeg) = (m1.2.1 32 10)) rfl rfl rfl (fun c74 => ?_) (fun c74 => ?_)
            · refine XB.go 3 (pc' := 98) (ls' := [some (.ref 32), some (.int a1)]) (st' := [(.int (0 : Int32)), (.int a1), (.ref 32)]) (μ' := (m1.1, (xuI (xuI m1.2.1 32 23 a1) 32 24 (m1.2.1 32 3)), m1.2.2)) rfl ?_
              refine XB.cv rfl rfl rfl rfl rfl (yM_sendTo_ok a1 (0 : Int32) (m1.1, (xuI (xuI m1.2.1 32 23 a1) 32 24 (m1.2.1 32 3)), m1.2.2)) (fun m3 => ?_)
              refine XB.go 1 (pc' := 102) (ls' := [some (.ref 32), some (.int a1)]) (st' := [(.int (1 : Int32))]) (μ' := m3) rfl ?_
              exact XB.fin rfl
            · refine XB.go 5 (pc' := 85) (ls' := [some (.ref 32), some (.int a1)]) (st' := [(.int (m1.2.1 32 4)), (.int (9 : Int32)), (.int a1), (.ref 32)]) (μ' := (m1.1, (xuI (xuI m1.2.1 32 23 a1) 32 24 (m1.2.1 32 3)), m1.2.2)) rfl ?_
              refine XB.cv rfl rfl rfl rfl rfl (yM_begin_ok a1 (9 : Int32) (m1.2.1 32 4) (m1.1, (xuI (xuI m1.2.1 32 23 a1) 32 24 (m1.2.1 32 3)), m1.2.2)) (fun m4 => ?_)
              refine XB.go 1 (pc' := 89) (ls' := [some (.ref 32), some (.int a1)]) (st' := [(.ref 32)]) (μ' := m4) rfl ?_
              refine XB.cv rfl rfl rfl rfl rfl (yM_send_ok m4) (fun m5 => ?_)
              refine XB.go 2 (pc' := 102) (ls' := [some (.ref 32), some (.int a1)]) (st' := [(.int (1 : Int32))]) (μ' := m5) rfl ?_
              exact XB.fin rfl
          · refine XB.go 1 (pc' := 50) (ls' := [some (.ref 32), some (.int a1)]) (st' := [(.int (0 : Int32))]) (μ' := m1) rfl ?_
            exact XB.fin rfl
/-- LogServerModel.compact(I)Z -/
def yM_compact_b88   (μ : XMu) : XRes := some (.inl (some (.int (1 : Int32))), (μ.1, (xuI μ.2.1 32 14 (1 : Int32)), μ.2.2))
theorem yM_compact_b88_ok {L : Nat} {xs : Nat → Int32}  (d1 : Option Int32) (d2 : Option Int32) (d3 : Option Int32)  (μ : XMu) : XB L xs 226 88 [some (.ref 32), (xdl d1), (xdl d2), (xdl d3)] [] μ (yM_compact_b88   μ) := by
  unfold yM_compact_b88
  refine XB.go 4 (pc' := 94) (ls' := [some (.ref 32), (xdl d1), (xdl d2), (xdl d3)]) (st' := [(.int (1 : Int32))]) (μ' := (μ.1, (xuI μ.2.1 32 14 (1 : Int32)), μ.2.2)) rfl ?_
  exact XB.fin rfl
def yM_compact_b69 (k69 : Int32 → XMu → XRes) (x3 : Int32) (μ : XMu) : XRes := (if (7 : Int32) ≤ x3 then yM_compact_b88  μ else xgd (xin x3 7) (k69 (x3 + (1 : Int32)) (μ.1, (xuI μ.2.1 39 (x3).toNatClampNeg (0 : Int32)), μ.2.2)))
theorem yM_compact_b69_ok {L : Nat} {xs : Nat → Int32} (k69 : Int32 → XMu → XRes) (hk69 : ∀ (d1 : Option Int32) (d2 : Option Int32) (x3 : Int32) (μ : XMu), XB L xs 226 69 [some (.ref 32), (xdl d1), (xdl d2), some (.int x3)] [] μ (k69 x3 μ)) (d1 : Option Int32) (d2 : Option Int32) (x3 : Int32) (μ : XMu) : XB L xs 226 69 [some (.ref 32), (xdl d1), (xdl d2), some (.int x3)] [] μ (yM_compact_b69 k69 x3 μ) := by
  unfold yM_compact_b69
  refine XB.go 2 (pc' := 72) (ls' := [some (.ref 32), (xdl d1), (xdl d2), some (.int x3)]) (st' := [(.int (7 : Int32)), (.int x3)]) (μ' := μ) rfl ?_
  refine XB.icmp (P := (7 : Int32) ≤ x3) rfl rfl rfl (fun c72 => ?_) (fun c72 => ?_)
  · exact yM_compact_b88_ok  (d1) (d2) (some x3) μ
  · refine XB.go 4 (pc' := 81) (ls' := [some (.ref 32), (xdl d1), (xdl d2), some (.int x3)]) (st' := [(.int (0 : Int32)), (.int x3), (.ref 39)]) (μ' := μ) rfl ?_
    refine XB.gd (pc' := 82) (ls' := [some (.ref 32), (xdl d1), (xdl d2), some (.int x3)]) (st' := []) (μ' := (μ.1, (xuI μ.2.1 39 (x3).toNatClampNeg (0 : Int32)), μ.2.2)) rfl rfl rfl (fun hb => xbT hb) ?_
    refine XB.go 2 (pc' := 69) (ls' := [some (.ref 32), (xdl d1), (xdl d2), some (.int (x3 + (1 : Int32)))]) (st' := []) (μ' := (μ.1, (xuI μ.2.1 39 (x3).toNatClampNeg (0 : Int32)), μ.2.2)) (by cases d2 <;> rfl) ?_
    exact hk69 (d1) (d2) (x3 + (1 : Int32)) (μ.1, (xuI μ.2.1 39 (x3).toNatClampNeg (0 : Int32)), μ.2.2)
def yM_compact_b69_L  : Nat → Int32 → XMu → XRes
  | 0 => fun _ _ => none
  | n + 1 => yM_compact_b69 (yM_compact_b69_L  n)
theorem yM_compact_b69_Lok {L : Nat} {xs : Nat → Int32}  : ∀ (n : Nat) (d1 : Option Int32) (d2 : Option Int32) (x3 : Int32) (μ : XMu), XB L xs 226 69 [some (.ref 32), (xdl d1), (xdl d2), some (.int x3)] [] μ (yM_compact_b69_L  n x3 μ) := by
  intro n
  induction n with
  | zero => intro d1 d2 x3 μ r h; cases h
  | succ n ih => intro d1 d2 x3 μ; exact yM_compact_b69_ok (yM_compact_b69_L  n) ih d1 d2 x3 μ
def yM_compact (a1 : Int32) (μ : XMu) : XRes := (if (μ.2.1 32 18) = (μ.2.1 32 9) then some (.inl (some (.int (0 : Int32))), (μ.1, (xuI μ.2.1 32 0 (0 : Int32)), μ.2.2)) else (if ¬ (yM_within a1 (1 : Int32) (1000000 : Int32)) = (0 : Int32) then xbi (yM_codeAt (μ.2.1 32 18) (μ.1, (xuI μ.2.1 32 0 (0 : Int32)), μ.2.2)) (fun r2 m1 => xbi (yM_termAt (m1.2.1 32 18) m1) (fun r4 m3 => yM_compact_b69_L  1000 (0 : Int32) (m3.1, (xuI (xuI (xuI (xuI m3.2.1 32 11 r4) 32 12 r2) 32 9 (m3.2.1 32 18)) 32 13 a1), m3.2.2))) else some (.inl (some (.int (0 : Int32))), (μ.1, (xuI μ.2.1 32 0 (0 : Int32)), μ.2.2))))
theorem yM_compact_ok {L : Nat} {xs : Nat → Int32} (a1 : Int32) (μ : XMu) : XB L xs 226 0 [some (.ref 32), some (.int a1), none, none] [] μ (yM_compact a1 μ) := by
  unfold yM_compact
  refine XB.go 7 (pc' := 13) (ls' := [some (.ref 32), some (.int a1), none, none]) (st' := [(.int (μ.2.1 32 9)), (.int (μ.2.1 32 18))]) (μ' := (μ.1, (xuI μ.2.1 32 0 (0 : Int32)), μ.2.2)) rfl ?_
  refine XB.icmp (P := (μ.2.1 32 18) = (μ.2.1 32 9)) rfl rfl rfl (fun c13 => ?_) (fun c13 => ?_)
  · refine XB.go 1 (pc' := 27) (ls' := [some (.ref 32), some (.int a1), none, none]) (st' := [(.int (0 : Int32))]) (μ' := (μ.1, (xuI μ.2.1 32 0 (0 : Int32)), μ.2.2)) rfl ?_
    exact XB.fin rfl
  · refine XB.go 3 (pc' := 20) (ls' := [some (.ref 32), some (.int a1), none, none]) (st' := [(.int (1000000 : Int32)), (.int (1 : Int32)), (.int a1)]) (μ' := (μ.1, (xuI μ.2.1 32 0 (0 : Int32)), μ.2.2)) rfl ?_
    refine XB.cp rfl rfl rfl (yM_within_ok a1 (1 : Int32) (1000000 : Int32) (μ.1, (xuI μ.2.1 32 0 (0 : Int32)), μ.2.2)) ?_
    refine XB.ifz (P := ¬ (yM_within a1 (1 : Int32) (1000000 : Int32)) = (0 : Int32)) rfl rfl rfl (fun c23 => ?_) (fun c23 => ?_)
    · refine XB.go 3 (pc' := 33) (ls' := [some (.ref 32), some (.int a1), none, none]) (st' := [(.int (μ.2.1 32 18)), (.ref 32)]) (μ' := (μ.1, (xuI μ.2.1 32 0 (0 : Int32)), μ.2.2)) rfl ?_
      refine XB.ci rfl rfl rfl rfl rfl (yM_codeAt_ok (μ.2.1 32 18) (μ.1, (xuI μ.2.1 32 0 (0 : Int32)), μ.2.2)) (fun r2 m1 => ?_)
      refine XB.go 5 (pc' := 43) (ls' := [some (.ref 32), some (.int a1), some (.int r2), none]) (st' := [(.int (m1.2.1 32 18)), (.ref 32), (.ref 32)]) (μ' := m1) rfl ?_
      refine XB.ci rfl rfl rfl rfl rfl (yM_termAt_ok (m1.2.1 32 18) m1) (fun r4 m3 => ?_)
      refine XB.go 13 (pc' := 69) (ls' := [some (.ref 32), some (.int a1), some (.int r2), some (.int (0 : Int32))]) (st' := []) (μ' := (m3.1, (xuI (xuI (xuI (xuI m3.2.1 32 11 r4) 32 12 r2) 32 9 (m3.2.1 32 18)) 32 13 a1), m3.2.2)) rfl ?_
      exact yM_compact_b69_Lok  1000 (some a1) (some r2) (0 : Int32) (m3.1, (xuI (xuI (xuI (xuI m3.2.1 32 11 r4) 32 12 r2) 32 9 (m3.2.1 32 18)) 32 13 a1), m3.2.2)
    · refine XB.go 1 (pc' := 27) (ls' := [some (.ref 32), some (.int a1), none, none]) (st' := [(.int (0 : Int32))]) (μ' := (μ.1, (xuI μ.2.1 32 0 (0 : Int32)), μ.2.2)) rfl ?_
      exact XB.fin rfl
/-- LogServerModel.state(I)I -/
def yM_state (a1 : Int32) (μ : XMu) : XRes := (if ¬ (yM_within a1 (0 : Int32) (19 : Int32)) = (0 : Int32) then (if (4 : Int32) ≤ a1 then (if (9 : Int32) ≤ a1 then (if (13 : Int32) ≤ a1 then (if (16 : Int32) ≤ a1 then (if ¬ a1 = (16 : Int32) then (if ¬ a1 = (17 : Int32) then (if ¬ a1 = (18 : Int32) then some (.inl (some (.int (μ.2.1 32 55))), (μ.1, (xuI μ.2.1 32 0 (0 : Int32)), μ.2.2)) else some (.inl (some (.int (μ.2.1 32 52))), (μ.1, (xuI μ.2.1 32 0 (0 : Int32)), μ.2.2))) else some (.inl (some (.int (μ.2.1 32 49))), (μ.1, (xuI μ.2.1 32 0 (0 : Int32)), μ.2.2))) else some (.inl (some (.int (μ.2.1 32 50))), (μ.1, (xuI μ.2.1 32 0 (0 : Int32)), μ.2.2))) else (if ¬ a1 = (13 : Int32) then (if ¬ a1 = (14 : Int32) then (if ¬ (μ.2.1 32 15) = (3 : Int32) then some (.inl (some (.int (0 : Int32))), (μ.1, (xuI μ.2.1 32 0 (0 : Int32)), μ.2.2)) else some (.inl (some (.int (μ.2.1 32 26))), (μ.1, (xuI μ.2.1 32 0 (0 : Int32)), μ.2.2))) else (if (μ.2.1 32 14) = (0 : Int32) then some (.inl (some (.int (0 : Int32))), (μ.1, (xuI μ.2.1 32 0 (0 : Int32)), μ.2.2)) else some (.inl (some (.int (1 : Int32))), (μ.1, (xuI μ.2.1 32 0 (0 : Int32)), μ.2.2)))) else some (.inl (some (.int (μ.2.1 32 3))), (μ.1, (xuI μ.2.1 32 0 (0 : Int32)), μ.2.2)))) else (if ¬ a1 = (9 : Int32) then (if ¬ a1 = (10 : Int32) then (if ¬ a1 = (11 : Int32) then some (.inl (some (.int (μ.2.1 32 21))), (μ.1, (xuI μ.2.1 32 0 (0 : Int32)), μ.2.2)) else some (.inl (some (.int (μ.2.1 32 23))), (μ.1, (xuI μ.2.1 32 0 (0 : Int32)), μ.2.2))) else some (.inl (some (.int (μ.2.1 32 22))), (μ.1, (xuI μ.2.1 32 0 (0 : Int32)), μ.2.2))) else xbi (yM_code (μ.1, (xuI μ.2.1 32 0 (0 : Int32)), μ.2.2)) (fun r2 m1 => some (.inl (some (.int r2)), m1)))) else (if ¬ a1 = (4 : Int32) then (if ¬ a1 = (5 : Int32) then (if ¬ a1 = (6 : Int32) then (if ¬ a1 = (7 : Int32) then some (.inl (some (.int (μ.2.1 32 10))), (μ.1, (xuI μ.2.1 32 0 (0 : Int32)), μ.2.2)) else some (.inl (some (.int (μ.2.1 32 9))), (μ.1, (xuI μ.2.1 32 0 (0 : Int32)), μ.2.2))) else some (.inl (some (.int (μ.2.1 32 19))), (μ.1, (xuI μ.2.1 32 0 (0 : Int32)), μ.2.2))) else some (.inl (some (.int (μ.2.1 32 18))), (μ.1, (xuI μ.2.1 32 0 (0 : Int32)), μ.2.2))) else some (.inl (some (.int (μ.2.1 32 17))), (μ.1, (xuI μ.2.1 32 0 (0 : Int32)), μ.2.2)))) else (if ¬ a1 = (0 : Int32) then (if ¬ a1 = (1 : Int32) then (if ¬ a1 = (2 : Int32) then some (.inl (some (.int (μ.2.1 32 16))), (μ.1, (xuI μ.2.1 32 0 (0 : Int32)), μ.2.2)) else some (.inl (some (.int (μ.2.1 32 5))), (μ.1, (xuI μ.2.1 32 0 (0 : Int32)), μ.2.2))) else some (.inl (some (.int (μ.2.1 32 4))), (μ.1, (xuI μ.2.1 32 0 (0 : Int32)), μ.2.2))) else some (.inl (some (.int (μ.2.1 32 15))), (μ.1, (xuI μ.2.1 32 0 (0 : Int32)), μ.2.2)))) else xbi (yM_fail (1 : Int32) (μ.1, (xuI μ.2.1 32 0 (0 : Int32)), μ.2.2)) (fun r4 m3 => some (.inl (some (.int r4)), m3)))
theorem yM_state_ok {L : Nat} {xs : Nat → Int32} (a1 : Int32) (μ : XMu) : XB L xs 227 0 [some (.ref 32), some (.int a1)] [] μ (yM_state a1 μ) := by
  unfold yM_state
  refine XB.go 6 (pc' := 9) (ls' := [some (.ref 32), some (.int a1)]) (st' := [(.int (19 : Int32)), (.int (0 : Int32)), (.int a1)]) (μ' := (μ.1, (xuI μ.2.1 32 0 (0 : Int32)), μ.2.2)) rfl ?_
  refine XB.cp rfl rfl rfl (yM_within_ok a1 (0 : Int32) (19 : Int32) (μ.1, (xuI μ.2.1 32 0 (0 : Int32)), μ.2.2)) ?_
  refine XB.ifz (P := ¬ (yM_within a1 (0 : Int32) (19 : Int32)) = (0 : Int32)) rfl rfl rfl (fun c12 => ?_) (fun c12 => ?_)
  · refine XB.go 2 (pc' := 23) (ls' := [some (.ref 32), some (.int a1)]) (st' := [(.int (4 : Int32)), (.int a1)]) (μ' := (μ.1, (xuI μ.2.1 32 0 (0 : Int32)), μ.2.2)) rfl ?_
    refine XB.icmp (P := (4 : Int32) ≤ a1) rfl rfl rfl (fun c23 => ?_) (fun c23 => ?_)
    · refine XB.go 2 (pc' := 69) (ls' := [some (.ref 32), some (.int a1)]) (st' := [(.int (9 : Int32)), (.int a1)]) (μ' := (μ.1, (xuI μ.2.1 32 0 (0 : Int32)), μ.2.2)) rfl ?_
      refine XB.icmp (P := (9 : Int32) ≤ a1) rfl rfl rfl (fun c69 => ?_) (fun c69 => ?_)
      · refine XB.go 2 (pc' := 130) (ls' := [some (.ref 32), some (.int a1)]) (st' := [(.int (13 : Int32)), (.int a1)]) (μ' := (μ.1, (xuI μ.2.1 32 0 (0 : Int32)), μ.2.2)) rfl ?_
        refine XB.icmp (P := (13 : Int32) ≤ a1) rfl rfl rfl (fun c130 => ?_) (fun c130 => ?_)
        · refine XB.go 2 (pc' := 180) (ls' := [some (.ref 32), some (.int a1)]) (st' := [(.int (16 : Int32)), (.int a1)]) (μ' := (μ.1, (xuI μ.2.1 32 0 (0 : Int32)), μ.2.2)) rfl ?_
          refine XB.icmp (P := (16 : Int32) ≤ a1) rfl rfl rfl (fun c180 => ?_) (fun c180 => ?_)
          · refine XB.go 2 (pc' := 237) (ls' := [some (.ref 32), some (.int a1)]) (st' := [(.int (16 : Int32)), (.int a1)]) (μ' := (μ.1, (xuI μ.2.1 32 0 (0 : Int32)), μ.2.2)) rfl ?_
            refine XB.icmp (P := ¬ a1 = (16 : Int32)) rfl rfl rfl (fun c237 => ?_) (fun c237 => ?_)
            · refine XB.go 2 (pc' := 250) (ls' := [some (.ref 32), some (.int a1)]) (st' := [(.int (17 : Int32)), (.int a1)]) (μ' := (μ.1, (xuI μ.2.1 32 0 (0 : Int32)), μ.2.2)) rfl ?_
              refine XB.icmp (P := ¬ a1 = (17 : Int32)) rfl rfl rfl (fun c250 => ?_) (fun c250 => ?_)
              · refine XB.go 2 (pc' := 263) (ls' := [some (.ref 32), some (.int a1)]) (st' := [(.int (18 : Int32)), (.int a1)]) (μ' := (μ.1, (xuI μ.2.1 32 0 (0 : Int32)), μ.2.2)) rfl ?_
                refine XB.icmp (P := ¬ a1 = (18 : Int32)) rfl rfl rfl (fun c263 => ?_) (fun c263 => ?_)
                · refine XB.go 2 (pc' := 277) (ls' := [some (.ref 32), some (.int a1)]) (st' := [(.int (μ.2.1 32 55))]) (μ' := (μ.1, (xuI μ.2.1 32 0 (0 : Int32)), μ.2.2)) rfl ?_
                  exact XB.fin rfl
                · refine XB.go 3 (pc' := 277) (ls' := [some (.ref 32), some (.int a1)]) (st' := [(.int (μ.2.1 32 52))]) (μ' := (μ.1, (xuI μ.2.1 32 0 (0 : Int32)), μ.2.2)) rfl ?_
                  exact XB.fin rfl
              · refine XB.go 3 (pc' := 277) (ls' := [some (.ref 32), some (.int a1)]) (st' := [(.int (μ.2.1 32 49))]) (μ' := (μ.1, (xuI μ.2.1 32 0 (0 : Int32)), μ.2.2)) rfl ?_
                exact XB.fin rfl
            · refine XB.go 3 (pc' := 277) (ls' := [some (.ref 32), some (.int a1)]) (st' := [(.int (μ.2.1 32 50))]) (μ' := (μ.1, (xuI μ.2.1 32 0 (0 : Int32)), μ.2.2)) rfl ?_
              exact XB.fin rfl
          · refine XB.go 2 (pc' := 186) (ls' := [some (.ref 32), some (.int a1)]) (st' := [(.int (13 : Int32)), (.int a1)]) (μ' := (μ.1, (xuI μ.2.1 32 0 (0 : Int32)), μ.2.2)) rfl ?_
            refine XB.icmp (P := ¬ a1 = (13 : Int32)) rfl rfl rfl (fun c186 => ?_) (fun c186 => ?_)
            · refine XB.go 2 (pc' := 199) (ls' := [some (.ref 32), some (.int a1)]) (st' := [(.int (14 : Int32)), (.int a1)]) (μ' := (μ.1, (xuI μ.2.1 32 0 (0 : Int32)), μ.2.2)) rfl ?_
              refine XB.icmp (P := ¬ a1 = (14 : Int32)) rfl rfl rfl (fun c199 => ?_) (fun c199 => ?_)
              · refine XB.go 3 (pc' := 222) (ls' := [some (.ref 32), some (.int a1)]) (st' := [(.int (3 : Int32)), (.int (μ.2.1 32 15))]) (μ' := (μ.1, (xuI μ.2.1 32 0 (0 : Int32)), μ.2.2)) rfl ?_
                refine XB.icmp (P := ¬ (μ.2.1 32 15) = (3 : Int32)) rfl rfl rfl (fun c222 => ?_) (fun c222 => ?_)
                · refine XB.go 1 (pc' := 233) (ls' := [some (.ref 32), some (.int a1)]) (st' := [(.int (0 : Int32))]) (μ' := (μ.1, (xuI μ.2.1 32 0 (0 : Int32)), μ.2.2)) rfl ?_
                  exact XB.fin rfl
                · refine XB.go 3 (pc' := 233) (ls' := [some (.ref 32), some (.int a1)]) (st' := [(.int (μ.2.1 32 26))]) (μ' := (μ.1, (xuI μ.2.1 32 0 (0 : Int32)), μ.2.2)) rfl ?_
                  exact XB.fin rfl
              · refine XB.go 2 (pc' := 206) (ls' := [some (.ref 32), some (.int a1)]) (st' := [(.int (μ.2.1 32 14))]) (μ' := (μ.1, (xuI μ.2.1 32 0 (0 : Int32)), μ.2.2)) rfl ?_
                refine XB.ifz (P := (μ.2.1 32 14) = (0 : Int32)) rfl rfl rfl (fun c206 => ?_) (fun c206 => ?_)
                · refine XB.go 2 (pc' := 233) (ls' := [some (.ref 32), some (.int a1)]) (st' := [(.int (0 : Int32))]) (μ' := (μ.1, (xuI μ.2.1 32 0 (0 : Int32)), μ.2.2)) rfl ?_
                  exact XB.fin rfl
                · refine XB.go 2 (pc' := 233) (ls' := [some (.ref 32), some (.int a1)]) (st' := [(.int (1 : Int32))]) (μ' := (μ.1, (xuI μ.2.1 32 0 (0 : Int32)), μ.2.2)) rfl ?_
                  exact XB.fin rfl
            · refine XB.go 3 (pc' := 233) (ls' := [some (.ref 32), some (.int a1)]) (st' := [(.int (μ.2.1 32 3))]) (μ' := (μ.1, (xuI μ.2.1 32 0 (0 : Int32)), μ.2.2)) rfl ?_
              exact XB.fin rfl
        · refine XB.go 2 (pc' := 136) (ls' := [some (.ref 32), some (.int a1)]) (st' := [(.int (9 : Int32)), (.int a1)]) (μ' := (μ.1, (xuI μ.2.1 32 0 (0 : Int32)), μ.2.2)) rfl ?_
          refine XB.icmp (P := ¬ a1 = (9 : Int32)) rfl rfl rfl (fun c136 => ?_) (fun c136 => ?_)
          · refine XB.go 2 (pc' := 149) (ls' := [some (.ref 32), some (.int a1)]) (st' := [(.int (10 : Int32)), (.int a1)]) (μ' := (μ.1, (xuI μ.2.1 32 0 (0 : Int32)), μ.2.2)) rfl ?_
            refine XB.icmp (P := ¬ a1 = (10 : Int32)) rfl rfl rfl (fun c149 => ?_) (fun c149 => ?_)
            · refine XB.go 2 (pc' := 162) (ls' := [some (.ref 32), some (.int a1)]) (st' := [(.int (11 : Int32)), (.int a1)]) (μ' := (μ.1, (xuI μ.2.1 32 0 (0 : Int32)), μ.2.2)) rfl ?_
              refine XB.icmp (P := ¬ a1 = (11 : Int32)) rfl rfl rfl (fun c162 => ?_) (fun c162 => ?_)
              · refine XB.go 2 (pc' := 176) (ls' := [some (.ref 32), some (.int a1)]) (st' := [(.int (μ.2.1 32 21))]) (μ' := (μ.1, (xuI μ.2.1 32 0 (0 : Int32)), μ.2.2)) rfl ?_
                exact XB.fin rfl
              · refine XB.go 3 (pc' := 176) (ls' := [some (.ref 32), some (.int a1)]) (st' := [(.int (μ.2.1 32 23))]) (μ' := (μ.1, (xuI μ.2.1 32 0 (0 : Int32)), μ.2.2)) rfl ?_
                exact XB.fin rfl
            · refine XB.go 3 (pc' := 176) (ls' := [some (.ref 32), some (.int a1)]) (st' := [(.int (μ.2.1 32 22))]) (μ' := (μ.1, (xuI μ.2.1 32 0 (0 : Int32)), μ.2.2)) rfl ?_
              exact XB.fin rfl
          · refine XB.go 1 (pc' := 140) (ls' := [some (.ref 32), some (.int a1)]) (st' := [(.ref 32)]) (μ' := (μ.1, (xuI μ.2.1 32 0 (0 : Int32)), μ.2.2)) rfl ?_
            refine XB.ci rfl rfl rfl rfl rfl (yM_code_ok (μ.1, (xuI μ.2.1 32 0 (0 : Int32)), μ.2.2)) (fun r2 m1 => ?_)
            refine XB.go 1 (pc' := 176) (ls' := [some (.ref 32), some (.int a1)]) (st' := [(.int r2)]) (μ' := m1) rfl ?_
            exact XB.fin rfl
      · refine XB.go 2 (pc' := 74) (ls' := [some (.ref 32), some (.int a1)]) (st' := [(.int (4 : Int32)), (.int a1)]) (μ' := (μ.1, (xuI μ.2.1 32 0 (0 : Int32)), μ.2.2)) rfl ?_
        refine XB.icmp (P := ¬ a1 = (4 : Int32)) rfl rfl rfl (fun c74 => ?_) (fun c74 => ?_)
        · refine XB.go 2 (pc' := 86) (ls' := [some (.ref 32), some (.int a1)]) (st' := [(.int (5 : Int32)), (.int a1)]) (μ' := (μ.1, (xuI μ.2.1 32 0 (0 : Int32)), μ.2.2)) rfl ?_
          refine XB.icmp (P := ¬ a1 = (5 : Int32)) rfl rfl rfl (fun c86 => ?_) (fun c86 => ?_)
          · refine XB.go 2 (pc' := 99) (ls' := [some (.ref 32), some (.int a1)]) (st' := [(.int (6 : Int32)), (.int a1)]) (μ' := (μ.1, (xuI μ.2.1 32 0 (0 : Int32)), μ.2.2)) rfl ?_
            refine XB.icmp (P := ¬ a1 = (6 : Int32)) rfl rfl rfl (fun c99 => ?_) (fun c99 => ?_)
            · refine XB.go 2 (pc' := 112) (ls' := [some (.ref 32), some (.int a1)]) (st' := [(.int (7 : Int32)), (.int a1)]) (μ' := (μ.1, (xuI μ.2.1 32 0 (0 : Int32)), μ.2.2)) rfl ?_
              refine XB.icmp (P := ¬ a1 = (7 : Int32)) rfl rfl rfl (fun c112 => ?_) (fun c112 => ?_)
              · refine XB.go 2 (pc' := 126) (ls' := [some (.ref 32), some (.int a1)]) (st' := [(.int (μ.2.1 32 10))]) (μ' := (μ.1, (xuI μ.2.1 32 0 (0 : Int32)), μ.2.2)) rfl ?_
                exact XB.fin rfl
              · refine XB.go 3 (pc' := 126) (ls' := [some (.ref 32), some (.int a1)]) (st' := [(.int (μ.2.1 32 9))]) (μ' := (μ.1, (xuI μ.2.1 32 0 (0 : Int32)), μ.2.2)) rfl ?_
                exact XB.fin rfl
            · refine XB.go 3 (pc' := 126) (ls' := [some (.ref 32), some (.int a1)]) (st' := [(.int (μ.2.1 32 19))]) (μ' := (μ.1, (xuI μ.2.1 32 0 (0 : Int32)), μ.2.2)) rfl ?_
              exact XB.fin rfl
          · refine XB.go 3 (pc' := 126) (ls' := [some (.ref 32), some (.int a1)]) (st' := [(.int (μ.2.1 32 18))]) (μ' := (μ.1, (xuI μ.2.1 32 0 (0 : Int32)), μ.2.2)) rfl ?_
            exact XB.fin rfl
        · refine XB.go 3 (pc' := 126) (ls' := [some (.ref 32), some (.int a1)]) (st' := [(.int (μ.2.1 32 17))]) (μ' := (μ.1, (xuI μ.2.1 32 0 (0 : Int32)), μ.2.2)) rfl ?_
          exact XB.fin rfl
    · refine XB.go 1 (pc' := 27) (ls' := [some (.ref 32), some (.int a1)]) (st' := [(.int a1)]) (μ' := (μ.1, (xuI μ.2.1 32 0 (0 : Int32)), μ.2.2)) rfl ?_
      refine XB.ifz (P := ¬ a1 = (0 : Int32)) rfl rfl rfl (fun c27 => ?_) (fun c27 => ?_)
      · refine XB.go 2 (pc' := 39) (ls' := [some (.ref 32), some (.int a1)]) (st' := [(.int (1 : Int32)), (.int a1)]) (μ' := (μ.1, (xuI μ.2.1 32 0 (0 : Int32)), μ.2.2)) rfl ?_
        refine XB.icmp (P := ¬ a1 = (1 : Int32)) rfl rfl rfl (fun c39 => ?_) (fun c39 => ?_)
        · refine XB.go 2 (pc' := 51) (ls' := [some (.ref 32), some (.int a1)]) (st' := [(.int (2 : Int32)), (.int a1)]) (μ' := (μ.1, (xuI μ.2.1 32 0 (0 : Int32)), μ.2.2)) rfl ?_
          refine XB.icmp (P := ¬ a1 = (2 : Int32)) rfl rfl rfl (fun c51 => ?_) (fun c51 => ?_)
          · refine XB.go 2 (pc' := 65) (ls' := [some (.ref 32), some (.int a1)]) (st' := [(.int (μ.2.1 32 16))]) (μ' := (μ.1, (xuI μ.2.1 32 0 (0 : Int32)), μ.2.2)) rfl ?_
            exact XB.fin rfl
          · refine XB.go 3 (pc' := 65) (ls' := [some (.ref 32), some (.int a1)]) (st' := [(.int (μ.2.1 32 5))]) (μ' := (μ.1, (xuI μ.2.1 32 0 (0 : Int32)), μ.2.2)) rfl ?_
            exact XB.fin rfl
        · refine XB.go 3 (pc' := 65) (ls' := [some (.ref 32), some (.int a1)]) (st' := [(.int (μ.2.1 32 4))]) (μ' := (μ.1, (xuI μ.2.1 32 0 (0 : Int32)), μ.2.2)) rfl ?_
          exact XB.fin rfl
      · refine XB.go 3 (pc' := 65) (ls' := [some (.ref 32), some (.int a1)]) (st' := [(.int (μ.2.1 32 15))]) (μ' := (μ.1, (xuI μ.2.1 32 0 (0 : Int32)), μ.2.2)) rfl ?_
        exact XB.fin rfl
  · refine XB.go 2 (pc' := 17) (ls' := [some (.ref 32), some (.int a1)]) (st' := [(.int (1 : Int32)), (.ref 32)]) (μ' := (μ.1, (xuI μ.2.1 32 0 (0 : Int32)), μ.2.2)) rfl ?_
    refine XB.ci rfl rfl rfl rfl rfl (yM_fail_ok (1 : Int32) (μ.1, (xuI μ.2.1 32 0 (0 : Int32)), μ.2.2)) (fun r4 m3 => ?_)
    exact XB.fin rfl
/-- LogServerModel.log(II)I -/
def yM_log_b32  (x1 : Int32) (x2 : Int32) (s0 : Int32) (s1 : Int32) (μ : XMu) : XRes := (if ¬ (yM_within s0 s1 (μ.2.1 32 10)) = (0 : Int32) then (if ¬ x2 = (0 : Int32) then (if ¬ x2 = (1 : Int32) then xgd (xin (x1 - x1 / (512 : Int32) * (512 : Int32)) 512) (some (.inl (some (.int (μ.2.1 35 ((x1 - x1 / (512 : Int32) * (512 : Int32))).toNatClampNeg))), μ)) else xgd (xin (x1 - x1 / (512 : Int32) * (512 : Int32)) 512) (some (.inl (some (.int (μ.2.1 34 ((x1 - x1 / (512 : Int32) * (512 : Int32))).toNatClampNeg))), μ))) else xbi (yM_termAt x1 μ) (fun r4 m3 => some (.inl (some (.int r4)), m3))) else xbi (yM_fail (1 : Int32) μ) (fun r6 m5 => some (.inl (some (.int r6)), m5)))
theorem yM_log_b32_ok {L : Nat} {xs : Nat → Int32}   (x1 : Int32) (x2 : Int32) (s0 : Int32) (s1 : Int32) (μ : XMu) : XB L xs 228 32 [some (.ref 32), some (.int x1), some (.int x2)] [(.int s1), (.int s0)] μ (yM_log_b32  x1 x2 s0 s1 μ) := by
  unfold yM_log_b32
  refine XB.go 2 (pc' := 36) (ls' := [some (.ref 32), some (.int x1), some (.int x2)]) (st' := [(.int (μ.2.1 32 10)), (.int s1), (.int s0)]) (μ' := μ) rfl ?_
  refine XB.cp rfl rfl rfl (yM_within_ok s0 s1 (μ.2.1 32 10) μ) ?_
  refine XB.ifz (P := ¬ (yM_within s0 s1 (μ.2.1 32 10)) = (0 : Int32)) rfl rfl rfl (fun c39 => ?_) (fun c39 => ?_)
  · refine XB.go 1 (pc' := 49) (ls' := [some (.ref 32), some (.int x1), some (.int x2)]) (st' := [(.int x2)]) (μ' := μ) rfl ?_
    refine XB.ifz (P := ¬ x2 = (0 : Int32)) rfl rfl rfl (fun c49 => ?_) (fun c49 => ?_)
    · refine XB.go 2 (pc' := 62) (ls' := [some (.ref 32), some (.int x1), some (.int x2)]) (st' := [(.int (1 : Int32)), (.int x2)]) (μ' := μ) rfl ?_
      refine XB.icmp (P := ¬ x2 = (1 : Int32)) rfl rfl rfl (fun c62 => ?_) (fun c62 => ?_)
      · refine XB.go 5 (pc' := 87) (ls' := [some (.ref 32), some (.int x1), some (.int x2)]) (st' := [(.int (x1 - x1 / (512 : Int32) * (512 : Int32))), (.ref 35)]) (μ' := μ) rfl ?_
        refine XB.gd (pc' := 88) (ls' := [some (.ref 32), some (.int x1), some (.int x2)]) (st' := [(.int (μ.2.1 35 ((x1 - x1 / (512 : Int32) * (512 : Int32))).toNatClampNeg))]) (μ' := μ) rfl rfl rfl (fun hb => xbT hb) ?_
        exact XB.fin rfl
      · refine XB.go 5 (pc' := 74) (ls' := [some (.ref 32), some (.int x1), some (.int x2)]) (st' := [(.int (x1 - x1 / (512 : Int32) * (512 : Int32))), (.ref 34)]) (μ' := μ) rfl ?_
        refine XB.gd (pc' := 75) (ls' := [some (.ref 32), some (.int x1), some (.int x2)]) (st' := [(.int (μ.2.1 34 ((x1 - x1 / (512 : Int32) * (512 : Int32))).toNatClampNeg))]) (μ' := μ) rfl rfl rfl (fun hb => xbT hb) ?_
        refine XB.go 1 (pc' := 88) (ls' := [some (.ref 32), some (.int x1), some (.int x2)]) (st' := [(.int (μ.2.1 34 ((x1 - x1 / (512 : Int32) * (512 : Int32))).toNatClampNeg))]) (μ' := μ) rfl ?_
        exact XB.fin rfl
    · refine XB.go 2 (pc' := 54) (ls' := [some (.ref 32), some (.int x1), some (.int x2)]) (st' := [(.int x1), (.ref 32)]) (μ' := μ) rfl ?_
      refine XB.ci rfl rfl rfl rfl rfl (yM_termAt_ok x1 μ) (fun r4 m3 => ?_)
      refine XB.go 1 (pc' := 88) (ls' := [some (.ref 32), some (.int x1), some (.int x2)]) (st' := [(.int r4)]) (μ' := m3) rfl ?_
      exact XB.fin rfl
  · refine XB.go 2 (pc' := 44) (ls' := [some (.ref 32), some (.int x1), some (.int x2)]) (st' := [(.int (1 : Int32)), (.ref 32)]) (μ' := μ) rfl ?_
    refine XB.ci rfl rfl rfl rfl rfl (yM_fail_ok (1 : Int32) μ) (fun r6 m5 => ?_)
    exact XB.fin rfl
def yM_log (a1 : Int32) (a2 : Int32) (μ : XMu) : XRes := (if (yM_within a2 (0 : Int32) (2 : Int32)) = (0 : Int32) then xbi (yM_fail (1 : Int32) (μ.1, (xuI μ.2.1 32 0 (0 : Int32)), μ.2.2)) (fun r2 m1 => some (.inl (some (.int r2)), m1)) else (if ¬ a2 = (0 : Int32) then yM_log_b32  a1 a2 a1 ((μ.2.1 32 9) + (1 : Int32)) (μ.1, (xuI μ.2.1 32 0 (0 : Int32)), μ.2.2) else yM_log_b32  a1 a2 a1 (μ.2.1 32 9) (μ.1, (xuI μ.2.1 32 0 (0 : Int32)), μ.2.2)))
theorem yM_log_ok {L : Nat} {xs : Nat → Int32} (a1 : Int32) (a2 : Int32) (μ : XMu) : XB L xs 228 0 [some (.ref 32), some (.int a1), some (.int a2)] [] μ (yM_log a1 a2 μ) := by
  unfold yM_log
  refine XB.go 6 (pc' := 8) (ls' := [some (.ref 32), some (.int a1), some (.int a2)]) (st' := [(.int (2 : Int32)), (.int (0 : Int32)), (.int a2)]) (μ' := (μ.1, (xuI μ.2.1 32 0 (0 : Int32)), μ.2.2)) rfl ?_
  refine XB.cp rfl rfl rfl (yM_within_ok a2 (0 : Int32) (2 : Int32) (μ.1, (xuI μ.2.1 32 0 (0 : Int32)), μ.2.2)) ?_
  refine XB.ifz (P := (yM_within a2 (0 : Int32) (2 : Int32)) = (0 : Int32)) rfl rfl rfl (fun c11 => ?_) (fun c11 => ?_)
  · refine XB.go 2 (pc' := 44) (ls' := [some (.ref 32), some (.int a1), some (.int a2)]) (st' := [(.int (1 : Int32)), (.ref 32)]) (μ' := (μ.1, (xuI μ.2.1 32 0 (0 : Int32)), μ.2.2)) rfl ?_
    refine XB.ci rfl rfl rfl rfl rfl (yM_fail_ok (1 : Int32) (μ.1, (xuI μ.2.1 32 0 (0 : Int32)), μ.2.2)) (fun r2 m1 => ?_)
    exact XB.fin rfl
  · refine XB.go 2 (pc' := 16) (ls' := [some (.ref 32), some (.int a1), some (.int a2)]) (st' := [(.int a2), (.int a1)]) (μ' := (μ.1, (xuI μ.2.1 32 0 (0 : Int32)), μ.2.2)) rfl ?_
    refine XB.ifz (P := ¬ a2 = (0 : Int32)) rfl rfl rfl (fun c16 => ?_) (fun c16 => ?_)
    · refine XB.go 4 (pc' := 32) (ls' := [some (.ref 32), some (.int a1), some (.int a2)]) (st' := [(.int ((μ.2.1 32 9) + (1 : Int32))), (.int a1)]) (μ' := (μ.1, (xuI μ.2.1 32 0 (0 : Int32)), μ.2.2)) rfl ?_
      exact yM_log_b32_ok   a1 a2 a1 ((μ.2.1 32 9) + (1 : Int32)) (μ.1, (xuI μ.2.1 32 0 (0 : Int32)), μ.2.2)
    · refine XB.go 3 (pc' := 32) (ls' := [some (.ref 32), some (.int a1), some (.int a2)]) (st' := [(.int (μ.2.1 32 9)), (.int a1)]) (μ' := (μ.1, (xuI μ.2.1 32 0 (0 : Int32)), μ.2.2)) rfl ?_
      exact yM_log_b32_ok   a1 a2 a1 (μ.2.1 32 9) (μ.1, (xuI μ.2.1 32 0 (0 : Int32)), μ.2.2)
/-- LogServerModel.peer(II)I -/
def yM_peer (a1 : Int32) (a2 : Int32) (μ : XMu) : XRes := (if ¬ (μ.2.1 32 15) = (3 : Int32) then xbi (yM_fail (1 : Int32) (μ.1, (xuI μ.2.1 32 0 (0 : Int32)), μ.2.2)) (fun r2 m1 => some (.inl (some (.int r2)), m1)) else (if (yM_within a1 (0 : Int32) (6 : Int32)) = (0 : Int32) then xbi (yM_fail (1 : Int32) (μ.1, (xuI μ.2.1 32 0 (0 : Int32)), μ.2.2)) (fun r4 m3 => some (.inl (some (.int r4)), m3)) else (if ¬ (yM_within a2 (0 : Int32) (6 : Int32)) = (0 : Int32) then (if (3 : Int32) ≤ a2 then (if ¬ a2 = (3 : Int32) then (if ¬ a2 = (4 : Int32) then (if ¬ a2 = (5 : Int32) then xgd (xin a1 7) (some (.inl (some (.int (μ.2.1 41 (a1).toNatClampNeg))), (μ.1, (xuI μ.2.1 32 0 (0 : Int32)), μ.2.2))) else xgd (xin a1 7) (some (.inl (some (.int (μ.2.1 40 (a1).toNatClampNeg))), (μ.1, (xuI μ.2.1 32 0 (0 : Int32)), μ.2.2)))) else xgd (xin a1 7) (some (.inl (some (.int (μ.2.1 39 (a1).toNatClampNeg))), (μ.1, (xuI μ.2.1 32 0 (0 : Int32)), μ.2.2)))) else xgd (xin a1 7) ((if (μ.2.1 42 (a1).toNatClampNeg) = (0 : Int32) then some (.inl (some (.int (0 : Int32))), (μ.1, (xuI μ.2.1 32 0 (0 : Int32)), μ.2.2)) else some (.inl (some (.int (1 : Int32))), (μ.1, (xuI μ.2.1 32 0 (0 : Int32)), μ.2.2))))) else (if ¬ a2 = (0 : Int32) then (if ¬ a2 = (1 : Int32) then xgd (xin a1 7) (some (.inl (some (.int (μ.2.1 38 (a1).toNatClampNeg))), (μ.1, (xuI μ.2.1 32 0 (0 : Int32)), μ.2.2))) else xgd (xin a1 7) (some (.inl (some (.int (μ.2.1 37 (a1).toNatClampNeg))), (μ.1, (xuI μ.2.1 32 0 (0 : Int32)), μ.2.2)))) else xgd (xin a1 7) (some (.inl (some (.int (μ.2.1 36 (a1).toNatClampNeg))), (μ.1, (xuI μ.2.1 32 0 (0 : Int32)), μ.2.2))))) else xbi (yM_fail (1 : Int32) (μ.1, (xuI μ.2.1 32 0 (0 : Int32)), μ.2.2)) (fun r6 m5 => some (.inl (some (.int r6)), m5)))))
theorem yM_peer_ok {L : Nat} {xs : Nat → Int32} (a1 : Int32) (a2 : Int32) (μ : XMu) : XB L xs 229 0 [some (.ref 32), some (.int a1), some (.int a2)] [] μ (yM_peer a1 a2 μ) := by
  unfold yM_peer
  refine XB.go 6 (pc' := 10) (ls' := [some (.ref 32), some (.int a1), some (.int a2)]) (st' := [(.int (3 : Int32)), (.int (μ.2.1 32 15))]) (μ' := (μ.1, (xuI μ.2.1 32 0 (0 : Int32)), μ.2.2)) rfl ?_
  refine XB.icmp (P := ¬ (μ.2.1 32 15) = (3 : Int32)) rfl rfl rfl (fun c10 => ?_) (fun c10 => ?_)
  · refine XB.go 2 (pc' := 35) (ls' := [some (.ref 32), some (.int a1), some (.int a2)]) (st' := [(.int (1 : Int32)), (.ref 32)]) (μ' := (μ.1, (xuI μ.2.1 32 0 (0 : Int32)), μ.2.2)) rfl ?_
    refine XB.ci rfl rfl rfl rfl rfl (yM_fail_ok (1 : Int32) (μ.1, (xuI μ.2.1 32 0 (0 : Int32)), μ.2.2)) (fun r2 m1 => ?_)
    exact XB.fin rfl
  · refine XB.go 3 (pc' := 17) (ls' := [some (.ref 32), some (.int a1), some (.int a2)]) (st' := [(.int (6 : Int32)), (.int (0 : Int32)), (.int a1)]) (μ' := (μ.1, (xuI μ.2.1 32 0 (0 : Int32)), μ.2.2)) rfl ?_
    refine XB.cp rfl rfl rfl (yM_within_ok a1 (0 : Int32) (6 : Int32) (μ.1, (xuI μ.2.1 32 0 (0 : Int32)), μ.2.2)) ?_
    refine XB.ifz (P := (yM_within a1 (0 : Int32) (6 : Int32)) = (0 : Int32)) rfl rfl rfl (fun c20 => ?_) (fun c20 => ?_)
    · refine XB.go 2 (pc' := 35) (ls' := [some (.ref 32), some (.int a1), some (.int a2)]) (st' := [(.int (1 : Int32)), (.ref 32)]) (μ' := (μ.1, (xuI μ.2.1 32 0 (0 : Int32)), μ.2.2)) rfl ?_
      refine XB.ci rfl rfl rfl rfl rfl (yM_fail_ok (1 : Int32) (μ.1, (xuI μ.2.1 32 0 (0 : Int32)), μ.2.2)) (fun r4 m3 => ?_)
      exact XB.fin rfl
    · refine XB.go 3 (pc' := 27) (ls' := [some (.ref 32), some (.int a1), some (.int a2)]) (st' := [(.int (6 : Int32)), (.int (0 : Int32)), (.int a2)]) (μ' := (μ.1, (xuI μ.2.1 32 0 (0 : Int32)), μ.2.2)) rfl ?_
      refine XB.cp rfl rfl rfl (yM_within_ok a2 (0 : Int32) (6 : Int32) (μ.1, (xuI μ.2.1 32 0 (0 : Int32)), μ.2.2)) ?_
      refine XB.ifz (P := ¬ (yM_within a2 (0 : Int32) (6 : Int32)) = (0 : Int32)) rfl rfl rfl (fun c30 => ?_) (fun c30 => ?_)
      · refine XB.go 2 (pc' := 41) (ls' := [some (.ref 32), some (.int a1), some (.int a2)]) (st' := [(.int (3 : Int32)), (.int a2)]) (μ' := (μ.1, (xuI μ.2.1 32 0 (0 : Int32)), μ.2.2)) rfl ?_
        refine XB.icmp (P := (3 : Int32) ≤ a2) rfl rfl rfl (fun c41 => ?_) (fun c41 => ?_)
        · refine XB.go 2 (pc' := 80) (ls' := [some (.ref 32), some (.int a1), some (.int a2)]) (st' := [(.int (3 : Int32)), (.int a2)]) (μ' := (μ.1, (xuI μ.2.1 32 0 (0 : Int32)), μ.2.2)) rfl ?_
          refine XB.icmp (P := ¬ a2 = (3 : Int32)) rfl rfl rfl (fun c80 => ?_) (fun c80 => ?_)
          · refine XB.go 2 (pc' := 102) (ls' := [some (.ref 32), some (.int a1), some (.int a2)]) (st' := [(.int (4 : Int32)), (.int a2)]) (μ' := (μ.1, (xuI μ.2.1 32 0 (0 : Int32)), μ.2.2)) rfl ?_
            refine XB.icmp (P := ¬ a2 = (4 : Int32)) rfl rfl rfl (fun c102 => ?_) (fun c102 => ?_)
            · refine XB.go 2 (pc' := 116) (ls' := [some (.ref 32), some (.int a1), some (.int a2)]) (st' := [(.int (5 : Int32)), (.int a2)]) (μ' := (μ.1, (xuI μ.2.1 32 0 (0 : Int32)), μ.2.2)) rfl ?_
              refine XB.icmp (P := ¬ a2 = (5 : Int32)) rfl rfl rfl (fun c116 => ?_) (fun c116 => ?_)
              · refine XB.go 3 (pc' := 133) (ls' := [some (.ref 32), some (.int a1), some (.int a2)]) (st' := [(.int a1), (.ref 41)]) (μ' := (μ.1, (xuI μ.2.1 32 0 (0 : Int32)), μ.2.2)) rfl ?_
                refine XB.gd (pc' := 134) (ls' := [some (.ref 32), some (.int a1), some (.int a2)]) (st' := [(.int (μ.2.1 41 (a1).toNatClampNeg))]) (μ' := (μ.1, (xuI μ.2.1 32 0 (0 : Int32)), μ.2.2)) rfl rfl rfl (fun hb => xbT hb) ?_
                exact XB.fin rfl
              · refine XB.go 3 (pc' := 124) (ls' := [some (.ref 32), some (.int a1), some (.int a2)]) (st' := [(.int a1), (.ref 40)]) (μ' := (μ.1, (xuI μ.2.1 32 0 (0 : Int32)), μ.2.2)) rfl ?_
                refine XB.gd (pc' := 125) (ls' := [some (.ref 32), some (.int a1), some (.int a2)]) (st' := [(.int (μ.2.1 40 (a1).toNatClampNeg))]) (μ' := (μ.1, (xuI μ.2.1 32 0 (0 : Int32)), μ.2.2)) rfl rfl rfl (fun hb => xbT hb) ?_
                refine XB.go 1 (pc' := 134) (ls' := [some (.ref 32), some (.int a1), some (.int a2)]) (st' := [(.int (μ.2.1 40 (a1).toNatClampNeg))]) (μ' := (μ.1, (xuI μ.2.1 32 0 (0 : Int32)), μ.2.2)) rfl ?_
                exact XB.fin rfl
            · refine XB.go 3 (pc' := 110) (ls' := [some (.ref 32), some (.int a1), some (.int a2)]) (st' := [(.int a1), (.ref 39)]) (μ' := (μ.1, (xuI μ.2.1 32 0 (0 : Int32)), μ.2.2)) rfl ?_
              refine XB.gd (pc' := 111) (ls' := [some (.ref 32), some (.int a1), some (.int a2)]) (st' := [(.int (μ.2.1 39 (a1).toNatClampNeg))]) (μ' := (μ.1, (xuI μ.2.1 32 0 (0 : Int32)), μ.2.2)) rfl rfl rfl (fun hb => xbT hb) ?_
              refine XB.go 1 (pc' := 134) (ls' := [some (.ref 32), some (.int a1), some (.int a2)]) (st' := [(.int (μ.2.1 39 (a1).toNatClampNeg))]) (μ' := (μ.1, (xuI μ.2.1 32 0 (0 : Int32)), μ.2.2)) rfl ?_
              exact XB.fin rfl
          · refine XB.go 3 (pc' := 88) (ls' := [some (.ref 32), some (.int a1), some (.int a2)]) (st' := [(.int a1), (.ref 42)]) (μ' := (μ.1, (xuI μ.2.1 32 0 (0 : Int32)), μ.2.2)) rfl ?_
            refine XB.gd (pc' := 89) (ls' := [some (.ref 32), some (.int a1), some (.int a2)]) (st' := [(.int (μ.2.1 42 (a1).toNatClampNeg))]) (μ' := (μ.1, (xuI μ.2.1 32 0 (0 : Int32)), μ.2.2)) rfl rfl rfl (fun hb => xbT hb) ?_
            refine XB.ifz (P := (μ.2.1 42 (a1).toNatClampNeg) = (0 : Int32)) rfl rfl rfl (fun c89 => ?_) (fun c89 => ?_)
            · refine XB.go 2 (pc' := 134) (ls' := [some (.ref 32), some (.int a1), some (.int a2)]) (st' := [(.int (0 : Int32))]) (μ' := (μ.1, (xuI μ.2.1 32 0 (0 : Int32)), μ.2.2)) rfl ?_
              exact XB.fin rfl
            · refine XB.go 2 (pc' := 134) (ls' := [some (.ref 32), some (.int a1), some (.int a2)]) (st' := [(.int (1 : Int32))]) (μ' := (μ.1, (xuI μ.2.1 32 0 (0 : Int32)), μ.2.2)) rfl ?_
              exact XB.fin rfl
        · refine XB.go 1 (pc' := 45) (ls' := [some (.ref 32), some (.int a1), some (.int a2)]) (st' := [(.int a2)]) (μ' := (μ.1, (xuI μ.2.1 32 0 (0 : Int32)), μ.2.2)) rfl ?_
          refine XB.ifz (P := ¬ a2 = (0 : Int32)) rfl rfl rfl (fun c45 => ?_) (fun c45 => ?_)
          · refine XB.go 2 (pc' := 59) (ls' := [some (.ref 32), some (.int a1), some (.int a2)]) (st' := [(.int (1 : Int32)), (.int a2)]) (μ' := (μ.1, (xuI μ.2.1 32 0 (0 : Int32)), μ.2.2)) rfl ?_
            refine XB.icmp (P := ¬ a2 = (1 : Int32)) rfl rfl rfl (fun c59 => ?_) (fun c59 => ?_)
            · refine XB.go 3 (pc' := 76) (ls' := [some (.ref 32), some (.int a1), some (.int a2)]) (st' := [(.int a1), (.ref 38)]) (μ' := (μ.1, (xuI μ.2.1 32 0 (0 : Int32)), μ.2.2)) rfl ?_
              refine XB.gd (pc' := 77) (ls' := [some (.ref 32), some (.int a1), some (.int a2)]) (st' := [(.int (μ.2.1 38 (a1).toNatClampNeg))]) (μ' := (μ.1, (xuI μ.2.1 32 0 (0 : Int32)), μ.2.2)) rfl rfl rfl (fun hb => xbT hb) ?_
              exact XB.fin rfl
            · refine XB.go 3 (pc' := 67) (ls' := [some (.ref 32), some (.int a1), some (.int a2)]) (st' := [(.int a1), (.ref 37)]) (μ' := (μ.1, (xuI μ.2.1 32 0 (0 : Int32)), μ.2.2)) rfl ?_
              refine XB.gd (pc' := 68) (ls' := [some (.ref 32), some (.int a1), some (.int a2)]) (st' := [(.int (μ.2.1 37 (a1).toNatClampNeg))]) (μ' := (μ.1, (xuI μ.2.1 32 0 (0 : Int32)), μ.2.2)) rfl rfl rfl (fun hb => xbT hb) ?_
              refine XB.go 1 (pc' := 77) (ls' := [some (.ref 32), some (.int a1), some (.int a2)]) (st' := [(.int (μ.2.1 37 (a1).toNatClampNeg))]) (μ' := (μ.1, (xuI μ.2.1 32 0 (0 : Int32)), μ.2.2)) rfl ?_
              exact XB.fin rfl
          · refine XB.go 3 (pc' := 53) (ls' := [some (.ref 32), some (.int a1), some (.int a2)]) (st' := [(.int a1), (.ref 36)]) (μ' := (μ.1, (xuI μ.2.1 32 0 (0 : Int32)), μ.2.2)) rfl ?_
            refine XB.gd (pc' := 54) (ls' := [some (.ref 32), some (.int a1), some (.int a2)]) (st' := [(.int (μ.2.1 36 (a1).toNatClampNeg))]) (μ' := (μ.1, (xuI μ.2.1 32 0 (0 : Int32)), μ.2.2)) rfl rfl rfl (fun hb => xbT hb) ?_
            refine XB.go 1 (pc' := 77) (ls' := [some (.ref 32), some (.int a1), some (.int a2)]) (st' := [(.int (μ.2.1 36 (a1).toNatClampNeg))]) (μ' := (μ.1, (xuI μ.2.1 32 0 (0 : Int32)), μ.2.2)) rfl ?_
            exact XB.fin rfl
      · refine XB.go 2 (pc' := 35) (ls' := [some (.ref 32), some (.int a1), some (.int a2)]) (st' := [(.int (1 : Int32)), (.ref 32)]) (μ' := (μ.1, (xuI μ.2.1 32 0 (0 : Int32)), μ.2.2)) rfl ?_
        refine XB.ci rfl rfl rfl rfl rfl (yM_fail_ok (1 : Int32) (μ.1, (xuI μ.2.1 32 0 (0 : Int32)), μ.2.2)) (fun r6 m5 => ?_)
        exact XB.fin rfl
/-- LogServerModel.letter(II)I -/
def yM_letter (a1 : Int32) (a2 : Int32) (μ : XMu) : XRes := (if (yM_within a1 (0 : Int32) (63 : Int32)) = (0 : Int32) then xbi (yM_fail (1 : Int32) (μ.1, (xuI μ.2.1 32 0 (0 : Int32)), μ.2.2)) (fun r2 m1 => some (.inl (some (.int r2)), m1)) else (if a1 < (μ.2.1 32 50) then xgd (xin (((((μ.2.1 32 50) - (1 : Int32)) - a1) - (((μ.2.1 32 50) - (1 : Int32)) - a1) / (64 : Int32) * (64 : Int32)) * (32 : Int32)) 2048) ((if (yM_within a2 (0 : Int32) ((μ.2.1 49 ((((((μ.2.1 32 50) - (1 : Int32)) - a1) - (((μ.2.1 32 50) - (1 : Int32)) - a1) / (64 : Int32) * (64 : Int32)) * (32 : Int32))).toNatClampNeg) - (1 : Int32))) = (0 : Int32) then xbi (yM_fail (1 : Int32) (μ.1, (xuI μ.2.1 32 0 (0 : Int32)), μ.2.2)) (fun r4 m3 => some (.inl (some (.int r4)), m3)) else xgd (xin (((((((μ.2.1 32 50) - (1 : Int32)) - a1) - (((μ.2.1 32 50) - (1 : Int32)) - a1) / (64 : Int32) * (64 : Int32)) * (32 : Int32)) + (1 : Int32)) + a2) 2048) (some (.inl (some (.int (μ.2.1 49 ((((((((μ.2.1 32 50) - (1 : Int32)) - a1) - (((μ.2.1 32 50) - (1 : Int32)) - a1) / (64 : Int32) * (64 : Int32)) * (32 : Int32)) + (1 : Int32)) + a2)).toNatClampNeg))), (μ.1, (xuI μ.2.1 32 0 (0 : Int32)), μ.2.2))))) else xbi (yM_fail (1 : Int32) (μ.1, (xuI μ.2.1 32 0 (0 : Int32)), μ.2.2)) (fun r6 m5 => some (.inl (some (.int r6)), m5))))
theorem yM_letter_ok {L : Nat} {xs : Nat → Int32} (a1 : Int32) (a2 : Int32) (μ : XMu) : XB L xs 230 0 [some (.ref 32), some (.int a1), some (.int a2), none] [] μ (yM_letter a1 a2 μ) := by
  unfold yM_letter
  refine XB.go 6 (pc' := 9) (ls' := [some (.ref 32), some (.int a1), some (.int a2), none]) (st' := [(.int (63 : Int32)), (.int (0 : Int32)), (.int a1)]) (μ' := (μ.1, (xuI μ.2.1 32 0 (0 : Int32)), μ.2.2)) rfl ?_
  refine XB.cp rfl rfl rfl (yM_within_ok a1 (0 : Int32) (63 : Int32) (μ.1, (xuI μ.2.1 32 0 (0 : Int32)), μ.2.2)) ?_
  refine XB.ifz (P := (yM_within a1 (0 : Int32) (63 : Int32)) = (0 : Int32)) rfl rfl rfl (fun c12 => ?_) (fun c12 => ?_)
  · refine XB.go 2 (pc' := 25) (ls' := [some (.ref 32), some (.int a1), some (.int a2), none]) (st' := [(.int (1 : Int32)), (.ref 32)]) (μ' := (μ.1, (xuI μ.2.1 32 0 (0 : Int32)), μ.2.2)) rfl ?_
    refine XB.ci rfl rfl rfl rfl rfl (yM_fail_ok (1 : Int32) (μ.1, (xuI μ.2.1 32 0 (0 : Int32)), μ.2.2)) (fun r2 m1 => ?_)
    exact XB.fin rfl
  · refine XB.go 3 (pc' := 20) (ls' := [some (.ref 32), some (.int a1), some (.int a2), none]) (st' := [(.int (μ.2.1 32 50)), (.int a1)]) (μ' := (μ.1, (xuI μ.2.1 32 0 (0 : Int32)), μ.2.2)) rfl ?_
    refine XB.icmp (P := a1 < (μ.2.1 32 50)) rfl rfl rfl (fun c20 => ?_) (fun c20 => ?_)
    · refine XB.go 16 (pc' := 51) (ls' := [some (.ref 32), some (.int a1), some (.int a2), some (.int (((((μ.2.1 32 50) - (1 : Int32)) - a1) - (((μ.2.1 32 50) - (1 : Int32)) - a1) / (64 : Int32) * (64 : Int32)) * (32 : Int32)))]) (st' := [(.int (((((μ.2.1 32 50) - (1 : Int32)) - a1) - (((μ.2.1 32 50) - (1 : Int32)) - a1) / (64 : Int32) * (64 : Int32)) * (32 : Int32))), (.ref 49), (.int (0 : Int32)), (.int a2)]) (μ' := (μ.1, (xuI μ.2.1 32 0 (0 : Int32)), μ.2.2)) rfl ?_
      refine XB.gd (pc' := 52) (ls' := [some (.ref 32), some (.int a1), some (.int a2), some (.int (((((μ.2.1 32 50) - (1 : Int32)) - a1) - (((μ.2.1 32 50) - (1 : Int32)) - a1) / (64 : Int32) * (64 : Int32)) * (32 : Int32)))]) (st' := [(.int (μ.2.1 49 ((((((μ.2.1 32 50) - (1 : Int32)) - a1) - (((μ.2.1 32 50) - (1 : Int32)) - a1) / (64 : Int32) * (64 : Int32)) * (32 : Int32))).toNatClampNeg)), (.int (0 : Int32)), (.int a2)]) (μ' := (μ.1, (xuI μ.2.1 32 0 (0 : Int32)), μ.2.2)) rfl rfl rfl (fun hb => xbT hb) ?_
      refine XB.go 2 (pc' := 54) (ls' := [some (.ref 32), some (.int a1), some (.int a2), some (.int (((((μ.2.1 32 50) - (1 : Int32)) - a1) - (((μ.2.1 32 50) - (1 : Int32)) - a1) / (64 : Int32) * (64 : Int32)) * (32 : Int32)))]) (st' := [(.int ((μ.2.1 49 ((((((μ.2.1 32 50) - (1 : Int32)) - a1) - (((μ.2.1 32 50) - (1 : Int32)) - a1) / (64 : Int32) * (64 : Int32)) * (32 : Int32))).toNatClampNeg) - (1 : Int32))), (.int (0 : Int32)), (.int a2)]) (μ' := (μ.1, (xuI μ.2.1 32 0 (0 : Int32)), μ.2.2)) rfl ?_
      refine XB.cp rfl rfl rfl (yM_within_ok a2 (0 : Int32) ((μ.2.1 49 ((((((μ.2.1 32 50) - (1 : Int32)) - a1) - (((μ.2.1 32 50) - (1 : Int32)) - a1) / (64 : Int32) * (64 : Int32)) * (32 : Int32))).toNatClampNeg) - (1 : Int32)) (μ.1, (xuI μ.2.1 32 0 (0 : Int32)), μ.2.2)) ?_
      refine XB.ifz (P := (yM_within a2 (0 : Int32) ((μ.2.1 49 ((((((μ.2.1 32 50) - (1 : Int32)) - a1) - (((μ.2.1 32 50) - (1 : Int32)) - a1) / (64 : Int32) * (64 : Int32)) * (32 : Int32))).toNatClampNeg) - (1 : Int32))) = (0 : Int32)) rfl rfl rfl (fun c57 => ?_) (fun c57 => ?_)
      · refine XB.go 2 (pc' := 75) (ls' := [some (.ref 32), some (.int a1), some (.int a2), some (.int (((((μ.2.1 32 50) - (1 : Int32)) - a1) - (((μ.2.1 32 50) - (1 : Int32)) - a1) / (64 : Int32) * (64 : Int32)) * (32 : Int32)))]) (st' := [(.int (1 : Int32)), (.ref 32)]) (μ' := (μ.1, (xuI μ.2.1 32 0 (0 : Int32)), μ.2.2)) rfl ?_
        refine XB.ci rfl rfl rfl rfl rfl (yM_fail_ok (1 : Int32) (μ.1, (xuI μ.2.1 32 0 (0 : Int32)), μ.2.2)) (fun r4 m3 => ?_)
        exact XB.fin rfl
      · refine XB.go 7 (pc' := 69) (ls' := [some (.ref 32), some (.int a1), some (.int a2), some (.int (((((μ.2.1 32 50) - (1 : Int32)) - a1) - (((μ.2.1 32 50) - (1 : Int32)) - a1) / (64 : Int32) * (64 : Int32)) * (32 : Int32)))]) (st' := [(.int (((((((μ.2.1 32 50) - (1 : Int32)) - a1) - (((μ.2.1 32 50) - (1 : Int32)) - a1) / (64 : Int32) * (64 : Int32)) * (32 : Int32)) + (1 : Int32)) + a2)), (.ref 49)]) (μ' := (μ.1, (xuI μ.2.1 32 0 (0 : Int32)), μ.2.2)) rfl ?_
        refine XB.gd (pc' := 70) (ls' := [some (.ref 32), some (.int a1), some (.int a2), some (.int (((((μ.2.1 32 50) - (1 : Int32)) - a1) - (((μ.2.1 32 50) - (1 : Int32)) - a1) / (64 : Int32) * (64 : Int32)) * (32 : Int32)))]) (st' := [(.int (μ.2.1 49 ((((((((μ.2.1 32 50) - (1 : Int32)) - a1) - (((μ.2.1 32 50) - (1 : Int32)) - a1) / (64 : Int32) * (64 : Int32)) * (32 : Int32)) + (1 : Int32)) + a2)).toNatClampNeg))]) (μ' := (μ.1, (xuI μ.2.1 32 0 (0 : Int32)), μ.2.2)) rfl rfl rfl (fun hb => xbT hb) ?_
        refine XB.go 1 (pc' := 78) (ls' := [some (.ref 32), some (.int a1), some (.int a2), some (.int (((((μ.2.1 32 50) - (1 : Int32)) - a1) - (((μ.2.1 32 50) - (1 : Int32)) - a1) / (64 : Int32) * (64 : Int32)) * (32 : Int32)))]) (st' := [(.int (μ.2.1 49 ((((((((μ.2.1 32 50) - (1 : Int32)) - a1) - (((μ.2.1 32 50) - (1 : Int32)) - a1) / (64 : Int32) * (64 : Int32)) * (32 : Int32)) + (1 : Int32)) + a2)).toNatClampNeg))]) (μ' := (μ.1, (xuI μ.2.1 32 0 (0 : Int32)), μ.2.2)) rfl ?_
        exact XB.fin rfl
    · refine XB.go 2 (pc' := 25) (ls' := [some (.ref 32), some (.int a1), some (.int a2), none]) (st' := [(.int (1 : Int32)), (.ref 32)]) (μ' := (μ.1, (xuI μ.2.1 32 0 (0 : Int32)), μ.2.2)) rfl ?_
      refine XB.ci rfl rfl rfl rfl rfl (yM_fail_ok (1 : Int32) (μ.1, (xuI μ.2.1 32 0 (0 : Int32)), μ.2.2)) (fun r6 m5 => ?_)
      exact XB.fin rfl
/-- LogServerModel.done(II)I -/
def yM_done (a1 : Int32) (a2 : Int32) (μ : XMu) : XRes := (if (yM_within a1 (0 : Int32) (63 : Int32)) = (0 : Int32) then xbi (yM_fail (1 : Int32) (μ.1, (xuI μ.2.1 32 0 (0 : Int32)), μ.2.2)) (fun r2 m1 => some (.inl (some (.int r2)), m1)) else (if (μ.2.1 32 52) ≤ a1 then xbi (yM_fail (1 : Int32) (μ.1, (xuI μ.2.1 32 0 (0 : Int32)), μ.2.2)) (fun r4 m3 => some (.inl (some (.int r4)), m3)) else (if ¬ (yM_within a2 (0 : Int32) (1 : Int32)) = (0 : Int32) then (if ¬ a2 = (0 : Int32) then xgd (xin ((((μ.2.1 32 52) - (1 : Int32)) - a1) - (((μ.2.1 32 52) - (1 : Int32)) - a1) / (64 : Int32) * (64 : Int32)) 64) (some (.inl (some (.int (μ.2.1 51 (((((μ.2.1 32 52) - (1 : Int32)) - a1) - (((μ.2.1 32 52) - (1 : Int32)) - a1) / (64 : Int32) * (64 : Int32))).toNatClampNeg))), (μ.1, (xuI μ.2.1 32 0 (0 : Int32)), μ.2.2))) else xgd (xin ((((μ.2.1 32 52) - (1 : Int32)) - a1) - (((μ.2.1 32 52) - (1 : Int32)) - a1) / (64 : Int32) * (64 : Int32)) 64) (some (.inl (some (.int (μ.2.1 50 (((((μ.2.1 32 52) - (1 : Int32)) - a1) - (((μ.2.1 32 52) - (1 : Int32)) - a1) / (64 : Int32) * (64 : Int32))).toNatClampNeg))), (μ.1, (xuI μ.2.1 32 0 (0 : Int32)), μ.2.2)))) else xbi (yM_fail (1 : Int32) (μ.1, (xuI μ.2.1 32 0 (0 : Int32)), μ.2.2)) (fun r6 m5 => some (.inl (some (.int r6)), m5)))))
theorem yM_done_ok {L : Nat} {xs : Nat → Int32} (a1 : Int32) (a2 : Int32) (μ : XMu) : XB L xs 231 0 [some (.ref 32), some (.int a1), some (.int a2), none] [] μ (yM_done a1 a2 μ) := by
  unfold yM_done
  refine XB.go 6 (pc' := 9) (ls' := [some (.ref 32), some (.int a1), some (.int a2), none]) (st' := [(.int (63 : Int32)), (.int (0 : Int32)), (.int a1)]) (μ' := (μ.1, (xuI μ.2.1 32 0 (0 : Int32)), μ.2.2)) rfl ?_
  refine XB.cp rfl rfl rfl (yM_within_ok a1 (0 : Int32) (63 : Int32) (μ.1, (xuI μ.2.1 32 0 (0 : Int32)), μ.2.2)) ?_
  refine XB.ifz (P := (yM_within a1 (0 : Int32) (63 : Int32)) = (0 : Int32)) rfl rfl rfl (fun c12 => ?_) (fun c12 => ?_)
  · refine XB.go 2 (pc' := 34) (ls' := [some (.ref 32), some (.int a1), some (.int a2), none]) (st' := [(.int (1 : Int32)), (.ref 32)]) (μ' := (μ.1, (xuI μ.2.1 32 0 (0 : Int32)), μ.2.2)) rfl ?_
    refine XB.ci rfl rfl rfl rfl rfl (yM_fail_ok (1 : Int32) (μ.1, (xuI μ.2.1 32 0 (0 : Int32)), μ.2.2)) (fun r2 m1 => ?_)
    exact XB.fin rfl
  · refine XB.go 3 (pc' := 20) (ls' := [some (.ref 32), some (.int a1), some (.int a2), none]) (st' := [(.int (μ.2.1 32 52)), (.int a1)]) (μ' := (μ.1, (xuI μ.2.1 32 0 (0 : Int32)), μ.2.2)) rfl ?_
    refine XB.icmp (P := (μ.2.1 32 52) ≤ a1) rfl rfl rfl (fun c20 => ?_) (fun c20 => ?_)
    · refine XB.go 2 (pc' := 34) (ls' := [some (.ref 32), some (.int a1), some (.int a2), none]) (st' := [(.int (1 : Int32)), (.ref 32)]) (μ' := (μ.1, (xuI μ.2.1 32 0 (0 : Int32)), μ.2.2)) rfl ?_
      refine XB.ci rfl rfl rfl rfl rfl (yM_fail_ok (1 : Int32) (μ.1, (xuI μ.2.1 32 0 (0 : Int32)), μ.2.2)) (fun r4 m3 => ?_)
      exact XB.fin rfl
    · refine XB.go 3 (pc' := 26) (ls' := [some (.ref 32), some (.int a1), some (.int a2), none]) (st' := [(.int (1 : Int32)), (.int (0 : Int32)), (.int a2)]) (μ' := (μ.1, (xuI μ.2.1 32 0 (0 : Int32)), μ.2.2)) rfl ?_
      refine XB.cp rfl rfl rfl (yM_within_ok a2 (0 : Int32) (1 : Int32) (μ.1, (xuI μ.2.1 32 0 (0 : Int32)), μ.2.2)) ?_
      refine XB.ifz (P := ¬ (yM_within a2 (0 : Int32) (1 : Int32)) = (0 : Int32)) rfl rfl rfl (fun c29 => ?_) (fun c29 => ?_)
      · refine XB.go 10 (pc' := 51) (ls' := [some (.ref 32), some (.int a1), some (.int a2), some (.int ((((μ.2.1 32 52) - (1 : Int32)) - a1) - (((μ.2.1 32 52) - (1 : Int32)) - a1) / (64 : Int32) * (64 : Int32)))]) (st' := [(.int a2)]) (μ' := (μ.1, (xuI μ.2.1 32 0 (0 : Int32)), μ.2.2)) rfl ?_
        refine XB.ifz (P := ¬ a2 = (0 : Int32)) rfl rfl rfl (fun c51 => ?_) (fun c51 => ?_)
        · refine XB.go 3 (pc' := 68) (ls' := [some (.ref 32), some (.int a1), some (.int a2), some (.int ((((μ.2.1 32 52) - (1 : Int32)) - a1) - (((μ.2.1 32 52) - (1 : Int32)) - a1) / (64 : Int32) * (64 : Int32)))]) (st' := [(.int ((((μ.2.1 32 52) - (1 : Int32)) - a1) - (((μ.2.1 32 52) - (1 : Int32)) - a1) / (64 : Int32) * (64 : Int32))), (.ref 51)]) (μ' := (μ.1, (xuI μ.2.1 32 0 (0 : Int32)), μ.2.2)) rfl ?_
          refine XB.gd (pc' := 69) (ls' := [some (.ref 32), some (.int a1), some (.int a2), some (.int ((((μ.2.1 32 52) - (1 : Int32)) - a1) - (((μ.2.1 32 52) - (1 : Int32)) - a1) / (64 : Int32) * (64 : Int32)))]) (st' := [(.int (μ.2.1 51 (((((μ.2.1 32 52) - (1 : Int32)) - a1) - (((μ.2.1 32 52) - (1 : Int32)) - a1) / (64 : Int32) * (64 : Int32))).toNatClampNeg))]) (μ' := (μ.1, (xuI μ.2.1 32 0 (0 : Int32)), μ.2.2)) rfl rfl rfl (fun hb => xbT hb) ?_
          exact XB.fin rfl
        · refine XB.go 3 (pc' := 59) (ls' := [some (.ref 32), some (.int a1), some (.int a2), some (.int ((((μ.2.1 32 52) - (1 : Int32)) - a1) - (((μ.2.1 32 52) - (1 : Int32)) - a1) / (64 : Int32) * (64 : Int32)))]) (st' := [(.int ((((μ.2.1 32 52) - (1 : Int32)) - a1) - (((μ.2.1 32 52) - (1 : Int32)) - a1) / (64 : Int32) * (64 : Int32))), (.ref 50)]) (μ' := (μ.1, (xuI μ.2.1 32 0 (0 : Int32)), μ.2.2)) rfl ?_
          refine XB.gd (pc' := 60) (ls' := [some (.ref 32), some (.int a1), some (.int a2), some (.int ((((μ.2.1 32 52) - (1 : Int32)) - a1) - (((μ.2.1 32 52) - (1 : Int32)) - a1) / (64 : Int32) * (64 : Int32)))]) (st' := [(.int (μ.2.1 50 (((((μ.2.1 32 52) - (1 : Int32)) - a1) - (((μ.2.1 32 52) - (1 : Int32)) - a1) / (64 : Int32) * (64 : Int32))).toNatClampNeg))]) (μ' := (μ.1, (xuI μ.2.1 32 0 (0 : Int32)), μ.2.2)) rfl rfl rfl (fun hb => xbT hb) ?_
          refine XB.go 1 (pc' := 69) (ls' := [some (.ref 32), some (.int a1), some (.int a2), some (.int ((((μ.2.1 32 52) - (1 : Int32)) - a1) - (((μ.2.1 32 52) - (1 : Int32)) - a1) / (64 : Int32) * (64 : Int32)))]) (st' := [(.int (μ.2.1 50 (((((μ.2.1 32 52) - (1 : Int32)) - a1) - (((μ.2.1 32 52) - (1 : Int32)) - a1) / (64 : Int32) * (64 : Int32))).toNatClampNeg))]) (μ' := (μ.1, (xuI μ.2.1 32 0 (0 : Int32)), μ.2.2)) rfl ?_
          exact XB.fin rfl
      · refine XB.go 2 (pc' := 34) (ls' := [some (.ref 32), some (.int a1), some (.int a2), none]) (st' := [(.int (1 : Int32)), (.ref 32)]) (μ' := (μ.1, (xuI μ.2.1 32 0 (0 : Int32)), μ.2.2)) rfl ?_
        refine XB.ci rfl rfl rfl rfl rfl (yM_fail_ok (1 : Int32) (μ.1, (xuI μ.2.1 32 0 (0 : Int32)), μ.2.2)) (fun r6 m5 => ?_)
        exact XB.fin rfl
/-- LogServerModel.noCall(I)Z -/
def yM_noCall (a1 : Int32) (μ : XMu) : Int32 := (if a1 < (0 : Int32) then (1 : Int32) else (if (μ.2.1 32 55) ≤ a1 then (1 : Int32) else (if ((μ.2.1 32 55) - (32 : Int32)) ≤ a1 then (0 : Int32) else (1 : Int32))))
theorem yM_noCall_ok {L : Nat} {xs : Nat → Int32} (a1 : Int32) (μ : XMu) : XB L xs 232 0 [some (.ref 32), some (.int a1)] [] μ (some (.inl (some (.int (yM_noCall a1 μ))), μ)) := by
  unfold yM_noCall
  refine XB.go 1 (pc' := 1) (ls' := [some (.ref 32), some (.int a1)]) (st' := [(.int a1)]) (μ' := μ) rfl ?_
  refine XB.ifzv (P := a1 < (0 : Int32)) rfl rfl rfl (fun c1 => ?_) (fun c1 => ?_)
  · refine XB.go 2 (pc' := 28) (ls' := [some (.ref 32), some (.int a1)]) (st' := [(.int (1 : Int32))]) (μ' := μ) rfl ?_
    exact XB.fin rfl
  · refine XB.go 3 (pc' := 9) (ls' := [some (.ref 32), some (.int a1)]) (st' := [(.int (μ.2.1 32 55)), (.int a1)]) (μ' := μ) rfl ?_
    refine XB.icmpv (P := (μ.2.1 32 55) ≤ a1) rfl rfl rfl (fun c9 => ?_) (fun c9 => ?_)
    · refine XB.go 2 (pc' := 28) (ls' := [some (.ref 32), some (.int a1)]) (st' := [(.int (1 : Int32))]) (μ' := μ) rfl ?_
      exact XB.fin rfl
    · refine XB.go 5 (pc' := 20) (ls' := [some (.ref 32), some (.int a1)]) (st' := [(.int ((μ.2.1 32 55) - (32 : Int32))), (.int a1)]) (μ' := μ) rfl ?_
      refine XB.icmpv (P := ((μ.2.1 32 55) - (32 : Int32)) ≤ a1) rfl rfl rfl (fun c20 => ?_) (fun c20 => ?_)
      · refine XB.go 1 (pc' := 28) (ls' := [some (.ref 32), some (.int a1)]) (st' := [(.int (0 : Int32))]) (μ' := μ) rfl ?_
        exact XB.fin rfl
      · refine XB.go 2 (pc' := 28) (ls' := [some (.ref 32), some (.int a1)]) (st' := [(.int (1 : Int32))]) (μ' := μ) rfl ?_
        exact XB.fin rfl
theorem yM_noCall_01 (a1 : Int32) (μ : XMu) : x01 (yM_noCall a1 μ) = true := by
  unfold yM_noCall
  repeat (first | rfl | (exact rfl) | split)
/-- LogServerModel.call(I)I -/
def yM_call (a1 : Int32) (μ : XMu) : XRes := (if (yM_noCall a1 (μ.1, (xuI μ.2.1 32 0 (0 : Int32)), μ.2.2)) = (0 : Int32) then xgd (xin (a1 - a1 / (32 : Int32) * (32 : Int32)) 32) (some (.inl (some (.int (μ.2.1 52 ((a1 - a1 / (32 : Int32) * (32 : Int32))).toNatClampNeg))), (μ.1, (xuI μ.2.1 32 0 (0 : Int32)), μ.2.2))) else xbi (yM_fail (1 : Int32) (μ.1, (xuI μ.2.1 32 0 (0 : Int32)), μ.2.2)) (fun r2 m1 => some (.inl (some (.int r2)), m1)))
theorem yM_call_ok {L : Nat} {xs : Nat → Int32} (a1 : Int32) (μ : XMu) : XB L xs 233 0 [some (.ref 32), some (.int a1)] [] μ (yM_call a1 μ) := by
  unfold yM_call
  refine XB.go 5 (pc' := 7) (ls' := [some (.ref 32), some (.int a1)]) (st' := [(.int a1), (.ref 32)]) (μ' := (μ.1, (xuI μ.2.1 32 0 (0 : Int32)), μ.2.2)) rfl ?_
  refine XB.cp rfl rfl rfl (yM_noCall_ok a1 (μ.1, (xuI μ.2.1 32 0 (0 : Int32)), μ.2.2)) ?_
  refine XB.ifz (P := (yM_noCall a1 (μ.1, (xuI μ.2.1 32 0 (0 : Int32)), μ.2.2)) = (0 : Int32)) rfl rfl rfl (fun c10 => ?_) (fun c10 => ?_)
  · refine XB.go 5 (pc' := 29) (ls' := [some (.ref 32), some (.int a1)]) (st' := [(.int (a1 - a1 / (32 : Int32) * (32 : Int32))), (.ref 52)]) (μ' := (μ.1, (xuI μ.2.1 32 0 (0 : Int32)), μ.2.2)) rfl ?_
    refine XB.gd (pc' := 30) (ls' := [some (.ref 32), some (.int a1)]) (st' := [(.int (μ.2.1 52 ((a1 - a1 / (32 : Int32) * (32 : Int32))).toNatClampNeg))]) (μ' := (μ.1, (xuI μ.2.1 32 0 (0 : Int32)), μ.2.2)) rfl rfl rfl (fun hb => xbT hb) ?_
    exact XB.fin rfl
  · refine XB.go 2 (pc' := 15) (ls' := [some (.ref 32), some (.int a1)]) (st' := [(.int (1 : Int32)), (.ref 32)]) (μ' := (μ.1, (xuI μ.2.1 32 0 (0 : Int32)), μ.2.2)) rfl ?_
    refine XB.ci rfl rfl rfl rfl rfl (yM_fail_ok (1 : Int32) (μ.1, (xuI μ.2.1 32 0 (0 : Int32)), μ.2.2)) (fun r2 m1 => ?_)
    refine XB.go 1 (pc' := 30) (ls' := [some (.ref 32), some (.int a1)]) (st' := [(.int r2)]) (μ' := m1) rfl ?_
    exact XB.fin rfl
/-- LogServerModel.callFor(I)I -/
def yM_callFor (a1 : Int32) (μ : XMu) : XRes := (if (yM_noCall a1 (μ.1, (xuI μ.2.1 32 0 (0 : Int32)), μ.2.2)) = (0 : Int32) then xgd (xin (a1 - a1 / (32 : Int32) * (32 : Int32)) 32) (some (.inl (some (.int (μ.2.1 53 ((a1 - a1 / (32 : Int32) * (32 : Int32))).toNatClampNeg))), (μ.1, (xuI μ.2.1 32 0 (0 : Int32)), μ.2.2))) else xbi (yM_fail (1 : Int32) (μ.1, (xuI μ.2.1 32 0 (0 : Int32)), μ.2.2)) (fun r2 m1 => some (.inl (some (.int r2)), m1)))
theorem yM_callFor_ok {L : Nat} {xs : Nat → Int32} (a1 : Int32) (μ : XMu) : XB L xs 234 0 [some (.ref 32), some (.int a1)] [] μ (yM_callFor a1 μ) := by
  unfold yM_callFor
  refine XB.go 5 (pc' := 7) (ls' := [some (.ref 32), some (.int a1)]) (st' := [(.int a1), (.ref 32)]) (μ' := (μ.1, (xuI μ.2.1 32 0 (0 : Int32)), μ.2.2)) rfl ?_
  refine XB.cp rfl rfl rfl (yM_noCall_ok a1 (μ.1, (xuI μ.2.1 32 0 (0 : Int32)), μ.2.2)) ?_
  refine XB.ifz (P := (yM_noCall a1 (μ.1, (xuI μ.2.1 32 0 (0 : Int32)), μ.2.2)) = (0 : Int32)) rfl rfl rfl (fun c10 => ?_) (fun c10 => ?_)
  · refine XB.go 5 (pc' := 29) (ls' := [some (.ref 32), some (.int a1)]) (st' := [(.int (a1 - a1 / (32 : Int32) * (32 : Int32))), (.ref 53)]) (μ' := (μ.1, (xuI μ.2.1 32 0 (0 : Int32)), μ.2.2)) rfl ?_
    refine XB.gd (pc' := 30) (ls' := [some (.ref 32), some (.int a1)]) (st' := [(.int (μ.2.1 53 ((a1 - a1 / (32 : Int32) * (32 : Int32))).toNatClampNeg))]) (μ' := (μ.1, (xuI μ.2.1 32 0 (0 : Int32)), μ.2.2)) rfl rfl rfl (fun hb => xbT hb) ?_
    exact XB.fin rfl
  · refine XB.go 2 (pc' := 15) (ls' := [some (.ref 32), some (.int a1)]) (st' := [(.int (1 : Int32)), (.ref 32)]) (μ' := (μ.1, (xuI μ.2.1 32 0 (0 : Int32)), μ.2.2)) rfl ?_
    refine XB.ci rfl rfl rfl rfl rfl (yM_fail_ok (1 : Int32) (μ.1, (xuI μ.2.1 32 0 (0 : Int32)), μ.2.2)) (fun r2 m1 => ?_)
    refine XB.go 1 (pc' := 30) (ls' := [some (.ref 32), some (.int a1)]) (st' := [(.int r2)]) (μ' := m1) rfl ?_
    exact XB.fin rfl
