/-- LogServer.drawAlarm()V -/
def yC_drawAlarm  (μ : XMu) : XRes := some (.inl none, (μ.1, (xuI μ.2.1 0 14 (((μ.2.1 0 8) + (50 : Int32)) + (((((((μ.2.2 0 7) * (6364136223846793005 : Int64)) + (1442695040888963407 : Int64))).toUInt64 >>> (((33 : Int32)).toInt64.toUInt64 &&& Int64.toUInt64 63)).toInt64 - (((((μ.2.2 0 7) * (6364136223846793005 : Int64)) + (1442695040888963407 : Int64))).toUInt64 >>> (((33 : Int32)).toInt64.toUInt64 &&& Int64.toUInt64 63)).toInt64 / (50 : Int64) * (50 : Int64))).toInt32)), (xuL μ.2.2 0 7 (((μ.2.2 0 7) * (6364136223846793005 : Int64)) + (1442695040888963407 : Int64)))))
theorem yC_drawAlarm_ok {L : Nat} {xs : Nat → Int32}  (μ : XMu) : XB L xs 6 0 [some (.ref 0)] [] μ (yC_drawAlarm  μ) := by
  unfold yC_drawAlarm
  refine XB.go 22 (pc' := 40) (ls' := [some (.ref 0)]) (st' := []) (μ' := (μ.1, (xuI μ.2.1 0 14 (((μ.2.1 0 8) + (50 : Int32)) + (((((((μ.2.2 0 7) * (6364136223846793005 : Int64)) + (1442695040888963407 : Int64))).toUInt64 >>> (((33 : Int32)).toInt64.toUInt64 &&& Int64.toUInt64 63)).toInt64 - (((((μ.2.2 0 7) * (6364136223846793005 : Int64)) + (1442695040888963407 : Int64))).toUInt64 >>> (((33 : Int32)).toInt64.toUInt64 &&& Int64.toUInt64 63)).toInt64 / (50 : Int64) * (50 : Int64))).toInt32)), (xuL μ.2.2 0 7 (((μ.2.2 0 7) * (6364136223846793005 : Int64)) + (1442695040888963407 : Int64))))) rfl ?_
  exact XB.fin rfl
/-- LogServer$Mail.slotOf(I)I -/
def yMa_slotOf (a0 : Int32) : Int32 := (a0 &&& (63 : Int32))
theorem yMa_slotOf_ok {L : Nat} {xs : Nat → Int32} (a0 : Int32) (μ : XMu) : XB L xs 8 0 [some (.int a0)] [] μ (some (.inl (some (.int (yMa_slotOf a0))), μ)) := by
  unfold yMa_slotOf
  refine XB.go 3 (pc' := 4) (ls' := [some (.int a0)]) (st' := [(.int (a0 &&& (63 : Int32)))]) (μ' := μ) rfl ?_
  exact XB.fin rfl
/-- LogServer$Mail.release()I -/
def yMa_release_b73  (x1 : Int32) (μ : XMu) : XRes := some (.inl (some (.int x1)), (μ.1, (xuI μ.2.1 1 4 (0 : Int32)), μ.2.2))
theorem yMa_release_b73_ok {L : Nat} {xs : Nat → Int32}  (d2 : Option Int32) (d3 : Option Int32) (x1 : Int32) (μ : XMu) : XB L xs 9 73 [some (.ref 1), some (.int x1), (xdl d2), (xdl d3)] [] μ (yMa_release_b73  x1 μ) := by
  unfold yMa_release_b73
  refine XB.go 4 (pc' := 79) (ls' := [some (.ref 1), some (.int x1), (xdl d2), (xdl d3)]) (st' := [(.int x1)]) (μ' := (μ.1, (xuI μ.2.1 1 4 (0 : Int32)), μ.2.2)) rfl ?_
  exact XB.fin rfl
def yMa_release_b7 (k7 : Int32 → Int32 → XMu → XRes) (x1 : Int32) (x2 : Int32) (μ : XMu) : XRes := (if x1 ≤ x2 then yMa_release_b73  x1 μ else xgd (xin x2 200) (xgd (xcb (x2 * (26 : Int32)) ((yMa_slotOf (μ.2.1 1 7)) * (26 : Int32)) (μ.2.1 4 (x2).toNatClampNeg) 5200 1664) (xgd (xin x2 200) (xgd (xin (yMa_slotOf (μ.2.1 1 7)) 64) (k7 x1 (x2 + (1 : Int32)) (μ.1, (xuI (xuI (va_up μ.2.1 5 (va_cpy (μ.2.1 3) (μ.2.1 5) ((x2 * (26 : Int32))).toNatClampNeg (((yMa_slotOf (μ.2.1 1 7)) * (26 : Int32))).toNatClampNeg ((μ.2.1 4 (x2).toNatClampNeg)).toNatClampNeg)) 6 ((yMa_slotOf (μ.2.1 1 7))).toNatClampNeg (μ.2.1 4 (x2).toNatClampNeg)) 1 7 ((μ.2.1 1 7) + (1 : Int32))), μ.2.2))))))
theorem yMa_release_b7_ok {L : Nat} {xs : Nat → Int32} (k7 : Int32 → Int32 → XMu → XRes) (hk7 : ∀ (d3 : Option Int32) (x1 : Int32) (x2 : Int32) (μ : XMu), XB L xs 9 7 [some (.ref 1), some (.int x1), some (.int x2), (xdl d3)] [] μ (k7 x1 x2 μ)) (d3 : Option Int32) (x1 : Int32) (x2 : Int32) (μ : XMu) : XB L xs 9 7 [some (.ref 1), some (.int x1), some (.int x2), (xdl d3)] [] μ (yMa_release_b7 k7 x1 x2 μ) := by
  unfold yMa_release_b7
  refine XB.go 2 (pc' := 9) (ls' := [some (.ref 1), some (.int x1), some (.int x2), (xdl d3)]) (st' := [(.int x1), (.int x2)]) (μ' := μ) rfl ?_
  refine XB.icmp (P := x1 ≤ x2) rfl rfl rfl (fun c9 => ?_) (fun c9 => ?_)
  · exact yMa_release_b73_ok  (some x2) (d3) x1 μ
  · refine XB.go 2 (pc' := 16) (ls' := [some (.ref 1), some (.int x1), some (.int x2), (xdl d3)]) (st' := [(.int (μ.2.1 1 7))]) (μ' := μ) rfl ?_
    refine XB.cp rfl rfl rfl (yMa_slotOf_ok (μ.2.1 1 7) μ) ?_
    refine XB.go 14 (pc' := 41) (ls' := [some (.ref 1), some (.int x1), some (.int x2), some (.int (yMa_slotOf (μ.2.1 1 7)))]) (st' := [(.int x2), (.ref 4), (.int ((yMa_slotOf (μ.2.1 1 7)) * (26 : Int32))), (.ref 5), (.int (x2 * (26 : Int32))), (.ref 3)]) (μ' := μ) rfl ?_
    refine XB.gd (pc' := 42) (ls' := [some (.ref 1), some (.int x1), some (.int x2), some (.int (yMa_slotOf (μ.2.1 1 7)))]) (st' := [(.int (μ.2.1 4 (x2).toNatClampNeg)), (.int ((yMa_slotOf (μ.2.1 1 7)) * (26 : Int32))), (.ref 5), (.int (x2 * (26 : Int32))), (.ref 3)]) (μ' := μ) rfl rfl rfl (fun hb => xbT hb) ?_
    refine XB.copy (a := 5) (s9 := 3) (μ := μ) rfl rfl rfl rfl rfl rfl rfl rfl ?_
    refine XB.go 6 (pc' := 55) (ls' := [some (.ref 1), some (.int x1), some (.int x2), some (.int (yMa_slotOf (μ.2.1 1 7)))]) (st' := [(.int x2), (.ref 4), (.int (yMa_slotOf (μ.2.1 1 7))), (.ref 6)]) (μ' := (μ.1, (va_up μ.2.1 5 (va_cpy (μ.2.1 3) (μ.2.1 5) ((x2 * (26 : Int32))).toNatClampNeg (((yMa_slotOf (μ.2.1 1 7)) * (26 : Int32))).toNatClampNeg ((μ.2.1 4 (x2).toNatClampNeg)).toNatClampNeg)), μ.2.2)) rfl ?_
    refine XB.gd (pc' := 56) (ls' := [some (.ref 1), some (.int x1), some (.int x2), some (.int (yMa_slotOf (μ.2.1 1 7)))]) (st' := [(.int (μ.2.1 4 (x2).toNatClampNeg)), (.int (yMa_slotOf (μ.2.1 1 7))), (.ref 6)]) (μ' := (μ.1, (va_up μ.2.1 5 (va_cpy (μ.2.1 3) (μ.2.1 5) ((x2 * (26 : Int32))).toNatClampNeg (((yMa_slotOf (μ.2.1 1 7)) * (26 : Int32))).toNatClampNeg ((μ.2.1 4 (x2).toNatClampNeg)).toNatClampNeg)), μ.2.2)) rfl rfl rfl (fun hb => xbT hb) ?_
    refine XB.gd (pc' := 57) (ls' := [some (.ref 1), some (.int x1), some (.int x2), some (.int (yMa_slotOf (μ.2.1 1 7)))]) (st' := []) (μ' := (μ.1, (xuI (va_up μ.2.1 5 (va_cpy (μ.2.1 3) (μ.2.1 5) ((x2 * (26 : Int32))).toNatClampNeg (((yMa_slotOf (μ.2.1 1 7)) * (26 : Int32))).toNatClampNeg ((μ.2.1 4 (x2).toNatClampNeg)).toNatClampNeg)) 6 ((yMa_slotOf (μ.2.1 1 7))).toNatClampNeg (μ.2.1 4 (x2).toNatClampNeg)), μ.2.2)) rfl rfl rfl (fun hb => xbT hb) ?_
    refine XB.go 8 (pc' := 7) (ls' := [some (.ref 1), some (.int x1), some (.int (x2 + (1 : Int32))), some (.int (yMa_slotOf (μ.2.1 1 7)))]) (st' := []) (μ' := (μ.1, (xuI (xuI (va_up μ.2.1 5 (va_cpy (μ.2.1 3) (μ.2.1 5) ((x2 * (26 : Int32))).toNatClampNeg (((yMa_slotOf (μ.2.1 1 7)) * (26 : Int32))).toNatClampNeg ((μ.2.1 4 (x2).toNatClampNeg)).toNatClampNeg)) 6 ((yMa_slotOf (μ.2.1 1 7))).toNatClampNeg (μ.2.1 4 (x2).toNatClampNeg)) 1 7 ((μ.2.1 1 7) + (1 : Int32))), μ.2.2)) rfl ?_
    exact hk7 (some (yMa_slotOf (μ.2.1 1 7))) x1 (x2 + (1 : Int32)) (μ.1, (xuI (xuI (va_up μ.2.1 5 (va_cpy (μ.2.1 3) (μ.2.1 5) ((x2 * (26 : Int32))).toNatClampNeg (((yMa_slotOf (μ.2.1 1 7)) * (26 : Int32))).toNatClampNeg ((μ.2.1 4 (x2).toNatClampNeg)).toNatClampNeg)) 6 ((yMa_slotOf (μ.2.1 1 7))).toNatClampNeg (μ.2.1 4 (x2).toNatClampNeg)) 1 7 ((μ.2.1 1 7) + (1 : Int32))), μ.2.2)
def yMa_release_b7_L  : Nat → Int32 → Int32 → XMu → XRes
  | 0 => fun _ _ _ => none
  | n + 1 => yMa_release_b7 (yMa_release_b7_L  n)
theorem yMa_release_b7_Lok {L : Nat} {xs : Nat → Int32}  : ∀ (n : Nat) (d3 : Option Int32) (x1 : Int32) (x2 : Int32) (μ : XMu), XB L xs 9 7 [some (.ref 1), some (.int x1), some (.int x2), (xdl d3)] [] μ (yMa_release_b7_L  n x1 x2 μ) := by
  intro n
  induction n with
  | zero => intro d3 x1 x2 μ r h; cases h
  | succ n ih => intro d3 x1 x2 μ; exact yMa_release_b7_ok (yMa_release_b7_L  n) ih d3 x1 x2 μ
def yMa_release  (μ : XMu) : XRes := yMa_release_b7_L  1000 (μ.2.1 1 4) (0 : Int32) μ
theorem yMa_release_ok {L : Nat} {xs : Nat → Int32}  (μ : XMu) : XB L xs 9 0 [some (.ref 1), none, none, none] [] μ (yMa_release  μ) := by
  unfold yMa_release
  refine XB.go 5 (pc' := 7) (ls' := [some (.ref 1), some (.int (μ.2.1 1 4)), some (.int (0 : Int32)), none]) (st' := []) (μ' := μ) rfl ?_
  exact yMa_release_b7_Lok  1000 (none) (μ.2.1 1 4) (0 : Int32) μ
/-- LogServer$Disk.settle()V -/
def yDi_settle  (μ : XMu) : XRes := some (.inl none, (μ.1, (xuI (xuI μ.2.1 28 11 (0 : Int32)) 28 10 (μ.2.1 28 9)), μ.2.2))
theorem yDi_settle_ok {L : Nat} {xs : Nat → Int32}  (μ : XMu) : XB L xs 10 0 [some (.ref 28)] [] μ (yDi_settle  μ) := by
  unfold yDi_settle
  refine XB.go 7 (pc' := 13) (ls' := [some (.ref 28)]) (st' := []) (μ' := (μ.1, (xuI (xuI μ.2.1 28 11 (0 : Int32)) 28 10 (μ.2.1 28 9)), μ.2.2)) rfl ?_
  exact XB.fin rfl
/-- LogServer.bit(I)I -/
def yC_bit (a0 : Int32) : Int32 := ((1 : Int32) <<< (a0 &&& 31))
theorem yC_bit_ok {L : Nat} {xs : Nat → Int32} (a0 : Int32) (μ : XMu) : XB L xs 11 0 [some (.int a0)] [] μ (some (.inl (some (.int (yC_bit a0))), μ)) := by
  unfold yC_bit
  refine XB.go 3 (pc' := 3) (ls' := [some (.int a0)]) (st' := [(.int ((1 : Int32) <<< (a0 &&& 31)))]) (μ' := μ) rfl ?_
  exact XB.fin rfl
/-- LogServer.oldOf(I)I -/
def yC_oldOf (a0 : Int32) : Int32 := (a0 &&& (127 : Int32))
theorem yC_oldOf_ok {L : Nat} {xs : Nat → Int32} (a0 : Int32) (μ : XMu) : XB L xs 12 0 [some (.int a0)] [] μ (some (.inl (some (.int (yC_oldOf a0))), μ)) := by
  unfold yC_oldOf
  refine XB.go 3 (pc' := 4) (ls' := [some (.int a0)]) (st' := [(.int (a0 &&& (127 : Int32)))]) (μ' := μ) rfl ?_
  exact XB.fin rfl
/-- LogServer.newOf(I)I -/
def yC_newOf (a0 : Int32) : Int32 := ((a0 >>> ((7 : Int32) &&& 31)) &&& (127 : Int32))
theorem yC_newOf_ok {L : Nat} {xs : Nat → Int32} (a0 : Int32) (μ : XMu) : XB L xs 13 0 [some (.int a0)] [] μ (some (.inl (some (.int (yC_newOf a0))), μ)) := by
  unfold yC_newOf
  refine XB.go 5 (pc' := 7) (ls' := [some (.int a0)]) (st' := [(.int ((a0 >>> ((7 : Int32) &&& 31)) &&& (127 : Int32)))]) (μ' := μ) rfl ?_
  exact XB.fin rfl
/-- java/lang/Integer.bitCount(I)I -/
def yI_bitCount (a0 : Int32) : Int32 := ((((((((a0 - (((a0).toUInt32 >>> (((1 : Int32)).toUInt32 &&& Int32.toUInt32 31)).toInt32 &&& (1431655765 : Int32))) &&& (858993459 : Int32)) + ((((a0 - (((a0).toUInt32 >>> (((1 : Int32)).toUInt32 &&& Int32.toUInt32 31)).toInt32 &&& (1431655765 : Int32)))).toUInt32 >>> (((2 : Int32)).toUInt32 &&& Int32.toUInt32 31)).toInt32 &&& (858993459 : Int32))) + (((((a0 - (((a0).toUInt32 >>> (((1 : Int32)).toUInt32 &&& Int32.toUInt32 31)).toInt32 &&& (1431655765 : Int32))) &&& (858993459 : Int32)) + ((((a0 - (((a0).toUInt32 >>> (((1 : Int32)).toUInt32 &&& Int32.toUInt32 31)).toInt32 &&& (1431655765 : Int32)))).toUInt32 >>> (((2 : Int32)).toUInt32 &&& Int32.toUInt32 31)).toInt32 &&& (858993459 : Int32)))).toUInt32 >>> (((4 : Int32)).toUInt32 &&& Int32.toUInt32 31)).toInt32) &&& (252645135 : Int32)) + (((((((a0 - (((a0).toUInt32 >>> (((1 : Int32)).toUInt32 &&& Int32.toUInt32 31)).toInt32 &&& (1431655765 : Int32))) &&& (858993459 : Int32)) + ((((a0 - (((a0).toUInt32 >>> (((1 : Int32)).toUInt32 &&& Int32.toUInt32 31)).toInt32 &&& (1431655765 : Int32)))).toUInt32 >>> (((2 : Int32)).toUInt32 &&& Int32.toUInt32 31)).toInt32 &&& (858993459 : Int32))) + (((((a0 - (((a0).toUInt32 >>> (((1 : Int32)).toUInt32 &&& Int32.toUInt32 31)).toInt32 &&& (1431655765 : Int32))) &&& (858993459 : Int32)) + ((((a0 - (((a0).toUInt32 >>> (((1 : Int32)).toUInt32 &&& Int32.toUInt32 31)).toInt32 &&& (1431655765 : Int32)))).toUInt32 >>> (((2 : Int32)).toUInt32 &&& Int32.toUInt32 31)).toInt32 &&& (858993459 : Int32)))).toUInt32 >>> (((4 : Int32)).toUInt32 &&& Int32.toUInt32 31)).toInt32) &&& (252645135 : Int32))).toUInt32 >>> (((8 : Int32)).toUInt32 &&& Int32.toUInt32 31)).toInt32) + ((((((((a0 - (((a0).toUInt32 >>> (((1 : Int32)).toUInt32 &&& Int32.toUInt32 31)).toInt32 &&& (1431655765 : Int32))) &&& (858993459 : Int32)) + ((((a0 - (((a0).toUInt32 >>> (((1 : Int32)).toUInt32 &&& Int32.toUInt32 31)).toInt32 &&& (1431655765 : Int32)))).toUInt32 >>> (((2 : Int32)).toUInt32 &&& Int32.toUInt32 31)).toInt32 &&& (858993459 : Int32))) + (((((a0 - (((a0).toUInt32 >>> (((1 : Int32)).toUInt32 &&& Int32.toUInt32 31)).toInt32 &&& (1431655765 : Int32))) &&& (858993459 : Int32)) + ((((a0 - (((a0).toUInt32 >>> (((1 : Int32)).toUInt32 &&& Int32.toUInt32 31)).toInt32 &&& (1431655765 : Int32)))).toUInt32 >>> (((2 : Int32)).toUInt32 &&& Int32.toUInt32 31)).toInt32 &&& (858993459 : Int32)))).toUInt32 >>> (((4 : Int32)).toUInt32 &&& Int32.toUInt32 31)).toInt32) &&& (252645135 : Int32)) + (((((((a0 - (((a0).toUInt32 >>> (((1 : Int32)).toUInt32 &&& Int32.toUInt32 31)).toInt32 &&& (1431655765 : Int32))) &&& (858993459 : Int32)) + ((((a0 - (((a0).toUInt32 >>> (((1 : Int32)).toUInt32 &&& Int32.toUInt32 31)).toInt32 &&& (1431655765 : Int32)))).toUInt32 >>> (((2 : Int32)).toUInt32 &&& Int32.toUInt32 31)).toInt32 &&& (858993459 : Int32))) + (((((a0 - (((a0).toUInt32 >>> (((1 : Int32)).toUInt32 &&& Int32.toUInt32 31)).toInt32 &&& (1431655765 : Int32))) &&& (858993459 : Int32)) + ((((a0 - (((a0).toUInt32 >>> (((1 : Int32)).toUInt32 &&& Int32.toUInt32 31)).toInt32 &&& (1431655765 : Int32)))).toUInt32 >>> (((2 : Int32)).toUInt32 &&& Int32.toUInt32 31)).toInt32 &&& (858993459 : Int32)))).toUInt32 >>> (((4 : Int32)).toUInt32 &&& Int32.toUInt32 31)).toInt32) &&& (252645135 : Int32))).toUInt32 >>> (((8 : Int32)).toUInt32 &&& Int32.toUInt32 31)).toInt32)).toUInt32 >>> (((16 : Int32)).toUInt32 &&& Int32.toUInt32 31)).toInt32) &&& (63 : Int32))
theorem yI_bitCount_ok {L : Nat} {xs : Nat → Int32} (a0 : Int32) (μ : XMu) : XB L xs 14 0 [some (.int a0)] [] μ (some (.inl (some (.int (yI_bitCount a0))), μ)) := by
  unfold yI_bitCount
  refine XB.go 41 (pc' := 52) (ls' := [some (.int (((((((a0 - (((a0).toUInt32 >>> (((1 : Int32)).toUInt32 &&& Int32.toUInt32 31)).toInt32 &&& (1431655765 : Int32))) &&& (858993459 : Int32)) + ((((a0 - (((a0).toUInt32 >>> (((1 : Int32)).toUInt32 &&& Int32.toUInt32 31)).toInt32 &&& (1431655765 : Int32)))).toUInt32 >>> (((2 : Int32)).toUInt32 &&& Int32.toUInt32 31)).toInt32 &&& (858993459 : Int32))) + (((((a0 - (((a0).toUInt32 >>> (((1 : Int32)).toUInt32 &&& Int32.toUInt32 31)).toInt32 &&& (1431655765 : Int32))) &&& (858993459 : Int32)) + ((((a0 - (((a0).toUInt32 >>> (((1 : Int32)).toUInt32 &&& Int32.toUInt32 31)).toInt32 &&& (1431655765 : Int32)))).toUInt32 >>> (((2 : Int32)).toUInt32 &&& Int32.toUInt32 31)).toInt32 &&& (858993459 : Int32)))).toUInt32 >>> (((4 : Int32)).toUInt32 &&& Int32.toUInt32 31)).toInt32) &&& (252645135 : Int32)) + (((((((a0 - (((a0).toUInt32 >>> (((1 : Int32)).toUInt32 &&& Int32.toUInt32 31)).toInt32 &&& (1431655765 : Int32))) &&& (858993459 : Int32)) + ((((a0 - (((a0).toUInt32 >>> (((1 : Int32)).toUInt32 &&& Int32.toUInt32 31)).toInt32 &&& (1431655765 : Int32)))).toUInt32 >>> (((2 : Int32)).toUInt32 &&& Int32.toUInt32 31)).toInt32 &&& (858993459 : Int32))) + (((((a0 - (((a0).toUInt32 >>> (((1 : Int32)).toUInt32 &&& Int32.toUInt32 31)).toInt32 &&& (1431655765 : Int32))) &&& (858993459 : Int32)) + ((((a0 - (((a0).toUInt32 >>> (((1 : Int32)).toUInt32 &&& Int32.toUInt32 31)).toInt32 &&& (1431655765 : Int32)))).toUInt32 >>> (((2 : Int32)).toUInt32 &&& Int32.toUInt32 31)).toInt32 &&& (858993459 : Int32)))).toUInt32 >>> (((4 : Int32)).toUInt32 &&& Int32.toUInt32 31)).toInt32) &&& (252645135 : Int32))).toUInt32 >>> (((8 : Int32)).toUInt32 &&& Int32.toUInt32 31)).toInt32) + ((((((((a0 - (((a0).toUInt32 >>> (((1 : Int32)).toUInt32 &&& Int32.toUInt32 31)).toInt32 &&& (1431655765 : Int32))) &&& (858993459 : Int32)) + ((((a0 - (((a0).toUInt32 >>> (((1 : Int32)).toUInt32 &&& Int32.toUInt32 31)).toInt32 &&& (1431655765 : Int32)))).toUInt32 >>> (((2 : Int32)).toUInt32 &&& Int32.toUInt32 31)).toInt32 &&& (858993459 : Int32))) + (((((a0 - (((a0).toUInt32 >>> (((1 : Int32)).toUInt32 &&& Int32.toUInt32 31)).toInt32 &&& (1431655765 : Int32))) &&& (858993459 : Int32)) + ((((a0 - (((a0).toUInt32 >>> (((1 : Int32)).toUInt32 &&& Int32.toUInt32 31)).toInt32 &&& (1431655765 : Int32)))).toUInt32 >>> (((2 : Int32)).toUInt32 &&& Int32.toUInt32 31)).toInt32 &&& (858993459 : Int32)))).toUInt32 >>> (((4 : Int32)).toUInt32 &&& Int32.toUInt32 31)).toInt32) &&& (252645135 : Int32)) + (((((((a0 - (((a0).toUInt32 >>> (((1 : Int32)).toUInt32 &&& Int32.toUInt32 31)).toInt32 &&& (1431655765 : Int32))) &&& (858993459 : Int32)) + ((((a0 - (((a0).toUInt32 >>> (((1 : Int32)).toUInt32 &&& Int32.toUInt32 31)).toInt32 &&& (1431655765 : Int32)))).toUInt32 >>> (((2 : Int32)).toUInt32 &&& Int32.toUInt32 31)).toInt32 &&& (858993459 : Int32))) + (((((a0 - (((a0).toUInt32 >>> (((1 : Int32)).toUInt32 &&& Int32.toUInt32 31)).toInt32 &&& (1431655765 : Int32))) &&& (858993459 : Int32)) + ((((a0 - (((a0).toUInt32 >>> (((1 : Int32)).toUInt32 &&& Int32.toUInt32 31)).toInt32 &&& (1431655765 : Int32)))).toUInt32 >>> (((2 : Int32)).toUInt32 &&& Int32.toUInt32 31)).toInt32 &&& (858993459 : Int32)))).toUInt32 >>> (((4 : Int32)).toUInt32 &&& Int32.toUInt32 31)).toInt32) &&& (252645135 : Int32))).toUInt32 >>> (((8 : Int32)).toUInt32 &&& Int32.toUInt32 31)).toInt32)).toUInt32 >>> (((16 : Int32)).toUInt32 &&& Int32.toUInt32 31)).toInt32))]) (st' := [(.int ((((((((a0 - (((a0).toUInt32 >>> (((1 : Int32)).toUInt32 &&& Int32.toUInt32 31)).toInt32 &&& (1431655765 : Int32))) &&& (858993459 : Int32)) + ((((a0 - (((a0).toUInt32 >>> (((1 : Int32)).toUInt32 &&& Int32.toUInt32 31)).toInt32 &&& (1431655765 : Int32)))).toUInt32 >>> (((2 : Int32)).toUInt32 &&& Int32.toUInt32 31)).toInt32 &&& (858993459 : Int32))) + (((((a0 - (((a0).toUInt32 >>> (((1 : Int32)).toUInt32 &&& Int32.toUInt32 31)).toInt32 &&& (1431655765 : Int32))) &&& (858993459 : Int32)) + ((((a0 - (((a0).toUInt32 >>> (((1 : Int32)).toUInt32 &&& Int32.toUInt32 31)).toInt32 &&& (1431655765 : Int32)))).toUInt32 >>> (((2 : Int32)).toUInt32 &&& Int32.toUInt32 31)).toInt32 &&& (858993459 : Int32)))).toUInt32 >>> (((4 : Int32)).toUInt32 &&& Int32.toUInt32 31)).toInt32) &&& (252645135 : Int32)) + (((((((a0 - (((a0).toUInt32 >>> (((1 : Int32)).toUInt32 &&& Int32.toUInt32 31)).toInt32 &&& (1431655765 : Int32))) &&& (858993459 : Int32)) + ((((a0 - (((a0).toUInt32 >>> (((1 : Int32)).toUInt32 &&& Int32.toUInt32 31)).toInt32 &&& (1431655765 : Int32)))).toUInt32 >>> (((2 : Int32)).toUInt32 &&& Int32.toUInt32 31)).toInt32 &&& (858993459 : Int32))) + (((((a0 - (((a0).toUInt32 >>> (((1 : Int32)).toUInt32 &&& Int32.toUInt32 31)).toInt32 &&& (1431655765 : Int32))) &&& (858993459 : Int32)) + ((((a0 - (((a0).toUInt32 >>> (((1 : Int32)).toUInt32 &&& Int32.toUInt32 31)).toInt32 &&& (1431655765 : Int32)))).toUInt32 >>> (((2 : Int32)).toUInt32 &&& Int32.toUInt32 31)).toInt32 &&& (858993459 : Int32)))).toUInt32 >>> (((4 : Int32)).toUInt32 &&& Int32.toUInt32 31)).toInt32) &&& (252645135 : Int32))).toUInt32 >>> (((8 : Int32)).toUInt32 &&& Int32.toUInt32 31)).toInt32) + ((((((((a0 - (((a0).toUInt32 >>> (((1 : Int32)).toUInt32 &&& Int32.toUInt32 31)).toInt32 &&& (1431655765 : Int32))) &&& (858993459 : Int32)) + ((((a0 - (((a0).toUInt32 >>> (((1 : Int32)).toUInt32 &&& Int32.toUInt32 31)).toInt32 &&& (1431655765 : Int32)))).toUInt32 >>> (((2 : Int32)).toUInt32 &&& Int32.toUInt32 31)).toInt32 &&& (858993459 : Int32))) + (((((a0 - (((a0).toUInt32 >>> (((1 : Int32)).toUInt32 &&& Int32.toUInt32 31)).toInt32 &&& (1431655765 : Int32))) &&& (858993459 : Int32)) + ((((a0 - (((a0).toUInt32 >>> (((1 : Int32)).toUInt32 &&& Int32.toUInt32 31)).toInt32 &&& (1431655765 : Int32)))).toUInt32 >>> (((2 : Int32)).toUInt32 &&& Int32.toUInt32 31)).toInt32 &&& (858993459 : Int32)))).toUInt32 >>> (((4 : Int32)).toUInt32 &&& Int32.toUInt32 31)).toInt32) &&& (252645135 : Int32)) + (((((((a0 - (((a0).toUInt32 >>> (((1 : Int32)).toUInt32 &&& Int32.toUInt32 31)).toInt32 &&& (1431655765 : Int32))) &&& (858993459 : Int32)) + ((((a0 - (((a0).toUInt32 >>> (((1 : Int32)).toUInt32 &&& Int32.toUInt32 31)).toInt32 &&& (1431655765 : Int32)))).toUInt32 >>> (((2 : Int32)).toUInt32 &&& Int32.toUInt32 31)).toInt32 &&& (858993459 : Int32))) + (((((a0 - (((a0).toUInt32 >>> (((1 : Int32)).toUInt32 &&& Int32.toUInt32 31)).toInt32 &&& (1431655765 : Int32))) &&& (858993459 : Int32)) + ((((a0 - (((a0).toUInt32 >>> (((1 : Int32)).toUInt32 &&& Int32.toUInt32 31)).toInt32 &&& (1431655765 : Int32)))).toUInt32 >>> (((2 : Int32)).toUInt32 &&& Int32.toUInt32 31)).toInt32 &&& (858993459 : Int32)))).toUInt32 >>> (((4 : Int32)).toUInt32 &&& Int32.toUInt32 31)).toInt32) &&& (252645135 : Int32))).toUInt32 >>> (((8 : Int32)).toUInt32 &&& Int32.toUInt32 31)).toInt32)).toUInt32 >>> (((16 : Int32)).toUInt32 &&& Int32.toUInt32 31)).toInt32) &&& (63 : Int32)))]) (μ' := μ) rfl ?_
  exact XB.fin rfl
/-- LogServer.isMajority(I)Z -/
def yC_isMajority (a1 : Int32) (μ : XMu) : Int32 := (if ((2 : Int32) * (yI_bitCount (a1 &&& (yC_oldOf (μ.2.1 28 13))))) ≤ (yI_bitCount (yC_oldOf (μ.2.1 28 13))) then (if (yC_newOf (μ.2.1 28 13)) = (0 : Int32) then (0 : Int32) else (if ((2 : Int32) * (yI_bitCount (a1 &&& (yC_newOf (μ.2.1 28 13))))) ≤ (yI_bitCount (yC_newOf (μ.2.1 28 13))) then (0 : Int32) else (0 : Int32))) else (if (yC_newOf (μ.2.1 28 13)) = (0 : Int32) then (1 : Int32) else (if ((2 : Int32) * (yI_bitCount (a1 &&& (yC_newOf (μ.2.1 28 13))))) ≤ (yI_bitCount (yC_newOf (μ.2.1 28 13))) then (0 : Int32) else (1 : Int32))))
theorem yC_isMajority_ok {L : Nat} {xs : Nat → Int32} (a1 : Int32) (μ : XMu) : XB L xs 15 0 [some (.ref 0), some (.int a1), none, none, none, none] [] μ (some (.inl (some (.int (yC_isMajority a1 μ))), μ)) := by
  unfold yC_isMajority
  refine XB.go 3 (pc' := 7) (ls' := [some (.ref 0), some (.int a1), none, none, none, none]) (st' := [(.int (μ.2.1 28 13))]) (μ' := μ) rfl ?_
  refine XB.cp rfl rfl rfl (yC_oldOf_ok (μ.2.1 28 13) μ) ?_
  refine XB.go 4 (pc' := 18) (ls' := [some (.ref 0), some (.int a1), some (.int (yC_oldOf (μ.2.1 28 13))), none, none, none]) (st' := [(.int (μ.2.1 28 13))]) (μ' := μ) rfl ?_
  refine XB.cp rfl rfl rfl (yC_newOf_ok (μ.2.1 28 13) μ) ?_
  refine XB.go 5 (pc' := 26) (ls' := [some (.ref 0), some (.int a1), some (.int (yC_oldOf (μ.2.1 28 13))), some (.int (yC_newOf (μ.2.1 28 13))), none, none]) (st' := [(.int (a1 &&& (yC_oldOf (μ.2.1 28 13)))), (.int (2 : Int32))]) (μ' := μ) rfl ?_
  refine XB.cp rfl rfl rfl (yI_bitCount_ok (a1 &&& (yC_oldOf (μ.2.1 28 13))) μ) ?_
  refine XB.go 2 (pc' := 31) (ls' := [some (.ref 0), some (.int a1), some (.int (yC_oldOf (μ.2.1 28 13))), some (.int (yC_newOf (μ.2.1 28 13))), none, none]) (st' := [(.int (yC_oldOf (μ.2.1 28 13))), (.int ((2 : Int32) * (yI_bitCount (a1 &&& (yC_oldOf (μ.2.1 28 13))))))]) (μ' := μ) rfl ?_
  refine XB.cp rfl rfl rfl (yI_bitCount_ok (yC_oldOf (μ.2.1 28 13)) μ) ?_
  refine XB.icmpv (P := ((2 : Int32) * (yI_bitCount (a1 &&& (yC_oldOf (μ.2.1 28 13))))) ≤ (yI_bitCount (yC_oldOf (μ.2.1 28 13)))) rfl rfl rfl (fun c34 => ?_) (fun c34 => ?_)
  · refine XB.go 3 (pc' := 45) (ls' := [some (.ref 0), some (.int a1), some (.int (yC_oldOf (μ.2.1 28 13))), some (.int (yC_newOf (μ.2.1 28 13))), some (.int (0 : Int32)), none]) (st' := [(.int (yC_newOf (μ.2.1 28 13)))]) (μ' := μ) rfl ?_
    refine XB.ifzv (P := (yC_newOf (μ.2.1 28 13)) = (0 : Int32)) rfl rfl rfl (fun c45 => ?_) (fun c45 => ?_)
    · refine XB.go 4 (pc' := 72) (ls' := [some (.ref 0), some (.int a1), some (.int (yC_oldOf (μ.2.1 28 13))), some (.int (yC_newOf (μ.2.1 28 13))), some (.int (0 : Int32)), some (.int (1 : Int32))]) (st' := [(.int (0 : Int32))]) (μ' := μ) rfl ?_
      refine XB.ifzT rfl rfl rfl ?_
      refine XB.go 1 (pc' := 85) (ls' := [some (.ref 0), some (.int a1), some (.int (yC_oldOf (μ.2.1 28 13))), some (.int (yC_newOf (μ.2.1 28 13))), some (.int (0 : Int32)), some (.int (1 : Int32))]) (st' := [(.int (0 : Int32))]) (μ' := μ) rfl ?_
      exact XB.fin rfl
    · refine XB.go 4 (pc' := 52) (ls' := [some (.ref 0), some (.int a1), some (.int (yC_oldOf (μ.2.1 28 13))), some (.int (yC_newOf (μ.2.1 28 13))), some (.int (0 : Int32)), none]) (st' := [(.int (a1 &&& (yC_newOf (μ.2.1 28 13)))), (.int (2 : Int32))]) (μ' := μ) rfl ?_
      refine XB.cp rfl rfl rfl (yI_bitCount_ok (a1 &&& (yC_newOf (μ.2.1 28 13))) μ) ?_
      refine XB.go 2 (pc' := 57) (ls' := [some (.ref 0), some (.int a1), some (.int (yC_oldOf (μ.2.1 28 13))), some (.int (yC_newOf (μ.2.1 28 13))), some (.int (0 : Int32)), none]) (st' := [(.int (yC_newOf (μ.2.1 28 13))), (.int ((2 : Int32) * (yI_bitCount (a1 &&& (yC_newOf (μ.2.1 28 13))))))]) (μ' := μ) rfl ?_
      refine XB.cp rfl rfl rfl (yI_bitCount_ok (yC_newOf (μ.2.1 28 13)) μ) ?_
      refine XB.icmpv (P := ((2 : Int32) * (yI_bitCount (a1 &&& (yC_newOf (μ.2.1 28 13))))) ≤ (yI_bitCount (yC_newOf (μ.2.1 28 13)))) rfl rfl rfl (fun c60 => ?_) (fun c60 => ?_)
      · refine XB.go 3 (pc' := 72) (ls' := [some (.ref 0), some (.int a1), some (.int (yC_oldOf (μ.2.1 28 13))), some (.int (yC_newOf (μ.2.1 28 13))), some (.int (0 : Int32)), some (.int (0 : Int32))]) (st' := [(.int (0 : Int32))]) (μ' := μ) rfl ?_
        refine XB.ifzT rfl rfl rfl ?_
        refine XB.go 1 (pc' := 85) (ls' := [some (.ref 0), some (.int a1), some (.int (yC_oldOf (μ.2.1 28 13))), some (.int (yC_newOf (μ.2.1 28 13))), some (.int (0 : Int32)), some (.int (0 : Int32))]) (st' := [(.int (0 : Int32))]) (μ' := μ) rfl ?_
        exact XB.fin rfl
      · refine XB.go 4 (pc' := 72) (ls' := [some (.ref 0), some (.int a1), some (.int (yC_oldOf (μ.2.1 28 13))), some (.int (yC_newOf (μ.2.1 28 13))), some (.int (0 : Int32)), some (.int (1 : Int32))]) (st' := [(.int (0 : Int32))]) (μ' := μ) rfl ?_
        refine XB.ifzT rfl rfl rfl ?_
        refine XB.go 1 (pc' := 85) (ls' := [some (.ref 0), some (.int a1), some (.int (yC_oldOf (μ.2.1 28 13))), some (.int (yC_newOf (μ.2.1 28 13))), some (.int (0 : Int32)), some (.int (1 : Int32))]) (st' := [(.int (0 : Int32))]) (μ' := μ) rfl ?_
        exact XB.fin rfl
  · refine XB.go 4 (pc' := 45) (ls' := [some (.ref 0), some (.int a1), some (.int (yC_oldOf (μ.2.1 28 13))), some (.int (yC_newOf (μ.2.1 28 13))), some (.int (1 : Int32)), none]) (st' := [(.int (yC_newOf (μ.2.1 28 13)))]) (μ' := μ) rfl ?_
    refine XB.ifzv (P := (yC_newOf (μ.2.1 28 13)) = (0 : Int32)) rfl rfl rfl (fun c45 => ?_) (fun c45 => ?_)
    · refine XB.go 4 (pc' := 72) (ls' := [some (.ref 0), some (.int a1), some (.int (yC_oldOf (μ.2.1 28 13))), some (.int (yC_newOf (μ.2.1 28 13))), some (.int (1 : Int32)), some (.int (1 : Int32))]) (st' := [(.int (1 : Int32))]) (μ' := μ) rfl ?_
      refine XB.ifzF rfl rfl rfl ?_
      refine XB.go 1 (pc' := 77) (ls' := [some (.ref 0), some (.int a1), some (.int (yC_oldOf (μ.2.1 28 13))), some (.int (yC_newOf (μ.2.1 28 13))), some (.int (1 : Int32)), some (.int (1 : Int32))]) (st' := [(.int (1 : Int32))]) (μ' := μ) rfl ?_
      refine XB.ifzF rfl rfl rfl ?_
      refine XB.go 2 (pc' := 85) (ls' := [some (.ref 0), some (.int a1), some (.int (yC_oldOf (μ.2.1 28 13))), some (.int (yC_newOf (μ.2.1 28 13))), some (.int (1 : Int32)), some (.int (1 : Int32))]) (st' := [(.int (1 : Int32))]) (μ' := μ) rfl ?_
      exact XB.fin rfl
    · refine XB.go 4 (pc' := 52) (ls' := [some (.ref 0), some (.int a1), some (.int (yC_oldOf (μ.2.1 28 13))), some (.int (yC_newOf (μ.2.1 28 13))), some (.int (1 : Int32)), none]) (st' := [(.int (a1 &&& (yC_newOf (μ.2.1 28 13)))), (.int (2 : Int32))]) (μ' := μ) rfl ?_
      refine XB.cp rfl rfl rfl (yI_bitCount_ok (a1 &&& (yC_newOf (μ.2.1 28 13))) μ) ?_
      refine XB.go 2 (pc' := 57) (ls' := [some (.ref 0), some (.int a1), some (.int (yC_oldOf (μ.2.1 28 13))), some (.int (yC_newOf (μ.2.1 28 13))), some (.int (1 : Int32)), none]) (st' := [(.int (yC_newOf (μ.2.1 28 13))), (.int ((2 : Int32) * (yI_bitCount (a1 &&& (yC_newOf (μ.2.1 28 13))))))]) (μ' := μ) rfl ?_
      refine XB.cp rfl rfl rfl (yI_bitCount_ok (yC_newOf (μ.2.1 28 13)) μ) ?_
      refine XB.icmpv (P := ((2 : Int32) * (yI_bitCount (a1 &&& (yC_newOf (μ.2.1 28 13))))) ≤ (yI_bitCount (yC_newOf (μ.2.1 28 13)))) rfl rfl rfl (fun c60 => ?_) (fun c60 => ?_)
      · refine XB.go 3 (pc' := 72) (ls' := [some (.ref 0), some (.int a1), some (.int (yC_oldOf (μ.2.1 28 13))), some (.int (yC_newOf (μ.2.1 28 13))), some (.int (1 : Int32)), some (.int (0 : Int32))]) (st' := [(.int (1 : Int32))]) (μ' := μ) rfl ?_
        refine XB.ifzF rfl rfl rfl ?_
        refine XB.go 1 (pc' := 77) (ls' := [some (.ref 0), some (.int a1), some (.int (yC_oldOf (μ.2.1 28 13))), some (.int (yC_newOf (μ.2.1 28 13))), some (.int (1 : Int32)), some (.int (0 : Int32))]) (st' := [(.int (0 : Int32))]) (μ' := μ) rfl ?_
        refine XB.ifzT rfl rfl rfl ?_
        refine XB.go 1 (pc' := 85) (ls' := [some (.ref 0), some (.int a1), some (.int (yC_oldOf (μ.2.1 28 13))), some (.int (yC_newOf (μ.2.1 28 13))), some (.int (1 : Int32)), some (.int (0 : Int32))]) (st' := [(.int (0 : Int32))]) (μ' := μ) rfl ?_
        exact XB.fin rfl
      · refine XB.go 4 (pc' := 72) (ls' := [some (.ref 0), some (.int a1), some (.int (yC_oldOf (μ.2.1 28 13))), some (.int (yC_newOf (μ.2.1 28 13))), some (.int (1 : Int32)), some (.int (1 : Int32))]) (st' := [(.int (1 : Int32))]) (μ' := μ) rfl ?_
        refine XB.ifzF rfl rfl rfl ?_
        refine XB.go 1 (pc' := 77) (ls' := [some (.ref 0), some (.int a1), some (.int (yC_oldOf (μ.2.1 28 13))), some (.int (yC_newOf (μ.2.1 28 13))), some (.int (1 : Int32)), some (.int (1 : Int32))]) (st' := [(.int (1 : Int32))]) (μ' := μ) rfl ?_
        refine XB.ifzF rfl rfl rfl ?_
        refine XB.go 2 (pc' := 85) (ls' := [some (.ref 0), some (.int a1), some (.int (yC_oldOf (μ.2.1 28 13))), some (.int (yC_newOf (μ.2.1 28 13))), some (.int (1 : Int32)), some (.int (1 : Int32))]) (st' := [(.int (1 : Int32))]) (μ' := μ) rfl ?_
        exact XB.fin rfl
theorem yC_isMajority_01 (a1 : Int32) (μ : XMu) : x01 (yC_isMajority a1 μ) = true := by
  unfold yC_isMajority
  repeat (first | rfl | (exact rfl) | split)
/-- LogServer$Disk.hasRoom()Z -/
def yDi_hasRoom  (μ : XMu) : Int32 := (if (300 : Int32) ≤ ((μ.2.1 28 9) - (μ.2.1 28 5)) then (0 : Int32) else (1 : Int32))
theorem yDi_hasRoom_ok {L : Nat} {xs : Nat → Int32}  (μ : XMu) : XB L xs 16 0 [some (.ref 28)] [] μ (some (.inl (some (.int (yDi_hasRoom  μ))), μ)) := by
  unfold yDi_hasRoom
  refine XB.go 6 (pc' := 12) (ls' := [some (.ref 28)]) (st' := [(.int (300 : Int32)), (.int ((μ.2.1 28 9) - (μ.2.1 28 5)))]) (μ' := μ) rfl ?_
  refine XB.icmpv (P := (300 : Int32) ≤ ((μ.2.1 28 9) - (μ.2.1 28 5))) rfl rfl rfl (fun c12 => ?_) (fun c12 => ?_)
  · refine XB.go 1 (pc' := 20) (ls' := [some (.ref 28)]) (st' := [(.int (0 : Int32))]) (μ' := μ) rfl ?_
    exact XB.fin rfl
  · refine XB.go 2 (pc' := 20) (ls' := [some (.ref 28)]) (st' := [(.int (1 : Int32))]) (μ' := μ) rfl ?_
    exact XB.fin rfl
theorem yDi_hasRoom_01  (μ : XMu) : x01 (yDi_hasRoom  μ) = true := by
  unfold yDi_hasRoom
  repeat (first | rfl | (exact rfl) | split)
/-- LogServer$Disk.enterTerm(I)V -/
def yDi_enterTerm (a1 : Int32) (μ : XMu) : XRes := some (.inl none, (μ.1, (xuI (xuI (xuI μ.2.1 28 3 a1) 28 4 (-1 : Int32)) 28 11 (1 : Int32)), μ.2.2))
theorem yDi_enterTerm_ok {L : Nat} {xs : Nat → Int32} (a1 : Int32) (μ : XMu) : XB L xs 17 0 [some (.ref 28), some (.int a1)] [] μ (yDi_enterTerm a1 μ) := by
  unfold yDi_enterTerm
  refine XB.go 9 (pc' := 15) (ls' := [some (.ref 28), some (.int a1)]) (st' := []) (μ' := (μ.1, (xuI (xuI (xuI μ.2.1 28 3 a1) 28 4 (-1 : Int32)) 28 11 (1 : Int32)), μ.2.2)) rfl ?_
  exact XB.fin rfl
/-- LogServer$Calls.dropWaiting()V -/
def yCa_dropWaiting_b2 (k2 : Int32 → XMu → XRes) (x1 : Int32) (μ : XMu) : XRes := (if (32 : Int32) ≤ x1 then some (.inl none, μ) else (if (μ.2.1 20 4) ≤ x1 then some (.inl none, μ) else xgd (xin x1 32) ((if ¬ (μ.2.1 24 (x1).toNatClampNeg) = (0 : Int32) then k2 (x1 + (1 : Int32)) μ else xgd (xin x1 32) (k2 (x1 + (1 : Int32)) (μ.1, (xuI μ.2.1 24 (x1).toNatClampNeg (2 : Int32)), μ.2.2))))))
theorem yCa_dropWaiting_b2_ok {L : Nat} {xs : Nat → Int32} (k2 : Int32 → XMu → XRes) (hk2 : ∀  (x1 : Int32) (μ : XMu), XB L xs 18 2 [some (.ref 20), some (.int x1)] [] μ (k2 x1 μ))  (x1 : Int32) (μ : XMu) : XB L xs 18 2 [some (.ref 20), some (.int x1)] [] μ (yCa_dropWaiting_b2 k2 x1 μ) := by
  unfold yCa_dropWaiting_b2
  refine XB.go 2 (pc' := 5) (ls' := [some (.ref 20), some (.int x1)]) (st' := [(.int (32 : Int32)), (.int x1)]) (μ' := μ) rfl ?_
  refine XB.icmp (P := (32 : Int32) ≤ x1) rfl rfl rfl (fun c5 => ?_) (fun c5 => ?_)
  · exact XB.fin rfl
  · refine XB.go 3 (pc' := 13) (ls' := [some (.ref 20), some (.int x1)]) (st' := [(.int (μ.2.1 20 4)), (.int x1)]) (μ' := μ) rfl ?_
    refine XB.icmp (P := (μ.2.1 20 4) ≤ x1) rfl rfl rfl (fun c13 => ?_) (fun c13 => ?_)
    · exact XB.fin rfl
    · refine XB.go 3 (pc' := 21) (ls' := [some (.ref 20), some (.int x1)]) (st' := [(.int x1), (.ref 24)]) (μ' := μ) rfl ?_
      refine XB.gd (pc' := 22) (ls' := [some (.ref 20), some (.int x1)]) (st' := [(.int (μ.2.1 24 (x1).toNatClampNeg))]) (μ' := μ) rfl rfl rfl (fun hb => xbT hb) ?_
      refine XB.ifz (P := ¬ (μ.2.1 24 (x1).toNatClampNeg) = (0 : Int32)) rfl rfl rfl (fun c22 => ?_) (fun c22 => ?_)
      · refine XB.go 2 (pc' := 2) (ls' := [some (.ref 20), some (.int (x1 + (1 : Int32)))]) (st' := []) (μ' := μ) rfl ?_
        exact hk2  (x1 + (1 : Int32)) μ
      · refine XB.go 4 (pc' := 31) (ls' := [some (.ref 20), some (.int x1)]) (st' := [(.int (2 : Int32)), (.int x1), (.ref 24)]) (μ' := μ) rfl ?_
        refine XB.gd (pc' := 32) (ls' := [some (.ref 20), some (.int x1)]) (st' := []) (μ' := (μ.1, (xuI μ.2.1 24 (x1).toNatClampNeg (2 : Int32)), μ.2.2)) rfl rfl rfl (fun hb => xbT hb) ?_
        refine XB.go 2 (pc' := 2) (ls' := [some (.ref 20), some (.int (x1 + (1 : Int32)))]) (st' := []) (μ' := (μ.1, (xuI μ.2.1 24 (x1).toNatClampNeg (2 : Int32)), μ.2.2)) rfl ?_
        exact hk2  (x1 + (1 : Int32)) (μ.1, (xuI μ.2.1 24 (x1).toNatClampNeg (2 : Int32)), μ.2.2)
def yCa_dropWaiting_b2_L  : Nat → Int32 → XMu → XRes
  | 0 => fun _ _ => none
  | n + 1 => yCa_dropWaiting_b2 (yCa_dropWaiting_b2_L  n)
theorem yCa_dropWaiting_b2_Lok {L : Nat} {xs : Nat → Int32}  : ∀ (n : Nat)  (x1 : Int32) (μ : XMu), XB L xs 18 2 [some (.ref 20), some (.int x1)] [] μ (yCa_dropWaiting_b2_L  n x1 μ) := by
  intro n
  induction n with
  | zero => intro  x1 μ r h; cases h
  | succ n ih => intro  x1 μ; exact yCa_dropWaiting_b2_ok (yCa_dropWaiting_b2_L  n) ih  x1 μ
def yCa_dropWaiting  (μ : XMu) : XRes := yCa_dropWaiting_b2_L  1000 (0 : Int32) μ
theorem yCa_dropWaiting_ok {L : Nat} {xs : Nat → Int32}  (μ : XMu) : XB L xs 18 0 [some (.ref 20), none] [] μ (yCa_dropWaiting  μ) := by
  unfold yCa_dropWaiting
  refine XB.go 2 (pc' := 2) (ls' := [some (.ref 20), some (.int (0 : Int32))]) (st' := []) (μ' := μ) rfl ?_
  exact yCa_dropWaiting_b2_Lok  1000  (0 : Int32) μ
/-- LogServer.stepDown(II)V -/
def yC_stepDown_b19  (x2 : Int32) (μ : XMu) : XRes := (if ¬ (μ.2.1 0 9) = (3 : Int32) then some (.inl none, (μ.1, (xuI (xuI μ.2.1 0 9 (0 : Int32)) 0 10 x2), μ.2.2)) else xbv (yC_drawAlarm μ) (fun m1 => xbv (yCa_dropWaiting m1) (fun m2 => some (.inl none, (m2.1, (xuI (xuI (xuI m2.2.1 0 16 (-1 : Int32)) 0 9 (0 : Int32)) 0 10 x2), m2.2.2)))))
theorem yC_stepDown_b19_ok {L : Nat} {xs : Nat → Int32}  (d1 : Option Int32) (x2 : Int32) (μ : XMu) : XB L xs 19 19 [some (.ref 0), (xdl d1), some (.int x2)] [] μ (yC_stepDown_b19  x2 μ) := by
  unfold yC_stepDown_b19
  refine XB.go 3 (pc' := 24) (ls' := [some (.ref 0), (xdl d1), some (.int x2)]) (st' := [(.int (3 : Int32)), (.int (μ.2.1 0 9))]) (μ' := μ) rfl ?_
  refine XB.icmp (P := ¬ (μ.2.1 0 9) = (3 : Int32)) rfl rfl rfl (fun c24 => ?_) (fun c24 => ?_)
  · refine XB.go 6 (pc' := 53) (ls' := [some (.ref 0), (xdl d1), some (.int x2)]) (st' := []) (μ' := (μ.1, (xuI (xuI μ.2.1 0 9 (0 : Int32)) 0 10 x2), μ.2.2)) rfl ?_
    exact XB.fin rfl
  · refine XB.go 1 (pc' := 28) (ls' := [some (.ref 0), (xdl d1), some (.int x2)]) (st' := [(.ref 0)]) (μ' := μ) rfl ?_
    refine XB.cv rfl rfl rfl rfl rfl (yC_drawAlarm_ok μ) (fun m1 => ?_)
    refine XB.go 2 (pc' := 35) (ls' := [some (.ref 0), (xdl d1), some (.int x2)]) (st' := [(.ref 20)]) (μ' := m1) rfl ?_
    refine XB.cv rfl rfl rfl rfl rfl (yCa_dropWaiting_ok m1) (fun m2 => ?_)
    refine XB.go 9 (pc' := 53) (ls' := [some (.ref 0), (xdl d1), some (.int x2)]) (st' := []) (μ' := (m2.1, (xuI (xuI (xuI m2.2.1 0 16 (-1 : Int32)) 0 9 (0 : Int32)) 0 10 x2), m2.2.2)) rfl ?_
    exact XB.fin rfl
def yC_stepDown (a1 : Int32) (a2 : Int32) (μ : XMu) : XRes := (if a1 ≤ (μ.2.1 28 3) then yC_stepDown_b19  a2 μ else xbv (yDi_enterTerm a1 μ) (fun m3 => yC_stepDown_b19  a2 m3))
theorem yC_stepDown_ok {L : Nat} {xs : Nat → Int32} (a1 : Int32) (a2 : Int32) (μ : XMu) : XB L xs 19 0 [some (.ref 0), some (.int a1), some (.int a2)] [] μ (yC_stepDown a1 a2 μ) := by
  unfold yC_stepDown
  refine XB.go 4 (pc' := 8) (ls' := [some (.ref 0), some (.int a1), some (.int a2)]) (st' := [(.int (μ.2.1 28 3)), (.int a1)]) (μ' := μ) rfl ?_
  refine XB.icmp (P := a1 ≤ (μ.2.1 28 3)) rfl rfl rfl (fun c8 => ?_) (fun c8 => ?_)
  · exact yC_stepDown_b19_ok  (some a1) a2 μ
  · refine XB.go 3 (pc' := 16) (ls' := [some (.ref 0), some (.int a1), some (.int a2)]) (st' := [(.int a1), (.ref 28)]) (μ' := μ) rfl ?_
    refine XB.cv rfl rfl rfl rfl rfl (yDi_enterTerm_ok a1 μ) (fun m3 => ?_)
    exact yC_stepDown_b19_ok  (some a1) a2 m3
/-- LogServer$Lead.begin(II)V -/
def yLe_begin_b12 (k12 : Int32 → Int32 → Int32 → XMu → XRes) (x1 : Int32) (x2 : Int32) (x3 : Int32) (μ : XMu) : XRes := (if (7 : Int32) ≤ x3 then some (.inl none, μ) else xgd (xin x3 7) (xgd (xin x3 7) (xgd (xin x3 7) (xgd (xin x3 7) (xgd (xin x3 7) (xgd (xin x3 7) (xgd (xin x3 7) (xgd (xin x3 7) (k12 x1 x2 (x3 + (1 : Int32)) (μ.1, (xuI (xuI (xuI (xuI (xuI (xuI (xuI (xuI μ.2.1 12 (x3).toNatClampNeg x1) 13 (x3).toNatClampNeg (0 : Int32)) 14 (x3).toNatClampNeg (0 : Int32)) 15 (x3).toNatClampNeg (1 : Int32)) 16 (x3).toNatClampNeg (0 : Int32)) 17 (x3).toNatClampNeg (0 : Int32)) 18 (x3).toNatClampNeg x2) 19 (x3).toNatClampNeg (0 : Int32)), μ.2.2))))))))))
theorem yLe_begin_b12_ok {L : Nat} {xs : Nat → Int32} (k12 : Int32 → Int32 → Int32 → XMu → XRes) (hk12 : ∀  (x1 : Int32) (x2 : Int32) (x3 : Int32) (μ : XMu), XB L xs 20 12 [some (.ref 11), some (.int x1), some (.int x2), some (.int x3)] [] μ (k12 x1 x2 x3 μ))  (x1 : Int32) (x2 : Int32) (x3 : Int32) (μ : XMu) : XB L xs 20 12 [some (.ref 11), some (.int x1), some (.int x2), some (.int x3)] [] μ (yLe_begin_b12 k12 x1 x2 x3 μ) := by
  unfold yLe_begin_b12
  refine XB.go 2 (pc' := 15) (ls' := [some (.ref 11), some (.int x1), some (.int x2), some (.int x3)]) (st' := [(.int (7 : Int32)), (.int x3)]) (μ' := μ) rfl ?_
  refine XB.icmp (P := (7 : Int32) ≤ x3) rfl rfl rfl (fun c15 => ?_) (fun c15 => ?_)
  · exact XB.fin rfl
  · refine XB.go 4 (pc' := 24) (ls' := [some (.ref 11), some (.int x1), some (.int x2), some (.int x3)]) (st' := [(.int x1), (.int x3), (.ref 12)]) (μ' := μ) rfl ?_
    refine XB.gd (pc' := 25) (ls' := [some (.ref 11), some (.int x1), some (.int x2), some (.int x3)]) (st' := []) (μ' := (μ.1, (xuI μ.2.1 12 (x3).toNatClampNeg x1), μ.2.2)) rfl rfl rfl (fun hb => xbT hb) ?_
    refine XB.go 4 (pc' := 31) (ls' := [some (.ref 11), some (.int x1), some (.int x2), some (.int x3)]) (st' := [(.int (0 : Int32)), (.int x3), (.ref 13)]) (μ' := (μ.1, (xuI μ.2.1 12 (x3).toNatClampNeg x1), μ.2.2)) rfl ?_
    refine XB.gd (pc' := 32) (ls' := [some (.ref 11), some (.int x1), some (.int x2), some (.int x3)]) (st' := []) (μ' := (μ.1, (xuI (xuI μ.2.1 12 (x3).toNatClampNeg x1) 13 (x3).toNatClampNeg (0 : Int32)), μ.2.2)) rfl rfl rfl (fun hb => xbT hb) ?_
    refine XB.go 4 (pc' := 38) (ls' := [some (.ref 11), some (.int x1), some (.int x2), some (.int x3)]) (st' := [(.int (0 : Int32)), (.int x3), (.ref 14)]) (μ' := (μ.1, (xuI (xuI μ.2.1 12 (x3).toNatClampNeg x1) 13 (x3).toNatClampNeg (0 : Int32)), μ.2.2)) rfl ?_
    refine XB.gd (pc' := 39) (ls' := [some (.ref 11), some (.int x1), some (.int x2), some (.int x3)]) (st' := []) (μ' := (μ.1, (xuI (xuI (xuI μ.2.1 12 (x3).toNatClampNeg x1) 13 (x3).toNatClampNeg (0 : Int32)) 14 (x3).toNatClampNeg (0 : Int32)), μ.2.2)) rfl rfl rfl (fun hb => xbT hb) ?_
    refine XB.go 4 (pc' := 45) (ls' := [some (.ref 11), some (.int x1), some (.int x2), some (.int x3)]) (st' := [(.int (1 : Int32)), (.int x3), (.ref 15)]) (μ' := (μ.1, (xuI (xuI (xuI μ.2.1 12 (x3).toNatClampNeg x1) 13 (x3).toNatClampNeg (0 : Int32)) 14 (x3).toNatClampNeg (0 : Int32)), μ.2.2)) rfl ?_
    refine XB.gd (pc' := 46) (ls' := [some (.ref 11), some (.int x1), some (.int x2), some (.int x3)]) (st' := []) (μ' := (μ.1, (xuI (xuI (xuI (xuI μ.2.1 12 (x3).toNatClampNeg x1) 13 (x3).toNatClampNeg (0 : Int32)) 14 (x3).toNatClampNeg (0 : Int32)) 15 (x3).toNatClampNeg (1 : Int32)), μ.2.2)) rfl rfl rfl (fun hb => xbT (xbL hb)) ?_
    refine XB.go 4 (pc' := 52) (ls' := [some (.ref 11), some (.int x1), some (.int x2), some (.int x3)]) (st' := [(.int (0 : Int32)), (.int x3), (.ref 16)]) (μ' := (μ.1, (xuI (xuI (xuI (xuI μ.2.1 12 (x3).toNatClampNeg x1) 13 (x3).toNatClampNeg (0 : Int32)) 14 (x3).toNatClampNeg (0 : Int32)) 15 (x3).toNatClampNeg (1 : Int32)), μ.2.2)) rfl ?_
    refine XB.gd (pc' := 53) (ls' := [some (.ref 11), some (.int x1), some (.int x2), some (.int x3)]) (st' := []) (μ' := (μ.1, (xuI (xuI (xuI (xuI (xuI μ.2.1 12 (x3).toNatClampNeg x1) 13 (x3).toNatClampNeg (0 : Int32)) 14 (x3).toNatClampNeg (0 : Int32)) 15 (x3).toNatClampNeg (1 : Int32)) 16 (x3).toNatClampNeg (0 : Int32)), μ.2.2)) rfl rfl rfl (fun hb => xbT hb) ?_
    refine XB.go 4 (pc' := 59) (ls' := [some (.ref 11), some (.int x1), some (.int x2), some (.int x3)]) (st' := [(.int (0 : Int32)), (.int x3), (.ref 17)]) (μ' := (μ.1, (xuI (xuI (xuI (xuI (xuI μ.2.1 12 (x3).toNatClampNeg x1) 13 (x3).toNatClampNeg (0 : Int32)) 14 (x3).toNatClampNeg (0 : Int32)) 15 (x3).toNatClampNeg (1 : Int32)) 16 (x3).toNatClampNeg (0 : Int32)), μ.2.2)) rfl ?_
    refine XB.gd (pc' := 60) (ls' := [some (.ref 11), some (.int x1), some (.int x2), some (.int x3)]) (st' := []) (μ' := (μ.1, (xuI (xuI (xuI (xuI (xuI (xuI μ.2.1 12 (x3).toNatClampNeg x1) 13 (x3).toNatClampNeg (0 : Int32)) 14 (x3).toNatClampNeg (0 : Int32)) 15 (x3).toNatClampNeg (1 : Int32)) 16 (x3).toNatClampNeg (0 : Int32)) 17 (x3).toNatClampNeg (0 : Int32)), μ.2.2)) rfl rfl rfl (fun hb => xbT hb) ?_
    refine XB.go 4 (pc' := 66) (ls' := [some (.ref 11), some (.int x1), some (.int x2), some (.int x3)]) (st' := [(.int x2), (.int x3), (.ref 18)]) (μ' := (μ.1, (xuI (xuI (xuI (xuI (xuI (xuI μ.2.1 12 (x3).toNatClampNeg x1) 13 (x3).toNatClampNeg (0 : Int32)) 14 (x3).toNatClampNeg (0 : Int32)) 15 (x3).toNatClampNeg (1 : Int32)) 16 (x3).toNatClampNeg (0 : Int32)) 17 (x3).toNatClampNeg (0 : Int32)), μ.2.2)) rfl ?_
    refine XB.gd (pc' := 67) (ls' := [some (.ref 11), some (.int x1), some (.int x2), some (.int x3)]) (st' := []) (μ' := (μ.1, (xuI (xuI (xuI (xuI (xuI (xuI (xuI μ.2.1 12 (x3).toNatClampNeg x1) 13 (x3).toNatClampNeg (0 : Int32)) 14 (x3).toNatClampNeg (0 : Int32)) 15 (x3).toNatClampNeg (1 : Int32)) 16 (x3).toNatClampNeg (0 : Int32)) 17 (x3).toNatClampNeg (0 : Int32)) 18 (x3).toNatClampNeg x2), μ.2.2)) rfl rfl rfl (fun hb => xbT hb) ?_
    refine XB.go 4 (pc' := 73) (ls' := [some (.ref 11), some (.int x1), some (.int x2), some (.int x3)]) (st' := [(.int (0 : Int32)), (.int x3), (.ref 19)]) (μ' := (μ.1, (xuI (xuI (xuI (xuI (xuI (xuI (xuI μ.2.1 12 (x3).toNatClampNeg x1) 13 (x3).toNatClampNeg (0 : Int32)) 14 (x3).toNatClampNeg (0 : Int32)) 15 (x3).toNatClampNeg (1 : Int32)) 16 (x3).toNatClampNeg (0 : Int32)) 17 (x3).toNatClampNeg (0 : Int32)) 18 (x3).toNatClampNeg x2), μ.2.2)) rfl ?_
    refine XB.gd (pc' := 74) (ls' := [some (.ref 11), some (.int x1), some (.int x2), some (.int x3)]) (st' := []) (μ' := (μ.1, (xuI (xuI (xuI (xuI (xuI (xuI (xuI (xuI μ.2.1 12 (x3).toNatClampNeg x1) 13 (x3).toNatClampNeg (0 : Int32)) 14 (x3).toNatClampNeg (0 : Int32)) 15 (x3).toNatClampNeg (1 : Int32)) 16 (x3).toNatClampNeg (0 : Int32)) 17 (x3).toNatClampNeg (0 : Int32)) 18 (x3).toNatClampNeg x2) 19 (x3).toNatClampNeg (0 : Int32)), μ.2.2)) rfl rfl rfl (fun hb => xbT (xbL hb)) ?_
    refine XB.go 2 (pc' := 12) (ls' := [some (.ref 11), some (.int x1), some (.int x2), some (.int (x3 + (1 : Int32)))]) (st' := []) (μ' := (μ.1, (xuI (xuI (xuI (xuI (xuI (xuI (xuI (xuI μ.2.1 12 (x3).toNatClampNeg x1) 13 (x3).toNatClampNeg (0 : Int32)) 14 (x3).toNatClampNeg (0 : Int32)) 15 (x3).toNatClampNeg (1 : Int32)) 16 (x3).toNatClampNeg (0 : Int32)) 17 (x3).toNatClampNeg (0 : Int32)) 18 (x3).toNatClampNeg x2) 19 (x3).toNatClampNeg (0 : Int32)), μ.2.2)) rfl ?_
    exact hk12  x1 x2 (x3 + (1 : Int32)) (μ.1, (xuI (xuI (xuI (xuI (xuI (xuI (xuI (xuI μ.2.1 12 (x3).toNatClampNeg x1) 13 (x3).toNatClampNeg (0 : Int32)) 14 (x3).toNatClampNeg (0 : Int32)) 15 (x3).toNatClampNeg (1 : Int32)) 16 (x3).toNatClampNeg (0 : Int32)) 17 (x3).toNatClampNeg (0 : Int32)) 18 (x3).toNatClampNeg x2) 19 (x3).toNatClampNeg (0 : Int32)), μ.2.2)
def yLe_begin_b12_L  : Nat → Int32 → Int32 → Int32 → XMu → XRes
  | 0 => fun _ _ _ _ => none
  | n + 1 => yLe_begin_b12 (yLe_begin_b12_L  n)
theorem yLe_begin_b12_Lok {L : Nat} {xs : Nat → Int32}  : ∀ (n : Nat)  (x1 : Int32) (x2 : Int32) (x3 : Int32) (μ : XMu), XB L xs 20 12 [some (.ref 11), some (.int x1), some (.int x2), some (.int x3)] [] μ (yLe_begin_b12_L  n x1 x2 x3 μ) := by
  intro n
  induction n with
  | zero => intro  x1 x2 x3 μ r h; cases h
  | succ n ih => intro  x1 x2 x3 μ; exact yLe_begin_b12_ok (yLe_begin_b12_L  n) ih  x1 x2 x3 μ
def yLe_begin (a1 : Int32) (a2 : Int32) (μ : XMu) : XRes := yLe_begin_b12_L  1000 a1 a2 (0 : Int32) (μ.1, (xuI (xuI μ.2.1 11 8 a1) 11 9 (0 : Int32)), μ.2.2)
theorem yLe_begin_ok {L : Nat} {xs : Nat → Int32} (a1 : Int32) (a2 : Int32) (μ : XMu) : XB L xs 20 0 [some (.ref 11), some (.int a1), some (.int a2), none] [] μ (yLe_begin a1 a2 μ) := by
  unfold yLe_begin
  refine XB.go 8 (pc' := 12) (ls' := [some (.ref 11), some (.int a1), some (.int a2), some (.int (0 : Int32))]) (st' := []) (μ' := (μ.1, (xuI (xuI μ.2.1 11 8 a1) 11 9 (0 : Int32)), μ.2.2)) rfl ?_
  exact yLe_begin_b12_Lok  1000  a1 a2 (0 : Int32) (μ.1, (xuI (xuI μ.2.1 11 8 a1) 11 9 (0 : Int32)), μ.2.2)
/-- LogServer$Disk.write(III)V -/
def yDi_write (a1 : Int32) (a2 : Int32) (a3 : Int32) (μ : XMu) : XRes := (if ((μ.2.1 28 9) - (μ.2.1 28 5)) < (0 : Int32) then some (.inl none, μ) else (if ((μ.2.1 28 9) - (μ.2.1 28 5)) < (300 : Int32) then xgd (xin ((μ.2.1 28 9) - (μ.2.1 28 5)) 300) (xgd (xin ((μ.2.1 28 9) - (μ.2.1 28 5)) 300) (xgd (xin ((μ.2.1 28 9) - (μ.2.1 28 5)) 300) ((if ¬ a2 = (1 : Int32) then some (.inl none, (μ.1, (xuI (xuI (xuI (xuI (xuI μ.2.1 29 (((μ.2.1 28 9) - (μ.2.1 28 5))).toNatClampNeg a1) 30 (((μ.2.1 28 9) - (μ.2.1 28 5))).toNatClampNeg a2) 31 (((μ.2.1 28 9) - (μ.2.1 28 5))).toNatClampNeg a3) 28 9 ((μ.2.1 28 9) + (1 : Int32))) 28 11 (1 : Int32)), μ.2.2)) else some (.inl none, (μ.1, (xuI (xuI (xuI (xuI (xuI (xuI (xuI μ.2.1 29 (((μ.2.1 28 9) - (μ.2.1 28 5))).toNatClampNeg a1) 30 (((μ.2.1 28 9) - (μ.2.1 28 5))).toNatClampNeg a2) 31 (((μ.2.1 28 9) - (μ.2.1 28 5))).toNatClampNeg a3) 28 9 ((μ.2.1 28 9) + (1 : Int32))) 28 11 (1 : Int32)) 28 12 ((μ.2.1 28 9) + (1 : Int32))) 28 13 a3), μ.2.2)))))) else some (.inl none, μ)))
theorem yDi_write_ok {L : Nat} {xs : Nat → Int32} (a1 : Int32) (a2 : Int32) (a3 : Int32) (μ : XMu) : XB L xs 21 0 [some (.ref 28), some (.int a1), some (.int a2), some (.int a3), none] [] μ (yDi_write a1 a2 a3 μ) := by
  unfold yDi_write
  refine XB.go 7 (pc' := 13) (ls' := [some (.ref 28), some (.int a1), some (.int a2), some (.int a3), some (.int ((μ.2.1 28 9) - (μ.2.1 28 5)))]) (st' := [(.int ((μ.2.1 28 9) - (μ.2.1 28 5)))]) (μ' := μ) rfl ?_
  refine XB.ifz (P := ((μ.2.1 28 9) - (μ.2.1 28 5)) < (0 : Int32)) rfl rfl rfl (fun c13 => ?_) (fun c13 => ?_)
  · exact XB.fin rfl
  · refine XB.go 2 (pc' := 21) (ls' := [some (.ref 28), some (.int a1), some (.int a2), some (.int a3), some (.int ((μ.2.1 28 9) - (μ.2.1 28 5)))]) (st' := [(.int (300 : Int32)), (.int ((μ.2.1 28 9) - (μ.2.1 28 5)))]) (μ' := μ) rfl ?_
    refine XB.icmp (P := ((μ.2.1 28 9) - (μ.2.1 28 5)) < (300 : Int32)) rfl rfl rfl (fun c21 => ?_) (fun c21 => ?_)
    · refine XB.go 4 (pc' := 32) (ls' := [some (.ref 28), some (.int a1), some (.int a2), some (.int a3), some (.int ((μ.2.1 28 9) - (μ.2.1 28 5)))]) (st' := [(.int a1), (.int ((μ.2.1 28 9) - (μ.2.1 28 5))), (.ref 29)]) (μ' := μ) rfl ?_
      refine XB.gd (pc' := 33) (ls' := [some (.ref 28), some (.int a1), some (.int a2), some (.int a3), some (.int ((μ.2.1 28 9) - (μ.2.1 28 5)))]) (st' := []) (μ' := (μ.1, (xuI μ.2.1 29 (((μ.2.1 28 9) - (μ.2.1 28 5))).toNatClampNeg a1), μ.2.2)) rfl rfl rfl (fun hb => xbT hb) ?_
      refine XB.go 4 (pc' := 40) (ls' := [some (.ref 28), some (.int a1), some (.int a2), some (.int a3), some (.int ((μ.2.1 28 9) - (μ.2.1 28 5)))]) (st' := [(.int a2), (.int ((μ.2.1 28 9) - (μ.2.1 28 5))), (.ref 30)]) (μ' := (μ.1, (xuI μ.2.1 29 (((μ.2.1 28 9) - (μ.2.1 28 5))).toNatClampNeg a1), μ.2.2)) rfl ?_
      refine XB.gd (pc' := 41) (ls' := [some (.ref 28), some (.int a1), some (.int a2), some (.int a3), some (.int ((μ.2.1 28 9) - (μ.2.1 28 5)))]) (st' := []) (μ' := (μ.1, (xuI (xuI μ.2.1 29 (((μ.2.1 28 9) - (μ.2.1 28 5))).toNatClampNeg a1) 30 (((μ.2.1 28 9) - (μ.2.1 28 5))).toNatClampNeg a2), μ.2.2)) rfl rfl rfl (fun hb => xbT hb) ?_
      refine XB.go 4 (pc' := 48) (ls' := [some (.ref 28), some (.int a1), some (.int a2), some (.int a3), some (.int ((μ.2.1 28 9) - (μ.2.1 28 5)))]) (st' := [(.int a3), (.int ((μ.2.1 28 9) - (μ.2.1 28 5))), (.ref 31)]) (μ' := (μ.1, (xuI (xuI μ.2.1 29 (((μ.2.1 28 9) - (μ.2.1 28 5))).toNatClampNeg a1) 30 (((μ.2.1 28 9) - (μ.2.1 28 5))).toNatClampNeg a2), μ.2.2)) rfl ?_
      refine XB.gd (pc' := 49) (ls' := [some (.ref 28), some (.int a1), some (.int a2), some (.int a3), some (.int ((μ.2.1 28 9) - (μ.2.1 28 5)))]) (st' := []) (μ' := (μ.1, (xuI (xuI (xuI μ.2.1 29 (((μ.2.1 28 9) - (μ.2.1 28 5))).toNatClampNeg a1) 30 (((μ.2.1 28 9) - (μ.2.1 28 5))).toNatClampNeg a2) 31 (((μ.2.1 28 9) - (μ.2.1 28 5))).toNatClampNeg a3), μ.2.2)) rfl rfl rfl (fun hb => xbT hb) ?_
      refine XB.go 11 (pc' := 66) (ls' := [some (.ref 28), some (.int a1), some (.int a2), some (.int a3), some (.int ((μ.2.1 28 9) - (μ.2.1 28 5)))]) (st' := [(.int (1 : Int32)), (.int a2)]) (μ' := (μ.1, (xuI (xuI (xuI (xuI (xuI μ.2.1 29 (((μ.2.1 28 9) - (μ.2.1 28 5))).toNatClampNeg a1) 30 (((μ.2.1 28 9) - (μ.2.1 28 5))).toNatClampNeg a2) 31 (((μ.2.1 28 9) - (μ.2.1 28 5))).toNatClampNeg a3) 28 9 ((μ.2.1 28 9) + (1 : Int32))) 28 11 (1 : Int32)), μ.2.2)) rfl ?_
      refine XB.icmp (P := ¬ a2 = (1 : Int32)) rfl rfl rfl (fun c66 => ?_) (fun c66 => ?_)
      · exact XB.fin rfl
      · refine XB.go 7 (pc' := 82) (ls' := [some (.ref 28), some (.int a1), some (.int a2), some (.int a3), some (.int ((μ.2.1 28 9) - (μ.2.1 28 5)))]) (st' := []) (μ' := (μ.1, (xuI (xuI (xuI (xuI (xuI (xuI (xuI μ.2.1 29 (((μ.2.1 28 9) - (μ.2.1 28 5))).toNatClampNeg a1) 30 (((μ.2.1 28 9) - (μ.2.1 28 5))).toNatClampNeg a2) 31 (((μ.2.1 28 9) - (μ.2.1 28 5))).toNatClampNeg a3) 28 9 ((μ.2.1 28 9) + (1 : Int32))) 28 11 (1 : Int32)) 28 12 ((μ.2.1 28 9) + (1 : Int32))) 28 13 a3), μ.2.2)) rfl ?_
        exact XB.fin rfl
    · exact XB.fin rfl
/-- LogServer.voters()I -/
def yC_voters  (μ : XMu) : Int32 := ((yC_oldOf (μ.2.1 28 13)) ||| (yC_newOf (μ.2.1 28 13)))
theorem yC_voters_ok {L : Nat} {xs : Nat → Int32}  (μ : XMu) : XB L xs 22 0 [some (.ref 0)] [] μ (some (.inl (some (.int (yC_voters  μ))), μ)) := by
  unfold yC_voters
  refine XB.go 3 (pc' := 7) (ls' := [some (.ref 0)]) (st' := [(.int (μ.2.1 28 13))]) (μ' := μ) rfl ?_
  refine XB.cp rfl rfl rfl (yC_oldOf_ok (μ.2.1 28 13) μ) ?_
  refine XB.go 3 (pc' := 17) (ls' := [some (.ref 0)]) (st' := [(.int (μ.2.1 28 13)), (.int (yC_oldOf (μ.2.1 28 13)))]) (μ' := μ) rfl ?_
  refine XB.cp rfl rfl rfl (yC_newOf_ok (μ.2.1 28 13) μ) ?_
  refine XB.go 1 (pc' := 21) (ls' := [some (.ref 0)]) (st' := [(.int ((yC_oldOf (μ.2.1 28 13)) ||| (yC_newOf (μ.2.1 28 13))))]) (μ' := μ) rfl ?_
  exact XB.fin rfl
/-- LogServer.learnersOf(I)I -/
def yC_learnersOf (a0 : Int32) : Int32 := ((a0 >>> ((14 : Int32) &&& 31)) &&& (127 : Int32))
theorem yC_learnersOf_ok {L : Nat} {xs : Nat → Int32} (a0 : Int32) (μ : XMu) : XB L xs 23 0 [some (.int a0)] [] μ (some (.inl (some (.int (yC_learnersOf a0))), μ)) := by
  unfold yC_learnersOf
  refine XB.go 5 (pc' := 7) (ls' := [some (.int a0)]) (st' := [(.int ((a0 >>> ((14 : Int32) &&& 31)) &&& (127 : Int32)))]) (μ' := μ) rfl ?_
  exact XB.fin rfl
/-- LogServer.peers()I -/
def yC_peers  (μ : XMu) : Int32 := (((yC_voters μ) ||| (yC_learnersOf (μ.2.1 28 13))) &&& ((yC_bit (μ.2.1 0 0)) ^^^ (-1 : Int32)))
theorem yC_peers_ok {L : Nat} {xs : Nat → Int32}  (μ : XMu) : XB L xs 24 0 [some (.ref 0)] [] μ (some (.inl (some (.int (yC_peers  μ))), μ)) := by
  unfold yC_peers
  refine XB.go 1 (pc' := 1) (ls' := [some (.ref 0)]) (st' := [(.ref 0)]) (μ' := μ) rfl ?_
  refine XB.cp rfl rfl rfl (yC_voters_ok μ) ?_
  refine XB.go 3 (pc' := 11) (ls' := [some (.ref 0)]) (st' := [(.int (μ.2.1 28 13)), (.int (yC_voters μ))]) (μ' := μ) rfl ?_
  refine XB.cp rfl rfl rfl (yC_learnersOf_ok (μ.2.1 28 13) μ) ?_
  refine XB.go 3 (pc' := 19) (ls' := [some (.ref 0)]) (st' := [(.int (μ.2.1 0 0)), (.int ((yC_voters μ) ||| (yC_learnersOf (μ.2.1 28 13))))]) (μ' := μ) rfl ?_
  refine XB.cp rfl rfl rfl (yC_bit_ok (μ.2.1 0 0) μ) ?_
  refine XB.go 3 (pc' := 25) (ls' := [some (.ref 0)]) (st' := [(.int (((yC_voters μ) ||| (yC_learnersOf (μ.2.1 28 13))) &&& ((yC_bit (μ.2.1 0 0)) ^^^ (-1 : Int32))))]) (μ' := μ) rfl ?_
  exact XB.fin rfl
/-- LogServer.has(II)Z -/
def yC_has (a0 : Int32) (a1 : Int32) : Int32 := (if (a0 &&& (yC_bit a1)) = (0 : Int32) then (0 : Int32) else (1 : Int32))
theorem yC_has_ok {L : Nat} {xs : Nat → Int32} (a0 : Int32) (a1 : Int32) (μ : XMu) : XB L xs 25 0 [some (.int a0), some (.int a1)] [] μ (some (.inl (some (.int (yC_has a0 a1))), μ)) := by
  unfold yC_has
  refine XB.go 2 (pc' := 2) (ls' := [some (.int a0), some (.int a1)]) (st' := [(.int a1), (.int a0)]) (μ' := μ) rfl ?_
  refine XB.cp rfl rfl rfl (yC_bit_ok a1 μ) ?_
  refine XB.go 1 (pc' := 6) (ls' := [some (.int a0), some (.int a1)]) (st' := [(.int (a0 &&& (yC_bit a1)))]) (μ' := μ) rfl ?_
  refine XB.ifzv (P := (a0 &&& (yC_bit a1)) = (0 : Int32)) rfl rfl rfl (fun c6 => ?_) (fun c6 => ?_)
  · refine XB.go 1 (pc' := 14) (ls' := [some (.int a0), some (.int a1)]) (st' := [(.int (0 : Int32))]) (μ' := μ) rfl ?_
    exact XB.fin rfl
  · refine XB.go 2 (pc' := 14) (ls' := [some (.int a0), some (.int a1)]) (st' := [(.int (1 : Int32))]) (μ' := μ) rfl ?_
    exact XB.fin rfl
theorem yC_has_01 (a0 : Int32) (a1 : Int32) : x01 (yC_has a0 a1) = true := by
  unfold yC_has
  repeat (first | rfl | (exact rfl) | split)
/-- LogServer$Lead.fallBackIfSilent(I)V -/
def yLe_fallBackIfSilent (a1 : Int32) (μ : XMu) : XRes := xgd (xin a1 7) ((if (μ.2.1 14 (a1).toNatClampNeg) ≤ (0 : Int32) then some (.inl none, μ) else xgd (xin a1 7) ((if ¬ (μ.2.1 19 (a1).toNatClampNeg) = (0 : Int32) then some (.inl none, μ) else xgd (xin a1 7) (xgd (xin a1 7) (xgd (xin a1 7) (xgd (xin a1 7) (some (.inl none, (μ.1, (xuI (xuI (xuI μ.2.1 14 (a1).toNatClampNeg (0 : Int32)) 15 (a1).toNatClampNeg (1 : Int32)) 12 (a1).toNatClampNeg ((μ.2.1 13 (a1).toNatClampNeg) + (1 : Int32))), μ.2.2))))))))))
theorem yLe_fallBackIfSilent_ok {L : Nat} {xs : Nat → Int32} (a1 : Int32) (μ : XMu) : XB L xs 26 0 [some (.ref 11), some (.int a1)] [] μ (yLe_fallBackIfSilent a1 μ) := by
  unfold yLe_fallBackIfSilent
  refine XB.go 3 (pc' := 5) (ls' := [some (.ref 11), some (.int a1)]) (st' := [(.int a1), (.ref 14)]) (μ' := μ) rfl ?_
  refine XB.gd (pc' := 6) (ls' := [some (.ref 11), some (.int a1)]) (st' := [(.int (μ.2.1 14 (a1).toNatClampNeg))]) (μ' := μ) rfl rfl rfl (fun hb => xbT hb) ?_
  refine XB.ifz (P := (μ.2.1 14 (a1).toNatClampNeg) ≤ (0 : Int32)) rfl rfl rfl (fun c6 => ?_) (fun c6 => ?_)
  · exact XB.fin rfl
  · refine XB.go 3 (pc' := 14) (ls' := [some (.ref 11), some (.int a1)]) (st' := [(.int a1), (.ref 19)]) (μ' := μ) rfl ?_
    refine XB.gd (pc' := 15) (ls' := [some (.ref 11), some (.int a1)]) (st' := [(.int (μ.2.1 19 (a1).toNatClampNeg))]) (μ' := μ) rfl rfl rfl (fun hb => xbT hb) ?_
    refine XB.ifz (P := ¬ (μ.2.1 19 (a1).toNatClampNeg) = (0 : Int32)) rfl rfl rfl (fun c15 => ?_) (fun c15 => ?_)
    · exact XB.fin rfl
    · refine XB.go 4 (pc' := 24) (ls' := [some (.ref 11), some (.int a1)]) (st' := [(.int (0 : Int32)), (.int a1), (.ref 14)]) (μ' := μ) rfl ?_
      refine XB.gd (pc' := 25) (ls' := [some (.ref 11), some (.int a1)]) (st' := []) (μ' := (μ.1, (xuI μ.2.1 14 (a1).toNatClampNeg (0 : Int32)), μ.2.2)) rfl rfl rfl (fun hb => xbT hb) ?_
      refine XB.go 4 (pc' := 31) (ls' := [some (.ref 11), some (.int a1)]) (st' := [(.int (1 : Int32)), (.int a1), (.ref 15)]) (μ' := (μ.1, (xuI μ.2.1 14 (a1).toNatClampNeg (0 : Int32)), μ.2.2)) rfl ?_
      refine XB.gd (pc' := 32) (ls' := [some (.ref 11), some (.int a1)]) (st' := []) (μ' := (μ.1, (xuI (xuI μ.2.1 14 (a1).toNatClampNeg (0 : Int32)) 15 (a1).toNatClampNeg (1 : Int32)), μ.2.2)) rfl rfl rfl (fun hb => xbT (xbL hb)) ?_
      refine XB.go 6 (pc' := 42) (ls' := [some (.ref 11), some (.int a1)]) (st' := [(.int a1), (.ref 13), (.int a1), (.ref 12)]) (μ' := (μ.1, (xuI (xuI μ.2.1 14 (a1).toNatClampNeg (0 : Int32)) 15 (a1).toNatClampNeg (1 : Int32)), μ.2.2)) rfl ?_
      refine XB.gd (pc' := 43) (ls' := [some (.ref 11), some (.int a1)]) (st' := [(.int (μ.2.1 13 (a1).toNatClampNeg)), (.int a1), (.ref 12)]) (μ' := (μ.1, (xuI (xuI μ.2.1 14 (a1).toNatClampNeg (0 : Int32)) 15 (a1).toNatClampNeg (1 : Int32)), μ.2.2)) rfl rfl rfl (fun hb => xbT hb) ?_
      refine XB.go 2 (pc' := 45) (ls' := [some (.ref 11), some (.int a1)]) (st' := [(.int ((μ.2.1 13 (a1).toNatClampNeg) + (1 : Int32))), (.int a1), (.ref 12)]) (μ' := (μ.1, (xuI (xuI μ.2.1 14 (a1).toNatClampNeg (0 : Int32)) 15 (a1).toNatClampNeg (1 : Int32)), μ.2.2)) rfl ?_
      refine XB.gd (pc' := 46) (ls' := [some (.ref 11), some (.int a1)]) (st' := []) (μ' := (μ.1, (xuI (xuI (xuI μ.2.1 14 (a1).toNatClampNeg (0 : Int32)) 15 (a1).toNatClampNeg (1 : Int32)) 12 (a1).toNatClampNeg ((μ.2.1 13 (a1).toNatClampNeg) + (1 : Int32))), μ.2.2)) rfl rfl rfl (fun hb => xbT hb) ?_
      exact XB.fin rfl
/-- LogServer$Mail.add(I)V -/
def yMa_add (a1 : Int32) (μ : XMu) : XRes := (if (26 : Int32) ≤ (μ.2.1 1 1) then some (.inl none, μ) else xgd (xin (μ.2.1 1 1) 26) (some (.inl none, (μ.1, (xuI (xuI μ.2.1 2 ((μ.2.1 1 1)).toNatClampNeg a1) 1 1 ((μ.2.1 1 1) + (1 : Int32))), μ.2.2))))
theorem yMa_add_ok {L : Nat} {xs : Nat → Int32} (a1 : Int32) (μ : XMu) : XB L xs 27 0 [some (.ref 1), some (.int a1)] [] μ (yMa_add a1 μ) := by
  unfold yMa_add
  refine XB.go 3 (pc' := 6) (ls' := [some (.ref 1), some (.int a1)]) (st' := [(.int (26 : Int32)), (.int (μ.2.1 1 1))]) (μ' := μ) rfl ?_
  refine XB.icmp (P := (26 : Int32) ≤ (μ.2.1 1 1)) rfl rfl rfl (fun c6 => ?_) (fun c6 => ?_)
  · exact XB.fin rfl
  · refine XB.go 5 (pc' := 18) (ls' := [some (.ref 1), some (.int a1)]) (st' := [(.int a1), (.int (μ.2.1 1 1)), (.ref 2)]) (μ' := μ) rfl ?_
    refine XB.gd (pc' := 19) (ls' := [some (.ref 1), some (.int a1)]) (st' := []) (μ' := (μ.1, (xuI μ.2.1 2 ((μ.2.1 1 1)).toNatClampNeg a1), μ.2.2)) rfl rfl rfl (fun hb => xbT hb) ?_
    refine XB.go 6 (pc' := 29) (ls' := [some (.ref 1), some (.int a1)]) (st' := []) (μ' := (μ.1, (xuI (xuI μ.2.1 2 ((μ.2.1 1 1)).toNatClampNeg a1) 1 1 ((μ.2.1 1 1) + (1 : Int32))), μ.2.2)) rfl ?_
    exact XB.fin rfl
/-- LogServer$Mail.begin(III)V -/
def yMa_begin (a1 : Int32) (a2 : Int32) (a3 : Int32) (μ : XMu) : XRes := xbv (yMa_add a1 (μ.1, (xuI μ.2.1 1 1 (0 : Int32)), μ.2.2)) (fun m1 => xbv (yMa_add a2 m1) (fun m2 => xbv (yMa_add a3 m2) (fun m3 => some (.inl none, m3))))
theorem yMa_begin_ok {L : Nat} {xs : Nat → Int32} (a1 : Int32) (a2 : Int32) (a3 : Int32) (μ : XMu) : XB L xs 28 0 [some (.ref 1), some (.int a1), some (.int a2), some (.int a3)] [] μ (yMa_begin a1 a2 a3 μ) := by
  unfold yMa_begin
  refine XB.go 5 (pc' := 7) (ls' := [some (.ref 1), some (.int a1), some (.int a2), some (.int a3)]) (st' := [(.int a1), (.ref 1)]) (μ' := (μ.1, (xuI μ.2.1 1 1 (0 : Int32)), μ.2.2)) rfl ?_
  refine XB.cv rfl rfl rfl rfl rfl (yMa_add_ok a1 (μ.1, (xuI μ.2.1 1 1 (0 : Int32)), μ.2.2)) (fun m1 => ?_)
  refine XB.go 2 (pc' := 12) (ls' := [some (.ref 1), some (.int a1), some (.int a2), some (.int a3)]) (st' := [(.int a2), (.ref 1)]) (μ' := m1) rfl ?_
  refine XB.cv rfl rfl rfl rfl rfl (yMa_add_ok a2 m1) (fun m2 => ?_)
  refine XB.go 2 (pc' := 17) (ls' := [some (.ref 1), some (.int a1), some (.int a2), some (.int a3)]) (st' := [(.int a3), (.ref 1)]) (μ' := m2) rfl ?_
  refine XB.cv rfl rfl rfl rfl rfl (yMa_add_ok a3 m2) (fun m3 => ?_)
  exact XB.fin rfl
/-- LogServer$Mail.post(Z)V -/
def yMa_post (a1 : Int32) (μ : XMu) : XRes := (if ¬ a1 = (0 : Int32) then (if (200 : Int32) ≤ (μ.2.1 1 4) then some (.inl none, μ) else xgd (xcb (0 : Int32) ((μ.2.1 1 4) * (26 : Int32)) (μ.2.1 1 1) 26 5200) (xgd (xin (μ.2.1 1 4) 200) (some (.inl none, (μ.1, (xuI (xuI (va_up μ.2.1 3 (va_cpy (μ.2.1 2) (μ.2.1 3) ((0 : Int32)).toNatClampNeg (((μ.2.1 1 4) * (26 : Int32))).toNatClampNeg ((μ.2.1 1 1)).toNatClampNeg)) 4 ((μ.2.1 1 4)).toNatClampNeg (μ.2.1 1 1)) 1 4 ((μ.2.1 1 4) + (1 : Int32))), μ.2.2))))) else xgd (xcb (0 : Int32) ((yMa_slotOf (μ.2.1 1 7)) * (26 : Int32)) (μ.2.1 1 1) 26 1664) (xgd (xin (yMa_slotOf (μ.2.1 1 7)) 64) (some (.inl none, (μ.1, (xuI (xuI (va_up μ.2.1 5 (va_cpy (μ.2.1 2) (μ.2.1 5) ((0 : Int32)).toNatClampNeg (((yMa_slotOf (μ.2.1 1 7)) * (26 : Int32))).toNatClampNeg ((μ.2.1 1 1)).toNatClampNeg)) 6 ((yMa_slotOf (μ.2.1 1 7))).toNatClampNeg (μ.2.1 1 1)) 1 7 ((μ.2.1 1 7) + (1 : Int32))), μ.2.2)))))
theorem yMa_post_ok {L : Nat} {xs : Nat → Int32} (a1 : Int32) (μ : XMu) : XB L xs 29 0 [some (.ref 1), some (.int a1), none] [] μ (yMa_post a1 μ) := by
  unfold yMa_post
  refine XB.go 1 (pc' := 1) (ls' := [some (.ref 1), some (.int a1), none]) (st' := [(.int a1)]) (μ' := μ) rfl ?_
  refine XB.ifz (P := ¬ a1 = (0 : Int32)) rfl rfl rfl (fun c1 => ?_) (fun c1 => ?_)
  · refine XB.go 3 (pc' := 62) (ls' := [some (.ref 1), some (.int a1), none]) (st' := [(.int (200 : Int32)), (.int (μ.2.1 1 4))]) (μ' := μ) rfl ?_
    refine XB.icmp (P := (200 : Int32) ≤ (μ.2.1 1 4)) rfl rfl rfl (fun c62 => ?_) (fun c62 => ?_)
    · exact XB.fin rfl
    · refine XB.go 11 (pc' := 85) (ls' := [some (.ref 1), some (.int a1), none]) (st' := [(.int (μ.2.1 1 1)), (.int ((μ.2.1 1 4) * (26 : Int32))), (.ref 3), (.int (0 : Int32)), (.ref 2)]) (μ' := μ) rfl ?_
      refine XB.copy (a := 3) (s9 := 2) (μ := μ) rfl rfl rfl rfl rfl rfl rfl rfl ?_
      refine XB.go 6 (pc' := 100) (ls' := [some (.ref 1), some (.int a1), none]) (st' := [(.int (μ.2.1 1 1)), (.int (μ.2.1 1 4)), (.ref 4)]) (μ' := (μ.1, (va_up μ.2.1 3 (va_cpy (μ.2.1 2) (μ.2.1 3) ((0 : Int32)).toNatClampNeg (((μ.2.1 1 4) * (26 : Int32))).toNatClampNeg ((μ.2.1 1 1)).toNatClampNeg)), μ.2.2)) rfl ?_
      refine XB.gd (pc' := 101) (ls' := [some (.ref 1), some (.int a1), none]) (st' := []) (μ' := (μ.1, (xuI (va_up μ.2.1 3 (va_cpy (μ.2.1 2) (μ.2.1 3) ((0 : Int32)).toNatClampNeg (((μ.2.1 1 4) * (26 : Int32))).toNatClampNeg ((μ.2.1 1 1)).toNatClampNeg)) 4 ((μ.2.1 1 4)).toNatClampNeg (μ.2.1 1 1)), μ.2.2)) rfl rfl rfl (fun hb => xbT hb) ?_
      refine XB.go 6 (pc' := 111) (ls' := [some (.ref 1), some (.int a1), none]) (st' := []) (μ' := (μ.1, (xuI (xuI (va_up μ.2.1 3 (va_cpy (μ.2.1 2) (μ.2.1 3) ((0 : Int32)).toNatClampNeg (((μ.2.1 1 4) * (26 : Int32))).toNatClampNeg ((μ.2.1 1 1)).toNatClampNeg)) 4 ((μ.2.1 1 4)).toNatClampNeg (μ.2.1 1 1)) 1 4 ((μ.2.1 1 4) + (1 : Int32))), μ.2.2)) rfl ?_
      exact XB.fin rfl
  · refine XB.go 2 (pc' := 8) (ls' := [some (.ref 1), some (.int a1), none]) (st' := [(.int (μ.2.1 1 7))]) (μ' := μ) rfl ?_
    refine XB.cp rfl rfl rfl (yMa_slotOf_ok (μ.2.1 1 7) μ) ?_
    refine XB.go 11 (pc' := 29) (ls' := [some (.ref 1), some (.int a1), some (.int (yMa_slotOf (μ.2.1 1 7)))]) (st' := [(.int (μ.2.1 1 1)), (.int ((yMa_slotOf (μ.2.1 1 7)) * (26 : Int32))), (.ref 5), (.int (0 : Int32)), (.ref 2)]) (μ' := μ) rfl ?_
    refine XB.copy (a := 5) (s9 := 2) (μ := μ) rfl rfl rfl rfl rfl rfl rfl rfl ?_
    refine XB.go 5 (pc' := 41) (ls' := [some (.ref 1), some (.int a1), some (.int (yMa_slotOf (μ.2.1 1 7)))]) (st' := [(.int (μ.2.1 1 1)), (.int (yMa_slotOf (μ.2.1 1 7))), (.ref 6)]) (μ' := (μ.1, (va_up μ.2.1 5 (va_cpy (μ.2.1 2) (μ.2.1 5) ((0 : Int32)).toNatClampNeg (((yMa_slotOf (μ.2.1 1 7)) * (26 : Int32))).toNatClampNeg ((μ.2.1 1 1)).toNatClampNeg)), μ.2.2)) rfl ?_
    refine XB.gd (pc' := 42) (ls' := [some (.ref 1), some (.int a1), some (.int (yMa_slotOf (μ.2.1 1 7)))]) (st' := []) (μ' := (μ.1, (xuI (va_up μ.2.1 5 (va_cpy (μ.2.1 2) (μ.2.1 5) ((0 : Int32)).toNatClampNeg (((yMa_slotOf (μ.2.1 1 7)) * (26 : Int32))).toNatClampNeg ((μ.2.1 1 1)).toNatClampNeg)) 6 ((yMa_slotOf (μ.2.1 1 7))).toNatClampNeg (μ.2.1 1 1)), μ.2.2)) rfl rfl rfl (fun hb => xbT hb) ?_
    refine XB.go 7 (pc' := 111) (ls' := [some (.ref 1), some (.int a1), some (.int (yMa_slotOf (μ.2.1 1 7)))]) (st' := []) (μ' := (μ.1, (xuI (xuI (va_up μ.2.1 5 (va_cpy (μ.2.1 2) (μ.2.1 5) ((0 : Int32)).toNatClampNeg (((yMa_slotOf (μ.2.1 1 7)) * (26 : Int32))).toNatClampNeg ((μ.2.1 1 1)).toNatClampNeg)) 6 ((yMa_slotOf (μ.2.1 1 7))).toNatClampNeg (μ.2.1 1 1)) 1 7 ((μ.2.1 1 7) + (1 : Int32))), μ.2.2)) rfl ?_
    exact XB.fin rfl
/-- LogServer.sendPiece(I)V -/
def yC_sendPiece (a1 : Int32) (μ : XMu) : XRes := xgd (xin a1 7) (xgd (xin a1 7) (xbv (yMa_begin a1 (7 : Int32) (μ.2.1 28 3) (μ.1, (xuI μ.2.1 14 (a1).toNatClampNeg (1 : Int32)), μ.2.2)) (fun m1 => xbv (yMa_add (m1.2.1 28 5) m1) (fun m2 => xbv (yMa_add (m2.2.1 28 6) m2) (fun m3 => xbv (yMa_add (m3.2.1 28 7) m3) (fun m4 => xbv (yMa_add (m4.2.1 28 8) m4) (fun m5 => xbv (yMa_add (μ.2.1 16 (a1).toNatClampNeg) m5) (fun m6 => xbv (yMa_add (if ((m6.2.1 28 8) - (μ.2.1 16 (a1).toNatClampNeg)) < (200 : Int32) then ((m6.2.1 28 8) - (μ.2.1 16 (a1).toNatClampNeg)) else (200 : Int32)) m6) (fun m7 => xbv (yMa_add (m7.2.1 11 9) m7) (fun m8 => xbv (yMa_post (m8.2.1 28 11) m8) (fun m9 => some (.inl none, m9))))))))))))
theorem yC_sendPiece_ok {L : Nat} {xs : Nat → Int32} (a1 : Int32) (μ : XMu) : XB L xs 30 0 [some (.ref 0), some (.int a1), none] [] μ (yC_sendPiece a1 μ) := by
  unfold yC_sendPiece
  refine XB.go 4 (pc' := 8) (ls' := [some (.ref 0), some (.int a1), none]) (st' := [(.int a1), (.ref 16)]) (μ' := μ) rfl ?_
  refine XB.gd (pc' := 9) (ls' := [some (.ref 0), some (.int a1), none]) (st' := [(.int (μ.2.1 16 (a1).toNatClampNeg))]) (μ' := μ) rfl rfl rfl (fun hb => xbT hb) ?_
  refine XB.go 6 (pc' := 19) (ls' := [some (.ref 0), some (.int a1), some (.int (μ.2.1 16 (a1).toNatClampNeg))]) (st' := [(.int (1 : Int32)), (.int a1), (.ref 14)]) (μ' := μ) rfl ?_
  refine XB.gd (pc' := 20) (ls' := [some (.ref 0), some (.int a1), some (.int (μ.2.1 16 (a1).toNatClampNeg))]) (st' := []) (μ' := (μ.1, (xuI μ.2.1 14 (a1).toNatClampNeg (1 : Int32)), μ.2.2)) rfl rfl rfl (fun hb => xbT hb) ?_
  refine XB.go 7 (pc' := 34) (ls' := [some (.ref 0), some (.int a1), some (.int (μ.2.1 16 (a1).toNatClampNeg))]) (st' := [(.int (μ.2.1 28 3)), (.int (7 : Int32)), (.int a1), (.ref 1)]) (μ' := (μ.1, (xuI μ.2.1 14 (a1).toNatClampNeg (1 : Int32)), μ.2.2)) rfl ?_
  refine XB.cv rfl rfl rfl rfl rfl (yMa_begin_ok a1 (7 : Int32) (μ.2.1 28 3) (μ.1, (xuI μ.2.1 14 (a1).toNatClampNeg (1 : Int32)), μ.2.2)) (fun m1 => ?_)
  refine XB.go 5 (pc' := 48) (ls' := [some (.ref 0), some (.int a1), some (.int (μ.2.1 16 (a1).toNatClampNeg))]) (st' := [(.int (m1.2.1 28 5)), (.ref 1)]) (μ' := m1) rfl ?_
  refine XB.cv rfl rfl rfl rfl rfl (yMa_add_ok (m1.2.1 28 5) m1) (fun m2 => ?_)
  refine XB.go 5 (pc' := 62) (ls' := [some (.ref 0), some (.int a1), some (.int (μ.2.1 16 (a1).toNatClampNeg))]) (st' := [(.int (m2.2.1 28 6)), (.ref 1)]) (μ' := m2) rfl ?_
  refine XB.cv rfl rfl rfl rfl rfl (yMa_add_ok (m2.2.1 28 6) m2) (fun m3 => ?_)
  refine XB.go 5 (pc' := 76) (ls' := [some (.ref 0), some (.int a1), some (.int (μ.2.1 16 (a1).toNatClampNeg))]) (st' := [(.int (m3.2.1 28 7)), (.ref 1)]) (μ' := m3) rfl ?_
  refine XB.cv rfl rfl rfl rfl rfl (yMa_add_ok (m3.2.1 28 7) m3) (fun m4 => ?_)
  refine XB.go 5 (pc' := 90) (ls' := [some (.ref 0), some (.int a1), some (.int (μ.2.1 16 (a1).toNatClampNeg))]) (st' := [(.int (m4.2.1 28 8)), (.ref 1)]) (μ' := m4) rfl ?_
  refine XB.cv rfl rfl rfl rfl rfl (yMa_add_ok (m4.2.1 28 8) m4) (fun m5 => ?_)
  refine XB.go 3 (pc' := 98) (ls' := [some (.ref 0), some (.int a1), some (.int (μ.2.1 16 (a1).toNatClampNeg))]) (st' := [(.int (μ.2.1 16 (a1).toNatClampNeg)), (.ref 1)]) (μ' := m5) rfl ?_
  refine XB.cv rfl rfl rfl rfl rfl (yMa_add_ok (μ.2.1 16 (a1).toNatClampNeg) m5) (fun m6 => ?_)
  refine XB.go 8 (pc' := 117) (ls' := [some (.ref 0), some (.int a1), some (.int (μ.2.1 16 (a1).toNatClampNeg))]) (st' := [(.int ((m6.2.1 28 8) - (μ.2.1 16 (a1).toNatClampNeg))), (.int (200 : Int32)), (.ref 1)]) (μ' := m6) rfl ?_
  refine XB.nat (rst := [(.int (if ((m6.2.1 28 8) - (μ.2.1 16 (a1).toNatClampNeg)) < (200 : Int32) then ((m6.2.1 28 8) - (μ.2.1 16 (a1).toNatClampNeg)) else (200 : Int32))), (.ref 1)]) (μ' := m6) rfl rfl rfl rfl ?_
  refine XB.cv rfl rfl rfl rfl rfl (yMa_add_ok (if ((m6.2.1 28 8) - (μ.2.1 16 (a1).toNatClampNeg)) < (200 : Int32) then ((m6.2.1 28 8) - (μ.2.1 16 (a1).toNatClampNeg)) else (200 : Int32)) m6) (fun m7 => ?_)
  refine XB.go 5 (pc' := 134) (ls' := [some (.ref 0), some (.int a1), some (.int (μ.2.1 16 (a1).toNatClampNeg))]) (st' := [(.int (m7.2.1 11 9)), (.ref 1)]) (μ' := m7) rfl ?_
  refine XB.cv rfl rfl rfl rfl rfl (yMa_add_ok (m7.2.1 11 9) m7) (fun m8 => ?_)
  refine XB.go 5 (pc' := 148) (ls' := [some (.ref 0), some (.int a1), some (.int (μ.2.1 16 (a1).toNatClampNeg))]) (st' := [(.int (m8.2.1 28 11)), (.ref 1)]) (μ' := m8) rfl ?_
  refine XB.cv rfl rfl rfl rfl rfl (yMa_post_ok (m8.2.1 28 11) m8) (fun m9 => ?_)
  exact XB.fin rfl
/-- LogServer$Disk.holds(I)Z -/
def yDi_holds (a1 : Int32) (μ : XMu) : Int32 := (if a1 ≤ (μ.2.1 28 5) then (0 : Int32) else (if (μ.2.1 28 9) < a1 then (0 : Int32) else (if (300 : Int32) < (a1 - (μ.2.1 28 5)) then (0 : Int32) else (1 : Int32))))
theorem yDi_holds_ok {L : Nat} {xs : Nat → Int32} (a1 : Int32) (μ : XMu) : XB L xs 31 0 [some (.ref 28), some (.int a1)] [] μ (some (.inl (some (.int (yDi_holds a1 μ))), μ)) := by
  unfold yDi_holds
  refine XB.go 3 (pc' := 5) (ls' := [some (.ref 28), some (.int a1)]) (st' := [(.int (μ.2.1 28 5)), (.int a1)]) (μ' := μ) rfl ?_
  refine XB.icmpv (P := a1 ≤ (μ.2.1 28 5)) rfl rfl rfl (fun c5 => ?_) (fun c5 => ?_)
  · refine XB.go 1 (pc' := 33) (ls' := [some (.ref 28), some (.int a1)]) (st' := [(.int (0 : Int32))]) (μ' := μ) rfl ?_
    exact XB.fin rfl
  · refine XB.go 3 (pc' := 13) (ls' := [some (.ref 28), some (.int a1)]) (st' := [(.int (μ.2.1 28 9)), (.int a1)]) (μ' := μ) rfl ?_
    refine XB.icmpv (P := (μ.2.1 28 9) < a1) rfl rfl rfl (fun c13 => ?_) (fun c13 => ?_)
    · refine XB.go 1 (pc' := 33) (ls' := [some (.ref 28), some (.int a1)]) (st' := [(.int (0 : Int32))]) (μ' := μ) rfl ?_
      exact XB.fin rfl
    · refine XB.go 5 (pc' := 25) (ls' := [some (.ref 28), some (.int a1)]) (st' := [(.int (300 : Int32)), (.int (a1 - (μ.2.1 28 5)))]) (μ' := μ) rfl ?_
      refine XB.icmpv (P := (300 : Int32) < (a1 - (μ.2.1 28 5))) rfl rfl rfl (fun c25 => ?_) (fun c25 => ?_)
      · refine XB.go 1 (pc' := 33) (ls' := [some (.ref 28), some (.int a1)]) (st' := [(.int (0 : Int32))]) (μ' := μ) rfl ?_
        exact XB.fin rfl
      · refine XB.go 2 (pc' := 33) (ls' := [some (.ref 28), some (.int a1)]) (st' := [(.int (1 : Int32))]) (μ' := μ) rfl ?_
        exact XB.fin rfl
theorem yDi_holds_01 (a1 : Int32) (μ : XMu) : x01 (yDi_holds a1 μ) = true := by
  unfold yDi_holds
  repeat (first | rfl | (exact rfl) | split)
/-- LogServer$Disk.termAt(I)I -/
def yDi_termAt (a1 : Int32) (μ : XMu) : XRes := (if ¬ a1 = (μ.2.1 28 5) then (if (yDi_holds a1 μ) = (0 : Int32) then some (.inl (some (.int (-1 : Int32))), μ) else xgd (xin ((a1 - (μ.2.1 28 5)) - (1 : Int32)) 300) (some (.inl (some (.int (μ.2.1 29 (((a1 - (μ.2.1 28 5)) - (1 : Int32))).toNatClampNeg))), μ))) else some (.inl (some (.int (μ.2.1 28 6))), μ))
theorem yDi_termAt_ok {L : Nat} {xs : Nat → Int32} (a1 : Int32) (μ : XMu) : XB L xs 32 0 [some (.ref 28), some (.int a1)] [] μ (yDi_termAt a1 μ) := by
  unfold yDi_termAt
  refine XB.go 3 (pc' := 5) (ls' := [some (.ref 28), some (.int a1)]) (st' := [(.int (μ.2.1 28 5)), (.int a1)]) (μ' := μ) rfl ?_
  refine XB.icmp (P := ¬ a1 = (μ.2.1 28 5)) rfl rfl rfl (fun c5 => ?_) (fun c5 => ?_)
  · refine XB.go 2 (pc' := 15) (ls' := [some (.ref 28), some (.int a1)]) (st' := [(.int a1), (.ref 28)]) (μ' := μ) rfl ?_
    refine XB.cp rfl rfl rfl (yDi_holds_ok a1 μ) ?_
    refine XB.ifz (P := (yDi_holds a1 μ) = (0 : Int32)) rfl rfl rfl (fun c18 => ?_) (fun c18 => ?_)
    · refine XB.go 1 (pc' := 38) (ls' := [some (.ref 28), some (.int a1)]) (st' := [(.int (-1 : Int32))]) (μ' := μ) rfl ?_
      exact XB.fin rfl
    · refine XB.go 8 (pc' := 33) (ls' := [some (.ref 28), some (.int a1)]) (st' := [(.int ((a1 - (μ.2.1 28 5)) - (1 : Int32))), (.ref 29)]) (μ' := μ) rfl ?_
      refine XB.gd (pc' := 34) (ls' := [some (.ref 28), some (.int a1)]) (st' := [(.int (μ.2.1 29 (((a1 - (μ.2.1 28 5)) - (1 : Int32))).toNatClampNeg))]) (μ' := μ) rfl rfl rfl (fun hb => xbT hb) ?_
      refine XB.go 1 (pc' := 38) (ls' := [some (.ref 28), some (.int a1)]) (st' := [(.int (μ.2.1 29 (((a1 - (μ.2.1 28 5)) - (1 : Int32))).toNatClampNeg))]) (μ' := μ) rfl ?_
      exact XB.fin rfl
  · refine XB.go 2 (pc' := 12) (ls' := [some (.ref 28), some (.int a1)]) (st' := [(.int (μ.2.1 28 6))]) (μ' := μ) rfl ?_
    exact XB.fin rfl
/-- LogServer$Disk.kindAt(I)I -/
def yDi_kindAt (a1 : Int32) (μ : XMu) : XRes := (if (yDi_holds a1 μ) = (0 : Int32) then some (.inl (some (.int (-1 : Int32))), μ) else xgd (xin ((a1 - (μ.2.1 28 5)) - (1 : Int32)) 300) (some (.inl (some (.int (μ.2.1 30 (((a1 - (μ.2.1 28 5)) - (1 : Int32))).toNatClampNeg))), μ)))
theorem yDi_kindAt_ok {L : Nat} {xs : Nat → Int32} (a1 : Int32) (μ : XMu) : XB L xs 33 0 [some (.ref 28), some (.int a1)] [] μ (yDi_kindAt a1 μ) := by
  unfold yDi_kindAt
  refine XB.go 2 (pc' := 2) (ls' := [some (.ref 28), some (.int a1)]) (st' := [(.int a1), (.ref 28)]) (μ' := μ) rfl ?_
  refine XB.cp rfl rfl rfl (yDi_holds_ok a1 μ) ?_
  refine XB.ifz (P := (yDi_holds a1 μ) = (0 : Int32)) rfl rfl rfl (fun c5 => ?_) (fun c5 => ?_)
  · refine XB.go 1 (pc' := 25) (ls' := [some (.ref 28), some (.int a1)]) (st' := [(.int (-1 : Int32))]) (μ' := μ) rfl ?_
    exact XB.fin rfl
  · refine XB.go 8 (pc' := 20) (ls' := [some (.ref 28), some (.int a1)]) (st' := [(.int ((a1 - (μ.2.1 28 5)) - (1 : Int32))), (.ref 30)]) (μ' := μ) rfl ?_
    refine XB.gd (pc' := 21) (ls' := [some (.ref 28), some (.int a1)]) (st' := [(.int (μ.2.1 30 (((a1 - (μ.2.1 28 5)) - (1 : Int32))).toNatClampNeg))]) (μ' := μ) rfl rfl rfl (fun hb => xbT hb) ?_
    refine XB.go 1 (pc' := 25) (ls' := [some (.ref 28), some (.int a1)]) (st' := [(.int (μ.2.1 30 (((a1 - (μ.2.1 28 5)) - (1 : Int32))).toNatClampNeg))]) (μ' := μ) rfl ?_
    exact XB.fin rfl
/-- LogServer$Disk.valueAt(I)I -/
def yDi_valueAt (a1 : Int32) (μ : XMu) : XRes := (if (yDi_holds a1 μ) = (0 : Int32) then some (.inl (some (.int (-1 : Int32))), μ) else xgd (xin ((a1 - (μ.2.1 28 5)) - (1 : Int32)) 300) (some (.inl (some (.int (μ.2.1 31 (((a1 - (μ.2.1 28 5)) - (1 : Int32))).toNatClampNeg))), μ)))
theorem yDi_valueAt_ok {L : Nat} {xs : Nat → Int32} (a1 : Int32) (μ : XMu) : XB L xs 34 0 [some (.ref 28), some (.int a1)] [] μ (yDi_valueAt a1 μ) := by
  unfold yDi_valueAt
  refine XB.go 2 (pc' := 2) (ls' := [some (.ref 28), some (.int a1)]) (st' := [(.int a1), (.ref 28)]) (μ' := μ) rfl ?_
  refine XB.cp rfl rfl rfl (yDi_holds_ok a1 μ) ?_
  refine XB.ifz (P := (yDi_holds a1 μ) = (0 : Int32)) rfl rfl rfl (fun c5 => ?_) (fun c5 => ?_)
  · refine XB.go 1 (pc' := 25) (ls' := [some (.ref 28), some (.int a1)]) (st' := [(.int (-1 : Int32))]) (μ' := μ) rfl ?_
    exact XB.fin rfl
  · refine XB.go 8 (pc' := 20) (ls' := [some (.ref 28), some (.int a1)]) (st' := [(.int ((a1 - (μ.2.1 28 5)) - (1 : Int32))), (.ref 31)]) (μ' := μ) rfl ?_
    refine XB.gd (pc' := 21) (ls' := [some (.ref 28), some (.int a1)]) (st' := [(.int (μ.2.1 31 (((a1 - (μ.2.1 28 5)) - (1 : Int32))).toNatClampNeg))]) (μ' := μ) rfl rfl rfl (fun hb => xbT hb) ?_
    refine XB.go 1 (pc' := 25) (ls' := [some (.ref 28), some (.int a1)]) (st' := [(.int (μ.2.1 31 (((a1 - (μ.2.1 28 5)) - (1 : Int32))).toNatClampNeg))]) (μ' := μ) rfl ?_
    exact XB.fin rfl
/-- LogServer.sendAppend(II)V -/
def yC_sendAppend_b155  (x1 : Int32) (x2 : Int32) (x3 : Int32) (μ : XMu) : XRes := xbv (yMa_post (μ.2.1 28 11) μ) (fun m9 => xgd (xin x1 7) (some (.inl none, (m9.1, (xuI m9.2.1 12 (x1).toNatClampNeg (x3 + x2)), m9.2.2))))
theorem yC_sendAppend_b155_ok {L : Nat} {xs : Nat → Int32}  (d4 : Option Int32) (x1 : Int32) (x2 : Int32) (x3 : Int32) (μ : XMu) : XB L xs 35 155 [some (.ref 0), some (.int x1), some (.int x2), some (.int x3), (xdl d4)] [] μ (yC_sendAppend_b155  x1 x2 x3 μ) := by
  unfold yC_sendAppend_b155
  refine XB.go 5 (pc' := 166) (ls' := [some (.ref 0), some (.int x1), some (.int x2), some (.int x3), (xdl d4)]) (st' := [(.int (μ.2.1 28 11)), (.ref 1)]) (μ' := μ) rfl ?_
  refine XB.cv rfl rfl rfl rfl rfl (yMa_post_ok (μ.2.1 28 11) μ) (fun m9 => ?_)
  refine XB.go 7 (pc' := 180) (ls' := [some (.ref 0), some (.int x1), some (.int x2), some (.int x3), (xdl d4)]) (st' := [(.int (x3 + x2)), (.int x1), (.ref 12)]) (μ' := m9) rfl ?_
  refine XB.gd (pc' := 181) (ls' := [some (.ref 0), some (.int x1), some (.int x2), some (.int x3), (xdl d4)]) (st' := []) (μ' := (m9.1, (xuI m9.2.1 12 (x1).toNatClampNeg (x3 + x2)), m9.2.2)) rfl rfl rfl (fun hb => xbT hb) ?_
  exact XB.fin rfl
def yC_sendAppend_b89 (k89 : Int32 → Int32 → Int32 → Int32 → XMu → XRes) (x1 : Int32) (x2 : Int32) (x3 : Int32) (x4 : Int32) (μ : XMu) : XRes := (if x2 ≤ x4 then yC_sendAppend_b155  x1 x2 x3 μ else xbi (yDi_termAt (x3 + x4) μ) (fun r11 m10 => xbv (yMa_add r11 m10) (fun m12 => xbi (yDi_kindAt (x3 + x4) m12) (fun r14 m13 => xbv (yMa_add r14 m13) (fun m15 => xbi (yDi_valueAt (x3 + x4) m15) (fun r17 m16 => xbv (yMa_add r17 m16) (fun m18 => k89 x1 x2 x3 (x4 + (1 : Int32)) m18)))))))
theorem yC_sendAppend_b89_ok {L : Nat} {xs : Nat → Int32} (k89 : Int32 → Int32 → Int32 → Int32 → XMu → XRes) (hk89 : ∀  (x1 : Int32) (x2 : Int32) (x3 : Int32) (x4 : Int32) (μ : XMu), XB L xs 35 89 [some (.ref 0), some (.int x1), some (.int x2), some (.int x3), some (.int x4)] [] μ (k89 x1 x2 x3 x4 μ))  (x1 : Int32) (x2 : Int32) (x3 : Int32) (x4 : Int32) (μ : XMu) : XB L xs 35 89 [some (.ref 0), some (.int x1), some (.int x2), some (.int x3), some (.int x4)] [] μ (yC_sendAppend_b89 k89 x1 x2 x3 x4 μ) := by
  unfold yC_sendAppend_b89
  refine XB.go 2 (pc' := 92) (ls' := [some (.ref 0), some (.int x1), some (.int x2), some (.int x3), some (.int x4)]) (st' := [(.int x2), (.int x4)]) (μ' := μ) rfl ?_
  refine XB.icmp (P := x2 ≤ x4) rfl rfl rfl (fun c92 => ?_) (fun c92 => ?_)
  · exact yC_sendAppend_b155_ok  (some x4) x1 x2 x3 μ
  · refine XB.go 7 (pc' := 107) (ls' := [some (.ref 0), some (.int x1), some (.int x2), some (.int x3), some (.int x4)]) (st' := [(.int (x3 + x4)), (.ref 28), (.ref 1)]) (μ' := μ) rfl ?_
    refine XB.ci rfl rfl rfl rfl rfl (yDi_termAt_ok (x3 + x4) μ) (fun r11 m10 => ?_)
    refine XB.cv rfl rfl rfl rfl rfl (yMa_add_ok r11 m10) (fun m12 => ?_)
    refine XB.go 7 (pc' := 125) (ls' := [some (.ref 0), some (.int x1), some (.int x2), some (.int x3), some (.int x4)]) (st' := [(.int (x3 + x4)), (.ref 28), (.ref 1)]) (μ' := m12) rfl ?_
    refine XB.ci rfl rfl rfl rfl rfl (yDi_kindAt_ok (x3 + x4) m12) (fun r14 m13 => ?_)
    refine XB.cv rfl rfl rfl rfl rfl (yMa_add_ok r14 m13) (fun m15 => ?_)
    refine XB.go 7 (pc' := 143) (ls' := [some (.ref 0), some (.int x1), some (.int x2), some (.int x3), some (.int x4)]) (st' := [(.int (x3 + x4)), (.ref 28), (.ref 1)]) (μ' := m15) rfl ?_
    refine XB.ci rfl rfl rfl rfl rfl (yDi_valueAt_ok (x3 + x4) m15) (fun r17 m16 => ?_)
    refine XB.cv rfl rfl rfl rfl rfl (yMa_add_ok r17 m16) (fun m18 => ?_)
    refine XB.go 2 (pc' := 89) (ls' := [some (.ref 0), some (.int x1), some (.int x2), some (.int x3), some (.int (x4 + (1 : Int32)))]) (st' := []) (μ' := m18) rfl ?_
    exact hk89  x1 x2 x3 (x4 + (1 : Int32)) m18
def yC_sendAppend_b89_L  : Nat → Int32 → Int32 → Int32 → Int32 → XMu → XRes
  | 0 => fun _ _ _ _ _ => none
  | n + 1 => yC_sendAppend_b89 (yC_sendAppend_b89_L  n)
theorem yC_sendAppend_b89_Lok {L : Nat} {xs : Nat → Int32}  : ∀ (n : Nat)  (x1 : Int32) (x2 : Int32) (x3 : Int32) (x4 : Int32) (μ : XMu), XB L xs 35 89 [some (.ref 0), some (.int x1), some (.int x2), some (.int x3), some (.int x4)] [] μ (yC_sendAppend_b89_L  n x1 x2 x3 x4 μ) := by
  intro n
  induction n with
  | zero => intro  x1 x2 x3 x4 μ r h; cases h
  | succ n ih => intro  x1 x2 x3 x4 μ; exact yC_sendAppend_b89_ok (yC_sendAppend_b89_L  n) ih  x1 x2 x3 x4 μ
def yC_sendAppend (a1 : Int32) (a2 : Int32) (μ : XMu) : XRes := xgd (xin a1 7) (xbv (yMa_begin a1 (5 : Int32) (μ.2.1 28 3) μ) (fun m1 => xbv (yMa_add ((μ.2.1 12 (a1).toNatClampNeg) - (1 : Int32)) m1) (fun m2 => xbi (yDi_termAt ((μ.2.1 12 (a1).toNatClampNeg) - (1 : Int32)) m2) (fun r4 m3 => xbv (yMa_add r4 m3) (fun m5 => xbv (yMa_add (m5.2.1 0 11) m5) (fun m6 => xbv (yMa_add (m6.2.1 11 9) m6) (fun m7 => xbv (yMa_add a2 m7) (fun m8 => yC_sendAppend_b89_L  1000 a1 a2 (μ.2.1 12 (a1).toNatClampNeg) (0 : Int32) m8))))))))
theorem yC_sendAppend_ok {L : Nat} {xs : Nat → Int32} (a1 : Int32) (a2 : Int32) (μ : XMu) : XB L xs 35 0 [some (.ref 0), some (.int a1), some (.int a2), none, none] [] μ (yC_sendAppend a1 a2 μ) := by
  unfold yC_sendAppend
  refine XB.go 4 (pc' := 8) (ls' := [some (.ref 0), some (.int a1), some (.int a2), none, none]) (st' := [(.int a1), (.ref 12)]) (μ' := μ) rfl ?_
  refine XB.gd (pc' := 9) (ls' := [some (.ref 0), some (.int a1), some (.int a2), none, none]) (st' := [(.int (μ.2.1 12 (a1).toNatClampNeg))]) (μ' := μ) rfl rfl rfl (fun hb => xbT hb) ?_
  refine XB.go 8 (pc' := 23) (ls' := [some (.ref 0), some (.int a1), some (.int a2), some (.int (μ.2.1 12 (a1).toNatClampNeg)), none]) (st' := [(.int (μ.2.1 28 3)), (.int (5 : Int32)), (.int a1), (.ref 1)]) (μ' := μ) rfl ?_
  refine XB.cv rfl rfl rfl rfl rfl (yMa_begin_ok a1 (5 : Int32) (μ.2.1 28 3) μ) (fun m1 => ?_)
  refine XB.go 5 (pc' := 33) (ls' := [some (.ref 0), some (.int a1), some (.int a2), some (.int (μ.2.1 12 (a1).toNatClampNeg)), none]) (st' := [(.int ((μ.2.1 12 (a1).toNatClampNeg) - (1 : Int32))), (.ref 1)]) (μ' := m1) rfl ?_
  refine XB.cv rfl rfl rfl rfl rfl (yMa_add_ok ((μ.2.1 12 (a1).toNatClampNeg) - (1 : Int32)) m1) (fun m2 => ?_)
  refine XB.go 7 (pc' := 47) (ls' := [some (.ref 0), some (.int a1), some (.int a2), some (.int (μ.2.1 12 (a1).toNatClampNeg)), none]) (st' := [(.int ((μ.2.1 12 (a1).toNatClampNeg) - (1 : Int32))), (.ref 28), (.ref 1)]) (μ' := m2) rfl ?_
  refine XB.ci rfl rfl rfl rfl rfl (yDi_termAt_ok ((μ.2.1 12 (a1).toNatClampNeg) - (1 : Int32)) m2) (fun r4 m3 => ?_)
  refine XB.cv rfl rfl rfl rfl rfl (yMa_add_ok r4 m3) (fun m5 => ?_)
  refine XB.go 4 (pc' := 61) (ls' := [some (.ref 0), some (.int a1), some (.int a2), some (.int (μ.2.1 12 (a1).toNatClampNeg)), none]) (st' := [(.int (m5.2.1 0 11)), (.ref 1)]) (μ' := m5) rfl ?_
  refine XB.cv rfl rfl rfl rfl rfl (yMa_add_ok (m5.2.1 0 11) m5) (fun m6 => ?_)
  refine XB.go 5 (pc' := 75) (ls' := [some (.ref 0), some (.int a1), some (.int a2), some (.int (μ.2.1 12 (a1).toNatClampNeg)), none]) (st' := [(.int (m6.2.1 11 9)), (.ref 1)]) (μ' := m6) rfl ?_
  refine XB.cv rfl rfl rfl rfl rfl (yMa_add_ok (m6.2.1 11 9) m6) (fun m7 => ?_)
  refine XB.go 3 (pc' := 83) (ls' := [some (.ref 0), some (.int a1), some (.int a2), some (.int (μ.2.1 12 (a1).toNatClampNeg)), none]) (st' := [(.int a2), (.ref 1)]) (μ' := m7) rfl ?_
  refine XB.cv rfl rfl rfl rfl rfl (yMa_add_ok a2 m7) (fun m8 => ?_)
  refine XB.go 2 (pc' := 89) (ls' := [some (.ref 0), some (.int a1), some (.int a2), some (.int (μ.2.1 12 (a1).toNatClampNeg)), some (.int (0 : Int32))]) (st' := []) (μ' := m8) rfl ?_
  exact yC_sendAppend_b89_Lok  1000  a1 a2 (μ.2.1 12 (a1).toNatClampNeg) (0 : Int32) m8
/-- LogServer.sendTo(IZ)V -/
def yC_sendTo_b153  (x1 : Int32) (x2 : Int32) (x4 : Int32) (μ : XMu) : XRes := (if x2 = (0 : Int32) then some (.inl none, μ) else (if ¬ x4 = (0 : Int32) then some (.inl none, μ) else xbv (yC_sendAppend x1 (0 : Int32) μ) (fun m1 => some (.inl none, m1))))
theorem yC_sendTo_b153_ok {L : Nat} {xs : Nat → Int32}  (d3 : Option Int32) (d5 : Option Int32) (x1 : Int32) (x2 : Int32) (x4 : Int32) (μ : XMu) : XB L xs 36 153 [some (.ref 0), some (.int x1), some (.int x2), (xdl d3), some (.int x4), (xdl d5)] [] μ (yC_sendTo_b153  x1 x2 x4 μ) := by
  unfold yC_sendTo_b153
  refine XB.go 1 (pc' := 154) (ls' := [some (.ref 0), some (.int x1), some (.int x2), (xdl d3), some (.int x4), (xdl d5)]) (st' := [(.int x2)]) (μ' := μ) rfl ?_
  refine XB.ifz (P := x2 = (0 : Int32)) rfl rfl rfl (fun c154 => ?_) (fun c154 => ?_)
  · exact XB.fin rfl
  · refine XB.go 1 (pc' := 159) (ls' := [some (.ref 0), some (.int x1), some (.int x2), (xdl d3), some (.int x4), (xdl d5)]) (st' := [(.int x4)]) (μ' := μ) rfl ?_
    refine XB.ifz (P := ¬ x4 = (0 : Int32)) rfl rfl rfl (fun c159 => ?_) (fun c159 => ?_)
    · exact XB.fin rfl
    · refine XB.go 3 (pc' := 165) (ls' := [some (.ref 0), some (.int x1), some (.int x2), (xdl d3), some (.int x4), (xdl d5)]) (st' := [(.int (0 : Int32)), (.int x1), (.ref 0)]) (μ' := μ) rfl ?_
      refine XB.cv rfl rfl rfl rfl rfl (yC_sendAppend_ok x1 (0 : Int32) μ) (fun m1 => ?_)
      exact XB.fin rfl
def yC_sendTo_b99  (x1 : Int32) (x2 : Int32) (x4 : Int32) (μ : XMu) : XRes := yC_sendTo_b153  x1 x2 x4 μ
theorem yC_sendTo_b99_ok {L : Nat} {xs : Nat → Int32}  (d3 : Option Int32) (d5 : Option Int32) (x1 : Int32) (x2 : Int32) (x4 : Int32) (μ : XMu) : XB L xs 36 99 [some (.ref 0), some (.int x1), some (.int x2), (xdl d3), some (.int x4), (xdl d5)] [] μ (yC_sendTo_b99  x1 x2 x4 μ) := by
  unfold yC_sendTo_b99
  refine XB.go 1 (pc' := 153) (ls' := [some (.ref 0), some (.int x1), some (.int x2), (xdl d3), some (.int x4), (xdl d5)]) (st' := []) (μ' := μ) rfl ?_
  exact yC_sendTo_b153_ok  (d3) (d5) x1 x2 x4 μ
def yC_sendTo_b61 (k61 : Int32 → Int32 → Int32 → Int32 → Int32 → XMu → XRes) (x1 : Int32) (x2 : Int32) (x3 : Int32) (x4 : Int32) (x5 : Int32) (μ : XMu) : XRes := (if (4 : Int32) ≤ x5 then yC_sendTo_b153  x1 x2 x4 μ else xgd (xin x1 7) ((if (μ.2.1 28 9) < (μ.2.1 12 (x1).toNatClampNeg) then yC_sendTo_b153  x1 x2 x4 μ else xgd (xin x1 7) ((if (μ.2.1 14 (x1).toNatClampNeg) < x3 then xgd (xin x1 7) (xgd (xin x1 7) (xgd (xin x1 7) (xbv (yC_sendAppend x1 (if (((μ.2.1 28 9) - (μ.2.1 12 (x1).toNatClampNeg)) + (1 : Int32)) < (6 : Int32) then (((μ.2.1 28 9) - (μ.2.1 12 (x1).toNatClampNeg)) + (1 : Int32)) else (6 : Int32)) (μ.1, (xuI μ.2.1 14 (x1).toNatClampNeg ((μ.2.1 14 (x1).toNatClampNeg) + (1 : Int32))), μ.2.2)) (fun m2 => k61 x1 x2 x3 (1 : Int32) (x5 + (1 : Int32)) m2)))) else yC_sendTo_b99  x1 x2 x4 μ)))))
theorem yC_sendTo_b61_ok {L : Nat} {xs : Nat → Int32} (k61 : Int32 → Int32 → Int32 → Int32 → Int32 → XMu → XRes) (hk61 : ∀  (x1 : Int32) (x2 : Int32) (x3 : Int32) (x4 : Int32) (x5 : Int32) (μ : XMu), XB L xs 36 61 [some (.ref 0), some (.int x1), some (.int x2), some (.int x3), some (.int x4), some (.int x5)] [] μ (k61 x1 x2 x3 x4 x5 μ))  (x1 : Int32) (x2 : Int32) (x3 : Int32) (x4 : Int32) (x5 : Int32) (μ : XMu) : XB L xs 36 61 [some (.ref 0), some (.int x1), some (.int x2), some (.int x3), some (.int x4), some (.int x5)] [] μ (yC_sendTo_b61 k61 x1 x2 x3 x4 x5 μ) := by
  unfold yC_sendTo_b61
  refine XB.go 2 (pc' := 64) (ls' := [some (.ref 0), some (.int x1), some (.int x2), some (.int x3), some (.int x4), some (.int x5)]) (st' := [(.int (4 : Int32)), (.int x5)]) (μ' := μ) rfl ?_
  refine XB.icmp (P := (4 : Int32) ≤ x5) rfl rfl rfl (fun c64 => ?_) (fun c64 => ?_)
  · exact yC_sendTo_b153_ok  (some x3) (some x5) x1 x2 x4 μ
  · refine XB.go 4 (pc' := 75) (ls' := [some (.ref 0), some (.int x1), some (.int x2), some (.int x3), some (.int x4), some (.int x5)]) (st' := [(.int x1), (.ref 12)]) (μ' := μ) rfl ?_
    refine XB.gd (pc' := 76) (ls' := [some (.ref 0), some (.int x1), some (.int x2), some (.int x3), some (.int x4), some (.int x5)]) (st' := [(.int (μ.2.1 12 (x1).toNatClampNeg))]) (μ' := μ) rfl rfl rfl (fun hb => xbT hb) ?_
    refine XB.go 3 (pc' := 83) (ls' := [some (.ref 0), some (.int x1), some (.int x2), some (.int x3), some (.int x4), some (.int x5)]) (st' := [(.int (μ.2.1 28 9)), (.int (μ.2.1 12 (x1).toNatClampNeg))]) (μ' := μ) rfl ?_
    refine XB.icmp (P := (μ.2.1 28 9) < (μ.2.1 12 (x1).toNatClampNeg)) rfl rfl rfl (fun c83 => ?_) (fun c83 => ?_)
    · exact yC_sendTo_b153_ok  (some x3) (some x5) x1 x2 x4 μ
    · refine XB.go 4 (pc' := 94) (ls' := [some (.ref 0), some (.int x1), some (.int x2), some (.int x3), some (.int x4), some (.int x5)]) (st' := [(.int x1), (.ref 14)]) (μ' := μ) rfl ?_
      refine XB.gd (pc' := 95) (ls' := [some (.ref 0), some (.int x1), some (.int x2), some (.int x3), some (.int x4), some (.int x5)]) (st' := [(.int (μ.2.1 14 (x1).toNatClampNeg))]) (μ' := μ) rfl rfl rfl (fun hb => xbT hb) ?_
      refine XB.go 1 (pc' := 96) (ls' := [some (.ref 0), some (.int x1), some (.int x2), some (.int x3), some (.int x4), some (.int x5)]) (st' := [(.int x3), (.int (μ.2.1 14 (x1).toNatClampNeg))]) (μ' := μ) rfl ?_
      refine XB.icmp (P := (μ.2.1 14 (x1).toNatClampNeg) < x3) rfl rfl rfl (fun c96 => ?_) (fun c96 => ?_)
      · refine XB.go 5 (pc' := 111) (ls' := [some (.ref 0), some (.int x1), some (.int x2), some (.int x3), some (.int x4), some (.int x5)]) (st' := [(.int x1), (.ref 14), (.int x1), (.ref 14)]) (μ' := μ) rfl ?_
        refine XB.gd (pc' := 112) (ls' := [some (.ref 0), some (.int x1), some (.int x2), some (.int x3), some (.int x4), some (.int x5)]) (st' := [(.int (μ.2.1 14 (x1).toNatClampNeg)), (.int x1), (.ref 14)]) (μ' := μ) rfl rfl rfl (fun hb => xbT hb) ?_
        refine XB.go 2 (pc' := 114) (ls' := [some (.ref 0), some (.int x1), some (.int x2), some (.int x3), some (.int x4), some (.int x5)]) (st' := [(.int ((μ.2.1 14 (x1).toNatClampNeg) + (1 : Int32))), (.int x1), (.ref 14)]) (μ' := μ) rfl ?_
        refine XB.gd (pc' := 115) (ls' := [some (.ref 0), some (.int x1), some (.int x2), some (.int x3), some (.int x4), some (.int x5)]) (st' := []) (μ' := (μ.1, (xuI μ.2.1 14 (x1).toNatClampNeg ((μ.2.1 14 (x1).toNatClampNeg) + (1 : Int32))), μ.2.2)) rfl rfl rfl (fun hb => xbT hb) ?_
        refine XB.go 10 (pc' := 134) (ls' := [some (.ref 0), some (.int x1), some (.int x2), some (.int x3), some (.int x4), some (.int x5)]) (st' := [(.int x1), (.ref 12), (.int (μ.2.1 28 9)), (.int (6 : Int32)), (.int x1), (.ref 0)]) (μ' := (μ.1, (xuI μ.2.1 14 (x1).toNatClampNeg ((μ.2.1 14 (x1).toNatClampNeg) + (1 : Int32))), μ.2.2)) rfl ?_
        refine XB.gd (pc' := 135) (ls' := [some (.ref 0), some (.int x1), some (.int x2), some (.int x3), some (.int x4), some (.int x5)]) (st' := [(.int (μ.2.1 12 (x1).toNatClampNeg)), (.int (μ.2.1 28 9)), (.int (6 : Int32)), (.int x1), (.ref 0)]) (μ' := (μ.1, (xuI μ.2.1 14 (x1).toNatClampNeg ((μ.2.1 14 (x1).toNatClampNeg) + (1 : Int32))), μ.2.2)) rfl rfl rfl (fun hb => xbT hb) ?_
        refine XB.go 3 (pc' := 138) (ls' := [some (.ref 0), some (.int x1), some (.int x2), some (.int x3), some (.int x4), some (.int x5)]) (st' := [(.int (((μ.2.1 28 9) - (μ.2.1 12 (x1).toNatClampNeg)) + (1 : Int32))), (.int (6 : Int32)), (.int x1), (.ref 0)]) (μ' := (μ.1, (xuI μ.2.1 14 (x1).toNatClampNeg ((μ.2.1 14 (x1).toNatClampNeg) + (1 : Int32))), μ.2.2)) rfl ?_
        refine XB.nat (rst := [(.int (if (((μ.2.1 28 9) - (μ.2.1 12 (x1).toNatClampNeg)) + (1 : Int32)) < (6 : Int32) then (((μ.2.1 28 9) - (μ.2.1 12 (x1).toNatClampNeg)) + (1 : Int32)) else (6 : Int32))), (.int x1), (.ref 0)]) (μ' := (μ.1, (xuI μ.2.1 14 (x1).toNatClampNeg ((μ.2.1 14 (x1).toNatClampNeg) + (1 : Int32))), μ.2.2)) rfl rfl rfl rfl ?_
        refine XB.cv rfl rfl rfl rfl rfl (yC_sendAppend_ok x1 (if (((μ.2.1 28 9) - (μ.2.1 12 (x1).toNatClampNeg)) + (1 : Int32)) < (6 : Int32) then (((μ.2.1 28 9) - (μ.2.1 12 (x1).toNatClampNeg)) + (1 : Int32)) else (6 : Int32)) (μ.1, (xuI μ.2.1 14 (x1).toNatClampNeg ((μ.2.1 14 (x1).toNatClampNeg) + (1 : Int32))), μ.2.2)) (fun m2 => ?_)
        refine XB.go 4 (pc' := 61) (ls' := [some (.ref 0), some (.int x1), some (.int x2), some (.int x3), some (.int (1 : Int32)), some (.int (x5 + (1 : Int32)))]) (st' := []) (μ' := m2) rfl ?_
        exact hk61  x1 x2 x3 (1 : Int32) (x5 + (1 : Int32)) m2
      · exact yC_sendTo_b99_ok  (some x3) (some x5) x1 x2 x4 μ
def yC_sendTo_b61_L  : Nat → Int32 → Int32 → Int32 → Int32 → Int32 → XMu → XRes
  | 0 => fun _ _ _ _ _ _ => none
  | n + 1 => yC_sendTo_b61 (yC_sendTo_b61_L  n)
theorem yC_sendTo_b61_Lok {L : Nat} {xs : Nat → Int32}  : ∀ (n : Nat)  (x1 : Int32) (x2 : Int32) (x3 : Int32) (x4 : Int32) (x5 : Int32) (μ : XMu), XB L xs 36 61 [some (.ref 0), some (.int x1), some (.int x2), some (.int x3), some (.int x4), some (.int x5)] [] μ (yC_sendTo_b61_L  n x1 x2 x3 x4 x5 μ) := by
  intro n
  induction n with
  | zero => intro  x1 x2 x3 x4 x5 μ r h; cases h
  | succ n ih => intro  x1 x2 x3 x4 x5 μ; exact yC_sendTo_b61_ok (yC_sendTo_b61_L  n) ih  x1 x2 x3 x4 x5 μ
def yC_sendTo (a1 : Int32) (a2 : Int32) (μ : XMu) : XRes := xgd (xin a1 7) ((if (μ.2.1 28 5) < (μ.2.1 12 (a1).toNatClampNeg) then xgd (xin a1 7) ((if (μ.2.1 15 (a1).toNatClampNeg) = (0 : Int32) then yC_sendTo_b61_L  1000 a1 a2 (4 : Int32) (0 : Int32) (0 : Int32) μ else yC_sendTo_b61_L  1000 a1 a2 (1 : Int32) (0 : Int32) (0 : Int32) μ)) else xgd (xin a1 7) ((if ¬ (μ.2.1 14 (a1).toNatClampNeg) = (0 : Int32) then some (.inl none, μ) else xbv (yC_sendPiece a1 μ) (fun m3 => some (.inl none, m3))))))
theorem yC_sendTo_ok {L : Nat} {xs : Nat → Int32} (a1 : Int32) (a2 : Int32) (μ : XMu) : XB L xs 36 0 [some (.ref 0), some (.int a1), some (.int a2), none, none, none] [] μ (yC_sendTo a1 a2 μ) := by
  unfold yC_sendTo
  refine XB.go 4 (pc' := 8) (ls' := [some (.ref 0), some (.int a1), some (.int a2), none, none, none]) (st' := [(.int a1), (.ref 12)]) (μ' := μ) rfl ?_
  refine XB.gd (pc' := 9) (ls' := [some (.ref 0), some (.int a1), some (.int a2), none, none, none]) (st' := [(.int (μ.2.1 12 (a1).toNatClampNeg))]) (μ' := μ) rfl rfl rfl (fun hb => xbT hb) ?_
  refine XB.go 3 (pc' := 16) (ls' := [some (.ref 0), some (.int a1), some (.int a2), none, none, none]) (st' := [(.int (μ.2.1 28 5)), (.int (μ.2.1 12 (a1).toNatClampNeg))]) (μ' := μ) rfl ?_
  refine XB.icmp (P := (μ.2.1 28 5) < (μ.2.1 12 (a1).toNatClampNeg)) rfl rfl rfl (fun c16 => ?_) (fun c16 => ?_)
  · refine XB.go 4 (pc' := 45) (ls' := [some (.ref 0), some (.int a1), some (.int a2), none, none, none]) (st' := [(.int a1), (.ref 15)]) (μ' := μ) rfl ?_
    refine XB.gd (pc' := 46) (ls' := [some (.ref 0), some (.int a1), some (.int a2), none, none, none]) (st' := [(.int (μ.2.1 15 (a1).toNatClampNeg))]) (μ' := μ) rfl rfl rfl (fun hb => xbT hb) ?_
    refine XB.ifz (P := (μ.2.1 15 (a1).toNatClampNeg) = (0 : Int32)) rfl rfl rfl (fun c46 => ?_) (fun c46 => ?_)
    · refine XB.go 6 (pc' := 61) (ls' := [some (.ref 0), some (.int a1), some (.int a2), some (.int (4 : Int32)), some (.int (0 : Int32)), some (.int (0 : Int32))]) (st' := []) (μ' := μ) rfl ?_
      exact yC_sendTo_b61_Lok  1000  a1 a2 (4 : Int32) (0 : Int32) (0 : Int32) μ
    · refine XB.go 7 (pc' := 61) (ls' := [some (.ref 0), some (.int a1), some (.int a2), some (.int (1 : Int32)), some (.int (0 : Int32)), some (.int (0 : Int32))]) (st' := []) (μ' := μ) rfl ?_
      exact yC_sendTo_b61_Lok  1000  a1 a2 (1 : Int32) (0 : Int32) (0 : Int32) μ
  · refine XB.go 4 (pc' := 27) (ls' := [some (.ref 0), some (.int a1), some (.int a2), none, none, none]) (st' := [(.int a1), (.ref 14)]) (μ' := μ) rfl ?_
    refine XB.gd (pc' := 28) (ls' := [some (.ref 0), some (.int a1), some (.int a2), none, none, none]) (st' := [(.int (μ.2.1 14 (a1).toNatClampNeg))]) (μ' := μ) rfl rfl rfl (fun hb => xbT hb) ?_
    refine XB.ifz (P := ¬ (μ.2.1 14 (a1).toNatClampNeg) = (0 : Int32)) rfl rfl rfl (fun c28 => ?_) (fun c28 => ?_)
    · exact XB.fin rfl
    · refine XB.go 2 (pc' := 33) (ls' := [some (.ref 0), some (.int a1), some (.int a2), none, none, none]) (st' := [(.int a1), (.ref 0)]) (μ' := μ) rfl ?_
      refine XB.cv rfl rfl rfl rfl rfl (yC_sendPiece_ok a1 μ) (fun m3 => ?_)
      exact XB.fin rfl
/-- LogServer.sendToPeers(Z)V -/
def yC_sendToPeers_b7 (k7 : Int32 → Int32 → Int32 → XMu → XRes) (x1 : Int32) (x2 : Int32) (x3 : Int32) (μ : XMu) : XRes := (if (7 : Int32) ≤ x3 then some (.inl none, μ) else (if (yC_has x2 x3) = (0 : Int32) then k7 x1 x2 (x3 + (1 : Int32)) μ else xbv (yC_sendTo x3 x1 μ) (fun m1 => k7 x1 x2 (x3 + (1 : Int32)) m1)))
theorem yC_sendToPeers_b7_ok {L : Nat} {xs : Nat → Int32} (k7 : Int32 → Int32 → Int32 → XMu → XRes) (hk7 : ∀  (x1 : Int32) (x2 : Int32) (x3 : Int32) (μ : XMu), XB L xs 37 7 [some (.ref 0), some (.int x1), some (.int x2), some (.int x3)] [] μ (k7 x1 x2 x3 μ))  (x1 : Int32) (x2 : Int32) (x3 : Int32) (μ : XMu) : XB L xs 37 7 [some (.ref 0), some (.int x1), some (.int x2), some (.int x3)] [] μ (yC_sendToPeers_b7 k7 x1 x2 x3 μ) := by
  unfold yC_sendToPeers_b7
  refine XB.go 2 (pc' := 10) (ls' := [some (.ref 0), some (.int x1), some (.int x2), some (.int x3)]) (st' := [(.int (7 : Int32)), (.int x3)]) (μ' := μ) rfl ?_
  refine XB.icmp (P := (7 : Int32) ≤ x3) rfl rfl rfl (fun c10 => ?_) (fun c10 => ?_)
  · exact XB.fin rfl
  · refine XB.go 2 (pc' := 15) (ls' := [some (.ref 0), some (.int x1), some (.int x2), some (.int x3)]) (st' := [(.int x3), (.int x2)]) (μ' := μ) rfl ?_
    refine XB.cp rfl rfl rfl (yC_has_ok x2 x3 μ) ?_
    refine XB.ifz (P := (yC_has x2 x3) = (0 : Int32)) rfl rfl rfl (fun c18 => ?_) (fun c18 => ?_)
    · refine XB.go 2 (pc' := 7) (ls' := [some (.ref 0), some (.int x1), some (.int x2), some (.int (x3 + (1 : Int32)))]) (st' := []) (μ' := μ) rfl ?_
      exact hk7  x1 x2 (x3 + (1 : Int32)) μ
    · refine XB.go 3 (pc' := 24) (ls' := [some (.ref 0), some (.int x1), some (.int x2), some (.int x3)]) (st' := [(.int x1), (.int x3), (.ref 0)]) (μ' := μ) rfl ?_
      refine XB.cv rfl rfl rfl rfl rfl (yC_sendTo_ok x3 x1 μ) (fun m1 => ?_)
      refine XB.go 2 (pc' := 7) (ls' := [some (.ref 0), some (.int x1), some (.int x2), some (.int (x3 + (1 : Int32)))]) (st' := []) (μ' := m1) rfl ?_
      exact hk7  x1 x2 (x3 + (1 : Int32)) m1
def yC_sendToPeers_b7_L  : Nat → Int32 → Int32 → Int32 → XMu → XRes
  | 0 => fun _ _ _ _ => none
  | n + 1 => yC_sendToPeers_b7 (yC_sendToPeers_b7_L  n)
theorem yC_sendToPeers_b7_Lok {L : Nat} {xs : Nat → Int32}  : ∀ (n : Nat)  (x1 : Int32) (x2 : Int32) (x3 : Int32) (μ : XMu), XB L xs 37 7 [some (.ref 0), some (.int x1), some (.int x2), some (.int x3)] [] μ (yC_sendToPeers_b7_L  n x1 x2 x3 μ) := by
  intro n
  induction n with
  | zero => intro  x1 x2 x3 μ r h; cases h
  | succ n ih => intro  x1 x2 x3 μ; exact yC_sendToPeers_b7_ok (yC_sendToPeers_b7_L  n) ih  x1 x2 x3 μ
def yC_sendToPeers (a1 : Int32) (μ : XMu) : XRes := yC_sendToPeers_b7_L  1000 a1 (yC_peers μ) (0 : Int32) μ
theorem yC_sendToPeers_ok {L : Nat} {xs : Nat → Int32} (a1 : Int32) (μ : XMu) : XB L xs 37 0 [some (.ref 0), some (.int a1), none, none] [] μ (yC_sendToPeers a1 μ) := by
  unfold yC_sendToPeers
  refine XB.go 1 (pc' := 1) (ls' := [some (.ref 0), some (.int a1), none, none]) (st' := [(.ref 0)]) (μ' := μ) rfl ?_
  refine XB.cp rfl rfl rfl (yC_peers_ok μ) ?_
  refine XB.go 3 (pc' := 7) (ls' := [some (.ref 0), some (.int a1), some (.int (yC_peers μ)), some (.int (0 : Int32))]) (st' := []) (μ' := μ) rfl ?_
  exact yC_sendToPeers_b7_Lok  1000  a1 (yC_peers μ) (0 : Int32) μ
/-- LogServer$Calls.answerReads(II)V -/
def yCa_answerReads_b2 (k2 : Int32 → Int32 → Int32 → XMu → XRes) (x1 : Int32) (x2 : Int32) (x3 : Int32) (μ : XMu) : XRes := (if (32 : Int32) ≤ x3 then some (.inl none, μ) else (if (μ.2.1 20 4) ≤ x3 then some (.inl none, μ) else xgd (xin x3 32) ((if ¬ (μ.2.1 24 (x3).toNatClampNeg) = (0 : Int32) then k2 x1 x2 (x3 + (1 : Int32)) μ else xgd (xin x3 32) ((if (μ.2.1 21 (x3).toNatClampNeg) = (0 : Int32) then k2 x1 x2 (x3 + (1 : Int32)) μ else xgd (xin x3 32) ((if x1 < (μ.2.1 22 (x3).toNatClampNeg) then k2 x1 x2 (x3 + (1 : Int32)) μ else xgd (xin x3 32) ((if x2 < (μ.2.1 23 (x3).toNatClampNeg) then k2 x1 x2 (x3 + (1 : Int32)) μ else xgd (xin x3 32) (k2 x1 x2 (x3 + (1 : Int32)) (μ.1, (xuI μ.2.1 24 (x3).toNatClampNeg (1 : Int32)), μ.2.2))))))))))))
theorem yCa_answerReads_b2_ok {L : Nat} {xs : Nat → Int32} (k2 : Int32 → Int32 → Int32 → XMu → XRes) (hk2 : ∀  (x1 : Int32) (x2 : Int32) (x3 : Int32) (μ : XMu), XB L xs 40 2 [some (.ref 20), some (.int x1), some (.int x2), some (.int x3)] [] μ (k2 x1 x2 x3 μ))  (x1 : Int32) (x2 : Int32) (x3 : Int32) (μ : XMu) : XB L xs 40 2 [some (.ref 20), some (.int x1), some (.int x2), some (.int x3)] [] μ (yCa_answerReads_b2 k2 x1 x2 x3 μ) := by
  unfold yCa_answerReads_b2
  refine XB.go 2 (pc' := 5) (ls' := [some (.ref 20), some (.int x1), some (.int x2), some (.int x3)]) (st' := [(.int (32 : Int32)), (.int x3)]) (μ' := μ) rfl ?_
  refine XB.icmp (P := (32 : Int32) ≤ x3) rfl rfl rfl (fun c5 => ?_) (fun c5 => ?_)
  · exact XB.fin rfl
  · refine XB.go 3 (pc' := 13) (ls' := [some (.ref 20), some (.int x1), some (.int x2), some (.int x3)]) (st' := [(.int (μ.2.1 20 4)), (.int x3)]) (μ' := μ) rfl ?_
    refine XB.icmp (P := (μ.2.1 20 4) ≤ x3) rfl rfl rfl (fun c13 => ?_) (fun c13 => ?_)
    · exact XB.fin rfl
    · refine XB.go 3 (pc' := 21) (ls' := [some (.ref 20), some (.int x1), some (.int x2), some (.int x3)]) (st' := [(.int x3), (.ref 24)]) (μ' := μ) rfl ?_
      refine XB.gd (pc' := 22) (ls' := [some (.ref 20), some (.int x1), some (.int x2), some (.int x3)]) (st' := [(.int (μ.2.1 24 (x3).toNatClampNeg))]) (μ' := μ) rfl rfl rfl (fun hb => xbT hb) ?_
      refine XB.ifz (P := ¬ (μ.2.1 24 (x3).toNatClampNeg) = (0 : Int32)) rfl rfl rfl (fun c22 => ?_) (fun c22 => ?_)
      · refine XB.go 2 (pc' := 2) (ls' := [some (.ref 20), some (.int x1), some (.int x2), some (.int (x3 + (1 : Int32)))]) (st' := []) (μ' := μ) rfl ?_
        exact hk2  x1 x2 (x3 + (1 : Int32)) μ
      · refine XB.go 3 (pc' := 30) (ls' := [some (.ref 20), some (.int x1), some (.int x2), some (.int x3)]) (st' := [(.int x3), (.ref 21)]) (μ' := μ) rfl ?_
        refine XB.gd (pc' := 31) (ls' := [some (.ref 20), some (.int x1), some (.int x2), some (.int x3)]) (st' := [(.int (μ.2.1 21 (x3).toNatClampNeg))]) (μ' := μ) rfl rfl rfl (fun hb => xbT hb) ?_
        refine XB.ifz (P := (μ.2.1 21 (x3).toNatClampNeg) = (0 : Int32)) rfl rfl rfl (fun c31 => ?_) (fun c31 => ?_)
        · refine XB.go 2 (pc' := 2) (ls' := [some (.ref 20), some (.int x1), some (.int x2), some (.int (x3 + (1 : Int32)))]) (st' := []) (μ' := μ) rfl ?_
          exact hk2  x1 x2 (x3 + (1 : Int32)) μ
        · refine XB.go 3 (pc' := 39) (ls' := [some (.ref 20), some (.int x1), some (.int x2), some (.int x3)]) (st' := [(.int x3), (.ref 22)]) (μ' := μ) rfl ?_
          refine XB.gd (pc' := 40) (ls' := [some (.ref 20), some (.int x1), some (.int x2), some (.int x3)]) (st' := [(.int (μ.2.1 22 (x3).toNatClampNeg))]) (μ' := μ) rfl rfl rfl (fun hb => xbT hb) ?_
          refine XB.go 1 (pc' := 41) (ls' := [some (.ref 20), some (.int x1), some (.int x2), some (.int x3)]) (st' := [(.int x1), (.int (μ.2.1 22 (x3).toNatClampNeg))]) (μ' := μ) rfl ?_
          refine XB.icmp (P := x1 < (μ.2.1 22 (x3).toNatClampNeg)) rfl rfl rfl (fun c41 => ?_) (fun c41 => ?_)
          · refine XB.go 2 (pc' := 2) (ls' := [some (.ref 20), some (.int x1), some (.int x2), some (.int (x3 + (1 : Int32)))]) (st' := []) (μ' := μ) rfl ?_
            exact hk2  x1 x2 (x3 + (1 : Int32)) μ
          · refine XB.go 3 (pc' := 49) (ls' := [some (.ref 20), some (.int x1), some (.int x2), some (.int x3)]) (st' := [(.int x3), (.ref 23)]) (μ' := μ) rfl ?_
            refine XB.gd (pc' := 50) (ls' := [some (.ref 20), some (.int x1), some (.int x2), some (.int x3)]) (st' := [(.int (μ.2.1 23 (x3).toNatClampNeg))]) (μ' := μ) rfl rfl rfl (fun hb => xbT hb) ?_
            refine XB.go 1 (pc' := 51) (ls' := [some (.ref 20), some (.int x1), some (.int x2), some (.int x3)]) (st' := [(.int x2), (.int (μ.2.1 23 (x3).toNatClampNeg))]) (μ' := μ) rfl ?_
            refine XB.icmp (P := x2 < (μ.2.1 23 (x3).toNatClampNeg)) rfl rfl rfl (fun c51 => ?_) (fun c51 => ?_)
            · refine XB.go 2 (pc' := 2) (ls' := [some (.ref 20), some (.int x1), some (.int x2), some (.int (x3 + (1 : Int32)))]) (st' := []) (μ' := μ) rfl ?_
              exact hk2  x1 x2 (x3 + (1 : Int32)) μ
            · refine XB.go 4 (pc' := 60) (ls' := [some (.ref 20), some (.int x1), some (.int x2), some (.int x3)]) (st' := [(.int (1 : Int32)), (.int x3), (.ref 24)]) (μ' := μ) rfl ?_
              refine XB.gd (pc' := 61) (ls' := [some (.ref 20), some (.int x1), some (.int x2), some (.int x3)]) (st' := []) (μ' := (μ.1, (xuI μ.2.1 24 (x3).toNatClampNeg (1 : Int32)), μ.2.2)) rfl rfl rfl (fun hb => xbT hb) ?_
              refine XB.go 2 (pc' := 2) (ls' := [some (.ref 20), some (.int x1), some (.int x2), some (.int (x3 + (1 : Int32)))]) (st' := []) (μ' := (μ.1, (xuI μ.2.1 24 (x3).toNatClampNeg (1 : Int32)), μ.2.2)) rfl ?_
              exact hk2  x1 x2 (x3 + (1 : Int32)) (μ.1, (xuI μ.2.1 24 (x3).toNatClampNeg (1 : Int32)), μ.2.2)
def yCa_answerReads_b2_L  : Nat → Int32 → Int32 → Int32 → XMu → XRes
  | 0 => fun _ _ _ _ => none
  | n + 1 => yCa_answerReads_b2 (yCa_answerReads_b2_L  n)
theorem yCa_answerReads_b2_Lok {L : Nat} {xs : Nat → Int32}  : ∀ (n : Nat)  (x1 : Int32) (x2 : Int32) (x3 : Int32) (μ : XMu), XB L xs 40 2 [some (.ref 20), some (.int x1), some (.int x2), some (.int x3)] [] μ (yCa_answerReads_b2_L  n x1 x2 x3 μ) := by
  intro n
  induction n with
  | zero => intro  x1 x2 x3 μ r h; cases h
  | succ n ih => intro  x1 x2 x3 μ; exact yCa_answerReads_b2_ok (yCa_answerReads_b2_L  n) ih  x1 x2 x3 μ
def yCa_answerReads (a1 : Int32) (a2 : Int32) (μ : XMu) : XRes := yCa_answerReads_b2_L  1000 a1 a2 (0 : Int32) μ
theorem yCa_answerReads_ok {L : Nat} {xs : Nat → Int32} (a1 : Int32) (a2 : Int32) (μ : XMu) : XB L xs 40 0 [some (.ref 20), some (.int a1), some (.int a2), none] [] μ (yCa_answerReads a1 a2 μ) := by
  unfold yCa_answerReads
  refine XB.go 2 (pc' := 2) (ls' := [some (.ref 20), some (.int a1), some (.int a2), some (.int (0 : Int32))]) (st' := []) (μ' := μ) rfl ?_
  exact yCa_answerReads_b2_Lok  1000  a1 a2 (0 : Int32) μ
/-- LogServer.serversFrom([II)I -/
def yC_serversFrom_r17_b4 (k4 : Int32 → Int32 → Int32 → XMu → XRes) (x1 : Int32) (x2 : Int32) (x3 : Int32) (μ : XMu) : XRes := (if (7 : Int32) ≤ x3 then some (.inl (some (.int x2)), μ) else xgd (xin x3 7) ((if (μ.2.1 17 (x3).toNatClampNeg) < x1 then k4 x1 x2 (x3 + (1 : Int32)) μ else k4 x1 (x2 ||| (yC_bit x3)) (x3 + (1 : Int32)) μ)))
theorem yC_serversFrom_r17_b4_ok {L : Nat} {xs : Nat → Int32} (k4 : Int32 → Int32 → Int32 → XMu → XRes) (hk4 : ∀  (x1 : Int32) (x2 : Int32) (x3 : Int32) (μ : XMu), XB L xs 38 4 [some (.ref 17), some (.int x1), some (.int x2), some (.int x3)] [] μ (k4 x1 x2 x3 μ))  (x1 : Int32) (x2 : Int32) (x3 : Int32) (μ : XMu) : XB L xs 38 4 [some (.ref 17), some (.int x1), some (.int x2), some (.int x3)] [] μ (yC_serversFrom_r17_b4 k4 x1 x2 x3 μ) := by
  unfold yC_serversFrom_r17_b4
  refine XB.go 2 (pc' := 7) (ls' := [some (.ref 17), some (.int x1), some (.int x2), some (.int x3)]) (st' := [(.int (7 : Int32)), (.int x3)]) (μ' := μ) rfl ?_
  refine XB.icmp (P := (7 : Int32) ≤ x3) rfl rfl rfl (fun c7 => ?_) (fun c7 => ?_)
  · refine XB.go 1 (pc' := 31) (ls' := [some (.ref 17), some (.int x1), some (.int x2), some (.int x3)]) (st' := [(.int x2)]) (μ' := μ) rfl ?_
    exact XB.fin rfl
  · refine XB.go 2 (pc' := 12) (ls' := [some (.ref 17), some (.int x1), some (.int x2), some (.int x3)]) (st' := [(.int x3), (.ref 17)]) (μ' := μ) rfl ?_
    refine XB.gd (pc' := 13) (ls' := [some (.ref 17), some (.int x1), some (.int x2), some (.int x3)]) (st' := [(.int (μ.2.1 17 (x3).toNatClampNeg))]) (μ' := μ) rfl rfl rfl (fun hb => xbT hb) ?_
    refine XB.go 1 (pc' := 14) (ls' := [some (.ref 17), some (.int x1), some (.int x2), some (.int x3)]) (st' := [(.int x1), (.int (μ.2.1 17 (x3).toNatClampNeg))]) (μ' := μ) rfl ?_
    refine XB.icmp (P := (μ.2.1 17 (x3).toNatClampNeg) < x1) rfl rfl rfl (fun c14 => ?_) (fun c14 => ?_)
    · refine XB.go 2 (pc' := 4) (ls' := [some (.ref 17), some (.int x1), some (.int x2), some (.int (x3 + (1 : Int32)))]) (st' := []) (μ' := μ) rfl ?_
      exact hk4  x1 x2 (x3 + (1 : Int32)) μ
    · refine XB.go 2 (pc' := 19) (ls' := [some (.ref 17), some (.int x1), some (.int x2), some (.int x3)]) (st' := [(.int x3), (.int x2)]) (μ' := μ) rfl ?_
      refine XB.cp rfl rfl rfl (yC_bit_ok x3 μ) ?_
      refine XB.go 4 (pc' := 4) (ls' := [some (.ref 17), some (.int x1), some (.int (x2 ||| (yC_bit x3))), some (.int (x3 + (1 : Int32)))]) (st' := []) (μ' := μ) rfl ?_
      exact hk4  x1 (x2 ||| (yC_bit x3)) (x3 + (1 : Int32)) μ
def yC_serversFrom_r17_b4_L  : Nat → Int32 → Int32 → Int32 → XMu → XRes
  | 0 => fun _ _ _ _ => none
  | n + 1 => yC_serversFrom_r17_b4 (yC_serversFrom_r17_b4_L  n)
theorem yC_serversFrom_r17_b4_Lok {L : Nat} {xs : Nat → Int32}  : ∀ (n : Nat)  (x1 : Int32) (x2 : Int32) (x3 : Int32) (μ : XMu), XB L xs 38 4 [some (.ref 17), some (.int x1), some (.int x2), some (.int x3)] [] μ (yC_serversFrom_r17_b4_L  n x1 x2 x3 μ) := by
  intro n
  induction n with
  | zero => intro  x1 x2 x3 μ r h; cases h
  | succ n ih => intro  x1 x2 x3 μ; exact yC_serversFrom_r17_b4_ok (yC_serversFrom_r17_b4_L  n) ih  x1 x2 x3 μ
def yC_serversFrom_r17 (a1 : Int32) (μ : XMu) : XRes := yC_serversFrom_r17_b4_L  1000 a1 (0 : Int32) (0 : Int32) μ
theorem yC_serversFrom_r17_ok {L : Nat} {xs : Nat → Int32} (a1 : Int32) (μ : XMu) : XB L xs 38 0 [some (.ref 17), some (.int a1), none, none] [] μ (yC_serversFrom_r17 a1 μ) := by
  unfold yC_serversFrom_r17
  refine XB.go 4 (pc' := 4) (ls' := [some (.ref 17), some (.int a1), some (.int (0 : Int32)), some (.int (0 : Int32))]) (st' := []) (μ' := μ) rfl ?_
  exact yC_serversFrom_r17_b4_Lok  1000  a1 (0 : Int32) (0 : Int32) μ
/-- LogServer.reachedByMajority([I)I -/
def yC_reachedByMajority_r17_b4 (k4 : Int32 → Int32 → XMu → XRes) (x2 : Int32) (x3 : Int32) (μ : XMu) : XRes := (if (7 : Int32) ≤ x3 then some (.inl (some (.int x2)), μ) else xgd (xin x3 7) ((if (μ.2.1 17 (x3).toNatClampNeg) ≤ x2 then k4 x2 (x3 + (1 : Int32)) μ else xgd (xin x3 7) (xbi (yC_serversFrom_r17 (μ.2.1 17 (x3).toNatClampNeg) μ) (fun r2 m1 => (if (yC_isMajority r2 m1) = (0 : Int32) then k4 x2 (x3 + (1 : Int32)) m1 else xgd (xin x3 7) (k4 (m1.2.1 17 (x3).toNatClampNeg) (x3 + (1 : Int32)) m1)))))))
theorem yC_reachedByMajority_r17_b4_ok {L : Nat} {xs : Nat → Int32} (k4 : Int32 → Int32 → XMu → XRes) (hk4 : ∀  (x2 : Int32) (x3 : Int32) (μ : XMu), XB L xs 39 4 [some (.ref 0), some (.ref 17), some (.int x2), some (.int x3)] [] μ (k4 x2 x3 μ))  (x2 : Int32) (x3 : Int32) (μ : XMu) : XB L xs 39 4 [some (.ref 0), some (.ref 17), some (.int x2), some (.int x3)] [] μ (yC_reachedByMajority_r17_b4 k4 x2 x3 μ) := by
  unfold yC_reachedByMajority_r17_b4
  refine XB.go 2 (pc' := 7) (ls' := [some (.ref 0), some (.ref 17), some (.int x2), some (.int x3)]) (st' := [(.int (7 : Int32)), (.int x3)]) (μ' := μ) rfl ?_
  refine XB.icmp (P := (7 : Int32) ≤ x3) rfl rfl rfl (fun c7 => ?_) (fun c7 => ?_)
  · refine XB.go 1 (pc' := 42) (ls' := [some (.ref 0), some (.ref 17), some (.int x2), some (.int x3)]) (st' := [(.int x2)]) (μ' := μ) rfl ?_
    exact XB.fin rfl
  · refine XB.go 2 (pc' := 12) (ls' := [some (.ref 0), some (.ref 17), some (.int x2), some (.int x3)]) (st' := [(.int x3), (.ref 17)]) (μ' := μ) rfl ?_
    refine XB.gd (pc' := 13) (ls' := [some (.ref 0), some (.ref 17), some (.int x2), some (.int x3)]) (st' := [(.int (μ.2.1 17 (x3).toNatClampNeg))]) (μ' := μ) rfl rfl rfl (fun hb => xbT hb) ?_
    refine XB.go 1 (pc' := 14) (ls' := [some (.ref 0), some (.ref 17), some (.int x2), some (.int x3)]) (st' := [(.int x2), (.int (μ.2.1 17 (x3).toNatClampNeg))]) (μ' := μ) rfl ?_
    refine XB.icmp (P := (μ.2.1 17 (x3).toNatClampNeg) ≤ x2) rfl rfl rfl (fun c14 => ?_) (fun c14 => ?_)
    · refine XB.go 2 (pc' := 4) (ls' := [some (.ref 0), some (.ref 17), some (.int x2), some (.int (x3 + (1 : Int32)))]) (st' := []) (μ' := μ) rfl ?_
      exact hk4  x2 (x3 + (1 : Int32)) μ
    · refine XB.go 4 (pc' := 21) (ls' := [some (.ref 0), some (.ref 17), some (.int x2), some (.int x3)]) (st' := [(.int x3), (.ref 17), (.ref 17), (.ref 0)]) (μ' := μ) rfl ?_
      refine XB.gd (pc' := 22) (ls' := [some (.ref 0), some (.ref 17), some (.int x2), some (.int x3)]) (st' := [(.int (μ.2.1 17 (x3).toNatClampNeg)), (.ref 17), (.ref 0)]) (μ' := μ) rfl rfl rfl (fun hb => xbT hb) ?_
      refine XB.ci rfl rfl rfl rfl rfl (yC_serversFrom_r17_ok (μ.2.1 17 (x3).toNatClampNeg) μ) (fun r2 m1 => ?_)
      refine XB.cp rfl rfl rfl (yC_isMajority_ok r2 m1) ?_
      refine XB.ifz (P := (yC_isMajority r2 m1) = (0 : Int32)) rfl rfl rfl (fun c28 => ?_) (fun c28 => ?_)
      · refine XB.go 2 (pc' := 4) (ls' := [some (.ref 0), some (.ref 17), some (.int x2), some (.int (x3 + (1 : Int32)))]) (st' := []) (μ' := m1) rfl ?_
        exact hk4  x2 (x3 + (1 : Int32)) m1
      · refine XB.go 2 (pc' := 33) (ls' := [some (.ref 0), some (.ref 17), some (.int x2), some (.int x3)]) (st' := [(.int x3), (.ref 17)]) (μ' := m1) rfl ?_
        refine XB.gd (pc' := 34) (ls' := [some (.ref 0), some (.ref 17), some (.int x2), some (.int x3)]) (st' := [(.int (m1.2.1 17 (x3).toNatClampNeg))]) (μ' := m1) rfl rfl rfl (fun hb => xbT hb) ?_
        refine XB.go 3 (pc' := 4) (ls' := [some (.ref 0), some (.ref 17), some (.int (m1.2.1 17 (x3).toNatClampNeg)), some (.int (x3 + (1 : Int32)))]) (st' := []) (μ' := m1) rfl ?_
        exact hk4  (m1.2.1 17 (x3).toNatClampNeg) (x3 + (1 : Int32)) m1
def yC_reachedByMajority_r17_b4_L  : Nat → Int32 → Int32 → XMu → XRes
  | 0 => fun _ _ _ => none
  | n + 1 => yC_reachedByMajority_r17_b4 (yC_reachedByMajority_r17_b4_L  n)
theorem yC_reachedByMajority_r17_b4_Lok {L : Nat} {xs : Nat → Int32}  : ∀ (n : Nat)  (x2 : Int32) (x3 : Int32) (μ : XMu), XB L xs 39 4 [some (.ref 0), some (.ref 17), some (.int x2), some (.int x3)] [] μ (yC_reachedByMajority_r17_b4_L  n x2 x3 μ) := by
  intro n
  induction n with
  | zero => intro  x2 x3 μ r h; cases h
  | succ n ih => intro  x2 x3 μ; exact yC_reachedByMajority_r17_b4_ok (yC_reachedByMajority_r17_b4_L  n) ih  x2 x3 μ
def yC_reachedByMajority_r17  (μ : XMu) : XRes := yC_reachedByMajority_r17_b4_L  1000 (0 : Int32) (0 : Int32) μ
theorem yC_reachedByMajority_r17_ok {L : Nat} {xs : Nat → Int32}  (μ : XMu) : XB L xs 39 0 [some (.ref 0), some (.ref 17), none, none] [] μ (yC_reachedByMajority_r17  μ) := by
  unfold yC_reachedByMajority_r17
  refine XB.go 4 (pc' := 4) (ls' := [some (.ref 0), some (.ref 17), some (.int (0 : Int32)), some (.int (0 : Int32))]) (st' := []) (μ' := μ) rfl ?_
  exact yC_reachedByMajority_r17_b4_Lok  1000  (0 : Int32) (0 : Int32) μ
/-- LogServer.answerReads()V -/
def yC_answerReads  (μ : XMu) : XRes := (if ¬ (μ.2.1 0 9) = (3 : Int32) then some (.inl none, μ) else xbi (yC_reachedByMajority_r17 μ) (fun r2 m1 => xbv (yCa_answerReads (μ.2.1 0 12) r2 m1) (fun m3 => some (.inl none, m3))))
theorem yC_answerReads_ok {L : Nat} {xs : Nat → Int32}  (μ : XMu) : XB L xs 41 0 [some (.ref 0)] [] μ (yC_answerReads  μ) := by
  unfold yC_answerReads
  refine XB.go 3 (pc' := 5) (ls' := [some (.ref 0)]) (st' := [(.int (3 : Int32)), (.int (μ.2.1 0 9))]) (μ' := μ) rfl ?_
  refine XB.icmp (P := ¬ (μ.2.1 0 9) = (3 : Int32)) rfl rfl rfl (fun c5 => ?_) (fun c5 => ?_)
  · exact XB.fin rfl
  · refine XB.go 8 (pc' := 24) (ls' := [some (.ref 0)]) (st' := [(.ref 17), (.ref 0), (.int (μ.2.1 0 12)), (.ref 20)]) (μ' := μ) rfl ?_
    refine XB.ci rfl rfl rfl rfl rfl (yC_reachedByMajority_r17_ok μ) (fun r2 m1 => ?_)
    refine XB.cv rfl rfl rfl rfl rfl (yCa_answerReads_ok (μ.2.1 0 12) r2 m1) (fun m3 => ?_)
    exact XB.fin rfl
/-- LogServer.beat()V -/
def yC_beat_b96   (μ : XMu) : XRes := xgd (xin (μ.2.1 0 0) 7) (xgd (xin (μ.2.1 0 0) 7) (xgd (xin (μ.2.1 0 0) 7) (xbv (yC_sendToPeers (1 : Int32) (μ.1, (xuI (xuI (xuI μ.2.1 13 ((μ.2.1 0 0)).toNatClampNeg (μ.2.1 28 10)) 18 ((μ.2.1 0 0)).toNatClampNeg (μ.2.1 0 8)) 17 ((μ.2.1 0 0)).toNatClampNeg (μ.2.1 11 9)), μ.2.2)) (fun m1 => xbv (yC_answerReads m1) (fun m2 => some (.inl none, m2))))))
theorem yC_beat_b96_ok {L : Nat} {xs : Nat → Int32}  (d1 : Option Int32) (d2 : Option Int32)  (μ : XMu) : XB L xs 42 96 [some (.ref 0), (xdl d1), (xdl d2)] [] μ (yC_beat_b96   μ) := by
  unfold yC_beat_b96
  refine XB.go 8 (pc' := 114) (ls' := [some (.ref 0), (xdl d1), (xdl d2)]) (st' := [(.int (μ.2.1 28 10)), (.int (μ.2.1 0 0)), (.ref 13)]) (μ' := μ) rfl ?_
  refine XB.gd (pc' := 115) (ls' := [some (.ref 0), (xdl d1), (xdl d2)]) (st' := []) (μ' := (μ.1, (xuI μ.2.1 13 ((μ.2.1 0 0)).toNatClampNeg (μ.2.1 28 10)), μ.2.2)) rfl rfl rfl (fun hb => xbT hb) ?_
  refine XB.go 7 (pc' := 130) (ls' := [some (.ref 0), (xdl d1), (xdl d2)]) (st' := [(.int (μ.2.1 0 8)), (.int (μ.2.1 0 0)), (.ref 18)]) (μ' := (μ.1, (xuI μ.2.1 13 ((μ.2.1 0 0)).toNatClampNeg (μ.2.1 28 10)), μ.2.2)) rfl ?_
  refine XB.gd (pc' := 131) (ls' := [some (.ref 0), (xdl d1), (xdl d2)]) (st' := []) (μ' := (μ.1, (xuI (xuI μ.2.1 13 ((μ.2.1 0 0)).toNatClampNeg (μ.2.1 28 10)) 18 ((μ.2.1 0 0)).toNatClampNeg (μ.2.1 0 8)), μ.2.2)) rfl rfl rfl (fun hb => xbT hb) ?_
  refine XB.go 8 (pc' := 149) (ls' := [some (.ref 0), (xdl d1), (xdl d2)]) (st' := [(.int (μ.2.1 11 9)), (.int (μ.2.1 0 0)), (.ref 17)]) (μ' := (μ.1, (xuI (xuI μ.2.1 13 ((μ.2.1 0 0)).toNatClampNeg (μ.2.1 28 10)) 18 ((μ.2.1 0 0)).toNatClampNeg (μ.2.1 0 8)), μ.2.2)) rfl ?_
  refine XB.gd (pc' := 150) (ls' := [some (.ref 0), (xdl d1), (xdl d2)]) (st' := []) (μ' := (μ.1, (xuI (xuI (xuI μ.2.1 13 ((μ.2.1 0 0)).toNatClampNeg (μ.2.1 28 10)) 18 ((μ.2.1 0 0)).toNatClampNeg (μ.2.1 0 8)) 17 ((μ.2.1 0 0)).toNatClampNeg (μ.2.1 11 9)), μ.2.2)) rfl rfl rfl (fun hb => xbT hb) ?_
  refine XB.go 2 (pc' := 152) (ls' := [some (.ref 0), (xdl d1), (xdl d2)]) (st' := [(.int (1 : Int32)), (.ref 0)]) (μ' := (μ.1, (xuI (xuI (xuI μ.2.1 13 ((μ.2.1 0 0)).toNatClampNeg (μ.2.1 28 10)) 18 ((μ.2.1 0 0)).toNatClampNeg (μ.2.1 0 8)) 17 ((μ.2.1 0 0)).toNatClampNeg (μ.2.1 11 9)), μ.2.2)) rfl ?_
  refine XB.cv rfl rfl rfl rfl rfl (yC_sendToPeers_ok (1 : Int32) (μ.1, (xuI (xuI (xuI μ.2.1 13 ((μ.2.1 0 0)).toNatClampNeg (μ.2.1 28 10)) 18 ((μ.2.1 0 0)).toNatClampNeg (μ.2.1 0 8)) 17 ((μ.2.1 0 0)).toNatClampNeg (μ.2.1 11 9)), μ.2.2)) (fun m1 => ?_)
  refine XB.go 1 (pc' := 156) (ls' := [some (.ref 0), (xdl d1), (xdl d2)]) (st' := [(.ref 0)]) (μ' := m1) rfl ?_
  refine XB.cv rfl rfl rfl rfl rfl (yC_answerReads_ok m1) (fun m2 => ?_)
  exact XB.fin rfl
def yC_beat_b58 (k58 : Int32 → Int32 → XMu → XRes) (x1 : Int32) (x2 : Int32) (μ : XMu) : XRes := (if (7 : Int32) ≤ x2 then yC_beat_b96  μ else (if (yC_has x1 x2) = (0 : Int32) then xgd (xin x2 7) (k58 x1 (x2 + (1 : Int32)) (μ.1, (xuI μ.2.1 19 (x2).toNatClampNeg (0 : Int32)), μ.2.2)) else xbv (yLe_fallBackIfSilent x2 μ) (fun m3 => xgd (xin x2 7) (k58 x1 (x2 + (1 : Int32)) (m3.1, (xuI m3.2.1 19 (x2).toNatClampNeg (0 : Int32)), m3.2.2)))))
theorem yC_beat_b58_ok {L : Nat} {xs : Nat → Int32} (k58 : Int32 → Int32 → XMu → XRes) (hk58 : ∀  (x1 : Int32) (x2 : Int32) (μ : XMu), XB L xs 42 58 [some (.ref 0), some (.int x1), some (.int x2)] [] μ (k58 x1 x2 μ))  (x1 : Int32) (x2 : Int32) (μ : XMu) : XB L xs 42 58 [some (.ref 0), some (.int x1), some (.int x2)] [] μ (yC_beat_b58 k58 x1 x2 μ) := by
  unfold yC_beat_b58
  refine XB.go 2 (pc' := 61) (ls' := [some (.ref 0), some (.int x1), some (.int x2)]) (st' := [(.int (7 : Int32)), (.int x2)]) (μ' := μ) rfl ?_
  refine XB.icmp (P := (7 : Int32) ≤ x2) rfl rfl rfl (fun c61 => ?_) (fun c61 => ?_)
  · exact yC_beat_b96_ok  (some x1) (some x2) μ
  · refine XB.go 2 (pc' := 66) (ls' := [some (.ref 0), some (.int x1), some (.int x2)]) (st' := [(.int x2), (.int x1)]) (μ' := μ) rfl ?_
    refine XB.cp rfl rfl rfl (yC_has_ok x1 x2 μ) ?_
    refine XB.ifz (P := (yC_has x1 x2) = (0 : Int32)) rfl rfl rfl (fun c69 => ?_) (fun c69 => ?_)
    · refine XB.go 5 (pc' := 89) (ls' := [some (.ref 0), some (.int x1), some (.int x2)]) (st' := [(.int (0 : Int32)), (.int x2), (.ref 19)]) (μ' := μ) rfl ?_
      refine XB.gd (pc' := 90) (ls' := [some (.ref 0), some (.int x1), some (.int x2)]) (st' := []) (μ' := (μ.1, (xuI μ.2.1 19 (x2).toNatClampNeg (0 : Int32)), μ.2.2)) rfl rfl rfl (fun hb => xbT (xbL hb)) ?_
      refine XB.go 2 (pc' := 58) (ls' := [some (.ref 0), some (.int x1), some (.int (x2 + (1 : Int32)))]) (st' := []) (μ' := (μ.1, (xuI μ.2.1 19 (x2).toNatClampNeg (0 : Int32)), μ.2.2)) rfl ?_
      exact hk58  x1 (x2 + (1 : Int32)) (μ.1, (xuI μ.2.1 19 (x2).toNatClampNeg (0 : Int32)), μ.2.2)
    · refine XB.go 3 (pc' := 77) (ls' := [some (.ref 0), some (.int x1), some (.int x2)]) (st' := [(.int x2), (.ref 11)]) (μ' := μ) rfl ?_
      refine XB.cv rfl rfl rfl rfl rfl (yLe_fallBackIfSilent_ok x2 μ) (fun m3 => ?_)
      refine XB.go 5 (pc' := 89) (ls' := [some (.ref 0), some (.int x1), some (.int x2)]) (st' := [(.int (0 : Int32)), (.int x2), (.ref 19)]) (μ' := m3) rfl ?_
      refine XB.gd (pc' := 90) (ls' := [some (.ref 0), some (.int x1), some (.int x2)]) (st' := []) (μ' := (m3.1, (xuI m3.2.1 19 (x2).toNatClampNeg (0 : Int32)), m3.2.2)) rfl rfl rfl (fun hb => xbT (xbL hb)) ?_
      refine XB.go 2 (pc' := 58) (ls' := [some (.ref 0), some (.int x1), some (.int (x2 + (1 : Int32)))]) (st' := []) (μ' := (m3.1, (xuI m3.2.1 19 (x2).toNatClampNeg (0 : Int32)), m3.2.2)) rfl ?_
      exact hk58  x1 (x2 + (1 : Int32)) (m3.1, (xuI m3.2.1 19 (x2).toNatClampNeg (0 : Int32)), m3.2.2)
def yC_beat_b58_L  : Nat → Int32 → Int32 → XMu → XRes
  | 0 => fun _ _ _ => none
  | n + 1 => yC_beat_b58 (yC_beat_b58_L  n)
theorem yC_beat_b58_Lok {L : Nat} {xs : Nat → Int32}  : ∀ (n : Nat)  (x1 : Int32) (x2 : Int32) (μ : XMu), XB L xs 42 58 [some (.ref 0), some (.int x1), some (.int x2)] [] μ (yC_beat_b58_L  n x1 x2 μ) := by
  intro n
  induction n with
  | zero => intro  x1 x2 μ r h; cases h
  | succ n ih => intro  x1 x2 μ; exact yC_beat_b58_ok (yC_beat_b58_L  n) ih  x1 x2 μ
def yC_beat_b27   (μ : XMu) : XRes := yC_beat_b58_L  1000 (yC_peers (μ.1, (xuI (xuI μ.2.1 0 14 ((μ.2.1 0 8) + (10 : Int32))) 11 9 ((μ.2.1 11 9) + (1 : Int32))), μ.2.2)) (0 : Int32) (μ.1, (xuI (xuI μ.2.1 0 14 ((μ.2.1 0 8) + (10 : Int32))) 11 9 ((μ.2.1 11 9) + (1 : Int32))), μ.2.2)
theorem yC_beat_b27_ok {L : Nat} {xs : Nat → Int32}  (d1 : Option Int32) (d2 : Option Int32)  (μ : XMu) : XB L xs 42 27 [some (.ref 0), (xdl d1), (xdl d2)] [] μ (yC_beat_b27   μ) := by
  unfold yC_beat_b27
  refine XB.go 14 (pc' := 52) (ls' := [some (.ref 0), (xdl d1), (xdl d2)]) (st' := [(.ref 0)]) (μ' := (μ.1, (xuI (xuI μ.2.1 0 14 ((μ.2.1 0 8) + (10 : Int32))) 11 9 ((μ.2.1 11 9) + (1 : Int32))), μ.2.2)) rfl ?_
  refine XB.cp rfl rfl rfl (yC_peers_ok (μ.1, (xuI (xuI μ.2.1 0 14 ((μ.2.1 0 8) + (10 : Int32))) 11 9 ((μ.2.1 11 9) + (1 : Int32))), μ.2.2)) ?_
  refine XB.go 3 (pc' := 58) (ls' := [some (.ref 0), some (.int (yC_peers (μ.1, (xuI (xuI μ.2.1 0 14 ((μ.2.1 0 8) + (10 : Int32))) 11 9 ((μ.2.1 11 9) + (1 : Int32))), μ.2.2))), some (.int (0 : Int32))]) (st' := []) (μ' := (μ.1, (xuI (xuI μ.2.1 0 14 ((μ.2.1 0 8) + (10 : Int32))) 11 9 ((μ.2.1 11 9) + (1 : Int32))), μ.2.2)) rfl ?_
  exact yC_beat_b58_Lok  1000  (yC_peers (μ.1, (xuI (xuI μ.2.1 0 14 ((μ.2.1 0 8) + (10 : Int32))) 11 9 ((μ.2.1 11 9) + (1 : Int32))), μ.2.2)) (0 : Int32) (μ.1, (xuI (xuI μ.2.1 0 14 ((μ.2.1 0 8) + (10 : Int32))) 11 9 ((μ.2.1 11 9) + (1 : Int32))), μ.2.2)
def yC_beat  (μ : XMu) : XRes := (if (μ.2.1 0 16) = (-1 : Int32) then yC_beat_b27  μ else (if ((μ.2.1 0 8) - (μ.2.1 0 17)) ≤ (50 : Int32) then yC_beat_b27  μ else yC_beat_b27  (μ.1, (xuI μ.2.1 0 16 (-1 : Int32)), μ.2.2)))
theorem yC_beat_ok {L : Nat} {xs : Nat → Int32}  (μ : XMu) : XB L xs 42 0 [some (.ref 0), none, none] [] μ (yC_beat  μ) := by
  unfold yC_beat
  refine XB.go 3 (pc' := 5) (ls' := [some (.ref 0), none, none]) (st' := [(.int (-1 : Int32)), (.int (μ.2.1 0 16))]) (μ' := μ) rfl ?_
  refine XB.icmp (P := (μ.2.1 0 16) = (-1 : Int32)) rfl rfl rfl (fun c5 => ?_) (fun c5 => ?_)
  · exact yC_beat_b27_ok  (none) (none) μ
  · refine XB.go 6 (pc' := 19) (ls' := [some (.ref 0), none, none]) (st' := [(.int (50 : Int32)), (.int ((μ.2.1 0 8) - (μ.2.1 0 17)))]) (μ' := μ) rfl ?_
    refine XB.icmp (P := ((μ.2.1 0 8) - (μ.2.1 0 17)) ≤ (50 : Int32)) rfl rfl rfl (fun c19 => ?_) (fun c19 => ?_)
    · exact yC_beat_b27_ok  (none) (none) μ
    · refine XB.go 3 (pc' := 27) (ls' := [some (.ref 0), none, none]) (st' := []) (μ' := (μ.1, (xuI μ.2.1 0 16 (-1 : Int32)), μ.2.2)) rfl ?_
      exact yC_beat_b27_ok  (none) (none) (μ.1, (xuI μ.2.1 0 16 (-1 : Int32)), μ.2.2)
/-- LogServer.takeLead()V -/
def yC_takeLead  (μ : XMu) : XRes := (if ¬ (yDi_hasRoom μ) = (0 : Int32) then xbv (yLe_begin ((μ.2.1 28 9) + (1 : Int32)) (μ.2.1 0 8) (μ.1, (xuI (xuI (xuI μ.2.1 0 9 (3 : Int32)) 0 10 (μ.2.1 0 0)) 0 16 (-1 : Int32)), μ.2.2)) (fun m1 => xbv (yDi_write (m1.2.1 28 3) (0 : Int32) (0 : Int32) m1) (fun m2 => xbv (yC_beat m2) (fun m3 => some (.inl none, m3)))) else xbv (yC_stepDown (μ.2.1 28 3) (-1 : Int32) μ) (fun m4 => some (.inl none, m4)))
theorem yC_takeLead_ok {L : Nat} {xs : Nat → Int32}  (μ : XMu) : XB L xs 43 0 [some (.ref 0)] [] μ (yC_takeLead  μ) := by
  unfold yC_takeLead
  refine XB.go 2 (pc' := 4) (ls' := [some (.ref 0)]) (st' := [(.ref 28)]) (μ' := μ) rfl ?_
  refine XB.cp rfl rfl rfl (yDi_hasRoom_ok μ) ?_
  refine XB.ifz (P := ¬ (yDi_hasRoom μ) = (0 : Int32)) rfl rfl rfl (fun c7 => ?_) (fun c7 => ?_)
  · refine XB.go 19 (pc' := 58) (ls' := [some (.ref 0)]) (st' := [(.int (μ.2.1 0 8)), (.int ((μ.2.1 28 9) + (1 : Int32))), (.ref 11)]) (μ' := (μ.1, (xuI (xuI (xuI μ.2.1 0 9 (3 : Int32)) 0 10 (μ.2.1 0 0)) 0 16 (-1 : Int32)), μ.2.2)) rfl ?_
    refine XB.cv rfl rfl rfl rfl rfl (yLe_begin_ok ((μ.2.1 28 9) + (1 : Int32)) (μ.2.1 0 8) (μ.1, (xuI (xuI (xuI μ.2.1 0 9 (3 : Int32)) 0 10 (μ.2.1 0 0)) 0 16 (-1 : Int32)), μ.2.2)) (fun m1 => ?_)
    refine XB.go 7 (pc' := 74) (ls' := [some (.ref 0)]) (st' := [(.int (0 : Int32)), (.int (0 : Int32)), (.int (m1.2.1 28 3)), (.ref 28)]) (μ' := m1) rfl ?_
    refine XB.cv rfl rfl rfl rfl rfl (yDi_write_ok (m1.2.1 28 3) (0 : Int32) (0 : Int32) m1) (fun m2 => ?_)
    refine XB.go 1 (pc' := 78) (ls' := [some (.ref 0)]) (st' := [(.ref 0)]) (μ' := m2) rfl ?_
    refine XB.cv rfl rfl rfl rfl rfl (yC_beat_ok m2) (fun m3 => ?_)
    exact XB.fin rfl
  · refine XB.go 5 (pc' := 19) (ls' := [some (.ref 0)]) (st' := [(.int (-1 : Int32)), (.int (μ.2.1 28 3)), (.ref 0)]) (μ' := μ) rfl ?_
    refine XB.cv rfl rfl rfl rfl rfl (yC_stepDown_ok (μ.2.1 28 3) (-1 : Int32) μ) (fun m4 => ?_)
    exact XB.fin rfl
/-- LogServer$Deeds.slotOf(I)I -/
def yDe_slotOf (a0 : Int32) : Int32 := (a0 &&& (63 : Int32))
theorem yDe_slotOf_ok {L : Nat} {xs : Nat → Int32} (a0 : Int32) (μ : XMu) : XB L xs 44 0 [some (.int a0)] [] μ (some (.inl (some (.int (yDe_slotOf a0))), μ)) := by
  unfold yDe_slotOf
  refine XB.go 3 (pc' := 4) (ls' := [some (.int a0)]) (st' := [(.int (a0 &&& (63 : Int32)))]) (μ' := μ) rfl ?_
  exact XB.fin rfl
/-- LogServer$Deeds.add(II)V -/
def yDe_add (a1 : Int32) (a2 : Int32) (μ : XMu) : XRes := xgd (xin (yDe_slotOf (μ.2.1 25 2)) 64) (xgd (xin (yDe_slotOf (μ.2.1 25 2)) 64) (some (.inl none, (μ.1, (xuI (xuI (xuI μ.2.1 26 ((yDe_slotOf (μ.2.1 25 2))).toNatClampNeg a1) 27 ((yDe_slotOf (μ.2.1 25 2))).toNatClampNeg a2) 25 2 ((μ.2.1 25 2) + (1 : Int32))), μ.2.2))))
theorem yDe_add_ok {L : Nat} {xs : Nat → Int32} (a1 : Int32) (a2 : Int32) (μ : XMu) : XB L xs 45 0 [some (.ref 25), some (.int a1), some (.int a2), none] [] μ (yDe_add a1 a2 μ) := by
  unfold yDe_add
  refine XB.go 2 (pc' := 4) (ls' := [some (.ref 25), some (.int a1), some (.int a2), none]) (st' := [(.int (μ.2.1 25 2))]) (μ' := μ) rfl ?_
  refine XB.cp rfl rfl rfl (yDe_slotOf_ok (μ.2.1 25 2) μ) ?_
  refine XB.go 5 (pc' := 14) (ls' := [some (.ref 25), some (.int a1), some (.int a2), some (.int (yDe_slotOf (μ.2.1 25 2)))]) (st' := [(.int a1), (.int (yDe_slotOf (μ.2.1 25 2))), (.ref 26)]) (μ' := μ) rfl ?_
  refine XB.gd (pc' := 15) (ls' := [some (.ref 25), some (.int a1), some (.int a2), some (.int (yDe_slotOf (μ.2.1 25 2)))]) (st' := []) (μ' := (μ.1, (xuI μ.2.1 26 ((yDe_slotOf (μ.2.1 25 2))).toNatClampNeg a1), μ.2.2)) rfl rfl rfl (fun hb => xbT hb) ?_
  refine XB.go 4 (pc' := 21) (ls' := [some (.ref 25), some (.int a1), some (.int a2), some (.int (yDe_slotOf (μ.2.1 25 2)))]) (st' := [(.int a2), (.int (yDe_slotOf (μ.2.1 25 2))), (.ref 27)]) (μ' := (μ.1, (xuI μ.2.1 26 ((yDe_slotOf (μ.2.1 25 2))).toNatClampNeg a1), μ.2.2)) rfl ?_
  refine XB.gd (pc' := 22) (ls' := [some (.ref 25), some (.int a1), some (.int a2), some (.int (yDe_slotOf (μ.2.1 25 2)))]) (st' := []) (μ' := (μ.1, (xuI (xuI μ.2.1 26 ((yDe_slotOf (μ.2.1 25 2))).toNatClampNeg a1) 27 ((yDe_slotOf (μ.2.1 25 2))).toNatClampNeg a2), μ.2.2)) rfl rfl rfl (fun hb => xbT hb) ?_
  refine XB.go 6 (pc' := 32) (ls' := [some (.ref 25), some (.int a1), some (.int a2), some (.int (yDe_slotOf (μ.2.1 25 2)))]) (st' := []) (μ' := (μ.1, (xuI (xuI (xuI μ.2.1 26 ((yDe_slotOf (μ.2.1 25 2))).toNatClampNeg a1) 27 ((yDe_slotOf (μ.2.1 25 2))).toNatClampNeg a2) 25 2 ((μ.2.1 25 2) + (1 : Int32))), μ.2.2)) rfl ?_
  exact XB.fin rfl
/-- LogServer$Calls.answerCommands(ILLogServer$Disk;)V -/
def yCa_answerCommands_b2 (k2 : Int32 → Int32 → XMu → XRes) (x1 : Int32) (x3 : Int32) (μ : XMu) : XRes := (if (32 : Int32) ≤ x3 then some (.inl none, μ) else (if (μ.2.1 20 4) ≤ x3 then some (.inl none, μ) else xgd (xin x3 32) ((if ¬ (μ.2.1 24 (x3).toNatClampNeg) = (0 : Int32) then k2 x1 (x3 + (1 : Int32)) μ else xgd (xin x3 32) ((if ¬ (μ.2.1 21 (x3).toNatClampNeg) = (0 : Int32) then k2 x1 (x3 + (1 : Int32)) μ else xgd (xin x3 32) ((if x1 < (μ.2.1 22 (x3).toNatClampNeg) then k2 x1 (x3 + (1 : Int32)) μ else xgd (xin x3 32) (xbi (yDi_termAt (μ.2.1 22 (x3).toNatClampNeg) μ) (fun r2 m1 => xgd (xin x3 32) ((if ¬ r2 = (m1.2.1 23 (x3).toNatClampNeg) then xgd (xin x3 32) (k2 x1 (x3 + (1 : Int32)) (m1.1, (xuI m1.2.1 24 (x3).toNatClampNeg (2 : Int32)), m1.2.2)) else xgd (xin x3 32) (k2 x1 (x3 + (1 : Int32)) (m1.1, (xuI m1.2.1 24 (x3).toNatClampNeg (1 : Int32)), m1.2.2))))))))))))))
theorem yCa_answerCommands_b2_ok {L : Nat} {xs : Nat → Int32} (k2 : Int32 → Int32 → XMu → XRes) (hk2 : ∀  (x1 : Int32) (x3 : Int32) (μ : XMu), XB L xs 46 2 [some (.ref 20), some (.int x1), some (.ref 28), some (.int x3)] [] μ (k2 x1 x3 μ))  (x1 : Int32) (x3 : Int32) (μ : XMu) : XB L xs 46 2 [some (.ref 20), some (.int x1), some (.ref 28), some (.int x3)] [] μ (yCa_answerCommands_b2 k2 x1 x3 μ) := by
  unfold yCa_answerCommands_b2
  refine XB.go 2 (pc' := 5) (ls' := [some (.ref 20), some (.int x1), some (.ref 28), some (.int x3)]) (st' := [(.int (32 : Int32)), (.int x3)]) (μ' := μ) rfl ?_
  refine XB.icmp (P := (32 : Int32) ≤ x3) rfl rfl rfl (fun c5 => ?_) (fun c5 => ?_)
  · exact XB.fin rfl
  · refine XB.go 3 (pc' := 13) (ls' := [some (.ref 20), some (.int x1), some (.ref 28), some (.int x3)]) (st' := [(.int (μ.2.1 20 4)), (.int x3)]) (μ' := μ) rfl ?_
    refine XB.icmp (P := (μ.2.1 20 4) ≤ x3) rfl rfl rfl (fun c13 => ?_) (fun c13 => ?_)
    · exact XB.fin rfl
    · refine XB.go 3 (pc' := 21) (ls' := [some (.ref 20), some (.int x1), some (.ref 28), some (.int x3)]) (st' := [(.int x3), (.ref 24)]) (μ' := μ) rfl ?_
      refine XB.gd (pc' := 22) (ls' := [some (.ref 20), some (.int x1), some (.ref 28), some (.int x3)]) (st' := [(.int (μ.2.1 24 (x3).toNatClampNeg))]) (μ' := μ) rfl rfl rfl (fun hb => xbT hb) ?_
      refine XB.ifz (P := ¬ (μ.2.1 24 (x3).toNatClampNeg) = (0 : Int32)) rfl rfl rfl (fun c22 => ?_) (fun c22 => ?_)
      · refine XB.go 2 (pc' := 2) (ls' := [some (.ref 20), some (.int x1), some (.ref 28), some (.int (x3 + (1 : Int32)))]) (st' := []) (μ' := μ) rfl ?_
        exact hk2  x1 (x3 + (1 : Int32)) μ
      · refine XB.go 3 (pc' := 30) (ls' := [some (.ref 20), some (.int x1), some (.ref 28), some (.int x3)]) (st' := [(.int x3), (.ref 21)]) (μ' := μ) rfl ?_
        refine XB.gd (pc' := 31) (ls' := [some (.ref 20), some (.int x1), some (.ref 28), some (.int x3)]) (st' := [(.int (μ.2.1 21 (x3).toNatClampNeg))]) (μ' := μ) rfl rfl rfl (fun hb => xbT hb) ?_
        refine XB.ifz (P := ¬ (μ.2.1 21 (x3).toNatClampNeg) = (0 : Int32)) rfl rfl rfl (fun c31 => ?_) (fun c31 => ?_)
        · refine XB.go 2 (pc' := 2) (ls' := [some (.ref 20), some (.int x1), some (.ref 28), some (.int (x3 + (1 : Int32)))]) (st' := []) (μ' := μ) rfl ?_
          exact hk2  x1 (x3 + (1 : Int32)) μ
        · refine XB.go 3 (pc' := 39) (ls' := [some (.ref 20), some (.int x1), some (.ref 28), some (.int x3)]) (st' := [(.int x3), (.ref 22)]) (μ' := μ) rfl ?_
          refine XB.gd (pc' := 40) (ls' := [some (.ref 20), some (.int x1), some (.ref 28), some (.int x3)]) (st' := [(.int (μ.2.1 22 (x3).toNatClampNeg))]) (μ' := μ) rfl rfl rfl (fun hb => xbT hb) ?_
          refine XB.go 1 (pc' := 41) (ls' := [some (.ref 20), some (.int x1), some (.ref 28), some (.int x3)]) (st' := [(.int x1), (.int (μ.2.1 22 (x3).toNatClampNeg))]) (μ' := μ) rfl ?_
          refine XB.icmp (P := x1 < (μ.2.1 22 (x3).toNatClampNeg)) rfl rfl rfl (fun c41 => ?_) (fun c41 => ?_)
          · refine XB.go 2 (pc' := 2) (ls' := [some (.ref 20), some (.int x1), some (.ref 28), some (.int (x3 + (1 : Int32)))]) (st' := []) (μ' := μ) rfl ?_
            exact hk2  x1 (x3 + (1 : Int32)) μ
          · refine XB.go 7 (pc' := 55) (ls' := [some (.ref 20), some (.int x1), some (.ref 28), some (.int x3)]) (st' := [(.int x3), (.ref 22), (.ref 28), (.int x3), (.ref 24)]) (μ' := μ) rfl ?_
            refine XB.gd (pc' := 56) (ls' := [some (.ref 20), some (.int x1), some (.ref 28), some (.int x3)]) (st' := [(.int (μ.2.1 22 (x3).toNatClampNeg)), (.ref 28), (.int x3), (.ref 24)]) (μ' := μ) rfl rfl rfl (fun hb => xbT hb) ?_
            refine XB.ci rfl rfl rfl rfl rfl (yDi_termAt_ok (μ.2.1 22 (x3).toNatClampNeg) μ) (fun r2 m1 => ?_)
            refine XB.go 3 (pc' := 64) (ls' := [some (.ref 20), some (.int x1), some (.ref 28), some (.int x3)]) (st' := [(.int x3), (.ref 23), (.int r2), (.int x3), (.ref 24)]) (μ' := m1) rfl ?_
            refine XB.gd (pc' := 65) (ls' := [some (.ref 20), some (.int x1), some (.ref 28), some (.int x3)]) (st' := [(.int (m1.2.1 23 (x3).toNatClampNeg)), (.int r2), (.int x3), (.ref 24)]) (μ' := m1) rfl rfl rfl (fun hb => xbT hb) ?_
            refine XB.icmp (P := ¬ r2 = (m1.2.1 23 (x3).toNatClampNeg)) rfl rfl rfl (fun c65 => ?_) (fun c65 => ?_)
            · refine XB.go 1 (pc' := 73) (ls' := [some (.ref 20), some (.int x1), some (.ref 28), some (.int x3)]) (st' := [(.int (2 : Int32)), (.int x3), (.ref 24)]) (μ' := m1) rfl ?_
              refine XB.gd (pc' := 74) (ls' := [some (.ref 20), some (.int x1), some (.ref 28), some (.int x3)]) (st' := []) (μ' := (m1.1, (xuI m1.2.1 24 (x3).toNatClampNeg (2 : Int32)), m1.2.2)) rfl rfl rfl (fun hb => xbT hb) ?_
              refine XB.go 2 (pc' := 2) (ls' := [some (.ref 20), some (.int x1), some (.ref 28), some (.int (x3 + (1 : Int32)))]) (st' := []) (μ' := (m1.1, (xuI m1.2.1 24 (x3).toNatClampNeg (2 : Int32)), m1.2.2)) rfl ?_
              exact hk2  x1 (x3 + (1 : Int32)) (m1.1, (xuI m1.2.1 24 (x3).toNatClampNeg (2 : Int32)), m1.2.2)
            · refine XB.go 2 (pc' := 73) (ls' := [some (.ref 20), some (.int x1), some (.ref 28), some (.int x3)]) (st' := [(.int (1 : Int32)), (.int x3), (.ref 24)]) (μ' := m1) rfl ?_
              refine XB.gd (pc' := 74) (ls' := [some (.ref 20), some (.int x1), some (.ref 28), some (.int x3)]) (st' := []) (μ' := (m1.1, (xuI m1.2.1 24 (x3).toNatClampNeg (1 : Int32)), m1.2.2)) rfl rfl rfl (fun hb => xbT hb) ?_
              refine XB.go 2 (pc' := 2) (ls' := [some (.ref 20), some (.int x1), some (.ref 28), some (.int (x3 + (1 : Int32)))]) (st' := []) (μ' := (m1.1, (xuI m1.2.1 24 (x3).toNatClampNeg (1 : Int32)), m1.2.2)) rfl ?_
              exact hk2  x1 (x3 + (1 : Int32)) (m1.1, (xuI m1.2.1 24 (x3).toNatClampNeg (1 : Int32)), m1.2.2)
def yCa_answerCommands_b2_L  : Nat → Int32 → Int32 → XMu → XRes
  | 0 => fun _ _ _ => none
  | n + 1 => yCa_answerCommands_b2 (yCa_answerCommands_b2_L  n)
theorem yCa_answerCommands_b2_Lok {L : Nat} {xs : Nat → Int32}  : ∀ (n : Nat)  (x1 : Int32) (x3 : Int32) (μ : XMu), XB L xs 46 2 [some (.ref 20), some (.int x1), some (.ref 28), some (.int x3)] [] μ (yCa_answerCommands_b2_L  n x1 x3 μ) := by
  intro n
  induction n with
  | zero => intro  x1 x3 μ r h; cases h
  | succ n ih => intro  x1 x3 μ; exact yCa_answerCommands_b2_ok (yCa_answerCommands_b2_L  n) ih  x1 x3 μ
def yCa_answerCommands (a1 : Int32) (μ : XMu) : XRes := yCa_answerCommands_b2_L  1000 a1 (0 : Int32) μ
theorem yCa_answerCommands_ok {L : Nat} {xs : Nat → Int32} (a1 : Int32) (μ : XMu) : XB L xs 46 0 [some (.ref 20), some (.int a1), some (.ref 28), none] [] μ (yCa_answerCommands a1 μ) := by
  unfold yCa_answerCommands
  refine XB.go 2 (pc' := 2) (ls' := [some (.ref 20), some (.int a1), some (.ref 28), some (.int (0 : Int32))]) (st' := []) (μ' := μ) rfl ?_
  exact yCa_answerCommands_b2_Lok  1000  a1 (0 : Int32) μ
/-- LogServer.applyCommitted()V -/
def yC_applyCommitted_b49   (μ : XMu) : XRes := xbv (yCa_answerCommands (μ.2.1 0 11) (μ.1, (xuI μ.2.1 0 12 (μ.2.1 0 11)), μ.2.2)) (fun m1 => xbv (yC_answerReads m1) (fun m2 => some (.inl none, m2)))
theorem yC_applyCommitted_b49_ok {L : Nat} {xs : Nat → Int32}  (d1 : Option Int32)  (μ : XMu) : XB L xs 47 49 [some (.ref 0), (xdl d1)] [] μ (yC_applyCommitted_b49   μ) := by
  unfold yC_applyCommitted_b49
  refine XB.go 10 (pc' := 69) (ls' := [some (.ref 0), (xdl d1)]) (st' := [(.ref 28), (.int (μ.2.1 0 11)), (.ref 20)]) (μ' := (μ.1, (xuI μ.2.1 0 12 (μ.2.1 0 11)), μ.2.2)) rfl ?_
  refine XB.cv rfl rfl rfl rfl rfl (yCa_answerCommands_ok (μ.2.1 0 11) (μ.1, (xuI μ.2.1 0 12 (μ.2.1 0 11)), μ.2.2)) (fun m1 => ?_)
  refine XB.go 1 (pc' := 73) (ls' := [some (.ref 0), (xdl d1)]) (st' := [(.ref 0)]) (μ' := m1) rfl ?_
  refine XB.cv rfl rfl rfl rfl rfl (yC_answerReads_ok m1) (fun m2 => ?_)
  exact XB.fin rfl
def yC_applyCommitted_b7 (k7 : Int32 → XMu → XRes) (x1 : Int32) (μ : XMu) : XRes := (if (μ.2.1 0 11) < x1 then yC_applyCommitted_b49  μ else xbi (yDi_kindAt x1 μ) (fun r4 m3 => (if ¬ r4 = (2 : Int32) then k7 (x1 + (1 : Int32)) m3 else xbi (yDi_valueAt x1 m3) (fun r6 m5 => xbv (yDe_add x1 r6 m5) (fun m7 => k7 (x1 + (1 : Int32)) m7)))))
theorem yC_applyCommitted_b7_ok {L : Nat} {xs : Nat → Int32} (k7 : Int32 → XMu → XRes) (hk7 : ∀  (x1 : Int32) (μ : XMu), XB L xs 47 7 [some (.ref 0), some (.int x1)] [] μ (k7 x1 μ))  (x1 : Int32) (μ : XMu) : XB L xs 47 7 [some (.ref 0), some (.int x1)] [] μ (yC_applyCommitted_b7 k7 x1 μ) := by
  unfold yC_applyCommitted_b7
  refine XB.go 3 (pc' := 12) (ls' := [some (.ref 0), some (.int x1)]) (st' := [(.int (μ.2.1 0 11)), (.int x1)]) (μ' := μ) rfl ?_
  refine XB.icmp (P := (μ.2.1 0 11) < x1) rfl rfl rfl (fun c12 => ?_) (fun c12 => ?_)
  · exact yC_applyCommitted_b49_ok  (some x1) μ
  · refine XB.go 3 (pc' := 20) (ls' := [some (.ref 0), some (.int x1)]) (st' := [(.int x1), (.ref 28)]) (μ' := μ) rfl ?_
    refine XB.ci rfl rfl rfl rfl rfl (yDi_kindAt_ok x1 μ) (fun r4 m3 => ?_)
    refine XB.go 1 (pc' := 24) (ls' := [some (.ref 0), some (.int x1)]) (st' := [(.int (2 : Int32)), (.int r4)]) (μ' := m3) rfl ?_
    refine XB.icmp (P := ¬ r4 = (2 : Int32)) rfl rfl rfl (fun c24 => ?_) (fun c24 => ?_)
    · refine XB.go 2 (pc' := 7) (ls' := [some (.ref 0), some (.int (x1 + (1 : Int32)))]) (st' := []) (μ' := m3) rfl ?_
      exact hk7  (x1 + (1 : Int32)) m3
    · refine XB.go 6 (pc' := 37) (ls' := [some (.ref 0), some (.int x1)]) (st' := [(.int x1), (.ref 28), (.int x1), (.ref 25)]) (μ' := m3) rfl ?_
      refine XB.ci rfl rfl rfl rfl rfl (yDi_valueAt_ok x1 m3) (fun r6 m5 => ?_)
      refine XB.cv rfl rfl rfl rfl rfl (yDe_add_ok x1 r6 m5) (fun m7 => ?_)
      refine XB.go 2 (pc' := 7) (ls' := [some (.ref 0), some (.int (x1 + (1 : Int32)))]) (st' := []) (μ' := m7) rfl ?_
      exact hk7  (x1 + (1 : Int32)) m7
def yC_applyCommitted_b7_L  : Nat → Int32 → XMu → XRes
  | 0 => fun _ _ => none
  | n + 1 => yC_applyCommitted_b7 (yC_applyCommitted_b7_L  n)
theorem yC_applyCommitted_b7_Lok {L : Nat} {xs : Nat → Int32}  : ∀ (n : Nat)  (x1 : Int32) (μ : XMu), XB L xs 47 7 [some (.ref 0), some (.int x1)] [] μ (yC_applyCommitted_b7_L  n x1 μ) := by
  intro n
  induction n with
  | zero => intro  x1 μ r h; cases h
  | succ n ih => intro  x1 μ; exact yC_applyCommitted_b7_ok (yC_applyCommitted_b7_L  n) ih  x1 μ
def yC_applyCommitted  (μ : XMu) : XRes := yC_applyCommitted_b7_L  1000 ((μ.2.1 0 12) + (1 : Int32)) μ
theorem yC_applyCommitted_ok {L : Nat} {xs : Nat → Int32}  (μ : XMu) : XB L xs 47 0 [some (.ref 0), none] [] μ (yC_applyCommitted  μ) := by
  unfold yC_applyCommitted
  refine XB.go 5 (pc' := 7) (ls' := [some (.ref 0), some (.int ((μ.2.1 0 12) + (1 : Int32)))]) (st' := []) (μ' := μ) rfl ?_
  exact yC_applyCommitted_b7_Lok  1000  ((μ.2.1 0 12) + (1 : Int32)) μ
/-- LogServer.codeOf(III)I -/
def yC_codeOf (a0 : Int32) (a1 : Int32) (a2 : Int32) : Int32 := ((a0 ||| (a1 <<< ((7 : Int32) &&& 31))) ||| (a2 <<< ((14 : Int32) &&& 31)))
theorem yC_codeOf_ok {L : Nat} {xs : Nat → Int32} (a0 : Int32) (a1 : Int32) (a2 : Int32) (μ : XMu) : XB L xs 48 0 [some (.int a0), some (.int a1), some (.int a2)] [] μ (some (.inl (some (.int (yC_codeOf a0 a1 a2))), μ)) := by
  unfold yC_codeOf
  refine XB.go 9 (pc' := 11) (ls' := [some (.int a0), some (.int a1), some (.int a2)]) (st' := [(.int ((a0 ||| (a1 <<< ((7 : Int32) &&& 31))) ||| (a2 <<< ((14 : Int32) &&& 31))))]) (μ' := μ) rfl ?_
  exact XB.fin rfl
/-- LogServer.serversFrom([II)I -/
def yC_serversFrom_r13_b4 (k4 : Int32 → Int32 → Int32 → XMu → XRes) (x1 : Int32) (x2 : Int32) (x3 : Int32) (μ : XMu) : XRes := (if (7 : Int32) ≤ x3 then some (.inl (some (.int x2)), μ) else xgd (xin x3 7) ((if (μ.2.1 13 (x3).toNatClampNeg) < x1 then k4 x1 x2 (x3 + (1 : Int32)) μ else k4 x1 (x2 ||| (yC_bit x3)) (x3 + (1 : Int32)) μ)))
theorem yC_serversFrom_r13_b4_ok {L : Nat} {xs : Nat → Int32} (k4 : Int32 → Int32 → Int32 → XMu → XRes) (hk4 : ∀  (x1 : Int32) (x2 : Int32) (x3 : Int32) (μ : XMu), XB L xs 38 4 [some (.ref 13), some (.int x1), some (.int x2), some (.int x3)] [] μ (k4 x1 x2 x3 μ))  (x1 : Int32) (x2 : Int32) (x3 : Int32) (μ : XMu) : XB L xs 38 4 [some (.ref 13), some (.int x1), some (.int x2), some (.int x3)] [] μ (yC_serversFrom_r13_b4 k4 x1 x2 x3 μ) := by
  unfold yC_serversFrom_r13_b4
  refine XB.go 2 (pc' := 7) (ls' := [some (.ref 13), some (.int x1), some (.int x2), some (.int x3)]) (st' := [(.int (7 : Int32)), (.int x3)]) (μ' := μ) rfl ?_
  refine XB.icmp (P := (7 : Int32) ≤ x3) rfl rfl rfl (fun c7 => ?_) (fun c7 => ?_)
  · refine XB.go 1 (pc' := 31) (ls' := [some (.ref 13), some (.int x1), some (.int x2), some (.int x3)]) (st' := [(.int x2)]) (μ' := μ) rfl ?_
    exact XB.fin rfl
  · refine XB.go 2 (pc' := 12) (ls' := [some (.ref 13), some (.int x1), some (.int x2), some (.int x3)]) (st' := [(.int x3), (.ref 13)]) (μ' := μ) rfl ?_
    refine XB.gd (pc' := 13) (ls' := [some (.ref 13), some (.int x1), some (.int x2), some (.int x3)]) (st' := [(.int (μ.2.1 13 (x3).toNatClampNeg))]) (μ' := μ) rfl rfl rfl (fun hb => xbT hb) ?_
    refine XB.go 1 (pc' := 14) (ls' := [some (.ref 13), some (.int x1), some (.int x2), some (.int x3)]) (st' := [(.int x1), (.int (μ.2.1 13 (x3).toNatClampNeg))]) (μ' := μ) rfl ?_
    refine XB.icmp (P := (μ.2.1 13 (x3).toNatClampNeg) < x1) rfl rfl rfl (fun c14 => ?_) (fun c14 => ?_)
    · refine XB.go 2 (pc' := 4) (ls' := [some (.ref 13), some (.int x1), some (.int x2), some (.int (x3 + (1 : Int32)))]) (st' := []) (μ' := μ) rfl ?_
      exact hk4  x1 x2 (x3 + (1 : Int32)) μ
    · refine XB.go 2 (pc' := 19) (ls' := [some (.ref 13), some (.int x1), some (.int x2), some (.int x3)]) (st' := [(.int x3), (.int x2)]) (μ' := μ) rfl ?_
      refine XB.cp rfl rfl rfl (yC_bit_ok x3 μ) ?_
      refine XB.go 4 (pc' := 4) (ls' := [some (.ref 13), some (.int x1), some (.int (x2 ||| (yC_bit x3))), some (.int (x3 + (1 : Int32)))]) (st' := []) (μ' := μ) rfl ?_
      exact hk4  x1 (x2 ||| (yC_bit x3)) (x3 + (1 : Int32)) μ
def yC_serversFrom_r13_b4_L  : Nat → Int32 → Int32 → Int32 → XMu → XRes
  | 0 => fun _ _ _ _ => none
  | n + 1 => yC_serversFrom_r13_b4 (yC_serversFrom_r13_b4_L  n)
theorem yC_serversFrom_r13_b4_Lok {L : Nat} {xs : Nat → Int32}  : ∀ (n : Nat)  (x1 : Int32) (x2 : Int32) (x3 : Int32) (μ : XMu), XB L xs 38 4 [some (.ref 13), some (.int x1), some (.int x2), some (.int x3)] [] μ (yC_serversFrom_r13_b4_L  n x1 x2 x3 μ) := by
  intro n
  induction n with
  | zero => intro  x1 x2 x3 μ r h; cases h
  | succ n ih => intro  x1 x2 x3 μ; exact yC_serversFrom_r13_b4_ok (yC_serversFrom_r13_b4_L  n) ih  x1 x2 x3 μ
def yC_serversFrom_r13 (a1 : Int32) (μ : XMu) : XRes := yC_serversFrom_r13_b4_L  1000 a1 (0 : Int32) (0 : Int32) μ
theorem yC_serversFrom_r13_ok {L : Nat} {xs : Nat → Int32} (a1 : Int32) (μ : XMu) : XB L xs 38 0 [some (.ref 13), some (.int a1), none, none] [] μ (yC_serversFrom_r13 a1 μ) := by
  unfold yC_serversFrom_r13
  refine XB.go 4 (pc' := 4) (ls' := [some (.ref 13), some (.int a1), some (.int (0 : Int32)), some (.int (0 : Int32))]) (st' := []) (μ' := μ) rfl ?_
  exact yC_serversFrom_r13_b4_Lok  1000  a1 (0 : Int32) (0 : Int32) μ
/-- LogServer.reachedByMajority([I)I -/
def yC_reachedByMajority_r13_b4 (k4 : Int32 → Int32 → XMu → XRes) (x2 : Int32) (x3 : Int32) (μ : XMu) : XRes := (if (7 : Int32) ≤ x3 then some (.inl (some (.int x2)), μ) else xgd (xin x3 7) ((if (μ.2.1 13 (x3).toNatClampNeg) ≤ x2 then k4 x2 (x3 + (1 : Int32)) μ else xgd (xin x3 7) (xbi (yC_serversFrom_r13 (μ.2.1 13 (x3).toNatClampNeg) μ) (fun r2 m1 => (if (yC_isMajority r2 m1) = (0 : Int32) then k4 x2 (x3 + (1 : Int32)) m1 else xgd (xin x3 7) (k4 (m1.2.1 13 (x3).toNatClampNeg) (x3 + (1 : Int32)) m1)))))))
theorem yC_reachedByMajority_r13_b4_ok {L : Nat} {xs : Nat → Int32} (k4 : Int32 → Int32 → XMu → XRes) (hk4 : ∀  (x2 : Int32) (x3 : Int32) (μ : XMu), XB L xs 39 4 [some (.ref 0), some (.ref 13), some (.int x2), some (.int x3)] [] μ (k4 x2 x3 μ))  (x2 : Int32) (x3 : Int32) (μ : XMu) : XB L xs 39 4 [some (.ref 0), some (.ref 13), some (.int x2), some (.int x3)] [] μ (yC_reachedByMajority_r13_b4 k4 x2 x3 μ) := by
  unfold yC_reachedByMajority_r13_b4
  refine XB.go 2 (pc' := 7) (ls' := [some (.ref 0), some (.ref 13), some (.int x2), some (.int x3)]) (st' := [(.int (7 : Int32)), (.int x3)]) (μ' := μ) rfl ?_
  refine XB.icmp (P := (7 : Int32) ≤ x3) rfl rfl rfl (fun c7 => ?_) (fun c7 => ?_)
  · refine XB.go 1 (pc' := 42) (ls' := [some (.ref 0), some (.ref 13), some (.int x2), some (.int x3)]) (st' := [(.int x2)]) (μ' := μ) rfl ?_
    exact XB.fin rfl
  · refine XB.go 2 (pc' := 12) (ls' := [some (.ref 0), some (.ref 13), some (.int x2), some (.int x3)]) (st' := [(.int x3), (.ref 13)]) (μ' := μ) rfl ?_
    refine XB.gd (pc' := 13) (ls' := [some (.ref 0), some (.ref 13), some (.int x2), some (.int x3)]) (st' := [(.int (μ.2.1 13 (x3).toNatClampNeg))]) (μ' := μ) rfl rfl rfl (fun hb => xbT hb) ?_
    refine XB.go 1 (pc' := 14) (ls' := [some (.ref 0), some (.ref 13), some (.int x2), some (.int x3)]) (st' := [(.int x2), (.int (μ.2.1 13 (x3).toNatClampNeg))]) (μ' := μ) rfl ?_
    refine XB.icmp (P := (μ.2.1 13 (x3).toNatClampNeg) ≤ x2) rfl rfl rfl (fun c14 => ?_) (fun c14 => ?_)
    · refine XB.go 2 (pc' := 4) (ls' := [some (.ref 0), some (.ref 13), some (.int x2), some (.int (x3 + (1 : Int32)))]) (st' := []) (μ' := μ) rfl ?_
      exact hk4  x2 (x3 + (1 : Int32)) μ
    · refine XB.go 4 (pc' := 21) (ls' := [some (.ref 0), some (.ref 13), some (.int x2), some (.int x3)]) (st' := [(.int x3), (.ref 13), (.ref 13), (.ref 0)]) (μ' := μ) rfl ?_
      refine XB.gd (pc' := 22) (ls' := [some (.ref 0), some (.ref 13), some (.int x2), some (.int x3)]) (st' := [(.int (μ.2.1 13 (x3).toNatClampNeg)), (.ref 13), (.ref 0)]) (μ' := μ) rfl rfl rfl (fun hb => xbT hb) ?_
      refine XB.ci rfl rfl rfl rfl rfl (yC_serversFrom_r13_ok (μ.2.1 13 (x3).toNatClampNeg) μ) (fun r2 m1 => ?_)
      refine XB.cp rfl rfl rfl (yC_isMajority_ok r2 m1) ?_
      refine XB.ifz (P := (yC_isMajority r2 m1) = (0 : Int32)) rfl rfl rfl (fun c28 => ?_) (fun c28 => ?_)
      · refine XB.go 2 (pc' := 4) (ls' := [some (.ref 0), some (.ref 13), some (.int x2), some (.int (x3 + (1 : Int32)))]) (st' := []) (μ' := m1) rfl ?_
        exact hk4  x2 (x3 + (1 : Int32)) m1
      · refine XB.go 2 (pc' := 33) (ls' := [some (.ref 0), some (.ref 13), some (.int x2), some (.int x3)]) (st' := [(.int x3), (.ref 13)]) (μ' := m1) rfl ?_
        refine XB.gd (pc' := 34) (ls' := [some (.ref 0), some (.ref 13), some (.int x2), some (.int x3)]) (st' := [(.int (m1.2.1 13 (x3).toNatClampNeg))]) (μ' := m1) rfl rfl rfl (fun hb => xbT hb) ?_
        refine XB.go 3 (pc' := 4) (ls' := [some (.ref 0), some (.ref 13), some (.int (m1.2.1 13 (x3).toNatClampNeg)), some (.int (x3 + (1 : Int32)))]) (st' := []) (μ' := m1) rfl ?_
        exact hk4  (m1.2.1 13 (x3).toNatClampNeg) (x3 + (1 : Int32)) m1
def yC_reachedByMajority_r13_b4_L  : Nat → Int32 → Int32 → XMu → XRes
  | 0 => fun _ _ _ => none
  | n + 1 => yC_reachedByMajority_r13_b4 (yC_reachedByMajority_r13_b4_L  n)
theorem yC_reachedByMajority_r13_b4_Lok {L : Nat} {xs : Nat → Int32}  : ∀ (n : Nat)  (x2 : Int32) (x3 : Int32) (μ : XMu), XB L xs 39 4 [some (.ref 0), some (.ref 13), some (.int x2), some (.int x3)] [] μ (yC_reachedByMajority_r13_b4_L  n x2 x3 μ) := by
  intro n
  induction n with
  | zero => intro  x2 x3 μ r h; cases h
  | succ n ih => intro  x2 x3 μ; exact yC_reachedByMajority_r13_b4_ok (yC_reachedByMajority_r13_b4_L  n) ih  x2 x3 μ
def yC_reachedByMajority_r13  (μ : XMu) : XRes := yC_reachedByMajority_r13_b4_L  1000 (0 : Int32) (0 : Int32) μ
theorem yC_reachedByMajority_r13_ok {L : Nat} {xs : Nat → Int32}  (μ : XMu) : XB L xs 39 0 [some (.ref 0), some (.ref 13), none, none] [] μ (yC_reachedByMajority_r13  μ) := by
  unfold yC_reachedByMajority_r13
  refine XB.go 4 (pc' := 4) (ls' := [some (.ref 0), some (.ref 13), some (.int (0 : Int32)), some (.int (0 : Int32))]) (st' := []) (μ' := μ) rfl ?_
  exact yC_reachedByMajority_r13_b4_Lok  1000  (0 : Int32) (0 : Int32) μ
/-- LogServer.countCommitted()V -/
def yC_countCommitted_b47   (μ : XMu) : XRes := (if (μ.2.1 28 12) ≤ (μ.2.1 0 11) then (if ¬ (yC_newOf (μ.2.1 28 13)) = (0 : Int32) then (if (yDi_hasRoom μ) = (0 : Int32) then some (.inl none, μ) else xbv (yDi_write (μ.2.1 28 3) (1 : Int32) (yC_codeOf (yC_newOf (μ.2.1 28 13)) (0 : Int32) (yC_learnersOf (μ.2.1 28 13))) μ) (fun m3 => xbv (yC_sendToPeers (0 : Int32) m3) (fun m4 => some (.inl none, m4)))) else (if ¬ (yC_has (yC_oldOf (μ.2.1 28 13)) (μ.2.1 0 0)) = (0 : Int32) then some (.inl none, μ) else xbv (yC_stepDown (μ.2.1 28 3) (-1 : Int32) μ) (fun m5 => some (.inl none, m5)))) else some (.inl none, μ))
theorem yC_countCommitted_b47_ok {L : Nat} {xs : Nat → Int32}  (d1 : Option Int32) (d2 : Option Int32)  (μ : XMu) : XB L xs 49 47 [some (.ref 0), (xdl d1), (xdl d2)] [] μ (yC_countCommitted_b47   μ) := by
  unfold yC_countCommitted_b47
  refine XB.go 5 (pc' := 58) (ls' := [some (.ref 0), (xdl d1), (xdl d2)]) (st' := [(.int (μ.2.1 0 11)), (.int (μ.2.1 28 12))]) (μ' := μ) rfl ?_
  refine XB.icmp (P := (μ.2.1 28 12) ≤ (μ.2.1 0 11)) rfl rfl rfl (fun c58 => ?_) (fun c58 => ?_)
  · refine XB.go 3 (pc' := 69) (ls' := [some (.ref 0), (xdl d1), (xdl d2)]) (st' := [(.int (μ.2.1 28 13))]) (μ' := μ) rfl ?_
    refine XB.cp rfl rfl rfl (yC_newOf_ok (μ.2.1 28 13) μ) ?_
    refine XB.go 2 (pc' := 74) (ls' := [some (.ref 0), (xdl d1), some (.int (yC_newOf (μ.2.1 28 13)))]) (st' := [(.int (yC_newOf (μ.2.1 28 13)))]) (μ' := μ) (by cases d1 <;> rfl) ?_
    refine XB.ifz (P := ¬ (yC_newOf (μ.2.1 28 13)) = (0 : Int32)) rfl rfl rfl (fun c74 => ?_) (fun c74 => ?_)
    · refine XB.go 2 (pc' := 116) (ls' := [some (.ref 0), (xdl d1), some (.int (yC_newOf (μ.2.1 28 13)))]) (st' := [(.ref 28)]) (μ' := μ) rfl ?_
      refine XB.cp rfl rfl rfl (yDi_hasRoom_ok μ) ?_
      refine XB.ifz (P := (yDi_hasRoom μ) = (0 : Int32)) rfl rfl rfl (fun c119 => ?_) (fun c119 => ?_)
      · exact XB.fin rfl
      · refine XB.go 11 (pc' := 143) (ls' := [some (.ref 0), (xdl d1), some (.int (yC_newOf (μ.2.1 28 13)))]) (st' := [(.int (μ.2.1 28 13)), (.int (0 : Int32)), (.int (yC_newOf (μ.2.1 28 13))), (.int (1 : Int32)), (.int (μ.2.1 28 3)), (.ref 28)]) (μ' := μ) rfl ?_
        refine XB.cp rfl rfl rfl (yC_learnersOf_ok (μ.2.1 28 13) μ) ?_
        refine XB.cp rfl rfl rfl (yC_codeOf_ok (yC_newOf (μ.2.1 28 13)) (0 : Int32) (yC_learnersOf (μ.2.1 28 13)) μ) ?_
        refine XB.cv rfl rfl rfl rfl rfl (yDi_write_ok (μ.2.1 28 3) (1 : Int32) (yC_codeOf (yC_newOf (μ.2.1 28 13)) (0 : Int32) (yC_learnersOf (μ.2.1 28 13))) μ) (fun m3 => ?_)
        refine XB.go 2 (pc' := 154) (ls' := [some (.ref 0), (xdl d1), some (.int (yC_newOf (μ.2.1 28 13)))]) (st' := [(.int (0 : Int32)), (.ref 0)]) (μ' := m3) rfl ?_
        refine XB.cv rfl rfl rfl rfl rfl (yC_sendToPeers_ok (0 : Int32) m3) (fun m4 => ?_)
        exact XB.fin rfl
    · refine XB.go 3 (pc' := 84) (ls' := [some (.ref 0), (xdl d1), some (.int (yC_newOf (μ.2.1 28 13)))]) (st' := [(.int (μ.2.1 28 13))]) (μ' := μ) rfl ?_
      refine XB.cp rfl rfl rfl (yC_oldOf_ok (μ.2.1 28 13) μ) ?_
      refine XB.go 2 (pc' := 91) (ls' := [some (.ref 0), (xdl d1), some (.int (yC_newOf (μ.2.1 28 13)))]) (st' := [(.int (μ.2.1 0 0)), (.int (yC_oldOf (μ.2.1 28 13)))]) (μ' := μ) rfl ?_
      refine XB.cp rfl rfl rfl (yC_has_ok (yC_oldOf (μ.2.1 28 13)) (μ.2.1 0 0) μ) ?_
      refine XB.ifz (P := ¬ (yC_has (yC_oldOf (μ.2.1 28 13)) (μ.2.1 0 0)) = (0 : Int32)) rfl rfl rfl (fun c94 => ?_) (fun c94 => ?_)
      · exact XB.fin rfl
      · refine XB.go 5 (pc' := 106) (ls' := [some (.ref 0), (xdl d1), some (.int (yC_newOf (μ.2.1 28 13)))]) (st' := [(.int (-1 : Int32)), (.int (μ.2.1 28 3)), (.ref 0)]) (μ' := μ) rfl ?_
        refine XB.cv rfl rfl rfl rfl rfl (yC_stepDown_ok (μ.2.1 28 3) (-1 : Int32) μ) (fun m5 => ?_)
        refine XB.go 1 (pc' := 157) (ls' := [some (.ref 0), (xdl d1), some (.int (yC_newOf (μ.2.1 28 13)))]) (st' := []) (μ' := m5) rfl ?_
        exact XB.fin rfl
  · exact XB.fin rfl
def yC_countCommitted  (μ : XMu) : XRes := xbi (yC_reachedByMajority_r13 μ) (fun r2 m1 => (if r2 ≤ (m1.2.1 0 11) then yC_countCommitted_b47  m1 else xbi (yDi_termAt r2 m1) (fun r7 m6 => (if ¬ r7 = (m6.2.1 28 3) then yC_countCommitted_b47  m6 else xbv (yC_applyCommitted (m6.1, (xuI m6.2.1 0 11 r2), m6.2.2)) (fun m8 => yC_countCommitted_b47  m8)))))
theorem yC_countCommitted_ok {L : Nat} {xs : Nat → Int32}  (μ : XMu) : XB L xs 49 0 [some (.ref 0), none, none] [] μ (yC_countCommitted  μ) := by
  unfold yC_countCommitted
  refine XB.go 4 (pc' := 8) (ls' := [some (.ref 0), none, none]) (st' := [(.ref 13), (.ref 0)]) (μ' := μ) rfl ?_
  refine XB.ci rfl rfl rfl rfl rfl (yC_reachedByMajority_r13_ok μ) (fun r2 m1 => ?_)
  refine XB.go 4 (pc' := 17) (ls' := [some (.ref 0), some (.int r2), none]) (st' := [(.int (m1.2.1 0 11)), (.int r2)]) (μ' := m1) rfl ?_
  refine XB.icmp (P := r2 ≤ (m1.2.1 0 11)) rfl rfl rfl (fun c17 => ?_) (fun c17 => ?_)
  · exact yC_countCommitted_b47_ok  (some r2) (none) m1
  · refine XB.go 3 (pc' := 25) (ls' := [some (.ref 0), some (.int r2), none]) (st' := [(.int r2), (.ref 28)]) (μ' := m1) rfl ?_
    refine XB.ci rfl rfl rfl rfl rfl (yDi_termAt_ok r2 m1) (fun r7 m6 => ?_)
    refine XB.go 3 (pc' := 35) (ls' := [some (.ref 0), some (.int r2), none]) (st' := [(.int (m6.2.1 28 3)), (.int r7)]) (μ' := m6) rfl ?_
    refine XB.icmp (P := ¬ r7 = (m6.2.1 28 3)) rfl rfl rfl (fun c35 => ?_) (fun c35 => ?_)
    · exact yC_countCommitted_b47_ok  (some r2) (none) m6
    · refine XB.go 4 (pc' := 44) (ls' := [some (.ref 0), some (.int r2), none]) (st' := [(.ref 0)]) (μ' := (m6.1, (xuI m6.2.1 0 11 r2), m6.2.2)) rfl ?_
      refine XB.cv rfl rfl rfl rfl rfl (yC_applyCommitted_ok (m6.1, (xuI m6.2.1 0 11 r2), m6.2.2)) (fun m8 => ?_)
      exact yC_countCommitted_b47_ok  (some r2) (none) m8
/-- LogServer.sync()I -/
def yC_sync  (μ : XMu) : XRes := xbi (yMa_release μ) (fun r2 m1 => xbv (yDi_settle m1) (fun m3 => (if ¬ (m3.2.1 0 9) = (2 : Int32) then (if ¬ (m3.2.1 0 9) = (3 : Int32) then some (.inl (some (.int r2)), m3) else xgd (xin (m3.2.1 0 0) 7) (xbv (yC_countCommitted (m3.1, (xuI m3.2.1 13 ((m3.2.1 0 0)).toNatClampNeg (m3.2.1 28 10)), m3.2.2)) (fun m4 => some (.inl (some (.int r2)), m4)))) else (if (yC_isMajority ((m3.2.1 0 15) ||| (yC_bit (m3.2.1 0 0))) (m3.1, (xuI m3.2.1 0 15 ((m3.2.1 0 15) ||| (yC_bit (m3.2.1 0 0)))), m3.2.2)) = (0 : Int32) then some (.inl (some (.int r2)), (m3.1, (xuI m3.2.1 0 15 ((m3.2.1 0 15) ||| (yC_bit (m3.2.1 0 0)))), m3.2.2)) else xbv (yC_takeLead (m3.1, (xuI m3.2.1 0 15 ((m3.2.1 0 15) ||| (yC_bit (m3.2.1 0 0)))), m3.2.2)) (fun m5 => some (.inl (some (.int r2)), m5))))))
theorem yC_sync_ok {L : Nat} {xs : Nat → Int32}  (μ : XMu) : XB L xs 50 0 [some (.ref 0), none] [] μ (yC_sync  μ) := by
  unfold yC_sync
  refine XB.go 2 (pc' := 4) (ls' := [some (.ref 0), none]) (st' := [(.ref 1)]) (μ' := μ) rfl ?_
  refine XB.ci rfl rfl rfl rfl rfl (yMa_release_ok μ) (fun r2 m1 => ?_)
  refine XB.go 3 (pc' := 12) (ls' := [some (.ref 0), some (.int r2)]) (st' := [(.ref 28)]) (μ' := m1) rfl ?_
  refine XB.cv rfl rfl rfl rfl rfl (yDi_settle_ok m1) (fun m3 => ?_)
  refine XB.go 3 (pc' := 20) (ls' := [some (.ref 0), some (.int r2)]) (st' := [(.int (2 : Int32)), (.int (m3.2.1 0 9))]) (μ' := m3) rfl ?_
  refine XB.icmp (P := ¬ (m3.2.1 0 9) = (2 : Int32)) rfl rfl rfl (fun c20 => ?_) (fun c20 => ?_)
  · refine XB.go 3 (pc' := 62) (ls' := [some (.ref 0), some (.int r2)]) (st' := [(.int (3 : Int32)), (.int (m3.2.1 0 9))]) (μ' := m3) rfl ?_
    refine XB.icmp (P := ¬ (m3.2.1 0 9) = (3 : Int32)) rfl rfl rfl (fun c62 => ?_) (fun c62 => ?_)
    · refine XB.go 1 (pc' := 89) (ls' := [some (.ref 0), some (.int r2)]) (st' := [(.int r2)]) (μ' := m3) rfl ?_
      exact XB.fin rfl
    · refine XB.go 8 (pc' := 83) (ls' := [some (.ref 0), some (.int r2)]) (st' := [(.int (m3.2.1 28 10)), (.int (m3.2.1 0 0)), (.ref 13)]) (μ' := m3) rfl ?_
      refine XB.gd (pc' := 84) (ls' := [some (.ref 0), some (.int r2)]) (st' := []) (μ' := (m3.1, (xuI m3.2.1 13 ((m3.2.1 0 0)).toNatClampNeg (m3.2.1 28 10)), m3.2.2)) rfl rfl rfl (fun hb => xbT hb) ?_
      refine XB.go 1 (pc' := 85) (ls' := [some (.ref 0), some (.int r2)]) (st' := [(.ref 0)]) (μ' := (m3.1, (xuI m3.2.1 13 ((m3.2.1 0 0)).toNatClampNeg (m3.2.1 28 10)), m3.2.2)) rfl ?_
      refine XB.cv rfl rfl rfl rfl rfl (yC_countCommitted_ok (m3.1, (xuI m3.2.1 13 ((m3.2.1 0 0)).toNatClampNeg (m3.2.1 28 10)), m3.2.2)) (fun m4 => ?_)
      refine XB.go 1 (pc' := 89) (ls' := [some (.ref 0), some (.int r2)]) (st' := [(.int r2)]) (μ' := m4) rfl ?_
      exact XB.fin rfl
  · refine XB.go 5 (pc' := 32) (ls' := [some (.ref 0), some (.int r2)]) (st' := [(.int (m3.2.1 0 0)), (.int (m3.2.1 0 15)), (.ref 0)]) (μ' := m3) rfl ?_
    refine XB.cp rfl rfl rfl (yC_bit_ok (m3.2.1 0 0) m3) ?_
    refine XB.go 5 (pc' := 44) (ls' := [some (.ref 0), some (.int r2)]) (st' := [(.int ((m3.2.1 0 15) ||| (yC_bit (m3.2.1 0 0)))), (.ref 0)]) (μ' := (m3.1, (xuI m3.2.1 0 15 ((m3.2.1 0 15) ||| (yC_bit (m3.2.1 0 0)))), m3.2.2)) rfl ?_
    refine XB.cp rfl rfl rfl (yC_isMajority_ok ((m3.2.1 0 15) ||| (yC_bit (m3.2.1 0 0))) (m3.1, (xuI m3.2.1 0 15 ((m3.2.1 0 15) ||| (yC_bit (m3.2.1 0 0)))), m3.2.2)) ?_
    refine XB.ifz (P := (yC_isMajority ((m3.2.1 0 15) ||| (yC_bit (m3.2.1 0 0))) (m3.1, (xuI m3.2.1 0 15 ((m3.2.1 0 15) ||| (yC_bit (m3.2.1 0 0)))), m3.2.2)) = (0 : Int32)) rfl rfl rfl (fun c47 => ?_) (fun c47 => ?_)
    · refine XB.go 1 (pc' := 89) (ls' := [some (.ref 0), some (.int r2)]) (st' := [(.int r2)]) (μ' := (m3.1, (xuI m3.2.1 0 15 ((m3.2.1 0 15) ||| (yC_bit (m3.2.1 0 0)))), m3.2.2)) rfl ?_
      exact XB.fin rfl
    · refine XB.go 1 (pc' := 51) (ls' := [some (.ref 0), some (.int r2)]) (st' := [(.ref 0)]) (μ' := (m3.1, (xuI m3.2.1 0 15 ((m3.2.1 0 15) ||| (yC_bit (m3.2.1 0 0)))), m3.2.2)) rfl ?_
      refine XB.cv rfl rfl rfl rfl rfl (yC_takeLead_ok (m3.1, (xuI m3.2.1 0 15 ((m3.2.1 0 15) ||| (yC_bit (m3.2.1 0 0)))), m3.2.2)) (fun m5 => ?_)
      refine XB.go 2 (pc' := 89) (ls' := [some (.ref 0), some (.int r2)]) (st' := [(.int r2)]) (μ' := m5) rfl ?_
      exact XB.fin rfl
/-- LogServer.isPositive(I)Z -/
def yC_isPositive (a0 : Int32) : Int32 := (if a0 < (1 : Int32) then (0 : Int32) else (if (1000000 : Int32) < a0 then (0 : Int32) else (1 : Int32)))
theorem yC_isPositive_ok {L : Nat} {xs : Nat → Int32} (a0 : Int32) (μ : XMu) : XB L xs 51 0 [some (.int a0)] [] μ (some (.inl (some (.int (yC_isPositive a0))), μ)) := by
  unfold yC_isPositive
  refine XB.go 2 (pc' := 2) (ls' := [some (.int a0)]) (st' := [(.int (1 : Int32)), (.int a0)]) (μ' := μ) rfl ?_
  refine XB.icmpv (P := a0 < (1 : Int32)) rfl rfl rfl (fun c2 => ?_) (fun c2 => ?_)
  · refine XB.go 1 (pc' := 17) (ls' := [some (.int a0)]) (st' := [(.int (0 : Int32))]) (μ' := μ) rfl ?_
    exact XB.fin rfl
  · refine XB.go 2 (pc' := 9) (ls' := [some (.int a0)]) (st' := [(.int (1000000 : Int32)), (.int a0)]) (μ' := μ) rfl ?_
    refine XB.icmpv (P := (1000000 : Int32) < a0) rfl rfl rfl (fun c9 => ?_) (fun c9 => ?_)
    · refine XB.go 1 (pc' := 17) (ls' := [some (.int a0)]) (st' := [(.int (0 : Int32))]) (μ' := μ) rfl ?_
      exact XB.fin rfl
    · refine XB.go 2 (pc' := 17) (ls' := [some (.int a0)]) (st' := [(.int (1 : Int32))]) (μ' := μ) rfl ?_
      exact XB.fin rfl
theorem yC_isPositive_01 (a0 : Int32) : x01 (yC_isPositive a0) = true := by
  unfold yC_isPositive
  repeat (first | rfl | (exact rfl) | split)
/-- LogServer$Disk.membersUpTo(I)I -/
def yDi_membersUpTo_b2 (k2 : Int32 → XMu → XRes) (x2 : Int32) (μ : XMu) : XRes := (if x2 ≤ (μ.2.1 28 5) then some (.inl (some (.int x2)), μ) else xbi (yDi_kindAt x2 μ) (fun r2 m1 => (if r2 = (1 : Int32) then some (.inl (some (.int x2)), m1) else k2 (x2 + (-1 : Int32)) m1)))
theorem yDi_membersUpTo_b2_ok {L : Nat} {xs : Nat → Int32} (k2 : Int32 → XMu → XRes) (hk2 : ∀ (d1 : Option Int32) (x2 : Int32) (μ : XMu), XB L xs 52 2 [some (.ref 28), (xdl d1), some (.int x2)] [] μ (k2 x2 μ)) (d1 : Option Int32) (x2 : Int32) (μ : XMu) : XB L xs 52 2 [some (.ref 28), (xdl d1), some (.int x2)] [] μ (yDi_membersUpTo_b2 k2 x2 μ) := by
  unfold yDi_membersUpTo_b2
  refine XB.go 3 (pc' := 7) (ls' := [some (.ref 28), (xdl d1), some (.int x2)]) (st' := [(.int (μ.2.1 28 5)), (.int x2)]) (μ' := μ) rfl ?_
  refine XB.icmp (P := x2 ≤ (μ.2.1 28 5)) rfl rfl rfl (fun c7 => ?_) (fun c7 => ?_)
  · refine XB.go 1 (pc' := 26) (ls' := [some (.ref 28), (xdl d1), some (.int x2)]) (st' := [(.int x2)]) (μ' := μ) rfl ?_
    exact XB.fin rfl
  · refine XB.go 2 (pc' := 12) (ls' := [some (.ref 28), (xdl d1), some (.int x2)]) (st' := [(.int x2), (.ref 28)]) (μ' := μ) rfl ?_
    refine XB.ci rfl rfl rfl rfl rfl (yDi_kindAt_ok x2 μ) (fun r2 m1 => ?_)
    refine XB.go 1 (pc' := 16) (ls' := [some (.ref 28), (xdl d1), some (.int x2)]) (st' := [(.int (1 : Int32)), (.int r2)]) (μ' := m1) rfl ?_
    refine XB.icmp (P := r2 = (1 : Int32)) rfl rfl rfl (fun c16 => ?_) (fun c16 => ?_)
    · refine XB.go 1 (pc' := 26) (ls' := [some (.ref 28), (xdl d1), some (.int x2)]) (st' := [(.int x2)]) (μ' := m1) rfl ?_
      exact XB.fin rfl
    · refine XB.go 2 (pc' := 2) (ls' := [some (.ref 28), (xdl d1), some (.int (x2 + (-1 : Int32)))]) (st' := []) (μ' := m1) (by cases d1 <;> rfl) ?_
      exact hk2 (d1) (x2 + (-1 : Int32)) m1
def yDi_membersUpTo_b2_L  : Nat → Int32 → XMu → XRes
  | 0 => fun _ _ => none
  | n + 1 => yDi_membersUpTo_b2 (yDi_membersUpTo_b2_L  n)
theorem yDi_membersUpTo_b2_Lok {L : Nat} {xs : Nat → Int32}  : ∀ (n : Nat) (d1 : Option Int32) (x2 : Int32) (μ : XMu), XB L xs 52 2 [some (.ref 28), (xdl d1), some (.int x2)] [] μ (yDi_membersUpTo_b2_L  n x2 μ) := by
  intro n
  induction n with
  | zero => intro d1 x2 μ r h; cases h
  | succ n ih => intro d1 x2 μ; exact yDi_membersUpTo_b2_ok (yDi_membersUpTo_b2_L  n) ih d1 x2 μ
def yDi_membersUpTo (a1 : Int32) (μ : XMu) : XRes := yDi_membersUpTo_b2_L  1000 a1 μ
theorem yDi_membersUpTo_ok {L : Nat} {xs : Nat → Int32} (a1 : Int32) (μ : XMu) : XB L xs 52 0 [some (.ref 28), some (.int a1), none] [] μ (yDi_membersUpTo a1 μ) := by
  unfold yDi_membersUpTo
  refine XB.go 2 (pc' := 2) (ls' := [some (.ref 28), some (.int a1), some (.int a1)]) (st' := []) (μ' := μ) rfl ?_
  exact yDi_membersUpTo_b2_Lok  1000 (some a1) a1 μ
/-- LogServer$Disk.codeOfMembersAt(I)I -/
def yDi_codeOfMembersAt (a1 : Int32) (μ : XMu) : XRes := (if (yDi_holds a1 μ) = (0 : Int32) then some (.inl (some (.int (μ.2.1 28 7))), μ) else xbi (yDi_valueAt a1 μ) (fun r2 m1 => some (.inl (some (.int r2)), m1)))
theorem yDi_codeOfMembersAt_ok {L : Nat} {xs : Nat → Int32} (a1 : Int32) (μ : XMu) : XB L xs 53 0 [some (.ref 28), some (.int a1)] [] μ (yDi_codeOfMembersAt a1 μ) := by
  unfold yDi_codeOfMembersAt
  refine XB.go 2 (pc' := 2) (ls' := [some (.ref 28), some (.int a1)]) (st' := [(.int a1), (.ref 28)]) (μ' := μ) rfl ?_
  refine XB.cp rfl rfl rfl (yDi_holds_ok a1 μ) ?_
  refine XB.ifz (P := (yDi_holds a1 μ) = (0 : Int32)) rfl rfl rfl (fun c5 => ?_) (fun c5 => ?_)
  · refine XB.go 2 (pc' := 20) (ls' := [some (.ref 28), some (.int a1)]) (st' := [(.int (μ.2.1 28 7))]) (μ' := μ) rfl ?_
    exact XB.fin rfl
  · refine XB.go 2 (pc' := 10) (ls' := [some (.ref 28), some (.int a1)]) (st' := [(.int a1), (.ref 28)]) (μ' := μ) rfl ?_
    refine XB.ci rfl rfl rfl rfl rfl (yDi_valueAt_ok a1 μ) (fun r2 m1 => ?_)
    refine XB.go 1 (pc' := 20) (ls' := [some (.ref 28), some (.int a1)]) (st' := [(.int r2)]) (μ' := m1) rfl ?_
    exact XB.fin rfl
/-- LogServer$Disk.codeAt(I)I -/
def yDi_codeAt (a1 : Int32) (μ : XMu) : XRes := xbi (yDi_membersUpTo a1 μ) (fun r2 m1 => xbi (yDi_codeOfMembersAt r2 m1) (fun r4 m3 => some (.inl (some (.int r4)), m3)))
theorem yDi_codeAt_ok {L : Nat} {xs : Nat → Int32} (a1 : Int32) (μ : XMu) : XB L xs 54 0 [some (.ref 28), some (.int a1)] [] μ (yDi_codeAt a1 μ) := by
  unfold yDi_codeAt
  refine XB.go 3 (pc' := 3) (ls' := [some (.ref 28), some (.int a1)]) (st' := [(.int a1), (.ref 28), (.ref 28)]) (μ' := μ) rfl ?_
  refine XB.ci rfl rfl rfl rfl rfl (yDi_membersUpTo_ok a1 μ) (fun r2 m1 => ?_)
  refine XB.ci rfl rfl rfl rfl rfl (yDi_codeOfMembersAt_ok r2 m1) (fun r4 m3 => ?_)
  exact XB.fin rfl
/-- LogServer$Disk.dropUpTo(I)V -/
def yDi_dropUpTo_b9 (k9 : Int32 → Int32 → XMu → XRes) (x2 : Int32) (x3 : Int32) (μ : XMu) : XRes := (if ((μ.2.1 28 9) - (μ.2.1 28 5)) ≤ (x3 + x2) then some (.inl none, μ) else (if (300 : Int32) ≤ (x3 + x2) then some (.inl none, μ) else xgd (xin (x3 + x2) 300) (xgd (xin x3 300) (xgd (xin (x3 + x2) 300) (xgd (xin x3 300) (xgd (xin (x3 + x2) 300) (xgd (xin x3 300) (k9 x2 (x3 + (1 : Int32)) (μ.1, (xuI (xuI (xuI μ.2.1 29 (x3).toNatClampNeg (μ.2.1 29 ((x3 + x2)).toNatClampNeg)) 30 (x3).toNatClampNeg (μ.2.1 30 ((x3 + x2)).toNatClampNeg)) 31 (x3).toNatClampNeg (μ.2.1 31 ((x3 + x2)).toNatClampNeg)), μ.2.2)))))))))
theorem yDi_dropUpTo_b9_ok {L : Nat} {xs : Nat → Int32} (k9 : Int32 → Int32 → XMu → XRes) (hk9 : ∀ (d1 : Option Int32) (x2 : Int32) (x3 : Int32) (μ : XMu), XB L xs 55 9 [some (.ref 28), (xdl d1), some (.int x2), some (.int x3)] [] μ (k9 x2 x3 μ)) (d1 : Option Int32) (x2 : Int32) (x3 : Int32) (μ : XMu) : XB L xs 55 9 [some (.ref 28), (xdl d1), some (.int x2), some (.int x3)] [] μ (yDi_dropUpTo_b9 k9 x2 x3 μ) := by
  unfold yDi_dropUpTo_b9
  refine XB.go 8 (pc' := 21) (ls' := [some (.ref 28), (xdl d1), some (.int x2), some (.int x3)]) (st' := [(.int ((μ.2.1 28 9) - (μ.2.1 28 5))), (.int (x3 + x2))]) (μ' := μ) rfl ?_
  refine XB.icmp (P := ((μ.2.1 28 9) - (μ.2.1 28 5)) ≤ (x3 + x2)) rfl rfl rfl (fun c21 => ?_) (fun c21 => ?_)
  · exact XB.fin rfl
  · refine XB.go 4 (pc' := 30) (ls' := [some (.ref 28), (xdl d1), some (.int x2), some (.int x3)]) (st' := [(.int (300 : Int32)), (.int (x3 + x2))]) (μ' := μ) rfl ?_
    refine XB.icmp (P := (300 : Int32) ≤ (x3 + x2)) rfl rfl rfl (fun c30 => ?_) (fun c30 => ?_)
    · exact XB.fin rfl
    · refine XB.go 8 (pc' := 45) (ls' := [some (.ref 28), (xdl d1), some (.int x2), some (.int x3)]) (st' := [(.int (x3 + x2)), (.ref 29), (.int x3), (.ref 29)]) (μ' := μ) rfl ?_
      refine XB.gd (pc' := 46) (ls' := [some (.ref 28), (xdl d1), some (.int x2), some (.int x3)]) (st' := [(.int (μ.2.1 29 ((x3 + x2)).toNatClampNeg)), (.int x3), (.ref 29)]) (μ' := μ) rfl rfl rfl (fun hb => xbT hb) ?_
      refine XB.gd (pc' := 47) (ls' := [some (.ref 28), (xdl d1), some (.int x2), some (.int x3)]) (st' := []) (μ' := (μ.1, (xuI μ.2.1 29 (x3).toNatClampNeg (μ.2.1 29 ((x3 + x2)).toNatClampNeg)), μ.2.2)) rfl rfl rfl (fun hb => xbT hb) ?_
      refine XB.go 8 (pc' := 59) (ls' := [some (.ref 28), (xdl d1), some (.int x2), some (.int x3)]) (st' := [(.int (x3 + x2)), (.ref 30), (.int x3), (.ref 30)]) (μ' := (μ.1, (xuI μ.2.1 29 (x3).toNatClampNeg (μ.2.1 29 ((x3 + x2)).toNatClampNeg)), μ.2.2)) rfl ?_
      refine XB.gd (pc' := 60) (ls' := [some (.ref 28), (xdl d1), some (.int x2), some (.int x3)]) (st' := [(.int (μ.2.1 30 ((x3 + x2)).toNatClampNeg)), (.int x3), (.ref 30)]) (μ' := (μ.1, (xuI μ.2.1 29 (x3).toNatClampNeg (μ.2.1 29 ((x3 + x2)).toNatClampNeg)), μ.2.2)) rfl rfl rfl (fun hb => xbT hb) ?_
      refine XB.gd (pc' := 61) (ls' := [some (.ref 28), (xdl d1), some (.int x2), some (.int x3)]) (st' := []) (μ' := (μ.1, (xuI (xuI μ.2.1 29 (x3).toNatClampNeg (μ.2.1 29 ((x3 + x2)).toNatClampNeg)) 30 (x3).toNatClampNeg (μ.2.1 30 ((x3 + x2)).toNatClampNeg)), μ.2.2)) rfl rfl rfl (fun hb => xbT hb) ?_
      refine XB.go 8 (pc' := 73) (ls' := [some (.ref 28), (xdl d1), some (.int x2), some (.int x3)]) (st' := [(.int (x3 + x2)), (.ref 31), (.int x3), (.ref 31)]) (μ' := (μ.1, (xuI (xuI μ.2.1 29 (x3).toNatClampNeg (μ.2.1 29 ((x3 + x2)).toNatClampNeg)) 30 (x3).toNatClampNeg (μ.2.1 30 ((x3 + x2)).toNatClampNeg)), μ.2.2)) rfl ?_
      refine XB.gd (pc' := 74) (ls' := [some (.ref 28), (xdl d1), some (.int x2), some (.int x3)]) (st' := [(.int (μ.2.1 31 ((x3 + x2)).toNatClampNeg)), (.int x3), (.ref 31)]) (μ' := (μ.1, (xuI (xuI μ.2.1 29 (x3).toNatClampNeg (μ.2.1 29 ((x3 + x2)).toNatClampNeg)) 30 (x3).toNatClampNeg (μ.2.1 30 ((x3 + x2)).toNatClampNeg)), μ.2.2)) rfl rfl rfl (fun hb => xbT hb) ?_
      refine XB.gd (pc' := 75) (ls' := [some (.ref 28), (xdl d1), some (.int x2), some (.int x3)]) (st' := []) (μ' := (μ.1, (xuI (xuI (xuI μ.2.1 29 (x3).toNatClampNeg (μ.2.1 29 ((x3 + x2)).toNatClampNeg)) 30 (x3).toNatClampNeg (μ.2.1 30 ((x3 + x2)).toNatClampNeg)) 31 (x3).toNatClampNeg (μ.2.1 31 ((x3 + x2)).toNatClampNeg)), μ.2.2)) rfl rfl rfl (fun hb => xbT hb) ?_
      refine XB.go 2 (pc' := 9) (ls' := [some (.ref 28), (xdl d1), some (.int x2), some (.int (x3 + (1 : Int32)))]) (st' := []) (μ' := (μ.1, (xuI (xuI (xuI μ.2.1 29 (x3).toNatClampNeg (μ.2.1 29 ((x3 + x2)).toNatClampNeg)) 30 (x3).toNatClampNeg (μ.2.1 30 ((x3 + x2)).toNatClampNeg)) 31 (x3).toNatClampNeg (μ.2.1 31 ((x3 + x2)).toNatClampNeg)), μ.2.2)) rfl ?_
      exact hk9 (d1) x2 (x3 + (1 : Int32)) (μ.1, (xuI (xuI (xuI μ.2.1 29 (x3).toNatClampNeg (μ.2.1 29 ((x3 + x2)).toNatClampNeg)) 30 (x3).toNatClampNeg (μ.2.1 30 ((x3 + x2)).toNatClampNeg)) 31 (x3).toNatClampNeg (μ.2.1 31 ((x3 + x2)).toNatClampNeg)), μ.2.2)
def yDi_dropUpTo_b9_L  : Nat → Int32 → Int32 → XMu → XRes
  | 0 => fun _ _ _ => none
  | n + 1 => yDi_dropUpTo_b9 (yDi_dropUpTo_b9_L  n)
theorem yDi_dropUpTo_b9_Lok {L : Nat} {xs : Nat → Int32}  : ∀ (n : Nat) (d1 : Option Int32) (x2 : Int32) (x3 : Int32) (μ : XMu), XB L xs 55 9 [some (.ref 28), (xdl d1), some (.int x2), some (.int x3)] [] μ (yDi_dropUpTo_b9_L  n x2 x3 μ) := by
  intro n
  induction n with
  | zero => intro d1 x2 x3 μ r h; cases h
  | succ n ih => intro d1 x2 x3 μ; exact yDi_dropUpTo_b9_ok (yDi_dropUpTo_b9_L  n) ih d1 x2 x3 μ
def yDi_dropUpTo (a1 : Int32) (μ : XMu) : XRes := yDi_dropUpTo_b9_L  1000 (a1 - (μ.2.1 28 5)) (0 : Int32) μ
theorem yDi_dropUpTo_ok {L : Nat} {xs : Nat → Int32} (a1 : Int32) (μ : XMu) : XB L xs 55 0 [some (.ref 28), some (.int a1), none, none] [] μ (yDi_dropUpTo a1 μ) := by
  unfold yDi_dropUpTo
  refine XB.go 7 (pc' := 9) (ls' := [some (.ref 28), some (.int a1), some (.int (a1 - (μ.2.1 28 5))), some (.int (0 : Int32))]) (st' := []) (μ' := μ) rfl ?_
  exact yDi_dropUpTo_b9_Lok  1000 (some a1) (a1 - (μ.2.1 28 5)) (0 : Int32) μ
/-- LogServer$Disk.endAt(I)V -/
def yDi_endAt (a1 : Int32) (μ : XMu) : XRes := some (.inl none, (μ.1, (xuI (xuI μ.2.1 28 9 a1) 28 10 (if a1 < (μ.2.1 28 10) then a1 else (μ.2.1 28 10))), μ.2.2))
theorem yDi_endAt_ok {L : Nat} {xs : Nat → Int32} (a1 : Int32) (μ : XMu) : XB L xs 56 0 [some (.ref 28), some (.int a1)] [] μ (yDi_endAt a1 μ) := by
  unfold yDi_endAt
  refine XB.go 8 (pc' := 14) (ls' := [some (.ref 28), some (.int a1)]) (st' := [(.int a1), (.int (μ.2.1 28 10)), (.ref 28)]) (μ' := (μ.1, (xuI μ.2.1 28 9 a1), μ.2.2)) rfl ?_
  refine XB.nat (rst := [(.int (if a1 < (μ.2.1 28 10) then a1 else (μ.2.1 28 10))), (.ref 28)]) (μ' := (μ.1, (xuI μ.2.1 28 9 a1), μ.2.2)) rfl rfl rfl rfl ?_
  refine XB.go 1 (pc' := 20) (ls' := [some (.ref 28), some (.int a1)]) (st' := []) (μ' := (μ.1, (xuI (xuI μ.2.1 28 9 a1) 28 10 (if a1 < (μ.2.1 28 10) then a1 else (μ.2.1 28 10))), μ.2.2)) rfl ?_
  exact XB.fin rfl
/-- LogServer$Disk.findMembers()V -/
def yDi_findMembers  (μ : XMu) : XRes := xbi (yDi_membersUpTo (μ.2.1 28 9) μ) (fun r2 m1 => xbi (yDi_codeOfMembersAt r2 (m1.1, (xuI m1.2.1 28 12 r2), m1.2.2)) (fun r4 m3 => some (.inl none, (m3.1, (xuI m3.2.1 28 13 r4), m3.2.2))))
theorem yDi_findMembers_ok {L : Nat} {xs : Nat → Int32}  (μ : XMu) : XB L xs 57 0 [some (.ref 28)] [] μ (yDi_findMembers  μ) := by
  unfold yDi_findMembers
  refine XB.go 4 (pc' := 6) (ls' := [some (.ref 28)]) (st' := [(.int (μ.2.1 28 9)), (.ref 28), (.ref 28)]) (μ' := μ) rfl ?_
  refine XB.ci rfl rfl rfl rfl rfl (yDi_membersUpTo_ok (μ.2.1 28 9) μ) (fun r2 m1 => ?_)
  refine XB.go 5 (pc' := 18) (ls' := [some (.ref 28)]) (st' := [(.int r2), (.ref 28), (.ref 28)]) (μ' := (m1.1, (xuI m1.2.1 28 12 r2), m1.2.2)) rfl ?_
  refine XB.ci rfl rfl rfl rfl rfl (yDi_codeOfMembersAt_ok r2 (m1.1, (xuI m1.2.1 28 12 r2), m1.2.2)) (fun r4 m3 => ?_)
  refine XB.go 1 (pc' := 24) (ls' := [some (.ref 28)]) (st' := []) (μ' := (m3.1, (xuI m3.2.1 28 13 r4), m3.2.2)) rfl ?_
  exact XB.fin rfl
/-- LogServer$Disk.install(IIII)V -/
def yDi_install_b30  (x1 : Int32) (x2 : Int32) (x3 : Int32) (x4 : Int32) (μ : XMu) : XRes := xbv (yDi_findMembers (μ.1, (xuI (xuI (xuI (xuI (xuI μ.2.1 28 5 x1) 28 6 x2) 28 7 x3) 28 8 x4) 28 11 (1 : Int32)), μ.2.2)) (fun m2 => some (.inl none, m2))
theorem yDi_install_b30_ok {L : Nat} {xs : Nat → Int32}   (x1 : Int32) (x2 : Int32) (x3 : Int32) (x4 : Int32) (μ : XMu) : XB L xs 58 30 [some (.ref 28), some (.int x1), some (.int x2), some (.int x3), some (.int x4)] [] μ (yDi_install_b30  x1 x2 x3 x4 μ) := by
  unfold yDi_install_b30
  refine XB.go 16 (pc' := 57) (ls' := [some (.ref 28), some (.int x1), some (.int x2), some (.int x3), some (.int x4)]) (st' := [(.ref 28)]) (μ' := (μ.1, (xuI (xuI (xuI (xuI (xuI μ.2.1 28 5 x1) 28 6 x2) 28 7 x3) 28 8 x4) 28 11 (1 : Int32)), μ.2.2)) rfl ?_
  refine XB.cv rfl rfl rfl rfl rfl (yDi_findMembers_ok (μ.1, (xuI (xuI (xuI (xuI (xuI μ.2.1 28 5 x1) 28 6 x2) 28 7 x3) 28 8 x4) 28 11 (1 : Int32)), μ.2.2)) (fun m2 => ?_)
  exact XB.fin rfl
def yDi_install_b25  (x1 : Int32) (x2 : Int32) (x3 : Int32) (x4 : Int32) (μ : XMu) : XRes := xbv (yDi_endAt x1 μ) (fun m1 => yDi_install_b30  x1 x2 x3 x4 m1)
theorem yDi_install_b25_ok {L : Nat} {xs : Nat → Int32}   (x1 : Int32) (x2 : Int32) (x3 : Int32) (x4 : Int32) (μ : XMu) : XB L xs 58 25 [some (.ref 28), some (.int x1), some (.int x2), some (.int x3), some (.int x4)] [] μ (yDi_install_b25  x1 x2 x3 x4 μ) := by
  unfold yDi_install_b25
  refine XB.go 2 (pc' := 27) (ls' := [some (.ref 28), some (.int x1), some (.int x2), some (.int x3), some (.int x4)]) (st' := [(.int x1), (.ref 28)]) (μ' := μ) rfl ?_
  refine XB.cv rfl rfl rfl rfl rfl (yDi_endAt_ok x1 μ) (fun m1 => ?_)
  exact yDi_install_b30_ok   x1 x2 x3 x4 m1
def yDi_install (a1 : Int32) (a2 : Int32) (a3 : Int32) (a4 : Int32) (μ : XMu) : XRes := (if (yDi_holds a1 μ) = (0 : Int32) then yDi_install_b25  a1 a2 a3 a4 μ else xbi (yDi_termAt a1 μ) (fun r4 m3 => (if ¬ r4 = a2 then yDi_install_b25  a1 a2 a3 a4 m3 else xbv (yDi_dropUpTo a1 m3) (fun m5 => yDi_install_b30  a1 a2 a3 a4 m5))))
theorem yDi_install_ok {L : Nat} {xs : Nat → Int32} (a1 : Int32) (a2 : Int32) (a3 : Int32) (a4 : Int32) (μ : XMu) : XB L xs 58 0 [some (.ref 28), some (.int a1), some (.int a2), some (.int a3), some (.int a4)] [] μ (yDi_install a1 a2 a3 a4 μ) := by
  unfold yDi_install
  refine XB.go 2 (pc' := 2) (ls' := [some (.ref 28), some (.int a1), some (.int a2), some (.int a3), some (.int a4)]) (st' := [(.int a1), (.ref 28)]) (μ' := μ) rfl ?_
  refine XB.cp rfl rfl rfl (yDi_holds_ok a1 μ) ?_
  refine XB.ifz (P := (yDi_holds a1 μ) = (0 : Int32)) rfl rfl rfl (fun c5 => ?_) (fun c5 => ?_)
  · exact yDi_install_b25_ok   a1 a2 a3 a4 μ
  · refine XB.go 2 (pc' := 10) (ls' := [some (.ref 28), some (.int a1), some (.int a2), some (.int a3), some (.int a4)]) (st' := [(.int a1), (.ref 28)]) (μ' := μ) rfl ?_
    refine XB.ci rfl rfl rfl rfl rfl (yDi_termAt_ok a1 μ) (fun r4 m3 => ?_)
    refine XB.go 1 (pc' := 14) (ls' := [some (.ref 28), some (.int a1), some (.int a2), some (.int a3), some (.int a4)]) (st' := [(.int a2), (.int r4)]) (μ' := m3) rfl ?_
    refine XB.icmp (P := ¬ r4 = a2) rfl rfl rfl (fun c14 => ?_) (fun c14 => ?_)
    · exact yDi_install_b25_ok   a1 a2 a3 a4 m3
    · refine XB.go 2 (pc' := 19) (ls' := [some (.ref 28), some (.int a1), some (.int a2), some (.int a3), some (.int a4)]) (st' := [(.int a1), (.ref 28)]) (μ' := m3) rfl ?_
      refine XB.cv rfl rfl rfl rfl rfl (yDi_dropUpTo_ok a1 m3) (fun m5 => ?_)
      refine XB.go 1 (pc' := 30) (ls' := [some (.ref 28), some (.int a1), some (.int a2), some (.int a3), some (.int a4)]) (st' := []) (μ' := m5) rfl ?_
      exact yDi_install_b30_ok   a1 a2 a3 a4 m5
/-- LogServer$Lead.forgetOffsets()V -/
def yLe_forgetOffsets_b2 (k2 : Int32 → XMu → XRes) (x1 : Int32) (μ : XMu) : XRes := (if (7 : Int32) ≤ x1 then some (.inl none, μ) else xgd (xin x1 7) (k2 (x1 + (1 : Int32)) (μ.1, (xuI μ.2.1 16 (x1).toNatClampNeg (0 : Int32)), μ.2.2)))
theorem yLe_forgetOffsets_b2_ok {L : Nat} {xs : Nat → Int32} (k2 : Int32 → XMu → XRes) (hk2 : ∀  (x1 : Int32) (μ : XMu), XB L xs 59 2 [some (.ref 11), some (.int x1)] [] μ (k2 x1 μ))  (x1 : Int32) (μ : XMu) : XB L xs 59 2 [some (.ref 11), some (.int x1)] [] μ (yLe_forgetOffsets_b2 k2 x1 μ) := by
  unfold yLe_forgetOffsets_b2
  refine XB.go 2 (pc' := 5) (ls' := [some (.ref 11), some (.int x1)]) (st' := [(.int (7 : Int32)), (.int x1)]) (μ' := μ) rfl ?_
  refine XB.icmp (P := (7 : Int32) ≤ x1) rfl rfl rfl (fun c5 => ?_) (fun c5 => ?_)
  · exact XB.fin rfl
  · refine XB.go 4 (pc' := 14) (ls' := [some (.ref 11), some (.int x1)]) (st' := [(.int (0 : Int32)), (.int x1), (.ref 16)]) (μ' := μ) rfl ?_
    refine XB.gd (pc' := 15) (ls' := [some (.ref 11), some (.int x1)]) (st' := []) (μ' := (μ.1, (xuI μ.2.1 16 (x1).toNatClampNeg (0 : Int32)), μ.2.2)) rfl rfl rfl (fun hb => xbT hb) ?_
    refine XB.go 2 (pc' := 2) (ls' := [some (.ref 11), some (.int (x1 + (1 : Int32)))]) (st' := []) (μ' := (μ.1, (xuI μ.2.1 16 (x1).toNatClampNeg (0 : Int32)), μ.2.2)) rfl ?_
    exact hk2  (x1 + (1 : Int32)) (μ.1, (xuI μ.2.1 16 (x1).toNatClampNeg (0 : Int32)), μ.2.2)
def yLe_forgetOffsets_b2_L  : Nat → Int32 → XMu → XRes
  | 0 => fun _ _ => none
  | n + 1 => yLe_forgetOffsets_b2 (yLe_forgetOffsets_b2_L  n)
theorem yLe_forgetOffsets_b2_Lok {L : Nat} {xs : Nat → Int32}  : ∀ (n : Nat)  (x1 : Int32) (μ : XMu), XB L xs 59 2 [some (.ref 11), some (.int x1)] [] μ (yLe_forgetOffsets_b2_L  n x1 μ) := by
  intro n
  induction n with
  | zero => intro  x1 μ r h; cases h
  | succ n ih => intro  x1 μ; exact yLe_forgetOffsets_b2_ok (yLe_forgetOffsets_b2_L  n) ih  x1 μ
def yLe_forgetOffsets  (μ : XMu) : XRes := yLe_forgetOffsets_b2_L  1000 (0 : Int32) μ
theorem yLe_forgetOffsets_ok {L : Nat} {xs : Nat → Int32}  (μ : XMu) : XB L xs 59 0 [some (.ref 11), none] [] μ (yLe_forgetOffsets  μ) := by
  unfold yLe_forgetOffsets
  refine XB.go 2 (pc' := 2) (ls' := [some (.ref 11), some (.int (0 : Int32))]) (st' := []) (μ' := μ) rfl ?_
  exact yLe_forgetOffsets_b2_Lok  1000  (0 : Int32) μ
/-- LogServer.compact(I)Z -/
def yC_compact (a1 : Int32) (μ : XMu) : XRes := (if (μ.2.1 0 12) = (μ.2.1 28 5) then some (.inl (some (.int (0 : Int32))), μ) else (if ¬ (yC_isPositive a1) = (0 : Int32) then xbi (yDi_termAt (μ.2.1 0 12) μ) (fun r2 m1 => xbi (yDi_codeAt (m1.2.1 0 12) m1) (fun r4 m3 => xbv (yDi_install (μ.2.1 0 12) r2 r4 a1 m3) (fun m5 => xbv (yLe_forgetOffsets m5) (fun m6 => some (.inl (some (.int (1 : Int32))), m6))))) else some (.inl (some (.int (0 : Int32))), μ)))
theorem yC_compact_ok {L : Nat} {xs : Nat → Int32} (a1 : Int32) (μ : XMu) : XB L xs 60 0 [some (.ref 0), some (.int a1)] [] μ (yC_compact a1 μ) := by
  unfold yC_compact
  refine XB.go 5 (pc' := 11) (ls' := [some (.ref 0), some (.int a1)]) (st' := [(.int (μ.2.1 28 5)), (.int (μ.2.1 0 12))]) (μ' := μ) rfl ?_
  refine XB.icmp (P := (μ.2.1 0 12) = (μ.2.1 28 5)) rfl rfl rfl (fun c11 => ?_) (fun c11 => ?_)
  · refine XB.go 1 (pc' := 22) (ls' := [some (.ref 0), some (.int a1)]) (st' := [(.int (0 : Int32))]) (μ' := μ) rfl ?_
    exact XB.fin rfl
  · refine XB.go 1 (pc' := 15) (ls' := [some (.ref 0), some (.int a1)]) (st' := [(.int a1)]) (μ' := μ) rfl ?_
    refine XB.cp rfl rfl rfl (yC_isPositive_ok a1 μ) ?_
    refine XB.ifz (P := ¬ (yC_isPositive a1) = (0 : Int32)) rfl rfl rfl (fun c18 => ?_) (fun c18 => ?_)
    · refine XB.go 8 (pc' := 39) (ls' := [some (.ref 0), some (.int a1)]) (st' := [(.int (μ.2.1 0 12)), (.ref 28), (.int (μ.2.1 0 12)), (.ref 28)]) (μ' := μ) rfl ?_
      refine XB.ci rfl rfl rfl rfl rfl (yDi_termAt_ok (μ.2.1 0 12) μ) (fun r2 m1 => ?_)
      refine XB.go 4 (pc' := 50) (ls' := [some (.ref 0), some (.int a1)]) (st' := [(.int (m1.2.1 0 12)), (.ref 28), (.int r2), (.int (μ.2.1 0 12)), (.ref 28)]) (μ' := m1) rfl ?_
      refine XB.ci rfl rfl rfl rfl rfl (yDi_codeAt_ok (m1.2.1 0 12) m1) (fun r4 m3 => ?_)
      refine XB.go 1 (pc' := 54) (ls' := [some (.ref 0), some (.int a1)]) (st' := [(.int a1), (.int r4), (.int r2), (.int (μ.2.1 0 12)), (.ref 28)]) (μ' := m3) rfl ?_
      refine XB.cv rfl rfl rfl rfl rfl (yDi_install_ok (μ.2.1 0 12) r2 r4 a1 m3) (fun m5 => ?_)
      refine XB.go 2 (pc' := 61) (ls' := [some (.ref 0), some (.int a1)]) (st' := [(.ref 11)]) (μ' := m5) rfl ?_
      refine XB.cv rfl rfl rfl rfl rfl (yLe_forgetOffsets_ok m5) (fun m6 => ?_)
      refine XB.go 1 (pc' := 65) (ls' := [some (.ref 0), some (.int a1)]) (st' := [(.int (1 : Int32))]) (μ' := m6) rfl ?_
      exact XB.fin rfl
    · refine XB.go 1 (pc' := 22) (ls' := [some (.ref 0), some (.int a1)]) (st' := [(.int (0 : Int32))]) (μ' := μ) rfl ?_
      exact XB.fin rfl
/-- LogServer$Mail.loseWaiting()V -/
def yMa_loseWaiting  (μ : XMu) : XRes := some (.inl none, (μ.1, (xuI μ.2.1 1 4 (0 : Int32)), μ.2.2))
theorem yMa_loseWaiting_ok {L : Nat} {xs : Nat → Int32}  (μ : XMu) : XB L xs 61 0 [some (.ref 1)] [] μ (yMa_loseWaiting  μ) := by
  unfold yMa_loseWaiting
  refine XB.go 3 (pc' := 5) (ls' := [some (.ref 1)]) (st' := []) (μ' := (μ.1, (xuI μ.2.1 1 4 (0 : Int32)), μ.2.2)) rfl ?_
  exact XB.fin rfl
/-- LogServer.restart()V -/
def yC_restart  (μ : XMu) : XRes := xbv (yDi_settle μ) (fun m1 => xbv (yMa_loseWaiting m1) (fun m2 => xbv (yCa_dropWaiting m2) (fun m3 => xbv (yC_drawAlarm (m3.1, (xuI (xuI (xuI (xuI (xuI (xuI (xuI (xuI m3.2.1 0 18 (-1 : Int32)) 0 9 (0 : Int32)) 0 10 (-1 : Int32)) 0 11 (m3.2.1 28 5)) 0 12 (m3.2.1 28 5)) 0 13 (-1 : Int32)) 0 15 (0 : Int32)) 0 16 (-1 : Int32)), m3.2.2)) (fun m4 => some (.inl none, m4)))))
theorem yC_restart_ok {L : Nat} {xs : Nat → Int32}  (μ : XMu) : XB L xs 62 0 [some (.ref 0)] [] μ (yC_restart  μ) := by
  unfold yC_restart
  refine XB.go 2 (pc' := 4) (ls' := [some (.ref 0)]) (st' := [(.ref 28)]) (μ' := μ) rfl ?_
  refine XB.cv rfl rfl rfl rfl rfl (yDi_settle_ok μ) (fun m1 => ?_)
  refine XB.go 2 (pc' := 11) (ls' := [some (.ref 0)]) (st' := [(.ref 1)]) (μ' := m1) rfl ?_
  refine XB.cv rfl rfl rfl rfl rfl (yMa_loseWaiting_ok m1) (fun m2 => ?_)
  refine XB.go 2 (pc' := 18) (ls' := [some (.ref 0)]) (st' := [(.ref 20)]) (μ' := m2) rfl ?_
  refine XB.cv rfl rfl rfl rfl rfl (yCa_dropWaiting_ok m2) (fun m3 => ?_)
  refine XB.go 29 (pc' := 74) (ls' := [some (.ref 0)]) (st' := [(.ref 0)]) (μ' := (m3.1, (xuI (xuI (xuI (xuI (xuI (xuI (xuI (xuI m3.2.1 0 18 (-1 : Int32)) 0 9 (0 : Int32)) 0 10 (-1 : Int32)) 0 11 (m3.2.1 28 5)) 0 12 (m3.2.1 28 5)) 0 13 (-1 : Int32)) 0 15 (0 : Int32)) 0 16 (-1 : Int32)), m3.2.2)) rfl ?_
  refine XB.cv rfl rfl rfl rfl rfl (yC_drawAlarm_ok (m3.1, (xuI (xuI (xuI (xuI (xuI (xuI (xuI (xuI m3.2.1 0 18 (-1 : Int32)) 0 9 (0 : Int32)) 0 10 (-1 : Int32)) 0 11 (m3.2.1 28 5)) 0 12 (m3.2.1 28 5)) 0 13 (-1 : Int32)) 0 15 (0 : Int32)) 0 16 (-1 : Int32)), m3.2.2)) (fun m4 => ?_)
  exact XB.fin rfl
/-- LogServer.takesEntries()Z -/
def yC_takesEntries  (μ : XMu) : Int32 := (if ¬ (μ.2.1 0 9) = (3 : Int32) then (0 : Int32) else (if ¬ (μ.2.1 0 16) = (-1 : Int32) then (0 : Int32) else (if (200 : Int32) ≤ ((μ.2.1 28 9) - (μ.2.1 28 5)) then (0 : Int32) else (1 : Int32))))
theorem yC_takesEntries_ok {L : Nat} {xs : Nat → Int32}  (μ : XMu) : XB L xs 63 0 [some (.ref 0)] [] μ (some (.inl (some (.int (yC_takesEntries  μ))), μ)) := by
  unfold yC_takesEntries
  refine XB.go 3 (pc' := 5) (ls' := [some (.ref 0)]) (st' := [(.int (3 : Int32)), (.int (μ.2.1 0 9))]) (μ' := μ) rfl ?_
  refine XB.icmpv (P := ¬ (μ.2.1 0 9) = (3 : Int32)) rfl rfl rfl (fun c5 => ?_) (fun c5 => ?_)
  · refine XB.go 1 (pc' := 42) (ls' := [some (.ref 0)]) (st' := [(.int (0 : Int32))]) (μ' := μ) rfl ?_
    exact XB.fin rfl
  · refine XB.go 3 (pc' := 13) (ls' := [some (.ref 0)]) (st' := [(.int (-1 : Int32)), (.int (μ.2.1 0 16))]) (μ' := μ) rfl ?_
    refine XB.icmpv (P := ¬ (μ.2.1 0 16) = (-1 : Int32)) rfl rfl rfl (fun c13 => ?_) (fun c13 => ?_)
    · refine XB.go 1 (pc' := 42) (ls' := [some (.ref 0)]) (st' := [(.int (0 : Int32))]) (μ' := μ) rfl ?_
      exact XB.fin rfl
    · refine XB.go 8 (pc' := 34) (ls' := [some (.ref 0)]) (st' := [(.int (200 : Int32)), (.int ((μ.2.1 28 9) - (μ.2.1 28 5)))]) (μ' := μ) rfl ?_
      refine XB.icmpv (P := (200 : Int32) ≤ ((μ.2.1 28 9) - (μ.2.1 28 5))) rfl rfl rfl (fun c34 => ?_) (fun c34 => ?_)
      · refine XB.go 1 (pc' := 42) (ls' := [some (.ref 0)]) (st' := [(.int (0 : Int32))]) (μ' := μ) rfl ?_
        exact XB.fin rfl
      · refine XB.go 2 (pc' := 42) (ls' := [some (.ref 0)]) (st' := [(.int (1 : Int32))]) (μ' := μ) rfl ?_
        exact XB.fin rfl
theorem yC_takesEntries_01  (μ : XMu) : x01 (yC_takesEntries  μ) = true := by
  unfold yC_takesEntries
  repeat (first | rfl | (exact rfl) | split)
/-- LogServer$Calls.slotOf(I)I -/
def yCa_slotOf (a0 : Int32) : Int32 := (a0 &&& (31 : Int32))
theorem yCa_slotOf_ok {L : Nat} {xs : Nat → Int32} (a0 : Int32) (μ : XMu) : XB L xs 64 0 [some (.int a0)] [] μ (some (.inl (some (.int (yCa_slotOf a0))), μ)) := by
  unfold yCa_slotOf
  refine XB.go 3 (pc' := 4) (ls' := [some (.int a0)]) (st' := [(.int (a0 &&& (31 : Int32)))]) (μ' := μ) rfl ?_
  exact XB.fin rfl
/-- LogServer$Calls.open(ZII)I -/
def yCa_open (a1 : Int32) (a2 : Int32) (a3 : Int32) (μ : XMu) : XRes := xgd ((xin (yCa_slotOf (μ.2.1 20 4)) 32 && x01 a1)) (xgd (xin (yCa_slotOf (μ.2.1 20 4)) 32) (xgd (xin (yCa_slotOf (μ.2.1 20 4)) 32) (xgd (xin (yCa_slotOf (μ.2.1 20 4)) 32) (some (.inl (some (.int (μ.2.1 20 4))), (μ.1, (xuI (xuI (xuI (xuI (xuI μ.2.1 21 ((yCa_slotOf (μ.2.1 20 4))).toNatClampNeg a1) 22 ((yCa_slotOf (μ.2.1 20 4))).toNatClampNeg a2) 23 ((yCa_slotOf (μ.2.1 20 4))).toNatClampNeg a3) 24 ((yCa_slotOf (μ.2.1 20 4))).toNatClampNeg (0 : Int32)) 20 4 ((μ.2.1 20 4) + (1 : Int32))), μ.2.2))))))
theorem yCa_open_ok {L : Nat} {xs : Nat → Int32} (a1 : Int32) (a2 : Int32) (a3 : Int32) (μ : XMu) : XB L xs 65 0 [some (.ref 20), some (.int a1), some (.int a2), some (.int a3), none, none] [] μ (yCa_open a1 a2 a3 μ) := by
  unfold yCa_open
  refine XB.go 4 (pc' := 8) (ls' := [some (.ref 20), some (.int a1), some (.int a2), some (.int a3), some (.int (μ.2.1 20 4)), none]) (st' := [(.int (μ.2.1 20 4))]) (μ' := μ) rfl ?_
  refine XB.cp rfl rfl rfl (yCa_slotOf_ok (μ.2.1 20 4) μ) ?_
  refine XB.go 5 (pc' := 20) (ls' := [some (.ref 20), some (.int a1), some (.int a2), some (.int a3), some (.int (μ.2.1 20 4)), some (.int (yCa_slotOf (μ.2.1 20 4)))]) (st' := [(.int a1), (.int (yCa_slotOf (μ.2.1 20 4))), (.ref 21)]) (μ' := μ) rfl ?_
  refine XB.gd (pc' := 21) (ls' := [some (.ref 20), some (.int a1), some (.int a2), some (.int a3), some (.int (μ.2.1 20 4)), some (.int (yCa_slotOf (μ.2.1 20 4)))]) (st' := []) (μ' := (μ.1, (xuI μ.2.1 21 ((yCa_slotOf (μ.2.1 20 4))).toNatClampNeg a1), μ.2.2)) rfl rfl rfl (fun hb => xbT hb) ?_
  refine XB.go 4 (pc' := 28) (ls' := [some (.ref 20), some (.int a1), some (.int a2), some (.int a3), some (.int (μ.2.1 20 4)), some (.int (yCa_slotOf (μ.2.1 20 4)))]) (st' := [(.int a2), (.int (yCa_slotOf (μ.2.1 20 4))), (.ref 22)]) (μ' := (μ.1, (xuI μ.2.1 21 ((yCa_slotOf (μ.2.1 20 4))).toNatClampNeg a1), μ.2.2)) rfl ?_
  refine XB.gd (pc' := 29) (ls' := [some (.ref 20), some (.int a1), some (.int a2), some (.int a3), some (.int (μ.2.1 20 4)), some (.int (yCa_slotOf (μ.2.1 20 4)))]) (st' := []) (μ' := (μ.1, (xuI (xuI μ.2.1 21 ((yCa_slotOf (μ.2.1 20 4))).toNatClampNeg a1) 22 ((yCa_slotOf (μ.2.1 20 4))).toNatClampNeg a2), μ.2.2)) rfl rfl rfl (fun hb => xbT hb) ?_
  refine XB.go 4 (pc' := 36) (ls' := [some (.ref 20), some (.int a1), some (.int a2), some (.int a3), some (.int (μ.2.1 20 4)), some (.int (yCa_slotOf (μ.2.1 20 4)))]) (st' := [(.int a3), (.int (yCa_slotOf (μ.2.1 20 4))), (.ref 23)]) (μ' := (μ.1, (xuI (xuI μ.2.1 21 ((yCa_slotOf (μ.2.1 20 4))).toNatClampNeg a1) 22 ((yCa_slotOf (μ.2.1 20 4))).toNatClampNeg a2), μ.2.2)) rfl ?_
  refine XB.gd (pc' := 37) (ls' := [some (.ref 20), some (.int a1), some (.int a2), some (.int a3), some (.int (μ.2.1 20 4)), some (.int (yCa_slotOf (μ.2.1 20 4)))]) (st' := []) (μ' := (μ.1, (xuI (xuI (xuI μ.2.1 21 ((yCa_slotOf (μ.2.1 20 4))).toNatClampNeg a1) 22 ((yCa_slotOf (μ.2.1 20 4))).toNatClampNeg a2) 23 ((yCa_slotOf (μ.2.1 20 4))).toNatClampNeg a3), μ.2.2)) rfl rfl rfl (fun hb => xbT hb) ?_
  refine XB.go 4 (pc' := 44) (ls' := [some (.ref 20), some (.int a1), some (.int a2), some (.int a3), some (.int (μ.2.1 20 4)), some (.int (yCa_slotOf (μ.2.1 20 4)))]) (st' := [(.int (0 : Int32)), (.int (yCa_slotOf (μ.2.1 20 4))), (.ref 24)]) (μ' := (μ.1, (xuI (xuI (xuI μ.2.1 21 ((yCa_slotOf (μ.2.1 20 4))).toNatClampNeg a1) 22 ((yCa_slotOf (μ.2.1 20 4))).toNatClampNeg a2) 23 ((yCa_slotOf (μ.2.1 20 4))).toNatClampNeg a3), μ.2.2)) rfl ?_
  refine XB.gd (pc' := 45) (ls' := [some (.ref 20), some (.int a1), some (.int a2), some (.int a3), some (.int (μ.2.1 20 4)), some (.int (yCa_slotOf (μ.2.1 20 4)))]) (st' := []) (μ' := (μ.1, (xuI (xuI (xuI (xuI μ.2.1 21 ((yCa_slotOf (μ.2.1 20 4))).toNatClampNeg a1) 22 ((yCa_slotOf (μ.2.1 20 4))).toNatClampNeg a2) 23 ((yCa_slotOf (μ.2.1 20 4))).toNatClampNeg a3) 24 ((yCa_slotOf (μ.2.1 20 4))).toNatClampNeg (0 : Int32)), μ.2.2)) rfl rfl rfl (fun hb => xbT hb) ?_
  refine XB.go 7 (pc' := 57) (ls' := [some (.ref 20), some (.int a1), some (.int a2), some (.int a3), some (.int (μ.2.1 20 4)), some (.int (yCa_slotOf (μ.2.1 20 4)))]) (st' := [(.int (μ.2.1 20 4))]) (μ' := (μ.1, (xuI (xuI (xuI (xuI (xuI μ.2.1 21 ((yCa_slotOf (μ.2.1 20 4))).toNatClampNeg a1) 22 ((yCa_slotOf (μ.2.1 20 4))).toNatClampNeg a2) 23 ((yCa_slotOf (μ.2.1 20 4))).toNatClampNeg a3) 24 ((yCa_slotOf (μ.2.1 20 4))).toNatClampNeg (0 : Int32)) 20 4 ((μ.2.1 20 4) + (1 : Int32))), μ.2.2)) rfl ?_
  exact XB.fin rfl
/-- LogServer.command(I)I -/
def yC_command (a1 : Int32) (μ : XMu) : XRes := (if ¬ (yC_takesEntries μ) = (0 : Int32) then xbv (yDi_write (μ.2.1 28 3) (2 : Int32) a1 μ) (fun m1 => xbv (yC_sendToPeers (0 : Int32) m1) (fun m2 => xbi (yCa_open (0 : Int32) (m2.2.1 28 9) (m2.2.1 28 3) m2) (fun r4 m3 => some (.inl (some (.int r4)), m3)))) else some (.inl (some (.int (-1 : Int32))), μ))
theorem yC_command_ok {L : Nat} {xs : Nat → Int32} (a1 : Int32) (μ : XMu) : XB L xs 66 0 [some (.ref 0), some (.int a1)] [] μ (yC_command a1 μ) := by
  unfold yC_command
  refine XB.go 1 (pc' := 1) (ls' := [some (.ref 0), some (.int a1)]) (st' := [(.ref 0)]) (μ' := μ) rfl ?_
  refine XB.cp rfl rfl rfl (yC_takesEntries_ok μ) ?_
  refine XB.ifz (P := ¬ (yC_takesEntries μ) = (0 : Int32)) rfl rfl rfl (fun c4 => ?_) (fun c4 => ?_)
  · refine XB.go 7 (pc' := 22) (ls' := [some (.ref 0), some (.int a1)]) (st' := [(.int a1), (.int (2 : Int32)), (.int (μ.2.1 28 3)), (.ref 28)]) (μ' := μ) rfl ?_
    refine XB.cv rfl rfl rfl rfl rfl (yDi_write_ok (μ.2.1 28 3) (2 : Int32) a1 μ) (fun m1 => ?_)
    refine XB.go 2 (pc' := 27) (ls' := [some (.ref 0), some (.int a1)]) (st' := [(.int (0 : Int32)), (.ref 0)]) (μ' := m1) rfl ?_
    refine XB.cv rfl rfl rfl rfl rfl (yC_sendToPeers_ok (0 : Int32) m1) (fun m2 => ?_)
    refine XB.go 9 (pc' := 49) (ls' := [some (.ref 0), some (.int a1)]) (st' := [(.int (m2.2.1 28 3)), (.int (m2.2.1 28 9)), (.int (0 : Int32)), (.ref 20)]) (μ' := m2) rfl ?_
    refine XB.ci rfl rfl rfl rfl rfl (yCa_open_ok (0 : Int32) (m2.2.1 28 9) (m2.2.1 28 3) m2) (fun r4 m3 => ?_)
    exact XB.fin rfl
  · refine XB.go 1 (pc' := 8) (ls' := [some (.ref 0), some (.int a1)]) (st' := [(.int (-1 : Int32))]) (μ' := μ) rfl ?_
    exact XB.fin rfl
/-- LogServer.read()I -/
def yC_read_b44  (s0 : Int32) (μ : XMu) : XRes := (if s0 = (0 : Int32) then xbi (yCa_open (1 : Int32) (μ.2.1 11 8) ((μ.2.1 11 9) + (1 : Int32)) μ) (fun r4 m3 => some (.inl (some (.int r4)), m3)) else xbi (yCa_open (1 : Int32) (μ.2.1 0 11) ((μ.2.1 11 9) + (1 : Int32)) μ) (fun r6 m5 => some (.inl (some (.int r6)), m5)))
theorem yC_read_b44_ok {L : Nat} {xs : Nat → Int32}  (d1 : Option Int32) (s0 : Int32) (μ : XMu) : XB L xs 67 44 [some (.ref 0), (xdl d1)] [(.int s0)] μ (yC_read_b44  s0 μ) := by
  unfold yC_read_b44
  refine XB.go 5 (pc' := 51) (ls' := [some (.ref 0), some (.int s0)]) (st' := [(.int s0), (.int (1 : Int32)), (.ref 20)]) (μ' := μ) rfl ?_
  refine XB.ifz (P := s0 = (0 : Int32)) rfl rfl rfl (fun c51 => ?_) (fun c51 => ?_)
  · refine XB.go 8 (pc' := 77) (ls' := [some (.ref 0), some (.int s0)]) (st' := [(.int ((μ.2.1 11 9) + (1 : Int32))), (.int (μ.2.1 11 8)), (.int (1 : Int32)), (.ref 20)]) (μ' := μ) rfl ?_
    refine XB.ci rfl rfl rfl rfl rfl (yCa_open_ok (1 : Int32) (μ.2.1 11 8) ((μ.2.1 11 9) + (1 : Int32)) μ) (fun r4 m3 => ?_)
    exact XB.fin rfl
  · refine XB.go 8 (pc' := 77) (ls' := [some (.ref 0), some (.int s0)]) (st' := [(.int ((μ.2.1 11 9) + (1 : Int32))), (.int (μ.2.1 0 11)), (.int (1 : Int32)), (.ref 20)]) (μ' := μ) rfl ?_
    refine XB.ci rfl rfl rfl rfl rfl (yCa_open_ok (1 : Int32) (μ.2.1 0 11) ((μ.2.1 11 9) + (1 : Int32)) μ) (fun r6 m5 => ?_)
    exact XB.fin rfl
def yC_read  (μ : XMu) : XRes := (if ¬ (μ.2.1 0 9) = (3 : Int32) then some (.inl (some (.int (-1 : Int32))), μ) else (if (μ.2.1 0 16) = (-1 : Int32) then xbi (yDi_termAt (μ.2.1 0 11) μ) (fun r2 m1 => (if ¬ r2 = (m1.2.1 28 3) then yC_read_b44  (0 : Int32) m1 else yC_read_b44  (1 : Int32) m1)) else some (.inl (some (.int (-1 : Int32))), μ)))
theorem yC_read_ok {L : Nat} {xs : Nat → Int32}  (μ : XMu) : XB L xs 67 0 [some (.ref 0), none] [] μ (yC_read  μ) := by
  unfold yC_read
  refine XB.go 3 (pc' := 5) (ls' := [some (.ref 0), none]) (st' := [(.int (3 : Int32)), (.int (μ.2.1 0 9))]) (μ' := μ) rfl ?_
  refine XB.icmp (P := ¬ (μ.2.1 0 9) = (3 : Int32)) rfl rfl rfl (fun c5 => ?_) (fun c5 => ?_)
  · refine XB.go 1 (pc' := 17) (ls' := [some (.ref 0), none]) (st' := [(.int (-1 : Int32))]) (μ' := μ) rfl ?_
    exact XB.fin rfl
  · refine XB.go 3 (pc' := 13) (ls' := [some (.ref 0), none]) (st' := [(.int (-1 : Int32)), (.int (μ.2.1 0 16))]) (μ' := μ) rfl ?_
    refine XB.icmp (P := (μ.2.1 0 16) = (-1 : Int32)) rfl rfl rfl (fun c13 => ?_) (fun c13 => ?_)
    · refine XB.go 4 (pc' := 26) (ls' := [some (.ref 0), none]) (st' := [(.int (μ.2.1 0 11)), (.ref 28)]) (μ' := μ) rfl ?_
      refine XB.ci rfl rfl rfl rfl rfl (yDi_termAt_ok (μ.2.1 0 11) μ) (fun r2 m1 => ?_)
      refine XB.go 3 (pc' := 36) (ls' := [some (.ref 0), none]) (st' := [(.int (m1.2.1 28 3)), (.int r2)]) (μ' := m1) rfl ?_
      refine XB.icmp (P := ¬ r2 = (m1.2.1 28 3)) rfl rfl rfl (fun c36 => ?_) (fun c36 => ?_)
      · refine XB.go 1 (pc' := 44) (ls' := [some (.ref 0), none]) (st' := [(.int (0 : Int32))]) (μ' := m1) rfl ?_
        exact yC_read_b44_ok  (none) (0 : Int32) m1
      · refine XB.go 2 (pc' := 44) (ls' := [some (.ref 0), none]) (st' := [(.int (1 : Int32))]) (μ' := m1) rfl ?_
        exact yC_read_b44_ok  (none) (1 : Int32) m1
    · refine XB.go 1 (pc' := 17) (ls' := [some (.ref 0), none]) (st' := [(.int (-1 : Int32))]) (μ' := μ) rfl ?_
      exact XB.fin rfl
/-- LogServer.mayChangeMembers()Z -/
def yC_mayChangeMembers  (μ : XMu) : Int32 := (if (yC_takesEntries μ) = (0 : Int32) then (0 : Int32) else (if (μ.2.1 0 11) < (μ.2.1 28 12) then (0 : Int32) else (if ¬ (yC_newOf (μ.2.1 28 13)) = (0 : Int32) then (0 : Int32) else (1 : Int32))))
theorem yC_mayChangeMembers_ok {L : Nat} {xs : Nat → Int32}  (μ : XMu) : XB L xs 68 0 [some (.ref 0)] [] μ (some (.inl (some (.int (yC_mayChangeMembers  μ))), μ)) := by
  unfold yC_mayChangeMembers
  refine XB.go 1 (pc' := 1) (ls' := [some (.ref 0)]) (st' := [(.ref 0)]) (μ' := μ) rfl ?_
  refine XB.cp rfl rfl rfl (yC_takesEntries_ok μ) ?_
  refine XB.ifzv (P := (yC_takesEntries μ) = (0 : Int32)) rfl rfl rfl (fun c4 => ?_) (fun c4 => ?_)
  · refine XB.go 1 (pc' := 39) (ls' := [some (.ref 0)]) (st' := [(.int (0 : Int32))]) (μ' := μ) rfl ?_
    exact XB.fin rfl
  · refine XB.go 5 (pc' := 18) (ls' := [some (.ref 0)]) (st' := [(.int (μ.2.1 0 11)), (.int (μ.2.1 28 12))]) (μ' := μ) rfl ?_
    refine XB.icmpv (P := (μ.2.1 0 11) < (μ.2.1 28 12)) rfl rfl rfl (fun c18 => ?_) (fun c18 => ?_)
    · refine XB.go 1 (pc' := 39) (ls' := [some (.ref 0)]) (st' := [(.int (0 : Int32))]) (μ' := μ) rfl ?_
      exact XB.fin rfl
    · refine XB.go 3 (pc' := 28) (ls' := [some (.ref 0)]) (st' := [(.int (μ.2.1 28 13))]) (μ' := μ) rfl ?_
      refine XB.cp rfl rfl rfl (yC_newOf_ok (μ.2.1 28 13) μ) ?_
      refine XB.ifzv (P := ¬ (yC_newOf (μ.2.1 28 13)) = (0 : Int32)) rfl rfl rfl (fun c31 => ?_) (fun c31 => ?_)
      · refine XB.go 1 (pc' := 39) (ls' := [some (.ref 0)]) (st' := [(.int (0 : Int32))]) (μ' := μ) rfl ?_
        exact XB.fin rfl
      · refine XB.go 2 (pc' := 39) (ls' := [some (.ref 0)]) (st' := [(.int (1 : Int32))]) (μ' := μ) rfl ?_
        exact XB.fin rfl
theorem yC_mayChangeMembers_01  (μ : XMu) : x01 (yC_mayChangeMembers  μ) = true := by
  unfold yC_mayChangeMembers
  repeat (first | rfl | (exact rfl) | split)
/-- LogServer.members(I)Z -/
def yC_members_b116  (x1 : Int32) (x2 : Int32) (x3 : Int32) (μ : XMu) : XRes := xbv (yDi_write (μ.2.1 28 3) (1 : Int32) (yC_codeOf x2 x1 (x3 &&& (x1 ^^^ (-1 : Int32)))) μ) (fun m1 => xbv (yC_sendToPeers (0 : Int32) m1) (fun m2 => some (.inl (some (.int (1 : Int32))), m2)))
theorem yC_members_b116_ok {L : Nat} {xs : Nat → Int32}  (d4 : Option Int32) (d5 : Option Int32) (x1 : Int32) (x2 : Int32) (x3 : Int32) (μ : XMu) : XB L xs 69 116 [some (.ref 0), some (.int x1), some (.int x2), some (.int x3), (xdl d4), (xdl d5)] [] μ (yC_members_b116  x1 x2 x3 μ) := by
  unfold yC_members_b116
  refine XB.go 13 (pc' := 135) (ls' := [some (.ref 0), some (.int x1), some (.int x2), some (.int x3), (xdl d4), (xdl d5)]) (st' := [(.int (x3 &&& (x1 ^^^ (-1 : Int32)))), (.int x1), (.int x2), (.int (1 : Int32)), (.int (μ.2.1 28 3)), (.ref 28)]) (μ' := μ) rfl ?_
  refine XB.cp rfl rfl rfl (yC_codeOf_ok x2 x1 (x3 &&& (x1 ^^^ (-1 : Int32))) μ) ?_
  refine XB.cv rfl rfl rfl rfl rfl (yDi_write_ok (μ.2.1 28 3) (1 : Int32) (yC_codeOf x2 x1 (x3 &&& (x1 ^^^ (-1 : Int32)))) μ) (fun m1 => ?_)
  refine XB.go 2 (pc' := 143) (ls' := [some (.ref 0), some (.int x1), some (.int x2), some (.int x3), (xdl d4), (xdl d5)]) (st' := [(.int (0 : Int32)), (.ref 0)]) (μ' := m1) rfl ?_
  refine XB.cv rfl rfl rfl rfl rfl (yC_sendToPeers_ok (0 : Int32) m1) (fun m2 => ?_)
  refine XB.go 1 (pc' := 147) (ls' := [some (.ref 0), some (.int x1), some (.int x2), some (.int x3), (xdl d4), (xdl d5)]) (st' := [(.int (1 : Int32))]) (μ' := m2) rfl ?_
  exact XB.fin rfl
def yC_members_b83 (k45 : Int32 → Int32 → Int32 → Int32 → XMu → XRes) (x1 : Int32) (x2 : Int32) (x3 : Int32) (x4 : Int32) (s0 : Int32) (μ : XMu) : XRes := (if (yC_has x1 x4) = (0 : Int32) then k45 x1 x2 x3 (x4 + (1 : Int32)) μ else (if ¬ (yC_has x2 x4) = (0 : Int32) then k45 x1 x2 x3 (x4 + (1 : Int32)) μ else (if ¬ s0 = (0 : Int32) then k45 x1 x2 x3 (x4 + (1 : Int32)) μ else some (.inl (some (.int (0 : Int32))), μ))))
theorem yC_members_b83_ok {L : Nat} {xs : Nat → Int32} (k45 : Int32 → Int32 → Int32 → Int32 → XMu → XRes) (hk45 : ∀ (d5 : Option Int32) (x1 : Int32) (x2 : Int32) (x3 : Int32) (x4 : Int32) (μ : XMu), XB L xs 69 45 [some (.ref 0), some (.int x1), some (.int x2), some (.int x3), some (.int x4), (xdl d5)] [] μ (k45 x1 x2 x3 x4 μ)) (d5 : Option Int32) (x1 : Int32) (x2 : Int32) (x3 : Int32) (x4 : Int32) (s0 : Int32) (μ : XMu) : XB L xs 69 83 [some (.ref 0), some (.int x1), some (.int x2), some (.int x3), some (.int x4), (xdl d5)] [(.int s0)] μ (yC_members_b83 k45 x1 x2 x3 x4 s0 μ) := by
  unfold yC_members_b83
  refine XB.go 3 (pc' := 88) (ls' := [some (.ref 0), some (.int x1), some (.int x2), some (.int x3), some (.int x4), some (.int s0)]) (st' := [(.int x4), (.int x1)]) (μ' := μ) rfl ?_
  refine XB.cp rfl rfl rfl (yC_has_ok x1 x4 μ) ?_
  refine XB.ifz (P := (yC_has x1 x4) = (0 : Int32)) rfl rfl rfl (fun c91 => ?_) (fun c91 => ?_)
  · refine XB.go 2 (pc' := 45) (ls' := [some (.ref 0), some (.int x1), some (.int x2), some (.int x3), some (.int (x4 + (1 : Int32))), some (.int s0)]) (st' := []) (μ' := μ) rfl ?_
    exact hk45 (some s0) x1 x2 x3 (x4 + (1 : Int32)) μ
  · refine XB.go 2 (pc' := 97) (ls' := [some (.ref 0), some (.int x1), some (.int x2), some (.int x3), some (.int x4), some (.int s0)]) (st' := [(.int x4), (.int x2)]) (μ' := μ) rfl ?_
    refine XB.cp rfl rfl rfl (yC_has_ok x2 x4 μ) ?_
    refine XB.ifz (P := ¬ (yC_has x2 x4) = (0 : Int32)) rfl rfl rfl (fun c100 => ?_) (fun c100 => ?_)
    · refine XB.go 2 (pc' := 45) (ls' := [some (.ref 0), some (.int x1), some (.int x2), some (.int x3), some (.int (x4 + (1 : Int32))), some (.int s0)]) (st' := []) (μ' := μ) rfl ?_
      exact hk45 (some s0) x1 x2 x3 (x4 + (1 : Int32)) μ
    · refine XB.go 1 (pc' := 105) (ls' := [some (.ref 0), some (.int x1), some (.int x2), some (.int x3), some (.int x4), some (.int s0)]) (st' := [(.int s0)]) (μ' := μ) rfl ?_
      refine XB.ifz (P := ¬ s0 = (0 : Int32)) rfl rfl rfl (fun c105 => ?_) (fun c105 => ?_)
      · refine XB.go 2 (pc' := 45) (ls' := [some (.ref 0), some (.int x1), some (.int x2), some (.int x3), some (.int (x4 + (1 : Int32))), some (.int s0)]) (st' := []) (μ' := μ) rfl ?_
        exact hk45 (some s0) x1 x2 x3 (x4 + (1 : Int32)) μ
      · refine XB.go 1 (pc' := 109) (ls' := [some (.ref 0), some (.int x1), some (.int x2), some (.int x3), some (.int x4), some (.int s0)]) (st' := [(.int (0 : Int32))]) (μ' := μ) rfl ?_
        exact XB.fin rfl
def yC_members_b82 (k45 : Int32 → Int32 → Int32 → Int32 → XMu → XRes) (x1 : Int32) (x2 : Int32) (x3 : Int32) (x4 : Int32) (μ : XMu) : XRes := yC_members_b83 k45 x1 x2 x3 x4 (0 : Int32) μ
theorem yC_members_b82_ok {L : Nat} {xs : Nat → Int32} (k45 : Int32 → Int32 → Int32 → Int32 → XMu → XRes) (hk45 : ∀ (d5 : Option Int32) (x1 : Int32) (x2 : Int32) (x3 : Int32) (x4 : Int32) (μ : XMu), XB L xs 69 45 [some (.ref 0), some (.int x1), some (.int x2), some (.int x3), some (.int x4), (xdl d5)] [] μ (k45 x1 x2 x3 x4 μ)) (d5 : Option Int32) (x1 : Int32) (x2 : Int32) (x3 : Int32) (x4 : Int32) (μ : XMu) : XB L xs 69 82 [some (.ref 0), some (.int x1), some (.int x2), some (.int x3), some (.int x4), (xdl d5)] [] μ (yC_members_b82 k45 x1 x2 x3 x4 μ) := by
  unfold yC_members_b82
  refine XB.go 1 (pc' := 83) (ls' := [some (.ref 0), some (.int x1), some (.int x2), some (.int x3), some (.int x4), (xdl d5)]) (st' := [(.int (0 : Int32))]) (μ' := μ) rfl ?_
  exact yC_members_b83_ok k45 hk45 (d5) x1 x2 x3 x4 (0 : Int32) μ
def yC_members_b45 (k45 : Int32 → Int32 → Int32 → Int32 → XMu → XRes) (x1 : Int32) (x2 : Int32) (x3 : Int32) (x4 : Int32) (μ : XMu) : XRes := (if (7 : Int32) ≤ x4 then yC_members_b116  x1 x2 x3 μ else (if (yC_has x3 x4) = (0 : Int32) then yC_members_b82 k45 x1 x2 x3 x4 μ else xgd (xin x4 7) ((if (μ.2.1 13 (x4).toNatClampNeg) < (μ.2.1 0 11) then yC_members_b82 k45 x1 x2 x3 x4 μ else yC_members_b83 k45 x1 x2 x3 x4 (1 : Int32) μ))))
theorem yC_members_b45_ok {L : Nat} {xs : Nat → Int32} (k45 : Int32 → Int32 → Int32 → Int32 → XMu → XRes) (hk45 : ∀ (d5 : Option Int32) (x1 : Int32) (x2 : Int32) (x3 : Int32) (x4 : Int32) (μ : XMu), XB L xs 69 45 [some (.ref 0), some (.int x1), some (.int x2), some (.int x3), some (.int x4), (xdl d5)] [] μ (k45 x1 x2 x3 x4 μ)) (d5 : Option Int32) (x1 : Int32) (x2 : Int32) (x3 : Int32) (x4 : Int32) (μ : XMu) : XB L xs 69 45 [some (.ref 0), some (.int x1), some (.int x2), some (.int x3), some (.int x4), (xdl d5)] [] μ (yC_members_b45 k45 x1 x2 x3 x4 μ) := by
  unfold yC_members_b45
  refine XB.go 2 (pc' := 49) (ls' := [some (.ref 0), some (.int x1), some (.int x2), some (.int x3), some (.int x4), (xdl d5)]) (st' := [(.int (7 : Int32)), (.int x4)]) (μ' := μ) rfl ?_
  refine XB.icmp (P := (7 : Int32) ≤ x4) rfl rfl rfl (fun c49 => ?_) (fun c49 => ?_)
  · exact yC_members_b116_ok  (some x4) (d5) x1 x2 x3 μ
  · refine XB.go 2 (pc' := 55) (ls' := [some (.ref 0), some (.int x1), some (.int x2), some (.int x3), some (.int x4), (xdl d5)]) (st' := [(.int x4), (.int x3)]) (μ' := μ) rfl ?_
    refine XB.cp rfl rfl rfl (yC_has_ok x3 x4 μ) ?_
    refine XB.ifz (P := (yC_has x3 x4) = (0 : Int32)) rfl rfl rfl (fun c58 => ?_) (fun c58 => ?_)
    · exact yC_members_b82_ok k45 hk45 (d5) x1 x2 x3 x4 μ
    · refine XB.go 4 (pc' := 70) (ls' := [some (.ref 0), some (.int x1), some (.int x2), some (.int x3), some (.int x4), (xdl d5)]) (st' := [(.int x4), (.ref 13)]) (μ' := μ) rfl ?_
      refine XB.gd (pc' := 71) (ls' := [some (.ref 0), some (.int x1), some (.int x2), some (.int x3), some (.int x4), (xdl d5)]) (st' := [(.int (μ.2.1 13 (x4).toNatClampNeg))]) (μ' := μ) rfl rfl rfl (fun hb => xbT hb) ?_
      refine XB.go 2 (pc' := 75) (ls' := [some (.ref 0), some (.int x1), some (.int x2), some (.int x3), some (.int x4), (xdl d5)]) (st' := [(.int (μ.2.1 0 11)), (.int (μ.2.1 13 (x4).toNatClampNeg))]) (μ' := μ) rfl ?_
      refine XB.icmp (P := (μ.2.1 13 (x4).toNatClampNeg) < (μ.2.1 0 11)) rfl rfl rfl (fun c75 => ?_) (fun c75 => ?_)
      · exact yC_members_b82_ok k45 hk45 (d5) x1 x2 x3 x4 μ
      · refine XB.go 2 (pc' := 83) (ls' := [some (.ref 0), some (.int x1), some (.int x2), some (.int x3), some (.int x4), (xdl d5)]) (st' := [(.int (1 : Int32))]) (μ' := μ) rfl ?_
        exact yC_members_b83_ok k45 hk45 (d5) x1 x2 x3 x4 (1 : Int32) μ
def yC_members_b45_L  : Nat → Int32 → Int32 → Int32 → Int32 → XMu → XRes
  | 0 => fun _ _ _ _ _ => none
  | n + 1 => yC_members_b45 (yC_members_b45_L  n)
theorem yC_members_b45_Lok {L : Nat} {xs : Nat → Int32}  : ∀ (n : Nat) (d5 : Option Int32) (x1 : Int32) (x2 : Int32) (x3 : Int32) (x4 : Int32) (μ : XMu), XB L xs 69 45 [some (.ref 0), some (.int x1), some (.int x2), some (.int x3), some (.int x4), (xdl d5)] [] μ (yC_members_b45_L  n x1 x2 x3 x4 μ) := by
  intro n
  induction n with
  | zero => intro d5 x1 x2 x3 x4 μ r h; cases h
  | succ n ih => intro d5 x1 x2 x3 x4 μ; exact yC_members_b45_ok (yC_members_b45_L  n) ih d5 x1 x2 x3 x4 μ
def yC_members (a1 : Int32) (μ : XMu) : XRes := (if (yC_mayChangeMembers μ) = (0 : Int32) then some (.inl (some (.int (0 : Int32))), μ) else (if a1 < (1 : Int32) then some (.inl (some (.int (0 : Int32))), μ) else (if a1 ≤ (127 : Int32) then yC_members_b45_L  1000 a1 (yC_oldOf (μ.2.1 28 13)) (yC_learnersOf (μ.2.1 28 13)) (0 : Int32) μ else some (.inl (some (.int (0 : Int32))), μ))))
theorem yC_members_ok {L : Nat} {xs : Nat → Int32} (a1 : Int32) (μ : XMu) : XB L xs 69 0 [some (.ref 0), some (.int a1), none, none, none, none] [] μ (yC_members a1 μ) := by
  unfold yC_members
  refine XB.go 1 (pc' := 1) (ls' := [some (.ref 0), some (.int a1), none, none, none, none]) (st' := [(.ref 0)]) (μ' := μ) rfl ?_
  refine XB.cp rfl rfl rfl (yC_mayChangeMembers_ok μ) ?_
  refine XB.ifz (P := (yC_mayChangeMembers μ) = (0 : Int32)) rfl rfl rfl (fun c4 => ?_) (fun c4 => ?_)
  · refine XB.go 1 (pc' := 19) (ls' := [some (.ref 0), some (.int a1), none, none, none, none]) (st' := [(.int (0 : Int32))]) (μ' := μ) rfl ?_
    exact XB.fin rfl
  · refine XB.go 2 (pc' := 9) (ls' := [some (.ref 0), some (.int a1), none, none, none, none]) (st' := [(.int (1 : Int32)), (.int a1)]) (μ' := μ) rfl ?_
    refine XB.icmp (P := a1 < (1 : Int32)) rfl rfl rfl (fun c9 => ?_) (fun c9 => ?_)
    · refine XB.go 1 (pc' := 19) (ls' := [some (.ref 0), some (.int a1), none, none, none, none]) (st' := [(.int (0 : Int32))]) (μ' := μ) rfl ?_
      exact XB.fin rfl
    · refine XB.go 2 (pc' := 15) (ls' := [some (.ref 0), some (.int a1), none, none, none, none]) (st' := [(.int (127 : Int32)), (.int a1)]) (μ' := μ) rfl ?_
      refine XB.icmp (P := a1 ≤ (127 : Int32)) rfl rfl rfl (fun c15 => ?_) (fun c15 => ?_)
      · refine XB.go 3 (pc' := 27) (ls' := [some (.ref 0), some (.int a1), none, none, none, none]) (st' := [(.int (μ.2.1 28 13))]) (μ' := μ) rfl ?_
        refine XB.cp rfl rfl rfl (yC_oldOf_ok (μ.2.1 28 13) μ) ?_
        refine XB.go 4 (pc' := 38) (ls' := [some (.ref 0), some (.int a1), some (.int (yC_oldOf (μ.2.1 28 13))), none, none, none]) (st' := [(.int (μ.2.1 28 13))]) (μ' := μ) rfl ?_
        refine XB.cp rfl rfl rfl (yC_learnersOf_ok (μ.2.1 28 13) μ) ?_
        refine XB.go 3 (pc' := 45) (ls' := [some (.ref 0), some (.int a1), some (.int (yC_oldOf (μ.2.1 28 13))), some (.int (yC_learnersOf (μ.2.1 28 13))), some (.int (0 : Int32)), none]) (st' := []) (μ' := μ) rfl ?_
        exact yC_members_b45_Lok  1000 (none) a1 (yC_oldOf (μ.2.1 28 13)) (yC_learnersOf (μ.2.1 28 13)) (0 : Int32) μ
      · refine XB.go 1 (pc' := 19) (ls' := [some (.ref 0), some (.int a1), none, none, none, none]) (st' := [(.int (0 : Int32))]) (μ' := μ) rfl ?_
        exact XB.fin rfl
/-- LogServer.learners(I)Z -/
def yC_learners (a1 : Int32) (μ : XMu) : XRes := (if (yC_mayChangeMembers μ) = (0 : Int32) then some (.inl (some (.int (0 : Int32))), μ) else (if a1 < (0 : Int32) then some (.inl (some (.int (0 : Int32))), μ) else (if (127 : Int32) < a1 then some (.inl (some (.int (0 : Int32))), μ) else (if (a1 &&& (yC_oldOf (μ.2.1 28 13))) = (0 : Int32) then xbv (yDi_write (μ.2.1 28 3) (1 : Int32) (yC_codeOf (yC_oldOf (μ.2.1 28 13)) (0 : Int32) a1) μ) (fun m1 => xbv (yC_sendToPeers (0 : Int32) m1) (fun m2 => some (.inl (some (.int (1 : Int32))), m2))) else some (.inl (some (.int (0 : Int32))), μ)))))
theorem yC_learners_ok {L : Nat} {xs : Nat → Int32} (a1 : Int32) (μ : XMu) : XB L xs 70 0 [some (.ref 0), some (.int a1), none] [] μ (yC_learners a1 μ) := by
  unfold yC_learners
  refine XB.go 3 (pc' := 7) (ls' := [some (.ref 0), some (.int a1), none]) (st' := [(.int (μ.2.1 28 13))]) (μ' := μ) rfl ?_
  refine XB.cp rfl rfl rfl (yC_oldOf_ok (μ.2.1 28 13) μ) ?_
  refine XB.go 2 (pc' := 12) (ls' := [some (.ref 0), some (.int a1), some (.int (yC_oldOf (μ.2.1 28 13)))]) (st' := [(.ref 0)]) (μ' := μ) rfl ?_
  refine XB.cp rfl rfl rfl (yC_mayChangeMembers_ok μ) ?_
  refine XB.ifz (P := (yC_mayChangeMembers μ) = (0 : Int32)) rfl rfl rfl (fun c15 => ?_) (fun c15 => ?_)
  · refine XB.go 1 (pc' := 35) (ls' := [some (.ref 0), some (.int a1), some (.int (yC_oldOf (μ.2.1 28 13)))]) (st' := [(.int (0 : Int32))]) (μ' := μ) rfl ?_
    exact XB.fin rfl
  · refine XB.go 1 (pc' := 19) (ls' := [some (.ref 0), some (.int a1), some (.int (yC_oldOf (μ.2.1 28 13)))]) (st' := [(.int a1)]) (μ' := μ) rfl ?_
    refine XB.ifz (P := a1 < (0 : Int32)) rfl rfl rfl (fun c19 => ?_) (fun c19 => ?_)
    · refine XB.go 1 (pc' := 35) (ls' := [some (.ref 0), some (.int a1), some (.int (yC_oldOf (μ.2.1 28 13)))]) (st' := [(.int (0 : Int32))]) (μ' := μ) rfl ?_
      exact XB.fin rfl
    · refine XB.go 2 (pc' := 25) (ls' := [some (.ref 0), some (.int a1), some (.int (yC_oldOf (μ.2.1 28 13)))]) (st' := [(.int (127 : Int32)), (.int a1)]) (μ' := μ) rfl ?_
      refine XB.icmp (P := (127 : Int32) < a1) rfl rfl rfl (fun c25 => ?_) (fun c25 => ?_)
      · refine XB.go 1 (pc' := 35) (ls' := [some (.ref 0), some (.int a1), some (.int (yC_oldOf (μ.2.1 28 13)))]) (st' := [(.int (0 : Int32))]) (μ' := μ) rfl ?_
        exact XB.fin rfl
      · refine XB.go 3 (pc' := 31) (ls' := [some (.ref 0), some (.int a1), some (.int (yC_oldOf (μ.2.1 28 13)))]) (st' := [(.int (a1 &&& (yC_oldOf (μ.2.1 28 13))))]) (μ' := μ) rfl ?_
        refine XB.ifz (P := (a1 &&& (yC_oldOf (μ.2.1 28 13))) = (0 : Int32)) rfl rfl rfl (fun c31 => ?_) (fun c31 => ?_)
        · refine XB.go 9 (pc' := 51) (ls' := [some (.ref 0), some (.int a1), some (.int (yC_oldOf (μ.2.1 28 13)))]) (st' := [(.int a1), (.int (0 : Int32)), (.int (yC_oldOf (μ.2.1 28 13))), (.int (1 : Int32)), (.int (μ.2.1 28 3)), (.ref 28)]) (μ' := μ) rfl ?_
          refine XB.cp rfl rfl rfl (yC_codeOf_ok (yC_oldOf (μ.2.1 28 13)) (0 : Int32) a1 μ) ?_
          refine XB.cv rfl rfl rfl rfl rfl (yDi_write_ok (μ.2.1 28 3) (1 : Int32) (yC_codeOf (yC_oldOf (μ.2.1 28 13)) (0 : Int32) a1) μ) (fun m1 => ?_)
          refine XB.go 2 (pc' := 59) (ls' := [some (.ref 0), some (.int a1), some (.int (yC_oldOf (μ.2.1 28 13)))]) (st' := [(.int (0 : Int32)), (.ref 0)]) (μ' := m1) rfl ?_
          refine XB.cv rfl rfl rfl rfl rfl (yC_sendToPeers_ok (0 : Int32) m1) (fun m2 => ?_)
          refine XB.go 1 (pc' := 63) (ls' := [some (.ref 0), some (.int a1), some (.int (yC_oldOf (μ.2.1 28 13)))]) (st' := [(.int (1 : Int32))]) (μ' := m2) rfl ?_
          exact XB.fin rfl
        · refine XB.go 1 (pc' := 35) (ls' := [some (.ref 0), some (.int a1), some (.int (yC_oldOf (μ.2.1 28 13)))]) (st' := [(.int (0 : Int32))]) (μ' := μ) rfl ?_
          exact XB.fin rfl
/-- LogServer.isOtherServer(I)Z -/
def yC_isOtherServer (a1 : Int32) (μ : XMu) : Int32 := (if a1 < (0 : Int32) then (0 : Int32) else (if (7 : Int32) ≤ a1 then (0 : Int32) else (if a1 = (μ.2.1 0 0) then (0 : Int32) else (1 : Int32))))
theorem yC_isOtherServer_ok {L : Nat} {xs : Nat → Int32} (a1 : Int32) (μ : XMu) : XB L xs 71 0 [some (.ref 0), some (.int a1)] [] μ (some (.inl (some (.int (yC_isOtherServer a1 μ))), μ)) := by
  unfold yC_isOtherServer
  refine XB.go 1 (pc' := 1) (ls' := [some (.ref 0), some (.int a1)]) (st' := [(.int a1)]) (μ' := μ) rfl ?_
  refine XB.ifzv (P := a1 < (0 : Int32)) rfl rfl rfl (fun c1 => ?_) (fun c1 => ?_)
  · refine XB.go 1 (pc' := 23) (ls' := [some (.ref 0), some (.int a1)]) (st' := [(.int (0 : Int32))]) (μ' := μ) rfl ?_
    exact XB.fin rfl
  · refine XB.go 2 (pc' := 7) (ls' := [some (.ref 0), some (.int a1)]) (st' := [(.int (7 : Int32)), (.int a1)]) (μ' := μ) rfl ?_
    refine XB.icmpv (P := (7 : Int32) ≤ a1) rfl rfl rfl (fun c7 => ?_) (fun c7 => ?_)
    · refine XB.go 1 (pc' := 23) (ls' := [some (.ref 0), some (.int a1)]) (st' := [(.int (0 : Int32))]) (μ' := μ) rfl ?_
      exact XB.fin rfl
    · refine XB.go 3 (pc' := 15) (ls' := [some (.ref 0), some (.int a1)]) (st' := [(.int (μ.2.1 0 0)), (.int a1)]) (μ' := μ) rfl ?_
      refine XB.icmpv (P := a1 = (μ.2.1 0 0)) rfl rfl rfl (fun c15 => ?_) (fun c15 => ?_)
      · refine XB.go 1 (pc' := 23) (ls' := [some (.ref 0), some (.int a1)]) (st' := [(.int (0 : Int32))]) (μ' := μ) rfl ?_
        exact XB.fin rfl
      · refine XB.go 2 (pc' := 23) (ls' := [some (.ref 0), some (.int a1)]) (st' := [(.int (1 : Int32))]) (μ' := μ) rfl ?_
        exact XB.fin rfl
theorem yC_isOtherServer_01 (a1 : Int32) (μ : XMu) : x01 (yC_isOtherServer a1 μ) = true := by
  unfold yC_isOtherServer
  repeat (first | rfl | (exact rfl) | split)
/-- LogServer.sendGo(I)V -/
def yC_sendGo (a1 : Int32) (μ : XMu) : XRes := xbv (yMa_begin a1 (9 : Int32) (μ.2.1 28 3) μ) (fun m1 => xbv (yMa_post (m1.2.1 28 11) m1) (fun m2 => some (.inl none, m2)))
theorem yC_sendGo_ok {L : Nat} {xs : Nat → Int32} (a1 : Int32) (μ : XMu) : XB L xs 72 0 [some (.ref 0), some (.int a1)] [] μ (yC_sendGo a1 μ) := by
  unfold yC_sendGo
  refine XB.go 7 (pc' := 14) (ls' := [some (.ref 0), some (.int a1)]) (st' := [(.int (μ.2.1 28 3)), (.int (9 : Int32)), (.int a1), (.ref 1)]) (μ' := μ) rfl ?_
  refine XB.cv rfl rfl rfl rfl rfl (yMa_begin_ok a1 (9 : Int32) (μ.2.1 28 3) μ) (fun m1 => ?_)
  refine XB.go 5 (pc' := 28) (ls' := [some (.ref 0), some (.int a1)]) (st' := [(.int (m1.2.1 28 11)), (.ref 1)]) (μ' := m1) rfl ?_
  refine XB.cv rfl rfl rfl rfl rfl (yMa_post_ok (m1.2.1 28 11) m1) (fun m2 => ?_)
  exact XB.fin rfl
/-- LogServer.hand(I)Z -/
def yC_hand (a1 : Int32) (μ : XMu) : XRes := (if ¬ (μ.2.1 0 9) = (3 : Int32) then some (.inl (some (.int (0 : Int32))), μ) else (if ¬ (μ.2.1 0 16) = (-1 : Int32) then some (.inl (some (.int (0 : Int32))), μ) else (if (yC_isOtherServer a1 μ) = (0 : Int32) then some (.inl (some (.int (0 : Int32))), μ) else (if ¬ (yC_has (yC_voters μ) a1) = (0 : Int32) then xgd (xin a1 7) ((if ¬ (μ.2.1 13 (a1).toNatClampNeg) = (μ.2.1 28 9) then xbv (yC_sendTo a1 (0 : Int32) (μ.1, (xuI (xuI μ.2.1 0 16 a1) 0 17 (μ.2.1 0 8)), μ.2.2)) (fun m1 => some (.inl (some (.int (1 : Int32))), m1)) else xbv (yC_sendGo a1 (μ.1, (xuI (xuI μ.2.1 0 16 a1) 0 17 (μ.2.1 0 8)), μ.2.2)) (fun m2 => some (.inl (some (.int (1 : Int32))), m2)))) else some (.inl (some (.int (0 : Int32))), μ)))))
theorem yC_hand_ok {L : Nat} {xs : Nat → Int32} (a1 : Int32) (μ : XMu) : XB L xs 73 0 [some (.ref 0), some (.int a1)] [] μ (yC_hand a1 μ) := by
  unfold yC_hand
  refine XB.go 3 (pc' := 5) (ls' := [some (.ref 0), some (.int a1)]) (st' := [(.int (3 : Int32)), (.int (μ.2.1 0 9))]) (μ' := μ) rfl ?_
  refine XB.icmp (P := ¬ (μ.2.1 0 9) = (3 : Int32)) rfl rfl rfl (fun c5 => ?_) (fun c5 => ?_)
  · refine XB.go 1 (pc' := 36) (ls' := [some (.ref 0), some (.int a1)]) (st' := [(.int (0 : Int32))]) (μ' := μ) rfl ?_
    exact XB.fin rfl
  · refine XB.go 3 (pc' := 13) (ls' := [some (.ref 0), some (.int a1)]) (st' := [(.int (-1 : Int32)), (.int (μ.2.1 0 16))]) (μ' := μ) rfl ?_
    refine XB.icmp (P := ¬ (μ.2.1 0 16) = (-1 : Int32)) rfl rfl rfl (fun c13 => ?_) (fun c13 => ?_)
    · refine XB.go 1 (pc' := 36) (ls' := [some (.ref 0), some (.int a1)]) (st' := [(.int (0 : Int32))]) (μ' := μ) rfl ?_
      exact XB.fin rfl
    · refine XB.go 2 (pc' := 18) (ls' := [some (.ref 0), some (.int a1)]) (st' := [(.int a1), (.ref 0)]) (μ' := μ) rfl ?_
      refine XB.cp rfl rfl rfl (yC_isOtherServer_ok a1 μ) ?_
      refine XB.ifz (P := (yC_isOtherServer a1 μ) = (0 : Int32)) rfl rfl rfl (fun c21 => ?_) (fun c21 => ?_)
      · refine XB.go 1 (pc' := 36) (ls' := [some (.ref 0), some (.int a1)]) (st' := [(.int (0 : Int32))]) (μ' := μ) rfl ?_
        exact XB.fin rfl
      · refine XB.go 1 (pc' := 25) (ls' := [some (.ref 0), some (.int a1)]) (st' := [(.ref 0)]) (μ' := μ) rfl ?_
        refine XB.cp rfl rfl rfl (yC_voters_ok μ) ?_
        refine XB.go 1 (pc' := 29) (ls' := [some (.ref 0), some (.int a1)]) (st' := [(.int a1), (.int (yC_voters μ))]) (μ' := μ) rfl ?_
        refine XB.cp rfl rfl rfl (yC_has_ok (yC_voters μ) a1 μ) ?_
        refine XB.ifz (P := ¬ (yC_has (yC_voters μ) a1) = (0 : Int32)) rfl rfl rfl (fun c32 => ?_) (fun c32 => ?_)
        · refine XB.go 11 (pc' := 58) (ls' := [some (.ref 0), some (.int a1)]) (st' := [(.int a1), (.ref 13)]) (μ' := (μ.1, (xuI (xuI μ.2.1 0 16 a1) 0 17 (μ.2.1 0 8)), μ.2.2)) rfl ?_
          refine XB.gd (pc' := 59) (ls' := [some (.ref 0), some (.int a1)]) (st' := [(.int (μ.2.1 13 (a1).toNatClampNeg))]) (μ' := (μ.1, (xuI (xuI μ.2.1 0 16 a1) 0 17 (μ.2.1 0 8)), μ.2.2)) rfl rfl rfl (fun hb => xbT hb) ?_
          refine XB.go 3 (pc' := 66) (ls' := [some (.ref 0), some (.int a1)]) (st' := [(.int (μ.2.1 28 9)), (.int (μ.2.1 13 (a1).toNatClampNeg))]) (μ' := (μ.1, (xuI (xuI μ.2.1 0 16 a1) 0 17 (μ.2.1 0 8)), μ.2.2)) rfl ?_
          refine XB.icmp (P := ¬ (μ.2.1 13 (a1).toNatClampNeg) = (μ.2.1 28 9)) rfl rfl rfl (fun c66 => ?_) (fun c66 => ?_)
          · refine XB.go 3 (pc' := 80) (ls' := [some (.ref 0), some (.int a1)]) (st' := [(.int (0 : Int32)), (.int a1), (.ref 0)]) (μ' := (μ.1, (xuI (xuI μ.2.1 0 16 a1) 0 17 (μ.2.1 0 8)), μ.2.2)) rfl ?_
            refine XB.cv rfl rfl rfl rfl rfl (yC_sendTo_ok a1 (0 : Int32) (μ.1, (xuI (xuI μ.2.1 0 16 a1) 0 17 (μ.2.1 0 8)), μ.2.2)) (fun m1 => ?_)
            refine XB.go 1 (pc' := 84) (ls' := [some (.ref 0), some (.int a1)]) (st' := [(.int (1 : Int32))]) (μ' := m1) rfl ?_
            exact XB.fin rfl
          · refine XB.go 2 (pc' := 71) (ls' := [some (.ref 0), some (.int a1)]) (st' := [(.int a1), (.ref 0)]) (μ' := (μ.1, (xuI (xuI μ.2.1 0 16 a1) 0 17 (μ.2.1 0 8)), μ.2.2)) rfl ?_
            refine XB.cv rfl rfl rfl rfl rfl (yC_sendGo_ok a1 (μ.1, (xuI (xuI μ.2.1 0 16 a1) 0 17 (μ.2.1 0 8)), μ.2.2)) (fun m2 => ?_)
            refine XB.go 2 (pc' := 84) (ls' := [some (.ref 0), some (.int a1)]) (st' := [(.int (1 : Int32))]) (μ' := m2) rfl ?_
            exact XB.fin rfl
        · refine XB.go 1 (pc' := 36) (ls' := [some (.ref 0), some (.int a1)]) (st' := [(.int (0 : Int32))]) (μ' := μ) rfl ?_
          exact XB.fin rfl
/-- LogServer.serversFrom([II)I -/
def yC_serversFrom_r18_b4 (k4 : Int32 → Int32 → Int32 → XMu → XRes) (x1 : Int32) (x2 : Int32) (x3 : Int32) (μ : XMu) : XRes := (if (7 : Int32) ≤ x3 then some (.inl (some (.int x2)), μ) else xgd (xin x3 7) ((if (μ.2.1 18 (x3).toNatClampNeg) < x1 then k4 x1 x2 (x3 + (1 : Int32)) μ else k4 x1 (x2 ||| (yC_bit x3)) (x3 + (1 : Int32)) μ)))
theorem yC_serversFrom_r18_b4_ok {L : Nat} {xs : Nat → Int32} (k4 : Int32 → Int32 → Int32 → XMu → XRes) (hk4 : ∀  (x1 : Int32) (x2 : Int32) (x3 : Int32) (μ : XMu), XB L xs 38 4 [some (.ref 18), some (.int x1), some (.int x2), some (.int x3)] [] μ (k4 x1 x2 x3 μ))  (x1 : Int32) (x2 : Int32) (x3 : Int32) (μ : XMu) : XB L xs 38 4 [some (.ref 18), some (.int x1), some (.int x2), some (.int x3)] [] μ (yC_serversFrom_r18_b4 k4 x1 x2 x3 μ) := by
  unfold yC_serversFrom_r18_b4
  refine XB.go 2 (pc' := 7) (ls' := [some (.ref 18), some (.int x1), some (.int x2), some (.int x3)]) (st' := [(.int (7 : Int32)), (.int x3)]) (μ' := μ) rfl ?_
  refine XB.icmp (P := (7 : Int32) ≤ x3) rfl rfl rfl (fun c7 => ?_) (fun c7 => ?_)
  · refine XB.go 1 (pc' := 31) (ls' := [some (.ref 18), some (.int x1), some (.int x2), some (.int x3)]) (st' := [(.int x2)]) (μ' := μ) rfl ?_
    exact XB.fin rfl
  · refine XB.go 2 (pc' := 12) (ls' := [some (.ref 18), some (.int x1), some (.int x2), some (.int x3)]) (st' := [(.int x3), (.ref 18)]) (μ' := μ) rfl ?_
    refine XB.gd (pc' := 13) (ls' := [some (.ref 18), some (.int x1), some (.int x2), some (.int x3)]) (st' := [(.int (μ.2.1 18 (x3).toNatClampNeg))]) (μ' := μ) rfl rfl rfl (fun hb => xbT hb) ?_
    refine XB.go 1 (pc' := 14) (ls' := [some (.ref 18), some (.int x1), some (.int x2), some (.int x3)]) (st' := [(.int x1), (.int (μ.2.1 18 (x3).toNatClampNeg))]) (μ' := μ) rfl ?_
    refine XB.icmp (P := (μ.2.1 18 (x3).toNatClampNeg) < x1) rfl rfl rfl (fun c14 => ?_) (fun c14 => ?_)
    · refine XB.go 2 (pc' := 4) (ls' := [some (.ref 18), some (.int x1), some (.int x2), some (.int (x3 + (1 : Int32)))]) (st' := []) (μ' := μ) rfl ?_
      exact hk4  x1 x2 (x3 + (1 : Int32)) μ
    · refine XB.go 2 (pc' := 19) (ls' := [some (.ref 18), some (.int x1), some (.int x2), some (.int x3)]) (st' := [(.int x3), (.int x2)]) (μ' := μ) rfl ?_
      refine XB.cp rfl rfl rfl (yC_bit_ok x3 μ) ?_
      refine XB.go 4 (pc' := 4) (ls' := [some (.ref 18), some (.int x1), some (.int (x2 ||| (yC_bit x3))), some (.int (x3 + (1 : Int32)))]) (st' := []) (μ' := μ) rfl ?_
      exact hk4  x1 (x2 ||| (yC_bit x3)) (x3 + (1 : Int32)) μ
def yC_serversFrom_r18_b4_L  : Nat → Int32 → Int32 → Int32 → XMu → XRes
  | 0 => fun _ _ _ _ => none
  | n + 1 => yC_serversFrom_r18_b4 (yC_serversFrom_r18_b4_L  n)
theorem yC_serversFrom_r18_b4_Lok {L : Nat} {xs : Nat → Int32}  : ∀ (n : Nat)  (x1 : Int32) (x2 : Int32) (x3 : Int32) (μ : XMu), XB L xs 38 4 [some (.ref 18), some (.int x1), some (.int x2), some (.int x3)] [] μ (yC_serversFrom_r18_b4_L  n x1 x2 x3 μ) := by
  intro n
  induction n with
  | zero => intro  x1 x2 x3 μ r h; cases h
  | succ n ih => intro  x1 x2 x3 μ; exact yC_serversFrom_r18_b4_ok (yC_serversFrom_r18_b4_L  n) ih  x1 x2 x3 μ
def yC_serversFrom_r18 (a1 : Int32) (μ : XMu) : XRes := yC_serversFrom_r18_b4_L  1000 a1 (0 : Int32) (0 : Int32) μ
theorem yC_serversFrom_r18_ok {L : Nat} {xs : Nat → Int32} (a1 : Int32) (μ : XMu) : XB L xs 38 0 [some (.ref 18), some (.int a1), none, none] [] μ (yC_serversFrom_r18 a1 μ) := by
  unfold yC_serversFrom_r18
  refine XB.go 4 (pc' := 4) (ls' := [some (.ref 18), some (.int a1), some (.int (0 : Int32)), some (.int (0 : Int32))]) (st' := []) (μ' := μ) rfl ?_
  exact yC_serversFrom_r18_b4_Lok  1000  a1 (0 : Int32) (0 : Int32) μ
/-- LogServer.reachedByMajority([I)I -/
def yC_reachedByMajority_r18_b4 (k4 : Int32 → Int32 → XMu → XRes) (x2 : Int32) (x3 : Int32) (μ : XMu) : XRes := (if (7 : Int32) ≤ x3 then some (.inl (some (.int x2)), μ) else xgd (xin x3 7) ((if (μ.2.1 18 (x3).toNatClampNeg) ≤ x2 then k4 x2 (x3 + (1 : Int32)) μ else xgd (xin x3 7) (xbi (yC_serversFrom_r18 (μ.2.1 18 (x3).toNatClampNeg) μ) (fun r2 m1 => (if (yC_isMajority r2 m1) = (0 : Int32) then k4 x2 (x3 + (1 : Int32)) m1 else xgd (xin x3 7) (k4 (m1.2.1 18 (x3).toNatClampNeg) (x3 + (1 : Int32)) m1)))))))
theorem yC_reachedByMajority_r18_b4_ok {L : Nat} {xs : Nat → Int32} (k4 : Int32 → Int32 → XMu → XRes) (hk4 : ∀  (x2 : Int32) (x3 : Int32) (μ : XMu), XB L xs 39 4 [some (.ref 0), some (.ref 18), some (.int x2), some (.int x3)] [] μ (k4 x2 x3 μ))  (x2 : Int32) (x3 : Int32) (μ : XMu) : XB L xs 39 4 [some (.ref 0), some (.ref 18), some (.int x2), some (.int x3)] [] μ (yC_reachedByMajority_r18_b4 k4 x2 x3 μ) := by
  unfold yC_reachedByMajority_r18_b4
  refine XB.go 2 (pc' := 7) (ls' := [some (.ref 0), some (.ref 18), some (.int x2), some (.int x3)]) (st' := [(.int (7 : Int32)), (.int x3)]) (μ' := μ) rfl ?_
  refine XB.icmp (P := (7 : Int32) ≤ x3) rfl rfl rfl (fun c7 => ?_) (fun c7 => ?_)
  · refine XB.go 1 (pc' := 42) (ls' := [some (.ref 0), some (.ref 18), some (.int x2), some (.int x3)]) (st' := [(.int x2)]) (μ' := μ) rfl ?_
    exact XB.fin rfl
  · refine XB.go 2 (pc' := 12) (ls' := [some (.ref 0), some (.ref 18), some (.int x2), some (.int x3)]) (st' := [(.int x3), (.ref 18)]) (μ' := μ) rfl ?_
    refine XB.gd (pc' := 13) (ls' := [some (.ref 0), some (.ref 18), some (.int x2), some (.int x3)]) (st' := [(.int (μ.2.1 18 (x3).toNatClampNeg))]) (μ' := μ) rfl rfl rfl (fun hb => xbT hb) ?_
    refine XB.go 1 (pc' := 14) (ls' := [some (.ref 0), some (.ref 18), some (.int x2), some (.int x3)]) (st' := [(.int x2), (.int (μ.2.1 18 (x3).toNatClampNeg))]) (μ' := μ) rfl ?_
    refine XB.icmp (P := (μ.2.1 18 (x3).toNatClampNeg) ≤ x2) rfl rfl rfl (fun c14 => ?_) (fun c14 => ?_)
    · refine XB.go 2 (pc' := 4) (ls' := [some (.ref 0), some (.ref 18), some (.int x2), some (.int (x3 + (1 : Int32)))]) (st' := []) (μ' := μ) rfl ?_
      exact hk4  x2 (x3 + (1 : Int32)) μ
    · refine XB.go 4 (pc' := 21) (ls' := [some (.ref 0), some (.ref 18), some (.int x2), some (.int x3)]) (st' := [(.int x3), (.ref 18), (.ref 18), (.ref 0)]) (μ' := μ) rfl ?_
      refine XB.gd (pc' := 22) (ls' := [some (.ref 0), some (.ref 18), some (.int x2), some (.int x3)]) (st' := [(.int (μ.2.1 18 (x3).toNatClampNeg)), (.ref 18), (.ref 0)]) (μ' := μ) rfl rfl rfl (fun hb => xbT hb) ?_
      refine XB.ci rfl rfl rfl rfl rfl (yC_serversFrom_r18_ok (μ.2.1 18 (x3).toNatClampNeg) μ) (fun r2 m1 => ?_)
      refine XB.cp rfl rfl rfl (yC_isMajority_ok r2 m1) ?_
      refine XB.ifz (P := (yC_isMajority r2 m1) = (0 : Int32)) rfl rfl rfl (fun c28 => ?_) (fun c28 => ?_)
      · refine XB.go 2 (pc' := 4) (ls' := [some (.ref 0), some (.ref 18), some (.int x2), some (.int (x3 + (1 : Int32)))]) (st' := []) (μ' := m1) rfl ?_
        exact hk4  x2 (x3 + (1 : Int32)) m1
      · refine XB.go 2 (pc' := 33) (ls' := [some (.ref 0), some (.ref 18), some (.int x2), some (.int x3)]) (st' := [(.int x3), (.ref 18)]) (μ' := m1) rfl ?_
        refine XB.gd (pc' := 34) (ls' := [some (.ref 0), some (.ref 18), some (.int x2), some (.int x3)]) (st' := [(.int (m1.2.1 18 (x3).toNatClampNeg))]) (μ' := m1) rfl rfl rfl (fun hb => xbT hb) ?_
        refine XB.go 3 (pc' := 4) (ls' := [some (.ref 0), some (.ref 18), some (.int (m1.2.1 18 (x3).toNatClampNeg)), some (.int (x3 + (1 : Int32)))]) (st' := []) (μ' := m1) rfl ?_
        exact hk4  (m1.2.1 18 (x3).toNatClampNeg) (x3 + (1 : Int32)) m1
def yC_reachedByMajority_r18_b4_L  : Nat → Int32 → Int32 → XMu → XRes
  | 0 => fun _ _ _ => none
  | n + 1 => yC_reachedByMajority_r18_b4 (yC_reachedByMajority_r18_b4_L  n)
theorem yC_reachedByMajority_r18_b4_Lok {L : Nat} {xs : Nat → Int32}  : ∀ (n : Nat)  (x2 : Int32) (x3 : Int32) (μ : XMu), XB L xs 39 4 [some (.ref 0), some (.ref 18), some (.int x2), some (.int x3)] [] μ (yC_reachedByMajority_r18_b4_L  n x2 x3 μ) := by
  intro n
  induction n with
  | zero => intro  x2 x3 μ r h; cases h
  | succ n ih => intro  x2 x3 μ; exact yC_reachedByMajority_r18_b4_ok (yC_reachedByMajority_r18_b4_L  n) ih  x2 x3 μ
def yC_reachedByMajority_r18  (μ : XMu) : XRes := yC_reachedByMajority_r18_b4_L  1000 (0 : Int32) (0 : Int32) μ
theorem yC_reachedByMajority_r18_ok {L : Nat} {xs : Nat → Int32}  (μ : XMu) : XB L xs 39 0 [some (.ref 0), some (.ref 18), none, none] [] μ (yC_reachedByMajority_r18  μ) := by
  unfold yC_reachedByMajority_r18
  refine XB.go 4 (pc' := 4) (ls' := [some (.ref 0), some (.ref 18), some (.int (0 : Int32)), some (.int (0 : Int32))]) (st' := []) (μ' := μ) rfl ?_
  exact yC_reachedByMajority_r18_b4_Lok  1000  (0 : Int32) (0 : Int32) μ
/-- LogServer.ringLeading()V -/
def yC_ringLeading  (μ : XMu) : XRes := xgd (xin (μ.2.1 0 0) 7) (xbi (yC_reachedByMajority_r18 (μ.1, (xuI μ.2.1 18 ((μ.2.1 0 0)).toNatClampNeg (μ.2.1 0 8)), μ.2.2)) (fun r2 m1 => (if ((m1.2.1 0 8) - (100 : Int32)) ≤ r2 then xbv (yC_beat m1) (fun m3 => some (.inl none, m3)) else xbv (yC_stepDown (m1.2.1 28 3) (-1 : Int32) m1) (fun m4 => some (.inl none, m4)))))
theorem yC_ringLeading_ok {L : Nat} {xs : Nat → Int32}  (μ : XMu) : XB L xs 75 0 [some (.ref 0)] [] μ (yC_ringLeading  μ) := by
  unfold yC_ringLeading
  refine XB.go 7 (pc' := 15) (ls' := [some (.ref 0)]) (st' := [(.int (μ.2.1 0 8)), (.int (μ.2.1 0 0)), (.ref 18)]) (μ' := μ) rfl ?_
  refine XB.gd (pc' := 16) (ls' := [some (.ref 0)]) (st' := []) (μ' := (μ.1, (xuI μ.2.1 18 ((μ.2.1 0 0)).toNatClampNeg (μ.2.1 0 8)), μ.2.2)) rfl rfl rfl (fun hb => xbT hb) ?_
  refine XB.go 4 (pc' := 24) (ls' := [some (.ref 0)]) (st' := [(.ref 18), (.ref 0)]) (μ' := (μ.1, (xuI μ.2.1 18 ((μ.2.1 0 0)).toNatClampNeg (μ.2.1 0 8)), μ.2.2)) rfl ?_
  refine XB.ci rfl rfl rfl rfl rfl (yC_reachedByMajority_r18_ok (μ.1, (xuI μ.2.1 18 ((μ.2.1 0 0)).toNatClampNeg (μ.2.1 0 8)), μ.2.2)) (fun r2 m1 => ?_)
  refine XB.go 4 (pc' := 34) (ls' := [some (.ref 0)]) (st' := [(.int ((m1.2.1 0 8) - (100 : Int32))), (.int r2)]) (μ' := m1) rfl ?_
  refine XB.icmp (P := ((m1.2.1 0 8) - (100 : Int32)) ≤ r2) rfl rfl rfl (fun c34 => ?_) (fun c34 => ?_)
  · refine XB.go 1 (pc' := 53) (ls' := [some (.ref 0)]) (st' := [(.ref 0)]) (μ' := m1) rfl ?_
    refine XB.cv rfl rfl rfl rfl rfl (yC_beat_ok m1) (fun m3 => ?_)
    exact XB.fin rfl
  · refine XB.go 5 (pc' := 46) (ls' := [some (.ref 0)]) (st' := [(.int (-1 : Int32)), (.int (m1.2.1 28 3)), (.ref 0)]) (μ' := m1) rfl ?_
    refine XB.cv rfl rfl rfl rfl rfl (yC_stepDown_ok (m1.2.1 28 3) (-1 : Int32) m1) (fun m4 => ?_)
    refine XB.go 1 (pc' := 56) (ls' := [some (.ref 0)]) (st' := []) (μ' := m4) rfl ?_
    exact XB.fin rfl
/-- LogServer$Disk.lastTerm()I -/
def yDi_lastTerm  (μ : XMu) : XRes := xbi (yDi_termAt (μ.2.1 28 9) μ) (fun r2 m1 => some (.inl (some (.int r2)), m1))
theorem yDi_lastTerm_ok {L : Nat} {xs : Nat → Int32}  (μ : XMu) : XB L xs 76 0 [some (.ref 28)] [] μ (yDi_lastTerm  μ) := by
  unfold yDi_lastTerm
  refine XB.go 3 (pc' := 5) (ls' := [some (.ref 28)]) (st' := [(.int (μ.2.1 28 9)), (.ref 28)]) (μ' := μ) rfl ?_
  refine XB.ci rfl rfl rfl rfl rfl (yDi_termAt_ok (μ.2.1 28 9) μ) (fun r2 m1 => ?_)
  exact XB.fin rfl
/-- LogServer.sendToVoters(II)V -/
def yC_sendToVoters_b18 (k18 : Int32 → Int32 → Int32 → Int32 → XMu → XRes) (x1 : Int32) (x2 : Int32) (x3 : Int32) (x4 : Int32) (μ : XMu) : XRes := (if (7 : Int32) ≤ x4 then some (.inl none, μ) else (if (yC_has x3 x4) = (0 : Int32) then k18 x1 x2 x3 (x4 + (1 : Int32)) μ else xbv (yMa_begin x4 x1 x2 μ) (fun m1 => xbv (yMa_add (m1.2.1 28 9) m1) (fun m2 => xbi (yDi_lastTerm m2) (fun r4 m3 => xbv (yMa_add r4 m3) (fun m5 => xbv (yMa_post (m5.2.1 28 11) m5) (fun m6 => k18 x1 x2 x3 (x4 + (1 : Int32)) m6)))))))
theorem yC_sendToVoters_b18_ok {L : Nat} {xs : Nat → Int32} (k18 : Int32 → Int32 → Int32 → Int32 → XMu → XRes) (hk18 : ∀  (x1 : Int32) (x2 : Int32) (x3 : Int32) (x4 : Int32) (μ : XMu), XB L xs 77 18 [some (.ref 0), some (.int x1), some (.int x2), some (.int x3), some (.int x4)] [] μ (k18 x1 x2 x3 x4 μ))  (x1 : Int32) (x2 : Int32) (x3 : Int32) (x4 : Int32) (μ : XMu) : XB L xs 77 18 [some (.ref 0), some (.int x1), some (.int x2), some (.int x3), some (.int x4)] [] μ (yC_sendToVoters_b18 k18 x1 x2 x3 x4 μ) := by
  unfold yC_sendToVoters_b18
  refine XB.go 2 (pc' := 22) (ls' := [some (.ref 0), some (.int x1), some (.int x2), some (.int x3), some (.int x4)]) (st' := [(.int (7 : Int32)), (.int x4)]) (μ' := μ) rfl ?_
  refine XB.icmp (P := (7 : Int32) ≤ x4) rfl rfl rfl (fun c22 => ?_) (fun c22 => ?_)
  · exact XB.fin rfl
  · refine XB.go 2 (pc' := 28) (ls' := [some (.ref 0), some (.int x1), some (.int x2), some (.int x3), some (.int x4)]) (st' := [(.int x4), (.int x3)]) (μ' := μ) rfl ?_
    refine XB.cp rfl rfl rfl (yC_has_ok x3 x4 μ) ?_
    refine XB.ifz (P := (yC_has x3 x4) = (0 : Int32)) rfl rfl rfl (fun c31 => ?_) (fun c31 => ?_)
    · refine XB.go 2 (pc' := 18) (ls' := [some (.ref 0), some (.int x1), some (.int x2), some (.int x3), some (.int (x4 + (1 : Int32)))]) (st' := []) (μ' := μ) rfl ?_
      exact hk18  x1 x2 x3 (x4 + (1 : Int32)) μ
    · refine XB.go 5 (pc' := 42) (ls' := [some (.ref 0), some (.int x1), some (.int x2), some (.int x3), some (.int x4)]) (st' := [(.int x2), (.int x1), (.int x4), (.ref 1)]) (μ' := μ) rfl ?_
      refine XB.cv rfl rfl rfl rfl rfl (yMa_begin_ok x4 x1 x2 μ) (fun m1 => ?_)
      refine XB.go 5 (pc' := 56) (ls' := [some (.ref 0), some (.int x1), some (.int x2), some (.int x3), some (.int x4)]) (st' := [(.int (m1.2.1 28 9)), (.ref 1)]) (μ' := m1) rfl ?_
      refine XB.cv rfl rfl rfl rfl rfl (yMa_add_ok (m1.2.1 28 9) m1) (fun m2 => ?_)
      refine XB.go 4 (pc' := 67) (ls' := [some (.ref 0), some (.int x1), some (.int x2), some (.int x3), some (.int x4)]) (st' := [(.ref 28), (.ref 1)]) (μ' := m2) rfl ?_
      refine XB.ci rfl rfl rfl rfl rfl (yDi_lastTerm_ok m2) (fun r4 m3 => ?_)
      refine XB.cv rfl rfl rfl rfl rfl (yMa_add_ok r4 m3) (fun m5 => ?_)
      refine XB.go 5 (pc' := 84) (ls' := [some (.ref 0), some (.int x1), some (.int x2), some (.int x3), some (.int x4)]) (st' := [(.int (m5.2.1 28 11)), (.ref 1)]) (μ' := m5) rfl ?_
      refine XB.cv rfl rfl rfl rfl rfl (yMa_post_ok (m5.2.1 28 11) m5) (fun m6 => ?_)
      refine XB.go 2 (pc' := 18) (ls' := [some (.ref 0), some (.int x1), some (.int x2), some (.int x3), some (.int (x4 + (1 : Int32)))]) (st' := []) (μ' := m6) rfl ?_
      exact hk18  x1 x2 x3 (x4 + (1 : Int32)) m6
def yC_sendToVoters_b18_L  : Nat → Int32 → Int32 → Int32 → Int32 → XMu → XRes
  | 0 => fun _ _ _ _ _ => none
  | n + 1 => yC_sendToVoters_b18 (yC_sendToVoters_b18_L  n)
theorem yC_sendToVoters_b18_Lok {L : Nat} {xs : Nat → Int32}  : ∀ (n : Nat)  (x1 : Int32) (x2 : Int32) (x3 : Int32) (x4 : Int32) (μ : XMu), XB L xs 77 18 [some (.ref 0), some (.int x1), some (.int x2), some (.int x3), some (.int x4)] [] μ (yC_sendToVoters_b18_L  n x1 x2 x3 x4 μ) := by
  intro n
  induction n with
  | zero => intro  x1 x2 x3 x4 μ r h; cases h
  | succ n ih => intro  x1 x2 x3 x4 μ; exact yC_sendToVoters_b18_ok (yC_sendToVoters_b18_L  n) ih  x1 x2 x3 x4 μ
def yC_sendToVoters (a1 : Int32) (a2 : Int32) (μ : XMu) : XRes := yC_sendToVoters_b18_L  1000 a1 a2 ((yC_voters μ) &&& ((yC_bit (μ.2.1 0 0)) ^^^ (-1 : Int32))) (0 : Int32) μ
theorem yC_sendToVoters_ok {L : Nat} {xs : Nat → Int32} (a1 : Int32) (a2 : Int32) (μ : XMu) : XB L xs 77 0 [some (.ref 0), some (.int a1), some (.int a2), none, none] [] μ (yC_sendToVoters a1 a2 μ) := by
  unfold yC_sendToVoters
  refine XB.go 1 (pc' := 1) (ls' := [some (.ref 0), some (.int a1), some (.int a2), none, none]) (st' := [(.ref 0)]) (μ' := μ) rfl ?_
  refine XB.cp rfl rfl rfl (yC_voters_ok μ) ?_
  refine XB.go 2 (pc' := 8) (ls' := [some (.ref 0), some (.int a1), some (.int a2), none, none]) (st' := [(.int (μ.2.1 0 0)), (.int (yC_voters μ))]) (μ' := μ) rfl ?_
  refine XB.cp rfl rfl rfl (yC_bit_ok (μ.2.1 0 0) μ) ?_
  refine XB.go 6 (pc' := 18) (ls' := [some (.ref 0), some (.int a1), some (.int a2), some (.int ((yC_voters μ) &&& ((yC_bit (μ.2.1 0 0)) ^^^ (-1 : Int32)))), some (.int (0 : Int32))]) (st' := []) (μ' := μ) rfl ?_
  exact yC_sendToVoters_b18_Lok  1000  a1 a2 ((yC_voters μ) &&& ((yC_bit (μ.2.1 0 0)) ^^^ (-1 : Int32))) (0 : Int32) μ
/-- LogServer$Disk.voteFor(I)V -/
def yDi_voteFor (a1 : Int32) (μ : XMu) : XRes := (if (μ.2.1 28 4) = a1 then some (.inl none, μ) else some (.inl none, (μ.1, (xuI (xuI μ.2.1 28 4 a1) 28 11 (1 : Int32)), μ.2.2)))
theorem yDi_voteFor_ok {L : Nat} {xs : Nat → Int32} (a1 : Int32) (μ : XMu) : XB L xs 78 0 [some (.ref 28), some (.int a1)] [] μ (yDi_voteFor a1 μ) := by
  unfold yDi_voteFor
  refine XB.go 3 (pc' := 5) (ls' := [some (.ref 28), some (.int a1)]) (st' := [(.int a1), (.int (μ.2.1 28 4))]) (μ' := μ) rfl ?_
  refine XB.icmp (P := (μ.2.1 28 4) = a1) rfl rfl rfl (fun c5 => ?_) (fun c5 => ?_)
  · exact XB.fin rfl
  · refine XB.go 6 (pc' := 18) (ls' := [some (.ref 28), some (.int a1)]) (st' := []) (μ' := (μ.1, (xuI (xuI μ.2.1 28 4 a1) 28 11 (1 : Int32)), μ.2.2)) rfl ?_
    exact XB.fin rfl
/-- LogServer.campaign()V -/
def yC_campaign  (μ : XMu) : XRes := xbv (yDi_enterTerm ((μ.2.1 28 3) + (1 : Int32)) (μ.1, (xuI (xuI μ.2.1 0 9 (2 : Int32)) 0 10 (-1 : Int32)), μ.2.2)) (fun m1 => xbv (yDi_voteFor (m1.2.1 0 0) m1) (fun m2 => xbv (yC_drawAlarm (m2.1, (xuI m2.2.1 0 15 (0 : Int32)), m2.2.2)) (fun m3 => xbv (yC_sendToVoters (3 : Int32) (m3.2.1 28 3) m3) (fun m4 => some (.inl none, m4)))))
theorem yC_campaign_ok {L : Nat} {xs : Nat → Int32}  (μ : XMu) : XB L xs 79 0 [some (.ref 0)] [] μ (yC_campaign  μ) := by
  unfold yC_campaign
  refine XB.go 13 (pc' := 23) (ls' := [some (.ref 0)]) (st' := [(.int ((μ.2.1 28 3) + (1 : Int32))), (.ref 28)]) (μ' := (μ.1, (xuI (xuI μ.2.1 0 9 (2 : Int32)) 0 10 (-1 : Int32)), μ.2.2)) rfl ?_
  refine XB.cv rfl rfl rfl rfl rfl (yDi_enterTerm_ok ((μ.2.1 28 3) + (1 : Int32)) (μ.1, (xuI (xuI μ.2.1 0 9 (2 : Int32)) 0 10 (-1 : Int32)), μ.2.2)) (fun m1 => ?_)
  refine XB.go 4 (pc' := 34) (ls' := [some (.ref 0)]) (st' := [(.int (m1.2.1 0 0)), (.ref 28)]) (μ' := m1) rfl ?_
  refine XB.cv rfl rfl rfl rfl rfl (yDi_voteFor_ok (m1.2.1 0 0) m1) (fun m2 => ?_)
  refine XB.go 4 (pc' := 43) (ls' := [some (.ref 0)]) (st' := [(.ref 0)]) (μ' := (m2.1, (xuI m2.2.1 0 15 (0 : Int32)), m2.2.2)) rfl ?_
  refine XB.cv rfl rfl rfl rfl rfl (yC_drawAlarm_ok (m2.1, (xuI m2.2.1 0 15 (0 : Int32)), m2.2.2)) (fun m3 => ?_)
  refine XB.go 5 (pc' := 55) (ls' := [some (.ref 0)]) (st' := [(.int (m3.2.1 28 3)), (.int (3 : Int32)), (.ref 0)]) (μ' := m3) rfl ?_
  refine XB.cv rfl rfl rfl rfl rfl (yC_sendToVoters_ok (3 : Int32) (m3.2.1 28 3) m3) (fun m4 => ?_)
  exact XB.fin rfl
/-- LogServer.ringOtherwise()V -/
def yC_ringOtherwise  (μ : XMu) : XRes := xbv (yC_drawAlarm μ) (fun m1 => (if ¬ (yC_has (yC_voters m1) (m1.2.1 0 0)) = (0 : Int32) then xbv (yC_sendToVoters (1 : Int32) ((m1.2.1 28 3) + (1 : Int32)) (m1.1, (xuI (xuI (xuI m1.2.1 0 9 (1 : Int32)) 0 10 (-1 : Int32)) 0 15 (yC_bit (m1.2.1 0 0))), m1.2.2)) (fun m2 => (if (yC_isMajority (m2.2.1 0 15) m2) = (0 : Int32) then some (.inl none, m2) else xbv (yC_campaign m2) (fun m3 => some (.inl none, m3)))) else some (.inl none, m1)))
theorem yC_ringOtherwise_ok {L : Nat} {xs : Nat → Int32}  (μ : XMu) : XB L xs 80 0 [some (.ref 0)] [] μ (yC_ringOtherwise  μ) := by
  unfold yC_ringOtherwise
  refine XB.go 1 (pc' := 1) (ls' := [some (.ref 0)]) (st' := [(.ref 0)]) (μ' := μ) rfl ?_
  refine XB.cv rfl rfl rfl rfl rfl (yC_drawAlarm_ok μ) (fun m1 => ?_)
  refine XB.go 1 (pc' := 5) (ls' := [some (.ref 0)]) (st' := [(.ref 0)]) (μ' := m1) rfl ?_
  refine XB.cp rfl rfl rfl (yC_voters_ok m1) ?_
  refine XB.go 2 (pc' := 12) (ls' := [some (.ref 0)]) (st' := [(.int (m1.2.1 0 0)), (.int (yC_voters m1))]) (μ' := m1) rfl ?_
  refine XB.cp rfl rfl rfl (yC_has_ok (yC_voters m1) (m1.2.1 0 0) m1) ?_
  refine XB.ifz (P := ¬ (yC_has (yC_voters m1) (m1.2.1 0 0)) = (0 : Int32)) rfl rfl rfl (fun c15 => ?_) (fun c15 => ?_)
  · refine XB.go 9 (pc' := 34) (ls' := [some (.ref 0)]) (st' := [(.int (m1.2.1 0 0)), (.ref 0)]) (μ' := (m1.1, (xuI (xuI m1.2.1 0 9 (1 : Int32)) 0 10 (-1 : Int32)), m1.2.2)) rfl ?_
    refine XB.cp rfl rfl rfl (yC_bit_ok (m1.2.1 0 0) (m1.1, (xuI (xuI m1.2.1 0 9 (1 : Int32)) 0 10 (-1 : Int32)), m1.2.2)) ?_
    refine XB.go 8 (pc' := 51) (ls' := [some (.ref 0)]) (st' := [(.int ((m1.2.1 28 3) + (1 : Int32))), (.int (1 : Int32)), (.ref 0)]) (μ' := (m1.1, (xuI (xuI (xuI m1.2.1 0 9 (1 : Int32)) 0 10 (-1 : Int32)) 0 15 (yC_bit (m1.2.1 0 0))), m1.2.2)) rfl ?_
    refine XB.cv rfl rfl rfl rfl rfl (yC_sendToVoters_ok (1 : Int32) ((m1.2.1 28 3) + (1 : Int32)) (m1.1, (xuI (xuI (xuI m1.2.1 0 9 (1 : Int32)) 0 10 (-1 : Int32)) 0 15 (yC_bit (m1.2.1 0 0))), m1.2.2)) (fun m2 => ?_)
    refine XB.go 3 (pc' := 59) (ls' := [some (.ref 0)]) (st' := [(.int (m2.2.1 0 15)), (.ref 0)]) (μ' := m2) rfl ?_
    refine XB.cp rfl rfl rfl (yC_isMajority_ok (m2.2.1 0 15) m2) ?_
    refine XB.ifz (P := (yC_isMajority (m2.2.1 0 15) m2) = (0 : Int32)) rfl rfl rfl (fun c62 => ?_) (fun c62 => ?_)
    · exact XB.fin rfl
    · refine XB.go 1 (pc' := 66) (ls' := [some (.ref 0)]) (st' := [(.ref 0)]) (μ' := m2) rfl ?_
      refine XB.cv rfl rfl rfl rfl rfl (yC_campaign_ok m2) (fun m3 => ?_)
      exact XB.fin rfl
  · exact XB.fin rfl
/-- LogServer.tick(I)Z -/
def yC_tick (a1 : Int32) (μ : XMu) : XRes := (if a1 < (1 : Int32) then xgd (Nat.blt μ.1 1024) (some (.inr 0, (μ.1 + 1, μ.2.1, μ.2.2))) else (if a1 ≤ (1000 : Int32) then (if (μ.2.1 0 14) ≤ ((μ.2.1 0 8) + a1) then (if ¬ (μ.2.1 0 9) = (3 : Int32) then xbv (yC_ringOtherwise (μ.1, (xuI μ.2.1 0 8 ((μ.2.1 0 8) + a1)), μ.2.2)) (fun m1 => some (.inl (some (.int (1 : Int32))), m1)) else xbv (yC_ringLeading (μ.1, (xuI μ.2.1 0 8 ((μ.2.1 0 8) + a1)), μ.2.2)) (fun m2 => some (.inl (some (.int (1 : Int32))), m2))) else some (.inl (some (.int (0 : Int32))), (μ.1, (xuI μ.2.1 0 8 ((μ.2.1 0 8) + a1)), μ.2.2))) else xgd (Nat.blt μ.1 1024) (some (.inr 0, (μ.1 + 1, μ.2.1, μ.2.2)))))
theorem yC_tick_ok {L : Nat} {xs : Nat → Int32} (a1 : Int32) (μ : XMu) : XB L xs 81 0 [some (.ref 0), some (.int a1)] [] μ (yC_tick a1 μ) := by
  unfold yC_tick
  refine XB.go 2 (pc' := 2) (ls' := [some (.ref 0), some (.int a1)]) (st' := [(.int (1 : Int32)), (.int a1)]) (μ' := μ) rfl ?_
  refine XB.icmp (P := a1 < (1 : Int32)) rfl rfl rfl (fun c2 => ?_) (fun c2 => ?_)
  · exact XB.thw rfl (fun f => rfl)
  · refine XB.go 2 (pc' := 9) (ls' := [some (.ref 0), some (.int a1)]) (st' := [(.int (1000 : Int32)), (.int a1)]) (μ' := μ) rfl ?_
    refine XB.icmp (P := a1 ≤ (1000 : Int32)) rfl rfl rfl (fun c9 => ?_) (fun c9 => ?_)
    · refine XB.go 10 (pc' := 40) (ls' := [some (.ref 0), some (.int a1)]) (st' := [(.int ((μ.2.1 0 8) + a1)), (.int (μ.2.1 0 14))]) (μ' := (μ.1, (xuI μ.2.1 0 8 ((μ.2.1 0 8) + a1)), μ.2.2)) rfl ?_
      refine XB.icmp (P := (μ.2.1 0 14) ≤ ((μ.2.1 0 8) + a1)) rfl rfl rfl (fun c40 => ?_) (fun c40 => ?_)
      · refine XB.go 3 (pc' := 50) (ls' := [some (.ref 0), some (.int a1)]) (st' := [(.int (3 : Int32)), (.int (μ.2.1 0 9))]) (μ' := (μ.1, (xuI μ.2.1 0 8 ((μ.2.1 0 8) + a1)), μ.2.2)) rfl ?_
        refine XB.icmp (P := ¬ (μ.2.1 0 9) = (3 : Int32)) rfl rfl rfl (fun c50 => ?_) (fun c50 => ?_)
        · refine XB.go 1 (pc' := 61) (ls' := [some (.ref 0), some (.int a1)]) (st' := [(.ref 0)]) (μ' := (μ.1, (xuI μ.2.1 0 8 ((μ.2.1 0 8) + a1)), μ.2.2)) rfl ?_
          refine XB.cv rfl rfl rfl rfl rfl (yC_ringOtherwise_ok (μ.1, (xuI μ.2.1 0 8 ((μ.2.1 0 8) + a1)), μ.2.2)) (fun m1 => ?_)
          refine XB.go 1 (pc' := 65) (ls' := [some (.ref 0), some (.int a1)]) (st' := [(.int (1 : Int32))]) (μ' := m1) rfl ?_
          exact XB.fin rfl
        · refine XB.go 1 (pc' := 54) (ls' := [some (.ref 0), some (.int a1)]) (st' := [(.ref 0)]) (μ' := (μ.1, (xuI μ.2.1 0 8 ((μ.2.1 0 8) + a1)), μ.2.2)) rfl ?_
          refine XB.cv rfl rfl rfl rfl rfl (yC_ringLeading_ok (μ.1, (xuI μ.2.1 0 8 ((μ.2.1 0 8) + a1)), μ.2.2)) (fun m2 => ?_)
          refine XB.go 2 (pc' := 65) (ls' := [some (.ref 0), some (.int a1)]) (st' := [(.int (1 : Int32))]) (μ' := m2) rfl ?_
          exact XB.fin rfl
      · refine XB.go 1 (pc' := 44) (ls' := [some (.ref 0), some (.int a1)]) (st' := [(.int (0 : Int32))]) (μ' := (μ.1, (xuI μ.2.1 0 8 ((μ.2.1 0 8) + a1)), μ.2.2)) rfl ?_
        exact XB.fin rfl
    · exact XB.thw rfl (fun f => rfl)
/-- LogServer.checkSender(I)V -/
def yC_checkSender (a1 : Int32) (μ : XMu) : XRes := (if ¬ (yC_isOtherServer a1 μ) = (0 : Int32) then some (.inl none, μ) else xgd (Nat.blt μ.1 1024) (some (.inr 2, (μ.1 + 1, μ.2.1, μ.2.2))))
theorem yC_checkSender_ok {L : Nat} {xs : Nat → Int32} (a1 : Int32) (μ : XMu) : XB L xs 83 0 [some (.ref 0), some (.int a1)] [] μ (yC_checkSender a1 μ) := by
  unfold yC_checkSender
  refine XB.go 2 (pc' := 2) (ls' := [some (.ref 0), some (.int a1)]) (st' := [(.int a1), (.ref 0)]) (μ' := μ) rfl ?_
  refine XB.cp rfl rfl rfl (yC_isOtherServer_ok a1 μ) ?_
  refine XB.ifz (P := ¬ (yC_isOtherServer a1 μ) = (0 : Int32)) rfl rfl rfl (fun c5 => ?_) (fun c5 => ?_)
  · exact XB.fin rfl
  · exact XB.thw rfl (fun f => rfl)
/-- LogServer.checkNumber(I)V -/
def yC_checkNumber (a0 : Int32) (μ : XMu) : XRes := (if a0 < (0 : Int32) then xgd (Nat.blt μ.1 1024) (some (.inr 0, (μ.1 + 1, μ.2.1, μ.2.2))) else (if a0 ≤ (1000000 : Int32) then some (.inl none, μ) else xgd (Nat.blt μ.1 1024) (some (.inr 0, (μ.1 + 1, μ.2.1, μ.2.2)))))
theorem yC_checkNumber_ok {L : Nat} {xs : Nat → Int32} (a0 : Int32) (μ : XMu) : XB L xs 84 0 [some (.int a0)] [] μ (yC_checkNumber a0 μ) := by
  unfold yC_checkNumber
  refine XB.go 1 (pc' := 1) (ls' := [some (.int a0)]) (st' := [(.int a0)]) (μ' := μ) rfl ?_
  refine XB.ifz (P := a0 < (0 : Int32)) rfl rfl rfl (fun c1 => ?_) (fun c1 => ?_)
  · exact XB.thw rfl (fun f => rfl)
  · refine XB.go 2 (pc' := 8) (ls' := [some (.int a0)]) (st' := [(.int (1000000 : Int32)), (.int a0)]) (μ' := μ) rfl ?_
    refine XB.icmp (P := a0 ≤ (1000000 : Int32)) rfl rfl rfl (fun c8 => ?_) (fun c8 => ?_)
    · exact XB.fin rfl
    · exact XB.thw rfl (fun f => rfl)
/-- LogServer.isAsNew(II)Z -/
def yC_isAsNew (a1 : Int32) (a2 : Int32) (μ : XMu) : XRes := xbi (yDi_lastTerm μ) (fun r2 m1 => (if r2 < a2 then some (.inl (some (.int (1 : Int32))), m1) else (if ¬ a2 = r2 then some (.inl (some (.int (0 : Int32))), m1) else (if a1 < (m1.2.1 28 9) then some (.inl (some (.int (0 : Int32))), m1) else some (.inl (some (.int (1 : Int32))), m1)))))
theorem yC_isAsNew_ok {L : Nat} {xs : Nat → Int32} (a1 : Int32) (a2 : Int32) (μ : XMu) : XB L xs 85 0 [some (.ref 0), some (.int a1), some (.int a2), none] [] μ (yC_isAsNew a1 a2 μ) := by
  unfold yC_isAsNew
  refine XB.go 2 (pc' := 4) (ls' := [some (.ref 0), some (.int a1), some (.int a2), none]) (st' := [(.ref 28)]) (μ' := μ) rfl ?_
  refine XB.ci rfl rfl rfl rfl rfl (yDi_lastTerm_ok μ) (fun r2 m1 => ?_)
  refine XB.go 3 (pc' := 10) (ls' := [some (.ref 0), some (.int a1), some (.int a2), some (.int r2)]) (st' := [(.int r2), (.int a2)]) (μ' := m1) rfl ?_
  refine XB.icmp (P := r2 < a2) rfl rfl rfl (fun c10 => ?_) (fun c10 => ?_)
  · refine XB.go 2 (pc' := 34) (ls' := [some (.ref 0), some (.int a1), some (.int a2), some (.int r2)]) (st' := [(.int (1 : Int32))]) (μ' := m1) rfl ?_
    exact XB.fin rfl
  · refine XB.go 2 (pc' := 15) (ls' := [some (.ref 0), some (.int a1), some (.int a2), some (.int r2)]) (st' := [(.int r2), (.int a2)]) (μ' := m1) rfl ?_
    refine XB.icmp (P := ¬ a2 = r2) rfl rfl rfl (fun c15 => ?_) (fun c15 => ?_)
    · refine XB.go 1 (pc' := 34) (ls' := [some (.ref 0), some (.int a1), some (.int a2), some (.int r2)]) (st' := [(.int (0 : Int32))]) (μ' := m1) rfl ?_
      exact XB.fin rfl
    · refine XB.go 4 (pc' := 26) (ls' := [some (.ref 0), some (.int a1), some (.int a2), some (.int r2)]) (st' := [(.int (m1.2.1 28 9)), (.int a1)]) (μ' := m1) rfl ?_
      refine XB.icmp (P := a1 < (m1.2.1 28 9)) rfl rfl rfl (fun c26 => ?_) (fun c26 => ?_)
      · refine XB.go 1 (pc' := 34) (ls' := [some (.ref 0), some (.int a1), some (.int a2), some (.int r2)]) (st' := [(.int (0 : Int32))]) (μ' := m1) rfl ?_
        exact XB.fin rfl
      · refine XB.go 2 (pc' := 34) (ls' := [some (.ref 0), some (.int a1), some (.int a2), some (.int r2)]) (st' := [(.int (1 : Int32))]) (μ' := m1) rfl ?_
        exact XB.fin rfl
/-- LogServer.preask(IIII)V -/
def yC_preask_b110  (x6 : Int32) (s1 : Int32) (s2 : Int32) (s3 : Int32) (μ : XMu) : XRes := xbv (yMa_begin s1 s2 s3 μ) (fun m5 => (if x6 = (0 : Int32) then xbv (yMa_add (0 : Int32) m5) (fun m6 => xbv (yMa_post (m6.2.1 28 11) m6) (fun m7 => some (.inl none, m7))) else xbv (yMa_add (1 : Int32) m5) (fun m8 => xbv (yMa_post (m8.2.1 28 11) m8) (fun m9 => some (.inl none, m9)))))
theorem yC_preask_b110_ok {L : Nat} {xs : Nat → Int32}  (d1 : Option Int32) (d2 : Option Int32) (d3 : Option Int32) (d4 : Option Int32) (d5 : Option Int32) (x6 : Int32) (s1 : Int32) (s2 : Int32) (s3 : Int32) (μ : XMu) : XB L xs 86 110 [some (.ref 0), (xdl d1), (xdl d2), (xdl d3), (xdl d4), (xdl d5), some (.int x6)] [(.int s3), (.int s2), (.int s1), (.ref 1)] μ (yC_preask_b110  x6 s1 s2 s3 μ) := by
  unfold yC_preask_b110
  refine XB.cv rfl rfl rfl rfl rfl (yMa_begin_ok s1 s2 s3 μ) (fun m5 => ?_)
  refine XB.go 3 (pc' := 119) (ls' := [some (.ref 0), (xdl d1), (xdl d2), (xdl d3), (xdl d4), (xdl d5), some (.int x6)]) (st' := [(.int x6), (.ref 1)]) (μ' := m5) rfl ?_
  refine XB.ifz (P := x6 = (0 : Int32)) rfl rfl rfl (fun c119 => ?_) (fun c119 => ?_)
  · refine XB.go 1 (pc' := 127) (ls' := [some (.ref 0), (xdl d1), (xdl d2), (xdl d3), (xdl d4), (xdl d5), some (.int x6)]) (st' := [(.int (0 : Int32)), (.ref 1)]) (μ' := m5) rfl ?_
    refine XB.cv rfl rfl rfl rfl rfl (yMa_add_ok (0 : Int32) m5) (fun m6 => ?_)
    refine XB.go 5 (pc' := 141) (ls' := [some (.ref 0), (xdl d1), (xdl d2), (xdl d3), (xdl d4), (xdl d5), some (.int x6)]) (st' := [(.int (m6.2.1 28 11)), (.ref 1)]) (μ' := m6) rfl ?_
    refine XB.cv rfl rfl rfl rfl rfl (yMa_post_ok (m6.2.1 28 11) m6) (fun m7 => ?_)
    exact XB.fin rfl
  · refine XB.go 2 (pc' := 127) (ls' := [some (.ref 0), (xdl d1), (xdl d2), (xdl d3), (xdl d4), (xdl d5), some (.int x6)]) (st' := [(.int (1 : Int32)), (.ref 1)]) (μ' := m5) rfl ?_
    refine XB.cv rfl rfl rfl rfl rfl (yMa_add_ok (1 : Int32) m5) (fun m8 => ?_)
    refine XB.go 5 (pc' := 141) (ls' := [some (.ref 0), (xdl d1), (xdl d2), (xdl d3), (xdl d4), (xdl d5), some (.int x6)]) (st' := [(.int (m8.2.1 28 11)), (.ref 1)]) (μ' := m8) rfl ?_
    refine XB.cv rfl rfl rfl rfl rfl (yMa_post_ok (m8.2.1 28 11) m8) (fun m9 => ?_)
    exact XB.fin rfl
def yC_preask_b86  (x1 : Int32) (x2 : Int32) (s0 : Int32) (μ : XMu) : XRes := (if s0 = (0 : Int32) then yC_preask_b110  s0 x1 (2 : Int32) (μ.2.1 28 3) μ else yC_preask_b110  s0 x1 (2 : Int32) x2 μ)
theorem yC_preask_b86_ok {L : Nat} {xs : Nat → Int32}  (d3 : Option Int32) (d4 : Option Int32) (d5 : Option Int32) (d6 : Option Int32) (x1 : Int32) (x2 : Int32) (s0 : Int32) (μ : XMu) : XB L xs 86 86 [some (.ref 0), some (.int x1), some (.int x2), (xdl d3), (xdl d4), (xdl d5), (xdl d6)] [(.int s0)] μ (yC_preask_b86  x1 x2 s0 μ) := by
  unfold yC_preask_b86
  refine XB.go 6 (pc' := 96) (ls' := [some (.ref 0), some (.int x1), some (.int x2), (xdl d3), (xdl d4), (xdl d5), some (.int s0)]) (st' := [(.int s0), (.int (2 : Int32)), (.int x1), (.ref 1)]) (μ' := μ) (by cases d5 <;> rfl) ?_
  refine XB.ifz (P := s0 = (0 : Int32)) rfl rfl rfl (fun c96 => ?_) (fun c96 => ?_)
  · refine XB.go 3 (pc' := 110) (ls' := [some (.ref 0), some (.int x1), some (.int x2), (xdl d3), (xdl d4), (xdl d5), some (.int s0)]) (st' := [(.int (μ.2.1 28 3)), (.int (2 : Int32)), (.int x1), (.ref 1)]) (μ' := μ) rfl ?_
    exact yC_preask_b110_ok  (some x1) (some x2) (d3) (d4) (d5) s0 x1 (2 : Int32) (μ.2.1 28 3) μ
  · refine XB.go 2 (pc' := 110) (ls' := [some (.ref 0), some (.int x1), some (.int x2), (xdl d3), (xdl d4), (xdl d5), some (.int s0)]) (st' := [(.int x2), (.int (2 : Int32)), (.int x1), (.ref 1)]) (μ' := μ) rfl ?_
    exact yC_preask_b110_ok  (some x1) (some x2) (d3) (d4) (d5) s0 x1 (2 : Int32) x2 μ
def yC_preask_b85  (x1 : Int32) (x2 : Int32) (μ : XMu) : XRes := yC_preask_b86  x1 x2 (0 : Int32) μ
theorem yC_preask_b85_ok {L : Nat} {xs : Nat → Int32}  (d3 : Option Int32) (d4 : Option Int32) (d5 : Option Int32) (d6 : Option Int32) (x1 : Int32) (x2 : Int32) (μ : XMu) : XB L xs 86 85 [some (.ref 0), some (.int x1), some (.int x2), (xdl d3), (xdl d4), (xdl d5), (xdl d6)] [] μ (yC_preask_b85  x1 x2 μ) := by
  unfold yC_preask_b85
  refine XB.go 1 (pc' := 86) (ls' := [some (.ref 0), some (.int x1), some (.int x2), (xdl d3), (xdl d4), (xdl d5), (xdl d6)]) (st' := [(.int (0 : Int32))]) (μ' := μ) rfl ?_
  exact yC_preask_b86_ok  (d3) (d4) (d5) (d6) x1 x2 (0 : Int32) μ
def yC_preask_b45  (x1 : Int32) (x2 : Int32) (x3 : Int32) (x4 : Int32) (s0 : Int32) (μ : XMu) : XRes := (if x2 ≤ (μ.2.1 28 3) then yC_preask_b85  x1 x2 μ else xbi (yC_isAsNew x3 x4 μ) (fun r11 m10 => (if r11 = (0 : Int32) then yC_preask_b85  x1 x2 m10 else (if (m10.2.1 0 9) = (3 : Int32) then yC_preask_b85  x1 x2 m10 else (if s0 = (0 : Int32) then yC_preask_b85  x1 x2 m10 else yC_preask_b86  x1 x2 (1 : Int32) m10)))))
theorem yC_preask_b45_ok {L : Nat} {xs : Nat → Int32}  (d5 : Option Int32) (d6 : Option Int32) (x1 : Int32) (x2 : Int32) (x3 : Int32) (x4 : Int32) (s0 : Int32) (μ : XMu) : XB L xs 86 45 [some (.ref 0), some (.int x1), some (.int x2), some (.int x3), some (.int x4), (xdl d5), (xdl d6)] [(.int s0)] μ (yC_preask_b45  x1 x2 x3 x4 s0 μ) := by
  unfold yC_preask_b45
  refine XB.go 5 (pc' := 55) (ls' := [some (.ref 0), some (.int x1), some (.int x2), some (.int x3), some (.int x4), some (.int s0), (xdl d6)]) (st' := [(.int (μ.2.1 28 3)), (.int x2)]) (μ' := μ) rfl ?_
  refine XB.icmp (P := x2 ≤ (μ.2.1 28 3)) rfl rfl rfl (fun c55 => ?_) (fun c55 => ?_)
  · exact yC_preask_b85_ok  (some x3) (some x4) (some s0) (d6) x1 x2 μ
  · refine XB.go 3 (pc' := 62) (ls' := [some (.ref 0), some (.int x1), some (.int x2), some (.int x3), some (.int x4), some (.int s0), (xdl d6)]) (st' := [(.int x4), (.int x3), (.ref 0)]) (μ' := μ) rfl ?_
    refine XB.ci rfl rfl rfl rfl rfl (yC_isAsNew_ok x3 x4 μ) (fun r11 m10 => ?_)
    refine XB.ifz (P := r11 = (0 : Int32)) rfl rfl rfl (fun c65 => ?_) (fun c65 => ?_)
    · exact yC_preask_b85_ok  (some x3) (some x4) (some s0) (d6) x1 x2 m10
    · refine XB.go 3 (pc' := 73) (ls' := [some (.ref 0), some (.int x1), some (.int x2), some (.int x3), some (.int x4), some (.int s0), (xdl d6)]) (st' := [(.int (3 : Int32)), (.int (m10.2.1 0 9))]) (μ' := m10) rfl ?_
      refine XB.icmp (P := (m10.2.1 0 9) = (3 : Int32)) rfl rfl rfl (fun c73 => ?_) (fun c73 => ?_)
      · exact yC_preask_b85_ok  (some x3) (some x4) (some s0) (d6) x1 x2 m10
      · refine XB.go 1 (pc' := 78) (ls' := [some (.ref 0), some (.int x1), some (.int x2), some (.int x3), some (.int x4), some (.int s0), (xdl d6)]) (st' := [(.int s0)]) (μ' := m10) rfl ?_
        refine XB.ifz (P := s0 = (0 : Int32)) rfl rfl rfl (fun c78 => ?_) (fun c78 => ?_)
        · exact yC_preask_b85_ok  (some x3) (some x4) (some s0) (d6) x1 x2 m10
        · refine XB.go 2 (pc' := 86) (ls' := [some (.ref 0), some (.int x1), some (.int x2), some (.int x3), some (.int x4), some (.int s0), (xdl d6)]) (st' := [(.int (1 : Int32))]) (μ' := m10) rfl ?_
          exact yC_preask_b86_ok  (some x3) (some x4) (some s0) (d6) x1 x2 (1 : Int32) m10
def yC_preask_b40  (x1 : Int32) (x2 : Int32) (x3 : Int32) (x4 : Int32) (μ : XMu) : XRes := yC_preask_b45  x1 x2 x3 x4 (1 : Int32) μ
theorem yC_preask_b40_ok {L : Nat} {xs : Nat → Int32}  (d5 : Option Int32) (d6 : Option Int32) (x1 : Int32) (x2 : Int32) (x3 : Int32) (x4 : Int32) (μ : XMu) : XB L xs 86 40 [some (.ref 0), some (.int x1), some (.int x2), some (.int x3), some (.int x4), (xdl d5), (xdl d6)] [] μ (yC_preask_b40  x1 x2 x3 x4 μ) := by
  unfold yC_preask_b40
  refine XB.go 2 (pc' := 45) (ls' := [some (.ref 0), some (.int x1), some (.int x2), some (.int x3), some (.int x4), (xdl d5), (xdl d6)]) (st' := [(.int (1 : Int32))]) (μ' := μ) rfl ?_
  exact yC_preask_b45_ok  (d5) (d6) x1 x2 x3 x4 (1 : Int32) μ
def yC_preask (a1 : Int32) (a2 : Int32) (a3 : Int32) (a4 : Int32) (μ : XMu) : XRes := xbv (yC_checkSender a1 μ) (fun m1 => xbv (yC_checkNumber a2 m1) (fun m2 => xbv (yC_checkNumber a3 m2) (fun m3 => xbv (yC_checkNumber a4 m3) (fun m4 => (if (m4.2.1 0 13) = (-1 : Int32) then yC_preask_b40  a1 a2 a3 a4 m4 else (if ((m4.2.1 0 8) - (50 : Int32)) < (m4.2.1 0 13) then yC_preask_b45  a1 a2 a3 a4 (0 : Int32) m4 else yC_preask_b40  a1 a2 a3 a4 m4))))))
theorem yC_preask_ok {L : Nat} {xs : Nat → Int32} (a1 : Int32) (a2 : Int32) (a3 : Int32) (a4 : Int32) (μ : XMu) : XB L xs 86 0 [some (.ref 0), some (.int a1), some (.int a2), some (.int a3), some (.int a4), none, none] [] μ (yC_preask a1 a2 a3 a4 μ) := by
  unfold yC_preask
  refine XB.go 2 (pc' := 2) (ls' := [some (.ref 0), some (.int a1), some (.int a2), some (.int a3), some (.int a4), none, none]) (st' := [(.int a1), (.ref 0)]) (μ' := μ) rfl ?_
  refine XB.cv rfl rfl rfl rfl rfl (yC_checkSender_ok a1 μ) (fun m1 => ?_)
  refine XB.go 1 (pc' := 6) (ls' := [some (.ref 0), some (.int a1), some (.int a2), some (.int a3), some (.int a4), none, none]) (st' := [(.int a2)]) (μ' := m1) rfl ?_
  refine XB.cv rfl rfl rfl rfl rfl (yC_checkNumber_ok a2 m1) (fun m2 => ?_)
  refine XB.go 1 (pc' := 10) (ls' := [some (.ref 0), some (.int a1), some (.int a2), some (.int a3), some (.int a4), none, none]) (st' := [(.int a3)]) (μ' := m2) rfl ?_
  refine XB.cv rfl rfl rfl rfl rfl (yC_checkNumber_ok a3 m2) (fun m3 => ?_)
  refine XB.go 1 (pc' := 15) (ls' := [some (.ref 0), some (.int a1), some (.int a2), some (.int a3), some (.int a4), none, none]) (st' := [(.int a4)]) (μ' := m3) rfl ?_
  refine XB.cv rfl rfl rfl rfl rfl (yC_checkNumber_ok a4 m3) (fun m4 => ?_)
  refine XB.go 3 (pc' := 23) (ls' := [some (.ref 0), some (.int a1), some (.int a2), some (.int a3), some (.int a4), none, none]) (st' := [(.int (-1 : Int32)), (.int (m4.2.1 0 13))]) (μ' := m4) rfl ?_
  refine XB.icmp (P := (m4.2.1 0 13) = (-1 : Int32)) rfl rfl rfl (fun c23 => ?_) (fun c23 => ?_)
  · exact yC_preask_b40_ok  (none) (none) a1 a2 a3 a4 m4
  · refine XB.go 6 (pc' := 37) (ls' := [some (.ref 0), some (.int a1), some (.int a2), some (.int a3), some (.int a4), none, none]) (st' := [(.int ((m4.2.1 0 8) - (50 : Int32))), (.int (m4.2.1 0 13))]) (μ' := m4) rfl ?_
    refine XB.icmp (P := ((m4.2.1 0 8) - (50 : Int32)) < (m4.2.1 0 13)) rfl rfl rfl (fun c37 => ?_) (fun c37 => ?_)
    · refine XB.go 1 (pc' := 45) (ls' := [some (.ref 0), some (.int a1), some (.int a2), some (.int a3), some (.int a4), none, none]) (st' := [(.int (0 : Int32))]) (μ' := m4) rfl ?_
      exact yC_preask_b45_ok  (none) (none) a1 a2 a3 a4 (0 : Int32) m4
    · exact yC_preask_b40_ok  (none) (none) a1 a2 a3 a4 m4
/-- LogServer.yieldTo(I)V -/
def yC_yieldTo (a1 : Int32) (μ : XMu) : XRes := (if a1 ≤ (μ.2.1 28 3) then some (.inl none, μ) else xbv (yC_stepDown a1 (-1 : Int32) μ) (fun m1 => some (.inl none, m1)))
theorem yC_yieldTo_ok {L : Nat} {xs : Nat → Int32} (a1 : Int32) (μ : XMu) : XB L xs 88 0 [some (.ref 0), some (.int a1)] [] μ (yC_yieldTo a1 μ) := by
  unfold yC_yieldTo
  refine XB.go 4 (pc' := 8) (ls' := [some (.ref 0), some (.int a1)]) (st' := [(.int (μ.2.1 28 3)), (.int a1)]) (μ' := μ) rfl ?_
  refine XB.icmp (P := a1 ≤ (μ.2.1 28 3)) rfl rfl rfl (fun c8 => ?_) (fun c8 => ?_)
  · exact XB.fin rfl
  · refine XB.go 3 (pc' := 14) (ls' := [some (.ref 0), some (.int a1)]) (st' := [(.int (-1 : Int32)), (.int a1), (.ref 0)]) (μ' := μ) rfl ?_
    refine XB.cv rfl rfl rfl rfl rfl (yC_stepDown_ok a1 (-1 : Int32) μ) (fun m1 => ?_)
    exact XB.fin rfl
/-- LogServer.preanswer(IIZ)V -/
def yC_preanswer (a1 : Int32) (a2 : Int32) (a3 : Int32) (μ : XMu) : XRes := xbv (yC_checkSender a1 μ) (fun m1 => xbv (yC_checkNumber a2 m1) (fun m2 => (if ¬ a3 = (0 : Int32) then (if ¬ a2 = ((m2.2.1 28 3) + (1 : Int32)) then some (.inl none, m2) else (if ¬ (m2.2.1 0 9) = (1 : Int32) then some (.inl none, m2) else (if (yC_isMajority ((m2.2.1 0 15) ||| (yC_bit a1)) (m2.1, (xuI m2.2.1 0 15 ((m2.2.1 0 15) ||| (yC_bit a1))), m2.2.2)) = (0 : Int32) then some (.inl none, (m2.1, (xuI m2.2.1 0 15 ((m2.2.1 0 15) ||| (yC_bit a1))), m2.2.2)) else xbv (yC_campaign (m2.1, (xuI m2.2.1 0 15 ((m2.2.1 0 15) ||| (yC_bit a1))), m2.2.2)) (fun m3 => some (.inl none, m3))))) else xbv (yC_yieldTo a2 m2) (fun m4 => some (.inl none, m4)))))
theorem yC_preanswer_ok {L : Nat} {xs : Nat → Int32} (a1 : Int32) (a2 : Int32) (a3 : Int32) (μ : XMu) : XB L xs 89 0 [some (.ref 0), some (.int a1), some (.int a2), some (.int a3)] [] μ (yC_preanswer a1 a2 a3 μ) := by
  unfold yC_preanswer
  refine XB.go 2 (pc' := 2) (ls' := [some (.ref 0), some (.int a1), some (.int a2), some (.int a3)]) (st' := [(.int a1), (.ref 0)]) (μ' := μ) rfl ?_
  refine XB.cv rfl rfl rfl rfl rfl (yC_checkSender_ok a1 μ) (fun m1 => ?_)
  refine XB.go 1 (pc' := 6) (ls' := [some (.ref 0), some (.int a1), some (.int a2), some (.int a3)]) (st' := [(.int a2)]) (μ' := m1) rfl ?_
  refine XB.cv rfl rfl rfl rfl rfl (yC_checkNumber_ok a2 m1) (fun m2 => ?_)
  refine XB.go 1 (pc' := 10) (ls' := [some (.ref 0), some (.int a1), some (.int a2), some (.int a3)]) (st' := [(.int a3)]) (μ' := m2) rfl ?_
  refine XB.ifz (P := ¬ a3 = (0 : Int32)) rfl rfl rfl (fun c10 => ?_) (fun c10 => ?_)
  · refine XB.go 6 (pc' := 31) (ls' := [some (.ref 0), some (.int a1), some (.int a2), some (.int a3)]) (st' := [(.int ((m2.2.1 28 3) + (1 : Int32))), (.int a2)]) (μ' := m2) rfl ?_
    refine XB.icmp (P := ¬ a2 = ((m2.2.1 28 3) + (1 : Int32))) rfl rfl rfl (fun c31 => ?_) (fun c31 => ?_)
    · exact XB.fin rfl
    · refine XB.go 3 (pc' := 39) (ls' := [some (.ref 0), some (.int a1), some (.int a2), some (.int a3)]) (st' := [(.int (1 : Int32)), (.int (m2.2.1 0 9))]) (μ' := m2) rfl ?_
      refine XB.icmp (P := ¬ (m2.2.1 0 9) = (1 : Int32)) rfl rfl rfl (fun c39 => ?_) (fun c39 => ?_)
      · exact XB.fin rfl
      · refine XB.go 4 (pc' := 48) (ls' := [some (.ref 0), some (.int a1), some (.int a2), some (.int a3)]) (st' := [(.int a1), (.int (m2.2.1 0 15)), (.ref 0)]) (μ' := m2) rfl ?_
        refine XB.cp rfl rfl rfl (yC_bit_ok a1 m2) ?_
        refine XB.go 5 (pc' := 60) (ls' := [some (.ref 0), some (.int a1), some (.int a2), some (.int a3)]) (st' := [(.int ((m2.2.1 0 15) ||| (yC_bit a1))), (.ref 0)]) (μ' := (m2.1, (xuI m2.2.1 0 15 ((m2.2.1 0 15) ||| (yC_bit a1))), m2.2.2)) rfl ?_
        refine XB.cp rfl rfl rfl (yC_isMajority_ok ((m2.2.1 0 15) ||| (yC_bit a1)) (m2.1, (xuI m2.2.1 0 15 ((m2.2.1 0 15) ||| (yC_bit a1))), m2.2.2)) ?_
        refine XB.ifz (P := (yC_isMajority ((m2.2.1 0 15) ||| (yC_bit a1)) (m2.1, (xuI m2.2.1 0 15 ((m2.2.1 0 15) ||| (yC_bit a1))), m2.2.2)) = (0 : Int32)) rfl rfl rfl (fun c63 => ?_) (fun c63 => ?_)
        · exact XB.fin rfl
        · refine XB.go 1 (pc' := 67) (ls' := [some (.ref 0), some (.int a1), some (.int a2), some (.int a3)]) (st' := [(.ref 0)]) (μ' := (m2.1, (xuI m2.2.1 0 15 ((m2.2.1 0 15) ||| (yC_bit a1))), m2.2.2)) rfl ?_
          refine XB.cv rfl rfl rfl rfl rfl (yC_campaign_ok (m2.1, (xuI m2.2.1 0 15 ((m2.2.1 0 15) ||| (yC_bit a1))), m2.2.2)) (fun m3 => ?_)
          exact XB.fin rfl
  · refine XB.go 2 (pc' := 15) (ls' := [some (.ref 0), some (.int a1), some (.int a2), some (.int a3)]) (st' := [(.int a2), (.ref 0)]) (μ' := m2) rfl ?_
    refine XB.cv rfl rfl rfl rfl rfl (yC_yieldTo_ok a2 m2) (fun m4 => ?_)
    refine XB.go 1 (pc' := 70) (ls' := [some (.ref 0), some (.int a1), some (.int a2), some (.int a3)]) (st' := []) (μ' := m4) rfl ?_
    exact XB.fin rfl
/-- LogServer.ask(IIII)V -/
def yC_ask_b107  (x1 : Int32) (x6 : Int32) (μ : XMu) : XRes := xbv (yMa_begin x1 (4 : Int32) (μ.2.1 28 3) μ) (fun m6 => (if x6 = (0 : Int32) then xbv (yMa_add (0 : Int32) m6) (fun m7 => xbv (yMa_post (m7.2.1 28 11) m7) (fun m8 => some (.inl none, m8))) else xbv (yMa_add (1 : Int32) m6) (fun m9 => xbv (yMa_post (m9.2.1 28 11) m9) (fun m10 => some (.inl none, m10)))))
theorem yC_ask_b107_ok {L : Nat} {xs : Nat → Int32}  (d2 : Option Int32) (d3 : Option Int32) (d4 : Option Int32) (d5 : Option Int32) (x1 : Int32) (x6 : Int32) (μ : XMu) : XB L xs 91 107 [some (.ref 0), some (.int x1), (xdl d2), (xdl d3), (xdl d4), (xdl d5), some (.int x6)] [] μ (yC_ask_b107  x1 x6 μ) := by
  unfold yC_ask_b107
  refine XB.go 7 (pc' := 120) (ls' := [some (.ref 0), some (.int x1), (xdl d2), (xdl d3), (xdl d4), (xdl d5), some (.int x6)]) (st' := [(.int (μ.2.1 28 3)), (.int (4 : Int32)), (.int x1), (.ref 1)]) (μ' := μ) rfl ?_
  refine XB.cv rfl rfl rfl rfl rfl (yMa_begin_ok x1 (4 : Int32) (μ.2.1 28 3) μ) (fun m6 => ?_)
  refine XB.go 3 (pc' := 129) (ls' := [some (.ref 0), some (.int x1), (xdl d2), (xdl d3), (xdl d4), (xdl d5), some (.int x6)]) (st' := [(.int x6), (.ref 1)]) (μ' := m6) rfl ?_
  refine XB.ifz (P := x6 = (0 : Int32)) rfl rfl rfl (fun c129 => ?_) (fun c129 => ?_)
  · refine XB.go 1 (pc' := 137) (ls' := [some (.ref 0), some (.int x1), (xdl d2), (xdl d3), (xdl d4), (xdl d5), some (.int x6)]) (st' := [(.int (0 : Int32)), (.ref 1)]) (μ' := m6) rfl ?_
    refine XB.cv rfl rfl rfl rfl rfl (yMa_add_ok (0 : Int32) m6) (fun m7 => ?_)
    refine XB.go 5 (pc' := 151) (ls' := [some (.ref 0), some (.int x1), (xdl d2), (xdl d3), (xdl d4), (xdl d5), some (.int x6)]) (st' := [(.int (m7.2.1 28 11)), (.ref 1)]) (μ' := m7) rfl ?_
    refine XB.cv rfl rfl rfl rfl rfl (yMa_post_ok (m7.2.1 28 11) m7) (fun m8 => ?_)
    exact XB.fin rfl
  · refine XB.go 2 (pc' := 137) (ls' := [some (.ref 0), some (.int x1), (xdl d2), (xdl d3), (xdl d4), (xdl d5), some (.int x6)]) (st' := [(.int (1 : Int32)), (.ref 1)]) (μ' := m6) rfl ?_
    refine XB.cv rfl rfl rfl rfl rfl (yMa_add_ok (1 : Int32) m6) (fun m9 => ?_)
    refine XB.go 5 (pc' := 151) (ls' := [some (.ref 0), some (.int x1), (xdl d2), (xdl d3), (xdl d4), (xdl d5), some (.int x6)]) (st' := [(.int (m9.2.1 28 11)), (.ref 1)]) (μ' := m9) rfl ?_
    refine XB.cv rfl rfl rfl rfl rfl (yMa_post_ok (m9.2.1 28 11) m9) (fun m10 => ?_)
    exact XB.fin rfl
def yC_ask_b83  (x1 : Int32) (s0 : Int32) (μ : XMu) : XRes := (if s0 = (0 : Int32) then yC_ask_b107  x1 s0 μ else xbv (yDi_voteFor x1 μ) (fun m11 => xbv (yC_drawAlarm (m11.1, (xuI m11.2.1 0 9 (0 : Int32)), m11.2.2)) (fun m12 => yC_ask_b107  x1 s0 m12)))
theorem yC_ask_b83_ok {L : Nat} {xs : Nat → Int32}  (d2 : Option Int32) (d3 : Option Int32) (d4 : Option Int32) (d5 : Option Int32) (d6 : Option Int32) (x1 : Int32) (s0 : Int32) (μ : XMu) : XB L xs 91 83 [some (.ref 0), some (.int x1), (xdl d2), (xdl d3), (xdl d4), (xdl d5), (xdl d6)] [(.int s0)] μ (yC_ask_b83  x1 s0 μ) := by
  unfold yC_ask_b83
  refine XB.go 2 (pc' := 87) (ls' := [some (.ref 0), some (.int x1), (xdl d2), (xdl d3), (xdl d4), (xdl d5), some (.int s0)]) (st' := [(.int s0)]) (μ' := μ) (by cases d5 <;> rfl) ?_
  refine XB.ifz (P := s0 = (0 : Int32)) rfl rfl rfl (fun c87 => ?_) (fun c87 => ?_)
  · exact yC_ask_b107_ok  (d2) (d3) (d4) (d5) x1 s0 μ
  · refine XB.go 3 (pc' := 95) (ls' := [some (.ref 0), some (.int x1), (xdl d2), (xdl d3), (xdl d4), (xdl d5), some (.int s0)]) (st' := [(.int x1), (.ref 28)]) (μ' := μ) rfl ?_
    refine XB.cv rfl rfl rfl rfl rfl (yDi_voteFor_ok x1 μ) (fun m11 => ?_)
    refine XB.go 4 (pc' := 104) (ls' := [some (.ref 0), some (.int x1), (xdl d2), (xdl d3), (xdl d4), (xdl d5), some (.int s0)]) (st' := [(.ref 0)]) (μ' := (m11.1, (xuI m11.2.1 0 9 (0 : Int32)), m11.2.2)) rfl ?_
    refine XB.cv rfl rfl rfl rfl rfl (yC_drawAlarm_ok (m11.1, (xuI m11.2.1 0 9 (0 : Int32)), m11.2.2)) (fun m12 => ?_)
    exact yC_ask_b107_ok  (d2) (d3) (d4) (d5) x1 s0 m12
def yC_ask_b82  (x1 : Int32) (μ : XMu) : XRes := yC_ask_b83  x1 (0 : Int32) μ
theorem yC_ask_b82_ok {L : Nat} {xs : Nat → Int32}  (d2 : Option Int32) (d3 : Option Int32) (d4 : Option Int32) (d5 : Option Int32) (d6 : Option Int32) (x1 : Int32) (μ : XMu) : XB L xs 91 82 [some (.ref 0), some (.int x1), (xdl d2), (xdl d3), (xdl d4), (xdl d5), (xdl d6)] [] μ (yC_ask_b82  x1 μ) := by
  unfold yC_ask_b82
  refine XB.go 1 (pc' := 83) (ls' := [some (.ref 0), some (.int x1), (xdl d2), (xdl d3), (xdl d4), (xdl d5), (xdl d6)]) (st' := [(.int (0 : Int32))]) (μ' := μ) rfl ?_
  exact yC_ask_b83_ok  (d2) (d3) (d4) (d5) (d6) x1 (0 : Int32) μ
def yC_ask_b50  (x1 : Int32) (x2 : Int32) (x3 : Int32) (x4 : Int32) (s0 : Int32) (μ : XMu) : XRes := (if ¬ x2 = (μ.2.1 28 3) then yC_ask_b82  x1 μ else (if s0 = (0 : Int32) then yC_ask_b82  x1 μ else xbi (yC_isAsNew x3 x4 μ) (fun r14 m13 => (if r14 = (0 : Int32) then yC_ask_b82  x1 m13 else yC_ask_b83  x1 (1 : Int32) m13))))
theorem yC_ask_b50_ok {L : Nat} {xs : Nat → Int32}  (d5 : Option Int32) (d6 : Option Int32) (x1 : Int32) (x2 : Int32) (x3 : Int32) (x4 : Int32) (s0 : Int32) (μ : XMu) : XB L xs 91 50 [some (.ref 0), some (.int x1), some (.int x2), some (.int x3), some (.int x4), (xdl d5), (xdl d6)] [(.int s0)] μ (yC_ask_b50  x1 x2 x3 x4 s0 μ) := by
  unfold yC_ask_b50
  refine XB.go 5 (pc' := 60) (ls' := [some (.ref 0), some (.int x1), some (.int x2), some (.int x3), some (.int x4), some (.int s0), (xdl d6)]) (st' := [(.int (μ.2.1 28 3)), (.int x2)]) (μ' := μ) rfl ?_
  refine XB.icmp (P := ¬ x2 = (μ.2.1 28 3)) rfl rfl rfl (fun c60 => ?_) (fun c60 => ?_)
  · exact yC_ask_b82_ok  (some x2) (some x3) (some x4) (some s0) (d6) x1 μ
  · refine XB.go 1 (pc' := 65) (ls' := [some (.ref 0), some (.int x1), some (.int x2), some (.int x3), some (.int x4), some (.int s0), (xdl d6)]) (st' := [(.int s0)]) (μ' := μ) rfl ?_
    refine XB.ifz (P := s0 = (0 : Int32)) rfl rfl rfl (fun c65 => ?_) (fun c65 => ?_)
    · exact yC_ask_b82_ok  (some x2) (some x3) (some x4) (some s0) (d6) x1 μ
    · refine XB.go 3 (pc' := 72) (ls' := [some (.ref 0), some (.int x1), some (.int x2), some (.int x3), some (.int x4), some (.int s0), (xdl d6)]) (st' := [(.int x4), (.int x3), (.ref 0)]) (μ' := μ) rfl ?_
      refine XB.ci rfl rfl rfl rfl rfl (yC_isAsNew_ok x3 x4 μ) (fun r14 m13 => ?_)
      refine XB.ifz (P := r14 = (0 : Int32)) rfl rfl rfl (fun c75 => ?_) (fun c75 => ?_)
      · exact yC_ask_b82_ok  (some x2) (some x3) (some x4) (some s0) (d6) x1 m13
      · refine XB.go 2 (pc' := 83) (ls' := [some (.ref 0), some (.int x1), some (.int x2), some (.int x3), some (.int x4), some (.int s0), (xdl d6)]) (st' := [(.int (1 : Int32))]) (μ' := m13) rfl ?_
        exact yC_ask_b83_ok  (some x2) (some x3) (some x4) (some s0) (d6) x1 (1 : Int32) m13
def yC_ask_b45  (x1 : Int32) (x2 : Int32) (x3 : Int32) (x4 : Int32) (μ : XMu) : XRes := yC_ask_b50  x1 x2 x3 x4 (1 : Int32) μ
theorem yC_ask_b45_ok {L : Nat} {xs : Nat → Int32}  (d5 : Option Int32) (d6 : Option Int32) (x1 : Int32) (x2 : Int32) (x3 : Int32) (x4 : Int32) (μ : XMu) : XB L xs 91 45 [some (.ref 0), some (.int x1), some (.int x2), some (.int x3), some (.int x4), (xdl d5), (xdl d6)] [] μ (yC_ask_b45  x1 x2 x3 x4 μ) := by
  unfold yC_ask_b45
  refine XB.go 2 (pc' := 50) (ls' := [some (.ref 0), some (.int x1), some (.int x2), some (.int x3), some (.int x4), (xdl d5), (xdl d6)]) (st' := [(.int (1 : Int32))]) (μ' := μ) rfl ?_
  exact yC_ask_b50_ok  (d5) (d6) x1 x2 x3 x4 (1 : Int32) μ
def yC_ask (a1 : Int32) (a2 : Int32) (a3 : Int32) (a4 : Int32) (μ : XMu) : XRes := xbv (yC_checkSender a1 μ) (fun m1 => xbv (yC_checkNumber a2 m1) (fun m2 => xbv (yC_checkNumber a3 m2) (fun m3 => xbv (yC_checkNumber a4 m3) (fun m4 => xbv (yC_yieldTo a2 m4) (fun m5 => (if (m5.2.1 28 4) = (-1 : Int32) then yC_ask_b45  a1 a2 a3 a4 m5 else (if ¬ (m5.2.1 28 4) = a1 then yC_ask_b50  a1 a2 a3 a4 (0 : Int32) m5 else yC_ask_b45  a1 a2 a3 a4 m5)))))))
theorem yC_ask_ok {L : Nat} {xs : Nat → Int32} (a1 : Int32) (a2 : Int32) (a3 : Int32) (a4 : Int32) (μ : XMu) : XB L xs 91 0 [some (.ref 0), some (.int a1), some (.int a2), some (.int a3), some (.int a4), none, none] [] μ (yC_ask a1 a2 a3 a4 μ) := by
  unfold yC_ask
  refine XB.go 2 (pc' := 2) (ls' := [some (.ref 0), some (.int a1), some (.int a2), some (.int a3), some (.int a4), none, none]) (st' := [(.int a1), (.ref 0)]) (μ' := μ) rfl ?_
  refine XB.cv rfl rfl rfl rfl rfl (yC_checkSender_ok a1 μ) (fun m1 => ?_)
  refine XB.go 1 (pc' := 6) (ls' := [some (.ref 0), some (.int a1), some (.int a2), some (.int a3), some (.int a4), none, none]) (st' := [(.int a2)]) (μ' := m1) rfl ?_
  refine XB.cv rfl rfl rfl rfl rfl (yC_checkNumber_ok a2 m1) (fun m2 => ?_)
  refine XB.go 1 (pc' := 10) (ls' := [some (.ref 0), some (.int a1), some (.int a2), some (.int a3), some (.int a4), none, none]) (st' := [(.int a3)]) (μ' := m2) rfl ?_
  refine XB.cv rfl rfl rfl rfl rfl (yC_checkNumber_ok a3 m2) (fun m3 => ?_)
  refine XB.go 1 (pc' := 15) (ls' := [some (.ref 0), some (.int a1), some (.int a2), some (.int a3), some (.int a4), none, none]) (st' := [(.int a4)]) (μ' := m3) rfl ?_
  refine XB.cv rfl rfl rfl rfl rfl (yC_checkNumber_ok a4 m3) (fun m4 => ?_)
  refine XB.go 2 (pc' := 20) (ls' := [some (.ref 0), some (.int a1), some (.int a2), some (.int a3), some (.int a4), none, none]) (st' := [(.int a2), (.ref 0)]) (μ' := m4) rfl ?_
  refine XB.cv rfl rfl rfl rfl rfl (yC_yieldTo_ok a2 m4) (fun m5 => ?_)
  refine XB.go 4 (pc' := 31) (ls' := [some (.ref 0), some (.int a1), some (.int a2), some (.int a3), some (.int a4), none, none]) (st' := [(.int (-1 : Int32)), (.int (m5.2.1 28 4))]) (μ' := m5) rfl ?_
  refine XB.icmp (P := (m5.2.1 28 4) = (-1 : Int32)) rfl rfl rfl (fun c31 => ?_) (fun c31 => ?_)
  · exact yC_ask_b45_ok  (none) (none) a1 a2 a3 a4 m5
  · refine XB.go 4 (pc' := 42) (ls' := [some (.ref 0), some (.int a1), some (.int a2), some (.int a3), some (.int a4), none, none]) (st' := [(.int a1), (.int (m5.2.1 28 4))]) (μ' := m5) rfl ?_
    refine XB.icmp (P := ¬ (m5.2.1 28 4) = a1) rfl rfl rfl (fun c42 => ?_) (fun c42 => ?_)
    · refine XB.go 1 (pc' := 50) (ls' := [some (.ref 0), some (.int a1), some (.int a2), some (.int a3), some (.int a4), none, none]) (st' := [(.int (0 : Int32))]) (μ' := m5) rfl ?_
      exact yC_ask_b50_ok  (none) (none) a1 a2 a3 a4 (0 : Int32) m5
    · exact yC_ask_b45_ok  (none) (none) a1 a2 a3 a4 m5
/-- LogServer.answer(IIZ)V -/
def yC_answer (a1 : Int32) (a2 : Int32) (a3 : Int32) (μ : XMu) : XRes := xbv (yC_checkSender a1 μ) (fun m1 => xbv (yC_checkNumber a2 m1) (fun m2 => xbv (yC_yieldTo a2 m2) (fun m3 => (if a3 = (0 : Int32) then some (.inl none, m3) else (if ¬ a2 = (m3.2.1 28 3) then some (.inl none, m3) else (if ¬ (m3.2.1 0 9) = (2 : Int32) then some (.inl none, m3) else (if (yC_isMajority ((m3.2.1 0 15) ||| (yC_bit a1)) (m3.1, (xuI m3.2.1 0 15 ((m3.2.1 0 15) ||| (yC_bit a1))), m3.2.2)) = (0 : Int32) then some (.inl none, (m3.1, (xuI m3.2.1 0 15 ((m3.2.1 0 15) ||| (yC_bit a1))), m3.2.2)) else xbv (yC_takeLead (m3.1, (xuI m3.2.1 0 15 ((m3.2.1 0 15) ||| (yC_bit a1))), m3.2.2)) (fun m4 => some (.inl none, m4)))))))))
theorem yC_answer_ok {L : Nat} {xs : Nat → Int32} (a1 : Int32) (a2 : Int32) (a3 : Int32) (μ : XMu) : XB L xs 93 0 [some (.ref 0), some (.int a1), some (.int a2), some (.int a3)] [] μ (yC_answer a1 a2 a3 μ) := by
  unfold yC_answer
  refine XB.go 2 (pc' := 2) (ls' := [some (.ref 0), some (.int a1), some (.int a2), some (.int a3)]) (st' := [(.int a1), (.ref 0)]) (μ' := μ) rfl ?_
  refine XB.cv rfl rfl rfl rfl rfl (yC_checkSender_ok a1 μ) (fun m1 => ?_)
  refine XB.go 1 (pc' := 6) (ls' := [some (.ref 0), some (.int a1), some (.int a2), some (.int a3)]) (st' := [(.int a2)]) (μ' := m1) rfl ?_
  refine XB.cv rfl rfl rfl rfl rfl (yC_checkNumber_ok a2 m1) (fun m2 => ?_)
  refine XB.go 2 (pc' := 11) (ls' := [some (.ref 0), some (.int a1), some (.int a2), some (.int a3)]) (st' := [(.int a2), (.ref 0)]) (μ' := m2) rfl ?_
  refine XB.cv rfl rfl rfl rfl rfl (yC_yieldTo_ok a2 m2) (fun m3 => ?_)
  refine XB.go 1 (pc' := 15) (ls' := [some (.ref 0), some (.int a1), some (.int a2), some (.int a3)]) (st' := [(.int a3)]) (μ' := m3) rfl ?_
  refine XB.ifz (P := a3 = (0 : Int32)) rfl rfl rfl (fun c15 => ?_) (fun c15 => ?_)
  · exact XB.fin rfl
  · refine XB.go 4 (pc' := 26) (ls' := [some (.ref 0), some (.int a1), some (.int a2), some (.int a3)]) (st' := [(.int (m3.2.1 28 3)), (.int a2)]) (μ' := m3) rfl ?_
    refine XB.icmp (P := ¬ a2 = (m3.2.1 28 3)) rfl rfl rfl (fun c26 => ?_) (fun c26 => ?_)
    · exact XB.fin rfl
    · refine XB.go 3 (pc' := 34) (ls' := [some (.ref 0), some (.int a1), some (.int a2), some (.int a3)]) (st' := [(.int (2 : Int32)), (.int (m3.2.1 0 9))]) (μ' := m3) rfl ?_
      refine XB.icmp (P := ¬ (m3.2.1 0 9) = (2 : Int32)) rfl rfl rfl (fun c34 => ?_) (fun c34 => ?_)
      · exact XB.fin rfl
      · refine XB.go 4 (pc' := 43) (ls' := [some (.ref 0), some (.int a1), some (.int a2), some (.int a3)]) (st' := [(.int a1), (.int (m3.2.1 0 15)), (.ref 0)]) (μ' := m3) rfl ?_
        refine XB.cp rfl rfl rfl (yC_bit_ok a1 m3) ?_
        refine XB.go 5 (pc' := 55) (ls' := [some (.ref 0), some (.int a1), some (.int a2), some (.int a3)]) (st' := [(.int ((m3.2.1 0 15) ||| (yC_bit a1))), (.ref 0)]) (μ' := (m3.1, (xuI m3.2.1 0 15 ((m3.2.1 0 15) ||| (yC_bit a1))), m3.2.2)) rfl ?_
        refine XB.cp rfl rfl rfl (yC_isMajority_ok ((m3.2.1 0 15) ||| (yC_bit a1)) (m3.1, (xuI m3.2.1 0 15 ((m3.2.1 0 15) ||| (yC_bit a1))), m3.2.2)) ?_
        refine XB.ifz (P := (yC_isMajority ((m3.2.1 0 15) ||| (yC_bit a1)) (m3.1, (xuI m3.2.1 0 15 ((m3.2.1 0 15) ||| (yC_bit a1))), m3.2.2)) = (0 : Int32)) rfl rfl rfl (fun c58 => ?_) (fun c58 => ?_)
        · exact XB.fin rfl
        · refine XB.go 1 (pc' := 62) (ls' := [some (.ref 0), some (.int a1), some (.int a2), some (.int a3)]) (st' := [(.ref 0)]) (μ' := (m3.1, (xuI m3.2.1 0 15 ((m3.2.1 0 15) ||| (yC_bit a1))), m3.2.2)) rfl ?_
          refine XB.cv rfl rfl rfl rfl rfl (yC_takeLead_ok (m3.1, (xuI m3.2.1 0 15 ((m3.2.1 0 15) ||| (yC_bit a1))), m3.2.2)) (fun m4 => ?_)
          exact XB.fin rfl
/-- LogServer.isCode(I)Z -/
def yC_isCode (a0 : Int32) : Int32 := (if a0 < (0 : Int32) then (0 : Int32) else (if (2097152 : Int32) ≤ a0 then (0 : Int32) else (if (yC_oldOf a0) = (0 : Int32) then (0 : Int32) else (if ¬ ((yC_learnersOf a0) &&& ((yC_oldOf a0) ||| (yC_newOf a0))) = (0 : Int32) then (0 : Int32) else (1 : Int32)))))
theorem yC_isCode_ok {L : Nat} {xs : Nat → Int32} (a0 : Int32) (μ : XMu) : XB L xs 95 0 [some (.int a0), none] [] μ (some (.inl (some (.int (yC_isCode a0))), μ)) := by
  unfold yC_isCode
  refine XB.go 1 (pc' := 1) (ls' := [some (.int a0), none]) (st' := [(.int a0)]) (μ' := μ) rfl ?_
  refine XB.ifzv (P := a0 < (0 : Int32)) rfl rfl rfl (fun c1 => ?_) (fun c1 => ?_)
  · refine XB.go 3 (pc' := 18) (ls' := [some (.int a0), some (.int (0 : Int32))]) (st' := [(.int (0 : Int32))]) (μ' := μ) rfl ?_
    refine XB.ifzT rfl rfl rfl ?_
    refine XB.go 1 (pc' := 50) (ls' := [some (.int a0), some (.int (0 : Int32))]) (st' := [(.int (0 : Int32))]) (μ' := μ) rfl ?_
    exact XB.fin rfl
  · refine XB.go 2 (pc' := 8) (ls' := [some (.int a0), none]) (st' := [(.int (2097152 : Int32)), (.int a0)]) (μ' := μ) rfl ?_
    refine XB.icmpv (P := (2097152 : Int32) ≤ a0) rfl rfl rfl (fun c8 => ?_) (fun c8 => ?_)
    · refine XB.go 3 (pc' := 18) (ls' := [some (.int a0), some (.int (0 : Int32))]) (st' := [(.int (0 : Int32))]) (μ' := μ) rfl ?_
      refine XB.ifzT rfl rfl rfl ?_
      refine XB.go 1 (pc' := 50) (ls' := [some (.int a0), some (.int (0 : Int32))]) (st' := [(.int (0 : Int32))]) (μ' := μ) rfl ?_
      exact XB.fin rfl
    · refine XB.go 4 (pc' := 18) (ls' := [some (.int a0), some (.int (1 : Int32))]) (st' := [(.int (1 : Int32))]) (μ' := μ) rfl ?_
      refine XB.ifzF rfl rfl rfl ?_
      refine XB.go 1 (pc' := 22) (ls' := [some (.int a0), some (.int (1 : Int32))]) (st' := [(.int a0)]) (μ' := μ) rfl ?_
      refine XB.cp rfl rfl rfl (yC_oldOf_ok a0 μ) ?_
      refine XB.ifzv (P := (yC_oldOf a0) = (0 : Int32)) rfl rfl rfl (fun c25 => ?_) (fun c25 => ?_)
      · refine XB.go 1 (pc' := 50) (ls' := [some (.int a0), some (.int (1 : Int32))]) (st' := [(.int (0 : Int32))]) (μ' := μ) rfl ?_
        exact XB.fin rfl
      · refine XB.go 1 (pc' := 29) (ls' := [some (.int a0), some (.int (1 : Int32))]) (st' := [(.int a0)]) (μ' := μ) rfl ?_
        refine XB.cp rfl rfl rfl (yC_learnersOf_ok a0 μ) ?_
        refine XB.go 1 (pc' := 33) (ls' := [some (.int a0), some (.int (1 : Int32))]) (st' := [(.int a0), (.int (yC_learnersOf a0))]) (μ' := μ) rfl ?_
        refine XB.cp rfl rfl rfl (yC_oldOf_ok a0 μ) ?_
        refine XB.go 1 (pc' := 37) (ls' := [some (.int a0), some (.int (1 : Int32))]) (st' := [(.int a0), (.int (yC_oldOf a0)), (.int (yC_learnersOf a0))]) (μ' := μ) rfl ?_
        refine XB.cp rfl rfl rfl (yC_newOf_ok a0 μ) ?_
        refine XB.go 2 (pc' := 42) (ls' := [some (.int a0), some (.int (1 : Int32))]) (st' := [(.int ((yC_learnersOf a0) &&& ((yC_oldOf a0) ||| (yC_newOf a0))))]) (μ' := μ) rfl ?_
        refine XB.ifzv (P := ¬ ((yC_learnersOf a0) &&& ((yC_oldOf a0) ||| (yC_newOf a0))) = (0 : Int32)) rfl rfl rfl (fun c42 => ?_) (fun c42 => ?_)
        · refine XB.go 1 (pc' := 50) (ls' := [some (.int a0), some (.int (1 : Int32))]) (st' := [(.int (0 : Int32))]) (μ' := μ) rfl ?_
          exact XB.fin rfl
        · refine XB.go 2 (pc' := 50) (ls' := [some (.int a0), some (.int (1 : Int32))]) (st' := [(.int (1 : Int32))]) (μ' := μ) rfl ?_
          exact XB.fin rfl
theorem yC_isCode_01 (a0 : Int32) : x01 (yC_isCode a0) = true := by
  unfold yC_isCode
  repeat (first | rfl | (exact rfl) | split)
/-- LogServer$Told.add(III)V -/
def yTo_add (a1 : Int32) (a2 : Int32) (a3 : Int32) (μ : XMu) : XRes := (if (6 : Int32) ≤ (μ.2.1 7 3) then some (.inl none, μ) else xgd (xin (μ.2.1 7 3) 6) (xgd (xin (μ.2.1 7 3) 6) (xgd (xin (μ.2.1 7 3) 6) (some (.inl none, (μ.1, (xuI (xuI (xuI (xuI μ.2.1 8 ((μ.2.1 7 3)).toNatClampNeg a1) 9 ((μ.2.1 7 3)).toNatClampNeg a2) 10 ((μ.2.1 7 3)).toNatClampNeg a3) 7 3 ((μ.2.1 7 3) + (1 : Int32))), μ.2.2))))))
theorem yTo_add_ok {L : Nat} {xs : Nat → Int32} (a1 : Int32) (a2 : Int32) (a3 : Int32) (μ : XMu) : XB L xs 96 0 [some (.ref 7), some (.int a1), some (.int a2), some (.int a3)] [] μ (yTo_add a1 a2 a3 μ) := by
  unfold yTo_add
  refine XB.go 3 (pc' := 6) (ls' := [some (.ref 7), some (.int a1), some (.int a2), some (.int a3)]) (st' := [(.int (6 : Int32)), (.int (μ.2.1 7 3))]) (μ' := μ) rfl ?_
  refine XB.icmp (P := (6 : Int32) ≤ (μ.2.1 7 3)) rfl rfl rfl (fun c6 => ?_) (fun c6 => ?_)
  · exact XB.fin rfl
  · refine XB.go 5 (pc' := 18) (ls' := [some (.ref 7), some (.int a1), some (.int a2), some (.int a3)]) (st' := [(.int a1), (.int (μ.2.1 7 3)), (.ref 8)]) (μ' := μ) rfl ?_
    refine XB.gd (pc' := 19) (ls' := [some (.ref 7), some (.int a1), some (.int a2), some (.int a3)]) (st' := []) (μ' := (μ.1, (xuI μ.2.1 8 ((μ.2.1 7 3)).toNatClampNeg a1), μ.2.2)) rfl rfl rfl (fun hb => xbT hb) ?_
    refine XB.go 5 (pc' := 28) (ls' := [some (.ref 7), some (.int a1), some (.int a2), some (.int a3)]) (st' := [(.int a2), (.int (μ.2.1 7 3)), (.ref 9)]) (μ' := (μ.1, (xuI μ.2.1 8 ((μ.2.1 7 3)).toNatClampNeg a1), μ.2.2)) rfl ?_
    refine XB.gd (pc' := 29) (ls' := [some (.ref 7), some (.int a1), some (.int a2), some (.int a3)]) (st' := []) (μ' := (μ.1, (xuI (xuI μ.2.1 8 ((μ.2.1 7 3)).toNatClampNeg a1) 9 ((μ.2.1 7 3)).toNatClampNeg a2), μ.2.2)) rfl rfl rfl (fun hb => xbT hb) ?_
    refine XB.go 5 (pc' := 38) (ls' := [some (.ref 7), some (.int a1), some (.int a2), some (.int a3)]) (st' := [(.int a3), (.int (μ.2.1 7 3)), (.ref 10)]) (μ' := (μ.1, (xuI (xuI μ.2.1 8 ((μ.2.1 7 3)).toNatClampNeg a1) 9 ((μ.2.1 7 3)).toNatClampNeg a2), μ.2.2)) rfl ?_
    refine XB.gd (pc' := 39) (ls' := [some (.ref 7), some (.int a1), some (.int a2), some (.int a3)]) (st' := []) (μ' := (μ.1, (xuI (xuI (xuI μ.2.1 8 ((μ.2.1 7 3)).toNatClampNeg a1) 9 ((μ.2.1 7 3)).toNatClampNeg a2) 10 ((μ.2.1 7 3)).toNatClampNeg a3), μ.2.2)) rfl rfl rfl (fun hb => xbT hb) ?_
    refine XB.go 6 (pc' := 49) (ls' := [some (.ref 7), some (.int a1), some (.int a2), some (.int a3)]) (st' := []) (μ' := (μ.1, (xuI (xuI (xuI (xuI μ.2.1 8 ((μ.2.1 7 3)).toNatClampNeg a1) 9 ((μ.2.1 7 3)).toNatClampNeg a2) 10 ((μ.2.1 7 3)).toNatClampNeg a3) 7 3 ((μ.2.1 7 3) + (1 : Int32))), μ.2.2)) rfl ?_
    exact XB.fin rfl
/-- LogServer.entry(III)I -/
def yC_entry_b45  (x1 : Int32) (x2 : Int32) (x3 : Int32) (μ : XMu) : XRes := (if (μ.2.1 7 3) < (6 : Int32) then xbv (yTo_add x1 x2 x3 μ) (fun m2 => some (.inl (some (.int (m2.2.1 7 3))), m2)) else xgd (Nat.blt μ.1 1024) (some (.inr 1, (μ.1 + 1, μ.2.1, μ.2.2))))
theorem yC_entry_b45_ok {L : Nat} {xs : Nat → Int32}   (x1 : Int32) (x2 : Int32) (x3 : Int32) (μ : XMu) : XB L xs 97 45 [some (.ref 0), some (.int x1), some (.int x2), some (.int x3)] [] μ (yC_entry_b45  x1 x2 x3 μ) := by
  unfold yC_entry_b45
  refine XB.go 4 (pc' := 54) (ls' := [some (.ref 0), some (.int x1), some (.int x2), some (.int x3)]) (st' := [(.int (6 : Int32)), (.int (μ.2.1 7 3))]) (μ' := μ) rfl ?_
  refine XB.icmp (P := (μ.2.1 7 3) < (6 : Int32)) rfl rfl rfl (fun c54 => ?_) (fun c54 => ?_)
  · refine XB.go 5 (pc' := 74) (ls' := [some (.ref 0), some (.int x1), some (.int x2), some (.int x3)]) (st' := [(.int x3), (.int x2), (.int x1), (.ref 7)]) (μ' := μ) rfl ?_
    refine XB.cv rfl rfl rfl rfl rfl (yTo_add_ok x1 x2 x3 μ) (fun m2 => ?_)
    refine XB.go 3 (pc' := 84) (ls' := [some (.ref 0), some (.int x1), some (.int x2), some (.int x3)]) (st' := [(.int (m2.2.1 7 3))]) (μ' := m2) rfl ?_
    exact XB.fin rfl
  · exact XB.thw rfl (fun f => rfl)
def yC_entry (a1 : Int32) (a2 : Int32) (a3 : Int32) (μ : XMu) : XRes := xbv (yC_checkNumber a1 μ) (fun m1 => (if a2 < (0 : Int32) then xgd (Nat.blt m1.1 1024) (some (.inr 0, (m1.1 + 1, m1.2.1, m1.2.2))) else (if a2 ≤ (2 : Int32) then (if ¬ a2 = (1 : Int32) then yC_entry_b45  a1 a2 a3 m1 else (if ¬ (yC_isCode a3) = (0 : Int32) then yC_entry_b45  a1 a2 a3 m1 else xgd (Nat.blt m1.1 1024) (some (.inr 0, (m1.1 + 1, m1.2.1, m1.2.2))))) else xgd (Nat.blt m1.1 1024) (some (.inr 0, (m1.1 + 1, m1.2.1, m1.2.2))))))
theorem yC_entry_ok {L : Nat} {xs : Nat → Int32} (a1 : Int32) (a2 : Int32) (a3 : Int32) (μ : XMu) : XB L xs 97 0 [some (.ref 0), some (.int a1), some (.int a2), some (.int a3)] [] μ (yC_entry a1 a2 a3 μ) := by
  unfold yC_entry
  refine XB.go 1 (pc' := 1) (ls' := [some (.ref 0), some (.int a1), some (.int a2), some (.int a3)]) (st' := [(.int a1)]) (μ' := μ) rfl ?_
  refine XB.cv rfl rfl rfl rfl rfl (yC_checkNumber_ok a1 μ) (fun m1 => ?_)
  refine XB.go 1 (pc' := 5) (ls' := [some (.ref 0), some (.int a1), some (.int a2), some (.int a3)]) (st' := [(.int a2)]) (μ' := m1) rfl ?_
  refine XB.ifz (P := a2 < (0 : Int32)) rfl rfl rfl (fun c5 => ?_) (fun c5 => ?_)
  · exact XB.thw rfl (fun f => rfl)
  · refine XB.go 2 (pc' := 10) (ls' := [some (.ref 0), some (.int a1), some (.int a2), some (.int a3)]) (st' := [(.int (2 : Int32)), (.int a2)]) (μ' := m1) rfl ?_
    refine XB.icmp (P := a2 ≤ (2 : Int32)) rfl rfl rfl (fun c10 => ?_) (fun c10 => ?_)
    · refine XB.go 2 (pc' := 25) (ls' := [some (.ref 0), some (.int a1), some (.int a2), some (.int a3)]) (st' := [(.int (1 : Int32)), (.int a2)]) (μ' := m1) rfl ?_
      refine XB.icmp (P := ¬ a2 = (1 : Int32)) rfl rfl rfl (fun c25 => ?_) (fun c25 => ?_)
      · exact yC_entry_b45_ok   a1 a2 a3 m1
      · refine XB.go 1 (pc' := 29) (ls' := [some (.ref 0), some (.int a1), some (.int a2), some (.int a3)]) (st' := [(.int a3)]) (μ' := m1) rfl ?_
        refine XB.cp rfl rfl rfl (yC_isCode_ok a3 m1) ?_
        refine XB.ifz (P := ¬ (yC_isCode a3) = (0 : Int32)) rfl rfl rfl (fun c32 => ?_) (fun c32 => ?_)
        · exact yC_entry_b45_ok   a1 a2 a3 m1
        · exact XB.thw rfl (fun f => rfl)
    · exact XB.thw rfl (fun f => rfl)
/-- LogServer$Told.takeCount()I -/
def yTo_takeCount  (μ : XMu) : XRes := some (.inl (some (.int (μ.2.1 7 3))), (μ.1, (xuI μ.2.1 7 3 (0 : Int32)), μ.2.2))
theorem yTo_takeCount_ok {L : Nat} {xs : Nat → Int32}  (μ : XMu) : XB L xs 99 0 [some (.ref 7), none] [] μ (yTo_takeCount  μ) := by
  unfold yTo_takeCount
  refine XB.go 7 (pc' := 11) (ls' := [some (.ref 7), some (.int (μ.2.1 7 3))]) (st' := [(.int (μ.2.1 7 3))]) (μ' := (μ.1, (xuI μ.2.1 7 3 (0 : Int32)), μ.2.2)) rfl ?_
  exact XB.fin rfl
/-- LogServer$Told.termOf(I)I -/
def yTo_termOf (a1 : Int32) (μ : XMu) : XRes := (if a1 < (0 : Int32) then some (.inl (some (.int (-1 : Int32))), μ) else (if (6 : Int32) ≤ a1 then some (.inl (some (.int (-1 : Int32))), μ) else xgd (xin a1 6) (some (.inl (some (.int (μ.2.1 8 (a1).toNatClampNeg))), μ))))
theorem yTo_termOf_ok {L : Nat} {xs : Nat → Int32} (a1 : Int32) (μ : XMu) : XB L xs 100 0 [some (.ref 7), some (.int a1)] [] μ (yTo_termOf a1 μ) := by
  unfold yTo_termOf
  refine XB.go 1 (pc' := 1) (ls' := [some (.ref 7), some (.int a1)]) (st' := [(.int a1)]) (μ' := μ) rfl ?_
  refine XB.ifz (P := a1 < (0 : Int32)) rfl rfl rfl (fun c1 => ?_) (fun c1 => ?_)
  · refine XB.go 1 (pc' := 20) (ls' := [some (.ref 7), some (.int a1)]) (st' := [(.int (-1 : Int32))]) (μ' := μ) rfl ?_
    exact XB.fin rfl
  · refine XB.go 2 (pc' := 7) (ls' := [some (.ref 7), some (.int a1)]) (st' := [(.int (6 : Int32)), (.int a1)]) (μ' := μ) rfl ?_
    refine XB.icmp (P := (6 : Int32) ≤ a1) rfl rfl rfl (fun c7 => ?_) (fun c7 => ?_)
    · refine XB.go 1 (pc' := 20) (ls' := [some (.ref 7), some (.int a1)]) (st' := [(.int (-1 : Int32))]) (μ' := μ) rfl ?_
      exact XB.fin rfl
    · refine XB.go 3 (pc' := 15) (ls' := [some (.ref 7), some (.int a1)]) (st' := [(.int a1), (.ref 8)]) (μ' := μ) rfl ?_
      refine XB.gd (pc' := 16) (ls' := [some (.ref 7), some (.int a1)]) (st' := [(.int (μ.2.1 8 (a1).toNatClampNeg))]) (μ' := μ) rfl rfl rfl (fun hb => xbT hb) ?_
      refine XB.go 1 (pc' := 20) (ls' := [some (.ref 7), some (.int a1)]) (st' := [(.int (μ.2.1 8 (a1).toNatClampNeg))]) (μ' := μ) rfl ?_
      exact XB.fin rfl
/-- LogServer$Told.termsRise(III)Z -/
def yTo_termsRise_b6 (k6 : Int32 → Int32 → Int32 → Int32 → XMu → XRes) (x1 : Int32) (x3 : Int32) (x4 : Int32) (x5 : Int32) (μ : XMu) : XRes := (if x1 ≤ x5 then some (.inl (some (.int (1 : Int32))), μ) else xbi (yTo_termOf x5 μ) (fun r2 m1 => (if r2 < x4 then some (.inl (some (.int (0 : Int32))), m1) else xbi (yTo_termOf x5 m1) (fun r4 m3 => (if r4 ≤ x3 then xbi (yTo_termOf x5 m3) (fun r6 m5 => k6 x1 x3 r6 (x5 + (1 : Int32)) m5) else some (.inl (some (.int (0 : Int32))), m3))))))
theorem yTo_termsRise_b6_ok {L : Nat} {xs : Nat → Int32} (k6 : Int32 → Int32 → Int32 → Int32 → XMu → XRes) (hk6 : ∀ (d2 : Option Int32) (x1 : Int32) (x3 : Int32) (x4 : Int32) (x5 : Int32) (μ : XMu), XB L xs 101 6 [some (.ref 7), some (.int x1), (xdl d2), some (.int x3), some (.int x4), some (.int x5)] [] μ (k6 x1 x3 x4 x5 μ)) (d2 : Option Int32) (x1 : Int32) (x3 : Int32) (x4 : Int32) (x5 : Int32) (μ : XMu) : XB L xs 101 6 [some (.ref 7), some (.int x1), (xdl d2), some (.int x3), some (.int x4), some (.int x5)] [] μ (yTo_termsRise_b6 k6 x1 x3 x4 x5 μ) := by
  unfold yTo_termsRise_b6
  refine XB.go 2 (pc' := 9) (ls' := [some (.ref 7), some (.int x1), (xdl d2), some (.int x3), some (.int x4), some (.int x5)]) (st' := [(.int x1), (.int x5)]) (μ' := μ) rfl ?_
  refine XB.icmp (P := x1 ≤ x5) rfl rfl rfl (fun c9 => ?_) (fun c9 => ?_)
  · refine XB.go 1 (pc' := 50) (ls' := [some (.ref 7), some (.int x1), (xdl d2), some (.int x3), some (.int x4), some (.int x5)]) (st' := [(.int (1 : Int32))]) (μ' := μ) rfl ?_
    exact XB.fin rfl
  · refine XB.go 2 (pc' := 15) (ls' := [some (.ref 7), some (.int x1), (xdl d2), some (.int x3), some (.int x4), some (.int x5)]) (st' := [(.int x5), (.ref 7)]) (μ' := μ) rfl ?_
    refine XB.ci rfl rfl rfl rfl rfl (yTo_termOf_ok x5 μ) (fun r2 m1 => ?_)
    refine XB.go 1 (pc' := 20) (ls' := [some (.ref 7), some (.int x1), (xdl d2), some (.int x3), some (.int x4), some (.int x5)]) (st' := [(.int x4), (.int r2)]) (μ' := m1) rfl ?_
    refine XB.icmp (P := r2 < x4) rfl rfl rfl (fun c20 => ?_) (fun c20 => ?_)
    · refine XB.go 1 (pc' := 34) (ls' := [some (.ref 7), some (.int x1), (xdl d2), some (.int x3), some (.int x4), some (.int x5)]) (st' := [(.int (0 : Int32))]) (μ' := m1) rfl ?_
      exact XB.fin rfl
    · refine XB.go 2 (pc' := 26) (ls' := [some (.ref 7), some (.int x1), (xdl d2), some (.int x3), some (.int x4), some (.int x5)]) (st' := [(.int x5), (.ref 7)]) (μ' := m1) rfl ?_
      refine XB.ci rfl rfl rfl rfl rfl (yTo_termOf_ok x5 m1) (fun r4 m3 => ?_)
      refine XB.go 1 (pc' := 30) (ls' := [some (.ref 7), some (.int x1), (xdl d2), some (.int x3), some (.int x4), some (.int x5)]) (st' := [(.int x3), (.int r4)]) (μ' := m3) rfl ?_
      refine XB.icmp (P := r4 ≤ x3) rfl rfl rfl (fun c30 => ?_) (fun c30 => ?_)
      · refine XB.go 2 (pc' := 38) (ls' := [some (.ref 7), some (.int x1), (xdl d2), some (.int x3), some (.int x4), some (.int x5)]) (st' := [(.int x5), (.ref 7)]) (μ' := m3) rfl ?_
        refine XB.ci rfl rfl rfl rfl rfl (yTo_termOf_ok x5 m3) (fun r6 m5 => ?_)
        refine XB.go 3 (pc' := 6) (ls' := [some (.ref 7), some (.int x1), (xdl d2), some (.int x3), some (.int r6), some (.int (x5 + (1 : Int32)))]) (st' := []) (μ' := m5) rfl ?_
        exact hk6 (d2) x1 x3 r6 (x5 + (1 : Int32)) m5
      · refine XB.go 1 (pc' := 34) (ls' := [some (.ref 7), some (.int x1), (xdl d2), some (.int x3), some (.int x4), some (.int x5)]) (st' := [(.int (0 : Int32))]) (μ' := m3) rfl ?_
        exact XB.fin rfl
def yTo_termsRise_b6_L  : Nat → Int32 → Int32 → Int32 → Int32 → XMu → XRes
  | 0 => fun _ _ _ _ _ => none
  | n + 1 => yTo_termsRise_b6 (yTo_termsRise_b6_L  n)
theorem yTo_termsRise_b6_Lok {L : Nat} {xs : Nat → Int32}  : ∀ (n : Nat) (d2 : Option Int32) (x1 : Int32) (x3 : Int32) (x4 : Int32) (x5 : Int32) (μ : XMu), XB L xs 101 6 [some (.ref 7), some (.int x1), (xdl d2), some (.int x3), some (.int x4), some (.int x5)] [] μ (yTo_termsRise_b6_L  n x1 x3 x4 x5 μ) := by
  intro n
  induction n with
  | zero => intro d2 x1 x3 x4 x5 μ r h; cases h
  | succ n ih => intro d2 x1 x3 x4 x5 μ; exact yTo_termsRise_b6_ok (yTo_termsRise_b6_L  n) ih d2 x1 x3 x4 x5 μ
def yTo_termsRise (a1 : Int32) (a2 : Int32) (a3 : Int32) (μ : XMu) : XRes := yTo_termsRise_b6_L  1000 a1 a3 a2 (0 : Int32) μ
theorem yTo_termsRise_ok {L : Nat} {xs : Nat → Int32} (a1 : Int32) (a2 : Int32) (a3 : Int32) (μ : XMu) : XB L xs 101 0 [some (.ref 7), some (.int a1), some (.int a2), some (.int a3), none, none] [] μ (yTo_termsRise a1 a2 a3 μ) := by
  unfold yTo_termsRise
  refine XB.go 4 (pc' := 6) (ls' := [some (.ref 7), some (.int a1), some (.int a2), some (.int a3), some (.int a2), some (.int (0 : Int32))]) (st' := []) (μ' := μ) rfl ?_
  exact yTo_termsRise_b6_Lok  1000 (some a2) a1 a3 a2 (0 : Int32) μ
/-- LogServer.replyAppended(IIII)V -/
def yC_replyAppended (a1 : Int32) (a2 : Int32) (a3 : Int32) (a4 : Int32) (μ : XMu) : XRes := xbv (yMa_begin a1 (6 : Int32) (μ.2.1 28 3) μ) (fun m1 => xbv (yMa_add a2 m1) (fun m2 => xbv (yMa_add a3 m2) (fun m3 => xbv (yMa_add a4 m3) (fun m4 => xbv (yMa_post (m4.2.1 28 11) m4) (fun m5 => some (.inl none, m5))))))
theorem yC_replyAppended_ok {L : Nat} {xs : Nat → Int32} (a1 : Int32) (a2 : Int32) (a3 : Int32) (a4 : Int32) (μ : XMu) : XB L xs 102 0 [some (.ref 0), some (.int a1), some (.int a2), some (.int a3), some (.int a4)] [] μ (yC_replyAppended a1 a2 a3 a4 μ) := by
  unfold yC_replyAppended
  refine XB.go 7 (pc' := 14) (ls' := [some (.ref 0), some (.int a1), some (.int a2), some (.int a3), some (.int a4)]) (st' := [(.int (μ.2.1 28 3)), (.int (6 : Int32)), (.int a1), (.ref 1)]) (μ' := μ) rfl ?_
  refine XB.cv rfl rfl rfl rfl rfl (yMa_begin_ok a1 (6 : Int32) (μ.2.1 28 3) μ) (fun m1 => ?_)
  refine XB.go 3 (pc' := 22) (ls' := [some (.ref 0), some (.int a1), some (.int a2), some (.int a3), some (.int a4)]) (st' := [(.int a2), (.ref 1)]) (μ' := m1) rfl ?_
  refine XB.cv rfl rfl rfl rfl rfl (yMa_add_ok a2 m1) (fun m2 => ?_)
  refine XB.go 3 (pc' := 30) (ls' := [some (.ref 0), some (.int a1), some (.int a2), some (.int a3), some (.int a4)]) (st' := [(.int a3), (.ref 1)]) (μ' := m2) rfl ?_
  refine XB.cv rfl rfl rfl rfl rfl (yMa_add_ok a3 m2) (fun m3 => ?_)
  refine XB.go 3 (pc' := 39) (ls' := [some (.ref 0), some (.int a1), some (.int a2), some (.int a3), some (.int a4)]) (st' := [(.int a4), (.ref 1)]) (μ' := m3) rfl ?_
  refine XB.cv rfl rfl rfl rfl rfl (yMa_add_ok a4 m3) (fun m4 => ?_)
  refine XB.go 5 (pc' := 53) (ls' := [some (.ref 0), some (.int a1), some (.int a2), some (.int a3), some (.int a4)]) (st' := [(.int (m4.2.1 28 11)), (.ref 1)]) (μ' := m4) rfl ?_
  refine XB.cv rfl rfl rfl rfl rfl (yMa_post_ok (m4.2.1 28 11) m4) (fun m5 => ?_)
  exact XB.fin rfl
/-- LogServer.follow(I)V -/
def yC_follow (a1 : Int32) (μ : XMu) : XRes := xbv (yC_stepDown (μ.2.1 28 3) a1 μ) (fun m1 => xbv (yC_drawAlarm (m1.1, (xuI m1.2.1 0 13 (m1.2.1 0 8)), m1.2.2)) (fun m2 => some (.inl none, m2)))
theorem yC_follow_ok {L : Nat} {xs : Nat → Int32} (a1 : Int32) (μ : XMu) : XB L xs 103 0 [some (.ref 0), some (.int a1)] [] μ (yC_follow a1 μ) := by
  unfold yC_follow
  refine XB.go 5 (pc' := 9) (ls' := [some (.ref 0), some (.int a1)]) (st' := [(.int a1), (.int (μ.2.1 28 3)), (.ref 0)]) (μ' := μ) rfl ?_
  refine XB.cv rfl rfl rfl rfl rfl (yC_stepDown_ok (μ.2.1 28 3) a1 μ) (fun m1 => ?_)
  refine XB.go 5 (pc' := 21) (ls' := [some (.ref 0), some (.int a1)]) (st' := [(.ref 0)]) (μ' := (m1.1, (xuI m1.2.1 0 13 (m1.2.1 0 8)), m1.2.2)) rfl ?_
  refine XB.cv rfl rfl rfl rfl rfl (yC_drawAlarm_ok (m1.1, (xuI m1.2.1 0 13 (m1.2.1 0 8)), m1.2.2)) (fun m2 => ?_)
  exact XB.fin rfl
/-- LogServer$Disk.beginOfTermAt(I)I -/
def yDi_beginOfTermAt_b11 (k11 : Int32 → Int32 → XMu → XRes) (x1 : Int32) (x2 : Int32) (μ : XMu) : XRes := (if x2 ≤ ((μ.2.1 28 5) + (1 : Int32)) then some (.inl (some (.int x2)), μ) else xbi (yDi_termAt (x2 - (1 : Int32)) μ) (fun r2 m1 => xbi (yDi_termAt x1 m1) (fun r4 m3 => (if ¬ r2 = r4 then some (.inl (some (.int x2)), m3) else k11 x1 (x2 + (-1 : Int32)) m3))))
theorem yDi_beginOfTermAt_b11_ok {L : Nat} {xs : Nat → Int32} (k11 : Int32 → Int32 → XMu → XRes) (hk11 : ∀  (x1 : Int32) (x2 : Int32) (μ : XMu), XB L xs 104 11 [some (.ref 28), some (.int x1), some (.int x2)] [] μ (k11 x1 x2 μ))  (x1 : Int32) (x2 : Int32) (μ : XMu) : XB L xs 104 11 [some (.ref 28), some (.int x1), some (.int x2)] [] μ (yDi_beginOfTermAt_b11 k11 x1 x2 μ) := by
  unfold yDi_beginOfTermAt_b11
  refine XB.go 5 (pc' := 18) (ls' := [some (.ref 28), some (.int x1), some (.int x2)]) (st' := [(.int ((μ.2.1 28 5) + (1 : Int32))), (.int x2)]) (μ' := μ) rfl ?_
  refine XB.icmp (P := x2 ≤ ((μ.2.1 28 5) + (1 : Int32))) rfl rfl rfl (fun c18 => ?_) (fun c18 => ?_)
  · refine XB.go 1 (pc' := 43) (ls' := [some (.ref 28), some (.int x1), some (.int x2)]) (st' := [(.int x2)]) (μ' := μ) rfl ?_
    exact XB.fin rfl
  · refine XB.go 4 (pc' := 25) (ls' := [some (.ref 28), some (.int x1), some (.int x2)]) (st' := [(.int (x2 - (1 : Int32))), (.ref 28)]) (μ' := μ) rfl ?_
    refine XB.ci rfl rfl rfl rfl rfl (yDi_termAt_ok (x2 - (1 : Int32)) μ) (fun r2 m1 => ?_)
    refine XB.go 2 (pc' := 30) (ls' := [some (.ref 28), some (.int x1), some (.int x2)]) (st' := [(.int x1), (.ref 28), (.int r2)]) (μ' := m1) rfl ?_
    refine XB.ci rfl rfl rfl rfl rfl (yDi_termAt_ok x1 m1) (fun r4 m3 => ?_)
    refine XB.icmp (P := ¬ r2 = r4) rfl rfl rfl (fun c33 => ?_) (fun c33 => ?_)
    · refine XB.go 1 (pc' := 43) (ls' := [some (.ref 28), some (.int x1), some (.int x2)]) (st' := [(.int x2)]) (μ' := m3) rfl ?_
      exact XB.fin rfl
    · refine XB.go 2 (pc' := 11) (ls' := [some (.ref 28), some (.int x1), some (.int (x2 + (-1 : Int32)))]) (st' := []) (μ' := m3) rfl ?_
      exact hk11  x1 (x2 + (-1 : Int32)) m3
def yDi_beginOfTermAt_b11_L  : Nat → Int32 → Int32 → XMu → XRes
  | 0 => fun _ _ _ => none
  | n + 1 => yDi_beginOfTermAt_b11 (yDi_beginOfTermAt_b11_L  n)
theorem yDi_beginOfTermAt_b11_Lok {L : Nat} {xs : Nat → Int32}  : ∀ (n : Nat)  (x1 : Int32) (x2 : Int32) (μ : XMu), XB L xs 104 11 [some (.ref 28), some (.int x1), some (.int x2)] [] μ (yDi_beginOfTermAt_b11_L  n x1 x2 μ) := by
  intro n
  induction n with
  | zero => intro  x1 x2 μ r h; cases h
  | succ n ih => intro  x1 x2 μ; exact yDi_beginOfTermAt_b11_ok (yDi_beginOfTermAt_b11_L  n) ih  x1 x2 μ
def yDi_beginOfTermAt (a1 : Int32) (μ : XMu) : XRes := yDi_beginOfTermAt_b11_L  1000 a1 (if a1 < ((μ.2.1 28 5) + (1 : Int32)) then ((μ.2.1 28 5) + (1 : Int32)) else a1) μ
theorem yDi_beginOfTermAt_ok {L : Nat} {xs : Nat → Int32} (a1 : Int32) (μ : XMu) : XB L xs 104 0 [some (.ref 28), some (.int a1), none] [] μ (yDi_beginOfTermAt a1 μ) := by
  unfold yDi_beginOfTermAt
  refine XB.go 5 (pc' := 7) (ls' := [some (.ref 28), some (.int a1), none]) (st' := [(.int ((μ.2.1 28 5) + (1 : Int32))), (.int a1)]) (μ' := μ) rfl ?_
  refine XB.nat (rst := [(.int (if a1 < ((μ.2.1 28 5) + (1 : Int32)) then ((μ.2.1 28 5) + (1 : Int32)) else a1))]) (μ' := μ) rfl rfl rfl rfl ?_
  refine XB.go 1 (pc' := 11) (ls' := [some (.ref 28), some (.int a1), some (.int (if a1 < ((μ.2.1 28 5) + (1 : Int32)) then ((μ.2.1 28 5) + (1 : Int32)) else a1))]) (st' := []) (μ' := μ) rfl ?_
  exact yDi_beginOfTermAt_b11_Lok  1000  a1 (if a1 < ((μ.2.1 28 5) + (1 : Int32)) then ((μ.2.1 28 5) + (1 : Int32)) else a1) μ
/-- LogServer.contradictsCommitted(II)Z -/
def yC_contradictsCommitted_b2 (k2 : Int32 → Int32 → Int32 → XMu → XRes) (x1 : Int32) (x2 : Int32) (x3 : Int32) (μ : XMu) : XRes := (if x2 ≤ x3 then some (.inl (some (.int (0 : Int32))), μ) else (if ((x1 + (1 : Int32)) + x3) < (μ.2.1 28 5) then k2 x1 x2 (x3 + (1 : Int32)) μ else (if (μ.2.1 0 11) < ((x1 + (1 : Int32)) + x3) then k2 x1 x2 (x3 + (1 : Int32)) μ else xbi (yDi_termAt ((x1 + (1 : Int32)) + x3) μ) (fun r2 m1 => xbi (yTo_termOf x3 m1) (fun r4 m3 => (if r2 = r4 then k2 x1 x2 (x3 + (1 : Int32)) m3 else some (.inl (some (.int (1 : Int32))), m3)))))))
theorem yC_contradictsCommitted_b2_ok {L : Nat} {xs : Nat → Int32} (k2 : Int32 → Int32 → Int32 → XMu → XRes) (hk2 : ∀ (d4 : Option Int32) (x1 : Int32) (x2 : Int32) (x3 : Int32) (μ : XMu), XB L xs 105 2 [some (.ref 0), some (.int x1), some (.int x2), some (.int x3), (xdl d4)] [] μ (k2 x1 x2 x3 μ)) (d4 : Option Int32) (x1 : Int32) (x2 : Int32) (x3 : Int32) (μ : XMu) : XB L xs 105 2 [some (.ref 0), some (.int x1), some (.int x2), some (.int x3), (xdl d4)] [] μ (yC_contradictsCommitted_b2 k2 x1 x2 x3 μ) := by
  unfold yC_contradictsCommitted_b2
  refine XB.go 2 (pc' := 4) (ls' := [some (.ref 0), some (.int x1), some (.int x2), some (.int x3), (xdl d4)]) (st' := [(.int x2), (.int x3)]) (μ' := μ) rfl ?_
  refine XB.icmp (P := x2 ≤ x3) rfl rfl rfl (fun c4 => ?_) (fun c4 => ?_)
  · refine XB.go 1 (pc' := 64) (ls' := [some (.ref 0), some (.int x1), some (.int x2), some (.int x3), (xdl d4)]) (st' := [(.int (0 : Int32))]) (μ' := μ) rfl ?_
    exact XB.fin rfl
  · refine XB.go 10 (pc' := 23) (ls' := [some (.ref 0), some (.int x1), some (.int x2), some (.int x3), some (.int ((x1 + (1 : Int32)) + x3))]) (st' := [(.int (μ.2.1 28 5)), (.int ((x1 + (1 : Int32)) + x3))]) (μ' := μ) rfl ?_
    refine XB.icmp (P := ((x1 + (1 : Int32)) + x3) < (μ.2.1 28 5)) rfl rfl rfl (fun c23 => ?_) (fun c23 => ?_)
    · refine XB.go 2 (pc' := 2) (ls' := [some (.ref 0), some (.int x1), some (.int x2), some (.int (x3 + (1 : Int32))), some (.int ((x1 + (1 : Int32)) + x3))]) (st' := []) (μ' := μ) rfl ?_
      exact hk2 (some ((x1 + (1 : Int32)) + x3)) x1 x2 (x3 + (1 : Int32)) μ
    · refine XB.go 3 (pc' := 32) (ls' := [some (.ref 0), some (.int x1), some (.int x2), some (.int x3), some (.int ((x1 + (1 : Int32)) + x3))]) (st' := [(.int (μ.2.1 0 11)), (.int ((x1 + (1 : Int32)) + x3))]) (μ' := μ) rfl ?_
      refine XB.icmp (P := (μ.2.1 0 11) < ((x1 + (1 : Int32)) + x3)) rfl rfl rfl (fun c32 => ?_) (fun c32 => ?_)
      · refine XB.go 2 (pc' := 2) (ls' := [some (.ref 0), some (.int x1), some (.int x2), some (.int (x3 + (1 : Int32))), some (.int ((x1 + (1 : Int32)) + x3))]) (st' := []) (μ' := μ) rfl ?_
        exact hk2 (some ((x1 + (1 : Int32)) + x3)) x1 x2 (x3 + (1 : Int32)) μ
      · refine XB.go 3 (pc' := 41) (ls' := [some (.ref 0), some (.int x1), some (.int x2), some (.int x3), some (.int ((x1 + (1 : Int32)) + x3))]) (st' := [(.int ((x1 + (1 : Int32)) + x3)), (.ref 28)]) (μ' := μ) rfl ?_
        refine XB.ci rfl rfl rfl rfl rfl (yDi_termAt_ok ((x1 + (1 : Int32)) + x3) μ) (fun r2 m1 => ?_)
        refine XB.go 3 (pc' := 49) (ls' := [some (.ref 0), some (.int x1), some (.int x2), some (.int x3), some (.int ((x1 + (1 : Int32)) + x3))]) (st' := [(.int x3), (.ref 7), (.int r2)]) (μ' := m1) rfl ?_
        refine XB.ci rfl rfl rfl rfl rfl (yTo_termOf_ok x3 m1) (fun r4 m3 => ?_)
        refine XB.icmp (P := r2 = r4) rfl rfl rfl (fun c52 => ?_) (fun c52 => ?_)
        · refine XB.go 2 (pc' := 2) (ls' := [some (.ref 0), some (.int x1), some (.int x2), some (.int (x3 + (1 : Int32))), some (.int ((x1 + (1 : Int32)) + x3))]) (st' := []) (μ' := m3) rfl ?_
          exact hk2 (some ((x1 + (1 : Int32)) + x3)) x1 x2 (x3 + (1 : Int32)) m3
        · refine XB.go 1 (pc' := 56) (ls' := [some (.ref 0), some (.int x1), some (.int x2), some (.int x3), some (.int ((x1 + (1 : Int32)) + x3))]) (st' := [(.int (1 : Int32))]) (μ' := m3) rfl ?_
          exact XB.fin rfl
def yC_contradictsCommitted_b2_L  : Nat → Int32 → Int32 → Int32 → XMu → XRes
  | 0 => fun _ _ _ _ => none
  | n + 1 => yC_contradictsCommitted_b2 (yC_contradictsCommitted_b2_L  n)
theorem yC_contradictsCommitted_b2_Lok {L : Nat} {xs : Nat → Int32}  : ∀ (n : Nat) (d4 : Option Int32) (x1 : Int32) (x2 : Int32) (x3 : Int32) (μ : XMu), XB L xs 105 2 [some (.ref 0), some (.int x1), some (.int x2), some (.int x3), (xdl d4)] [] μ (yC_contradictsCommitted_b2_L  n x1 x2 x3 μ) := by
  intro n
  induction n with
  | zero => intro d4 x1 x2 x3 μ r h; cases h
  | succ n ih => intro d4 x1 x2 x3 μ; exact yC_contradictsCommitted_b2_ok (yC_contradictsCommitted_b2_L  n) ih d4 x1 x2 x3 μ
def yC_contradictsCommitted (a1 : Int32) (a2 : Int32) (μ : XMu) : XRes := yC_contradictsCommitted_b2_L  1000 a1 a2 (0 : Int32) μ
theorem yC_contradictsCommitted_ok {L : Nat} {xs : Nat → Int32} (a1 : Int32) (a2 : Int32) (μ : XMu) : XB L xs 105 0 [some (.ref 0), some (.int a1), some (.int a2), none, none] [] μ (yC_contradictsCommitted a1 a2 μ) := by
  unfold yC_contradictsCommitted
  refine XB.go 2 (pc' := 2) (ls' := [some (.ref 0), some (.int a1), some (.int a2), some (.int (0 : Int32)), none]) (st' := []) (μ' := μ) rfl ?_
  exact yC_contradictsCommitted_b2_Lok  1000 (none) a1 a2 (0 : Int32) μ
/-- LogServer$Disk.cutFrom(I)V -/
def yDi_cutFrom (a1 : Int32) (μ : XMu) : XRes := (if (yDi_holds a1 μ) = (0 : Int32) then some (.inl none, μ) else xbv (yDi_endAt (a1 - (1 : Int32)) μ) (fun m1 => xbv (yDi_findMembers (m1.1, (xuI m1.2.1 28 11 (1 : Int32)), m1.2.2)) (fun m2 => some (.inl none, m2))))
theorem yDi_cutFrom_ok {L : Nat} {xs : Nat → Int32} (a1 : Int32) (μ : XMu) : XB L xs 106 0 [some (.ref 28), some (.int a1)] [] μ (yDi_cutFrom a1 μ) := by
  unfold yDi_cutFrom
  refine XB.go 2 (pc' := 2) (ls' := [some (.ref 28), some (.int a1)]) (st' := [(.int a1), (.ref 28)]) (μ' := μ) rfl ?_
  refine XB.cp rfl rfl rfl (yDi_holds_ok a1 μ) ?_
  refine XB.ifz (P := (yDi_holds a1 μ) = (0 : Int32)) rfl rfl rfl (fun c5 => ?_) (fun c5 => ?_)
  · exact XB.fin rfl
  · refine XB.go 4 (pc' := 12) (ls' := [some (.ref 28), some (.int a1)]) (st' := [(.int (a1 - (1 : Int32))), (.ref 28)]) (μ' := μ) rfl ?_
    refine XB.cv rfl rfl rfl rfl rfl (yDi_endAt_ok (a1 - (1 : Int32)) μ) (fun m1 => ?_)
    refine XB.go 4 (pc' := 21) (ls' := [some (.ref 28), some (.int a1)]) (st' := [(.ref 28)]) (μ' := (m1.1, (xuI m1.2.1 28 11 (1 : Int32)), m1.2.2)) rfl ?_
    refine XB.cv rfl rfl rfl rfl rfl (yDi_findMembers_ok (m1.1, (xuI m1.2.1 28 11 (1 : Int32)), m1.2.2)) (fun m2 => ?_)
    exact XB.fin rfl
/-- LogServer$Told.kindOf(I)I -/
def yTo_kindOf (a1 : Int32) (μ : XMu) : XRes := (if a1 < (0 : Int32) then some (.inl (some (.int (-1 : Int32))), μ) else (if (6 : Int32) ≤ a1 then some (.inl (some (.int (-1 : Int32))), μ) else xgd (xin a1 6) (some (.inl (some (.int (μ.2.1 9 (a1).toNatClampNeg))), μ))))
theorem yTo_kindOf_ok {L : Nat} {xs : Nat → Int32} (a1 : Int32) (μ : XMu) : XB L xs 107 0 [some (.ref 7), some (.int a1)] [] μ (yTo_kindOf a1 μ) := by
  unfold yTo_kindOf
  refine XB.go 1 (pc' := 1) (ls' := [some (.ref 7), some (.int a1)]) (st' := [(.int a1)]) (μ' := μ) rfl ?_
  refine XB.ifz (P := a1 < (0 : Int32)) rfl rfl rfl (fun c1 => ?_) (fun c1 => ?_)
  · refine XB.go 1 (pc' := 20) (ls' := [some (.ref 7), some (.int a1)]) (st' := [(.int (-1 : Int32))]) (μ' := μ) rfl ?_
    exact XB.fin rfl
  · refine XB.go 2 (pc' := 7) (ls' := [some (.ref 7), some (.int a1)]) (st' := [(.int (6 : Int32)), (.int a1)]) (μ' := μ) rfl ?_
    refine XB.icmp (P := (6 : Int32) ≤ a1) rfl rfl rfl (fun c7 => ?_) (fun c7 => ?_)
    · refine XB.go 1 (pc' := 20) (ls' := [some (.ref 7), some (.int a1)]) (st' := [(.int (-1 : Int32))]) (μ' := μ) rfl ?_
      exact XB.fin rfl
    · refine XB.go 3 (pc' := 15) (ls' := [some (.ref 7), some (.int a1)]) (st' := [(.int a1), (.ref 9)]) (μ' := μ) rfl ?_
      refine XB.gd (pc' := 16) (ls' := [some (.ref 7), some (.int a1)]) (st' := [(.int (μ.2.1 9 (a1).toNatClampNeg))]) (μ' := μ) rfl rfl rfl (fun hb => xbT hb) ?_
      refine XB.go 1 (pc' := 20) (ls' := [some (.ref 7), some (.int a1)]) (st' := [(.int (μ.2.1 9 (a1).toNatClampNeg))]) (μ' := μ) rfl ?_
      exact XB.fin rfl
/-- LogServer$Told.valueOf(I)I -/
def yTo_valueOf (a1 : Int32) (μ : XMu) : XRes := (if a1 < (0 : Int32) then some (.inl (some (.int (-1 : Int32))), μ) else (if (6 : Int32) ≤ a1 then some (.inl (some (.int (-1 : Int32))), μ) else xgd (xin a1 6) (some (.inl (some (.int (μ.2.1 10 (a1).toNatClampNeg))), μ))))
theorem yTo_valueOf_ok {L : Nat} {xs : Nat → Int32} (a1 : Int32) (μ : XMu) : XB L xs 108 0 [some (.ref 7), some (.int a1)] [] μ (yTo_valueOf a1 μ) := by
  unfold yTo_valueOf
  refine XB.go 1 (pc' := 1) (ls' := [some (.ref 7), some (.int a1)]) (st' := [(.int a1)]) (μ' := μ) rfl ?_
  refine XB.ifz (P := a1 < (0 : Int32)) rfl rfl rfl (fun c1 => ?_) (fun c1 => ?_)
  · refine XB.go 1 (pc' := 20) (ls' := [some (.ref 7), some (.int a1)]) (st' := [(.int (-1 : Int32))]) (μ' := μ) rfl ?_
    exact XB.fin rfl
  · refine XB.go 2 (pc' := 7) (ls' := [some (.ref 7), some (.int a1)]) (st' := [(.int (6 : Int32)), (.int a1)]) (μ' := μ) rfl ?_
    refine XB.icmp (P := (6 : Int32) ≤ a1) rfl rfl rfl (fun c7 => ?_) (fun c7 => ?_)
    · refine XB.go 1 (pc' := 20) (ls' := [some (.ref 7), some (.int a1)]) (st' := [(.int (-1 : Int32))]) (μ' := μ) rfl ?_
      exact XB.fin rfl
    · refine XB.go 3 (pc' := 15) (ls' := [some (.ref 7), some (.int a1)]) (st' := [(.int a1), (.ref 10)]) (μ' := μ) rfl ?_
      refine XB.gd (pc' := 16) (ls' := [some (.ref 7), some (.int a1)]) (st' := [(.int (μ.2.1 10 (a1).toNatClampNeg))]) (μ' := μ) rfl rfl rfl (fun hb => xbT hb) ?_
      refine XB.go 1 (pc' := 20) (ls' := [some (.ref 7), some (.int a1)]) (st' := [(.int (μ.2.1 10 (a1).toNatClampNeg))]) (μ' := μ) rfl ?_
      exact XB.fin rfl
/-- LogServer.writeTold(II)V -/
def yC_writeTold_b79 (k5 : Int32 → Int32 → Int32 → Int32 → XMu → XRes) (x1 : Int32) (x2 : Int32) (x3 : Int32) (x4 : Int32) (μ : XMu) : XRes := (if x3 = (0 : Int32) then k5 x1 x2 x3 (x4 + (1 : Int32)) μ else xbi (yTo_termOf x4 μ) (fun r2 m1 => xbi (yTo_kindOf x4 m1) (fun r4 m3 => xbi (yTo_valueOf x4 m3) (fun r6 m5 => xbv (yDi_write r2 r4 r6 m5) (fun m7 => k5 x1 x2 x3 (x4 + (1 : Int32)) m7)))))
theorem yC_writeTold_b79_ok {L : Nat} {xs : Nat → Int32} (k5 : Int32 → Int32 → Int32 → Int32 → XMu → XRes) (hk5 : ∀ (d5 : Option Int32) (d6 : Option Int32) (x1 : Int32) (x2 : Int32) (x3 : Int32) (x4 : Int32) (μ : XMu), XB L xs 109 5 [some (.ref 0), some (.int x1), some (.int x2), some (.int x3), some (.int x4), (xdl d5), (xdl d6)] [] μ (k5 x1 x2 x3 x4 μ)) (d5 : Option Int32) (d6 : Option Int32) (x1 : Int32) (x2 : Int32) (x3 : Int32) (x4 : Int32) (μ : XMu) : XB L xs 109 79 [some (.ref 0), some (.int x1), some (.int x2), some (.int x3), some (.int x4), (xdl d5), (xdl d6)] [] μ (yC_writeTold_b79 k5 x1 x2 x3 x4 μ) := by
  unfold yC_writeTold_b79
  refine XB.go 1 (pc' := 80) (ls' := [some (.ref 0), some (.int x1), some (.int x2), some (.int x3), some (.int x4), (xdl d5), (xdl d6)]) (st' := [(.int x3)]) (μ' := μ) rfl ?_
  refine XB.ifz (P := x3 = (0 : Int32)) rfl rfl rfl (fun c80 => ?_) (fun c80 => ?_)
  · refine XB.go 2 (pc' := 5) (ls' := [some (.ref 0), some (.int x1), some (.int x2), some (.int x3), some (.int (x4 + (1 : Int32))), (xdl d5), (xdl d6)]) (st' := []) (μ' := μ) rfl ?_
    exact hk5 (d5) (d6) x1 x2 x3 (x4 + (1 : Int32)) μ
  · refine XB.go 5 (pc' := 93) (ls' := [some (.ref 0), some (.int x1), some (.int x2), some (.int x3), some (.int x4), (xdl d5), (xdl d6)]) (st' := [(.int x4), (.ref 7), (.ref 28)]) (μ' := μ) rfl ?_
    refine XB.ci rfl rfl rfl rfl rfl (yTo_termOf_ok x4 μ) (fun r2 m1 => ?_)
    refine XB.go 3 (pc' := 102) (ls' := [some (.ref 0), some (.int x1), some (.int x2), some (.int x3), some (.int x4), (xdl d5), (xdl d6)]) (st' := [(.int x4), (.ref 7), (.int r2), (.ref 28)]) (μ' := m1) rfl ?_
    refine XB.ci rfl rfl rfl rfl rfl (yTo_kindOf_ok x4 m1) (fun r4 m3 => ?_)
    refine XB.go 3 (pc' := 111) (ls' := [some (.ref 0), some (.int x1), some (.int x2), some (.int x3), some (.int x4), (xdl d5), (xdl d6)]) (st' := [(.int x4), (.ref 7), (.int r4), (.int r2), (.ref 28)]) (μ' := m3) rfl ?_
    refine XB.ci rfl rfl rfl rfl rfl (yTo_valueOf_ok x4 m3) (fun r6 m5 => ?_)
    refine XB.cv rfl rfl rfl rfl rfl (yDi_write_ok r2 r4 r6 m5) (fun m7 => ?_)
    refine XB.go 2 (pc' := 5) (ls' := [some (.ref 0), some (.int x1), some (.int x2), some (.int x3), some (.int (x4 + (1 : Int32))), (xdl d5), (xdl d6)]) (st' := []) (μ' := m7) rfl ?_
    exact hk5 (d5) (d6) x1 x2 x3 (x4 + (1 : Int32)) m7
def yC_writeTold_b57 (k5 : Int32 → Int32 → Int32 → Int32 → XMu → XRes) (x1 : Int32) (x2 : Int32) (x3 : Int32) (x4 : Int32) (x5 : Int32) (s0 : Int32) (μ : XMu) : XRes := (if ¬ x3 = (0 : Int32) then yC_writeTold_b79 k5 x1 x2 x3 x4 μ else (if ¬ s0 = (0 : Int32) then yC_writeTold_b79 k5 x1 x2 x3 x4 μ else xbv (yDi_cutFrom x5 μ) (fun m8 => yC_writeTold_b79 k5 x1 x2 (1 : Int32) x4 m8)))
theorem yC_writeTold_b57_ok {L : Nat} {xs : Nat → Int32} (k5 : Int32 → Int32 → Int32 → Int32 → XMu → XRes) (hk5 : ∀ (d5 : Option Int32) (d6 : Option Int32) (x1 : Int32) (x2 : Int32) (x3 : Int32) (x4 : Int32) (μ : XMu), XB L xs 109 5 [some (.ref 0), some (.int x1), some (.int x2), some (.int x3), some (.int x4), (xdl d5), (xdl d6)] [] μ (k5 x1 x2 x3 x4 μ)) (d6 : Option Int32) (x1 : Int32) (x2 : Int32) (x3 : Int32) (x4 : Int32) (x5 : Int32) (s0 : Int32) (μ : XMu) : XB L xs 109 57 [some (.ref 0), some (.int x1), some (.int x2), some (.int x3), some (.int x4), some (.int x5), (xdl d6)] [(.int s0)] μ (yC_writeTold_b57 k5 x1 x2 x3 x4 x5 s0 μ) := by
  unfold yC_writeTold_b57
  refine XB.go 2 (pc' := 60) (ls' := [some (.ref 0), some (.int x1), some (.int x2), some (.int x3), some (.int x4), some (.int x5), some (.int s0)]) (st' := [(.int x3)]) (μ' := μ) rfl ?_
  refine XB.ifz (P := ¬ x3 = (0 : Int32)) rfl rfl rfl (fun c60 => ?_) (fun c60 => ?_)
  · exact yC_writeTold_b79_ok k5 hk5 (some x5) (some s0) x1 x2 x3 x4 μ
  · refine XB.go 1 (pc' := 65) (ls' := [some (.ref 0), some (.int x1), some (.int x2), some (.int x3), some (.int x4), some (.int x5), some (.int s0)]) (st' := [(.int s0)]) (μ' := μ) rfl ?_
    refine XB.ifz (P := ¬ s0 = (0 : Int32)) rfl rfl rfl (fun c65 => ?_) (fun c65 => ?_)
    · exact yC_writeTold_b79_ok k5 hk5 (some x5) (some s0) x1 x2 x3 x4 μ
    · refine XB.go 3 (pc' := 74) (ls' := [some (.ref 0), some (.int x1), some (.int x2), some (.int x3), some (.int x4), some (.int x5), some (.int s0)]) (st' := [(.int x5), (.ref 28)]) (μ' := μ) rfl ?_
      refine XB.cv rfl rfl rfl rfl rfl (yDi_cutFrom_ok x5 μ) (fun m8 => ?_)
      refine XB.go 2 (pc' := 79) (ls' := [some (.ref 0), some (.int x1), some (.int x2), some (.int (1 : Int32)), some (.int x4), some (.int x5), some (.int s0)]) (st' := []) (μ' := m8) rfl ?_
      exact yC_writeTold_b79_ok k5 hk5 (some x5) (some s0) x1 x2 (1 : Int32) x4 m8
def yC_writeTold_b52 (k5 : Int32 → Int32 → Int32 → Int32 → XMu → XRes) (x1 : Int32) (x2 : Int32) (x3 : Int32) (x4 : Int32) (x5 : Int32) (μ : XMu) : XRes := yC_writeTold_b57 k5 x1 x2 x3 x4 x5 (1 : Int32) μ
theorem yC_writeTold_b52_ok {L : Nat} {xs : Nat → Int32} (k5 : Int32 → Int32 → Int32 → Int32 → XMu → XRes) (hk5 : ∀ (d5 : Option Int32) (d6 : Option Int32) (x1 : Int32) (x2 : Int32) (x3 : Int32) (x4 : Int32) (μ : XMu), XB L xs 109 5 [some (.ref 0), some (.int x1), some (.int x2), some (.int x3), some (.int x4), (xdl d5), (xdl d6)] [] μ (k5 x1 x2 x3 x4 μ)) (d6 : Option Int32) (x1 : Int32) (x2 : Int32) (x3 : Int32) (x4 : Int32) (x5 : Int32) (μ : XMu) : XB L xs 109 52 [some (.ref 0), some (.int x1), some (.int x2), some (.int x3), some (.int x4), some (.int x5), (xdl d6)] [] μ (yC_writeTold_b52 k5 x1 x2 x3 x4 x5 μ) := by
  unfold yC_writeTold_b52
  refine XB.go 2 (pc' := 57) (ls' := [some (.ref 0), some (.int x1), some (.int x2), some (.int x3), some (.int x4), some (.int x5), (xdl d6)]) (st' := [(.int (1 : Int32))]) (μ' := μ) rfl ?_
  exact yC_writeTold_b57_ok k5 hk5 (d6) x1 x2 x3 x4 x5 (1 : Int32) μ
def yC_writeTold_b5 (k5 : Int32 → Int32 → Int32 → Int32 → XMu → XRes) (x1 : Int32) (x2 : Int32) (x3 : Int32) (x4 : Int32) (μ : XMu) : XRes := (if x2 ≤ x4 then some (.inl none, μ) else (if ((x1 + (1 : Int32)) + x4) ≤ (μ.2.1 28 5) then yC_writeTold_b52 k5 x1 x2 x3 x4 ((x1 + (1 : Int32)) + x4) μ else xbi (yDi_termAt ((x1 + (1 : Int32)) + x4) μ) (fun r10 m9 => xbi (yTo_termOf x4 m9) (fun r12 m11 => (if ¬ r10 = r12 then yC_writeTold_b57 k5 x1 x2 x3 x4 ((x1 + (1 : Int32)) + x4) (0 : Int32) m11 else yC_writeTold_b52 k5 x1 x2 x3 x4 ((x1 + (1 : Int32)) + x4) m11)))))
theorem yC_writeTold_b5_ok {L : Nat} {xs : Nat → Int32} (k5 : Int32 → Int32 → Int32 → Int32 → XMu → XRes) (hk5 : ∀ (d5 : Option Int32) (d6 : Option Int32) (x1 : Int32) (x2 : Int32) (x3 : Int32) (x4 : Int32) (μ : XMu), XB L xs 109 5 [some (.ref 0), some (.int x1), some (.int x2), some (.int x3), some (.int x4), (xdl d5), (xdl d6)] [] μ (k5 x1 x2 x3 x4 μ)) (d5 : Option Int32) (d6 : Option Int32) (x1 : Int32) (x2 : Int32) (x3 : Int32) (x4 : Int32) (μ : XMu) : XB L xs 109 5 [some (.ref 0), some (.int x1), some (.int x2), some (.int x3), some (.int x4), (xdl d5), (xdl d6)] [] μ (yC_writeTold_b5 k5 x1 x2 x3 x4 μ) := by
  unfold yC_writeTold_b5
  refine XB.go 2 (pc' := 8) (ls' := [some (.ref 0), some (.int x1), some (.int x2), some (.int x3), some (.int x4), (xdl d5), (xdl d6)]) (st' := [(.int x2), (.int x4)]) (μ' := μ) rfl ?_
  refine XB.icmp (P := x2 ≤ x4) rfl rfl rfl (fun c8 => ?_) (fun c8 => ?_)
  · exact XB.fin rfl
  · refine XB.go 10 (pc' := 28) (ls' := [some (.ref 0), some (.int x1), some (.int x2), some (.int x3), some (.int x4), some (.int ((x1 + (1 : Int32)) + x4)), (xdl d6)]) (st' := [(.int (μ.2.1 28 5)), (.int ((x1 + (1 : Int32)) + x4))]) (μ' := μ) rfl ?_
    refine XB.icmp (P := ((x1 + (1 : Int32)) + x4) ≤ (μ.2.1 28 5)) rfl rfl rfl (fun c28 => ?_) (fun c28 => ?_)
    · exact yC_writeTold_b52_ok k5 hk5 (d6) x1 x2 x3 x4 ((x1 + (1 : Int32)) + x4) μ
    · refine XB.go 3 (pc' := 37) (ls' := [some (.ref 0), some (.int x1), some (.int x2), some (.int x3), some (.int x4), some (.int ((x1 + (1 : Int32)) + x4)), (xdl d6)]) (st' := [(.int ((x1 + (1 : Int32)) + x4)), (.ref 28)]) (μ' := μ) rfl ?_
      refine XB.ci rfl rfl rfl rfl rfl (yDi_termAt_ok ((x1 + (1 : Int32)) + x4) μ) (fun r10 m9 => ?_)
      refine XB.go 3 (pc' := 46) (ls' := [some (.ref 0), some (.int x1), some (.int x2), some (.int x3), some (.int x4), some (.int ((x1 + (1 : Int32)) + x4)), (xdl d6)]) (st' := [(.int x4), (.ref 7), (.int r10)]) (μ' := m9) rfl ?_
      refine XB.ci rfl rfl rfl rfl rfl (yTo_termOf_ok x4 m9) (fun r12 m11 => ?_)
      refine XB.icmp (P := ¬ r10 = r12) rfl rfl rfl (fun c49 => ?_) (fun c49 => ?_)
      · refine XB.go 1 (pc' := 57) (ls' := [some (.ref 0), some (.int x1), some (.int x2), some (.int x3), some (.int x4), some (.int ((x1 + (1 : Int32)) + x4)), (xdl d6)]) (st' := [(.int (0 : Int32))]) (μ' := m11) rfl ?_
        exact yC_writeTold_b57_ok k5 hk5 (d6) x1 x2 x3 x4 ((x1 + (1 : Int32)) + x4) (0 : Int32) m11
      · exact yC_writeTold_b52_ok k5 hk5 (d6) x1 x2 x3 x4 ((x1 + (1 : Int32)) + x4) m11
def yC_writeTold_b5_L  : Nat → Int32 → Int32 → Int32 → Int32 → XMu → XRes
  | 0 => fun _ _ _ _ _ => none
  | n + 1 => yC_writeTold_b5 (yC_writeTold_b5_L  n)
theorem yC_writeTold_b5_Lok {L : Nat} {xs : Nat → Int32}  : ∀ (n : Nat) (d5 : Option Int32) (d6 : Option Int32) (x1 : Int32) (x2 : Int32) (x3 : Int32) (x4 : Int32) (μ : XMu), XB L xs 109 5 [some (.ref 0), some (.int x1), some (.int x2), some (.int x3), some (.int x4), (xdl d5), (xdl d6)] [] μ (yC_writeTold_b5_L  n x1 x2 x3 x4 μ) := by
  intro n
  induction n with
  | zero => intro d5 d6 x1 x2 x3 x4 μ r h; cases h
  | succ n ih => intro d5 d6 x1 x2 x3 x4 μ; exact yC_writeTold_b5_ok (yC_writeTold_b5_L  n) ih d5 d6 x1 x2 x3 x4 μ
def yC_writeTold (a1 : Int32) (a2 : Int32) (μ : XMu) : XRes := yC_writeTold_b5_L  1000 a1 a2 (0 : Int32) (0 : Int32) μ
theorem yC_writeTold_ok {L : Nat} {xs : Nat → Int32} (a1 : Int32) (a2 : Int32) (μ : XMu) : XB L xs 109 0 [some (.ref 0), some (.int a1), some (.int a2), none, none, none, none] [] μ (yC_writeTold a1 a2 μ) := by
  unfold yC_writeTold
  refine XB.go 4 (pc' := 5) (ls' := [some (.ref 0), some (.int a1), some (.int a2), some (.int (0 : Int32)), some (.int (0 : Int32)), none, none]) (st' := []) (μ' := μ) rfl ?_
  exact yC_writeTold_b5_Lok  1000 (none) (none) a1 a2 (0 : Int32) (0 : Int32) μ
/-- LogServer.takeAppend(IIIIII)V -/
def yC_takeAppend_b69  (x1 : Int32) (x2 : Int32) (x4 : Int32) (x5 : Int32) (x6 : Int32) (μ : XMu) : XRes := xbi (yC_contradictsCommitted x2 (if (0 : Int32) < (if (((μ.2.1 28 5) + (250 : Int32)) - x2) < x4 then (((μ.2.1 28 5) + (250 : Int32)) - x2) else x4) then (if (((μ.2.1 28 5) + (250 : Int32)) - x2) < x4 then (((μ.2.1 28 5) + (250 : Int32)) - x2) else x4) else (0 : Int32)) μ) (fun r2 m1 => (if r2 = (0 : Int32) then xbv (yC_writeTold x2 (if (0 : Int32) < (if (((μ.2.1 28 5) + (250 : Int32)) - x2) < x4 then (((μ.2.1 28 5) + (250 : Int32)) - x2) else x4) then (if (((μ.2.1 28 5) + (250 : Int32)) - x2) < x4 then (((μ.2.1 28 5) + (250 : Int32)) - x2) else x4) else (0 : Int32)) m1) (fun m3 => xbv (yC_applyCommitted (m3.1, (xuI m3.2.1 0 11 (if (m3.2.1 0 11) < (if (if (x2 + (if (0 : Int32) < (if (((μ.2.1 28 5) + (250 : Int32)) - x2) < x4 then (((μ.2.1 28 5) + (250 : Int32)) - x2) else x4) then (if (((μ.2.1 28 5) + (250 : Int32)) - x2) < x4 then (((μ.2.1 28 5) + (250 : Int32)) - x2) else x4) else (0 : Int32))) < (m3.2.1 28 5) then (m3.2.1 28 5) else (x2 + (if (0 : Int32) < (if (((μ.2.1 28 5) + (250 : Int32)) - x2) < x4 then (((μ.2.1 28 5) + (250 : Int32)) - x2) else x4) then (if (((μ.2.1 28 5) + (250 : Int32)) - x2) < x4 then (((μ.2.1 28 5) + (250 : Int32)) - x2) else x4) else (0 : Int32)))) < x5 then (if (x2 + (if (0 : Int32) < (if (((μ.2.1 28 5) + (250 : Int32)) - x2) < x4 then (((μ.2.1 28 5) + (250 : Int32)) - x2) else x4) then (if (((μ.2.1 28 5) + (250 : Int32)) - x2) < x4 then (((μ.2.1 28 5) + (250 : Int32)) - x2) else x4) else (0 : Int32))) < (m3.2.1 28 5) then (m3.2.1 28 5) else (x2 + (if (0 : Int32) < (if (((μ.2.1 28 5) + (250 : Int32)) - x2) < x4 then (((μ.2.1 28 5) + (250 : Int32)) - x2) else x4) then (if (((μ.2.1 28 5) + (250 : Int32)) - x2) < x4 then (((μ.2.1 28 5) + (250 : Int32)) - x2) else x4) else (0 : Int32)))) else x5) then (if (if (x2 + (if (0 : Int32) < (if (((μ.2.1 28 5) + (250 : Int32)) - x2) < x4 then (((μ.2.1 28 5) + (250 : Int32)) - x2) else x4) then (if (((μ.2.1 28 5) + (250 : Int32)) - x2) < x4 then (((μ.2.1 28 5) + (250 : Int32)) - x2) else x4) else (0 : Int32))) < (m3.2.1 28 5) then (m3.2.1 28 5) else (x2 + (if (0 : Int32) < (if (((μ.2.1 28 5) + (250 : Int32)) - x2) < x4 then (((μ.2.1 28 5) + (250 : Int32)) - x2) else x4) then (if (((μ.2.1 28 5) + (250 : Int32)) - x2) < x4 then (((μ.2.1 28 5) + (250 : Int32)) - x2) else x4) else (0 : Int32)))) < x5 then (if (x2 + (if (0 : Int32) < (if (((μ.2.1 28 5) + (250 : Int32)) - x2) < x4 then (((μ.2.1 28 5) + (250 : Int32)) - x2) else x4) then (if (((μ.2.1 28 5) + (250 : Int32)) - x2) < x4 then (((μ.2.1 28 5) + (250 : Int32)) - x2) else x4) else (0 : Int32))) < (m3.2.1 28 5) then (m3.2.1 28 5) else (x2 + (if (0 : Int32) < (if (((μ.2.1 28 5) + (250 : Int32)) - x2) < x4 then (((μ.2.1 28 5) + (250 : Int32)) - x2) else x4) then (if (((μ.2.1 28 5) + (250 : Int32)) - x2) < x4 then (((μ.2.1 28 5) + (250 : Int32)) - x2) else x4) else (0 : Int32)))) else x5) else (m3.2.1 0 11))), m3.2.2)) (fun m4 => xbv (yC_replyAppended x1 (1 : Int32) (if (x2 + (if (0 : Int32) < (if (((μ.2.1 28 5) + (250 : Int32)) - x2) < x4 then (((μ.2.1 28 5) + (250 : Int32)) - x2) else x4) then (if (((μ.2.1 28 5) + (250 : Int32)) - x2) < x4 then (((μ.2.1 28 5) + (250 : Int32)) - x2) else x4) else (0 : Int32))) < (m3.2.1 28 5) then (m3.2.1 28 5) else (x2 + (if (0 : Int32) < (if (((μ.2.1 28 5) + (250 : Int32)) - x2) < x4 then (((μ.2.1 28 5) + (250 : Int32)) - x2) else x4) then (if (((μ.2.1 28 5) + (250 : Int32)) - x2) < x4 then (((μ.2.1 28 5) + (250 : Int32)) - x2) else x4) else (0 : Int32)))) x6 m4) (fun m5 => some (.inl none, m5)))) else some (.inl none, m1)))
theorem yC_takeAppend_b69_ok {L : Nat} {xs : Nat → Int32}  (d3 : Option Int32) (d7 : Option Int32) (d8 : Option Int32) (x1 : Int32) (x2 : Int32) (x4 : Int32) (x5 : Int32) (x6 : Int32) (μ : XMu) : XB L xs 110 69 [some (.ref 0), some (.int x1), some (.int x2), (xdl d3), some (.int x4), some (.int x5), some (.int x6), (xdl d7), (xdl d8)] [] μ (yC_takeAppend_b69  x1 x2 x4 x5 x6 μ) := by
  unfold yC_takeAppend_b69
  refine XB.go 9 (pc' := 85) (ls' := [some (.ref 0), some (.int x1), some (.int x2), (xdl d3), some (.int x4), some (.int x5), some (.int x6), (xdl d7), (xdl d8)]) (st' := [(.int (((μ.2.1 28 5) + (250 : Int32)) - x2)), (.int x4), (.int (0 : Int32))]) (μ' := μ) rfl ?_
  refine XB.nat (rst := [(.int (if (((μ.2.1 28 5) + (250 : Int32)) - x2) < x4 then (((μ.2.1 28 5) + (250 : Int32)) - x2) else x4)), (.int (0 : Int32))]) (μ' := μ) rfl rfl rfl rfl ?_
  refine XB.nat (rst := [(.int (if (0 : Int32) < (if (((μ.2.1 28 5) + (250 : Int32)) - x2) < x4 then (((μ.2.1 28 5) + (250 : Int32)) - x2) else x4) then (if (((μ.2.1 28 5) + (250 : Int32)) - x2) < x4 then (((μ.2.1 28 5) + (250 : Int32)) - x2) else x4) else (0 : Int32)))]) (μ' := μ) rfl rfl rfl rfl ?_
  refine XB.go 4 (pc' := 97) (ls' := [some (.ref 0), some (.int x1), some (.int x2), (xdl d3), some (.int x4), some (.int x5), some (.int x6), some (.int (if (0 : Int32) < (if (((μ.2.1 28 5) + (250 : Int32)) - x2) < x4 then (((μ.2.1 28 5) + (250 : Int32)) - x2) else x4) then (if (((μ.2.1 28 5) + (250 : Int32)) - x2) < x4 then (((μ.2.1 28 5) + (250 : Int32)) - x2) else x4) else (0 : Int32))), (xdl d8)]) (st' := [(.int (if (0 : Int32) < (if (((μ.2.1 28 5) + (250 : Int32)) - x2) < x4 then (((μ.2.1 28 5) + (250 : Int32)) - x2) else x4) then (if (((μ.2.1 28 5) + (250 : Int32)) - x2) < x4 then (((μ.2.1 28 5) + (250 : Int32)) - x2) else x4) else (0 : Int32))), (.int x2), (.ref 0)]) (μ' := μ) rfl ?_
  refine XB.ci rfl rfl rfl rfl rfl (yC_contradictsCommitted_ok x2 (if (0 : Int32) < (if (((μ.2.1 28 5) + (250 : Int32)) - x2) < x4 then (((μ.2.1 28 5) + (250 : Int32)) - x2) else x4) then (if (((μ.2.1 28 5) + (250 : Int32)) - x2) < x4 then (((μ.2.1 28 5) + (250 : Int32)) - x2) else x4) else (0 : Int32)) μ) (fun r2 m1 => ?_)
  refine XB.ifz (P := r2 = (0 : Int32)) rfl rfl rfl (fun c100 => ?_) (fun c100 => ?_)
  · refine XB.go 3 (pc' := 108) (ls' := [some (.ref 0), some (.int x1), some (.int x2), (xdl d3), some (.int x4), some (.int x5), some (.int x6), some (.int (if (0 : Int32) < (if (((μ.2.1 28 5) + (250 : Int32)) - x2) < x4 then (((μ.2.1 28 5) + (250 : Int32)) - x2) else x4) then (if (((μ.2.1 28 5) + (250 : Int32)) - x2) < x4 then (((μ.2.1 28 5) + (250 : Int32)) - x2) else x4) else (0 : Int32))), (xdl d8)]) (st' := [(.int (if (0 : Int32) < (if (((μ.2.1 28 5) + (250 : Int32)) - x2) < x4 then (((μ.2.1 28 5) + (250 : Int32)) - x2) else x4) then (if (((μ.2.1 28 5) + (250 : Int32)) - x2) < x4 then (((μ.2.1 28 5) + (250 : Int32)) - x2) else x4) else (0 : Int32))), (.int x2), (.ref 0)]) (μ' := m1) rfl ?_
    refine XB.cv rfl rfl rfl rfl rfl (yC_writeTold_ok x2 (if (0 : Int32) < (if (((μ.2.1 28 5) + (250 : Int32)) - x2) < x4 then (((μ.2.1 28 5) + (250 : Int32)) - x2) else x4) then (if (((μ.2.1 28 5) + (250 : Int32)) - x2) < x4 then (((μ.2.1 28 5) + (250 : Int32)) - x2) else x4) else (0 : Int32)) m1) (fun m3 => ?_)
    refine XB.go 6 (pc' := 122) (ls' := [some (.ref 0), some (.int x1), some (.int x2), (xdl d3), some (.int x4), some (.int x5), some (.int x6), some (.int (if (0 : Int32) < (if (((μ.2.1 28 5) + (250 : Int32)) - x2) < x4 then (((μ.2.1 28 5) + (250 : Int32)) - x2) else x4) then (if (((μ.2.1 28 5) + (250 : Int32)) - x2) < x4 then (((μ.2.1 28 5) + (250 : Int32)) - x2) else x4) else (0 : Int32))), (xdl d8)]) (st' := [(.int (m3.2.1 28 5)), (.int (x2 + (if (0 : Int32) < (if (((μ.2.1 28 5) + (250 : Int32)) - x2) < x4 then (((μ.2.1 28 5) + (250 : Int32)) - x2) else x4) then (if (((μ.2.1 28 5) + (250 : Int32)) - x2) < x4 then (((μ.2.1 28 5) + (250 : Int32)) - x2) else x4) else (0 : Int32))))]) (μ' := m3) rfl ?_
    refine XB.nat (rst := [(.int (if (x2 + (if (0 : Int32) < (if (((μ.2.1 28 5) + (250 : Int32)) - x2) < x4 then (((μ.2.1 28 5) + (250 : Int32)) - x2) else x4) then (if (((μ.2.1 28 5) + (250 : Int32)) - x2) < x4 then (((μ.2.1 28 5) + (250 : Int32)) - x2) else x4) else (0 : Int32))) < (m3.2.1 28 5) then (m3.2.1 28 5) else (x2 + (if (0 : Int32) < (if (((μ.2.1 28 5) + (250 : Int32)) - x2) < x4 then (((μ.2.1 28 5) + (250 : Int32)) - x2) else x4) then (if (((μ.2.1 28 5) + (250 : Int32)) - x2) < x4 then (((μ.2.1 28 5) + (250 : Int32)) - x2) else x4) else (0 : Int32)))))]) (μ' := m3) rfl rfl rfl rfl ?_
    refine XB.go 6 (pc' := 136) (ls' := [some (.ref 0), some (.int x1), some (.int x2), (xdl d3), some (.int x4), some (.int x5), some (.int x6), some (.int (if (0 : Int32) < (if (((μ.2.1 28 5) + (250 : Int32)) - x2) < x4 then (((μ.2.1 28 5) + (250 : Int32)) - x2) else x4) then (if (((μ.2.1 28 5) + (250 : Int32)) - x2) < x4 then (((μ.2.1 28 5) + (250 : Int32)) - x2) else x4) else (0 : Int32))), some (.int (if (x2 + (if (0 : Int32) < (if (((μ.2.1 28 5) + (250 : Int32)) - x2) < x4 then (((μ.2.1 28 5) + (250 : Int32)) - x2) else x4) then (if (((μ.2.1 28 5) + (250 : Int32)) - x2) < x4 then (((μ.2.1 28 5) + (250 : Int32)) - x2) else x4) else (0 : Int32))) < (m3.2.1 28 5) then (m3.2.1 28 5) else (x2 + (if (0 : Int32) < (if (((μ.2.1 28 5) + (250 : Int32)) - x2) < x4 then (((μ.2.1 28 5) + (250 : Int32)) - x2) else x4) then (if (((μ.2.1 28 5) + (250 : Int32)) - x2) < x4 then (((μ.2.1 28 5) + (250 : Int32)) - x2) else x4) else (0 : Int32)))))]) (st' := [(.int (if (x2 + (if (0 : Int32) < (if (((μ.2.1 28 5) + (250 : Int32)) - x2) < x4 then (((μ.2.1 28 5) + (250 : Int32)) - x2) else x4) then (if (((μ.2.1 28 5) + (250 : Int32)) - x2) < x4 then (((μ.2.1 28 5) + (250 : Int32)) - x2) else x4) else (0 : Int32))) < (m3.2.1 28 5) then (m3.2.1 28 5) else (x2 + (if (0 : Int32) < (if (((μ.2.1 28 5) + (250 : Int32)) - x2) < x4 then (((μ.2.1 28 5) + (250 : Int32)) - x2) else x4) then (if (((μ.2.1 28 5) + (250 : Int32)) - x2) < x4 then (((μ.2.1 28 5) + (250 : Int32)) - x2) else x4) else (0 : Int32))))), (.int x5), (.int (m3.2.1 0 11)), (.ref 0)]) (μ' := m3) rfl ?_
    refine XB.nat (rst := [(.int (if (if (x2 + (if (0 : Int32) < (if (((μ.2.1 28 5) + (250 : Int32)) - x2) < x4 then (((μ.2.1 28 5) + (250 : Int32)) - x2) else x4) then (if (((μ.2.1 28 5) + (250 : Int32)) - x2) < x4 then (((μ.2.1 28 5) + (250 : Int32)) - x2) else x4) else (0 : Int32))) < (m3.2.1 28 5) then (m3.2.1 28 5) else (x2 + (if (0 : Int32) < (if (((μ.2.1 28 5) + (250 : Int32)) - x2) < x4 then (((μ.2.1 28 5) + (250 : Int32)) - x2) else x4) then (if (((μ.2.1 28 5) + (250 : Int32)) - x2) < x4 then (((μ.2.1 28 5) + (250 : Int32)) - x2) else x4) else (0 : Int32)))) < x5 then (if (x2 + (if (0 : Int32) < (if (((μ.2.1 28 5) + (250 : Int32)) - x2) < x4 then (((μ.2.1 28 5) + (250 : Int32)) - x2) else x4) then (if (((μ.2.1 28 5) + (250 : Int32)) - x2) < x4 then (((μ.2.1 28 5) + (250 : Int32)) - x2) else x4) else (0 : Int32))) < (m3.2.1 28 5) then (m3.2.1 28 5) else (x2 + (if (0 : Int32) < (if (((μ.2.1 28 5) + (250 : Int32)) - x2) < x4 then (((μ.2.1 28 5) + (250 : Int32)) - x2) else x4) then (if (((μ.2.1 28 5) + (250 : Int32)) - x2) < x4 then (((μ.2.1 28 5) + (250 : Int32)) - x2) else x4) else (0 : Int32)))) else x5)), (.int (m3.2.1 0 11)), (.ref 0)]) (μ' := m3) rfl rfl rfl rfl ?_
    refine XB.nat (rst := [(.int (if (m3.2.1 0 11) < (if (if (x2 + (if (0 : Int32) < (if (((μ.2.1 28 5) + (250 : Int32)) - x2) < x4 then (((μ.2.1 28 5) + (250 : Int32)) - x2) else x4) then (if (((μ.2.1 28 5) + (250 : Int32)) - x2) < x4 then (((μ.2.1 28 5) + (250 : Int32)) - x2) else x4) else (0 : Int32))) < (m3.2.1 28 5) then (m3.2.1 28 5) else (x2 + (if (0 : Int32) < (if (((μ.2.1 28 5) + (250 : Int32)) - x2) < x4 then (((μ.2.1 28 5) + (250 : Int32)) - x2) else x4) then (if (((μ.2.1 28 5) + (250 : Int32)) - x2) < x4 then (((μ.2.1 28 5) + (250 : Int32)) - x2) else x4) else (0 : Int32)))) < x5 then (if (x2 + (if (0 : Int32) < (if (((μ.2.1 28 5) + (250 : Int32)) - x2) < x4 then (((μ.2.1 28 5) + (250 : Int32)) - x2) else x4) then (if (((μ.2.1 28 5) + (250 : Int32)) - x2) < x4 then (((μ.2.1 28 5) + (250 : Int32)) - x2) else x4) else (0 : Int32))) < (m3.2.1 28 5) then (m3.2.1 28 5) else (x2 + (if (0 : Int32) < (if (((μ.2.1 28 5) + (250 : Int32)) - x2) < x4 then (((μ.2.1 28 5) + (250 : Int32)) - x2) else x4) then (if (((μ.2.1 28 5) + (250 : Int32)) - x2) < x4 then (((μ.2.1 28 5) + (250 : Int32)) - x2) else x4) else (0 : Int32)))) else x5) then (if (if (x2 + (if (0 : Int32) < (if (((μ.2.1 28 5) + (250 : Int32)) - x2) < x4 then (((μ.2.1 28 5) + (250 : Int32)) - x2) else x4) then (if (((μ.2.1 28 5) + (250 : Int32)) - x2) < x4 then (((μ.2.1 28 5) + (250 : Int32)) - x2) else x4) else (0 : Int32))) < (m3.2.1 28 5) then (m3.2.1 28 5) else (x2 + (if (0 : Int32) < (if (((μ.2.1 28 5) + (250 : Int32)) - x2) < x4 then (((μ.2.1 28 5) + (250 : Int32)) - x2) else x4) then (if (((μ.2.1 28 5) + (250 : Int32)) - x2) < x4 then (((μ.2.1 28 5) + (250 : Int32)) - x2) else x4) else (0 : Int32)))) < x5 then (if (x2 + (if (0 : Int32) < (if (((μ.2.1 28 5) + (250 : Int32)) - x2) < x4 then (((μ.2.1 28 5) + (250 : Int32)) - x2) else x4) then (if (((μ.2.1 28 5) + (250 : Int32)) - x2) < x4 then (((μ.2.1 28 5) + (250 : Int32)) - x2) else x4) else (0 : Int32))) < (m3.2.1 28 5) then (m3.2.1 28 5) else (x2 + (if (0 : Int32) < (if (((μ.2.1 28 5) + (250 : Int32)) - x2) < x4 then (((μ.2.1 28 5) + (250 : Int32)) - x2) else x4) then (if (((μ.2.1 28 5) + (250 : Int32)) - x2) < x4 then (((μ.2.1 28 5) + (250 : Int32)) - x2) else x4) else (0 : Int32)))) else x5) else (m3.2.1 0 11))), (.ref 0)]) (μ' := m3) rfl rfl rfl rfl ?_
    refine XB.go 2 (pc' := 146) (ls' := [some (.ref 0), some (.int x1), some (.int x2), (xdl d3), some (.int x4), some (.int x5), some (.int x6), some (.int (if (0 : Int32) < (if (((μ.2.1 28 5) + (250 : Int32)) - x2) < x4 then (((μ.2.1 28 5) + (250 : Int32)) - x2) else x4) then (if (((μ.2.1 28 5) + (250 : Int32)) - x2) < x4 then (((μ.2.1 28 5) + (250 : Int32)) - x2) else x4) else (0 : Int32))), some (.int (if (x2 + (if (0 : Int32) < (if (((μ.2.1 28 5) + (250 : Int32)) - x2) < x4 then (((μ.2.1 28 5) + (250 : Int32)) - x2) else x4) then (if (((μ.2.1 28 5) + (250 : Int32)) - x2) < x4 then (((μ.2.1 28 5) + (250 : Int32)) - x2) else x4) else (0 : Int32))) < (m3.2.1 28 5) then (m3.2.1 28 5) else (x2 + (if (0 : Int32) < (if (((μ.2.1 28 5) + (250 : Int32)) - x2) < x4 then (((μ.2.1 28 5) + (250 : Int32)) - x2) else x4) then (if (((μ.2.1 28 5) + (250 : Int32)) - x2) < x4 then (((μ.2.1 28 5) + (250 : Int32)) - x2) else x4) else (0 : Int32)))))]) (st' := [(.ref 0)]) (μ' := (m3.1, (xuI m3.2.1 0 11 (if (m3.2.1 0 11) < (if (if (x2 + (if (0 : Int32) < (if (((μ.2.1 28 5) + (250 : Int32)) - x2) < x4 then (((μ.2.1 28 5) + (250 : Int32)) - x2) else x4) then (if (((μ.2.1 28 5) + (250 : Int32)) - x2) < x4 then (((μ.2.1 28 5) + (250 : Int32)) - x2) else x4) else (0 : Int32))) < (m3.2.1 28 5) then (m3.2.1 28 5) else (x2 + (if (0 : Int32) < (if (((μ.2.1 28 5) + (250 : Int32)) - x2) < x4 then (((μ.2.1 28 5) + (250 : Int32)) - x2) else x4) then (if (((μ.2.1 28 5) + (250 : Int32)) - x2) < x4 then (((μ.2.1 28 5) + (250 : Int32)) - x2) else x4) else (0 : Int32)))) < x5 then (if (x2 + (if (0 : Int32) < (if (((μ.2.1 28 5) + (250 : Int32)) - x2) < x4 then (((μ.2.1 28 5) + (250 : Int32)) - x2) else x4) then (if (((μ.2.1 28 5) + (250 : Int32)) - x2) < x4 then (((μ.2.1 28 5) + (250 : Int32)) - x2) else x4) else (0 : Int32))) < (m3.2.1 28 5) then (m3.2.1 28 5) else (x2 + (if (0 : Int32) < (if (((μ.2.1 28 5) + (250 : Int32)) - x2) < x4 then (((μ.2.1 28 5) + (250 : Int32)) - x2) else x4) then (if (((μ.2.1 28 5) + (250 : Int32)) - x2) < x4 then (((μ.2.1 28 5) + (250 : Int32)) - x2) else x4) else (0 : Int32)))) else x5) then (if (if (x2 + (if (0 : Int32) < (if (((μ.2.1 28 5) + (250 : Int32)) - x2) < x4 then (((μ.2.1 28 5) + (250 : Int32)) - x2) else x4) then (if (((μ.2.1 28 5) + (250 : Int32)) - x2) < x4 then (((μ.2.1 28 5) + (250 : Int32)) - x2) else x4) else (0 : Int32))) < (m3.2.1 28 5) then (m3.2.1 28 5) else (x2 + (if (0 : Int32) < (if (((μ.2.1 28 5) + (250 : Int32)) - x2) < x4 then (((μ.2.1 28 5) + (250 : Int32)) - x2) else x4) then (if (((μ.2.1 28 5) + (250 : Int32)) - x2) < x4 then (((μ.2.1 28 5) + (250 : Int32)) - x2) else x4) else (0 : Int32)))) < x5 then (if (x2 + (if (0 : Int32) < (if (((μ.2.1 28 5) + (250 : Int32)) - x2) < x4 then (((μ.2.1 28 5) + (250 : Int32)) - x2) else x4) then (if (((μ.2.1 28 5) + (250 : Int32)) - x2) < x4 then (((μ.2.1 28 5) + (250 : Int32)) - x2) else x4) else (0 : Int32))) < (m3.2.1 28 5) then (m3.2.1 28 5) else (x2 + (if (0 : Int32) < (if (((μ.2.1 28 5) + (250 : Int32)) - x2) < x4 then (((μ.2.1 28 5) + (250 : Int32)) - x2) else x4) then (if (((μ.2.1 28 5) + (250 : Int32)) - x2) < x4 then (((μ.2.1 28 5) + (250 : Int32)) - x2) else x4) else (0 : Int32)))) else x5) else (m3.2.1 0 11))), m3.2.2)) rfl ?_
    refine XB.cv rfl rfl rfl rfl rfl (yC_applyCommitted_ok (m3.1, (xuI m3.2.1 0 11 (if (m3.2.1 0 11) < (if (if (x2 + (if (0 : Int32) < (if (((μ.2.1 28 5) + (250 : Int32)) - x2) < x4 then (((μ.2.1 28 5) + (250 : Int32)) - x2) else x4) then (if (((μ.2.1 28 5) + (250 : Int32)) - x2) < x4 then (((μ.2.1 28 5) + (250 : Int32)) - x2) else x4) else (0 : Int32))) < (m3.2.1 28 5) then (m3.2.1 28 5) else (x2 + (if (0 : Int32) < (if (((μ.2.1 28 5) + (250 : Int32)) - x2) < x4 then (((μ.2.1 28 5) + (250 : Int32)) - x2) else x4) then (if (((μ.2.1 28 5) + (250 : Int32)) - x2) < x4 then (((μ.2.1 28 5) + (250 : Int32)) - x2) else x4) else (0 : Int32)))) < x5 then (if (x2 + (if (0 : Int32) < (if (((μ.2.1 28 5) + (250 : Int32)) - x2) < x4 then (((μ.2.1 28 5) + (250 : Int32)) - x2) else x4) then (if (((μ.2.1 28 5) + (250 : Int32)) - x2) < x4 then (((μ.2.1 28 5) + (250 : Int32)) - x2) else x4) else (0 : Int32))) < (m3.2.1 28 5) then (m3.2.1 28 5) else (x2 + (if (0 : Int32) < (if (((μ.2.1 28 5) + (250 : Int32)) - x2) < x4 then (((μ.2.1 28 5) + (250 : Int32)) - x2) else x4) then (if (((μ.2.1 28 5) + (250 : Int32)) - x2) < x4 then (((μ.2.1 28 5) + (250 : Int32)) - x2) else x4) else (0 : Int32)))) else x5) then (if (if (x2 + (if (0 : Int32) < (if (((μ.2.1 28 5) + (250 : Int32)) - x2) < x4 then (((μ.2.1 28 5) + (250 : Int32)) - x2) else x4) then (if (((μ.2.1 28 5) + (250 : Int32)) - x2) < x4 then (((μ.2.1 28 5) + (250 : Int32)) - x2) else x4) else (0 : Int32))) < (m3.2.1 28 5) then (m3.2.1 28 5) else (x2 + (if (0 : Int32) < (if (((μ.2.1 28 5) + (250 : Int32)) - x2) < x4 then (((μ.2.1 28 5) + (250 : Int32)) - x2) else x4) then (if (((μ.2.1 28 5) + (250 : Int32)) - x2) < x4 then (((μ.2.1 28 5) + (250 : Int32)) - x2) else x4) else (0 : Int32)))) < x5 then (if (x2 + (if (0 : Int32) < (if (((μ.2.1 28 5) + (250 : Int32)) - x2) < x4 then (((μ.2.1 28 5) + (250 : Int32)) - x2) else x4) then (if (((μ.2.1 28 5) + (250 : Int32)) - x2) < x4 then (((μ.2.1 28 5) + (250 : Int32)) - x2) else x4) else (0 : Int32))) < (m3.2.1 28 5) then (m3.2.1 28 5) else (x2 + (if (0 : Int32) < (if (((μ.2.1 28 5) + (250 : Int32)) - x2) < x4 then (((μ.2.1 28 5) + (250 : Int32)) - x2) else x4) then (if (((μ.2.1 28 5) + (250 : Int32)) - x2) < x4 then (((μ.2.1 28 5) + (250 : Int32)) - x2) else x4) else (0 : Int32)))) else x5) else (m3.2.1 0 11))), m3.2.2)) (fun m4 => ?_)
    refine XB.go 5 (pc' := 156) (ls' := [some (.ref 0), some (.int x1), some (.int x2), (xdl d3), some (.int x4), some (.int x5), some (.int x6), some (.int (if (0 : Int32) < (if (((μ.2.1 28 5) + (250 : Int32)) - x2) < x4 then (((μ.2.1 28 5) + (250 : Int32)) - x2) else x4) then (if (((μ.2.1 28 5) + (250 : Int32)) - x2) < x4 then (((μ.2.1 28 5) + (250 : Int32)) - x2) else x4) else (0 : Int32))), some (.int (if (x2 + (if (0 : Int32) < (if (((μ.2.1 28 5) + (250 : Int32)) - x2) < x4 then (((μ.2.1 28 5) + (250 : Int32)) - x2) else x4) then (if (((μ.2.1 28 5) + (250 : Int32)) - x2) < x4 then (((μ.2.1 28 5) + (250 : Int32)) - x2) else x4) else (0 : Int32))) < (m3.2.1 28 5) then (m3.2.1 28 5) else (x2 + (if (0 : Int32) < (if (((μ.2.1 28 5) + (250 : Int32)) - x2) < x4 then (((μ.2.1 28 5) + (250 : Int32)) - x2) else x4) then (if (((μ.2.1 28 5) + (250 : Int32)) - x2) < x4 then (((μ.2.1 28 5) + (250 : Int32)) - x2) else x4) else (0 : Int32)))))]) (st' := [(.int x6), (.int (if (x2 + (if (0 : Int32) < (if (((μ.2.1 28 5) + (250 : Int32)) - x2) < x4 then (((μ.2.1 28 5) + (250 : Int32)) - x2) else x4) then (if (((μ.2.1 28 5) + (250 : Int32)) - x2) < x4 then (((μ.2.1 28 5) + (250 : Int32)) - x2) else x4) else (0 : Int32))) < (m3.2.1 28 5) then (m3.2.1 28 5) else (x2 + (if (0 : Int32) < (if (((μ.2.1 28 5) + (250 : Int32)) - x2) < x4 then (((μ.2.1 28 5) + (250 : Int32)) - x2) else x4) then (if (((μ.2.1 28 5) + (250 : Int32)) - x2) < x4 then (((μ.2.1 28 5) + (250 : Int32)) - x2) else x4) else (0 : Int32))))), (.int (1 : Int32)), (.int x1), (.ref 0)]) (μ' := m4) rfl ?_
    refine XB.cv rfl rfl rfl rfl rfl (yC_replyAppended_ok x1 (1 : Int32) (if (x2 + (if (0 : Int32) < (if (((μ.2.1 28 5) + (250 : Int32)) - x2) < x4 then (((μ.2.1 28 5) + (250 : Int32)) - x2) else x4) then (if (((μ.2.1 28 5) + (250 : Int32)) - x2) < x4 then (((μ.2.1 28 5) + (250 : Int32)) - x2) else x4) else (0 : Int32))) < (m3.2.1 28 5) then (m3.2.1 28 5) else (x2 + (if (0 : Int32) < (if (((μ.2.1 28 5) + (250 : Int32)) - x2) < x4 then (((μ.2.1 28 5) + (250 : Int32)) - x2) else x4) then (if (((μ.2.1 28 5) + (250 : Int32)) - x2) < x4 then (((μ.2.1 28 5) + (250 : Int32)) - x2) else x4) else (0 : Int32)))) x6 m4) (fun m5 => ?_)
    exact XB.fin rfl
  · exact XB.fin rfl
def yC_takeAppend (a1 : Int32) (a2 : Int32) (a3 : Int32) (a4 : Int32) (a5 : Int32) (a6 : Int32) (μ : XMu) : XRes := (if a2 ≤ (μ.2.1 28 9) then (if a2 < (μ.2.1 28 5) then yC_takeAppend_b69  a1 a2 a4 a5 a6 μ else xbi (yDi_termAt a2 μ) (fun r7 m6 => (if r7 = a3 then yC_takeAppend_b69  a1 a2 a4 a5 a6 m6 else xbi (yDi_beginOfTermAt a2 m6) (fun r9 m8 => xbv (yC_replyAppended a1 (0 : Int32) r9 a6 m8) (fun m10 => some (.inl none, m10)))))) else xbv (yC_replyAppended a1 (0 : Int32) ((μ.2.1 28 9) + (1 : Int32)) a6 μ) (fun m11 => some (.inl none, m11)))
theorem yC_takeAppend_ok {L : Nat} {xs : Nat → Int32} (a1 : Int32) (a2 : Int32) (a3 : Int32) (a4 : Int32) (a5 : Int32) (a6 : Int32) (μ : XMu) : XB L xs 110 0 [some (.ref 0), some (.int a1), some (.int a2), some (.int a3), some (.int a4), some (.int a5), some (.int a6), none, none] [] μ (yC_takeAppend a1 a2 a3 a4 a5 a6 μ) := by
  unfold yC_takeAppend
  refine XB.go 4 (pc' := 8) (ls' := [some (.ref 0), some (.int a1), some (.int a2), some (.int a3), some (.int a4), some (.int a5), some (.int a6), none, none]) (st' := [(.int (μ.2.1 28 9)), (.int a2)]) (μ' := μ) rfl ?_
  refine XB.icmp (P := a2 ≤ (μ.2.1 28 9)) rfl rfl rfl (fun c8 => ?_) (fun c8 => ?_)
  · refine XB.go 4 (pc' := 37) (ls' := [some (.ref 0), some (.int a1), some (.int a2), some (.int a3), some (.int a4), some (.int a5), some (.int a6), none, none]) (st' := [(.int (μ.2.1 28 5)), (.int a2)]) (μ' := μ) rfl ?_
    refine XB.icmp (P := a2 < (μ.2.1 28 5)) rfl rfl rfl (fun c37 => ?_) (fun c37 => ?_)
    · exact yC_takeAppend_b69_ok  (some a3) (none) (none) a1 a2 a4 a5 a6 μ
    · refine XB.go 3 (pc' := 45) (ls' := [some (.ref 0), some (.int a1), some (.int a2), some (.int a3), some (.int a4), some (.int a5), some (.int a6), none, none]) (st' := [(.int a2), (.ref 28)]) (μ' := μ) rfl ?_
      refine XB.ci rfl rfl rfl rfl rfl (yDi_termAt_ok a2 μ) (fun r7 m6 => ?_)
      refine XB.go 1 (pc' := 49) (ls' := [some (.ref 0), some (.int a1), some (.int a2), some (.int a3), some (.int a4), some (.int a5), some (.int a6), none, none]) (st' := [(.int a3), (.int r7)]) (μ' := m6) rfl ?_
      refine XB.icmp (P := r7 = a3) rfl rfl rfl (fun c49 => ?_) (fun c49 => ?_)
      · exact yC_takeAppend_b69_ok  (some a3) (none) (none) a1 a2 a4 a5 a6 m6
      · refine XB.go 6 (pc' := 60) (ls' := [some (.ref 0), some (.int a1), some (.int a2), some (.int a3), some (.int a4), some (.int a5), some (.int a6), none, none]) (st' := [(.int a2), (.ref 28), (.int (0 : Int32)), (.int a1), (.ref 0)]) (μ' := m6) rfl ?_
        refine XB.ci rfl rfl rfl rfl rfl (yDi_beginOfTermAt_ok a2 m6) (fun r9 m8 => ?_)
        refine XB.go 1 (pc' := 65) (ls' := [some (.ref 0), some (.int a1), some (.int a2), some (.int a3), some (.int a4), some (.int a5), some (.int a6), none, none]) (st' := [(.int a6), (.int r9), (.int (0 : Int32)), (.int a1), (.ref 0)]) (μ' := m8) rfl ?_
        refine XB.cv rfl rfl rfl rfl rfl (yC_replyAppended_ok a1 (0 : Int32) r9 a6 m8) (fun m10 => ?_)
        exact XB.fin rfl
  · refine XB.go 9 (pc' := 25) (ls' := [some (.ref 0), some (.int a1), some (.int a2), some (.int a3), some (.int a4), some (.int a5), some (.int a6), none, none]) (st' := [(.int a6), (.int ((μ.2.1 28 9) + (1 : Int32))), (.int (0 : Int32)), (.int a1), (.ref 0)]) (μ' := μ) rfl ?_
    refine XB.cv rfl rfl rfl rfl rfl (yC_replyAppended_ok a1 (0 : Int32) ((μ.2.1 28 9) + (1 : Int32)) a6 μ) (fun m11 => ?_)
    exact XB.fin rfl
/-- LogServer.append(IIIIII)V -/
def yC_append (a1 : Int32) (a2 : Int32) (a3 : Int32) (a4 : Int32) (a5 : Int32) (a6 : Int32) (μ : XMu) : XRes := xbi (yTo_takeCount μ) (fun r2 m1 => xbv (yC_checkSender a1 m1) (fun m3 => xbv (yC_checkNumber a2 m3) (fun m4 => xbv (yC_checkNumber a3 m4) (fun m5 => xbv (yC_checkNumber a4 m5) (fun m6 => xbv (yC_checkNumber a5 m6) (fun m7 => xbv (yC_checkNumber a6 m7) (fun m8 => xbi (yTo_termsRise r2 a4 a2 m8) (fun r10 m9 => (if ¬ r10 = (0 : Int32) then xbv (yC_yieldTo a2 m9) (fun m11 => (if (m11.2.1 28 3) ≤ a2 then (if (m11.2.1 0 9) = (3 : Int32) then some (.inl none, m11) else xbv (yC_follow a1 m11) (fun m12 => xbv (yC_takeAppend a1 a3 a4 r2 a5 a6 m12) (fun m13 => some (.inl none, m13)))) else xbv (yC_replyAppended a1 (0 : Int32) (0 : Int32) a6 m11) (fun m14 => some (.inl none, m14)))) else xgd (Nat.blt m9.1 1024) (some (.inr 0, (m9.1 + 1, m9.2.1, m9.2.2))))))))))))
theorem yC_append_ok {L : Nat} {xs : Nat → Int32} (a1 : Int32) (a2 : Int32) (a3 : Int32) (a4 : Int32) (a5 : Int32) (a6 : Int32) (μ : XMu) : XB L xs 111 0 [some (.ref 0), some (.int a1), some (.int a2), some (.int a3), some (.int a4), some (.int a5), some (.int a6), none] [] μ (yC_append a1 a2 a3 a4 a5 a6 μ) := by
  unfold yC_append
  refine XB.go 2 (pc' := 4) (ls' := [some (.ref 0), some (.int a1), some (.int a2), some (.int a3), some (.int a4), some (.int a5), some (.int a6), none]) (st' := [(.ref 7)]) (μ' := μ) rfl ?_
  refine XB.ci rfl rfl rfl rfl rfl (yTo_takeCount_ok μ) (fun r2 m1 => ?_)
  refine XB.go 3 (pc' := 11) (ls' := [some (.ref 0), some (.int a1), some (.int a2), some (.int a3), some (.int a4), some (.int a5), some (.int a6), some (.int r2)]) (st' := [(.int a1), (.ref 0)]) (μ' := m1) rfl ?_
  refine XB.cv rfl rfl rfl rfl rfl (yC_checkSender_ok a1 m1) (fun m3 => ?_)
  refine XB.go 1 (pc' := 15) (ls' := [some (.ref 0), some (.int a1), some (.int a2), some (.int a3), some (.int a4), some (.int a5), some (.int a6), some (.int r2)]) (st' := [(.int a2)]) (μ' := m3) rfl ?_
  refine XB.cv rfl rfl rfl rfl rfl (yC_checkNumber_ok a2 m3) (fun m4 => ?_)
  refine XB.go 1 (pc' := 19) (ls' := [some (.ref 0), some (.int a1), some (.int a2), some (.int a3), some (.int a4), some (.int a5), some (.int a6), some (.int r2)]) (st' := [(.int a3)]) (μ' := m4) rfl ?_
  refine XB.cv rfl rfl rfl rfl rfl (yC_checkNumber_ok a3 m4) (fun m5 => ?_)
  refine XB.go 1 (pc' := 24) (ls' := [some (.ref 0), some (.int a1), some (.int a2), some (.int a3), some (.int a4), some (.int a5), some (.int a6), some (.int r2)]) (st' := [(.int a4)]) (μ' := m5) rfl ?_
  refine XB.cv rfl rfl rfl rfl rfl (yC_checkNumber_ok a4 m5) (fun m6 => ?_)
  refine XB.go 1 (pc' := 29) (ls' := [some (.ref 0), some (.int a1), some (.int a2), some (.int a3), some (.int a4), some (.int a5), some (.int a6), some (.int r2)]) (st' := [(.int a5)]) (μ' := m6) rfl ?_
  refine XB.cv rfl rfl rfl rfl rfl (yC_checkNumber_ok a5 m6) (fun m7 => ?_)
  refine XB.go 1 (pc' := 34) (ls' := [some (.ref 0), some (.int a1), some (.int a2), some (.int a3), some (.int a4), some (.int a5), some (.int a6), some (.int r2)]) (st' := [(.int a6)]) (μ' := m7) rfl ?_
  refine XB.cv rfl rfl rfl rfl rfl (yC_checkNumber_ok a6 m7) (fun m8 => ?_)
  refine XB.go 5 (pc' := 46) (ls' := [some (.ref 0), some (.int a1), some (.int a2), some (.int a3), some (.int a4), some (.int a5), some (.int a6), some (.int r2)]) (st' := [(.int a2), (.int a4), (.int r2), (.ref 7)]) (μ' := m8) rfl ?_
  refine XB.ci rfl rfl rfl rfl rfl (yTo_termsRise_ok r2 a4 a2 m8) (fun r10 m9 => ?_)
  refine XB.ifz (P := ¬ r10 = (0 : Int32)) rfl rfl rfl (fun c49 => ?_) (fun c49 => ?_)
  · refine XB.go 2 (pc' := 64) (ls' := [some (.ref 0), some (.int a1), some (.int a2), some (.int a3), some (.int a4), some (.int a5), some (.int a6), some (.int r2)]) (st' := [(.int a2), (.ref 0)]) (μ' := m9) rfl ?_
    refine XB.cv rfl rfl rfl rfl rfl (yC_yieldTo_ok a2 m9) (fun m11 => ?_)
    refine XB.go 4 (pc' := 75) (ls' := [some (.ref 0), some (.int a1), some (.int a2), some (.int a3), some (.int a4), some (.int a5), some (.int a6), some (.int r2)]) (st' := [(.int (m11.2.1 28 3)), (.int a2)]) (μ' := m11) rfl ?_
    refine XB.icmp (P := (m11.2.1 28 3) ≤ a2) rfl rfl rfl (fun c75 => ?_) (fun c75 => ?_)
    · refine XB.go 3 (pc' := 95) (ls' := [some (.ref 0), some (.int a1), some (.int a2), some (.int a3), some (.int a4), some (.int a5), some (.int a6), some (.int r2)]) (st' := [(.int (3 : Int32)), (.int (m11.2.1 0 9))]) (μ' := m11) rfl ?_
      refine XB.icmp (P := (m11.2.1 0 9) = (3 : Int32)) rfl rfl rfl (fun c95 => ?_) (fun c95 => ?_)
      · exact XB.fin rfl
      · refine XB.go 2 (pc' := 100) (ls' := [some (.ref 0), some (.int a1), some (.int a2), some (.int a3), some (.int a4), some (.int a5), some (.int a6), some (.int r2)]) (st' := [(.int a1), (.ref 0)]) (μ' := m11) rfl ?_
        refine XB.cv rfl rfl rfl rfl rfl (yC_follow_ok a1 m11) (fun m12 => ?_)
        refine XB.go 7 (pc' := 114) (ls' := [some (.ref 0), some (.int a1), some (.int a2), some (.int a3), some (.int a4), some (.int a5), some (.int a6), some (.int r2)]) (st' := [(.int a6), (.int a5), (.int r2), (.int a4), (.int a3), (.int a1), (.ref 0)]) (μ' := m12) rfl ?_
        refine XB.cv rfl rfl rfl rfl rfl (yC_takeAppend_ok a1 a3 a4 r2 a5 a6 m12) (fun m13 => ?_)
        exact XB.fin rfl
    · refine XB.go 5 (pc' := 84) (ls' := [some (.ref 0), some (.int a1), some (.int a2), some (.int a3), some (.int a4), some (.int a5), some (.int a6), some (.int r2)]) (st' := [(.int a6), (.int (0 : Int32)), (.int (0 : Int32)), (.int a1), (.ref 0)]) (μ' := m11) rfl ?_
      refine XB.cv rfl rfl rfl rfl rfl (yC_replyAppended_ok a1 (0 : Int32) (0 : Int32) a6 m11) (fun m14 => ?_)
      refine XB.go 1 (pc' := 117) (ls' := [some (.ref 0), some (.int a1), some (.int a2), some (.int a3), some (.int a4), some (.int a5), some (.int a6), some (.int r2)]) (st' := []) (μ' := m14) rfl ?_
      exact XB.fin rfl
  · exact XB.thw rfl (fun f => rfl)
/-- LogServer.isOwnPeer(II)Z -/
def yC_isOwnPeer (a1 : Int32) (a2 : Int32) (μ : XMu) : Int32 := (if ¬ (μ.2.1 0 9) = (3 : Int32) then (0 : Int32) else (if ¬ a2 = (μ.2.1 28 3) then (0 : Int32) else (if (yC_has (yC_peers μ) a1) = (0 : Int32) then (0 : Int32) else (1 : Int32))))
theorem yC_isOwnPeer_ok {L : Nat} {xs : Nat → Int32} (a1 : Int32) (a2 : Int32) (μ : XMu) : XB L xs 113 0 [some (.ref 0), some (.int a1), some (.int a2)] [] μ (some (.inl (some (.int (yC_isOwnPeer a1 a2 μ))), μ)) := by
  unfold yC_isOwnPeer
  refine XB.go 3 (pc' := 5) (ls' := [some (.ref 0), some (.int a1), some (.int a2)]) (st' := [(.int (3 : Int32)), (.int (μ.2.1 0 9))]) (μ' := μ) rfl ?_
  refine XB.icmpv (P := ¬ (μ.2.1 0 9) = (3 : Int32)) rfl rfl rfl (fun c5 => ?_) (fun c5 => ?_)
  · refine XB.go 1 (pc' := 35) (ls' := [some (.ref 0), some (.int a1), some (.int a2)]) (st' := [(.int (0 : Int32))]) (μ' := μ) rfl ?_
    exact XB.fin rfl
  · refine XB.go 4 (pc' := 16) (ls' := [some (.ref 0), some (.int a1), some (.int a2)]) (st' := [(.int (μ.2.1 28 3)), (.int a2)]) (μ' := μ) rfl ?_
    refine XB.icmpv (P := ¬ a2 = (μ.2.1 28 3)) rfl rfl rfl (fun c16 => ?_) (fun c16 => ?_)
    · refine XB.go 1 (pc' := 35) (ls' := [some (.ref 0), some (.int a1), some (.int a2)]) (st' := [(.int (0 : Int32))]) (μ' := μ) rfl ?_
      exact XB.fin rfl
    · refine XB.go 1 (pc' := 20) (ls' := [some (.ref 0), some (.int a1), some (.int a2)]) (st' := [(.ref 0)]) (μ' := μ) rfl ?_
      refine XB.cp rfl rfl rfl (yC_peers_ok μ) ?_
      refine XB.go 1 (pc' := 24) (ls' := [some (.ref 0), some (.int a1), some (.int a2)]) (st' := [(.int a1), (.int (yC_peers μ))]) (μ' := μ) rfl ?_
      refine XB.cp rfl rfl rfl (yC_has_ok (yC_peers μ) a1 μ) ?_
      refine XB.ifzv (P := (yC_has (yC_peers μ) a1) = (0 : Int32)) rfl rfl rfl (fun c27 => ?_) (fun c27 => ?_)
      · refine XB.go 1 (pc' := 35) (ls' := [some (.ref 0), some (.int a1), some (.int a2)]) (st' := [(.int (0 : Int32))]) (μ' := μ) rfl ?_
        exact XB.fin rfl
      · refine XB.go 2 (pc' := 35) (ls' := [some (.ref 0), some (.int a1), some (.int a2)]) (st' := [(.int (1 : Int32))]) (μ' := μ) rfl ?_
        exact XB.fin rfl
theorem yC_isOwnPeer_01 (a1 : Int32) (a2 : Int32) (μ : XMu) : x01 (yC_isOwnPeer a1 a2 μ) = true := by
  unfold yC_isOwnPeer
  repeat (first | rfl | (exact rfl) | split)
/-- LogServer$Lead.hear(III)V -/
def yLe_hear (a1 : Int32) (a2 : Int32) (a3 : Int32) (μ : XMu) : XRes := xgd (xin a1 7) (xgd (xin a1 7) (xgd (xin a1 7) (xgd (xin a1 7) (some (.inl none, (μ.1, (xuI (xuI (xuI μ.2.1 18 (a1).toNatClampNeg a2) 19 (a1).toNatClampNeg (1 : Int32)) 17 (a1).toNatClampNeg (if (μ.2.1 17 (a1).toNatClampNeg) < a3 then a3 else (μ.2.1 17 (a1).toNatClampNeg))), μ.2.2))))))
theorem yLe_hear_ok {L : Nat} {xs : Nat → Int32} (a1 : Int32) (a2 : Int32) (a3 : Int32) (μ : XMu) : XB L xs 114 0 [some (.ref 11), some (.int a1), some (.int a2), some (.int a3)] [] μ (yLe_hear a1 a2 a3 μ) := by
  unfold yLe_hear
  refine XB.go 4 (pc' := 6) (ls' := [some (.ref 11), some (.int a1), some (.int a2), some (.int a3)]) (st' := [(.int a2), (.int a1), (.ref 18)]) (μ' := μ) rfl ?_
  refine XB.gd (pc' := 7) (ls' := [some (.ref 11), some (.int a1), some (.int a2), some (.int a3)]) (st' := []) (μ' := (μ.1, (xuI μ.2.1 18 (a1).toNatClampNeg a2), μ.2.2)) rfl rfl rfl (fun hb => xbT hb) ?_
  refine XB.go 4 (pc' := 13) (ls' := [some (.ref 11), some (.int a1), some (.int a2), some (.int a3)]) (st' := [(.int (1 : Int32)), (.int a1), (.ref 19)]) (μ' := (μ.1, (xuI μ.2.1 18 (a1).toNatClampNeg a2), μ.2.2)) rfl ?_
  refine XB.gd (pc' := 14) (ls' := [some (.ref 11), some (.int a1), some (.int a2), some (.int a3)]) (st' := []) (μ' := (μ.1, (xuI (xuI μ.2.1 18 (a1).toNatClampNeg a2) 19 (a1).toNatClampNeg (1 : Int32)), μ.2.2)) rfl rfl rfl (fun hb => xbT (xbL hb)) ?_
  refine XB.go 6 (pc' := 24) (ls' := [some (.ref 11), some (.int a1), some (.int a2), some (.int a3)]) (st' := [(.int a1), (.ref 17), (.int a1), (.ref 17)]) (μ' := (μ.1, (xuI (xuI μ.2.1 18 (a1).toNatClampNeg a2) 19 (a1).toNatClampNeg (1 : Int32)), μ.2.2)) rfl ?_
  refine XB.gd (pc' := 25) (ls' := [some (.ref 11), some (.int a1), some (.int a2), some (.int a3)]) (st' := [(.int (μ.2.1 17 (a1).toNatClampNeg)), (.int a1), (.ref 17)]) (μ' := (μ.1, (xuI (xuI μ.2.1 18 (a1).toNatClampNeg a2) 19 (a1).toNatClampNeg (1 : Int32)), μ.2.2)) rfl rfl rfl (fun hb => xbT hb) ?_
  refine XB.go 1 (pc' := 26) (ls' := [some (.ref 11), some (.int a1), some (.int a2), some (.int a3)]) (st' := [(.int a3), (.int (μ.2.1 17 (a1).toNatClampNeg)), (.int a1), (.ref 17)]) (μ' := (μ.1, (xuI (xuI μ.2.1 18 (a1).toNatClampNeg a2) 19 (a1).toNatClampNeg (1 : Int32)), μ.2.2)) rfl ?_
  refine XB.nat (rst := [(.int (if (μ.2.1 17 (a1).toNatClampNeg) < a3 then a3 else (μ.2.1 17 (a1).toNatClampNeg))), (.int a1), (.ref 17)]) (μ' := (μ.1, (xuI (xuI μ.2.1 18 (a1).toNatClampNeg a2) 19 (a1).toNatClampNeg (1 : Int32)), μ.2.2)) rfl rfl rfl rfl ?_
  refine XB.gd (pc' := 30) (ls' := [some (.ref 11), some (.int a1), some (.int a2), some (.int a3)]) (st' := []) (μ' := (μ.1, (xuI (xuI (xuI μ.2.1 18 (a1).toNatClampNeg a2) 19 (a1).toNatClampNeg (1 : Int32)) 17 (a1).toNatClampNeg (if (μ.2.1 17 (a1).toNatClampNeg) < a3 then a3 else (μ.2.1 17 (a1).toNatClampNeg))), μ.2.2)) rfl rfl rfl (fun hb => xbT hb) ?_
  exact XB.fin rfl
/-- LogServer$Lead.accept(II)V -/
def yLe_accept (a1 : Int32) (a2 : Int32) (μ : XMu) : XRes := xgd (xin a1 7) (xgd (xin a1 7) (xgd (xin a1 7) (xgd (xin a1 7) (xgd (xin a1 7) (xgd (xin a1 7) (xgd (xin a1 7) (some (.inl none, (μ.1, (xuI (xuI (xuI (xuI μ.2.1 13 (a1).toNatClampNeg (if (μ.2.1 13 (a1).toNatClampNeg) < a2 then a2 else (μ.2.1 13 (a1).toNatClampNeg))) 15 (a1).toNatClampNeg (0 : Int32)) 14 (a1).toNatClampNeg (if (0 : Int32) < ((μ.2.1 14 (a1).toNatClampNeg) - (1 : Int32)) then ((μ.2.1 14 (a1).toNatClampNeg) - (1 : Int32)) else (0 : Int32))) 12 (a1).toNatClampNeg (if (μ.2.1 12 (a1).toNatClampNeg) < (a2 + (1 : Int32)) then (a2 + (1 : Int32)) else (μ.2.1 12 (a1).toNatClampNeg))), μ.2.2)))))))))
theorem yLe_accept_ok {L : Nat} {xs : Nat → Int32} (a1 : Int32) (a2 : Int32) (μ : XMu) : XB L xs 115 0 [some (.ref 11), some (.int a1), some (.int a2)] [] μ (yLe_accept a1 a2 μ) := by
  unfold yLe_accept
  refine XB.go 6 (pc' := 10) (ls' := [some (.ref 11), some (.int a1), some (.int a2)]) (st' := [(.int a1), (.ref 13), (.int a1), (.ref 13)]) (μ' := μ) rfl ?_
  refine XB.gd (pc' := 11) (ls' := [some (.ref 11), some (.int a1), some (.int a2)]) (st' := [(.int (μ.2.1 13 (a1).toNatClampNeg)), (.int a1), (.ref 13)]) (μ' := μ) rfl rfl rfl (fun hb => xbT hb) ?_
  refine XB.go 1 (pc' := 12) (ls' := [some (.ref 11), some (.int a1), some (.int a2)]) (st' := [(.int a2), (.int (μ.2.1 13 (a1).toNatClampNeg)), (.int a1), (.ref 13)]) (μ' := μ) rfl ?_
  refine XB.nat (rst := [(.int (if (μ.2.1 13 (a1).toNatClampNeg) < a2 then a2 else (μ.2.1 13 (a1).toNatClampNeg))), (.int a1), (.ref 13)]) (μ' := μ) rfl rfl rfl rfl ?_
  refine XB.gd (pc' := 16) (ls' := [some (.ref 11), some (.int a1), some (.int a2)]) (st' := []) (μ' := (μ.1, (xuI μ.2.1 13 (a1).toNatClampNeg (if (μ.2.1 13 (a1).toNatClampNeg) < a2 then a2 else (μ.2.1 13 (a1).toNatClampNeg))), μ.2.2)) rfl rfl rfl (fun hb => xbT hb) ?_
  refine XB.go 4 (pc' := 22) (ls' := [some (.ref 11), some (.int a1), some (.int a2)]) (st' := [(.int (0 : Int32)), (.int a1), (.ref 15)]) (μ' := (μ.1, (xuI μ.2.1 13 (a1).toNatClampNeg (if (μ.2.1 13 (a1).toNatClampNeg) < a2 then a2 else (μ.2.1 13 (a1).toNatClampNeg))), μ.2.2)) rfl ?_
  refine XB.gd (pc' := 23) (ls' := [some (.ref 11), some (.int a1), some (.int a2)]) (st' := []) (μ' := (μ.1, (xuI (xuI μ.2.1 13 (a1).toNatClampNeg (if (μ.2.1 13 (a1).toNatClampNeg) < a2 then a2 else (μ.2.1 13 (a1).toNatClampNeg))) 15 (a1).toNatClampNeg (0 : Int32)), μ.2.2)) rfl rfl rfl (fun hb => xbT (xbL hb)) ?_
  refine XB.go 7 (pc' := 34) (ls' := [some (.ref 11), some (.int a1), some (.int a2)]) (st' := [(.int a1), (.ref 14), (.int (0 : Int32)), (.int a1), (.ref 14)]) (μ' := (μ.1, (xuI (xuI μ.2.1 13 (a1).toNatClampNeg (if (μ.2.1 13 (a1).toNatClampNeg) < a2 then a2 else (μ.2.1 13 (a1).toNatClampNeg))) 15 (a1).toNatClampNeg (0 : Int32)), μ.2.2)) rfl ?_
  refine XB.gd (pc' := 35) (ls' := [some (.ref 11), some (.int a1), some (.int a2)]) (st' := [(.int (μ.2.1 14 (a1).toNatClampNeg)), (.int (0 : Int32)), (.int a1), (.ref 14)]) (μ' := (μ.1, (xuI (xuI μ.2.1 13 (a1).toNatClampNeg (if (μ.2.1 13 (a1).toNatClampNeg) < a2 then a2 else (μ.2.1 13 (a1).toNatClampNeg))) 15 (a1).toNatClampNeg (0 : Int32)), μ.2.2)) rfl rfl rfl (fun hb => xbT hb) ?_
  refine XB.go 2 (pc' := 37) (ls' := [some (.ref 11), some (.int a1), some (.int a2)]) (st' := [(.int ((μ.2.1 14 (a1).toNatClampNeg) - (1 : Int32))), (.int (0 : Int32)), (.int a1), (.ref 14)]) (μ' := (μ.1, (xuI (xuI μ.2.1 13 (a1).toNatClampNeg (if (μ.2.1 13 (a1).toNatClampNeg) < a2 then a2 else (μ.2.1 13 (a1).toNatClampNeg))) 15 (a1).toNatClampNeg (0 : Int32)), μ.2.2)) rfl ?_
  refine XB.nat (rst := [(.int (if (0 : Int32) < ((μ.2.1 14 (a1).toNatClampNeg) - (1 : Int32)) then ((μ.2.1 14 (a1).toNatClampNeg) - (1 : Int32)) else (0 : Int32))), (.int a1), (.ref 14)]) (μ' := (μ.1, (xuI (xuI μ.2.1 13 (a1).toNatClampNeg (if (μ.2.1 13 (a1).toNatClampNeg) < a2 then a2 else (μ.2.1 13 (a1).toNatClampNeg))) 15 (a1).toNatClampNeg (0 : Int32)), μ.2.2)) rfl rfl rfl rfl ?_
  refine XB.gd (pc' := 41) (ls' := [some (.ref 11), some (.int a1), some (.int a2)]) (st' := []) (μ' := (μ.1, (xuI (xuI (xuI μ.2.1 13 (a1).toNatClampNeg (if (μ.2.1 13 (a1).toNatClampNeg) < a2 then a2 else (μ.2.1 13 (a1).toNatClampNeg))) 15 (a1).toNatClampNeg (0 : Int32)) 14 (a1).toNatClampNeg (if (0 : Int32) < ((μ.2.1 14 (a1).toNatClampNeg) - (1 : Int32)) then ((μ.2.1 14 (a1).toNatClampNeg) - (1 : Int32)) else (0 : Int32))), μ.2.2)) rfl rfl rfl (fun hb => xbT hb) ?_
  refine XB.go 6 (pc' := 51) (ls' := [some (.ref 11), some (.int a1), some (.int a2)]) (st' := [(.int a1), (.ref 12), (.int a1), (.ref 12)]) (μ' := (μ.1, (xuI (xuI (xuI μ.2.1 13 (a1).toNatClampNeg (if (μ.2.1 13 (a1).toNatClampNeg) < a2 then a2 else (μ.2.1 13 (a1).toNatClampNeg))) 15 (a1).toNatClampNeg (0 : Int32)) 14 (a1).toNatClampNeg (if (0 : Int32) < ((μ.2.1 14 (a1).toNatClampNeg) - (1 : Int32)) then ((μ.2.1 14 (a1).toNatClampNeg) - (1 : Int32)) else (0 : Int32))), μ.2.2)) rfl ?_
  refine XB.gd (pc' := 52) (ls' := [some (.ref 11), some (.int a1), some (.int a2)]) (st' := [(.int (μ.2.1 12 (a1).toNatClampNeg)), (.int a1), (.ref 12)]) (μ' := (μ.1, (xuI (xuI (xuI μ.2.1 13 (a1).toNatClampNeg (if (μ.2.1 13 (a1).toNatClampNeg) < a2 then a2 else (μ.2.1 13 (a1).toNatClampNeg))) 15 (a1).toNatClampNeg (0 : Int32)) 14 (a1).toNatClampNeg (if (0 : Int32) < ((μ.2.1 14 (a1).toNatClampNeg) - (1 : Int32)) then ((μ.2.1 14 (a1).toNatClampNeg) - (1 : Int32)) else (0 : Int32))), μ.2.2)) rfl rfl rfl (fun hb => xbT hb) ?_
  refine XB.go 3 (pc' := 55) (ls' := [some (.ref 11), some (.int a1), some (.int a2)]) (st' := [(.int (a2 + (1 : Int32))), (.int (μ.2.1 12 (a1).toNatClampNeg)), (.int a1), (.ref 12)]) (μ' := (μ.1, (xuI (xuI (xuI μ.2.1 13 (a1).toNatClampNeg (if (μ.2.1 13 (a1).toNatClampNeg) < a2 then a2 else (μ.2.1 13 (a1).toNatClampNeg))) 15 (a1).toNatClampNeg (0 : Int32)) 14 (a1).toNatClampNeg (if (0 : Int32) < ((μ.2.1 14 (a1).toNatClampNeg) - (1 : Int32)) then ((μ.2.1 14 (a1).toNatClampNeg) - (1 : Int32)) else (0 : Int32))), μ.2.2)) rfl ?_
  refine XB.nat (rst := [(.int (if (μ.2.1 12 (a1).toNatClampNeg) < (a2 + (1 : Int32)) then (a2 + (1 : Int32)) else (μ.2.1 12 (a1).toNatClampNeg))), (.int a1), (.ref 12)]) (μ' := (μ.1, (xuI (xuI (xuI μ.2.1 13 (a1).toNatClampNeg (if (μ.2.1 13 (a1).toNatClampNeg) < a2 then a2 else (μ.2.1 13 (a1).toNatClampNeg))) 15 (a1).toNatClampNeg (0 : Int32)) 14 (a1).toNatClampNeg (if (0 : Int32) < ((μ.2.1 14 (a1).toNatClampNeg) - (1 : Int32)) then ((μ.2.1 14 (a1).toNatClampNeg) - (1 : Int32)) else (0 : Int32))), μ.2.2)) rfl rfl rfl rfl ?_
  refine XB.gd (pc' := 59) (ls' := [some (.ref 11), some (.int a1), some (.int a2)]) (st' := []) (μ' := (μ.1, (xuI (xuI (xuI (xuI μ.2.1 13 (a1).toNatClampNeg (if (μ.2.1 13 (a1).toNatClampNeg) < a2 then a2 else (μ.2.1 13 (a1).toNatClampNeg))) 15 (a1).toNatClampNeg (0 : Int32)) 14 (a1).toNatClampNeg (if (0 : Int32) < ((μ.2.1 14 (a1).toNatClampNeg) - (1 : Int32)) then ((μ.2.1 14 (a1).toNatClampNeg) - (1 : Int32)) else (0 : Int32))) 12 (a1).toNatClampNeg (if (μ.2.1 12 (a1).toNatClampNeg) < (a2 + (1 : Int32)) then (a2 + (1 : Int32)) else (μ.2.1 12 (a1).toNatClampNeg))), μ.2.2)) rfl rfl rfl (fun hb => xbT hb) ?_
  exact XB.fin rfl
/-- LogServer$Lead.refuse(III)V -/
def yLe_refuse (a1 : Int32) (a2 : Int32) (a3 : Int32) (μ : XMu) : XRes := xgd (xin a1 7) (xgd (xin a1 7) (xgd (xin a1 7) (xgd (xin a1 7) (some (.inl none, (μ.1, (xuI (xuI (xuI μ.2.1 14 (a1).toNatClampNeg (0 : Int32)) 15 (a1).toNatClampNeg (1 : Int32)) 12 (a1).toNatClampNeg (if (a3 + (1 : Int32)) < (if a2 < ((μ.2.1 13 (a1).toNatClampNeg) + (1 : Int32)) then ((μ.2.1 13 (a1).toNatClampNeg) + (1 : Int32)) else a2) then (a3 + (1 : Int32)) else (if a2 < ((μ.2.1 13 (a1).toNatClampNeg) + (1 : Int32)) then ((μ.2.1 13 (a1).toNatClampNeg) + (1 : Int32)) else a2))), μ.2.2))))))
theorem yLe_refuse_ok {L : Nat} {xs : Nat → Int32} (a1 : Int32) (a2 : Int32) (a3 : Int32) (μ : XMu) : XB L xs 116 0 [some (.ref 11), some (.int a1), some (.int a2), some (.int a3)] [] μ (yLe_refuse a1 a2 a3 μ) := by
  unfold yLe_refuse
  refine XB.go 4 (pc' := 6) (ls' := [some (.ref 11), some (.int a1), some (.int a2), some (.int a3)]) (st' := [(.int (0 : Int32)), (.int a1), (.ref 14)]) (μ' := μ) rfl ?_
  refine XB.gd (pc' := 7) (ls' := [some (.ref 11), some (.int a1), some (.int a2), some (.int a3)]) (st' := []) (μ' := (μ.1, (xuI μ.2.1 14 (a1).toNatClampNeg (0 : Int32)), μ.2.2)) rfl rfl rfl (fun hb => xbT hb) ?_
  refine XB.go 4 (pc' := 13) (ls' := [some (.ref 11), some (.int a1), some (.int a2), some (.int a3)]) (st' := [(.int (1 : Int32)), (.int a1), (.ref 15)]) (μ' := (μ.1, (xuI μ.2.1 14 (a1).toNatClampNeg (0 : Int32)), μ.2.2)) rfl ?_
  refine XB.gd (pc' := 14) (ls' := [some (.ref 11), some (.int a1), some (.int a2), some (.int a3)]) (st' := []) (μ' := (μ.1, (xuI (xuI μ.2.1 14 (a1).toNatClampNeg (0 : Int32)) 15 (a1).toNatClampNeg (1 : Int32)), μ.2.2)) rfl rfl rfl (fun hb => xbT (xbL hb)) ?_
  refine XB.go 7 (pc' := 25) (ls' := [some (.ref 11), some (.int a1), some (.int a2), some (.int a3)]) (st' := [(.int a1), (.ref 13), (.int a2), (.int a1), (.ref 12)]) (μ' := (μ.1, (xuI (xuI μ.2.1 14 (a1).toNatClampNeg (0 : Int32)) 15 (a1).toNatClampNeg (1 : Int32)), μ.2.2)) rfl ?_
  refine XB.gd (pc' := 26) (ls' := [some (.ref 11), some (.int a1), some (.int a2), some (.int a3)]) (st' := [(.int (μ.2.1 13 (a1).toNatClampNeg)), (.int a2), (.int a1), (.ref 12)]) (μ' := (μ.1, (xuI (xuI μ.2.1 14 (a1).toNatClampNeg (0 : Int32)) 15 (a1).toNatClampNeg (1 : Int32)), μ.2.2)) rfl rfl rfl (fun hb => xbT hb) ?_
  refine XB.go 2 (pc' := 28) (ls' := [some (.ref 11), some (.int a1), some (.int a2), some (.int a3)]) (st' := [(.int ((μ.2.1 13 (a1).toNatClampNeg) + (1 : Int32))), (.int a2), (.int a1), (.ref 12)]) (μ' := (μ.1, (xuI (xuI μ.2.1 14 (a1).toNatClampNeg (0 : Int32)) 15 (a1).toNatClampNeg (1 : Int32)), μ.2.2)) rfl ?_
  refine XB.nat (rst := [(.int (if a2 < ((μ.2.1 13 (a1).toNatClampNeg) + (1 : Int32)) then ((μ.2.1 13 (a1).toNatClampNeg) + (1 : Int32)) else a2)), (.int a1), (.ref 12)]) (μ' := (μ.1, (xuI (xuI μ.2.1 14 (a1).toNatClampNeg (0 : Int32)) 15 (a1).toNatClampNeg (1 : Int32)), μ.2.2)) rfl rfl rfl rfl ?_
  refine XB.go 3 (pc' := 34) (ls' := [some (.ref 11), some (.int a1), some (.int a2), some (.int a3)]) (st' := [(.int (a3 + (1 : Int32))), (.int (if a2 < ((μ.2.1 13 (a1).toNatClampNeg) + (1 : Int32)) then ((μ.2.1 13 (a1).toNatClampNeg) + (1 : Int32)) else a2)), (.int a1), (.ref 12)]) (μ' := (μ.1, (xuI (xuI μ.2.1 14 (a1).toNatClampNeg (0 : Int32)) 15 (a1).toNatClampNeg (1 : Int32)), μ.2.2)) rfl ?_
  refine XB.nat (rst := [(.int (if (a3 + (1 : Int32)) < (if a2 < ((μ.2.1 13 (a1).toNatClampNeg) + (1 : Int32)) then ((μ.2.1 13 (a1).toNatClampNeg) + (1 : Int32)) else a2) then (a3 + (1 : Int32)) else (if a2 < ((μ.2.1 13 (a1).toNatClampNeg) + (1 : Int32)) then ((μ.2.1 13 (a1).toNatClampNeg) + (1 : Int32)) else a2))), (.int a1), (.ref 12)]) (μ' := (μ.1, (xuI (xuI μ.2.1 14 (a1).toNatClampNeg (0 : Int32)) 15 (a1).toNatClampNeg (1 : Int32)), μ.2.2)) rfl rfl rfl rfl ?_
  refine XB.gd (pc' := 38) (ls' := [some (.ref 11), some (.int a1), some (.int a2), some (.int a3)]) (st' := []) (μ' := (μ.1, (xuI (xuI (xuI μ.2.1 14 (a1).toNatClampNeg (0 : Int32)) 15 (a1).toNatClampNeg (1 : Int32)) 12 (a1).toNatClampNeg (if (a3 + (1 : Int32)) < (if a2 < ((μ.2.1 13 (a1).toNatClampNeg) + (1 : Int32)) then ((μ.2.1 13 (a1).toNatClampNeg) + (1 : Int32)) else a2) then (a3 + (1 : Int32)) else (if a2 < ((μ.2.1 13 (a1).toNatClampNeg) + (1 : Int32)) then ((μ.2.1 13 (a1).toNatClampNeg) + (1 : Int32)) else a2))), μ.2.2)) rfl rfl rfl (fun hb => xbT hb) ?_
  exact XB.fin rfl
/-- LogServer.goOnWith(I)V -/
def yC_goOnWith (a1 : Int32) (μ : XMu) : XRes := xbv (yC_countCommitted μ) (fun m1 => xbv (yC_answerReads m1) (fun m2 => (if ¬ (m2.2.1 0 9) = (3 : Int32) then some (.inl none, m2) else (if ¬ (yC_has (yC_peers m2) a1) = (0 : Int32) then xbv (yC_sendTo a1 (0 : Int32) m2) (fun m3 => (if ¬ (m3.2.1 0 16) = a1 then some (.inl none, m3) else xgd (xin a1 7) ((if ¬ (m3.2.1 13 (a1).toNatClampNeg) = (m3.2.1 28 9) then some (.inl none, m3) else xbv (yC_sendGo a1 m3) (fun m4 => some (.inl none, m4)))))) else some (.inl none, m2)))))
theorem yC_goOnWith_ok {L : Nat} {xs : Nat → Int32} (a1 : Int32) (μ : XMu) : XB L xs 117 0 [some (.ref 0), some (.int a1)] [] μ (yC_goOnWith a1 μ) := by
  unfold yC_goOnWith
  refine XB.go 1 (pc' := 1) (ls' := [some (.ref 0), some (.int a1)]) (st' := [(.ref 0)]) (μ' := μ) rfl ?_
  refine XB.cv rfl rfl rfl rfl rfl (yC_countCommitted_ok μ) (fun m1 => ?_)
  refine XB.go 1 (pc' := 5) (ls' := [some (.ref 0), some (.int a1)]) (st' := [(.ref 0)]) (μ' := m1) rfl ?_
  refine XB.cv rfl rfl rfl rfl rfl (yC_answerReads_ok m1) (fun m2 => ?_)
  refine XB.go 3 (pc' := 13) (ls' := [some (.ref 0), some (.int a1)]) (st' := [(.int (3 : Int32)), (.int (m2.2.1 0 9))]) (μ' := m2) rfl ?_
  refine XB.icmp (P := ¬ (m2.2.1 0 9) = (3 : Int32)) rfl rfl rfl (fun c13 => ?_) (fun c13 => ?_)
  · exact XB.fin rfl
  · refine XB.go 1 (pc' := 17) (ls' := [some (.ref 0), some (.int a1)]) (st' := [(.ref 0)]) (μ' := m2) rfl ?_
    refine XB.cp rfl rfl rfl (yC_peers_ok m2) ?_
    refine XB.go 1 (pc' := 21) (ls' := [some (.ref 0), some (.int a1)]) (st' := [(.int a1), (.int (yC_peers m2))]) (μ' := m2) rfl ?_
    refine XB.cp rfl rfl rfl (yC_has_ok (yC_peers m2) a1 m2) ?_
    refine XB.ifz (P := ¬ (yC_has (yC_peers m2) a1) = (0 : Int32)) rfl rfl rfl (fun c24 => ?_) (fun c24 => ?_)
    · refine XB.go 3 (pc' := 31) (ls' := [some (.ref 0), some (.int a1)]) (st' := [(.int (0 : Int32)), (.int a1), (.ref 0)]) (μ' := m2) rfl ?_
      refine XB.cv rfl rfl rfl rfl rfl (yC_sendTo_ok a1 (0 : Int32) m2) (fun m3 => ?_)
      refine XB.go 3 (pc' := 39) (ls' := [some (.ref 0), some (.int a1)]) (st' := [(.int a1), (.int (m3.2.1 0 16))]) (μ' := m3) rfl ?_
      refine XB.icmp (P := ¬ (m3.2.1 0 16) = a1) rfl rfl rfl (fun c39 => ?_) (fun c39 => ?_)
      · exact XB.fin rfl
      · refine XB.go 4 (pc' := 50) (ls' := [some (.ref 0), some (.int a1)]) (st' := [(.int a1), (.ref 13)]) (μ' := m3) rfl ?_
        refine XB.gd (pc' := 51) (ls' := [some (.ref 0), some (.int a1)]) (st' := [(.int (m3.2.1 13 (a1).toNatClampNeg))]) (μ' := m3) rfl rfl rfl (fun hb => xbT hb) ?_
        refine XB.go 3 (pc' := 58) (ls' := [some (.ref 0), some (.int a1)]) (st' := [(.int (m3.2.1 28 9)), (.int (m3.2.1 13 (a1).toNatClampNeg))]) (μ' := m3) rfl ?_
        refine XB.icmp (P := ¬ (m3.2.1 13 (a1).toNatClampNeg) = (m3.2.1 28 9)) rfl rfl rfl (fun c58 => ?_) (fun c58 => ?_)
        · exact XB.fin rfl
        · refine XB.go 2 (pc' := 63) (ls' := [some (.ref 0), some (.int a1)]) (st' := [(.int a1), (.ref 0)]) (μ' := m3) rfl ?_
          refine XB.cv rfl rfl rfl rfl rfl (yC_sendGo_ok a1 m3) (fun m4 => ?_)
          exact XB.fin rfl
    · exact XB.fin rfl
/-- LogServer.appended(IIZII)V -/
def yC_appended (a1 : Int32) (a2 : Int32) (a3 : Int32) (a4 : Int32) (a5 : Int32) (μ : XMu) : XRes := xbv (yC_checkSender a1 μ) (fun m1 => xbv (yC_checkNumber a2 m1) (fun m2 => xbv (yC_checkNumber a4 m2) (fun m3 => xbv (yC_checkNumber a5 m3) (fun m4 => xbv (yC_yieldTo a2 m4) (fun m5 => (if ¬ (yC_isOwnPeer a1 a2 m5) = (0 : Int32) then xbv (yLe_hear a1 (m5.2.1 0 8) a5 m5) (fun m6 => (if a3 = (0 : Int32) then xbv (yLe_refuse a1 a4 (m6.2.1 28 9) m6) (fun m7 => xbv (yC_goOnWith a1 m7) (fun m8 => some (.inl none, m8))) else xbv (yLe_accept a1 (if (m6.2.1 28 9) < a4 then (m6.2.1 28 9) else a4) m6) (fun m9 => xbv (yC_goOnWith a1 m9) (fun m10 => some (.inl none, m10))))) else some (.inl none, m5)))))))
theorem yC_appended_ok {L : Nat} {xs : Nat → Int32} (a1 : Int32) (a2 : Int32) (a3 : Int32) (a4 : Int32) (a5 : Int32) (μ : XMu) : XB L xs 118 0 [some (.ref 0), some (.int a1), some (.int a2), some (.int a3), some (.int a4), some (.int a5)] [] μ (yC_appended a1 a2 a3 a4 a5 μ) := by
  unfold yC_appended
  refine XB.go 2 (pc' := 2) (ls' := [some (.ref 0), some (.int a1), some (.int a2), some (.int a3), some (.int a4), some (.int a5)]) (st' := [(.int a1), (.ref 0)]) (μ' := μ) rfl ?_
  refine XB.cv rfl rfl rfl rfl rfl (yC_checkSender_ok a1 μ) (fun m1 => ?_)
  refine XB.go 1 (pc' := 6) (ls' := [some (.ref 0), some (.int a1), some (.int a2), some (.int a3), some (.int a4), some (.int a5)]) (st' := [(.int a2)]) (μ' := m1) rfl ?_
  refine XB.cv rfl rfl rfl rfl rfl (yC_checkNumber_ok a2 m1) (fun m2 => ?_)
  refine XB.go 1 (pc' := 11) (ls' := [some (.ref 0), some (.int a1), some (.int a2), some (.int a3), some (.int a4), some (.int a5)]) (st' := [(.int a4)]) (μ' := m2) rfl ?_
  refine XB.cv rfl rfl rfl rfl rfl (yC_checkNumber_ok a4 m2) (fun m3 => ?_)
  refine XB.go 1 (pc' := 16) (ls' := [some (.ref 0), some (.int a1), some (.int a2), some (.int a3), some (.int a4), some (.int a5)]) (st' := [(.int a5)]) (μ' := m3) rfl ?_
  refine XB.cv rfl rfl rfl rfl rfl (yC_checkNumber_ok a5 m3) (fun m4 => ?_)
  refine XB.go 2 (pc' := 21) (ls' := [some (.ref 0), some (.int a1), some (.int a2), some (.int a3), some (.int a4), some (.int a5)]) (st' := [(.int a2), (.ref 0)]) (μ' := m4) rfl ?_
  refine XB.cv rfl rfl rfl rfl rfl (yC_yieldTo_ok a2 m4) (fun m5 => ?_)
  refine XB.go 3 (pc' := 27) (ls' := [some (.ref 0), some (.int a1), some (.int a2), some (.int a3), some (.int a4), some (.int a5)]) (st' := [(.int a2), (.int a1), (.ref 0)]) (μ' := m5) rfl ?_
  refine XB.cp rfl rfl rfl (yC_isOwnPeer_ok a1 a2 m5) ?_
  refine XB.ifz (P := ¬ (yC_isOwnPeer a1 a2 m5) = (0 : Int32)) rfl rfl rfl (fun c30 => ?_) (fun c30 => ?_)
  · refine XB.go 6 (pc' := 45) (ls' := [some (.ref 0), some (.int a1), some (.int a2), some (.int a3), some (.int a4), some (.int a5)]) (st' := [(.int a5), (.int (m5.2.1 0 8)), (.int a1), (.ref 11)]) (μ' := m5) rfl ?_
    refine XB.cv rfl rfl rfl rfl rfl (yLe_hear_ok a1 (m5.2.1 0 8) a5 m5) (fun m6 => ?_)
    refine XB.go 1 (pc' := 49) (ls' := [some (.ref 0), some (.int a1), some (.int a2), some (.int a3), some (.int a4), some (.int a5)]) (st' := [(.int a3)]) (μ' := m6) rfl ?_
    refine XB.ifz (P := a3 = (0 : Int32)) rfl rfl rfl (fun c49 => ?_) (fun c49 => ?_)
    · refine XB.go 7 (pc' := 89) (ls' := [some (.ref 0), some (.int a1), some (.int a2), some (.int a3), some (.int a4), some (.int a5)]) (st' := [(.int (m6.2.1 28 9)), (.int a4), (.int a1), (.ref 11)]) (μ' := m6) rfl ?_
      refine XB.cv rfl rfl rfl rfl rfl (yLe_refuse_ok a1 a4 (m6.2.1 28 9) m6) (fun m7 => ?_)
      refine XB.go 2 (pc' := 94) (ls' := [some (.ref 0), some (.int a1), some (.int a2), some (.int a3), some (.int a4), some (.int a5)]) (st' := [(.int a1), (.ref 0)]) (μ' := m7) rfl ?_
      refine XB.cv rfl rfl rfl rfl rfl (yC_goOnWith_ok a1 m7) (fun m8 => ?_)
      exact XB.fin rfl
    · refine XB.go 7 (pc' := 66) (ls' := [some (.ref 0), some (.int a1), some (.int a2), some (.int a3), some (.int a4), some (.int a5)]) (st' := [(.int (m6.2.1 28 9)), (.int a4), (.int a1), (.ref 11)]) (μ' := m6) rfl ?_
      refine XB.nat (rst := [(.int (if (m6.2.1 28 9) < a4 then (m6.2.1 28 9) else a4)), (.int a1), (.ref 11)]) (μ' := m6) rfl rfl rfl rfl ?_
      refine XB.cv rfl rfl rfl rfl rfl (yLe_accept_ok a1 (if (m6.2.1 28 9) < a4 then (m6.2.1 28 9) else a4) m6) (fun m9 => ?_)
      refine XB.go 3 (pc' := 94) (ls' := [some (.ref 0), some (.int a1), some (.int a2), some (.int a3), some (.int a4), some (.int a5)]) (st' := [(.int a1), (.ref 0)]) (μ' := m9) rfl ?_
      refine XB.cv rfl rfl rfl rfl rfl (yC_goOnWith_ok a1 m9) (fun m10 => ?_)
      exact XB.fin rfl
  · exact XB.fin rfl
/-- LogServer$Told.describeSnapshot(IIII)V -/
def yTo_describeSnapshot (a1 : Int32) (a2 : Int32) (a3 : Int32) (a4 : Int32) (μ : XMu) : XRes := some (.inl none, (μ.1, (xuI (xuI (xuI (xuI (xuI μ.2.1 7 4 (1 : Int32)) 7 5 a1) 7 6 a2) 7 7 a3) 7 8 a4), μ.2.2))
theorem yTo_describeSnapshot_ok {L : Nat} {xs : Nat → Int32} (a1 : Int32) (a2 : Int32) (a3 : Int32) (a4 : Int32) (μ : XMu) : XB L xs 120 0 [some (.ref 7), some (.int a1), some (.int a2), some (.int a3), some (.int a4)] [] μ (yTo_describeSnapshot a1 a2 a3 a4 μ) := by
  unfold yTo_describeSnapshot
  refine XB.go 15 (pc' := 26) (ls' := [some (.ref 7), some (.int a1), some (.int a2), some (.int a3), some (.int a4)]) (st' := []) (μ' := (μ.1, (xuI (xuI (xuI (xuI (xuI μ.2.1 7 4 (1 : Int32)) 7 5 a1) 7 6 a2) 7 7 a3) 7 8 a4), μ.2.2)) rfl ?_
  exact XB.fin rfl
/-- LogServer.describe(IIII)V -/
def yC_describe (a1 : Int32) (a2 : Int32) (a3 : Int32) (a4 : Int32) (μ : XMu) : XRes := xbv (yC_checkNumber a2 μ) (fun m1 => (if (yC_isPositive a1) = (0 : Int32) then xgd (Nat.blt m1.1 1024) (some (.inr 0, (m1.1 + 1, m1.2.1, m1.2.2))) else (if (yC_isPositive a4) = (0 : Int32) then xgd (Nat.blt m1.1 1024) (some (.inr 0, (m1.1 + 1, m1.2.1, m1.2.2))) else (if ¬ (yC_isCode a3) = (0 : Int32) then xbv (yTo_describeSnapshot a1 a2 a3 a4 m1) (fun m2 => some (.inl none, m2)) else xgd (Nat.blt m1.1 1024) (some (.inr 0, (m1.1 + 1, m1.2.1, m1.2.2)))))))
theorem yC_describe_ok {L : Nat} {xs : Nat → Int32} (a1 : Int32) (a2 : Int32) (a3 : Int32) (a4 : Int32) (μ : XMu) : XB L xs 121 0 [some (.ref 0), some (.int a1), some (.int a2), some (.int a3), some (.int a4)] [] μ (yC_describe a1 a2 a3 a4 μ) := by
  unfold yC_describe
  refine XB.go 1 (pc' := 1) (ls' := [some (.ref 0), some (.int a1), some (.int a2), some (.int a3), some (.int a4)]) (st' := [(.int a2)]) (μ' := μ) rfl ?_
  refine XB.cv rfl rfl rfl rfl rfl (yC_checkNumber_ok a2 μ) (fun m1 => ?_)
  refine XB.go 1 (pc' := 5) (ls' := [some (.ref 0), some (.int a1), some (.int a2), some (.int a3), some (.int a4)]) (st' := [(.int a1)]) (μ' := m1) rfl ?_
  refine XB.cp rfl rfl rfl (yC_isPositive_ok a1 m1) ?_
  refine XB.ifz (P := (yC_isPositive a1) = (0 : Int32)) rfl rfl rfl (fun c8 => ?_) (fun c8 => ?_)
  · exact XB.thw rfl (fun f => rfl)
  · refine XB.go 1 (pc' := 13) (ls' := [some (.ref 0), some (.int a1), some (.int a2), some (.int a3), some (.int a4)]) (st' := [(.int a4)]) (μ' := m1) rfl ?_
    refine XB.cp rfl rfl rfl (yC_isPositive_ok a4 m1) ?_
    refine XB.ifz (P := (yC_isPositive a4) = (0 : Int32)) rfl rfl rfl (fun c16 => ?_) (fun c16 => ?_)
    · exact XB.thw rfl (fun f => rfl)
    · refine XB.go 1 (pc' := 20) (ls' := [some (.ref 0), some (.int a1), some (.int a2), some (.int a3), some (.int a4)]) (st' := [(.int a3)]) (μ' := m1) rfl ?_
      refine XB.cp rfl rfl rfl (yC_isCode_ok a3 m1) ?_
      refine XB.ifz (P := ¬ (yC_isCode a3) = (0 : Int32)) rfl rfl rfl (fun c23 => ?_) (fun c23 => ?_)
      · refine XB.go 6 (pc' := 46) (ls' := [some (.ref 0), some (.int a1), some (.int a2), some (.int a3), some (.int a4)]) (st' := [(.int a4), (.int a3), (.int a2), (.int a1), (.ref 7)]) (μ' := m1) rfl ?_
        refine XB.cv rfl rfl rfl rfl rfl (yTo_describeSnapshot_ok a1 a2 a3 a4 m1) (fun m2 => ?_)
        exact XB.fin rfl
      · exact XB.thw rfl (fun f => rfl)
/-- LogServer$Told.takeDescribed()Z -/
def yTo_takeDescribed  (μ : XMu) : XRes := xgd (x01 (μ.2.1 7 4)) (some (.inl (some (.int (μ.2.1 7 4))), (μ.1, (xuI μ.2.1 7 4 (0 : Int32)), μ.2.2)))
theorem yTo_takeDescribed_ok {L : Nat} {xs : Nat → Int32}  (μ : XMu) : XB L xs 123 0 [some (.ref 7), none] [] μ (yTo_takeDescribed  μ) := by
  unfold yTo_takeDescribed
  refine XB.go 7 (pc' := 11) (ls' := [some (.ref 7), some (.int (μ.2.1 7 4))]) (st' := [(.int (μ.2.1 7 4))]) (μ' := (μ.1, (xuI μ.2.1 7 4 (0 : Int32)), μ.2.2)) rfl ?_
  exact XB.retz rfl rfl rfl
/-- LogServer.replyStored(IIII)V -/
def yC_replyStored (a1 : Int32) (a2 : Int32) (a3 : Int32) (a4 : Int32) (μ : XMu) : XRes := xbv (yMa_begin a1 (8 : Int32) (μ.2.1 28 3) μ) (fun m1 => xbv (yMa_add a2 m1) (fun m2 => xbv (yMa_add a3 m2) (fun m3 => xbv (yMa_add a4 m3) (fun m4 => xbv (yMa_post (m4.2.1 28 11) m4) (fun m5 => some (.inl none, m5))))))
theorem yC_replyStored_ok {L : Nat} {xs : Nat → Int32} (a1 : Int32) (a2 : Int32) (a3 : Int32) (a4 : Int32) (μ : XMu) : XB L xs 124 0 [some (.ref 0), some (.int a1), some (.int a2), some (.int a3), some (.int a4)] [] μ (yC_replyStored a1 a2 a3 a4 μ) := by
  unfold yC_replyStored
  refine XB.go 7 (pc' := 14) (ls' := [some (.ref 0), some (.int a1), some (.int a2), some (.int a3), some (.int a4)]) (st' := [(.int (μ.2.1 28 3)), (.int (8 : Int32)), (.int a1), (.ref 1)]) (μ' := μ) rfl ?_
  refine XB.cv rfl rfl rfl rfl rfl (yMa_begin_ok a1 (8 : Int32) (μ.2.1 28 3) μ) (fun m1 => ?_)
  refine XB.go 3 (pc' := 22) (ls' := [some (.ref 0), some (.int a1), some (.int a2), some (.int a3), some (.int a4)]) (st' := [(.int a2), (.ref 1)]) (μ' := m1) rfl ?_
  refine XB.cv rfl rfl rfl rfl rfl (yMa_add_ok a2 m1) (fun m2 => ?_)
  refine XB.go 3 (pc' := 30) (ls' := [some (.ref 0), some (.int a1), some (.int a2), some (.int a3), some (.int a4)]) (st' := [(.int a3), (.ref 1)]) (μ' := m2) rfl ?_
  refine XB.cv rfl rfl rfl rfl rfl (yMa_add_ok a3 m2) (fun m3 => ?_)
  refine XB.go 3 (pc' := 39) (ls' := [some (.ref 0), some (.int a1), some (.int a2), some (.int a3), some (.int a4)]) (st' := [(.int a4), (.ref 1)]) (μ' := m3) rfl ?_
  refine XB.cv rfl rfl rfl rfl rfl (yMa_add_ok a4 m3) (fun m4 => ?_)
  refine XB.go 5 (pc' := 53) (ls' := [some (.ref 0), some (.int a1), some (.int a2), some (.int a3), some (.int a4)]) (st' := [(.int (m4.2.1 28 11)), (.ref 1)]) (μ' := m4) rfl ?_
  refine XB.cv rfl rfl rfl rfl rfl (yMa_post_ok (m4.2.1 28 11) m4) (fun m5 => ?_)
  exact XB.fin rfl
/-- LogServer.takePiece(II)I -/
def yC_takePiece_b42  (x1 : Int32) (x2 : Int32) (μ : XMu) : XRes := (if (μ.2.1 0 18) = (μ.2.1 7 5) then (if x1 = (μ.2.1 0 19) then (if ((μ.2.1 0 19) + x2) < (μ.2.1 7 8) then some (.inl (some (.int ((μ.2.1 0 19) + x2))), (μ.1, (xuI μ.2.1 0 19 ((μ.2.1 0 19) + x2)), μ.2.2)) else xbv (yDi_install (μ.2.1 7 5) (μ.2.1 7 6) (μ.2.1 7 7) (μ.2.1 7 8) (μ.1, (xuI μ.2.1 0 19 ((μ.2.1 0 19) + x2)), μ.2.2)) (fun m1 => some (.inl (some (.int (m1.2.1 0 19))), (m1.1, (xuI (xuI (xuI m1.2.1 0 11 (m1.2.1 7 5)) 0 12 (m1.2.1 7 5)) 0 18 (-1 : Int32)), m1.2.2)))) else some (.inl (some (.int (μ.2.1 0 19))), μ)) else some (.inl (some (.int (0 : Int32))), μ))
theorem yC_takePiece_b42_ok {L : Nat} {xs : Nat → Int32}   (x1 : Int32) (x2 : Int32) (μ : XMu) : XB L xs 125 42 [some (.ref 0), some (.int x1), some (.int x2)] [] μ (yC_takePiece_b42  x1 x2 μ) := by
  unfold yC_takePiece_b42
  refine XB.go 5 (pc' := 53) (ls' := [some (.ref 0), some (.int x1), some (.int x2)]) (st' := [(.int (μ.2.1 7 5)), (.int (μ.2.1 0 18))]) (μ' := μ) rfl ?_
  refine XB.icmp (P := (μ.2.1 0 18) = (μ.2.1 7 5)) rfl rfl rfl (fun c53 => ?_) (fun c53 => ?_)
  · refine XB.go 3 (pc' := 63) (ls' := [some (.ref 0), some (.int x1), some (.int x2)]) (st' := [(.int (μ.2.1 0 19)), (.int x1)]) (μ' := μ) rfl ?_
    refine XB.icmp (P := x1 = (μ.2.1 0 19)) rfl rfl rfl (fun c63 => ?_) (fun c63 => ?_)
    · refine XB.go 11 (pc' := 92) (ls' := [some (.ref 0), some (.int x1), some (.int x2)]) (st' := [(.int (μ.2.1 7 8)), (.int ((μ.2.1 0 19) + x2))]) (μ' := (μ.1, (xuI μ.2.1 0 19 ((μ.2.1 0 19) + x2)), μ.2.2)) rfl ?_
      refine XB.icmp (P := ((μ.2.1 0 19) + x2) < (μ.2.1 7 8)) rfl rfl rfl (fun c92 => ?_) (fun c92 => ?_)
      · refine XB.go 2 (pc' := 161) (ls' := [some (.ref 0), some (.int x1), some (.int x2)]) (st' := [(.int ((μ.2.1 0 19) + x2))]) (μ' := (μ.1, (xuI μ.2.1 0 19 ((μ.2.1 0 19) + x2)), μ.2.2)) rfl ?_
        exact XB.fin rfl
      · refine XB.go 14 (pc' := 127) (ls' := [some (.ref 0), some (.int x1), some (.int x2)]) (st' := [(.int (μ.2.1 7 8)), (.int (μ.2.1 7 7)), (.int (μ.2.1 7 6)), (.int (μ.2.1 7 5)), (.ref 28)]) (μ' := (μ.1, (xuI μ.2.1 0 19 ((μ.2.1 0 19) + x2)), μ.2.2)) rfl ?_
        refine XB.cv rfl rfl rfl rfl rfl (yDi_install_ok (μ.2.1 7 5) (μ.2.1 7 6) (μ.2.1 7 7) (μ.2.1 7 8) (μ.1, (xuI μ.2.1 0 19 ((μ.2.1 0 19) + x2)), μ.2.2)) (fun m1 => ?_)
        refine XB.go 15 (pc' := 161) (ls' := [some (.ref 0), some (.int x1), some (.int x2)]) (st' := [(.int (m1.2.1 0 19))]) (μ' := (m1.1, (xuI (xuI (xuI m1.2.1 0 11 (m1.2.1 7 5)) 0 12 (m1.2.1 7 5)) 0 18 (-1 : Int32)), m1.2.2)) rfl ?_
        exact XB.fin rfl
    · refine XB.go 2 (pc' := 70) (ls' := [some (.ref 0), some (.int x1), some (.int x2)]) (st' := [(.int (μ.2.1 0 19))]) (μ' := μ) rfl ?_
      exact XB.fin rfl
  · refine XB.go 1 (pc' := 57) (ls' := [some (.ref 0), some (.int x1), some (.int x2)]) (st' := [(.int (0 : Int32))]) (μ' := μ) rfl ?_
    exact XB.fin rfl
def yC_takePiece (a1 : Int32) (a2 : Int32) (μ : XMu) : XRes := (if (μ.2.1 0 11) < (μ.2.1 7 5) then (if ¬ a1 = (0 : Int32) then yC_takePiece_b42  a1 a2 μ else yC_takePiece_b42  a1 a2 (μ.1, (xuI (xuI μ.2.1 0 18 (μ.2.1 7 5)) 0 19 (0 : Int32)), μ.2.2)) else some (.inl (some (.int (μ.2.1 7 8))), μ))
theorem yC_takePiece_ok {L : Nat} {xs : Nat → Int32} (a1 : Int32) (a2 : Int32) (μ : XMu) : XB L xs 125 0 [some (.ref 0), some (.int a1), some (.int a2)] [] μ (yC_takePiece a1 a2 μ) := by
  unfold yC_takePiece
  refine XB.go 5 (pc' := 11) (ls' := [some (.ref 0), some (.int a1), some (.int a2)]) (st' := [(.int (μ.2.1 0 11)), (.int (μ.2.1 7 5))]) (μ' := μ) rfl ?_
  refine XB.icmp (P := (μ.2.1 0 11) < (μ.2.1 7 5)) rfl rfl rfl (fun c11 => ?_) (fun c11 => ?_)
  · refine XB.go 1 (pc' := 23) (ls' := [some (.ref 0), some (.int a1), some (.int a2)]) (st' := [(.int a1)]) (μ' := μ) rfl ?_
    refine XB.ifz (P := ¬ a1 = (0 : Int32)) rfl rfl rfl (fun c23 => ?_) (fun c23 => ?_)
    · exact yC_takePiece_b42_ok   a1 a2 μ
    · refine XB.go 8 (pc' := 42) (ls' := [some (.ref 0), some (.int a1), some (.int a2)]) (st' := []) (μ' := (μ.1, (xuI (xuI μ.2.1 0 18 (μ.2.1 7 5)) 0 19 (0 : Int32)), μ.2.2)) rfl ?_
      exact yC_takePiece_b42_ok   a1 a2 (μ.1, (xuI (xuI μ.2.1 0 18 (μ.2.1 7 5)) 0 19 (0 : Int32)), μ.2.2)
  · refine XB.go 3 (pc' := 21) (ls' := [some (.ref 0), some (.int a1), some (.int a2)]) (st' := [(.int (μ.2.1 7 8))]) (μ' := μ) rfl ?_
    exact XB.fin rfl
/-- LogServer.piece(IIIII)V -/
def yC_piece (a1 : Int32) (a2 : Int32) (a3 : Int32) (a4 : Int32) (a5 : Int32) (μ : XMu) : XRes := xbi (yTo_takeDescribed μ) (fun r2 m1 => xbv (yC_checkSender a1 m1) (fun m3 => xbv (yC_checkNumber a2 m3) (fun m4 => xbv (yC_checkNumber a3 m4) (fun m5 => xbv (yC_checkNumber a5 m5) (fun m6 => (if r2 = (0 : Int32) then xgd (Nat.blt m6.1 1024) (some (.inr 0, (m6.1 + 1, m6.2.1, m6.2.2))) else (if (m6.2.1 7 6) ≤ a2 then (if a4 < (0 : Int32) then xgd (Nat.blt m6.1 1024) (some (.inr 0, (m6.1 + 1, m6.2.1, m6.2.2))) else (if (200 : Int32) < a4 then xgd (Nat.blt m6.1 1024) (some (.inr 0, (m6.1 + 1, m6.2.1, m6.2.2))) else (if (a3 + a4) ≤ (m6.2.1 7 8) then xbv (yC_yieldTo a2 m6) (fun m7 => (if (m7.2.1 28 3) ≤ a2 then (if (m7.2.1 0 9) = (3 : Int32) then some (.inl none, m7) else xbv (yC_follow a1 m7) (fun m8 => xbi (yC_takePiece a3 a4 m8) (fun r10 m9 => xbv (yC_replyStored a1 (m8.2.1 7 5) r10 a5 m9) (fun m11 => some (.inl none, m11))))) else xbv (yC_replyStored a1 (m7.2.1 7 5) (0 : Int32) a5 m7) (fun m12 => some (.inl none, m12)))) else xgd (Nat.blt m6.1 1024) (some (.inr 0, (m6.1 + 1, m6.2.1, m6.2.2)))))) else xgd (Nat.blt m6.1 1024) (some (.inr 0, (m6.1 + 1, m6.2.1, m6.2.2))))))))))
theorem yC_piece_ok {L : Nat} {xs : Nat → Int32} (a1 : Int32) (a2 : Int32) (a3 : Int32) (a4 : Int32) (a5 : Int32) (μ : XMu) : XB L xs 126 0 [some (.ref 0), some (.int a1), some (.int a2), some (.int a3), some (.int a4), some (.int a5), none] [] μ (yC_piece a1 a2 a3 a4 a5 μ) := by
  unfold yC_piece
  refine XB.go 2 (pc' := 4) (ls' := [some (.ref 0), some (.int a1), some (.int a2), some (.int a3), some (.int a4), some (.int a5), none]) (st' := [(.ref 7)]) (μ' := μ) rfl ?_
  refine XB.ci rfl rfl rfl rfl rfl (yTo_takeDescribed_ok μ) (fun r2 m1 => ?_)
  refine XB.go 3 (pc' := 11) (ls' := [some (.ref 0), some (.int a1), some (.int a2), some (.int a3), some (.int a4), some (.int a5), some (.int r2)]) (st' := [(.int a1), (.ref 0)]) (μ' := m1) rfl ?_
  refine XB.cv rfl rfl rfl rfl rfl (yC_checkSender_ok a1 m1) (fun m3 => ?_)
  refine XB.go 1 (pc' := 15) (ls' := [some (.ref 0), some (.int a1), some (.int a2), some (.int a3), some (.int a4), some (.int a5), some (.int r2)]) (st' := [(.int a2)]) (μ' := m3) rfl ?_
  refine XB.cv rfl rfl rfl rfl rfl (yC_checkNumber_ok a2 m3) (fun m4 => ?_)
  refine XB.go 1 (pc' := 19) (ls' := [some (.ref 0), some (.int a1), some (.int a2), some (.int a3), some (.int a4), some (.int a5), some (.int r2)]) (st' := [(.int a3)]) (μ' := m4) rfl ?_
  refine XB.cv rfl rfl rfl rfl rfl (yC_checkNumber_ok a3 m4) (fun m5 => ?_)
  refine XB.go 1 (pc' := 24) (ls' := [some (.ref 0), some (.int a1), some (.int a2), some (.int a3), some (.int a4), some (.int a5), some (.int r2)]) (st' := [(.int a5)]) (μ' := m5) rfl ?_
  refine XB.cv rfl rfl rfl rfl rfl (yC_checkNumber_ok a5 m5) (fun m6 => ?_)
  refine XB.go 1 (pc' := 29) (ls' := [some (.ref 0), some (.int a1), some (.int a2), some (.int a3), some (.int a4), some (.int a5), some (.int r2)]) (st' := [(.int r2)]) (μ' := m6) rfl ?_
  refine XB.ifz (P := r2 = (0 : Int32)) rfl rfl rfl (fun c29 => ?_) (fun c29 => ?_)
  · exact XB.thw rfl (fun f => rfl)
  · refine XB.go 4 (pc' := 40) (ls' := [some (.ref 0), some (.int a1), some (.int a2), some (.int a3), some (.int a4), some (.int a5), some (.int r2)]) (st' := [(.int a2), (.int (m6.2.1 7 6))]) (μ' := m6) rfl ?_
    refine XB.icmp (P := (m6.2.1 7 6) ≤ a2) rfl rfl rfl (fun c40 => ?_) (fun c40 => ?_)
    · refine XB.go 1 (pc' := 56) (ls' := [some (.ref 0), some (.int a1), some (.int a2), some (.int a3), some (.int a4), some (.int a5), some (.int r2)]) (st' := [(.int a4)]) (μ' := m6) rfl ?_
      refine XB.ifz (P := a4 < (0 : Int32)) rfl rfl rfl (fun c56 => ?_) (fun c56 => ?_)
      · exact XB.thw rfl (fun f => rfl)
      · refine XB.go 2 (pc' := 64) (ls' := [some (.ref 0), some (.int a1), some (.int a2), some (.int a3), some (.int a4), some (.int a5), some (.int r2)]) (st' := [(.int (200 : Int32)), (.int a4)]) (μ' := m6) rfl ?_
        refine XB.icmp (P := (200 : Int32) < a4) rfl rfl rfl (fun c64 => ?_) (fun c64 => ?_)
        · exact XB.thw rfl (fun f => rfl)
        · refine XB.go 6 (pc' := 78) (ls' := [some (.ref 0), some (.int a1), some (.int a2), some (.int a3), some (.int a4), some (.int a5), some (.int r2)]) (st' := [(.int (m6.2.1 7 8)), (.int (a3 + a4))]) (μ' := m6) rfl ?_
          refine XB.icmp (P := (a3 + a4) ≤ (m6.2.1 7 8)) rfl rfl rfl (fun c78 => ?_) (fun c78 => ?_)
          · refine XB.go 2 (pc' := 94) (ls' := [some (.ref 0), some (.int a1), some (.int a2), some (.int a3), some (.int a4), some (.int a5), some (.int r2)]) (st' := [(.int a2), (.ref 0)]) (μ' := m6) rfl ?_
            refine XB.cv rfl rfl rfl rfl rfl (yC_yieldTo_ok a2 m6) (fun m7 => ?_)
            refine XB.go 4 (pc' := 105) (ls' := [some (.ref 0), some (.int a1), some (.int a2), some (.int a3), some (.int a4), some (.int a5), some (.int r2)]) (st' := [(.int (m7.2.1 28 3)), (.int a2)]) (μ' := m7) rfl ?_
            refine XB.icmp (P := (m7.2.1 28 3) ≤ a2) rfl rfl rfl (fun c105 => ?_) (fun c105 => ?_)
            · refine XB.go 3 (pc' := 131) (ls' := [some (.ref 0), some (.int a1), some (.int a2), some (.int a3), some (.int a4), some (.int a5), some (.int r2)]) (st' := [(.int (3 : Int32)), (.int (m7.2.1 0 9))]) (μ' := m7) rfl ?_
              refine XB.icmp (P := (m7.2.1 0 9) = (3 : Int32)) rfl rfl rfl (fun c131 => ?_) (fun c131 => ?_)
              · exact XB.fin rfl
              · refine XB.go 2 (pc' := 136) (ls' := [some (.ref 0), some (.int a1), some (.int a2), some (.int a3), some (.int a4), some (.int a5), some (.int r2)]) (st' := [(.int a1), (.ref 0)]) (μ' := m7) rfl ?_
                refine XB.cv rfl rfl rfl rfl rfl (yC_follow_ok a1 m7) (fun m8 => ?_)
                refine XB.go 8 (pc' := 152) (ls' := [some (.ref 0), some (.int a1), some (.int a2), some (.int a3), some (.int a4), some (.int a5), some (.int r2)]) (st' := [(.int a4), (.int a3), (.ref 0), (.int (m8.2.1 7 5)), (.int a1), (.ref 0)]) (μ' := m8) rfl ?_
                refine XB.ci rfl rfl rfl rfl rfl (yC_takePiece_ok a3 a4 m8) (fun r10 m9 => ?_)
                refine XB.go 1 (pc' := 157) (ls' := [some (.ref 0), some (.int a1), some (.int a2), some (.int a3), some (.int a4), some (.int a5), some (.int r2)]) (st' := [(.int a5), (.int r10), (.int (m8.2.1 7 5)), (.int a1), (.ref 0)]) (μ' := m9) rfl ?_
                refine XB.cv rfl rfl rfl rfl rfl (yC_replyStored_ok a1 (m8.2.1 7 5) r10 a5 m9) (fun m11 => ?_)
                exact XB.fin rfl
            · refine XB.go 7 (pc' := 120) (ls' := [some (.ref 0), some (.int a1), some (.int a2), some (.int a3), some (.int a4), some (.int a5), some (.int r2)]) (st' := [(.int a5), (.int (0 : Int32)), (.int (m7.2.1 7 5)), (.int a1), (.ref 0)]) (μ' := m7) rfl ?_
              refine XB.cv rfl rfl rfl rfl rfl (yC_replyStored_ok a1 (m7.2.1 7 5) (0 : Int32) a5 m7) (fun m12 => ?_)
              refine XB.go 1 (pc' := 160) (ls' := [some (.ref 0), some (.int a1), some (.int a2), some (.int a3), some (.int a4), some (.int a5), some (.int r2)]) (st' := []) (μ' := m12) rfl ?_
              exact XB.fin rfl
          · exact XB.thw rfl (fun f => rfl)
    · exact XB.thw rfl (fun f => rfl)
/-- LogServer$Lead.holdSnapshot(II)V -/
def yLe_holdSnapshot (a1 : Int32) (a2 : Int32) (μ : XMu) : XRes := xgd (xin a1 7) (xgd (xin a1 7) (xgd (xin a1 7) (xgd (xin a1 7) (xgd (xin a1 7) (some (.inl none, (μ.1, (xuI (xuI (xuI (xuI μ.2.1 13 (a1).toNatClampNeg (if (μ.2.1 13 (a1).toNatClampNeg) < a2 then a2 else (μ.2.1 13 (a1).toNatClampNeg))) 12 (a1).toNatClampNeg (a2 + (1 : Int32))) 15 (a1).toNatClampNeg (1 : Int32)) 16 (a1).toNatClampNeg (0 : Int32)), μ.2.2)))))))
theorem yLe_holdSnapshot_ok {L : Nat} {xs : Nat → Int32} (a1 : Int32) (a2 : Int32) (μ : XMu) : XB L xs 128 0 [some (.ref 11), some (.int a1), some (.int a2)] [] μ (yLe_holdSnapshot a1 a2 μ) := by
  unfold yLe_holdSnapshot
  refine XB.go 6 (pc' := 10) (ls' := [some (.ref 11), some (.int a1), some (.int a2)]) (st' := [(.int a1), (.ref 13), (.int a1), (.ref 13)]) (μ' := μ) rfl ?_
  refine XB.gd (pc' := 11) (ls' := [some (.ref 11), some (.int a1), some (.int a2)]) (st' := [(.int (μ.2.1 13 (a1).toNatClampNeg)), (.int a1), (.ref 13)]) (μ' := μ) rfl rfl rfl (fun hb => xbT hb) ?_
  refine XB.go 1 (pc' := 12) (ls' := [some (.ref 11), some (.int a1), some (.int a2)]) (st' := [(.int a2), (.int (μ.2.1 13 (a1).toNatClampNeg)), (.int a1), (.ref 13)]) (μ' := μ) rfl ?_
  refine XB.nat (rst := [(.int (if (μ.2.1 13 (a1).toNatClampNeg) < a2 then a2 else (μ.2.1 13 (a1).toNatClampNeg))), (.int a1), (.ref 13)]) (μ' := μ) rfl rfl rfl rfl ?_
  refine XB.gd (pc' := 16) (ls' := [some (.ref 11), some (.int a1), some (.int a2)]) (st' := []) (μ' := (μ.1, (xuI μ.2.1 13 (a1).toNatClampNeg (if (μ.2.1 13 (a1).toNatClampNeg) < a2 then a2 else (μ.2.1 13 (a1).toNatClampNeg))), μ.2.2)) rfl rfl rfl (fun hb => xbT hb) ?_
  refine XB.go 6 (pc' := 24) (ls' := [some (.ref 11), some (.int a1), some (.int a2)]) (st' := [(.int (a2 + (1 : Int32))), (.int a1), (.ref 12)]) (μ' := (μ.1, (xuI μ.2.1 13 (a1).toNatClampNeg (if (μ.2.1 13 (a1).toNatClampNeg) < a2 then a2 else (μ.2.1 13 (a1).toNatClampNeg))), μ.2.2)) rfl ?_
  refine XB.gd (pc' := 25) (ls' := [some (.ref 11), some (.int a1), some (.int a2)]) (st' := []) (μ' := (μ.1, (xuI (xuI μ.2.1 13 (a1).toNatClampNeg (if (μ.2.1 13 (a1).toNatClampNeg) < a2 then a2 else (μ.2.1 13 (a1).toNatClampNeg))) 12 (a1).toNatClampNeg (a2 + (1 : Int32))), μ.2.2)) rfl rfl rfl (fun hb => xbT hb) ?_
  refine XB.go 4 (pc' := 31) (ls' := [some (.ref 11), some (.int a1), some (.int a2)]) (st' := [(.int (1 : Int32)), (.int a1), (.ref 15)]) (μ' := (μ.1, (xuI (xuI μ.2.1 13 (a1).toNatClampNeg (if (μ.2.1 13 (a1).toNatClampNeg) < a2 then a2 else (μ.2.1 13 (a1).toNatClampNeg))) 12 (a1).toNatClampNeg (a2 + (1 : Int32))), μ.2.2)) rfl ?_
  refine XB.gd (pc' := 32) (ls' := [some (.ref 11), some (.int a1), some (.int a2)]) (st' := []) (μ' := (μ.1, (xuI (xuI (xuI μ.2.1 13 (a1).toNatClampNeg (if (μ.2.1 13 (a1).toNatClampNeg) < a2 then a2 else (μ.2.1 13 (a1).toNatClampNeg))) 12 (a1).toNatClampNeg (a2 + (1 : Int32))) 15 (a1).toNatClampNeg (1 : Int32)), μ.2.2)) rfl rfl rfl (fun hb => xbT (xbL hb)) ?_
  refine XB.go 4 (pc' := 38) (ls' := [some (.ref 11), some (.int a1), some (.int a2)]) (st' := [(.int (0 : Int32)), (.int a1), (.ref 16)]) (μ' := (μ.1, (xuI (xuI (xuI μ.2.1 13 (a1).toNatClampNeg (if (μ.2.1 13 (a1).toNatClampNeg) < a2 then a2 else (μ.2.1 13 (a1).toNatClampNeg))) 12 (a1).toNatClampNeg (a2 + (1 : Int32))) 15 (a1).toNatClampNeg (1 : Int32)), μ.2.2)) rfl ?_
  refine XB.gd (pc' := 39) (ls' := [some (.ref 11), some (.int a1), some (.int a2)]) (st' := []) (μ' := (μ.1, (xuI (xuI (xuI (xuI μ.2.1 13 (a1).toNatClampNeg (if (μ.2.1 13 (a1).toNatClampNeg) < a2 then a2 else (μ.2.1 13 (a1).toNatClampNeg))) 12 (a1).toNatClampNeg (a2 + (1 : Int32))) 15 (a1).toNatClampNeg (1 : Int32)) 16 (a1).toNatClampNeg (0 : Int32)), μ.2.2)) rfl rfl rfl (fun hb => xbT hb) ?_
  exact XB.fin rfl
/-- LogServer.stored(IIIII)V -/
def yC_stored (a1 : Int32) (a2 : Int32) (a3 : Int32) (a4 : Int32) (a5 : Int32) (μ : XMu) : XRes := xbv (yC_checkSender a1 μ) (fun m1 => xbv (yC_checkNumber a2 m1) (fun m2 => xbv (yC_checkNumber a3 m2) (fun m3 => xbv (yC_checkNumber a4 m3) (fun m4 => xbv (yC_checkNumber a5 m4) (fun m5 => xbv (yC_yieldTo a2 m5) (fun m6 => (if ¬ (yC_isOwnPeer a1 a2 m6) = (0 : Int32) then xbv (yLe_hear a1 (m6.2.1 0 8) a5 m6) (fun m7 => xgd (xin a1 7) ((if a3 = (m7.2.1 28 5) then (if (m7.2.1 28 8) ≤ a4 then xbv (yLe_holdSnapshot a1 (m7.2.1 28 5) (m7.1, (xuI m7.2.1 14 (a1).toNatClampNeg (0 : Int32)), m7.2.2)) (fun m8 => xbv (yC_goOnWith a1 m8) (fun m9 => some (.inl none, m9))) else xgd (xin a1 7) (xbv (yC_goOnWith a1 (m7.1, (xuI (xuI m7.2.1 14 (a1).toNatClampNeg (0 : Int32)) 16 (a1).toNatClampNeg a4), m7.2.2)) (fun m10 => some (.inl none, m10)))) else xgd (xin a1 7) (xbv (yC_goOnWith a1 (m7.1, (xuI (xuI m7.2.1 14 (a1).toNatClampNeg (0 : Int32)) 16 (a1).toNatClampNeg (0 : Int32)), m7.2.2)) (fun m11 => some (.inl none, m11)))))) else some (.inl none, m6))))))))
theorem yC_stored_ok {L : Nat} {xs : Nat → Int32} (a1 : Int32) (a2 : Int32) (a3 : Int32) (a4 : Int32) (a5 : Int32) (μ : XMu) : XB L xs 129 0 [some (.ref 0), some (.int a1), some (.int a2), some (.int a3), some (.int a4), some (.int a5)] [] μ (yC_stored a1 a2 a3 a4 a5 μ) := by
  unfold yC_stored
  refine XB.go 2 (pc' := 2) (ls' := [some (.ref 0), some (.int a1), some (.int a2), some (.int a3), some (.int a4), some (.int a5)]) (st' := [(.int a1), (.ref 0)]) (μ' := μ) rfl ?_
  refine XB.cv rfl rfl rfl rfl rfl (yC_checkSender_ok a1 μ) (fun m1 => ?_)
  refine XB.go 1 (pc' := 6) (ls' := [some (.ref 0), some (.int a1), some (.int a2), some (.int a3), some (.int a4), some (.int a5)]) (st' := [(.int a2)]) (μ' := m1) rfl ?_
  refine XB.cv rfl rfl rfl rfl rfl (yC_checkNumber_ok a2 m1) (fun m2 => ?_)
  refine XB.go 1 (pc' := 10) (ls' := [some (.ref 0), some (.int a1), some (.int a2), some (.int a3), some (.int a4), some (.int a5)]) (st' := [(.int a3)]) (μ' := m2) rfl ?_
  refine XB.cv rfl rfl rfl rfl rfl (yC_checkNumber_ok a3 m2) (fun m3 => ?_)
  refine XB.go 1 (pc' := 15) (ls' := [some (.ref 0), some (.int a1), some (.int a2), some (.int a3), some (.int a4), some (.int a5)]) (st' := [(.int a4)]) (μ' := m3) rfl ?_
  refine XB.cv rfl rfl rfl rfl rfl (yC_checkNumber_ok a4 m3) (fun m4 => ?_)
  refine XB.go 1 (pc' := 20) (ls' := [some (.ref 0), some (.int a1), some (.int a2), some (.int a3), some (.int a4), some (.int a5)]) (st' := [(.int a5)]) (μ' := m4) rfl ?_
  refine XB.cv rfl rfl rfl rfl rfl (yC_checkNumber_ok a5 m4) (fun m5 => ?_)
  refine XB.go 2 (pc' := 25) (ls' := [some (.ref 0), some (.int a1), some (.int a2), some (.int a3), some (.int a4), some (.int a5)]) (st' := [(.int a2), (.ref 0)]) (μ' := m5) rfl ?_
  refine XB.cv rfl rfl rfl rfl rfl (yC_yieldTo_ok a2 m5) (fun m6 => ?_)
  refine XB.go 3 (pc' := 31) (ls' := [some (.ref 0), some (.int a1), some (.int a2), some (.int a3), some (.int a4), some (.int a5)]) (st' := [(.int a2), (.int a1), (.ref 0)]) (μ' := m6) rfl ?_
  refine XB.cp rfl rfl rfl (yC_isOwnPeer_ok a1 a2 m6) ?_
  refine XB.ifz (P := ¬ (yC_isOwnPeer a1 a2 m6) = (0 : Int32)) rfl rfl rfl (fun c34 => ?_) (fun c34 => ?_)
  · refine XB.go 6 (pc' := 49) (ls' := [some (.ref 0), some (.int a1), some (.int a2), some (.int a3), some (.int a4), some (.int a5)]) (st' := [(.int a5), (.int (m6.2.1 0 8)), (.int a1), (.ref 11)]) (μ' := m6) rfl ?_
    refine XB.cv rfl rfl rfl rfl rfl (yLe_hear_ok a1 (m6.2.1 0 8) a5 m6) (fun m7 => ?_)
    refine XB.go 5 (pc' := 61) (ls' := [some (.ref 0), some (.int a1), some (.int a2), some (.int a3), some (.int a4), some (.int a5)]) (st' := [(.int (0 : Int32)), (.int a1), (.ref 14)]) (μ' := m7) rfl ?_
    refine XB.gd (pc' := 62) (ls' := [some (.ref 0), some (.int a1), some (.int a2), some (.int a3), some (.int a4), some (.int a5)]) (st' := []) (μ' := (m7.1, (xuI m7.2.1 14 (a1).toNatClampNeg (0 : Int32)), m7.2.2)) rfl rfl rfl (fun hb => xbT hb) ?_
    refine XB.go 4 (pc' := 70) (ls' := [some (.ref 0), some (.int a1), some (.int a2), some (.int a3), some (.int a4), some (.int a5)]) (st' := [(.int (m7.2.1 28 5)), (.int a3)]) (μ' := (m7.1, (xuI m7.2.1 14 (a1).toNatClampNeg (0 : Int32)), m7.2.2)) rfl ?_
    refine XB.icmp (P := a3 = (m7.2.1 28 5)) rfl rfl rfl (fun c70 => ?_) (fun c70 => ?_)
    · refine XB.go 4 (pc' := 95) (ls' := [some (.ref 0), some (.int a1), some (.int a2), some (.int a3), some (.int a4), some (.int a5)]) (st' := [(.int (m7.2.1 28 8)), (.int a4)]) (μ' := (m7.1, (xuI m7.2.1 14 (a1).toNatClampNeg (0 : Int32)), m7.2.2)) rfl ?_
      refine XB.icmp (P := (m7.2.1 28 8) ≤ a4) rfl rfl rfl (fun c95 => ?_) (fun c95 => ?_)
      · refine XB.go 6 (pc' := 124) (ls' := [some (.ref 0), some (.int a1), some (.int a2), some (.int a3), some (.int a4), some (.int a5)]) (st' := [(.int (m7.2.1 28 5)), (.int a1), (.ref 11)]) (μ' := (m7.1, (xuI m7.2.1 14 (a1).toNatClampNeg (0 : Int32)), m7.2.2)) rfl ?_
        refine XB.cv rfl rfl rfl rfl rfl (yLe_holdSnapshot_ok a1 (m7.2.1 28 5) (m7.1, (xuI m7.2.1 14 (a1).toNatClampNeg (0 : Int32)), m7.2.2)) (fun m8 => ?_)
        refine XB.go 2 (pc' := 129) (ls' := [some (.ref 0), some (.int a1), some (.int a2), some (.int a3), some (.int a4), some (.int a5)]) (st' := [(.int a1), (.ref 0)]) (μ' := m8) rfl ?_
        refine XB.cv rfl rfl rfl rfl rfl (yC_goOnWith_ok a1 m8) (fun m9 => ?_)
        exact XB.fin rfl
      · refine XB.go 5 (pc' := 108) (ls' := [some (.ref 0), some (.int a1), some (.int a2), some (.int a3), some (.int a4), some (.int a5)]) (st' := [(.int a4), (.int a1), (.ref 16)]) (μ' := (m7.1, (xuI m7.2.1 14 (a1).toNatClampNeg (0 : Int32)), m7.2.2)) rfl ?_
        refine XB.gd (pc' := 109) (ls' := [some (.ref 0), some (.int a1), some (.int a2), some (.int a3), some (.int a4), some (.int a5)]) (st' := []) (μ' := (m7.1, (xuI (xuI m7.2.1 14 (a1).toNatClampNeg (0 : Int32)) 16 (a1).toNatClampNeg a4), m7.2.2)) rfl rfl rfl (fun hb => xbT hb) ?_
        refine XB.go 3 (pc' := 129) (ls' := [some (.ref 0), some (.int a1), some (.int a2), some (.int a3), some (.int a4), some (.int a5)]) (st' := [(.int a1), (.ref 0)]) (μ' := (m7.1, (xuI (xuI m7.2.1 14 (a1).toNatClampNeg (0 : Int32)) 16 (a1).toNatClampNeg a4), m7.2.2)) rfl ?_
        refine XB.cv rfl rfl rfl rfl rfl (yC_goOnWith_ok a1 (m7.1, (xuI (xuI m7.2.1 14 (a1).toNatClampNeg (0 : Int32)) 16 (a1).toNatClampNeg a4), m7.2.2)) (fun m10 => ?_)
        exact XB.fin rfl
    · refine XB.go 5 (pc' := 82) (ls' := [some (.ref 0), some (.int a1), some (.int a2), some (.int a3), some (.int a4), some (.int a5)]) (st' := [(.int (0 : Int32)), (.int a1), (.ref 16)]) (μ' := (m7.1, (xuI m7.2.1 14 (a1).toNatClampNeg (0 : Int32)), m7.2.2)) rfl ?_
      refine XB.gd (pc' := 83) (ls' := [some (.ref 0), some (.int a1), some (.int a2), some (.int a3), some (.int a4), some (.int a5)]) (st' := []) (μ' := (m7.1, (xuI (xuI m7.2.1 14 (a1).toNatClampNeg (0 : Int32)) 16 (a1).toNatClampNeg (0 : Int32)), m7.2.2)) rfl rfl rfl (fun hb => xbT hb) ?_
      refine XB.go 3 (pc' := 129) (ls' := [some (.ref 0), some (.int a1), some (.int a2), some (.int a3), some (.int a4), some (.int a5)]) (st' := [(.int a1), (.ref 0)]) (μ' := (m7.1, (xuI (xuI m7.2.1 14 (a1).toNatClampNeg (0 : Int32)) 16 (a1).toNatClampNeg (0 : Int32)), m7.2.2)) rfl ?_
      refine XB.cv rfl rfl rfl rfl rfl (yC_goOnWith_ok a1 (m7.1, (xuI (xuI m7.2.1 14 (a1).toNatClampNeg (0 : Int32)) 16 (a1).toNatClampNeg (0 : Int32)), m7.2.2)) (fun m11 => ?_)
      exact XB.fin rfl
  · exact XB.fin rfl
/-- LogServer.go(II)V -/
def yC_go_b34  (x2 : Int32) (s0 : Int32) (μ : XMu) : XRes := (if ¬ x2 = (μ.2.1 28 3) then some (.inl none, μ) else (if s0 = (0 : Int32) then some (.inl none, μ) else (if (yC_has (yC_voters μ) (μ.2.1 0 0)) = (0 : Int32) then some (.inl none, μ) else xbv (yC_campaign μ) (fun m4 => some (.inl none, m4)))))
theorem yC_go_b34_ok {L : Nat} {xs : Nat → Int32}  (d1 : Option Int32) (d3 : Option Int32) (x2 : Int32) (s0 : Int32) (μ : XMu) : XB L xs 131 34 [some (.ref 0), (xdl d1), some (.int x2), (xdl d3)] [(.int s0)] μ (yC_go_b34  x2 s0 μ) := by
  unfold yC_go_b34
  refine XB.go 5 (pc' := 43) (ls' := [some (.ref 0), (xdl d1), some (.int x2), some (.int s0)]) (st' := [(.int (μ.2.1 28 3)), (.int x2)]) (μ' := μ) rfl ?_
  refine XB.icmp (P := ¬ x2 = (μ.2.1 28 3)) rfl rfl rfl (fun c43 => ?_) (fun c43 => ?_)
  · exact XB.fin rfl
  · refine XB.go 1 (pc' := 47) (ls' := [some (.ref 0), (xdl d1), some (.int x2), some (.int s0)]) (st' := [(.int s0)]) (μ' := μ) rfl ?_
    refine XB.ifz (P := s0 = (0 : Int32)) rfl rfl rfl (fun c47 => ?_) (fun c47 => ?_)
    · exact XB.fin rfl
    · refine XB.go 1 (pc' := 51) (ls' := [some (.ref 0), (xdl d1), some (.int x2), some (.int s0)]) (st' := [(.ref 0)]) (μ' := μ) rfl ?_
      refine XB.cp rfl rfl rfl (yC_voters_ok μ) ?_
      refine XB.go 2 (pc' := 58) (ls' := [some (.ref 0), (xdl d1), some (.int x2), some (.int s0)]) (st' := [(.int (μ.2.1 0 0)), (.int (yC_voters μ))]) (μ' := μ) rfl ?_
      refine XB.cp rfl rfl rfl (yC_has_ok (yC_voters μ) (μ.2.1 0 0) μ) ?_
      refine XB.ifz (P := (yC_has (yC_voters μ) (μ.2.1 0 0)) = (0 : Int32)) rfl rfl rfl (fun c61 => ?_) (fun c61 => ?_)
      · exact XB.fin rfl
      · refine XB.go 1 (pc' := 65) (ls' := [some (.ref 0), (xdl d1), some (.int x2), some (.int s0)]) (st' := [(.ref 0)]) (μ' := μ) rfl ?_
        refine XB.cv rfl rfl rfl rfl rfl (yC_campaign_ok μ) (fun m4 => ?_)
        exact XB.fin rfl
def yC_go_b29  (x2 : Int32) (μ : XMu) : XRes := yC_go_b34  x2 (1 : Int32) μ
theorem yC_go_b29_ok {L : Nat} {xs : Nat → Int32}  (d1 : Option Int32) (d3 : Option Int32) (x2 : Int32) (μ : XMu) : XB L xs 131 29 [some (.ref 0), (xdl d1), some (.int x2), (xdl d3)] [] μ (yC_go_b29  x2 μ) := by
  unfold yC_go_b29
  refine XB.go 2 (pc' := 34) (ls' := [some (.ref 0), (xdl d1), some (.int x2), (xdl d3)]) (st' := [(.int (1 : Int32))]) (μ' := μ) rfl ?_
  exact yC_go_b34_ok  (d1) (d3) x2 (1 : Int32) μ
def yC_go (a1 : Int32) (a2 : Int32) (μ : XMu) : XRes := xbv (yC_checkSender a1 μ) (fun m1 => xbv (yC_checkNumber a2 m1) (fun m2 => xbv (yC_yieldTo a2 m2) (fun m3 => (if (m3.2.1 0 9) = (0 : Int32) then yC_go_b29  a2 m3 else (if ¬ (m3.2.1 0 9) = (1 : Int32) then yC_go_b34  a2 (0 : Int32) m3 else yC_go_b29  a2 m3)))))
theorem yC_go_ok {L : Nat} {xs : Nat → Int32} (a1 : Int32) (a2 : Int32) (μ : XMu) : XB L xs 131 0 [some (.ref 0), some (.int a1), some (.int a2), none] [] μ (yC_go a1 a2 μ) := by
  unfold yC_go
  refine XB.go 2 (pc' := 2) (ls' := [some (.ref 0), some (.int a1), some (.int a2), none]) (st' := [(.int a1), (.ref 0)]) (μ' := μ) rfl ?_
  refine XB.cv rfl rfl rfl rfl rfl (yC_checkSender_ok a1 μ) (fun m1 => ?_)
  refine XB.go 1 (pc' := 6) (ls' := [some (.ref 0), some (.int a1), some (.int a2), none]) (st' := [(.int a2)]) (μ' := m1) rfl ?_
  refine XB.cv rfl rfl rfl rfl rfl (yC_checkNumber_ok a2 m1) (fun m2 => ?_)
  refine XB.go 2 (pc' := 11) (ls' := [some (.ref 0), some (.int a1), some (.int a2), none]) (st' := [(.int a2), (.ref 0)]) (μ' := m2) rfl ?_
  refine XB.cv rfl rfl rfl rfl rfl (yC_yieldTo_ok a2 m2) (fun m3 => ?_)
  refine XB.go 2 (pc' := 18) (ls' := [some (.ref 0), some (.int a1), some (.int a2), none]) (st' := [(.int (m3.2.1 0 9))]) (μ' := m3) rfl ?_
  refine XB.ifz (P := (m3.2.1 0 9) = (0 : Int32)) rfl rfl rfl (fun c18 => ?_) (fun c18 => ?_)
  · exact yC_go_b29_ok  (some a1) (none) a2 m3
  · refine XB.go 3 (pc' := 26) (ls' := [some (.ref 0), some (.int a1), some (.int a2), none]) (st' := [(.int (1 : Int32)), (.int (m3.2.1 0 9))]) (μ' := m3) rfl ?_
    refine XB.icmp (P := ¬ (m3.2.1 0 9) = (1 : Int32)) rfl rfl rfl (fun c26 => ?_) (fun c26 => ?_)
    · refine XB.go 1 (pc' := 34) (ls' := [some (.ref 0), some (.int a1), some (.int a2), none]) (st' := [(.int (0 : Int32))]) (μ' := m3) rfl ?_
      exact yC_go_b34_ok  (some a1) (none) a2 (0 : Int32) m3
    · exact yC_go_b29_ok  (some a1) (none) a2 m3
/-- LogServer.state(I)I -/
def yC_state (a1 : Int32) (μ : XMu) : XRes := (if a1 = (0 : Int32) then some (.inl (some (.int (μ.2.1 0 9))), μ) else (if a1 = (1 : Int32) then some (.inl (some (.int (μ.2.1 28 3))), μ) else (if a1 = (2 : Int32) then some (.inl (some (.int (μ.2.1 28 4))), μ) else (if a1 = (3 : Int32) then some (.inl (some (.int (μ.2.1 0 10))), μ) else (if a1 = (4 : Int32) then some (.inl (some (.int (μ.2.1 0 11))), μ) else (if a1 = (5 : Int32) then some (.inl (some (.int (μ.2.1 0 12))), μ) else (if a1 = (6 : Int32) then some (.inl (some (.int (μ.2.1 28 10))), μ) else (if a1 = (7 : Int32) then some (.inl (some (.int (μ.2.1 28 5))), μ) else (if a1 = (8 : Int32) then some (.inl (some (.int (μ.2.1 28 9))), μ) else (if a1 = (9 : Int32) then some (.inl (some (.int (μ.2.1 28 13))), μ) else (if a1 = (10 : Int32) then some (.inl (some (.int (μ.2.1 0 15))), μ) else (if a1 = (11 : Int32) then some (.inl (some (.int (μ.2.1 0 16))), μ) else (if a1 = (12 : Int32) then some (.inl (some (.int (μ.2.1 0 14))), μ) else (if a1 = (13 : Int32) then some (.inl (some (.int (μ.2.1 0 8))), μ) else (if a1 = (14 : Int32) then (if (μ.2.1 28 11) = (0 : Int32) then some (.inl (some (.int (0 : Int32))), μ) else some (.inl (some (.int (1 : Int32))), μ)) else (if a1 = (15 : Int32) then (if ¬ (μ.2.1 0 9) = (3 : Int32) then some (.inl (some (.int (0 : Int32))), μ) else some (.inl (some (.int (μ.2.1 11 9))), μ)) else (if a1 = (16 : Int32) then some (.inl (some (.int (μ.2.1 1 7))), μ) else (if a1 = (17 : Int32) then some (.inl (some (.int (μ.2.1 1 4))), μ) else (if a1 = (18 : Int32) then some (.inl (some (.int (μ.2.1 25 2))), μ) else (if a1 = (19 : Int32) then some (.inl (some (.int (μ.2.1 20 4))), μ) else xgd (Nat.blt μ.1 1024) (some (.inr 2, (μ.1 + 1, μ.2.1, μ.2.2)))))))))))))))))))))))
theorem yC_state_ok {L : Nat} {xs : Nat → Int32} (a1 : Int32) (μ : XMu) : XB L xs 133 0 [some (.ref 0), some (.int a1)] [] μ (yC_state a1 μ) := by
  unfold yC_state
  refine XB.go 1 (pc' := 1) (ls' := [some (.ref 0), some (.int a1)]) (st' := [(.int a1)]) (μ' := μ) rfl ?_
  refine XB.byv (v := (0 : Int32)) ?_ (fun c1_0 => ?_)
  · refine XB.go 1 (pc' := 96) (ls' := [some (.ref 0), some (.int a1)]) (st' := []) (μ' := μ) rfl ?_
    refine XB.go 2 (pc' := 100) (ls' := [some (.ref 0), some (.int a1)]) (st' := [(.int (μ.2.1 0 9))]) (μ' := μ) rfl ?_
    exact XB.fin rfl
  refine XB.byv (v := (1 : Int32)) ?_ (fun c1_1 => ?_)
  · refine XB.go 1 (pc' := 101) (ls' := [some (.ref 0), some (.int a1)]) (st' := []) (μ' := μ) rfl ?_
    refine XB.go 3 (pc' := 108) (ls' := [some (.ref 0), some (.int a1)]) (st' := [(.int (μ.2.1 28 3))]) (μ' := μ) rfl ?_
    exact XB.fin rfl
  refine XB.byv (v := (2 : Int32)) ?_ (fun c1_2 => ?_)
  · refine XB.go 1 (pc' := 109) (ls' := [some (.ref 0), some (.int a1)]) (st' := []) (μ' := μ) rfl ?_
    refine XB.go 3 (pc' := 116) (ls' := [some (.ref 0), some (.int a1)]) (st' := [(.int (μ.2.1 28 4))]) (μ' := μ) rfl ?_
    exact XB.fin rfl
  refine XB.byv (v := (3 : Int32)) ?_ (fun c1_3 => ?_)
  · refine XB.go 1 (pc' := 117) (ls' := [some (.ref 0), some (.int a1)]) (st' := []) (μ' := μ) rfl ?_
    refine XB.go 2 (pc' := 121) (ls' := [some (.ref 0), some (.int a1)]) (st' := [(.int (μ.2.1 0 10))]) (μ' := μ) rfl ?_
    exact XB.fin rfl
  refine XB.byv (v := (4 : Int32)) ?_ (fun c1_4 => ?_)
  · refine XB.go 1 (pc' := 122) (ls' := [some (.ref 0), some (.int a1)]) (st' := []) (μ' := μ) rfl ?_
    refine XB.go 2 (pc' := 126) (ls' := [some (.ref 0), some (.int a1)]) (st' := [(.int (μ.2.1 0 11))]) (μ' := μ) rfl ?_
    exact XB.fin rfl
  refine XB.byv (v := (5 : Int32)) ?_ (fun c1_5 => ?_)
  · refine XB.go 1 (pc' := 127) (ls' := [some (.ref 0), some (.int a1)]) (st' := []) (μ' := μ) rfl ?_
    refine XB.go 2 (pc' := 131) (ls' := [some (.ref 0), some (.int a1)]) (st' := [(.int (μ.2.1 0 12))]) (μ' := μ) rfl ?_
    exact XB.fin rfl
  refine XB.byv (v := (6 : Int32)) ?_ (fun c1_6 => ?_)
  · refine XB.go 1 (pc' := 132) (ls' := [some (.ref 0), some (.int a1)]) (st' := []) (μ' := μ) rfl ?_
    refine XB.go 3 (pc' := 139) (ls' := [some (.ref 0), some (.int a1)]) (st' := [(.int (μ.2.1 28 10))]) (μ' := μ) rfl ?_
    exact XB.fin rfl
  refine XB.byv (v := (7 : Int32)) ?_ (fun c1_7 => ?_)
  · refine XB.go 1 (pc' := 140) (ls' := [some (.ref 0), some (.int a1)]) (st' := []) (μ' := μ) rfl ?_
    refine XB.go 3 (pc' := 147) (ls' := [some (.ref 0), some (.int a1)]) (st' := [(.int (μ.2.1 28 5))]) (μ' := μ) rfl ?_
    exact XB.fin rfl
  refine XB.byv (v := (8 : Int32)) ?_ (fun c1_8 => ?_)
  · refine XB.go 1 (pc' := 148) (ls' := [some (.ref 0), some (.int a1)]) (st' := []) (μ' := μ) rfl ?_
    refine XB.go 3 (pc' := 155) (ls' := [some (.ref 0), some (.int a1)]) (st' := [(.int (μ.2.1 28 9))]) (μ' := μ) rfl ?_
    exact XB.fin rfl
  refine XB.byv (v := (9 : Int32)) ?_ (fun c1_9 => ?_)
  · refine XB.go 1 (pc' := 156) (ls' := [some (.ref 0), some (.int a1)]) (st' := []) (μ' := μ) rfl ?_
    refine XB.go 3 (pc' := 163) (ls' := [some (.ref 0), some (.int a1)]) (st' := [(.int (μ.2.1 28 13))]) (μ' := μ) rfl ?_
    exact XB.fin rfl
  refine XB.byv (v := (10 : Int32)) ?_ (fun c1_10 => ?_)
  · refine XB.go 1 (pc' := 164) (ls' := [some (.ref 0), some (.int a1)]) (st' := []) (μ' := μ) rfl ?_
    refine XB.go 2 (pc' := 168) (ls' := [some (.ref 0), some (.int a1)]) (st' := [(.int (μ.2.1 0 15))]) (μ' := μ) rfl ?_
    exact XB.fin rfl
  refine XB.byv (v := (11 : Int32)) ?_ (fun c1_11 => ?_)
  · refine XB.go 1 (pc' := 169) (ls' := [some (.ref 0), some (.int a1)]) (st' := []) (μ' := μ) rfl ?_
    refine XB.go 2 (pc' := 173) (ls' := [some (.ref 0), some (.int a1)]) (st' := [(.int (μ.2.1 0 16))]) (μ' := μ) rfl ?_
    exact XB.fin rfl
  refine XB.byv (v := (12 : Int32)) ?_ (fun c1_12 => ?_)
  · refine XB.go 1 (pc' := 174) (ls' := [some (.ref 0), some (.int a1)]) (st' := []) (μ' := μ) rfl ?_
    refine XB.go 2 (pc' := 178) (ls' := [some (.ref 0), some (.int a1)]) (st' := [(.int (μ.2.1 0 14))]) (μ' := μ) rfl ?_
    exact XB.fin rfl
  refine XB.byv (v := (13 : Int32)) ?_ (fun c1_13 => ?_)
  · refine XB.go 1 (pc' := 179) (ls' := [some (.ref 0), some (.int a1)]) (st' := []) (μ' := μ) rfl ?_
    refine XB.go 2 (pc' := 183) (ls' := [some (.ref 0), some (.int a1)]) (st' := [(.int (μ.2.1 0 8))]) (μ' := μ) rfl ?_
    exact XB.fin rfl
  refine XB.byv (v := (14 : Int32)) ?_ (fun c1_14 => ?_)
  · refine XB.go 1 (pc' := 184) (ls' := [some (.ref 0), some (.int a1)]) (st' := []) (μ' := μ) rfl ?_
    refine XB.go 3 (pc' := 191) (ls' := [some (.ref 0), some (.int a1)]) (st' := [(.int (μ.2.1 28 11))]) (μ' := μ) rfl ?_
    refine XB.ifz (P := (μ.2.1 28 11) = (0 : Int32)) rfl rfl rfl (fun c191 => ?_) (fun c191 => ?_)
    · refine XB.go 1 (pc' := 199) (ls' := [some (.ref 0), some (.int a1)]) (st' := [(.int (0 : Int32))]) (μ' := μ) rfl ?_
      exact XB.fin rfl
    · refine XB.go 2 (pc' := 199) (ls' := [some (.ref 0), some (.int a1)]) (st' := [(.int (1 : Int32))]) (μ' := μ) rfl ?_
      exact XB.fin rfl
  refine XB.byv (v := (15 : Int32)) ?_ (fun c1_15 => ?_)
  · refine XB.go 1 (pc' := 200) (ls' := [some (.ref 0), some (.int a1)]) (st' := []) (μ' := μ) rfl ?_
    refine XB.go 3 (pc' := 205) (ls' := [some (.ref 0), some (.int a1)]) (st' := [(.int (3 : Int32)), (.int (μ.2.1 0 9))]) (μ' := μ) rfl ?_
    refine XB.icmp (P := ¬ (μ.2.1 0 9) = (3 : Int32)) rfl rfl rfl (fun c205 => ?_) (fun c205 => ?_)
    · refine XB.go 1 (pc' := 219) (ls' := [some (.ref 0), some (.int a1)]) (st' := [(.int (0 : Int32))]) (μ' := μ) rfl ?_
      exact XB.fin rfl
    · refine XB.go 4 (pc' := 219) (ls' := [some (.ref 0), some (.int a1)]) (st' := [(.int (μ.2.1 11 9))]) (μ' := μ) rfl ?_
      exact XB.fin rfl
  refine XB.byv (v := (16 : Int32)) ?_ (fun c1_16 => ?_)
  · refine XB.go 1 (pc' := 220) (ls' := [some (.ref 0), some (.int a1)]) (st' := []) (μ' := μ) rfl ?_
    refine XB.go 3 (pc' := 227) (ls' := [some (.ref 0), some (.int a1)]) (st' := [(.int (μ.2.1 1 7))]) (μ' := μ) rfl ?_
    exact XB.fin rfl
  refine XB.byv (v := (17 : Int32)) ?_ (fun c1_17 => ?_)
  · refine XB.go 1 (pc' := 228) (ls' := [some (.ref 0), some (.int a1)]) (st' := []) (μ' := μ) rfl ?_
    refine XB.go 3 (pc' := 235) (ls' := [some (.ref 0), some (.int a1)]) (st' := [(.int (μ.2.1 1 4))]) (μ' := μ) rfl ?_
    exact XB.fin rfl
  refine XB.byv (v := (18 : Int32)) ?_ (fun c1_18 => ?_)
  · refine XB.go 1 (pc' := 236) (ls' := [some (.ref 0), some (.int a1)]) (st' := []) (μ' := μ) rfl ?_
    refine XB.go 3 (pc' := 243) (ls' := [some (.ref 0), some (.int a1)]) (st' := [(.int (μ.2.1 25 2))]) (μ' := μ) rfl ?_
    exact XB.fin rfl
  refine XB.byv (v := (19 : Int32)) ?_ (fun c1_19 => ?_)
  · refine XB.go 1 (pc' := 244) (ls' := [some (.ref 0), some (.int a1)]) (st' := []) (μ' := μ) rfl ?_
    refine XB.go 3 (pc' := 251) (ls' := [some (.ref 0), some (.int a1)]) (st' := [(.int (μ.2.1 20 4))]) (μ' := μ) rfl ?_
    exact XB.fin rfl
  refine XB.swd (pc' := 252) rfl rfl rfl rfl (xtab_d19 c1_0 c1_1 c1_2 c1_3 c1_4 c1_5 c1_6 c1_7 c1_8 c1_9 c1_10 c1_11 c1_12 c1_13 c1_14 c1_15 c1_16 c1_17 c1_18 c1_19 rfl) ?_
  exact XB.thw rfl (fun f => rfl)
/-- LogServer.log(II)I -/
def yC_log_b35  (x1 : Int32) (x2 : Int32) (μ : XMu) : XRes := (if ¬ x2 = (1 : Int32) then (if ¬ x2 = (2 : Int32) then xgd (Nat.blt μ.1 1024) (some (.inr 2, (μ.1 + 1, μ.2.1, μ.2.2))) else (if (yDi_holds x1 μ) = (0 : Int32) then xgd (Nat.blt μ.1 1024) (some (.inr 2, (μ.1 + 1, μ.2.1, μ.2.2))) else xbi (yDi_valueAt x1 μ) (fun r2 m1 => some (.inl (some (.int r2)), m1)))) else (if (yDi_holds x1 μ) = (0 : Int32) then (if ¬ x2 = (2 : Int32) then xgd (Nat.blt μ.1 1024) (some (.inr 2, (μ.1 + 1, μ.2.1, μ.2.2))) else (if (yDi_holds x1 μ) = (0 : Int32) then xgd (Nat.blt μ.1 1024) (some (.inr 2, (μ.1 + 1, μ.2.1, μ.2.2))) else xbi (yDi_valueAt x1 μ) (fun r4 m3 => some (.inl (some (.int r4)), m3)))) else xbi (yDi_kindAt x1 μ) (fun r6 m5 => some (.inl (some (.int r6)), m5))))
theorem yC_log_b35_ok {L : Nat} {xs : Nat → Int32}   (x1 : Int32) (x2 : Int32) (μ : XMu) : XB L xs 135 35 [some (.ref 0), some (.int x1), some (.int x2)] [] μ (yC_log_b35  x1 x2 μ) := by
  unfold yC_log_b35
  refine XB.go 2 (pc' := 37) (ls' := [some (.ref 0), some (.int x1), some (.int x2)]) (st' := [(.int (1 : Int32)), (.int x2)]) (μ' := μ) rfl ?_
  refine XB.icmp (P := ¬ x2 = (1 : Int32)) rfl rfl rfl (fun c37 => ?_) (fun c37 => ?_)
  · refine XB.go 2 (pc' := 62) (ls' := [some (.ref 0), some (.int x1), some (.int x2)]) (st' := [(.int (2 : Int32)), (.int x2)]) (μ' := μ) rfl ?_
    refine XB.icmp (P := ¬ x2 = (2 : Int32)) rfl rfl rfl (fun c62 => ?_) (fun c62 => ?_)
    · exact XB.thw rfl (fun f => rfl)
    · refine XB.go 3 (pc' := 70) (ls' := [some (.ref 0), some (.int x1), some (.int x2)]) (st' := [(.int x1), (.ref 28)]) (μ' := μ) rfl ?_
      refine XB.cp rfl rfl rfl (yDi_holds_ok x1 μ) ?_
      refine XB.ifz (P := (yDi_holds x1 μ) = (0 : Int32)) rfl rfl rfl (fun c73 => ?_) (fun c73 => ?_)
      · exact XB.thw rfl (fun f => rfl)
      · refine XB.go 3 (pc' := 81) (ls' := [some (.ref 0), some (.int x1), some (.int x2)]) (st' := [(.int x1), (.ref 28)]) (μ' := μ) rfl ?_
        refine XB.ci rfl rfl rfl rfl rfl (yDi_valueAt_ok x1 μ) (fun r2 m1 => ?_)
        exact XB.fin rfl
  · refine XB.go 3 (pc' := 45) (ls' := [some (.ref 0), some (.int x1), some (.int x2)]) (st' := [(.int x1), (.ref 28)]) (μ' := μ) rfl ?_
    refine XB.cp rfl rfl rfl (yDi_holds_ok x1 μ) ?_
    refine XB.ifz (P := (yDi_holds x1 μ) = (0 : Int32)) rfl rfl rfl (fun c48 => ?_) (fun c48 => ?_)
    · refine XB.go 2 (pc' := 62) (ls' := [some (.ref 0), some (.int x1), some (.int x2)]) (st' := [(.int (2 : Int32)), (.int x2)]) (μ' := μ) rfl ?_
      refine XB.icmp (P := ¬ x2 = (2 : Int32)) rfl rfl rfl (fun c62 => ?_) (fun c62 => ?_)
      · exact XB.thw rfl (fun f => rfl)
      · refine XB.go 3 (pc' := 70) (ls' := [some (.ref 0), some (.int x1), some (.int x2)]) (st' := [(.int x1), (.ref 28)]) (μ' := μ) rfl ?_
        refine XB.cp rfl rfl rfl (yDi_holds_ok x1 μ) ?_
        refine XB.ifz (P := (yDi_holds x1 μ) = (0 : Int32)) rfl rfl rfl (fun c73 => ?_) (fun c73 => ?_)
        · exact XB.thw rfl (fun f => rfl)
        · refine XB.go 3 (pc' := 81) (ls' := [some (.ref 0), some (.int x1), some (.int x2)]) (st' := [(.int x1), (.ref 28)]) (μ' := μ) rfl ?_
          refine XB.ci rfl rfl rfl rfl rfl (yDi_valueAt_ok x1 μ) (fun r4 m3 => ?_)
          exact XB.fin rfl
    · refine XB.go 3 (pc' := 56) (ls' := [some (.ref 0), some (.int x1), some (.int x2)]) (st' := [(.int x1), (.ref 28)]) (μ' := μ) rfl ?_
      refine XB.ci rfl rfl rfl rfl rfl (yDi_kindAt_ok x1 μ) (fun r6 m5 => ?_)
      exact XB.fin rfl
def yC_log (a1 : Int32) (a2 : Int32) (μ : XMu) : XRes := (if ¬ a2 = (0 : Int32) then yC_log_b35  a1 a2 μ else (if a1 = (μ.2.1 28 5) then xbi (yDi_termAt a1 μ) (fun r8 m7 => some (.inl (some (.int r8)), m7)) else (if (yDi_holds a1 μ) = (0 : Int32) then yC_log_b35  a1 a2 μ else xbi (yDi_termAt a1 μ) (fun r10 m9 => some (.inl (some (.int r10)), m9)))))
theorem yC_log_ok {L : Nat} {xs : Nat → Int32} (a1 : Int32) (a2 : Int32) (μ : XMu) : XB L xs 135 0 [some (.ref 0), some (.int a1), some (.int a2)] [] μ (yC_log a1 a2 μ) := by
  unfold yC_log
  refine XB.go 1 (pc' := 1) (ls' := [some (.ref 0), some (.int a1), some (.int a2)]) (st' := [(.int a2)]) (μ' := μ) rfl ?_
  refine XB.ifz (P := ¬ a2 = (0 : Int32)) rfl rfl rfl (fun c1 => ?_) (fun c1 => ?_)
  · exact yC_log_b35_ok   a1 a2 μ
  · refine XB.go 4 (pc' := 12) (ls' := [some (.ref 0), some (.int a1), some (.int a2)]) (st' := [(.int (μ.2.1 28 5)), (.int a1)]) (μ' := μ) rfl ?_
    refine XB.icmp (P := a1 = (μ.2.1 28 5)) rfl rfl rfl (fun c12 => ?_) (fun c12 => ?_)
    · refine XB.go 3 (pc' := 31) (ls' := [some (.ref 0), some (.int a1), some (.int a2)]) (st' := [(.int a1), (.ref 28)]) (μ' := μ) rfl ?_
      refine XB.ci rfl rfl rfl rfl rfl (yDi_termAt_ok a1 μ) (fun r8 m7 => ?_)
      exact XB.fin rfl
    · refine XB.go 3 (pc' := 20) (ls' := [some (.ref 0), some (.int a1), some (.int a2)]) (st' := [(.int a1), (.ref 28)]) (μ' := μ) rfl ?_
      refine XB.cp rfl rfl rfl (yDi_holds_ok a1 μ) ?_
      refine XB.ifz (P := (yDi_holds a1 μ) = (0 : Int32)) rfl rfl rfl (fun c23 => ?_) (fun c23 => ?_)
      · exact yC_log_b35_ok   a1 a2 μ
      · refine XB.go 3 (pc' := 31) (ls' := [some (.ref 0), some (.int a1), some (.int a2)]) (st' := [(.int a1), (.ref 28)]) (μ' := μ) rfl ?_
        refine XB.ci rfl rfl rfl rfl rfl (yDi_termAt_ok a1 μ) (fun r10 m9 => ?_)
        exact XB.fin rfl
/-- LogServer.peer(II)I -/
def yC_peer (a1 : Int32) (a2 : Int32) (μ : XMu) : XRes := (if ¬ (μ.2.1 0 9) = (3 : Int32) then xgd (Nat.blt μ.1 1024) (some (.inr 2, (μ.1 + 1, μ.2.1, μ.2.2))) else (if a1 < (0 : Int32) then xgd (Nat.blt μ.1 1024) (some (.inr 2, (μ.1 + 1, μ.2.1, μ.2.2))) else (if a1 < (7 : Int32) then (if a2 = (0 : Int32) then xgd (xin a1 7) (some (.inl (some (.int (μ.2.1 12 (a1).toNatClampNeg))), μ)) else (if a2 = (1 : Int32) then xgd (xin a1 7) (some (.inl (some (.int (μ.2.1 13 (a1).toNatClampNeg))), μ)) else (if a2 = (2 : Int32) then xgd (xin a1 7) (some (.inl (some (.int (μ.2.1 14 (a1).toNatClampNeg))), μ)) else (if a2 = (3 : Int32) then xgd (xin a1 7) ((if (μ.2.1 15 (a1).toNatClampNeg) = (0 : Int32) then some (.inl (some (.int (0 : Int32))), μ) else some (.inl (some (.int (1 : Int32))), μ))) else (if a2 = (4 : Int32) then xgd (xin a1 7) (some (.inl (some (.int (μ.2.1 16 (a1).toNatClampNeg))), μ)) else (if a2 = (5 : Int32) then xgd (xin a1 7) (some (.inl (some (.int (μ.2.1 17 (a1).toNatClampNeg))), μ)) else (if a2 = (6 : Int32) then xgd (xin a1 7) (some (.inl (some (.int (μ.2.1 18 (a1).toNatClampNeg))), μ)) else xgd (Nat.blt μ.1 1024) (some (.inr 2, (μ.1 + 1, μ.2.1, μ.2.2)))))))))) else xgd (Nat.blt μ.1 1024) (some (.inr 2, (μ.1 + 1, μ.2.1, μ.2.2))))))
theorem yC_peer_ok {L : Nat} {xs : Nat → Int32} (a1 : Int32) (a2 : Int32) (μ : XMu) : XB L xs 137 0 [some (.ref 0), some (.int a1), some (.int a2)] [] μ (yC_peer a1 a2 μ) := by
  unfold yC_peer
  refine XB.go 3 (pc' := 5) (ls' := [some (.ref 0), some (.int a1), some (.int a2)]) (st' := [(.int (3 : Int32)), (.int (μ.2.1 0 9))]) (μ' := μ) rfl ?_
  refine XB.icmp (P := ¬ (μ.2.1 0 9) = (3 : Int32)) rfl rfl rfl (fun c5 => ?_) (fun c5 => ?_)
  · exact XB.thw rfl (fun f => rfl)
  · refine XB.go 1 (pc' := 9) (ls' := [some (.ref 0), some (.int a1), some (.int a2)]) (st' := [(.int a1)]) (μ' := μ) rfl ?_
    refine XB.ifz (P := a1 < (0 : Int32)) rfl rfl rfl (fun c9 => ?_) (fun c9 => ?_)
    · exact XB.thw rfl (fun f => rfl)
    · refine XB.go 2 (pc' := 15) (ls' := [some (.ref 0), some (.int a1), some (.int a2)]) (st' := [(.int (7 : Int32)), (.int a1)]) (μ' := μ) rfl ?_
      refine XB.icmp (P := a1 < (7 : Int32)) rfl rfl rfl (fun c15 => ?_) (fun c15 => ?_)
      · refine XB.go 1 (pc' := 30) (ls' := [some (.ref 0), some (.int a1), some (.int a2)]) (st' := [(.int a2)]) (μ' := μ) rfl ?_
        refine XB.byv (v := (0 : Int32)) ?_ (fun c30_0 => ?_)
        · refine XB.go 1 (pc' := 72) (ls' := [some (.ref 0), some (.int a1), some (.int a2)]) (st' := []) (μ' := μ) rfl ?_
          refine XB.go 4 (pc' := 80) (ls' := [some (.ref 0), some (.int a1), some (.int a2)]) (st' := [(.int a1), (.ref 12)]) (μ' := μ) rfl ?_
          refine XB.gd (pc' := 81) (ls' := [some (.ref 0), some (.int a1), some (.int a2)]) (st' := [(.int (μ.2.1 12 (a1).toNatClampNeg))]) (μ' := μ) rfl rfl rfl (fun hb => xbT hb) ?_
          exact XB.fin rfl
        refine XB.byv (v := (1 : Int32)) ?_ (fun c30_1 => ?_)
        · refine XB.go 1 (pc' := 82) (ls' := [some (.ref 0), some (.int a1), some (.int a2)]) (st' := []) (μ' := μ) rfl ?_
          refine XB.go 4 (pc' := 90) (ls' := [some (.ref 0), some (.int a1), some (.int a2)]) (st' := [(.int a1), (.ref 13)]) (μ' := μ) rfl ?_
          refine XB.gd (pc' := 91) (ls' := [some (.ref 0), some (.int a1), some (.int a2)]) (st' := [(.int (μ.2.1 13 (a1).toNatClampNeg))]) (μ' := μ) rfl rfl rfl (fun hb => xbT hb) ?_
          exact XB.fin rfl
        refine XB.byv (v := (2 : Int32)) ?_ (fun c30_2 => ?_)
        · refine XB.go 1 (pc' := 92) (ls' := [some (.ref 0), some (.int a1), some (.int a2)]) (st' := []) (μ' := μ) rfl ?_
          refine XB.go 4 (pc' := 100) (ls' := [some (.ref 0), some (.int a1), some (.int a2)]) (st' := [(.int a1), (.ref 14)]) (μ' := μ) rfl ?_
          refine XB.gd (pc' := 101) (ls' := [some (.ref 0), some (.int a1), some (.int a2)]) (st' := [(.int (μ.2.1 14 (a1).toNatClampNeg))]) (μ' := μ) rfl rfl rfl (fun hb => xbT hb) ?_
          exact XB.fin rfl
        refine XB.byv (v := (3 : Int32)) ?_ (fun c30_3 => ?_)
        · refine XB.go 1 (pc' := 102) (ls' := [some (.ref 0), some (.int a1), some (.int a2)]) (st' := []) (μ' := μ) rfl ?_
          refine XB.go 4 (pc' := 110) (ls' := [some (.ref 0), some (.int a1), some (.int a2)]) (st' := [(.int a1), (.ref 15)]) (μ' := μ) rfl ?_
          refine XB.gd (pc' := 111) (ls' := [some (.ref 0), some (.int a1), some (.int a2)]) (st' := [(.int (μ.2.1 15 (a1).toNatClampNeg))]) (μ' := μ) rfl rfl rfl (fun hb => xbT hb) ?_
          refine XB.ifz (P := (μ.2.1 15 (a1).toNatClampNeg) = (0 : Int32)) rfl rfl rfl (fun c111 => ?_) (fun c111 => ?_)
          · refine XB.go 1 (pc' := 119) (ls' := [some (.ref 0), some (.int a1), some (.int a2)]) (st' := [(.int (0 : Int32))]) (μ' := μ) rfl ?_
            exact XB.fin rfl
          · refine XB.go 2 (pc' := 119) (ls' := [some (.ref 0), some (.int a1), some (.int a2)]) (st' := [(.int (1 : Int32))]) (μ' := μ) rfl ?_
            exact XB.fin rfl
        refine XB.byv (v := (4 : Int32)) ?_ (fun c30_4 => ?_)
        · refine XB.go 1 (pc' := 120) (ls' := [some (.ref 0), some (.int a1), some (.int a2)]) (st' := []) (μ' := μ) rfl ?_
          refine XB.go 4 (pc' := 128) (ls' := [some (.ref 0), some (.int a1), some (.int a2)]) (st' := [(.int a1), (.ref 16)]) (μ' := μ) rfl ?_
          refine XB.gd (pc' := 129) (ls' := [some (.ref 0), some (.int a1), some (.int a2)]) (st' := [(.int (μ.2.1 16 (a1).toNatClampNeg))]) (μ' := μ) rfl rfl rfl (fun hb => xbT hb) ?_
          exact XB.fin rfl
        refine XB.byv (v := (5 : Int32)) ?_ (fun c30_5 => ?_)
        · refine XB.go 1 (pc' := 130) (ls' := [some (.ref 0), some (.int a1), some (.int a2)]) (st' := []) (μ' := μ) rfl ?_
          refine XB.go 4 (pc' := 138) (ls' := [some (.ref 0), some (.int a1), some (.int a2)]) (st' := [(.int a1), (.ref 17)]) (μ' := μ) rfl ?_
          refine XB.gd (pc' := 139) (ls' := [some (.ref 0), some (.int a1), some (.int a2)]) (st' := [(.int (μ.2.1 17 (a1).toNatClampNeg))]) (μ' := μ) rfl rfl rfl (fun hb => xbT hb) ?_
          exact XB.fin rfl
        refine XB.byv (v := (6 : Int32)) ?_ (fun c30_6 => ?_)
        · refine XB.go 1 (pc' := 140) (ls' := [some (.ref 0), some (.int a1), some (.int a2)]) (st' := []) (μ' := μ) rfl ?_
          refine XB.go 4 (pc' := 148) (ls' := [some (.ref 0), some (.int a1), some (.int a2)]) (st' := [(.int a1), (.ref 18)]) (μ' := μ) rfl ?_
          refine XB.gd (pc' := 149) (ls' := [some (.ref 0), some (.int a1), some (.int a2)]) (st' := [(.int (μ.2.1 18 (a1).toNatClampNeg))]) (μ' := μ) rfl rfl rfl (fun hb => xbT hb) ?_
          exact XB.fin rfl
        refine XB.swd (pc' := 150) rfl rfl rfl rfl (xtab_d6 c30_0 c30_1 c30_2 c30_3 c30_4 c30_5 c30_6 rfl) ?_
        exact XB.thw rfl (fun f => rfl)
      · exact XB.thw rfl (fun f => rfl)
/-- LogServer$Mail.knows(II)Z -/
def yMa_knows (a1 : Int32) (a2 : Int32) (μ : XMu) : XRes := (if a1 < (0 : Int32) then some (.inl (some (.int (0 : Int32))), μ) else (if (64 : Int32) ≤ a1 then some (.inl (some (.int (0 : Int32))), μ) else (if (μ.2.1 1 7) ≤ a1 then some (.inl (some (.int (0 : Int32))), μ) else (if a2 < (0 : Int32) then some (.inl (some (.int (0 : Int32))), μ) else xgd (xin (yMa_slotOf (((μ.2.1 1 7) - (1 : Int32)) - a1)) 64) ((if (μ.2.1 6 ((yMa_slotOf (((μ.2.1 1 7) - (1 : Int32)) - a1))).toNatClampNeg) ≤ a2 then some (.inl (some (.int (0 : Int32))), μ) else some (.inl (some (.int (1 : Int32))), μ)))))))
theorem yMa_knows_ok {L : Nat} {xs : Nat → Int32} (a1 : Int32) (a2 : Int32) (μ : XMu) : XB L xs 139 0 [some (.ref 1), some (.int a1), some (.int a2)] [] μ (yMa_knows a1 a2 μ) := by
  unfold yMa_knows
  refine XB.go 1 (pc' := 1) (ls' := [some (.ref 1), some (.int a1), some (.int a2)]) (st' := [(.int a1)]) (μ' := μ) rfl ?_
  refine XB.ifz (P := a1 < (0 : Int32)) rfl rfl rfl (fun c1 => ?_) (fun c1 => ?_)
  · refine XB.go 1 (pc' := 47) (ls' := [some (.ref 1), some (.int a1), some (.int a2)]) (st' := [(.int (0 : Int32))]) (μ' := μ) rfl ?_
    exact XB.fin rfl
  · refine XB.go 2 (pc' := 7) (ls' := [some (.ref 1), some (.int a1), some (.int a2)]) (st' := [(.int (64 : Int32)), (.int a1)]) (μ' := μ) rfl ?_
    refine XB.icmp (P := (64 : Int32) ≤ a1) rfl rfl rfl (fun c7 => ?_) (fun c7 => ?_)
    · refine XB.go 1 (pc' := 47) (ls' := [some (.ref 1), some (.int a1), some (.int a2)]) (st' := [(.int (0 : Int32))]) (μ' := μ) rfl ?_
      exact XB.fin rfl
    · refine XB.go 3 (pc' := 15) (ls' := [some (.ref 1), some (.int a1), some (.int a2)]) (st' := [(.int (μ.2.1 1 7)), (.int a1)]) (μ' := μ) rfl ?_
      refine XB.icmp (P := (μ.2.1 1 7) ≤ a1) rfl rfl rfl (fun c15 => ?_) (fun c15 => ?_)
      · refine XB.go 1 (pc' := 47) (ls' := [some (.ref 1), some (.int a1), some (.int a2)]) (st' := [(.int (0 : Int32))]) (μ' := μ) rfl ?_
        exact XB.fin rfl
      · refine XB.go 1 (pc' := 19) (ls' := [some (.ref 1), some (.int a1), some (.int a2)]) (st' := [(.int a2)]) (μ' := μ) rfl ?_
        refine XB.ifz (P := a2 < (0 : Int32)) rfl rfl rfl (fun c19 => ?_) (fun c19 => ?_)
        · refine XB.go 1 (pc' := 47) (ls' := [some (.ref 1), some (.int a1), some (.int a2)]) (st' := [(.int (0 : Int32))]) (μ' := μ) rfl ?_
          exact XB.fin rfl
        · refine XB.go 9 (pc' := 35) (ls' := [some (.ref 1), some (.int a1), some (.int a2)]) (st' := [(.int (((μ.2.1 1 7) - (1 : Int32)) - a1)), (.ref 6), (.int a2)]) (μ' := μ) rfl ?_
          refine XB.cp rfl rfl rfl (yMa_slotOf_ok (((μ.2.1 1 7) - (1 : Int32)) - a1) μ) ?_
          refine XB.gd (pc' := 39) (ls' := [some (.ref 1), some (.int a1), some (.int a2)]) (st' := [(.int (μ.2.1 6 ((yMa_slotOf (((μ.2.1 1 7) - (1 : Int32)) - a1))).toNatClampNeg)), (.int a2)]) (μ' := μ) rfl rfl rfl (fun hb => xbT hb) ?_
          refine XB.icmp (P := (μ.2.1 6 ((yMa_slotOf (((μ.2.1 1 7) - (1 : Int32)) - a1))).toNatClampNeg) ≤ a2) rfl rfl rfl (fun c39 => ?_) (fun c39 => ?_)
          · refine XB.go 1 (pc' := 47) (ls' := [some (.ref 1), some (.int a1), some (.int a2)]) (st' := [(.int (0 : Int32))]) (μ' := μ) rfl ?_
            exact XB.fin rfl
          · refine XB.go 2 (pc' := 47) (ls' := [some (.ref 1), some (.int a1), some (.int a2)]) (st' := [(.int (1 : Int32))]) (μ' := μ) rfl ?_
            exact XB.fin rfl
/-- LogServer$Mail.numberOf(II)I -/
def yMa_numberOf (a1 : Int32) (a2 : Int32) (μ : XMu) : XRes := xbi (yMa_knows a1 a2 μ) (fun r2 m1 => (if r2 = (0 : Int32) then some (.inl (some (.int (-1 : Int32))), m1) else xgd (xin (((yMa_slotOf (((m1.2.1 1 7) - (1 : Int32)) - a1)) * (26 : Int32)) + a2) 1664) (some (.inl (some (.int (m1.2.1 5 ((((yMa_slotOf (((m1.2.1 1 7) - (1 : Int32)) - a1)) * (26 : Int32)) + a2)).toNatClampNeg))), m1))))
theorem yMa_numberOf_ok {L : Nat} {xs : Nat → Int32} (a1 : Int32) (a2 : Int32) (μ : XMu) : XB L xs 140 0 [some (.ref 1), some (.int a1), some (.int a2)] [] μ (yMa_numberOf a1 a2 μ) := by
  unfold yMa_numberOf
  refine XB.go 3 (pc' := 3) (ls' := [some (.ref 1), some (.int a1), some (.int a2)]) (st' := [(.int a2), (.int a1), (.ref 1)]) (μ' := μ) rfl ?_
  refine XB.ci rfl rfl rfl rfl rfl (yMa_knows_ok a1 a2 μ) (fun r2 m1 => ?_)
  refine XB.ifz (P := r2 = (0 : Int32)) rfl rfl rfl (fun c6 => ?_) (fun c6 => ?_)
  · refine XB.go 1 (pc' := 34) (ls' := [some (.ref 1), some (.int a1), some (.int a2)]) (st' := [(.int (-1 : Int32))]) (μ' := m1) rfl ?_
    exact XB.fin rfl
  · refine XB.go 8 (pc' := 21) (ls' := [some (.ref 1), some (.int a1), some (.int a2)]) (st' := [(.int (((m1.2.1 1 7) - (1 : Int32)) - a1)), (.ref 5)]) (μ' := m1) rfl ?_
    refine XB.cp rfl rfl rfl (yMa_slotOf_ok (((m1.2.1 1 7) - (1 : Int32)) - a1) m1) ?_
    refine XB.go 4 (pc' := 29) (ls' := [some (.ref 1), some (.int a1), some (.int a2)]) (st' := [(.int (((yMa_slotOf (((m1.2.1 1 7) - (1 : Int32)) - a1)) * (26 : Int32)) + a2)), (.ref 5)]) (μ' := m1) rfl ?_
    refine XB.gd (pc' := 30) (ls' := [some (.ref 1), some (.int a1), some (.int a2)]) (st' := [(.int (m1.2.1 5 ((((yMa_slotOf (((m1.2.1 1 7) - (1 : Int32)) - a1)) * (26 : Int32)) + a2)).toNatClampNeg))]) (μ' := m1) rfl rfl rfl (fun hb => xbT hb) ?_
    refine XB.go 1 (pc' := 34) (ls' := [some (.ref 1), some (.int a1), some (.int a2)]) (st' := [(.int (m1.2.1 5 ((((yMa_slotOf (((m1.2.1 1 7) - (1 : Int32)) - a1)) * (26 : Int32)) + a2)).toNatClampNeg))]) (μ' := m1) rfl ?_
    exact XB.fin rfl
/-- LogServer.letter(II)I -/
def yC_letter (a1 : Int32) (a2 : Int32) (μ : XMu) : XRes := xbi (yMa_knows a1 a2 μ) (fun r2 m1 => (if ¬ r2 = (0 : Int32) then xbi (yMa_numberOf a1 a2 m1) (fun r4 m3 => some (.inl (some (.int r4)), m3)) else xgd (Nat.blt m1.1 1024) (some (.inr 2, (m1.1 + 1, m1.2.1, m1.2.2)))))
theorem yC_letter_ok {L : Nat} {xs : Nat → Int32} (a1 : Int32) (a2 : Int32) (μ : XMu) : XB L xs 141 0 [some (.ref 0), some (.int a1), some (.int a2)] [] μ (yC_letter a1 a2 μ) := by
  unfold yC_letter
  refine XB.go 4 (pc' := 6) (ls' := [some (.ref 0), some (.int a1), some (.int a2)]) (st' := [(.int a2), (.int a1), (.ref 1)]) (μ' := μ) rfl ?_
  refine XB.ci rfl rfl rfl rfl rfl (yMa_knows_ok a1 a2 μ) (fun r2 m1 => ?_)
  refine XB.ifz (P := ¬ r2 = (0 : Int32)) rfl rfl rfl (fun c9 => ?_) (fun c9 => ?_)
  · refine XB.go 4 (pc' := 29) (ls' := [some (.ref 0), some (.int a1), some (.int a2)]) (st' := [(.int a2), (.int a1), (.ref 1)]) (μ' := m1) rfl ?_
    refine XB.ci rfl rfl rfl rfl rfl (yMa_numberOf_ok a1 a2 m1) (fun r4 m3 => ?_)
    exact XB.fin rfl
  · exact XB.thw rfl (fun f => rfl)
/-- LogServer$Deeds.knows(I)Z -/
def yDe_knows (a1 : Int32) (μ : XMu) : Int32 := (if a1 < (0 : Int32) then (0 : Int32) else (if (64 : Int32) ≤ a1 then (0 : Int32) else (if (μ.2.1 25 2) ≤ a1 then (0 : Int32) else (1 : Int32))))
theorem yDe_knows_ok {L : Nat} {xs : Nat → Int32} (a1 : Int32) (μ : XMu) : XB L xs 143 0 [some (.ref 25), some (.int a1)] [] μ (some (.inl (some (.int (yDe_knows a1 μ))), μ)) := by
  unfold yDe_knows
  refine XB.go 1 (pc' := 1) (ls' := [some (.ref 25), some (.int a1)]) (st' := [(.int a1)]) (μ' := μ) rfl ?_
  refine XB.ifzv (P := a1 < (0 : Int32)) rfl rfl rfl (fun c1 => ?_) (fun c1 => ?_)
  · refine XB.go 1 (pc' := 23) (ls' := [some (.ref 25), some (.int a1)]) (st' := [(.int (0 : Int32))]) (μ' := μ) rfl ?_
    exact XB.fin rfl
  · refine XB.go 2 (pc' := 7) (ls' := [some (.ref 25), some (.int a1)]) (st' := [(.int (64 : Int32)), (.int a1)]) (μ' := μ) rfl ?_
    refine XB.icmpv (P := (64 : Int32) ≤ a1) rfl rfl rfl (fun c7 => ?_) (fun c7 => ?_)
    · refine XB.go 1 (pc' := 23) (ls' := [some (.ref 25), some (.int a1)]) (st' := [(.int (0 : Int32))]) (μ' := μ) rfl ?_
      exact XB.fin rfl
    · refine XB.go 3 (pc' := 15) (ls' := [some (.ref 25), some (.int a1)]) (st' := [(.int (μ.2.1 25 2)), (.int a1)]) (μ' := μ) rfl ?_
      refine XB.icmpv (P := (μ.2.1 25 2) ≤ a1) rfl rfl rfl (fun c15 => ?_) (fun c15 => ?_)
      · refine XB.go 1 (pc' := 23) (ls' := [some (.ref 25), some (.int a1)]) (st' := [(.int (0 : Int32))]) (μ' := μ) rfl ?_
        exact XB.fin rfl
      · refine XB.go 2 (pc' := 23) (ls' := [some (.ref 25), some (.int a1)]) (st' := [(.int (1 : Int32))]) (μ' := μ) rfl ?_
        exact XB.fin rfl
theorem yDe_knows_01 (a1 : Int32) (μ : XMu) : x01 (yDe_knows a1 μ) = true := by
  unfold yDe_knows
  repeat (first | rfl | (exact rfl) | split)
/-- LogServer$Deeds.numberOf(I)I -/
def yDe_numberOf (a1 : Int32) (μ : XMu) : XRes := xgd (xin (yDe_slotOf (((μ.2.1 25 2) - (1 : Int32)) - a1)) 64) (some (.inl (some (.int (μ.2.1 26 ((yDe_slotOf (((μ.2.1 25 2) - (1 : Int32)) - a1))).toNatClampNeg))), μ))
theorem yDe_numberOf_ok {L : Nat} {xs : Nat → Int32} (a1 : Int32) (μ : XMu) : XB L xs 144 0 [some (.ref 25), some (.int a1)] [] μ (yDe_numberOf a1 μ) := by
  unfold yDe_numberOf
  refine XB.go 8 (pc' := 12) (ls' := [some (.ref 25), some (.int a1)]) (st' := [(.int (((μ.2.1 25 2) - (1 : Int32)) - a1)), (.ref 26)]) (μ' := μ) rfl ?_
  refine XB.cp rfl rfl rfl (yDe_slotOf_ok (((μ.2.1 25 2) - (1 : Int32)) - a1) μ) ?_
  refine XB.gd (pc' := 16) (ls' := [some (.ref 25), some (.int a1)]) (st' := [(.int (μ.2.1 26 ((yDe_slotOf (((μ.2.1 25 2) - (1 : Int32)) - a1))).toNatClampNeg))]) (μ' := μ) rfl rfl rfl (fun hb => xbT hb) ?_
  exact XB.fin rfl
/-- LogServer$Deeds.valueOf(I)I -/
def yDe_valueOf (a1 : Int32) (μ : XMu) : XRes := xgd (xin (yDe_slotOf (((μ.2.1 25 2) - (1 : Int32)) - a1)) 64) (some (.inl (some (.int (μ.2.1 27 ((yDe_slotOf (((μ.2.1 25 2) - (1 : Int32)) - a1))).toNatClampNeg))), μ))
theorem yDe_valueOf_ok {L : Nat} {xs : Nat → Int32} (a1 : Int32) (μ : XMu) : XB L xs 145 0 [some (.ref 25), some (.int a1)] [] μ (yDe_valueOf a1 μ) := by
  unfold yDe_valueOf
  refine XB.go 8 (pc' := 12) (ls' := [some (.ref 25), some (.int a1)]) (st' := [(.int (((μ.2.1 25 2) - (1 : Int32)) - a1)), (.ref 27)]) (μ' := μ) rfl ?_
  refine XB.cp rfl rfl rfl (yDe_slotOf_ok (((μ.2.1 25 2) - (1 : Int32)) - a1) μ) ?_
  refine XB.gd (pc' := 16) (ls' := [some (.ref 25), some (.int a1)]) (st' := [(.int (μ.2.1 27 ((yDe_slotOf (((μ.2.1 25 2) - (1 : Int32)) - a1))).toNatClampNeg))]) (μ' := μ) rfl rfl rfl (fun hb => xbT hb) ?_
  exact XB.fin rfl
/-- LogServer.done(II)I -/
def yC_done (a1 : Int32) (a2 : Int32) (μ : XMu) : XRes := (if (yDe_knows a1 μ) = (0 : Int32) then xgd (Nat.blt μ.1 1024) (some (.inr 2, (μ.1 + 1, μ.2.1, μ.2.2))) else (if a2 < (0 : Int32) then xgd (Nat.blt μ.1 1024) (some (.inr 2, (μ.1 + 1, μ.2.1, μ.2.2))) else (if a2 ≤ (1 : Int32) then (if ¬ a2 = (0 : Int32) then xbi (yDe_valueOf a1 μ) (fun r2 m1 => some (.inl (some (.int r2)), m1)) else xbi (yDe_numberOf a1 μ) (fun r4 m3 => some (.inl (some (.int r4)), m3))) else xgd (Nat.blt μ.1 1024) (some (.inr 2, (μ.1 + 1, μ.2.1, μ.2.2))))))
theorem yC_done_ok {L : Nat} {xs : Nat → Int32} (a1 : Int32) (a2 : Int32) (μ : XMu) : XB L xs 146 0 [some (.ref 0), some (.int a1), some (.int a2)] [] μ (yC_done a1 a2 μ) := by
  unfold yC_done
  refine XB.go 3 (pc' := 5) (ls' := [some (.ref 0), some (.int a1), some (.int a2)]) (st' := [(.int a1), (.ref 25)]) (μ' := μ) rfl ?_
  refine XB.cp rfl rfl rfl (yDe_knows_ok a1 μ) ?_
  refine XB.ifz (P := (yDe_knows a1 μ) = (0 : Int32)) rfl rfl rfl (fun c8 => ?_) (fun c8 => ?_)
  · exact XB.thw rfl (fun f => rfl)
  · refine XB.go 1 (pc' := 12) (ls' := [some (.ref 0), some (.int a1), some (.int a2)]) (st' := [(.int a2)]) (μ' := μ) rfl ?_
    refine XB.ifz (P := a2 < (0 : Int32)) rfl rfl rfl (fun c12 => ?_) (fun c12 => ?_)
    · exact XB.thw rfl (fun f => rfl)
    · refine XB.go 2 (pc' := 17) (ls' := [some (.ref 0), some (.int a1), some (.int a2)]) (st' := [(.int (1 : Int32)), (.int a2)]) (μ' := μ) rfl ?_
      refine XB.icmp (P := a2 ≤ (1 : Int32)) rfl rfl rfl (fun c17 => ?_) (fun c17 => ?_)
      · refine XB.go 1 (pc' := 32) (ls' := [some (.ref 0), some (.int a1), some (.int a2)]) (st' := [(.int a2)]) (μ' := μ) rfl ?_
        refine XB.ifz (P := ¬ a2 = (0 : Int32)) rfl rfl rfl (fun c32 => ?_) (fun c32 => ?_)
        · refine XB.go 3 (pc' := 51) (ls' := [some (.ref 0), some (.int a1), some (.int a2)]) (st' := [(.int a1), (.ref 25)]) (μ' := μ) rfl ?_
          refine XB.ci rfl rfl rfl rfl rfl (yDe_valueOf_ok a1 μ) (fun r2 m1 => ?_)
          exact XB.fin rfl
        · refine XB.go 3 (pc' := 40) (ls' := [some (.ref 0), some (.int a1), some (.int a2)]) (st' := [(.int a1), (.ref 25)]) (μ' := μ) rfl ?_
          refine XB.ci rfl rfl rfl rfl rfl (yDe_numberOf_ok a1 μ) (fun r4 m3 => ?_)
          refine XB.go 1 (pc' := 54) (ls' := [some (.ref 0), some (.int a1), some (.int a2)]) (st' := [(.int r4)]) (μ' := m3) rfl ?_
          exact XB.fin rfl
      · exact XB.thw rfl (fun f => rfl)
/-- LogServer$Calls.knows(I)Z -/
def yCa_knows (a1 : Int32) (μ : XMu) : Int32 := (if a1 < (0 : Int32) then (0 : Int32) else (if (μ.2.1 20 4) ≤ a1 then (0 : Int32) else (if a1 < ((μ.2.1 20 4) - (32 : Int32)) then (0 : Int32) else (1 : Int32))))
theorem yCa_knows_ok {L : Nat} {xs : Nat → Int32} (a1 : Int32) (μ : XMu) : XB L xs 148 0 [some (.ref 20), some (.int a1)] [] μ (some (.inl (some (.int (yCa_knows a1 μ))), μ)) := by
  unfold yCa_knows
  refine XB.go 1 (pc' := 1) (ls' := [some (.ref 20), some (.int a1)]) (st' := [(.int a1)]) (μ' := μ) rfl ?_
  refine XB.ifzv (P := a1 < (0 : Int32)) rfl rfl rfl (fun c1 => ?_) (fun c1 => ?_)
  · refine XB.go 1 (pc' := 28) (ls' := [some (.ref 20), some (.int a1)]) (st' := [(.int (0 : Int32))]) (μ' := μ) rfl ?_
    exact XB.fin rfl
  · refine XB.go 3 (pc' := 9) (ls' := [some (.ref 20), some (.int a1)]) (st' := [(.int (μ.2.1 20 4)), (.int a1)]) (μ' := μ) rfl ?_
    refine XB.icmpv (P := (μ.2.1 20 4) ≤ a1) rfl rfl rfl (fun c9 => ?_) (fun c9 => ?_)
    · refine XB.go 1 (pc' := 28) (ls' := [some (.ref 20), some (.int a1)]) (st' := [(.int (0 : Int32))]) (μ' := μ) rfl ?_
      exact XB.fin rfl
    · refine XB.go 5 (pc' := 20) (ls' := [some (.ref 20), some (.int a1)]) (st' := [(.int ((μ.2.1 20 4) - (32 : Int32))), (.int a1)]) (μ' := μ) rfl ?_
      refine XB.icmpv (P := a1 < ((μ.2.1 20 4) - (32 : Int32))) rfl rfl rfl (fun c20 => ?_) (fun c20 => ?_)
      · refine XB.go 1 (pc' := 28) (ls' := [some (.ref 20), some (.int a1)]) (st' := [(.int (0 : Int32))]) (μ' := μ) rfl ?_
        exact XB.fin rfl
      · refine XB.go 2 (pc' := 28) (ls' := [some (.ref 20), some (.int a1)]) (st' := [(.int (1 : Int32))]) (μ' := μ) rfl ?_
        exact XB.fin rfl
theorem yCa_knows_01 (a1 : Int32) (μ : XMu) : x01 (yCa_knows a1 μ) = true := by
  unfold yCa_knows
  repeat (first | rfl | (exact rfl) | split)
/-- LogServer.checkCall(I)V -/
def yC_checkCall (a1 : Int32) (μ : XMu) : XRes := (if ¬ (yCa_knows a1 μ) = (0 : Int32) then some (.inl none, μ) else xgd (Nat.blt μ.1 1024) (some (.inr 2, (μ.1 + 1, μ.2.1, μ.2.2))))
theorem yC_checkCall_ok {L : Nat} {xs : Nat → Int32} (a1 : Int32) (μ : XMu) : XB L xs 149 0 [some (.ref 0), some (.int a1)] [] μ (yC_checkCall a1 μ) := by
  unfold yC_checkCall
  refine XB.go 3 (pc' := 5) (ls' := [some (.ref 0), some (.int a1)]) (st' := [(.int a1), (.ref 20)]) (μ' := μ) rfl ?_
  refine XB.cp rfl rfl rfl (yCa_knows_ok a1 μ) ?_
  refine XB.ifz (P := ¬ (yCa_knows a1 μ) = (0 : Int32)) rfl rfl rfl (fun c8 => ?_) (fun c8 => ?_)
  · exact XB.fin rfl
  · exact XB.thw rfl (fun f => rfl)
/-- LogServer$Calls.outcomeOf(I)I -/
def yCa_outcomeOf (a1 : Int32) (μ : XMu) : XRes := xgd (xin (yCa_slotOf a1) 32) (some (.inl (some (.int (μ.2.1 24 ((yCa_slotOf a1)).toNatClampNeg))), μ))
theorem yCa_outcomeOf_ok {L : Nat} {xs : Nat → Int32} (a1 : Int32) (μ : XMu) : XB L xs 150 0 [some (.ref 20), some (.int a1)] [] μ (yCa_outcomeOf a1 μ) := by
  unfold yCa_outcomeOf
  refine XB.go 3 (pc' := 5) (ls' := [some (.ref 20), some (.int a1)]) (st' := [(.int a1), (.ref 24)]) (μ' := μ) rfl ?_
  refine XB.cp rfl rfl rfl (yCa_slotOf_ok a1 μ) ?_
  refine XB.gd (pc' := 9) (ls' := [some (.ref 20), some (.int a1)]) (st' := [(.int (μ.2.1 24 ((yCa_slotOf a1)).toNatClampNeg))]) (μ' := μ) rfl rfl rfl (fun hb => xbT hb) ?_
  exact XB.fin rfl
/-- LogServer.call(I)I -/
def yC_call (a1 : Int32) (μ : XMu) : XRes := xbv (yC_checkCall a1 μ) (fun m1 => xbi (yCa_outcomeOf a1 m1) (fun r3 m2 => some (.inl (some (.int r3)), m2)))
theorem yC_call_ok {L : Nat} {xs : Nat → Int32} (a1 : Int32) (μ : XMu) : XB L xs 151 0 [some (.ref 0), some (.int a1)] [] μ (yC_call a1 μ) := by
  unfold yC_call
  refine XB.go 2 (pc' := 2) (ls' := [some (.ref 0), some (.int a1)]) (st' := [(.int a1), (.ref 0)]) (μ' := μ) rfl ?_
  refine XB.cv rfl rfl rfl rfl rfl (yC_checkCall_ok a1 μ) (fun m1 => ?_)
  refine XB.go 3 (pc' := 10) (ls' := [some (.ref 0), some (.int a1)]) (st' := [(.int a1), (.ref 20)]) (μ' := m1) rfl ?_
  refine XB.ci rfl rfl rfl rfl rfl (yCa_outcomeOf_ok a1 m1) (fun r3 m2 => ?_)
  exact XB.fin rfl
/-- LogServer$Calls.targetOf(I)I -/
def yCa_targetOf (a1 : Int32) (μ : XMu) : XRes := xgd (xin (yCa_slotOf a1) 32) (some (.inl (some (.int (μ.2.1 22 ((yCa_slotOf a1)).toNatClampNeg))), μ))
theorem yCa_targetOf_ok {L : Nat} {xs : Nat → Int32} (a1 : Int32) (μ : XMu) : XB L xs 153 0 [some (.ref 20), some (.int a1)] [] μ (yCa_targetOf a1 μ) := by
  unfold yCa_targetOf
  refine XB.go 3 (pc' := 5) (ls' := [some (.ref 20), some (.int a1)]) (st' := [(.int a1), (.ref 22)]) (μ' := μ) rfl ?_
  refine XB.cp rfl rfl rfl (yCa_slotOf_ok a1 μ) ?_
  refine XB.gd (pc' := 9) (ls' := [some (.ref 20), some (.int a1)]) (st' := [(.int (μ.2.1 22 ((yCa_slotOf a1)).toNatClampNeg))]) (μ' := μ) rfl rfl rfl (fun hb => xbT hb) ?_
  exact XB.fin rfl
/-- LogServer.callFor(I)I -/
def yC_callFor (a1 : Int32) (μ : XMu) : XRes := xbv (yC_checkCall a1 μ) (fun m1 => xbi (yCa_targetOf a1 m1) (fun r3 m2 => some (.inl (some (.int r3)), m2)))
theorem yC_callFor_ok {L : Nat} {xs : Nat → Int32} (a1 : Int32) (μ : XMu) : XB L xs 154 0 [some (.ref 0), some (.int a1)] [] μ (yC_callFor a1 μ) := by
  unfold yC_callFor
  refine XB.go 2 (pc' := 2) (ls' := [some (.ref 0), some (.int a1)]) (st' := [(.int a1), (.ref 0)]) (μ' := μ) rfl ?_
  refine XB.cv rfl rfl rfl rfl rfl (yC_checkCall_ok a1 μ) (fun m1 => ?_)
  refine XB.go 3 (pc' := 10) (ls' := [some (.ref 0), some (.int a1)]) (st' := [(.int a1), (.ref 20)]) (μ' := m1) rfl ?_
  refine XB.ci rfl rfl rfl rfl rfl (yCa_targetOf_ok a1 m1) (fun r3 m2 => ?_)
  exact XB.fin rfl
