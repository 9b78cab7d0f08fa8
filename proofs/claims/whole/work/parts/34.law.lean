set_option maxRecDepth 16384 in
theorem XB.scr {L : Nat} {xs : Nat → Int32} {y pc : Nat} {ls : List (Option Value)} {st : List Value} {μ : XMu} {e : XRes} {i : Int32} (hq : xf (xcode y) pc = some (.iaload, 1, (0, 0, 0, 0), 0, 0)) (k : XB L xs y (pc + 1) ls (.int (xs i.toNatClampNeg) :: st) μ e) : XB L xs y pc ls (.int i :: .ref 1000 :: st) μ (xgd (xin i L) e) := by
  refine XB.gd hq rfl rfl (fun hb => ?_) k
  show (bif xin i L then some (pc + 1, ls, .int (xs i.toNatClampNeg) :: st, (57, 54, μ)) else none) = _
  exact xbT hb
/-- LogServerLaw.tick(LLogServer;I[J)I -/
def yW_tick (a1 : Int32) (μ : XMu) : XRes := xci (xhand (xmH 82) 4) (yC_tick a1 μ) (fun r2 m1 => (if r2 = (0 : Int32) then some (.inl (some (.int (0 : Int32))), (m1.1, m1.2.1, (xuL m1.2.2 56 0 (0 : Int64)))) else some (.inl (some (.int (0 : Int32))), (m1.1, m1.2.1, (xuL m1.2.2 56 0 (1 : Int64))))))
theorem yW_tick_ok {L : Nat} {xs : Nat → Int32} (a1 : Int32) (μ : XMu) : XB L xs 82 0 [some (.ref 0), some (.int a1), some (.ref 56), none] [] μ (yW_tick a1 μ) := by
  unfold yW_tick
  refine XB.go 4 (pc' := 4) (ls' := [some (.ref 0), some (.int a1), some (.ref 56), none]) (st' := [(.int a1), (.ref 0), (.int (0 : Int32)), (.ref 56)]) (μ' := μ) rfl ?_
  refine XB.xi rfl rfl rfl rfl (yC_tick_ok a1 μ) (fun r2 m1 => ?_)
  refine XB.ifz (P := r2 = (0 : Int32)) rfl rfl rfl (fun c7 => ?_) (fun c7 => ?_)
  · refine XB.go 4 (pc' := 23) (ls' := [some (.ref 0), some (.int a1), some (.ref 56), none]) (st' := [(.int (0 : Int32))]) (μ' := (m1.1, m1.2.1, (xuL m1.2.2 56 0 (0 : Int64)))) rfl ?_
    exact XB.fin rfl
  · refine XB.go 5 (pc' := 23) (ls' := [some (.ref 0), some (.int a1), some (.ref 56), none]) (st' := [(.int (0 : Int32))]) (μ' := (m1.1, m1.2.1, (xuL m1.2.2 56 0 (1 : Int64)))) rfl ?_
    exact XB.fin rfl
/-- LogServerLaw.preask(LLogServer;IIII)I -/
def yW_preask (a1 : Int32) (a2 : Int32) (a3 : Int32) (a4 : Int32) (μ : XMu) : XRes := xcv (xhand (xmH 87) 6) (yC_preask a1 a2 a3 a4 μ) (fun m1 => some (.inl (some (.int (0 : Int32))), m1))
theorem yW_preask_ok {L : Nat} {xs : Nat → Int32} (a1 : Int32) (a2 : Int32) (a3 : Int32) (a4 : Int32) (μ : XMu) : XB L xs 87 0 [some (.ref 0), some (.int a1), some (.int a2), some (.int a3), some (.int a4), none] [] μ (yW_preask a1 a2 a3 a4 μ) := by
  unfold yW_preask
  refine XB.go 5 (pc' := 6) (ls' := [some (.ref 0), some (.int a1), some (.int a2), some (.int a3), some (.int a4), none]) (st' := [(.int a4), (.int a3), (.int a2), (.int a1), (.ref 0)]) (μ' := μ) rfl ?_
  refine XB.xv rfl rfl rfl rfl (yC_preask_ok a1 a2 a3 a4 μ) (fun m1 => ?_)
  refine XB.go 2 (pc' := 21) (ls' := [some (.ref 0), some (.int a1), some (.int a2), some (.int a3), some (.int a4), none]) (st' := [(.int (0 : Int32))]) (μ' := m1) rfl ?_
  exact XB.fin rfl
/-- LogServerLaw.preanswer(LLogServer;IIZ)I -/
def yW_preanswer (a1 : Int32) (a2 : Int32) (a3 : Int32) (μ : XMu) : XRes := xcv (xhand (xmH 90) 4) (yC_preanswer a1 a2 a3 μ) (fun m1 => some (.inl (some (.int (0 : Int32))), m1))
theorem yW_preanswer_ok {L : Nat} {xs : Nat → Int32} (a1 : Int32) (a2 : Int32) (a3 : Int32) (μ : XMu) : XB L xs 90 0 [some (.ref 0), some (.int a1), some (.int a2), some (.int a3), none] [] μ (yW_preanswer a1 a2 a3 μ) := by
  unfold yW_preanswer
  refine XB.go 4 (pc' := 4) (ls' := [some (.ref 0), some (.int a1), some (.int a2), some (.int a3), none]) (st' := [(.int a3), (.int a2), (.int a1), (.ref 0)]) (μ' := μ) rfl ?_
  refine XB.xv rfl rfl rfl rfl (yC_preanswer_ok a1 a2 a3 μ) (fun m1 => ?_)
  refine XB.go 2 (pc' := 19) (ls' := [some (.ref 0), some (.int a1), some (.int a2), some (.int a3), none]) (st' := [(.int (0 : Int32))]) (μ' := m1) rfl ?_
  exact XB.fin rfl
/-- LogServerLaw.ask(LLogServer;IIII)I -/
def yW_ask (a1 : Int32) (a2 : Int32) (a3 : Int32) (a4 : Int32) (μ : XMu) : XRes := xcv (xhand (xmH 92) 6) (yC_ask a1 a2 a3 a4 μ) (fun m1 => some (.inl (some (.int (0 : Int32))), m1))
theorem yW_ask_ok {L : Nat} {xs : Nat → Int32} (a1 : Int32) (a2 : Int32) (a3 : Int32) (a4 : Int32) (μ : XMu) : XB L xs 92 0 [some (.ref 0), some (.int a1), some (.int a2), some (.int a3), some (.int a4), none] [] μ (yW_ask a1 a2 a3 a4 μ) := by
  unfold yW_ask
  refine XB.go 5 (pc' := 6) (ls' := [some (.ref 0), some (.int a1), some (.int a2), some (.int a3), some (.int a4), none]) (st' := [(.int a4), (.int a3), (.int a2), (.int a1), (.ref 0)]) (μ' := μ) rfl ?_
  refine XB.xv rfl rfl rfl rfl (yC_ask_ok a1 a2 a3 a4 μ) (fun m1 => ?_)
  refine XB.go 2 (pc' := 21) (ls' := [some (.ref 0), some (.int a1), some (.int a2), some (.int a3), some (.int a4), none]) (st' := [(.int (0 : Int32))]) (μ' := m1) rfl ?_
  exact XB.fin rfl
/-- LogServerLaw.answer(LLogServer;IIZ)I -/
def yW_answer (a1 : Int32) (a2 : Int32) (a3 : Int32) (μ : XMu) : XRes := xcv (xhand (xmH 94) 4) (yC_answer a1 a2 a3 μ) (fun m1 => some (.inl (some (.int (0 : Int32))), m1))
theorem yW_answer_ok {L : Nat} {xs : Nat → Int32} (a1 : Int32) (a2 : Int32) (a3 : Int32) (μ : XMu) : XB L xs 94 0 [some (.ref 0), some (.int a1), some (.int a2), some (.int a3), none] [] μ (yW_answer a1 a2 a3 μ) := by
  unfold yW_answer
  refine XB.go 4 (pc' := 4) (ls' := [some (.ref 0), some (.int a1), some (.int a2), some (.int a3), none]) (st' := [(.int a3), (.int a2), (.int a1), (.ref 0)]) (μ' := μ) rfl ?_
  refine XB.xv rfl rfl rfl rfl (yC_answer_ok a1 a2 a3 μ) (fun m1 => ?_)
  refine XB.go 2 (pc' := 19) (ls' := [some (.ref 0), some (.int a1), some (.int a2), some (.int a3), none]) (st' := [(.int (0 : Int32))]) (μ' := m1) rfl ?_
  exact XB.fin rfl
/-- LogServerLaw.entry(LLogServer;III[J)I -/
def yW_entry (a1 : Int32) (a2 : Int32) (a3 : Int32) (μ : XMu) : XRes := xci (xhand (xmH 98) 7) (yC_entry a1 a2 a3 μ) (fun r2 m1 => some (.inl (some (.int (0 : Int32))), (m1.1, m1.2.1, (xuL m1.2.2 56 0 (r2).toInt64))))
theorem yW_entry_ok {L : Nat} {xs : Nat → Int32} (a1 : Int32) (a2 : Int32) (a3 : Int32) (μ : XMu) : XB L xs 98 0 [some (.ref 0), some (.int a1), some (.int a2), some (.int a3), some (.ref 56), none] [] μ (yW_entry a1 a2 a3 μ) := by
  unfold yW_entry
  refine XB.go 6 (pc' := 7) (ls' := [some (.ref 0), some (.int a1), some (.int a2), some (.int a3), some (.ref 56), none]) (st' := [(.int a3), (.int a2), (.int a1), (.ref 0), (.int (0 : Int32)), (.ref 56)]) (μ' := μ) rfl ?_
  refine XB.xi rfl rfl rfl rfl (yC_entry_ok a1 a2 a3 μ) (fun r2 m1 => ?_)
  refine XB.go 4 (pc' := 24) (ls' := [some (.ref 0), some (.int a1), some (.int a2), some (.int a3), some (.ref 56), none]) (st' := [(.int (0 : Int32))]) (μ' := (m1.1, m1.2.1, (xuL m1.2.2 56 0 (r2).toInt64))) rfl ?_
  exact XB.fin rfl
/-- LogServerLaw.append(LLogServer;IIIIII)I -/
def yW_append (a1 : Int32) (a2 : Int32) (a3 : Int32) (a4 : Int32) (a5 : Int32) (a6 : Int32) (μ : XMu) : XRes := xcv (xhand (xmH 112) 10) (yC_append a1 a2 a3 a4 a5 a6 μ) (fun m1 => some (.inl (some (.int (0 : Int32))), m1))
theorem yW_append_ok {L : Nat} {xs : Nat → Int32} (a1 : Int32) (a2 : Int32) (a3 : Int32) (a4 : Int32) (a5 : Int32) (a6 : Int32) (μ : XMu) : XB L xs 112 0 [some (.ref 0), some (.int a1), some (.int a2), some (.int a3), some (.int a4), some (.int a5), some (.int a6), none] [] μ (yW_append a1 a2 a3 a4 a5 a6 μ) := by
  unfold yW_append
  refine XB.go 7 (pc' := 10) (ls' := [some (.ref 0), some (.int a1), some (.int a2), some (.int a3), some (.int a4), some (.int a5), some (.int a6), none]) (st' := [(.int a6), (.int a5), (.int a4), (.int a3), (.int a2), (.int a1), (.ref 0)]) (μ' := μ) rfl ?_
  refine XB.xv rfl rfl rfl rfl (yC_append_ok a1 a2 a3 a4 a5 a6 μ) (fun m1 => ?_)
  refine XB.go 2 (pc' := 25) (ls' := [some (.ref 0), some (.int a1), some (.int a2), some (.int a3), some (.int a4), some (.int a5), some (.int a6), none]) (st' := [(.int (0 : Int32))]) (μ' := m1) rfl ?_
  exact XB.fin rfl
/-- LogServerLaw.appended(LLogServer;IIZII)I -/
def yW_appended (a1 : Int32) (a2 : Int32) (a3 : Int32) (a4 : Int32) (a5 : Int32) (μ : XMu) : XRes := xcv (xhand (xmH 119) 8) (yC_appended a1 a2 a3 a4 a5 μ) (fun m1 => some (.inl (some (.int (0 : Int32))), m1))
theorem yW_appended_ok {L : Nat} {xs : Nat → Int32} (a1 : Int32) (a2 : Int32) (a3 : Int32) (a4 : Int32) (a5 : Int32) (μ : XMu) : XB L xs 119 0 [some (.ref 0), some (.int a1), some (.int a2), some (.int a3), some (.int a4), some (.int a5), none] [] μ (yW_appended a1 a2 a3 a4 a5 μ) := by
  unfold yW_appended
  refine XB.go 6 (pc' := 8) (ls' := [some (.ref 0), some (.int a1), some (.int a2), some (.int a3), some (.int a4), some (.int a5), none]) (st' := [(.int a5), (.int a4), (.int a3), (.int a2), (.int a1), (.ref 0)]) (μ' := μ) rfl ?_
  refine XB.xv rfl rfl rfl rfl (yC_appended_ok a1 a2 a3 a4 a5 μ) (fun m1 => ?_)
  refine XB.go 2 (pc' := 23) (ls' := [some (.ref 0), some (.int a1), some (.int a2), some (.int a3), some (.int a4), some (.int a5), none]) (st' := [(.int (0 : Int32))]) (μ' := m1) rfl ?_
  exact XB.fin rfl
/-- LogServerLaw.describe(LLogServer;IIII)I -/
def yW_describe (a1 : Int32) (a2 : Int32) (a3 : Int32) (a4 : Int32) (μ : XMu) : XRes := xcv (xhand (xmH 122) 6) (yC_describe a1 a2 a3 a4 μ) (fun m1 => some (.inl (some (.int (0 : Int32))), m1))
theorem yW_describe_ok {L : Nat} {xs : Nat → Int32} (a1 : Int32) (a2 : Int32) (a3 : Int32) (a4 : Int32) (μ : XMu) : XB L xs 122 0 [some (.ref 0), some (.int a1), some (.int a2), some (.int a3), some (.int a4), none] [] μ (yW_describe a1 a2 a3 a4 μ) := by
  unfold yW_describe
  refine XB.go 5 (pc' := 6) (ls' := [some (.ref 0), some (.int a1), some (.int a2), some (.int a3), some (.int a4), none]) (st' := [(.int a4), (.int a3), (.int a2), (.int a1), (.ref 0)]) (μ' := μ) rfl ?_
  refine XB.xv rfl rfl rfl rfl (yC_describe_ok a1 a2 a3 a4 μ) (fun m1 => ?_)
  refine XB.go 2 (pc' := 17) (ls' := [some (.ref 0), some (.int a1), some (.int a2), some (.int a3), some (.int a4), none]) (st' := [(.int (0 : Int32))]) (μ' := m1) rfl ?_
  exact XB.fin rfl
/-- LogServerLaw.piece(LLogServer;IIIII)I -/
def yW_piece (a1 : Int32) (a2 : Int32) (a3 : Int32) (a4 : Int32) (a5 : Int32) (μ : XMu) : XRes := xcv (xhand (xmH 127) 8) (yC_piece a1 a2 a3 a4 a5 μ) (fun m1 => some (.inl (some (.int (0 : Int32))), m1))
theorem yW_piece_ok {L : Nat} {xs : Nat → Int32} (a1 : Int32) (a2 : Int32) (a3 : Int32) (a4 : Int32) (a5 : Int32) (μ : XMu) : XB L xs 127 0 [some (.ref 0), some (.int a1), some (.int a2), some (.int a3), some (.int a4), some (.int a5), none] [] μ (yW_piece a1 a2 a3 a4 a5 μ) := by
  unfold yW_piece
  refine XB.go 6 (pc' := 8) (ls' := [some (.ref 0), some (.int a1), some (.int a2), some (.int a3), some (.int a4), some (.int a5), none]) (st' := [(.int a5), (.int a4), (.int a3), (.int a2), (.int a1), (.ref 0)]) (μ' := μ) rfl ?_
  refine XB.xv rfl rfl rfl rfl (yC_piece_ok a1 a2 a3 a4 a5 μ) (fun m1 => ?_)
  refine XB.go 2 (pc' := 23) (ls' := [some (.ref 0), some (.int a1), some (.int a2), some (.int a3), some (.int a4), some (.int a5), none]) (st' := [(.int (0 : Int32))]) (μ' := m1) rfl ?_
  exact XB.fin rfl
/-- LogServerLaw.stored(LLogServer;IIIII)I -/
def yW_stored (a1 : Int32) (a2 : Int32) (a3 : Int32) (a4 : Int32) (a5 : Int32) (μ : XMu) : XRes := xcv (xhand (xmH 130) 8) (yC_stored a1 a2 a3 a4 a5 μ) (fun m1 => some (.inl (some (.int (0 : Int32))), m1))
theorem yW_stored_ok {L : Nat} {xs : Nat → Int32} (a1 : Int32) (a2 : Int32) (a3 : Int32) (a4 : Int32) (a5 : Int32) (μ : XMu) : XB L xs 130 0 [some (.ref 0), some (.int a1), some (.int a2), some (.int a3), some (.int a4), some (.int a5), none] [] μ (yW_stored a1 a2 a3 a4 a5 μ) := by
  unfold yW_stored
  refine XB.go 6 (pc' := 8) (ls' := [some (.ref 0), some (.int a1), some (.int a2), some (.int a3), some (.int a4), some (.int a5), none]) (st' := [(.int a5), (.int a4), (.int a3), (.int a2), (.int a1), (.ref 0)]) (μ' := μ) rfl ?_
  refine XB.xv rfl rfl rfl rfl (yC_stored_ok a1 a2 a3 a4 a5 μ) (fun m1 => ?_)
  refine XB.go 2 (pc' := 23) (ls' := [some (.ref 0), some (.int a1), some (.int a2), some (.int a3), some (.int a4), some (.int a5), none]) (st' := [(.int (0 : Int32))]) (μ' := m1) rfl ?_
  exact XB.fin rfl
/-- LogServerLaw.go(LLogServer;II)I -/
def yW_go (a1 : Int32) (a2 : Int32) (μ : XMu) : XRes := xcv (xhand (xmH 132) 3) (yC_go a1 a2 μ) (fun m1 => some (.inl (some (.int (0 : Int32))), m1))
theorem yW_go_ok {L : Nat} {xs : Nat → Int32} (a1 : Int32) (a2 : Int32) (μ : XMu) : XB L xs 132 0 [some (.ref 0), some (.int a1), some (.int a2), none] [] μ (yW_go a1 a2 μ) := by
  unfold yW_go
  refine XB.go 3 (pc' := 3) (ls' := [some (.ref 0), some (.int a1), some (.int a2), none]) (st' := [(.int a2), (.int a1), (.ref 0)]) (μ' := μ) rfl ?_
  refine XB.xv rfl rfl rfl rfl (yC_go_ok a1 a2 μ) (fun m1 => ?_)
  refine XB.go 2 (pc' := 16) (ls' := [some (.ref 0), some (.int a1), some (.int a2), none]) (st' := [(.int (0 : Int32))]) (μ' := m1) rfl ?_
  exact XB.fin rfl
/-- LogServerLaw.state(LLogServer;I[J)I -/
def yW_state (a1 : Int32) (μ : XMu) : XRes := xci (xhand (xmH 134) 4) (yC_state a1 μ) (fun r2 m1 => some (.inl (some (.int (0 : Int32))), (m1.1, m1.2.1, (xuL m1.2.2 56 0 (r2).toInt64))))
theorem yW_state_ok {L : Nat} {xs : Nat → Int32} (a1 : Int32) (μ : XMu) : XB L xs 134 0 [some (.ref 0), some (.int a1), some (.ref 56), none] [] μ (yW_state a1 μ) := by
  unfold yW_state
  refine XB.go 4 (pc' := 4) (ls' := [some (.ref 0), some (.int a1), some (.ref 56), none]) (st' := [(.int a1), (.ref 0), (.int (0 : Int32)), (.ref 56)]) (μ' := μ) rfl ?_
  refine XB.xi rfl rfl rfl rfl (yC_state_ok a1 μ) (fun r2 m1 => ?_)
  refine XB.go 4 (pc' := 16) (ls' := [some (.ref 0), some (.int a1), some (.ref 56), none]) (st' := [(.int (0 : Int32))]) (μ' := (m1.1, m1.2.1, (xuL m1.2.2 56 0 (r2).toInt64))) rfl ?_
  exact XB.fin rfl
/-- LogServerLaw.log(LLogServer;II[J)I -/
def yW_log (a1 : Int32) (a2 : Int32) (μ : XMu) : XRes := xci (xhand (xmH 136) 5) (yC_log a1 a2 μ) (fun r2 m1 => some (.inl (some (.int (0 : Int32))), (m1.1, m1.2.1, (xuL m1.2.2 56 0 (r2).toInt64))))
theorem yW_log_ok {L : Nat} {xs : Nat → Int32} (a1 : Int32) (a2 : Int32) (μ : XMu) : XB L xs 136 0 [some (.ref 0), some (.int a1), some (.int a2), some (.ref 56), none] [] μ (yW_log a1 a2 μ) := by
  unfold yW_log
  refine XB.go 5 (pc' := 5) (ls' := [some (.ref 0), some (.int a1), some (.int a2), some (.ref 56), none]) (st' := [(.int a2), (.int a1), (.ref 0), (.int (0 : Int32)), (.ref 56)]) (μ' := μ) rfl ?_
  refine XB.xi rfl rfl rfl rfl (yC_log_ok a1 a2 μ) (fun r2 m1 => ?_)
  refine XB.go 4 (pc' := 18) (ls' := [some (.ref 0), some (.int a1), some (.int a2), some (.ref 56), none]) (st' := [(.int (0 : Int32))]) (μ' := (m1.1, m1.2.1, (xuL m1.2.2 56 0 (r2).toInt64))) rfl ?_
  exact XB.fin rfl
/-- LogServerLaw.peer(LLogServer;II[J)I -/
def yW_peer (a1 : Int32) (a2 : Int32) (μ : XMu) : XRes := xci (xhand (xmH 138) 5) (yC_peer a1 a2 μ) (fun r2 m1 => some (.inl (some (.int (0 : Int32))), (m1.1, m1.2.1, (xuL m1.2.2 56 0 (r2).toInt64))))
theorem yW_peer_ok {L : Nat} {xs : Nat → Int32} (a1 : Int32) (a2 : Int32) (μ : XMu) : XB L xs 138 0 [some (.ref 0), some (.int a1), some (.int a2), some (.ref 56), none] [] μ (yW_peer a1 a2 μ) := by
  unfold yW_peer
  refine XB.go 5 (pc' := 5) (ls' := [some (.ref 0), some (.int a1), some (.int a2), some (.ref 56), none]) (st' := [(.int a2), (.int a1), (.ref 0), (.int (0 : Int32)), (.ref 56)]) (μ' := μ) rfl ?_
  refine XB.xi rfl rfl rfl rfl (yC_peer_ok a1 a2 μ) (fun r2 m1 => ?_)
  refine XB.go 4 (pc' := 18) (ls' := [some (.ref 0), some (.int a1), some (.int a2), some (.ref 56), none]) (st' := [(.int (0 : Int32))]) (μ' := (m1.1, m1.2.1, (xuL m1.2.2 56 0 (r2).toInt64))) rfl ?_
  exact XB.fin rfl
/-- LogServerLaw.letter(LLogServer;II[J)I -/
def yW_letter (a1 : Int32) (a2 : Int32) (μ : XMu) : XRes := xci (xhand (xmH 142) 5) (yC_letter a1 a2 μ) (fun r2 m1 => some (.inl (some (.int (0 : Int32))), (m1.1, m1.2.1, (xuL m1.2.2 56 0 (r2).toInt64))))
theorem yW_letter_ok {L : Nat} {xs : Nat → Int32} (a1 : Int32) (a2 : Int32) (μ : XMu) : XB L xs 142 0 [some (.ref 0), some (.int a1), some (.int a2), some (.ref 56), none] [] μ (yW_letter a1 a2 μ) := by
  unfold yW_letter
  refine XB.go 5 (pc' := 5) (ls' := [some (.ref 0), some (.int a1), some (.int a2), some (.ref 56), none]) (st' := [(.int a2), (.int a1), (.ref 0), (.int (0 : Int32)), (.ref 56)]) (μ' := μ) rfl ?_
  refine XB.xi rfl rfl rfl rfl (yC_letter_ok a1 a2 μ) (fun r2 m1 => ?_)
  refine XB.go 4 (pc' := 18) (ls' := [some (.ref 0), some (.int a1), some (.int a2), some (.ref 56), none]) (st' := [(.int (0 : Int32))]) (μ' := (m1.1, m1.2.1, (xuL m1.2.2 56 0 (r2).toInt64))) rfl ?_
  exact XB.fin rfl
/-- LogServerLaw.done(LLogServer;II[J)I -/
def yW_done (a1 : Int32) (a2 : Int32) (μ : XMu) : XRes := xci (xhand (xmH 147) 5) (yC_done a1 a2 μ) (fun r2 m1 => some (.inl (some (.int (0 : Int32))), (m1.1, m1.2.1, (xuL m1.2.2 56 0 (r2).toInt64))))
theorem yW_done_ok {L : Nat} {xs : Nat → Int32} (a1 : Int32) (a2 : Int32) (μ : XMu) : XB L xs 147 0 [some (.ref 0), some (.int a1), some (.int a2), some (.ref 56), none] [] μ (yW_done a1 a2 μ) := by
  unfold yW_done
  refine XB.go 5 (pc' := 5) (ls' := [some (.ref 0), some (.int a1), some (.int a2), some (.ref 56), none]) (st' := [(.int a2), (.int a1), (.ref 0), (.int (0 : Int32)), (.ref 56)]) (μ' := μ) rfl ?_
  refine XB.xi rfl rfl rfl rfl (yC_done_ok a1 a2 μ) (fun r2 m1 => ?_)
  refine XB.go 4 (pc' := 18) (ls' := [some (.ref 0), some (.int a1), some (.int a2), some (.ref 56), none]) (st' := [(.int (0 : Int32))]) (μ' := (m1.1, m1.2.1, (xuL m1.2.2 56 0 (r2).toInt64))) rfl ?_
  exact XB.fin rfl
/-- LogServerLaw.call(LLogServer;I[J)I -/
def yW_call (a1 : Int32) (μ : XMu) : XRes := xci (xhand (xmH 152) 4) (yC_call a1 μ) (fun r2 m1 => some (.inl (some (.int (0 : Int32))), (m1.1, m1.2.1, (xuL m1.2.2 56 0 (r2).toInt64))))
theorem yW_call_ok {L : Nat} {xs : Nat → Int32} (a1 : Int32) (μ : XMu) : XB L xs 152 0 [some (.ref 0), some (.int a1), some (.ref 56), none] [] μ (yW_call a1 μ) := by
  unfold yW_call
  refine XB.go 4 (pc' := 4) (ls' := [some (.ref 0), some (.int a1), some (.ref 56), none]) (st' := [(.int a1), (.ref 0), (.int (0 : Int32)), (.ref 56)]) (μ' := μ) rfl ?_
  refine XB.xi rfl rfl rfl rfl (yC_call_ok a1 μ) (fun r2 m1 => ?_)
  refine XB.go 4 (pc' := 16) (ls' := [some (.ref 0), some (.int a1), some (.ref 56), none]) (st' := [(.int (0 : Int32))]) (μ' := (m1.1, m1.2.1, (xuL m1.2.2 56 0 (r2).toInt64))) rfl ?_
  exact XB.fin rfl
/-- LogServerLaw.callFor(LLogServer;I[J)I -/
def yW_callFor (a1 : Int32) (μ : XMu) : XRes := xci (xhand (xmH 155) 4) (yC_callFor a1 μ) (fun r2 m1 => some (.inl (some (.int (0 : Int32))), (m1.1, m1.2.1, (xuL m1.2.2 56 0 (r2).toInt64))))
theorem yW_callFor_ok {L : Nat} {xs : Nat → Int32} (a1 : Int32) (μ : XMu) : XB L xs 155 0 [some (.ref 0), some (.int a1), some (.ref 56), none] [] μ (yW_callFor a1 μ) := by
  unfold yW_callFor
  refine XB.go 4 (pc' := 4) (ls' := [some (.ref 0), some (.int a1), some (.ref 56), none]) (st' := [(.int a1), (.ref 0), (.int (0 : Int32)), (.ref 56)]) (μ' := μ) rfl ?_
  refine XB.xi rfl rfl rfl rfl (yC_callFor_ok a1 μ) (fun r2 m1 => ?_)
  refine XB.go 4 (pc' := 16) (ls' := [some (.ref 0), some (.int a1), some (.ref 56), none]) (st' := [(.int (0 : Int32))]) (μ' := (m1.1, m1.2.1, (xuL m1.2.2 56 0 (r2).toInt64))) rfl ?_
  exact XB.fin rfl
/-! the law, from its loop on -/
set_option maxRecDepth 16384 in
def xl_55 : List XE := [(55, .iload 4, 2, (0, 0, 0, 0), 0, 0), (57, .aload_n 0, 1, (0, 0, 0, 0), 0, 0), (58, .arraylength, 1, (0, 0, 0, 0), 0, 0), (59, .bipush 7, 2, (0, 0, 0, 0), 7, 0), (61, .isub, 1, (0, 0, 0, 0), 0, 0), (62, .if_icmp .gt 1667, 3, (1729, 0, 0, 0), 0, 0), (65, .aload_n 0, 1, (0, 0, 0, 0), 0, 0), (66, .iload 4, 2, (0, 0, 0, 0), 0, 0), (68, .iaload, 1, (0, 0, 0, 0), 0, 0), (69, .bipush 31, 2, (0, 0, 0, 0), 31, 0), (71, .iand, 1, (0, 0, 0, 0), 0, 0), (72, .tableswitch 1651 0 26 #[124, 187, 259, 335, 407, 483, 563, 661, 761, 833, 917, 1001, 1049, 1062, 1087, 1100, 1125, 1150, 1175, 1200, 1211, 1267, 1335, 1403, 1471, 1539, 1595], 124, (0, 0, 0, 0), 0, 0)]
set_option maxRecDepth 16384 in
theorem xl_55_s : xp_235 = xp_235.take 33 ++ (xl_55 ++ xp_235.drop 45) := rfl
set_option maxRecDepth 16384 in
theorem xl_55_a : (xp_235.take 33).all (fun q => Nat.blt q.1 55) = true := by decide +kernel
set_option maxRecDepth 16384 in
theorem xl_55_ok {pc : Nat} {q : XI} (h : xf xl_55 pc = some q) (hl : Nat.ble 55 pc = true) : xf (xcode 235) pc = some q := by
  rw [xl_code, xl_55_s]
  exact xf_mid xl_55_a hl h
set_option maxRecDepth 16384 in
def xl_196 : List XE := [(196, .aload_n 1, 1, (0, 0, 0, 0), 0, 0), (197, .aload_n 0, 1, (0, 0, 0, 0), 0, 0), (198, .iload 4, 2, (0, 0, 0, 0), 0, 0), (200, .iconst 1, 1, (0, 0, 0, 0), 1, 0), (201, .iadd, 1, (0, 0, 0, 0), 0, 0), (202, .iaload, 1, (0, 0, 0, 0), 0, 0), (203, .aload_n 3, 1, (0, 0, 0, 0), 0, 0), (204, .invokestatic 94, 3, (82, 3, 1, 670), 0, 0), (207, .istore 5, 2, (0, 0, 0, 0), 0, 0), (209, .aload_n 2, 1, (0, 0, 0, 0), 0, 0), (210, .aload_n 0, 1, (0, 0, 0, 0), 0, 0), (211, .iload 4, 2, (0, 0, 0, 0), 0, 0), (213, .iconst 1, 1, (0, 0, 0, 0), 1, 0), (214, .iadd, 1, (0, 0, 0, 0), 0, 0), (215, .iaload, 1, (0, 0, 0, 0), 0, 0), (216, .invokevirtual 97, 3, (190, 2, 0, 1298), 0, 0), (219, .istore 6, 2, (0, 0, 0, 0), 0, 0), (221, .aload_n 2, 1, (0, 0, 0, 0), 0, 0), (222, .invokevirtual 98, 3, (158, 1, 0, 1294), 0, 0), (225, .iload 5, 2, (0, 0, 0, 0), 0, 0), (227, .if_icmp .eq 5, 3, (232, 0, 0, 0), 0, 0), (230, .iconst 0, 1, (0, 0, 0, 0), 0, 0), (231, .ireturn, 1, (0, 0, 0, 0), 0, 0), (232, .iload 5, 2, (0, 0, 0, 0), 0, 0), (234, .ifCond .ne 22, 3, (256, 0, 0, 0), 0, 0), (237, .aload_n 3, 1, (0, 0, 0, 0), 0, 0), (238, .iconst 0, 1, (0, 0, 0, 0), 0, 0), (239, .laload, 1, (0, 0, 0, 0), 0, 0), (240, .iload 6, 2, (0, 0, 0, 0), 0, 0), (242, .ifCond .eq 7, 3, (249, 0, 0, 0), 0, 0), (245, .lconst 1, 1, (0, 0, 0, 0), 0, 1), (246, .goto 4, 3, (250, 0, 0, 0), 0, 0), (249, .lconst 0, 1, (0, 0, 0, 0), 0, 0), (250, .lcmp, 1, (0, 0, 0, 0), 0, 0), (251, .ifCond .eq 5, 3, (256, 0, 0, 0), 0, 0), (254, .iconst 0, 1, (0, 0, 0, 0), 0, 0), (255, .ireturn, 1, (0, 0, 0, 0), 0, 0), (256, .goto 1467, 3, (1723, 0, 0, 0), 0, 0)]
set_option maxRecDepth 16384 in
theorem xl_196_s : xp_235 = xp_235.take 45 ++ (xl_196 ++ xp_235.drop 83) := rfl
set_option maxRecDepth 16384 in
theorem xl_196_a : (xp_235.take 45).all (fun q => Nat.blt q.1 196) = true := by decide +kernel
set_option maxRecDepth 16384 in
theorem xl_196_ok {pc : Nat} {q : XI} (h : xf xl_196 pc = some q) (hl : Nat.ble 196 pc = true) : xf (xcode 235) pc = some q := by
  rw [xl_code, xl_196_s]
  exact xf_mid xl_196_a hl h
set_option maxRecDepth 16384 in
def xl_259 : List XE := [(259, .aload_n 1, 1, (0, 0, 0, 0), 0, 0), (260, .aload_n 0, 1, (0, 0, 0, 0), 0, 0), (261, .iload 4, 2, (0, 0, 0, 0), 0, 0), (263, .iconst 1, 1, (0, 0, 0, 0), 1, 0), (264, .iadd, 1, (0, 0, 0, 0), 0, 0), (265, .iaload, 1, (0, 0, 0, 0), 0, 0), (266, .aload_n 0, 1, (0, 0, 0, 0), 0, 0), (267, .iload 4, 2, (0, 0, 0, 0), 0, 0), (269, .iconst 2, 1, (0, 0, 0, 0), 2, 0), (270, .iadd, 1, (0, 0, 0, 0), 0, 0), (271, .iaload, 1, (0, 0, 0, 0), 0, 0), (272, .aload_n 0, 1, (0, 0, 0, 0), 0, 0), (273, .iload 4, 2, (0, 0, 0, 0), 0, 0), (275, .iconst 3, 1, (0, 0, 0, 0), 3, 0), (276, .iadd, 1, (0, 0, 0, 0), 0, 0), (277, .iaload, 1, (0, 0, 0, 0), 0, 0), (278, .aload_n 0, 1, (0, 0, 0, 0), 0, 0), (279, .iload 4, 2, (0, 0, 0, 0), 0, 0), (281, .iconst 4, 1, (0, 0, 0, 0), 4, 0), (282, .iadd, 1, (0, 0, 0, 0), 0, 0), (283, .iaload, 1, (0, 0, 0, 0), 0, 0), (284, .invokestatic 102, 3, (87, 5, 1, 770), 0, 0), (287, .istore 5, 2, (0, 0, 0, 0), 0, 0), (289, .aload_n 2, 1, (0, 0, 0, 0), 0, 0), (290, .aload_n 0, 1, (0, 0, 0, 0), 0, 0), (291, .iload 4, 2, (0, 0, 0, 0), 0, 0), (293, .iconst 1, 1, (0, 0, 0, 0), 1, 0), (294, .iadd, 1, (0, 0, 0, 0), 0, 0), (295, .iaload, 1, (0, 0, 0, 0), 0, 0), (296, .aload_n 0, 1, (0, 0, 0, 0), 0, 0), (297, .iload 4, 2, (0, 0, 0, 0), 0, 0), (299, .iconst 2, 1, (0, 0, 0, 0), 2, 0), (300, .iadd, 1, (0, 0, 0, 0), 0, 0), (301, .iaload, 1, (0, 0, 0, 0), 0, 0), (302, .aload_n 0, 1, (0, 0, 0, 0), 0, 0), (303, .iload 4, 2, (0, 0, 0, 0), 0, 0), (305, .iconst 3, 1, (0, 0, 0, 0), 3, 0), (306, .iadd, 1, (0, 0, 0, 0), 0, 0), (307, .iaload, 1, (0, 0, 0, 0), 0, 0), (308, .aload_n 0, 1, (0, 0, 0, 0), 0, 0), (309, .iload 4, 2, (0, 0, 0, 0), 0, 0), (311, .iconst 4, 1, (0, 0, 0, 0), 4, 0), (312, .iadd, 1, (0, 0, 0, 0), 0, 0), (313, .iaload, 1, (0, 0, 0, 0), 0, 0), (314, .invokevirtual 105, 3, (200, 5, 0, 1445), 0, 0), (317, .aload_n 2, 1, (0, 0, 0, 0), 0, 0), (318, .invokevirtual 98, 3, (158, 1, 0, 1294), 0, 0), (321, .iload 5, 2, (0, 0, 0, 0), 0, 0), (323, .if_icmp .eq 5, 3, (328, 0, 0, 0), 0, 0), (326, .iconst 0, 1, (0, 0, 0, 0), 0, 0), (327, .ireturn, 1, (0, 0, 0, 0), 0, 0), (328, .goto 1395, 3, (1723, 0, 0, 0), 0, 0)]
set_option maxRecDepth 16384 in
theorem xl_259_s : xp_235 = xp_235.take 83 ++ (xl_259 ++ xp_235.drop 135) := rfl
set_option maxRecDepth 16384 in
theorem xl_259_a : (xp_235.take 83).all (fun q => Nat.blt q.1 259) = true := by decide +kernel
set_option maxRecDepth 16384 in
theorem xl_259_ok {pc : Nat} {q : XI} (h : xf xl_259 pc = some q) (hl : Nat.ble 259 pc = true) : xf (xcode 235) pc = some q := by
  rw [xl_code, xl_259_s]
  exact xf_mid xl_259_a hl h
set_option maxRecDepth 16384 in
def xl_331 : List XE := [(331, .aload_n 1, 1, (0, 0, 0, 0), 0, 0), (332, .aload_n 0, 1, (0, 0, 0, 0), 0, 0), (333, .iload 4, 2, (0, 0, 0, 0), 0, 0), (335, .iconst 1, 1, (0, 0, 0, 0), 1, 0), (336, .iadd, 1, (0, 0, 0, 0), 0, 0), (337, .iaload, 1, (0, 0, 0, 0), 0, 0), (338, .aload_n 0, 1, (0, 0, 0, 0), 0, 0), (339, .iload 4, 2, (0, 0, 0, 0), 0, 0), (341, .iconst 2, 1, (0, 0, 0, 0), 2, 0), (342, .iadd, 1, (0, 0, 0, 0), 0, 0), (343, .iaload, 1, (0, 0, 0, 0), 0, 0), (344, .aload_n 0, 1, (0, 0, 0, 0), 0, 0), (345, .iload 4, 2, (0, 0, 0, 0), 0, 0), (347, .iconst 3, 1, (0, 0, 0, 0), 3, 0), (348, .iadd, 1, (0, 0, 0, 0), 0, 0), (349, .iaload, 1, (0, 0, 0, 0), 0, 0), (350, .ifCond .eq 7, 3, (357, 0, 0, 0), 0, 0), (353, .iconst 1, 1, (0, 0, 0, 0), 1, 0), (354, .goto 4, 3, (358, 0, 0, 0), 0, 0), (357, .iconst 0, 1, (0, 0, 0, 0), 0, 0)]
set_option maxRecDepth 16384 in
theorem xl_331_s : xp_235 = xp_235.take 135 ++ (xl_331 ++ xp_235.drop 155) := rfl
set_option maxRecDepth 16384 in
theorem xl_331_a : (xp_235.take 135).all (fun q => Nat.blt q.1 331) = true := by decide +kernel
set_option maxRecDepth 16384 in
theorem xl_331_ok {pc : Nat} {q : XI} (h : xf xl_331 pc = some q) (hl : Nat.ble 331 pc = true) : xf (xcode 235) pc = some q := by
  rw [xl_code, xl_331_s]
  exact xf_mid xl_331_a hl h
set_option maxRecDepth 16384 in
def xl_358 : List XE := [(358, .invokestatic 106, 3, (90, 4, 1, 806), 0, 0), (361, .istore 5, 2, (0, 0, 0, 0), 0, 0), (363, .aload_n 2, 1, (0, 0, 0, 0), 0, 0), (364, .aload_n 0, 1, (0, 0, 0, 0), 0, 0), (365, .iload 4, 2, (0, 0, 0, 0), 0, 0), (367, .iconst 1, 1, (0, 0, 0, 0), 1, 0), (368, .iadd, 1, (0, 0, 0, 0), 0, 0), (369, .iaload, 1, (0, 0, 0, 0), 0, 0), (370, .aload_n 0, 1, (0, 0, 0, 0), 0, 0), (371, .iload 4, 2, (0, 0, 0, 0), 0, 0), (373, .iconst 2, 1, (0, 0, 0, 0), 2, 0), (374, .iadd, 1, (0, 0, 0, 0), 0, 0), (375, .iaload, 1, (0, 0, 0, 0), 0, 0), (376, .aload_n 0, 1, (0, 0, 0, 0), 0, 0), (377, .iload 4, 2, (0, 0, 0, 0), 0, 0), (379, .iconst 3, 1, (0, 0, 0, 0), 3, 0), (380, .iadd, 1, (0, 0, 0, 0), 0, 0), (381, .iaload, 1, (0, 0, 0, 0), 0, 0), (382, .ifCond .eq 7, 3, (389, 0, 0, 0), 0, 0), (385, .iconst 1, 1, (0, 0, 0, 0), 1, 0), (386, .goto 4, 3, (390, 0, 0, 0), 0, 0), (389, .iconst 0, 1, (0, 0, 0, 0), 0, 0), (390, .invokevirtual 109, 3, (202, 4, 0, 1461), 0, 0), (393, .aload_n 2, 1, (0, 0, 0, 0), 0, 0), (394, .invokevirtual 98, 3, (158, 1, 0, 1294), 0, 0), (397, .iload 5, 2, (0, 0, 0, 0), 0, 0), (399, .if_icmp .eq 5, 3, (404, 0, 0, 0), 0, 0), (402, .iconst 0, 1, (0, 0, 0, 0), 0, 0), (403, .ireturn, 1, (0, 0, 0, 0), 0, 0), (404, .goto 1319, 3, (1723, 0, 0, 0), 0, 0)]
set_option maxRecDepth 16384 in
theorem xl_358_s : xp_235 = xp_235.take 155 ++ (xl_358 ++ xp_235.drop 185) := rfl
set_option maxRecDepth 16384 in
theorem xl_358_a : (xp_235.take 155).all (fun q => Nat.blt q.1 358) = true := by decide +kernel
set_option maxRecDepth 16384 in
theorem xl_358_ok {pc : Nat} {q : XI} (h : xf xl_358 pc = some q) (hl : Nat.ble 358 pc = true) : xf (xcode 235) pc = some q := by
  rw [xl_code, xl_358_s]
  exact xf_mid xl_358_a hl h
set_option maxRecDepth 16384 in
def xl_407 : List XE := [(407, .aload_n 1, 1, (0, 0, 0, 0), 0, 0), (408, .aload_n 0, 1, (0, 0, 0, 0), 0, 0), (409, .iload 4, 2, (0, 0, 0, 0), 0, 0), (411, .iconst 1, 1, (0, 0, 0, 0), 1, 0), (412, .iadd, 1, (0, 0, 0, 0), 0, 0), (413, .iaload, 1, (0, 0, 0, 0), 0, 0), (414, .aload_n 0, 1, (0, 0, 0, 0), 0, 0), (415, .iload 4, 2, (0, 0, 0, 0), 0, 0), (417, .iconst 2, 1, (0, 0, 0, 0), 2, 0), (418, .iadd, 1, (0, 0, 0, 0), 0, 0), (419, .iaload, 1, (0, 0, 0, 0), 0, 0), (420, .aload_n 0, 1, (0, 0, 0, 0), 0, 0), (421, .iload 4, 2, (0, 0, 0, 0), 0, 0), (423, .iconst 3, 1, (0, 0, 0, 0), 3, 0), (424, .iadd, 1, (0, 0, 0, 0), 0, 0), (425, .iaload, 1, (0, 0, 0, 0), 0, 0), (426, .aload_n 0, 1, (0, 0, 0, 0), 0, 0), (427, .iload 4, 2, (0, 0, 0, 0), 0, 0), (429, .iconst 4, 1, (0, 0, 0, 0), 4, 0), (430, .iadd, 1, (0, 0, 0, 0), 0, 0), (431, .iaload, 1, (0, 0, 0, 0), 0, 0), (432, .invokestatic 110, 3, (92, 5, 1, 817), 0, 0), (435, .istore 5, 2, (0, 0, 0, 0), 0, 0), (437, .aload_n 2, 1, (0, 0, 0, 0), 0, 0), (438, .aload_n 0, 1, (0, 0, 0, 0), 0, 0), (439, .iload 4, 2, (0, 0, 0, 0), 0, 0), (441, .iconst 1, 1, (0, 0, 0, 0), 1, 0), (442, .iadd, 1, (0, 0, 0, 0), 0, 0), (443, .iaload, 1, (0, 0, 0, 0), 0, 0), (444, .aload_n 0, 1, (0, 0, 0, 0), 0, 0), (445, .iload 4, 2, (0, 0, 0, 0), 0, 0), (447, .iconst 2, 1, (0, 0, 0, 0), 2, 0), (448, .iadd, 1, (0, 0, 0, 0), 0, 0), (449, .iaload, 1, (0, 0, 0, 0), 0, 0), (450, .aload_n 0, 1, (0, 0, 0, 0), 0, 0), (451, .iload 4, 2, (0, 0, 0, 0), 0, 0), (453, .iconst 3, 1, (0, 0, 0, 0), 3, 0), (454, .iadd, 1, (0, 0, 0, 0), 0, 0), (455, .iaload, 1, (0, 0, 0, 0), 0, 0), (456, .aload_n 0, 1, (0, 0, 0, 0), 0, 0), (457, .iload 4, 2, (0, 0, 0, 0), 0, 0), (459, .iconst 4, 1, (0, 0, 0, 0), 4, 0), (460, .iadd, 1, (0, 0, 0, 0), 0, 0), (461, .iaload, 1, (0, 0, 0, 0), 0, 0), (462, .invokevirtual 112, 3, (204, 5, 0, 1469), 0, 0), (465, .aload_n 2, 1, (0, 0, 0, 0), 0, 0), (466, .invokevirtual 98, 3, (158, 1, 0, 1294), 0, 0), (469, .iload 5, 2, (0, 0, 0, 0), 0, 0), (471, .if_icmp .eq 5, 3, (476, 0, 0, 0), 0, 0), (474, .iconst 0, 1, (0, 0, 0, 0), 0, 0), (475, .ireturn, 1, (0, 0, 0, 0), 0, 0), (476, .goto 1247, 3, (1723, 0, 0, 0), 0, 0)]
set_option maxRecDepth 16384 in
theorem xl_407_s : xp_235 = xp_235.take 185 ++ (xl_407 ++ xp_235.drop 237) := rfl
set_option maxRecDepth 16384 in
theorem xl_407_a : (xp_235.take 185).all (fun q => Nat.blt q.1 407) = true := by decide +kernel
set_option maxRecDepth 16384 in
theorem xl_407_ok {pc : Nat} {q : XI} (h : xf xl_407 pc = some q) (hl : Nat.ble 407 pc = true) : xf (xcode 235) pc = some q := by
  rw [xl_code, xl_407_s]
  exact xf_mid xl_407_a hl h
set_option maxRecDepth 16384 in
def xl_479 : List XE := [(479, .aload_n 1, 1, (0, 0, 0, 0), 0, 0), (480, .aload_n 0, 1, (0, 0, 0, 0), 0, 0), (481, .iload 4, 2, (0, 0, 0, 0), 0, 0), (483, .iconst 1, 1, (0, 0, 0, 0), 1, 0), (484, .iadd, 1, (0, 0, 0, 0), 0, 0), (485, .iaload, 1, (0, 0, 0, 0), 0, 0), (486, .aload_n 0, 1, (0, 0, 0, 0), 0, 0), (487, .iload 4, 2, (0, 0, 0, 0), 0, 0), (489, .iconst 2, 1, (0, 0, 0, 0), 2, 0), (490, .iadd, 1, (0, 0, 0, 0), 0, 0), (491, .iaload, 1, (0, 0, 0, 0), 0, 0), (492, .aload_n 0, 1, (0, 0, 0, 0), 0, 0), (493, .iload 4, 2, (0, 0, 0, 0), 0, 0), (495, .iconst 3, 1, (0, 0, 0, 0), 3, 0), (496, .iadd, 1, (0, 0, 0, 0), 0, 0), (497, .iaload, 1, (0, 0, 0, 0), 0, 0), (498, .ifCond .eq 7, 3, (505, 0, 0, 0), 0, 0), (501, .iconst 1, 1, (0, 0, 0, 0), 1, 0), (502, .goto 4, 3, (506, 0, 0, 0), 0, 0), (505, .iconst 0, 1, (0, 0, 0, 0), 0, 0)]
set_option maxRecDepth 16384 in
theorem xl_479_s : xp_235 = xp_235.take 237 ++ (xl_479 ++ xp_235.drop 257) := rfl
set_option maxRecDepth 16384 in
theorem xl_479_a : (xp_235.take 237).all (fun q => Nat.blt q.1 479) = true := by decide +kernel
set_option maxRecDepth 16384 in
theorem xl_479_ok {pc : Nat} {q : XI} (h : xf xl_479 pc = some q) (hl : Nat.ble 479 pc = true) : xf (xcode 235) pc = some q := by
  rw [xl_code, xl_479_s]
  exact xf_mid xl_479_a hl h
set_option maxRecDepth 16384 in
def xl_506 : List XE := [(506, .invokestatic 113, 3, (94, 4, 1, 824), 0, 0), (509, .istore 5, 2, (0, 0, 0, 0), 0, 0), (511, .aload_n 2, 1, (0, 0, 0, 0), 0, 0), (512, .aload_n 0, 1, (0, 0, 0, 0), 0, 0), (513, .iload 4, 2, (0, 0, 0, 0), 0, 0), (515, .iconst 1, 1, (0, 0, 0, 0), 1, 0), (516, .iadd, 1, (0, 0, 0, 0), 0, 0), (517, .iaload, 1, (0, 0, 0, 0), 0, 0), (518, .aload_n 0, 1, (0, 0, 0, 0), 0, 0), (519, .iload 4, 2, (0, 0, 0, 0), 0, 0), (521, .iconst 2, 1, (0, 0, 0, 0), 2, 0), (522, .iadd, 1, (0, 0, 0, 0), 0, 0), (523, .iaload, 1, (0, 0, 0, 0), 0, 0), (524, .aload_n 0, 1, (0, 0, 0, 0), 0, 0), (525, .iload 4, 2, (0, 0, 0, 0), 0, 0), (527, .iconst 3, 1, (0, 0, 0, 0), 3, 0), (528, .iadd, 1, (0, 0, 0, 0), 0, 0), (529, .iaload, 1, (0, 0, 0, 0), 0, 0), (530, .ifCond .eq 7, 3, (537, 0, 0, 0), 0, 0), (533, .iconst 1, 1, (0, 0, 0, 0), 1, 0), (534, .goto 4, 3, (538, 0, 0, 0), 0, 0), (537, .iconst 0, 1, (0, 0, 0, 0), 0, 0), (538, .invokevirtual 115, 3, (205, 4, 0, 1477), 0, 0), (541, .aload_n 2, 1, (0, 0, 0, 0), 0, 0), (542, .invokevirtual 98, 3, (158, 1, 0, 1294), 0, 0), (545, .iload 5, 2, (0, 0, 0, 0), 0, 0), (547, .if_icmp .eq 5, 3, (552, 0, 0, 0), 0, 0), (550, .iconst 0, 1, (0, 0, 0, 0), 0, 0), (551, .ireturn, 1, (0, 0, 0, 0), 0, 0), (552, .goto 1171, 3, (1723, 0, 0, 0), 0, 0)]
set_option maxRecDepth 16384 in
theorem xl_506_s : xp_235 = xp_235.take 257 ++ (xl_506 ++ xp_235.drop 287) := rfl
set_option maxRecDepth 16384 in
theorem xl_506_a : (xp_235.take 257).all (fun q => Nat.blt q.1 506) = true := by decide +kernel
set_option maxRecDepth 16384 in
theorem xl_506_ok {pc : Nat} {q : XI} (h : xf xl_506 pc = some q) (hl : Nat.ble 506 pc = true) : xf (xcode 235) pc = some q := by
  rw [xl_code, xl_506_s]
  exact xf_mid xl_506_a hl h
set_option maxRecDepth 16384 in
def xl_555 : List XE := [(555, .aload_n 1, 1, (0, 0, 0, 0), 0, 0), (556, .aload_n 0, 1, (0, 0, 0, 0), 0, 0), (557, .iload 4, 2, (0, 0, 0, 0), 0, 0), (559, .iconst 1, 1, (0, 0, 0, 0), 1, 0), (560, .iadd, 1, (0, 0, 0, 0), 0, 0), (561, .iaload, 1, (0, 0, 0, 0), 0, 0), (562, .aload_n 0, 1, (0, 0, 0, 0), 0, 0), (563, .iload 4, 2, (0, 0, 0, 0), 0, 0), (565, .iconst 2, 1, (0, 0, 0, 0), 2, 0), (566, .iadd, 1, (0, 0, 0, 0), 0, 0), (567, .iaload, 1, (0, 0, 0, 0), 0, 0), (568, .aload_n 0, 1, (0, 0, 0, 0), 0, 0), (569, .iload 4, 2, (0, 0, 0, 0), 0, 0), (571, .iconst 3, 1, (0, 0, 0, 0), 3, 0), (572, .iadd, 1, (0, 0, 0, 0), 0, 0), (573, .iaload, 1, (0, 0, 0, 0), 0, 0), (574, .aload_n 3, 1, (0, 0, 0, 0), 0, 0), (575, .invokestatic 116, 3, (98, 5, 1, 831), 0, 0), (578, .istore 5, 2, (0, 0, 0, 0), 0, 0), (580, .aload_n 2, 1, (0, 0, 0, 0), 0, 0), (581, .aload_n 0, 1, (0, 0, 0, 0), 0, 0), (582, .iload 4, 2, (0, 0, 0, 0), 0, 0), (584, .iconst 1, 1, (0, 0, 0, 0), 1, 0), (585, .iadd, 1, (0, 0, 0, 0), 0, 0), (586, .iaload, 1, (0, 0, 0, 0), 0, 0), (587, .aload_n 0, 1, (0, 0, 0, 0), 0, 0), (588, .iload 4, 2, (0, 0, 0, 0), 0, 0), (590, .iconst 2, 1, (0, 0, 0, 0), 2, 0), (591, .iadd, 1, (0, 0, 0, 0), 0, 0), (592, .iaload, 1, (0, 0, 0, 0), 0, 0), (593, .aload_n 0, 1, (0, 0, 0, 0), 0, 0), (594, .iload 4, 2, (0, 0, 0, 0), 0, 0), (596, .iconst 3, 1, (0, 0, 0, 0), 3, 0), (597, .iadd, 1, (0, 0, 0, 0), 0, 0), (598, .iaload, 1, (0, 0, 0, 0), 0, 0), (599, .invokevirtual 119, 3, (207, 4, 0, 1481), 0, 0), (602, .istore 6, 2, (0, 0, 0, 0), 0, 0), (604, .aload_n 2, 1, (0, 0, 0, 0), 0, 0), (605, .invokevirtual 98, 3, (158, 1, 0, 1294), 0, 0), (608, .iload 5, 2, (0, 0, 0, 0), 0, 0), (610, .if_icmp .eq 5, 3, (615, 0, 0, 0), 0, 0), (613, .iconst 0, 1, (0, 0, 0, 0), 0, 0), (614, .ireturn, 1, (0, 0, 0, 0), 0, 0), (615, .iload 5, 2, (0, 0, 0, 0), 0, 0), (617, .ifCond .ne 15, 3, (632, 0, 0, 0), 0, 0), (620, .aload_n 3, 1, (0, 0, 0, 0), 0, 0), (621, .iconst 0, 1, (0, 0, 0, 0), 0, 0), (622, .laload, 1, (0, 0, 0, 0), 0, 0), (623, .iload 6, 2, (0, 0, 0, 0), 0, 0), (625, .i2l, 1, (0, 0, 0, 0), 0, 0), (626, .lcmp, 1, (0, 0, 0, 0), 0, 0), (627, .ifCond .eq 5, 3, (632, 0, 0, 0), 0, 0), (630, .iconst 0, 1, (0, 0, 0, 0), 0, 0), (631, .ireturn, 1, (0, 0, 0, 0), 0, 0), (632, .goto 1091, 3, (1723, 0, 0, 0), 0, 0)]
set_option maxRecDepth 16384 in
theorem xl_555_s : xp_235 = xp_235.take 287 ++ (xl_555 ++ xp_235.drop 342) := rfl
set_option maxRecDepth 16384 in
theorem xl_555_a : (xp_235.take 287).all (fun q => Nat.blt q.1 555) = true := by decide +kernel
set_option maxRecDepth 16384 in
theorem xl_555_ok {pc : Nat} {q : XI} (h : xf xl_555 pc = some q) (hl : Nat.ble 555 pc = true) : xf (xcode 235) pc = some q := by
  rw [xl_code, xl_555_s]
  exact xf_mid xl_555_a hl h
set_option maxRecDepth 16384 in
def xl_635 : List XE := [(635, .aload_n 1, 1, (0, 0, 0, 0), 0, 0), (636, .aload_n 0, 1, (0, 0, 0, 0), 0, 0), (637, .iload 4, 2, (0, 0, 0, 0), 0, 0), (639, .iconst 1, 1, (0, 0, 0, 0), 1, 0), (640, .iadd, 1, (0, 0, 0, 0), 0, 0), (641, .iaload, 1, (0, 0, 0, 0), 0, 0), (642, .aload_n 0, 1, (0, 0, 0, 0), 0, 0), (643, .iload 4, 2, (0, 0, 0, 0), 0, 0), (645, .iconst 2, 1, (0, 0, 0, 0), 2, 0), (646, .iadd, 1, (0, 0, 0, 0), 0, 0), (647, .iaload, 1, (0, 0, 0, 0), 0, 0), (648, .aload_n 0, 1, (0, 0, 0, 0), 0, 0), (649, .iload 4, 2, (0, 0, 0, 0), 0, 0), (651, .iconst 3, 1, (0, 0, 0, 0), 3, 0), (652, .iadd, 1, (0, 0, 0, 0), 0, 0), (653, .iaload, 1, (0, 0, 0, 0), 0, 0), (654, .aload_n 0, 1, (0, 0, 0, 0), 0, 0), (655, .iload 4, 2, (0, 0, 0, 0), 0, 0), (657, .iconst 4, 1, (0, 0, 0, 0), 4, 0), (658, .iadd, 1, (0, 0, 0, 0), 0, 0), (659, .iaload, 1, (0, 0, 0, 0), 0, 0), (660, .aload_n 0, 1, (0, 0, 0, 0), 0, 0), (661, .iload 4, 2, (0, 0, 0, 0), 0, 0), (663, .iconst 5, 1, (0, 0, 0, 0), 5, 0), (664, .iadd, 1, (0, 0, 0, 0), 0, 0), (665, .iaload, 1, (0, 0, 0, 0), 0, 0), (666, .aload_n 0, 1, (0, 0, 0, 0), 0, 0), (667, .iload 4, 2, (0, 0, 0, 0), 0, 0), (669, .bipush 6, 2, (0, 0, 0, 0), 6, 0), (671, .iadd, 1, (0, 0, 0, 0), 0, 0), (672, .iaload, 1, (0, 0, 0, 0), 0, 0), (673, .invokestatic 120, 3, (112, 7, 1, 865), 0, 0), (676, .istore 5, 2, (0, 0, 0, 0), 0, 0), (678, .aload_n 2, 1, (0, 0, 0, 0), 0, 0), (679, .aload_n 0, 1, (0, 0, 0, 0), 0, 0), (680, .iload 4, 2, (0, 0, 0, 0), 0, 0), (682, .iconst 1, 1, (0, 0, 0, 0), 1, 0), (683, .iadd, 1, (0, 0, 0, 0), 0, 0), (684, .iaload, 1, (0, 0, 0, 0), 0, 0), (685, .aload_n 0, 1, (0, 0, 0, 0), 0, 0), (686, .iload 4, 2, (0, 0, 0, 0), 0, 0), (688, .iconst 2, 1, (0, 0, 0, 0), 2, 0), (689, .iadd, 1, (0, 0, 0, 0), 0, 0), (690, .iaload, 1, (0, 0, 0, 0), 0, 0), (691, .aload_n 0, 1, (0, 0, 0, 0), 0, 0), (692, .iload 4, 2, (0, 0, 0, 0), 0, 0), (694, .iconst 3, 1, (0, 0, 0, 0), 3, 0), (695, .iadd, 1, (0, 0, 0, 0), 0, 0), (696, .iaload, 1, (0, 0, 0, 0), 0, 0), (697, .aload_n 0, 1, (0, 0, 0, 0), 0, 0), (698, .iload 4, 2, (0, 0, 0, 0), 0, 0), (700, .iconst 4, 1, (0, 0, 0, 0), 4, 0), (701, .iadd, 1, (0, 0, 0, 0), 0, 0), (702, .iaload, 1, (0, 0, 0, 0), 0, 0), (703, .aload_n 0, 1, (0, 0, 0, 0), 0, 0), (704, .iload 4, 2, (0, 0, 0, 0), 0, 0), (706, .iconst 5, 1, (0, 0, 0, 0), 5, 0), (707, .iadd, 1, (0, 0, 0, 0), 0, 0), (708, .iaload, 1, (0, 0, 0, 0), 0, 0), (709, .aload_n 0, 1, (0, 0, 0, 0), 0, 0), (710, .iload 4, 2, (0, 0, 0, 0), 0, 0), (712, .bipush 6, 2, (0, 0, 0, 0), 6, 0), (714, .iadd, 1, (0, 0, 0, 0), 0, 0), (715, .iaload, 1, (0, 0, 0, 0), 0, 0), (716, .invokevirtual 123, 3, (210, 7, 0, 1489), 0, 0), (719, .aload_n 2, 1, (0, 0, 0, 0), 0, 0), (720, .invokevirtual 98, 3, (158, 1, 0, 1294), 0, 0), (723, .iload 5, 2, (0, 0, 0, 0), 0, 0), (725, .if_icmp .eq 5, 3, (730, 0, 0, 0), 0, 0), (728, .iconst 0, 1, (0, 0, 0, 0), 0, 0), (729, .ireturn, 1, (0, 0, 0, 0), 0, 0), (730, .goto 993, 3, (1723, 0, 0, 0), 0, 0)]
set_option maxRecDepth 16384 in
theorem xl_635_s : xp_235 = xp_235.take 342 ++ (xl_635 ++ xp_235.drop 414) := rfl
set_option maxRecDepth 16384 in
theorem xl_635_a : (xp_235.take 342).all (fun q => Nat.blt q.1 635) = true := by decide +kernel
set_option maxRecDepth 16384 in
theorem xl_635_ok {pc : Nat} {q : XI} (h : xf xl_635 pc = some q) (hl : Nat.ble 635 pc = true) : xf (xcode 235) pc = some q := by
  rw [xl_code, xl_635_s]
  exact xf_mid xl_635_a hl h
set_option maxRecDepth 16384 in
def xl_733 : List XE := [(733, .aload_n 1, 1, (0, 0, 0, 0), 0, 0), (734, .aload_n 0, 1, (0, 0, 0, 0), 0, 0), (735, .iload 4, 2, (0, 0, 0, 0), 0, 0), (737, .iconst 1, 1, (0, 0, 0, 0), 1, 0), (738, .iadd, 1, (0, 0, 0, 0), 0, 0), (739, .iaload, 1, (0, 0, 0, 0), 0, 0), (740, .aload_n 0, 1, (0, 0, 0, 0), 0, 0), (741, .iload 4, 2, (0, 0, 0, 0), 0, 0), (743, .iconst 2, 1, (0, 0, 0, 0), 2, 0), (744, .iadd, 1, (0, 0, 0, 0), 0, 0), (745, .iaload, 1, (0, 0, 0, 0), 0, 0), (746, .aload_n 0, 1, (0, 0, 0, 0), 0, 0), (747, .iload 4, 2, (0, 0, 0, 0), 0, 0), (749, .iconst 3, 1, (0, 0, 0, 0), 3, 0), (750, .iadd, 1, (0, 0, 0, 0), 0, 0), (751, .iaload, 1, (0, 0, 0, 0), 0, 0), (752, .ifCond .eq 7, 3, (759, 0, 0, 0), 0, 0), (755, .iconst 1, 1, (0, 0, 0, 0), 1, 0), (756, .goto 4, 3, (760, 0, 0, 0), 0, 0), (759, .iconst 0, 1, (0, 0, 0, 0), 0, 0)]
set_option maxRecDepth 16384 in
theorem xl_733_s : xp_235 = xp_235.take 414 ++ (xl_733 ++ xp_235.drop 434) := rfl
set_option maxRecDepth 16384 in
theorem xl_733_a : (xp_235.take 414).all (fun q => Nat.blt q.1 733) = true := by decide +kernel
set_option maxRecDepth 16384 in
theorem xl_733_ok {pc : Nat} {q : XI} (h : xf xl_733 pc = some q) (hl : Nat.ble 733 pc = true) : xf (xcode 235) pc = some q := by
  rw [xl_code, xl_733_s]
  exact xf_mid xl_733_a hl h
set_option maxRecDepth 16384 in
def xl_760 : List XE := [(760, .aload_n 0, 1, (0, 0, 0, 0), 0, 0), (761, .iload 4, 2, (0, 0, 0, 0), 0, 0), (763, .iconst 4, 1, (0, 0, 0, 0), 4, 0), (764, .iadd, 1, (0, 0, 0, 0), 0, 0), (765, .iaload, 1, (0, 0, 0, 0), 0, 0), (766, .aload_n 0, 1, (0, 0, 0, 0), 0, 0), (767, .iload 4, 2, (0, 0, 0, 0), 0, 0), (769, .iconst 5, 1, (0, 0, 0, 0), 5, 0), (770, .iadd, 1, (0, 0, 0, 0), 0, 0), (771, .iaload, 1, (0, 0, 0, 0), 0, 0), (772, .invokestatic 124, 3, (119, 6, 1, 926), 0, 0), (775, .istore 5, 2, (0, 0, 0, 0), 0, 0), (777, .aload_n 2, 1, (0, 0, 0, 0), 0, 0), (778, .aload_n 0, 1, (0, 0, 0, 0), 0, 0), (779, .iload 4, 2, (0, 0, 0, 0), 0, 0), (781, .iconst 1, 1, (0, 0, 0, 0), 1, 0), (782, .iadd, 1, (0, 0, 0, 0), 0, 0), (783, .iaload, 1, (0, 0, 0, 0), 0, 0), (784, .aload_n 0, 1, (0, 0, 0, 0), 0, 0), (785, .iload 4, 2, (0, 0, 0, 0), 0, 0), (787, .iconst 2, 1, (0, 0, 0, 0), 2, 0), (788, .iadd, 1, (0, 0, 0, 0), 0, 0), (789, .iaload, 1, (0, 0, 0, 0), 0, 0), (790, .aload_n 0, 1, (0, 0, 0, 0), 0, 0), (791, .iload 4, 2, (0, 0, 0, 0), 0, 0), (793, .iconst 3, 1, (0, 0, 0, 0), 3, 0), (794, .iadd, 1, (0, 0, 0, 0), 0, 0), (795, .iaload, 1, (0, 0, 0, 0), 0, 0), (796, .ifCond .eq 7, 3, (803, 0, 0, 0), 0, 0), (799, .iconst 1, 1, (0, 0, 0, 0), 1, 0), (800, .goto 4, 3, (804, 0, 0, 0), 0, 0), (803, .iconst 0, 1, (0, 0, 0, 0), 0, 0)]
set_option maxRecDepth 16384 in
theorem xl_760_s : xp_235 = xp_235.take 434 ++ (xl_760 ++ xp_235.drop 466) := rfl
set_option maxRecDepth 16384 in
theorem xl_760_a : (xp_235.take 434).all (fun q => Nat.blt q.1 760) = true := by decide +kernel
set_option maxRecDepth 16384 in
theorem xl_760_ok {pc : Nat} {q : XI} (h : xf xl_760 pc = some q) (hl : Nat.ble 760 pc = true) : xf (xcode 235) pc = some q := by
  rw [xl_code, xl_760_s]
  exact xf_mid xl_760_a hl h
set_option maxRecDepth 16384 in
def xl_804 : List XE := [(804, .aload_n 0, 1, (0, 0, 0, 0), 0, 0), (805, .iload 4, 2, (0, 0, 0, 0), 0, 0), (807, .iconst 4, 1, (0, 0, 0, 0), 4, 0), (808, .iadd, 1, (0, 0, 0, 0), 0, 0), (809, .iaload, 1, (0, 0, 0, 0), 0, 0), (810, .aload_n 0, 1, (0, 0, 0, 0), 0, 0), (811, .iload 4, 2, (0, 0, 0, 0), 0, 0), (813, .iconst 5, 1, (0, 0, 0, 0), 5, 0), (814, .iadd, 1, (0, 0, 0, 0), 0, 0), (815, .iaload, 1, (0, 0, 0, 0), 0, 0), (816, .invokevirtual 127, 3, (213, 6, 0, 1501), 0, 0), (819, .aload_n 2, 1, (0, 0, 0, 0), 0, 0), (820, .invokevirtual 98, 3, (158, 1, 0, 1294), 0, 0), (823, .iload 5, 2, (0, 0, 0, 0), 0, 0), (825, .if_icmp .eq 5, 3, (830, 0, 0, 0), 0, 0), (828, .iconst 0, 1, (0, 0, 0, 0), 0, 0), (829, .ireturn, 1, (0, 0, 0, 0), 0, 0), (830, .goto 893, 3, (1723, 0, 0, 0), 0, 0)]
set_option maxRecDepth 16384 in
theorem xl_804_s : xp_235 = xp_235.take 466 ++ (xl_804 ++ xp_235.drop 484) := rfl
set_option maxRecDepth 16384 in
theorem xl_804_a : (xp_235.take 466).all (fun q => Nat.blt q.1 804) = true := by decide +kernel
set_option maxRecDepth 16384 in
theorem xl_804_ok {pc : Nat} {q : XI} (h : xf xl_804 pc = some q) (hl : Nat.ble 804 pc = true) : xf (xcode 235) pc = some q := by
  rw [xl_code, xl_804_s]
  exact xf_mid xl_804_a hl h
set_option maxRecDepth 16384 in
def xl_833 : List XE := [(833, .aload_n 1, 1, (0, 0, 0, 0), 0, 0), (834, .aload_n 0, 1, (0, 0, 0, 0), 0, 0), (835, .iload 4, 2, (0, 0, 0, 0), 0, 0), (837, .iconst 1, 1, (0, 0, 0, 0), 1, 0), (838, .iadd, 1, (0, 0, 0, 0), 0, 0), (839, .iaload, 1, (0, 0, 0, 0), 0, 0), (840, .aload_n 0, 1, (0, 0, 0, 0), 0, 0), (841, .iload 4, 2, (0, 0, 0, 0), 0, 0), (843, .iconst 2, 1, (0, 0, 0, 0), 2, 0), (844, .iadd, 1, (0, 0, 0, 0), 0, 0), (845, .iaload, 1, (0, 0, 0, 0), 0, 0), (846, .aload_n 0, 1, (0, 0, 0, 0), 0, 0), (847, .iload 4, 2, (0, 0, 0, 0), 0, 0), (849, .iconst 3, 1, (0, 0, 0, 0), 3, 0), (850, .iadd, 1, (0, 0, 0, 0), 0, 0), (851, .iaload, 1, (0, 0, 0, 0), 0, 0), (852, .aload_n 0, 1, (0, 0, 0, 0), 0, 0), (853, .iload 4, 2, (0, 0, 0, 0), 0, 0), (855, .iconst 4, 1, (0, 0, 0, 0), 4, 0), (856, .iadd, 1, (0, 0, 0, 0), 0, 0), (857, .iaload, 1, (0, 0, 0, 0), 0, 0), (858, .invokestatic 128, 3, (122, 5, 1, 955), 0, 0), (861, .istore 5, 2, (0, 0, 0, 0), 0, 0), (863, .aload_n 2, 1, (0, 0, 0, 0), 0, 0), (864, .aload_n 0, 1, (0, 0, 0, 0), 0, 0), (865, .iload 4, 2, (0, 0, 0, 0), 0, 0), (867, .iconst 1, 1, (0, 0, 0, 0), 1, 0), (868, .iadd, 1, (0, 0, 0, 0), 0, 0), (869, .iaload, 1, (0, 0, 0, 0), 0, 0), (870, .aload_n 0, 1, (0, 0, 0, 0), 0, 0), (871, .iload 4, 2, (0, 0, 0, 0), 0, 0), (873, .iconst 2, 1, (0, 0, 0, 0), 2, 0), (874, .iadd, 1, (0, 0, 0, 0), 0, 0), (875, .iaload, 1, (0, 0, 0, 0), 0, 0), (876, .aload_n 0, 1, (0, 0, 0, 0), 0, 0), (877, .iload 4, 2, (0, 0, 0, 0), 0, 0), (879, .iconst 3, 1, (0, 0, 0, 0), 3, 0), (880, .iadd, 1, (0, 0, 0, 0), 0, 0), (881, .iaload, 1, (0, 0, 0, 0), 0, 0), (882, .aload_n 0, 1, (0, 0, 0, 0), 0, 0), (883, .iload 4, 2, (0, 0, 0, 0), 0, 0), (885, .iconst 4, 1, (0, 0, 0, 0), 4, 0), (886, .iadd, 1, (0, 0, 0, 0), 0, 0), (887, .iaload, 1, (0, 0, 0, 0), 0, 0), (888, .invokevirtual 130, 3, (214, 5, 0, 1513), 0, 0), (891, .aload_n 2, 1, (0, 0, 0, 0), 0, 0), (892, .invokevirtual 98, 3, (158, 1, 0, 1294), 0, 0), (895, .iload 5, 2, (0, 0, 0, 0), 0, 0), (897, .if_icmp .eq 5, 3, (902, 0, 0, 0), 0, 0), (900, .iconst 0, 1, (0, 0, 0, 0), 0, 0), (901, .ireturn, 1, (0, 0, 0, 0), 0, 0), (902, .goto 821, 3, (1723, 0, 0, 0), 0, 0)]
set_option maxRecDepth 16384 in
theorem xl_833_s : xp_235 = xp_235.take 484 ++ (xl_833 ++ xp_235.drop 536) := rfl
set_option maxRecDepth 16384 in
theorem xl_833_a : (xp_235.take 484).all (fun q => Nat.blt q.1 833) = true := by decide +kernel
set_option maxRecDepth 16384 in
theorem xl_833_ok {pc : Nat} {q : XI} (h : xf xl_833 pc = some q) (hl : Nat.ble 833 pc = true) : xf (xcode 235) pc = some q := by
  rw [xl_code, xl_833_s]
  exact xf_mid xl_833_a hl h
set_option maxRecDepth 16384 in
def xl_905 : List XE := [(905, .aload_n 1, 1, (0, 0, 0, 0), 0, 0), (906, .aload_n 0, 1, (0, 0, 0, 0), 0, 0), (907, .iload 4, 2, (0, 0, 0, 0), 0, 0), (909, .iconst 1, 1, (0, 0, 0, 0), 1, 0), (910, .iadd, 1, (0, 0, 0, 0), 0, 0), (911, .iaload, 1, (0, 0, 0, 0), 0, 0), (912, .aload_n 0, 1, (0, 0, 0, 0), 0, 0), (913, .iload 4, 2, (0, 0, 0, 0), 0, 0), (915, .iconst 2, 1, (0, 0, 0, 0), 2, 0), (916, .iadd, 1, (0, 0, 0, 0), 0, 0), (917, .iaload, 1, (0, 0, 0, 0), 0, 0), (918, .aload_n 0, 1, (0, 0, 0, 0), 0, 0), (919, .iload 4, 2, (0, 0, 0, 0), 0, 0), (921, .iconst 3, 1, (0, 0, 0, 0), 3, 0), (922, .iadd, 1, (0, 0, 0, 0), 0, 0), (923, .iaload, 1, (0, 0, 0, 0), 0, 0), (924, .aload_n 0, 1, (0, 0, 0, 0), 0, 0), (925, .iload 4, 2, (0, 0, 0, 0), 0, 0), (927, .iconst 4, 1, (0, 0, 0, 0), 4, 0), (928, .iadd, 1, (0, 0, 0, 0), 0, 0), (929, .iaload, 1, (0, 0, 0, 0), 0, 0), (930, .aload_n 0, 1, (0, 0, 0, 0), 0, 0), (931, .iload 4, 2, (0, 0, 0, 0), 0, 0), (933, .iconst 5, 1, (0, 0, 0, 0), 5, 0), (934, .iadd, 1, (0, 0, 0, 0), 0, 0), (935, .iaload, 1, (0, 0, 0, 0), 0, 0), (936, .invokestatic 131, 3, (127, 6, 1, 967), 0, 0), (939, .istore 5, 2, (0, 0, 0, 0), 0, 0), (941, .aload_n 2, 1, (0, 0, 0, 0), 0, 0), (942, .aload_n 0, 1, (0, 0, 0, 0), 0, 0), (943, .iload 4, 2, (0, 0, 0, 0), 0, 0), (945, .iconst 1, 1, (0, 0, 0, 0), 1, 0), (946, .iadd, 1, (0, 0, 0, 0), 0, 0), (947, .iaload, 1, (0, 0, 0, 0), 0, 0), (948, .aload_n 0, 1, (0, 0, 0, 0), 0, 0), (949, .iload 4, 2, (0, 0, 0, 0), 0, 0), (951, .iconst 2, 1, (0, 0, 0, 0), 2, 0), (952, .iadd, 1, (0, 0, 0, 0), 0, 0), (953, .iaload, 1, (0, 0, 0, 0), 0, 0), (954, .aload_n 0, 1, (0, 0, 0, 0), 0, 0), (955, .iload 4, 2, (0, 0, 0, 0), 0, 0), (957, .iconst 3, 1, (0, 0, 0, 0), 3, 0), (958, .iadd, 1, (0, 0, 0, 0), 0, 0), (959, .iaload, 1, (0, 0, 0, 0), 0, 0), (960, .aload_n 0, 1, (0, 0, 0, 0), 0, 0), (961, .iload 4, 2, (0, 0, 0, 0), 0, 0), (963, .iconst 4, 1, (0, 0, 0, 0), 4, 0), (964, .iadd, 1, (0, 0, 0, 0), 0, 0), (965, .iaload, 1, (0, 0, 0, 0), 0, 0), (966, .aload_n 0, 1, (0, 0, 0, 0), 0, 0), (967, .iload 4, 2, (0, 0, 0, 0), 0, 0), (969, .iconst 5, 1, (0, 0, 0, 0), 5, 0), (970, .iadd, 1, (0, 0, 0, 0), 0, 0), (971, .iaload, 1, (0, 0, 0, 0), 0, 0), (972, .invokevirtual 134, 3, (216, 6, 0, 1517), 0, 0), (975, .aload_n 2, 1, (0, 0, 0, 0), 0, 0), (976, .invokevirtual 98, 3, (158, 1, 0, 1294), 0, 0), (979, .iload 5, 2, (0, 0, 0, 0), 0, 0), (981, .if_icmp .eq 5, 3, (986, 0, 0, 0), 0, 0), (984, .iconst 0, 1, (0, 0, 0, 0), 0, 0), (985, .ireturn, 1, (0, 0, 0, 0), 0, 0), (986, .goto 737, 3, (1723, 0, 0, 0), 0, 0)]
set_option maxRecDepth 16384 in
theorem xl_905_s : xp_235 = xp_235.take 536 ++ (xl_905 ++ xp_235.drop 598) := rfl
set_option maxRecDepth 16384 in
theorem xl_905_a : (xp_235.take 536).all (fun q => Nat.blt q.1 905) = true := by decide +kernel
set_option maxRecDepth 16384 in
theorem xl_905_ok {pc : Nat} {q : XI} (h : xf xl_905 pc = some q) (hl : Nat.ble 905 pc = true) : xf (xcode 235) pc = some q := by
  rw [xl_code, xl_905_s]
  exact xf_mid xl_905_a hl h
set_option maxRecDepth 16384 in
def xl_989 : List XE := [(989, .aload_n 1, 1, (0, 0, 0, 0), 0, 0), (990, .aload_n 0, 1, (0, 0, 0, 0), 0, 0), (991, .iload 4, 2, (0, 0, 0, 0), 0, 0), (993, .iconst 1, 1, (0, 0, 0, 0), 1, 0), (994, .iadd, 1, (0, 0, 0, 0), 0, 0), (995, .iaload, 1, (0, 0, 0, 0), 0, 0), (996, .aload_n 0, 1, (0, 0, 0, 0), 0, 0), (997, .iload 4, 2, (0, 0, 0, 0), 0, 0), (999, .iconst 2, 1, (0, 0, 0, 0), 2, 0), (1000, .iadd, 1, (0, 0, 0, 0), 0, 0), (1001, .iaload, 1, (0, 0, 0, 0), 0, 0), (1002, .aload_n 0, 1, (0, 0, 0, 0), 0, 0), (1003, .iload 4, 2, (0, 0, 0, 0), 0, 0), (1005, .iconst 3, 1, (0, 0, 0, 0), 3, 0), (1006, .iadd, 1, (0, 0, 0, 0), 0, 0), (1007, .iaload, 1, (0, 0, 0, 0), 0, 0), (1008, .aload_n 0, 1, (0, 0, 0, 0), 0, 0), (1009, .iload 4, 2, (0, 0, 0, 0), 0, 0), (1011, .iconst 4, 1, (0, 0, 0, 0), 4, 0), (1012, .iadd, 1, (0, 0, 0, 0), 0, 0), (1013, .iaload, 1, (0, 0, 0, 0), 0, 0), (1014, .aload_n 0, 1, (0, 0, 0, 0), 0, 0), (1015, .iload 4, 2, (0, 0, 0, 0), 0, 0), (1017, .iconst 5, 1, (0, 0, 0, 0), 5, 0), (1018, .iadd, 1, (0, 0, 0, 0), 0, 0), (1019, .iaload, 1, (0, 0, 0, 0), 0, 0), (1020, .invokestatic 135, 3, (130, 6, 1, 988), 0, 0), (1023, .istore 5, 2, (0, 0, 0, 0), 0, 0), (1025, .aload_n 2, 1, (0, 0, 0, 0), 0, 0), (1026, .aload_n 0, 1, (0, 0, 0, 0), 0, 0), (1027, .iload 4, 2, (0, 0, 0, 0), 0, 0), (1029, .iconst 1, 1, (0, 0, 0, 0), 1, 0), (1030, .iadd, 1, (0, 0, 0, 0), 0, 0), (1031, .iaload, 1, (0, 0, 0, 0), 0, 0), (1032, .aload_n 0, 1, (0, 0, 0, 0), 0, 0), (1033, .iload 4, 2, (0, 0, 0, 0), 0, 0), (1035, .iconst 2, 1, (0, 0, 0, 0), 2, 0), (1036, .iadd, 1, (0, 0, 0, 0), 0, 0), (1037, .iaload, 1, (0, 0, 0, 0), 0, 0), (1038, .aload_n 0, 1, (0, 0, 0, 0), 0, 0), (1039, .iload 4, 2, (0, 0, 0, 0), 0, 0), (1041, .iconst 3, 1, (0, 0, 0, 0), 3, 0), (1042, .iadd, 1, (0, 0, 0, 0), 0, 0), (1043, .iaload, 1, (0, 0, 0, 0), 0, 0), (1044, .aload_n 0, 1, (0, 0, 0, 0), 0, 0), (1045, .iload 4, 2, (0, 0, 0, 0), 0, 0), (1047, .iconst 4, 1, (0, 0, 0, 0), 4, 0), (1048, .iadd, 1, (0, 0, 0, 0), 0, 0), (1049, .iaload, 1, (0, 0, 0, 0), 0, 0), (1050, .aload_n 0, 1, (0, 0, 0, 0), 0, 0), (1051, .iload 4, 2, (0, 0, 0, 0), 0, 0), (1053, .iconst 5, 1, (0, 0, 0, 0), 5, 0), (1054, .iadd, 1, (0, 0, 0, 0), 0, 0), (1055, .iaload, 1, (0, 0, 0, 0), 0, 0), (1056, .invokevirtual 137, 3, (217, 6, 0, 1525), 0, 0), (1059, .aload_n 2, 1, (0, 0, 0, 0), 0, 0), (1060, .invokevirtual 98, 3, (158, 1, 0, 1294), 0, 0), (1063, .iload 5, 2, (0, 0, 0, 0), 0, 0), (1065, .if_icmp .eq 5, 3, (1070, 0, 0, 0), 0, 0), (1068, .iconst 0, 1, (0, 0, 0, 0), 0, 0), (1069, .ireturn, 1, (0, 0, 0, 0), 0, 0), (1070, .goto 653, 3, (1723, 0, 0, 0), 0, 0)]
set_option maxRecDepth 16384 in
theorem xl_989_s : xp_235 = xp_235.take 598 ++ (xl_989 ++ xp_235.drop 660) := rfl
set_option maxRecDepth 16384 in
theorem xl_989_a : (xp_235.take 598).all (fun q => Nat.blt q.1 989) = true := by decide +kernel
set_option maxRecDepth 16384 in
theorem xl_989_ok {pc : Nat} {q : XI} (h : xf xl_989 pc = some q) (hl : Nat.ble 989 pc = true) : xf (xcode 235) pc = some q := by
  rw [xl_code, xl_989_s]
  exact xf_mid xl_989_a hl h
set_option maxRecDepth 16384 in
def xl_1073 : List XE := [(1073, .aload_n 1, 1, (0, 0, 0, 0), 0, 0), (1074, .aload_n 0, 1, (0, 0, 0, 0), 0, 0), (1075, .iload 4, 2, (0, 0, 0, 0), 0, 0), (1077, .iconst 1, 1, (0, 0, 0, 0), 1, 0), (1078, .iadd, 1, (0, 0, 0, 0), 0, 0), (1079, .iaload, 1, (0, 0, 0, 0), 0, 0), (1080, .aload_n 0, 1, (0, 0, 0, 0), 0, 0), (1081, .iload 4, 2, (0, 0, 0, 0), 0, 0), (1083, .iconst 2, 1, (0, 0, 0, 0), 2, 0), (1084, .iadd, 1, (0, 0, 0, 0), 0, 0), (1085, .iaload, 1, (0, 0, 0, 0), 0, 0), (1086, .invokestatic 138, 3, (132, 3, 1, 999), 0, 0), (1089, .istore 5, 2, (0, 0, 0, 0), 0, 0), (1091, .aload_n 2, 1, (0, 0, 0, 0), 0, 0), (1092, .aload_n 0, 1, (0, 0, 0, 0), 0, 0), (1093, .iload 4, 2, (0, 0, 0, 0), 0, 0), (1095, .iconst 1, 1, (0, 0, 0, 0), 1, 0), (1096, .iadd, 1, (0, 0, 0, 0), 0, 0), (1097, .iaload, 1, (0, 0, 0, 0), 0, 0), (1098, .aload_n 0, 1, (0, 0, 0, 0), 0, 0), (1099, .iload 4, 2, (0, 0, 0, 0), 0, 0), (1101, .iconst 2, 1, (0, 0, 0, 0), 2, 0), (1102, .iadd, 1, (0, 0, 0, 0), 0, 0), (1103, .iaload, 1, (0, 0, 0, 0), 0, 0), (1104, .invokevirtual 141, 3, (218, 3, 0, 1529), 0, 0), (1107, .aload_n 2, 1, (0, 0, 0, 0), 0, 0), (1108, .invokevirtual 98, 3, (158, 1, 0, 1294), 0, 0), (1111, .iload 5, 2, (0, 0, 0, 0), 0, 0), (1113, .if_icmp .eq 5, 3, (1118, 0, 0, 0), 0, 0), (1116, .iconst 0, 1, (0, 0, 0, 0), 0, 0), (1117, .ireturn, 1, (0, 0, 0, 0), 0, 0), (1118, .goto 605, 3, (1723, 0, 0, 0), 0, 0)]
set_option maxRecDepth 16384 in
theorem xl_1073_s : xp_235 = xp_235.take 660 ++ (xl_1073 ++ xp_235.drop 692) := rfl
set_option maxRecDepth 16384 in
theorem xl_1073_a : (xp_235.take 660).all (fun q => Nat.blt q.1 1073) = true := by decide +kernel
set_option maxRecDepth 16384 in
theorem xl_1073_ok {pc : Nat} {q : XI} (h : xf xl_1073 pc = some q) (hl : Nat.ble 1073 pc = true) : xf (xcode 235) pc = some q := by
  rw [xl_code, xl_1073_s]
  exact xf_mid xl_1073_a hl h
set_option maxRecDepth 16384 in
def xl_1121 : List XE := [(1121, .aload_n 1, 1, (0, 0, 0, 0), 0, 0), (1122, .invokevirtual 142, 3, (50, 1, 0, 402), 0, 0), (1125, .aload_n 2, 1, (0, 0, 0, 0), 0, 0), (1126, .invokevirtual 145, 3, (195, 1, 0, 1421), 0, 0), (1129, .if_icmp .eq 594, 3, (1723, 0, 0, 0), 0, 0), (1132, .iconst 0, 1, (0, 0, 0, 0), 0, 0), (1133, .ireturn, 1, (0, 0, 0, 0), 0, 0)]
set_option maxRecDepth 16384 in
theorem xl_1121_s : xp_235 = xp_235.take 692 ++ (xl_1121 ++ xp_235.drop 699) := rfl
set_option maxRecDepth 16384 in
theorem xl_1121_a : (xp_235.take 692).all (fun q => Nat.blt q.1 1121) = true := by decide +kernel
set_option maxRecDepth 16384 in
theorem xl_1121_ok {pc : Nat} {q : XI} (h : xf xl_1121 pc = some q) (hl : Nat.ble 1121 pc = true) : xf (xcode 235) pc = some q := by
  rw [xl_code, xl_1121_s]
  exact xf_mid xl_1121_a hl h
set_option maxRecDepth 16384 in
def xl_1134 : List XE := [(1134, .aload_n 1, 1, (0, 0, 0, 0), 0, 0), (1135, .aload_n 0, 1, (0, 0, 0, 0), 0, 0), (1136, .iload 4, 2, (0, 0, 0, 0), 0, 0), (1138, .iconst 1, 1, (0, 0, 0, 0), 1, 0), (1139, .iadd, 1, (0, 0, 0, 0), 0, 0), (1140, .iaload, 1, (0, 0, 0, 0), 0, 0), (1141, .invokevirtual 146, 3, (66, 2, 0, 624), 0, 0), (1144, .aload_n 2, 1, (0, 0, 0, 0), 0, 0), (1145, .aload_n 0, 1, (0, 0, 0, 0), 0, 0), (1146, .iload 4, 2, (0, 0, 0, 0), 0, 0), (1148, .iconst 1, 1, (0, 0, 0, 0), 1, 0), (1149, .iadd, 1, (0, 0, 0, 0), 0, 0), (1150, .iaload, 1, (0, 0, 0, 0), 0, 0), (1151, .invokevirtual 149, 3, (220, 2, 0, 1533), 0, 0), (1154, .if_icmp .eq 569, 3, (1723, 0, 0, 0), 0, 0), (1157, .iconst 0, 1, (0, 0, 0, 0), 0, 0), (1158, .ireturn, 1, (0, 0, 0, 0), 0, 0)]
set_option maxRecDepth 16384 in
theorem xl_1134_s : xp_235 = xp_235.take 699 ++ (xl_1134 ++ xp_235.drop 716) := rfl
set_option maxRecDepth 16384 in
theorem xl_1134_a : (xp_235.take 699).all (fun q => Nat.blt q.1 1134) = true := by decide +kernel
set_option maxRecDepth 16384 in
theorem xl_1134_ok {pc : Nat} {q : XI} (h : xf xl_1134 pc = some q) (hl : Nat.ble 1134 pc = true) : xf (xcode 235) pc = some q := by
  rw [xl_code, xl_1134_s]
  exact xf_mid xl_1134_a hl h
set_option maxRecDepth 16384 in
def xl_1159 : List XE := [(1159, .aload_n 1, 1, (0, 0, 0, 0), 0, 0), (1160, .invokevirtual 150, 3, (67, 1, 0, 639), 0, 0), (1163, .aload_n 2, 1, (0, 0, 0, 0), 0, 0), (1164, .invokevirtual 153, 3, (221, 1, 0, 1541), 0, 0), (1167, .if_icmp .eq 556, 3, (1723, 0, 0, 0), 0, 0), (1170, .iconst 0, 1, (0, 0, 0, 0), 0, 0), (1171, .ireturn, 1, (0, 0, 0, 0), 0, 0)]
set_option maxRecDepth 16384 in
theorem xl_1159_s : xp_235 = xp_235.take 716 ++ (xl_1159 ++ xp_235.drop 723) := rfl
set_option maxRecDepth 16384 in
theorem xl_1159_a : (xp_235.take 716).all (fun q => Nat.blt q.1 1159) = true := by decide +kernel
set_option maxRecDepth 16384 in
theorem xl_1159_ok {pc : Nat} {q : XI} (h : xf xl_1159 pc = some q) (hl : Nat.ble 1159 pc = true) : xf (xcode 235) pc = some q := by
  rw [xl_code, xl_1159_s]
  exact xf_mid xl_1159_a hl h
set_option maxRecDepth 16384 in
def xl_1172 : List XE := [(1172, .aload_n 1, 1, (0, 0, 0, 0), 0, 0), (1173, .aload_n 0, 1, (0, 0, 0, 0), 0, 0), (1174, .iload 4, 2, (0, 0, 0, 0), 0, 0), (1176, .iconst 1, 1, (0, 0, 0, 0), 1, 0), (1177, .iadd, 1, (0, 0, 0, 0), 0, 0), (1178, .iaload, 1, (0, 0, 0, 0), 0, 0), (1179, .invokevirtual 154, 3, (69, 2, 0, 643), 0, 0), (1182, .aload_n 2, 1, (0, 0, 0, 0), 0, 0), (1183, .aload_n 0, 1, (0, 0, 0, 0), 0, 0), (1184, .iload 4, 2, (0, 0, 0, 0), 0, 0), (1186, .iconst 1, 1, (0, 0, 0, 0), 1, 0), (1187, .iadd, 1, (0, 0, 0, 0), 0, 0), (1188, .iaload, 1, (0, 0, 0, 0), 0, 0), (1189, .invokevirtual 157, 3, (223, 2, 0, 1545), 0, 0), (1192, .if_icmp .eq 531, 3, (1723, 0, 0, 0), 0, 0), (1195, .iconst 0, 1, (0, 0, 0, 0), 0, 0), (1196, .ireturn, 1, (0, 0, 0, 0), 0, 0)]
set_option maxRecDepth 16384 in
theorem xl_1172_s : xp_235 = xp_235.take 723 ++ (xl_1172 ++ xp_235.drop 740) := rfl
set_option maxRecDepth 16384 in
theorem xl_1172_a : (xp_235.take 723).all (fun q => Nat.blt q.1 1172) = true := by decide +kernel
set_option maxRecDepth 16384 in
theorem xl_1172_ok {pc : Nat} {q : XI} (h : xf xl_1172 pc = some q) (hl : Nat.ble 1172 pc = true) : xf (xcode 235) pc = some q := by
  rw [xl_code, xl_1172_s]
  exact xf_mid xl_1172_a hl h
set_option maxRecDepth 16384 in
def xl_1197 : List XE := [(1197, .aload_n 1, 1, (0, 0, 0, 0), 0, 0), (1198, .aload_n 0, 1, (0, 0, 0, 0), 0, 0), (1199, .iload 4, 2, (0, 0, 0, 0), 0, 0), (1201, .iconst 1, 1, (0, 0, 0, 0), 1, 0), (1202, .iadd, 1, (0, 0, 0, 0), 0, 0), (1203, .iaload, 1, (0, 0, 0, 0), 0, 0), (1204, .invokevirtual 158, 3, (70, 2, 0, 651), 0, 0), (1207, .aload_n 2, 1, (0, 0, 0, 0), 0, 0), (1208, .aload_n 0, 1, (0, 0, 0, 0), 0, 0), (1209, .iload 4, 2, (0, 0, 0, 0), 0, 0), (1211, .iconst 1, 1, (0, 0, 0, 0), 1, 0), (1212, .iadd, 1, (0, 0, 0, 0), 0, 0), (1213, .iaload, 1, (0, 0, 0, 0), 0, 0), (1214, .invokevirtual 161, 3, (224, 2, 0, 1553), 0, 0), (1217, .if_icmp .eq 506, 3, (1723, 0, 0, 0), 0, 0), (1220, .iconst 0, 1, (0, 0, 0, 0), 0, 0), (1221, .ireturn, 1, (0, 0, 0, 0), 0, 0)]
set_option maxRecDepth 16384 in
theorem xl_1197_s : xp_235 = xp_235.take 740 ++ (xl_1197 ++ xp_235.drop 757) := rfl
set_option maxRecDepth 16384 in
theorem xl_1197_a : (xp_235.take 740).all (fun q => Nat.blt q.1 1197) = true := by decide +kernel
set_option maxRecDepth 16384 in
theorem xl_1197_ok {pc : Nat} {q : XI} (h : xf xl_1197 pc = some q) (hl : Nat.ble 1197 pc = true) : xf (xcode 235) pc = some q := by
  rw [xl_code, xl_1197_s]
  exact xf_mid xl_1197_a hl h
set_option maxRecDepth 16384 in
def xl_1222 : List XE := [(1222, .aload_n 1, 1, (0, 0, 0, 0), 0, 0), (1223, .aload_n 0, 1, (0, 0, 0, 0), 0, 0), (1224, .iload 4, 2, (0, 0, 0, 0), 0, 0), (1226, .iconst 1, 1, (0, 0, 0, 0), 1, 0), (1227, .iadd, 1, (0, 0, 0, 0), 0, 0), (1228, .iaload, 1, (0, 0, 0, 0), 0, 0), (1229, .invokevirtual 162, 3, (73, 2, 0, 655), 0, 0), (1232, .aload_n 2, 1, (0, 0, 0, 0), 0, 0), (1233, .aload_n 0, 1, (0, 0, 0, 0), 0, 0), (1234, .iload 4, 2, (0, 0, 0, 0), 0, 0), (1236, .iconst 1, 1, (0, 0, 0, 0), 1, 0), (1237, .iadd, 1, (0, 0, 0, 0), 0, 0), (1238, .iaload, 1, (0, 0, 0, 0), 0, 0), (1239, .invokevirtual 165, 3, (225, 2, 0, 1557), 0, 0), (1242, .if_icmp .eq 481, 3, (1723, 0, 0, 0), 0, 0), (1245, .iconst 0, 1, (0, 0, 0, 0), 0, 0), (1246, .ireturn, 1, (0, 0, 0, 0), 0, 0)]
set_option maxRecDepth 16384 in
theorem xl_1222_s : xp_235 = xp_235.take 757 ++ (xl_1222 ++ xp_235.drop 774) := rfl
set_option maxRecDepth 16384 in
theorem xl_1222_a : (xp_235.take 757).all (fun q => Nat.blt q.1 1222) = true := by decide +kernel
set_option maxRecDepth 16384 in
theorem xl_1222_ok {pc : Nat} {q : XI} (h : xf xl_1222 pc = some q) (hl : Nat.ble 1222 pc = true) : xf (xcode 235) pc = some q := by
  rw [xl_code, xl_1222_s]
  exact xf_mid xl_1222_a hl h
set_option maxRecDepth 16384 in
def xl_1247 : List XE := [(1247, .aload_n 1, 1, (0, 0, 0, 0), 0, 0), (1248, .aload_n 0, 1, (0, 0, 0, 0), 0, 0), (1249, .iload 4, 2, (0, 0, 0, 0), 0, 0), (1251, .iconst 1, 1, (0, 0, 0, 0), 1, 0), (1252, .iadd, 1, (0, 0, 0, 0), 0, 0), (1253, .iaload, 1, (0, 0, 0, 0), 0, 0), (1254, .invokevirtual 166, 3, (60, 2, 0, 572), 0, 0), (1257, .aload_n 2, 1, (0, 0, 0, 0), 0, 0), (1258, .aload_n 0, 1, (0, 0, 0, 0), 0, 0), (1259, .iload 4, 2, (0, 0, 0, 0), 0, 0), (1261, .iconst 1, 1, (0, 0, 0, 0), 1, 0), (1262, .iadd, 1, (0, 0, 0, 0), 0, 0), (1263, .iaload, 1, (0, 0, 0, 0), 0, 0), (1264, .invokevirtual 169, 3, (226, 2, 0, 1561), 0, 0), (1267, .if_icmp .eq 456, 3, (1723, 0, 0, 0), 0, 0), (1270, .iconst 0, 1, (0, 0, 0, 0), 0, 0), (1271, .ireturn, 1, (0, 0, 0, 0), 0, 0)]
set_option maxRecDepth 16384 in
theorem xl_1247_s : xp_235 = xp_235.take 774 ++ (xl_1247 ++ xp_235.drop 791) := rfl
set_option maxRecDepth 16384 in
theorem xl_1247_a : (xp_235.take 774).all (fun q => Nat.blt q.1 1247) = true := by decide +kernel
set_option maxRecDepth 16384 in
theorem xl_1247_ok {pc : Nat} {q : XI} (h : xf xl_1247 pc = some q) (hl : Nat.ble 1247 pc = true) : xf (xcode 235) pc = some q := by
  rw [xl_code, xl_1247_s]
  exact xf_mid xl_1247_a hl h
set_option maxRecDepth 16384 in
def xl_1272 : List XE := [(1272, .aload_n 1, 1, (0, 0, 0, 0), 0, 0), (1273, .invokevirtual 170, 3, (62, 1, 0, 616), 0, 0), (1276, .aload_n 2, 1, (0, 0, 0, 0), 0, 0), (1277, .invokevirtual 173, 3, (196, 1, 0, 1441), 0, 0), (1280, .goto 443, 3, (1723, 0, 0, 0), 0, 0)]
set_option maxRecDepth 16384 in
theorem xl_1272_s : xp_235 = xp_235.take 791 ++ (xl_1272 ++ xp_235.drop 796) := rfl
set_option maxRecDepth 16384 in
theorem xl_1272_a : (xp_235.take 791).all (fun q => Nat.blt q.1 1272) = true := by decide +kernel
set_option maxRecDepth 16384 in
theorem xl_1272_ok {pc : Nat} {q : XI} (h : xf xl_1272 pc = some q) (hl : Nat.ble 1272 pc = true) : xf (xcode 235) pc = some q := by
  rw [xl_code, xl_1272_s]
  exact xf_mid xl_1272_a hl h
set_option maxRecDepth 16384 in
def xl_1283 : List XE := [(1283, .aload_n 1, 1, (0, 0, 0, 0), 0, 0), (1284, .aload_n 0, 1, (0, 0, 0, 0), 0, 0), (1285, .iload 4, 2, (0, 0, 0, 0), 0, 0), (1287, .iconst 1, 1, (0, 0, 0, 0), 1, 0), (1288, .iadd, 1, (0, 0, 0, 0), 0, 0), (1289, .iaload, 1, (0, 0, 0, 0), 0, 0), (1290, .aload_n 3, 1, (0, 0, 0, 0), 0, 0), (1291, .invokestatic 174, 3, (134, 3, 1, 1006), 0, 0), (1294, .istore 5, 2, (0, 0, 0, 0), 0, 0), (1296, .aload_n 2, 1, (0, 0, 0, 0), 0, 0), (1297, .aload_n 0, 1, (0, 0, 0, 0), 0, 0), (1298, .iload 4, 2, (0, 0, 0, 0), 0, 0), (1300, .iconst 1, 1, (0, 0, 0, 0), 1, 0), (1301, .iadd, 1, (0, 0, 0, 0), 0, 0), (1302, .iaload, 1, (0, 0, 0, 0), 0, 0), (1303, .invokevirtual 176, 3, (227, 2, 0, 1565), 0, 0), (1306, .istore 6, 2, (0, 0, 0, 0), 0, 0), (1308, .aload_n 2, 1, (0, 0, 0, 0), 0, 0), (1309, .invokevirtual 98, 3, (158, 1, 0, 1294), 0, 0), (1312, .iload 5, 2, (0, 0, 0, 0), 0, 0), (1314, .if_icmp .eq 5, 3, (1319, 0, 0, 0), 0, 0), (1317, .iconst 0, 1, (0, 0, 0, 0), 0, 0), (1318, .ireturn, 1, (0, 0, 0, 0), 0, 0), (1319, .iload 5, 2, (0, 0, 0, 0), 0, 0), (1321, .ifCond .ne 15, 3, (1336, 0, 0, 0), 0, 0), (1324, .aload_n 3, 1, (0, 0, 0, 0), 0, 0), (1325, .iconst 0, 1, (0, 0, 0, 0), 0, 0), (1326, .laload, 1, (0, 0, 0, 0), 0, 0), (1327, .iload 6, 2, (0, 0, 0, 0), 0, 0), (1329, .i2l, 1, (0, 0, 0, 0), 0, 0), (1330, .lcmp, 1, (0, 0, 0, 0), 0, 0), (1331, .ifCond .eq 5, 3, (1336, 0, 0, 0), 0, 0), (1334, .iconst 0, 1, (0, 0, 0, 0), 0, 0), (1335, .ireturn, 1, (0, 0, 0, 0), 0, 0), (1336, .goto 387, 3, (1723, 0, 0, 0), 0, 0)]
set_option maxRecDepth 16384 in
theorem xl_1283_s : xp_235 = xp_235.take 796 ++ (xl_1283 ++ xp_235.drop 831) := rfl
set_option maxRecDepth 16384 in
theorem xl_1283_a : (xp_235.take 796).all (fun q => Nat.blt q.1 1283) = true := by decide +kernel
set_option maxRecDepth 16384 in
theorem xl_1283_ok {pc : Nat} {q : XI} (h : xf xl_1283 pc = some q) (hl : Nat.ble 1283 pc = true) : xf (xcode 235) pc = some q := by
  rw [xl_code, xl_1283_s]
  exact xf_mid xl_1283_a hl h
set_option maxRecDepth 16384 in
def xl_1339 : List XE := [(1339, .aload_n 1, 1, (0, 0, 0, 0), 0, 0), (1340, .aload_n 0, 1, (0, 0, 0, 0), 0, 0), (1341, .iload 4, 2, (0, 0, 0, 0), 0, 0), (1343, .iconst 1, 1, (0, 0, 0, 0), 1, 0), (1344, .iadd, 1, (0, 0, 0, 0), 0, 0), (1345, .iaload, 1, (0, 0, 0, 0), 0, 0), (1346, .aload_n 0, 1, (0, 0, 0, 0), 0, 0), (1347, .iload 4, 2, (0, 0, 0, 0), 0, 0), (1349, .iconst 2, 1, (0, 0, 0, 0), 2, 0), (1350, .iadd, 1, (0, 0, 0, 0), 0, 0), (1351, .iaload, 1, (0, 0, 0, 0), 0, 0), (1352, .aload_n 3, 1, (0, 0, 0, 0), 0, 0), (1353, .invokestatic 177, 3, (136, 4, 1, 1014), 0, 0), (1356, .istore 5, 2, (0, 0, 0, 0), 0, 0), (1358, .aload_n 2, 1, (0, 0, 0, 0), 0, 0), (1359, .aload_n 0, 1, (0, 0, 0, 0), 0, 0), (1360, .iload 4, 2, (0, 0, 0, 0), 0, 0), (1362, .iconst 1, 1, (0, 0, 0, 0), 1, 0), (1363, .iadd, 1, (0, 0, 0, 0), 0, 0), (1364, .iaload, 1, (0, 0, 0, 0), 0, 0), (1365, .aload_n 0, 1, (0, 0, 0, 0), 0, 0), (1366, .iload 4, 2, (0, 0, 0, 0), 0, 0), (1368, .iconst 2, 1, (0, 0, 0, 0), 2, 0), (1369, .iadd, 1, (0, 0, 0, 0), 0, 0), (1370, .iaload, 1, (0, 0, 0, 0), 0, 0), (1371, .invokevirtual 180, 3, (228, 3, 0, 1569), 0, 0), (1374, .istore 6, 2, (0, 0, 0, 0), 0, 0), (1376, .aload_n 2, 1, (0, 0, 0, 0), 0, 0), (1377, .invokevirtual 98, 3, (158, 1, 0, 1294), 0, 0), (1380, .iload 5, 2, (0, 0, 0, 0), 0, 0), (1382, .if_icmp .eq 5, 3, (1387, 0, 0, 0), 0, 0), (1385, .iconst 0, 1, (0, 0, 0, 0), 0, 0), (1386, .ireturn, 1, (0, 0, 0, 0), 0, 0), (1387, .iload 5, 2, (0, 0, 0, 0), 0, 0), (1389, .ifCond .ne 15, 3, (1404, 0, 0, 0), 0, 0), (1392, .aload_n 3, 1, (0, 0, 0, 0), 0, 0), (1393, .iconst 0, 1, (0, 0, 0, 0), 0, 0), (1394, .laload, 1, (0, 0, 0, 0), 0, 0), (1395, .iload 6, 2, (0, 0, 0, 0), 0, 0), (1397, .i2l, 1, (0, 0, 0, 0), 0, 0), (1398, .lcmp, 1, (0, 0, 0, 0), 0, 0), (1399, .ifCond .eq 5, 3, (1404, 0, 0, 0), 0, 0), (1402, .iconst 0, 1, (0, 0, 0, 0), 0, 0), (1403, .ireturn, 1, (0, 0, 0, 0), 0, 0), (1404, .goto 319, 3, (1723, 0, 0, 0), 0, 0)]
set_option maxRecDepth 16384 in
theorem xl_1339_s : xp_235 = xp_235.take 831 ++ (xl_1339 ++ xp_235.drop 876) := rfl
set_option maxRecDepth 16384 in
theorem xl_1339_a : (xp_235.take 831).all (fun q => Nat.blt q.1 1339) = true := by decide +kernel
set_option maxRecDepth 16384 in
theorem xl_1339_ok {pc : Nat} {q : XI} (h : xf xl_1339 pc = some q) (hl : Nat.ble 1339 pc = true) : xf (xcode 235) pc = some q := by
  rw [xl_code, xl_1339_s]
  exact xf_mid xl_1339_a hl h
set_option maxRecDepth 16384 in
def xl_1407 : List XE := [(1407, .aload_n 1, 1, (0, 0, 0, 0), 0, 0), (1408, .aload_n 0, 1, (0, 0, 0, 0), 0, 0), (1409, .iload 4, 2, (0, 0, 0, 0), 0, 0), (1411, .iconst 1, 1, (0, 0, 0, 0), 1, 0), (1412, .iadd, 1, (0, 0, 0, 0), 0, 0), (1413, .iaload, 1, (0, 0, 0, 0), 0, 0), (1414, .aload_n 0, 1, (0, 0, 0, 0), 0, 0), (1415, .iload 4, 2, (0, 0, 0, 0), 0, 0), (1417, .iconst 2, 1, (0, 0, 0, 0), 2, 0), (1418, .iadd, 1, (0, 0, 0, 0), 0, 0), (1419, .iaload, 1, (0, 0, 0, 0), 0, 0), (1420, .aload_n 3, 1, (0, 0, 0, 0), 0, 0), (1421, .invokestatic 181, 3, (138, 4, 1, 1023), 0, 0), (1424, .istore 5, 2, (0, 0, 0, 0), 0, 0), (1426, .aload_n 2, 1, (0, 0, 0, 0), 0, 0), (1427, .aload_n 0, 1, (0, 0, 0, 0), 0, 0), (1428, .iload 4, 2, (0, 0, 0, 0), 0, 0), (1430, .iconst 1, 1, (0, 0, 0, 0), 1, 0), (1431, .iadd, 1, (0, 0, 0, 0), 0, 0), (1432, .iaload, 1, (0, 0, 0, 0), 0, 0), (1433, .aload_n 0, 1, (0, 0, 0, 0), 0, 0), (1434, .iload 4, 2, (0, 0, 0, 0), 0, 0), (1436, .iconst 2, 1, (0, 0, 0, 0), 2, 0), (1437, .iadd, 1, (0, 0, 0, 0), 0, 0), (1438, .iaload, 1, (0, 0, 0, 0), 0, 0), (1439, .invokevirtual 183, 3, (229, 3, 0, 1573), 0, 0), (1442, .istore 6, 2, (0, 0, 0, 0), 0, 0), (1444, .aload_n 2, 1, (0, 0, 0, 0), 0, 0), (1445, .invokevirtual 98, 3, (158, 1, 0, 1294), 0, 0), (1448, .iload 5, 2, (0, 0, 0, 0), 0, 0), (1450, .if_icmp .eq 5, 3, (1455, 0, 0, 0), 0, 0), (1453, .iconst 0, 1, (0, 0, 0, 0), 0, 0), (1454, .ireturn, 1, (0, 0, 0, 0), 0, 0), (1455, .iload 5, 2, (0, 0, 0, 0), 0, 0), (1457, .ifCond .ne 15, 3, (1472, 0, 0, 0), 0, 0), (1460, .aload_n 3, 1, (0, 0, 0, 0), 0, 0), (1461, .iconst 0, 1, (0, 0, 0, 0), 0, 0), (1462, .laload, 1, (0, 0, 0, 0), 0, 0), (1463, .iload 6, 2, (0, 0, 0, 0), 0, 0), (1465, .i2l, 1, (0, 0, 0, 0), 0, 0), (1466, .lcmp, 1, (0, 0, 0, 0), 0, 0), (1467, .ifCond .eq 5, 3, (1472, 0, 0, 0), 0, 0), (1470, .iconst 0, 1, (0, 0, 0, 0), 0, 0), (1471, .ireturn, 1, (0, 0, 0, 0), 0, 0), (1472, .goto 251, 3, (1723, 0, 0, 0), 0, 0)]
set_option maxRecDepth 16384 in
theorem xl_1407_s : xp_235 = xp_235.take 876 ++ (xl_1407 ++ xp_235.drop 921) := rfl
set_option maxRecDepth 16384 in
theorem xl_1407_a : (xp_235.take 876).all (fun q => Nat.blt q.1 1407) = true := by decide +kernel
set_option maxRecDepth 16384 in
theorem xl_1407_ok {pc : Nat} {q : XI} (h : xf xl_1407 pc = some q) (hl : Nat.ble 1407 pc = true) : xf (xcode 235) pc = some q := by
  rw [xl_code, xl_1407_s]
  exact xf_mid xl_1407_a hl h
set_option maxRecDepth 16384 in
def xl_1475 : List XE := [(1475, .aload_n 1, 1, (0, 0, 0, 0), 0, 0), (1476, .aload_n 0, 1, (0, 0, 0, 0), 0, 0), (1477, .iload 4, 2, (0, 0, 0, 0), 0, 0), (1479, .iconst 1, 1, (0, 0, 0, 0), 1, 0), (1480, .iadd, 1, (0, 0, 0, 0), 0, 0), (1481, .iaload, 1, (0, 0, 0, 0), 0, 0), (1482, .aload_n 0, 1, (0, 0, 0, 0), 0, 0), (1483, .iload 4, 2, (0, 0, 0, 0), 0, 0), (1485, .iconst 2, 1, (0, 0, 0, 0), 2, 0), (1486, .iadd, 1, (0, 0, 0, 0), 0, 0), (1487, .iaload, 1, (0, 0, 0, 0), 0, 0), (1488, .aload_n 3, 1, (0, 0, 0, 0), 0, 0), (1489, .invokestatic 184, 3, (142, 4, 1, 1032), 0, 0), (1492, .istore 5, 2, (0, 0, 0, 0), 0, 0), (1494, .aload_n 2, 1, (0, 0, 0, 0), 0, 0), (1495, .aload_n 0, 1, (0, 0, 0, 0), 0, 0), (1496, .iload 4, 2, (0, 0, 0, 0), 0, 0), (1498, .iconst 1, 1, (0, 0, 0, 0), 1, 0), (1499, .iadd, 1, (0, 0, 0, 0), 0, 0), (1500, .iaload, 1, (0, 0, 0, 0), 0, 0), (1501, .aload_n 0, 1, (0, 0, 0, 0), 0, 0), (1502, .iload 4, 2, (0, 0, 0, 0), 0, 0), (1504, .iconst 2, 1, (0, 0, 0, 0), 2, 0), (1505, .iadd, 1, (0, 0, 0, 0), 0, 0), (1506, .iaload, 1, (0, 0, 0, 0), 0, 0), (1507, .invokevirtual 186, 3, (230, 3, 0, 1577), 0, 0), (1510, .istore 6, 2, (0, 0, 0, 0), 0, 0), (1512, .aload_n 2, 1, (0, 0, 0, 0), 0, 0), (1513, .invokevirtual 98, 3, (158, 1, 0, 1294), 0, 0), (1516, .iload 5, 2, (0, 0, 0, 0), 0, 0), (1518, .if_icmp .eq 5, 3, (1523, 0, 0, 0), 0, 0), (1521, .iconst 0, 1, (0, 0, 0, 0), 0, 0), (1522, .ireturn, 1, (0, 0, 0, 0), 0, 0), (1523, .iload 5, 2, (0, 0, 0, 0), 0, 0), (1525, .ifCond .ne 15, 3, (1540, 0, 0, 0), 0, 0), (1528, .aload_n 3, 1, (0, 0, 0, 0), 0, 0), (1529, .iconst 0, 1, (0, 0, 0, 0), 0, 0), (1530, .laload, 1, (0, 0, 0, 0), 0, 0), (1531, .iload 6, 2, (0, 0, 0, 0), 0, 0), (1533, .i2l, 1, (0, 0, 0, 0), 0, 0), (1534, .lcmp, 1, (0, 0, 0, 0), 0, 0), (1535, .ifCond .eq 5, 3, (1540, 0, 0, 0), 0, 0), (1538, .iconst 0, 1, (0, 0, 0, 0), 0, 0), (1539, .ireturn, 1, (0, 0, 0, 0), 0, 0), (1540, .goto 183, 3, (1723, 0, 0, 0), 0, 0)]
set_option maxRecDepth 16384 in
theorem xl_1475_s : xp_235 = xp_235.take 921 ++ (xl_1475 ++ xp_235.drop 966) := rfl
set_option maxRecDepth 16384 in
theorem xl_1475_a : (xp_235.take 921).all (fun q => Nat.blt q.1 1475) = true := by decide +kernel
set_option maxRecDepth 16384 in
theorem xl_1475_ok {pc : Nat} {q : XI} (h : xf xl_1475 pc = some q) (hl : Nat.ble 1475 pc = true) : xf (xcode 235) pc = some q := by
  rw [xl_code, xl_1475_s]
  exact xf_mid xl_1475_a hl h
set_option maxRecDepth 16384 in
def xl_1543 : List XE := [(1543, .aload_n 1, 1, (0, 0, 0, 0), 0, 0), (1544, .aload_n 0, 1, (0, 0, 0, 0), 0, 0), (1545, .iload 4, 2, (0, 0, 0, 0), 0, 0), (1547, .iconst 1, 1, (0, 0, 0, 0), 1, 0), (1548, .iadd, 1, (0, 0, 0, 0), 0, 0), (1549, .iaload, 1, (0, 0, 0, 0), 0, 0), (1550, .aload_n 0, 1, (0, 0, 0, 0), 0, 0), (1551, .iload 4, 2, (0, 0, 0, 0), 0, 0), (1553, .iconst 2, 1, (0, 0, 0, 0), 2, 0), (1554, .iadd, 1, (0, 0, 0, 0), 0, 0), (1555, .iaload, 1, (0, 0, 0, 0), 0, 0), (1556, .aload_n 3, 1, (0, 0, 0, 0), 0, 0), (1557, .invokestatic 187, 3, (147, 4, 1, 1049), 0, 0), (1560, .istore 5, 2, (0, 0, 0, 0), 0, 0), (1562, .aload_n 2, 1, (0, 0, 0, 0), 0, 0), (1563, .aload_n 0, 1, (0, 0, 0, 0), 0, 0), (1564, .iload 4, 2, (0, 0, 0, 0), 0, 0), (1566, .iconst 1, 1, (0, 0, 0, 0), 1, 0), (1567, .iadd, 1, (0, 0, 0, 0), 0, 0), (1568, .iaload, 1, (0, 0, 0, 0), 0, 0), (1569, .aload_n 0, 1, (0, 0, 0, 0), 0, 0), (1570, .iload 4, 2, (0, 0, 0, 0), 0, 0), (1572, .iconst 2, 1, (0, 0, 0, 0), 2, 0), (1573, .iadd, 1, (0, 0, 0, 0), 0, 0), (1574, .iaload, 1, (0, 0, 0, 0), 0, 0), (1575, .invokevirtual 189, 3, (231, 3, 0, 1581), 0, 0), (1578, .istore 6, 2, (0, 0, 0, 0), 0, 0), (1580, .aload_n 2, 1, (0, 0, 0, 0), 0, 0), (1581, .invokevirtual 98, 3, (158, 1, 0, 1294), 0, 0), (1584, .iload 5, 2, (0, 0, 0, 0), 0, 0), (1586, .if_icmp .eq 5, 3, (1591, 0, 0, 0), 0, 0), (1589, .iconst 0, 1, (0, 0, 0, 0), 0, 0), (1590, .ireturn, 1, (0, 0, 0, 0), 0, 0), (1591, .iload 5, 2, (0, 0, 0, 0), 0, 0), (1593, .ifCond .ne 15, 3, (1608, 0, 0, 0), 0, 0), (1596, .aload_n 3, 1, (0, 0, 0, 0), 0, 0), (1597, .iconst 0, 1, (0, 0, 0, 0), 0, 0), (1598, .laload, 1, (0, 0, 0, 0), 0, 0), (1599, .iload 6, 2, (0, 0, 0, 0), 0, 0), (1601, .i2l, 1, (0, 0, 0, 0), 0, 0), (1602, .lcmp, 1, (0, 0, 0, 0), 0, 0), (1603, .ifCond .eq 5, 3, (1608, 0, 0, 0), 0, 0), (1606, .iconst 0, 1, (0, 0, 0, 0), 0, 0), (1607, .ireturn, 1, (0, 0, 0, 0), 0, 0), (1608, .goto 115, 3, (1723, 0, 0, 0), 0, 0)]
set_option maxRecDepth 16384 in
theorem xl_1543_s : xp_235 = xp_235.take 966 ++ (xl_1543 ++ xp_235.drop 1011) := rfl
set_option maxRecDepth 16384 in
theorem xl_1543_a : (xp_235.take 966).all (fun q => Nat.blt q.1 1543) = true := by decide +kernel
set_option maxRecDepth 16384 in
theorem xl_1543_ok {pc : Nat} {q : XI} (h : xf xl_1543 pc = some q) (hl : Nat.ble 1543 pc = true) : xf (xcode 235) pc = some q := by
  rw [xl_code, xl_1543_s]
  exact xf_mid xl_1543_a hl h
set_option maxRecDepth 16384 in
def xl_1611 : List XE := [(1611, .aload_n 1, 1, (0, 0, 0, 0), 0, 0), (1612, .aload_n 0, 1, (0, 0, 0, 0), 0, 0), (1613, .iload 4, 2, (0, 0, 0, 0), 0, 0), (1615, .iconst 1, 1, (0, 0, 0, 0), 1, 0), (1616, .iadd, 1, (0, 0, 0, 0), 0, 0), (1617, .iaload, 1, (0, 0, 0, 0), 0, 0), (1618, .aload_n 3, 1, (0, 0, 0, 0), 0, 0), (1619, .invokestatic 190, 3, (152, 3, 1, 1069), 0, 0), (1622, .istore 5, 2, (0, 0, 0, 0), 0, 0), (1624, .aload_n 2, 1, (0, 0, 0, 0), 0, 0), (1625, .aload_n 0, 1, (0, 0, 0, 0), 0, 0), (1626, .iload 4, 2, (0, 0, 0, 0), 0, 0), (1628, .iconst 1, 1, (0, 0, 0, 0), 1, 0), (1629, .iadd, 1, (0, 0, 0, 0), 0, 0), (1630, .iaload, 1, (0, 0, 0, 0), 0, 0), (1631, .invokevirtual 192, 3, (233, 2, 0, 1585), 0, 0), (1634, .istore 6, 2, (0, 0, 0, 0), 0, 0), (1636, .aload_n 2, 1, (0, 0, 0, 0), 0, 0), (1637, .invokevirtual 98, 3, (158, 1, 0, 1294), 0, 0), (1640, .iload 5, 2, (0, 0, 0, 0), 0, 0), (1642, .if_icmp .eq 5, 3, (1647, 0, 0, 0), 0, 0), (1645, .iconst 0, 1, (0, 0, 0, 0), 0, 0), (1646, .ireturn, 1, (0, 0, 0, 0), 0, 0), (1647, .iload 5, 2, (0, 0, 0, 0), 0, 0), (1649, .ifCond .ne 15, 3, (1664, 0, 0, 0), 0, 0), (1652, .aload_n 3, 1, (0, 0, 0, 0), 0, 0), (1653, .iconst 0, 1, (0, 0, 0, 0), 0, 0), (1654, .laload, 1, (0, 0, 0, 0), 0, 0), (1655, .iload 6, 2, (0, 0, 0, 0), 0, 0), (1657, .i2l, 1, (0, 0, 0, 0), 0, 0), (1658, .lcmp, 1, (0, 0, 0, 0), 0, 0), (1659, .ifCond .eq 5, 3, (1664, 0, 0, 0), 0, 0), (1662, .iconst 0, 1, (0, 0, 0, 0), 0, 0), (1663, .ireturn, 1, (0, 0, 0, 0), 0, 0), (1664, .goto 59, 3, (1723, 0, 0, 0), 0, 0)]
set_option maxRecDepth 16384 in
theorem xl_1611_s : xp_235 = xp_235.take 1011 ++ (xl_1611 ++ xp_235.drop 1046) := rfl
set_option maxRecDepth 16384 in
theorem xl_1611_a : (xp_235.take 1011).all (fun q => Nat.blt q.1 1611) = true := by decide +kernel
set_option maxRecDepth 16384 in
theorem xl_1611_ok {pc : Nat} {q : XI} (h : xf xl_1611 pc = some q) (hl : Nat.ble 1611 pc = true) : xf (xcode 235) pc = some q := by
  rw [xl_code, xl_1611_s]
  exact xf_mid xl_1611_a hl h
set_option maxRecDepth 16384 in
def xl_1667 : List XE := [(1667, .aload_n 1, 1, (0, 0, 0, 0), 0, 0), (1668, .aload_n 0, 1, (0, 0, 0, 0), 0, 0), (1669, .iload 4, 2, (0, 0, 0, 0), 0, 0), (1671, .iconst 1, 1, (0, 0, 0, 0), 1, 0), (1672, .iadd, 1, (0, 0, 0, 0), 0, 0), (1673, .iaload, 1, (0, 0, 0, 0), 0, 0), (1674, .aload_n 3, 1, (0, 0, 0, 0), 0, 0), (1675, .invokestatic 193, 3, (155, 3, 1, 1089), 0, 0), (1678, .istore 5, 2, (0, 0, 0, 0), 0, 0), (1680, .aload_n 2, 1, (0, 0, 0, 0), 0, 0), (1681, .aload_n 0, 1, (0, 0, 0, 0), 0, 0), (1682, .iload 4, 2, (0, 0, 0, 0), 0, 0), (1684, .iconst 1, 1, (0, 0, 0, 0), 1, 0), (1685, .iadd, 1, (0, 0, 0, 0), 0, 0), (1686, .iaload, 1, (0, 0, 0, 0), 0, 0), (1687, .invokevirtual 195, 3, (234, 2, 0, 1593), 0, 0), (1690, .istore 6, 2, (0, 0, 0, 0), 0, 0), (1692, .aload_n 2, 1, (0, 0, 0, 0), 0, 0), (1693, .invokevirtual 98, 3, (158, 1, 0, 1294), 0, 0), (1696, .iload 5, 2, (0, 0, 0, 0), 0, 0), (1698, .if_icmp .eq 5, 3, (1703, 0, 0, 0), 0, 0), (1701, .iconst 0, 1, (0, 0, 0, 0), 0, 0), (1702, .ireturn, 1, (0, 0, 0, 0), 0, 0), (1703, .iload 5, 2, (0, 0, 0, 0), 0, 0), (1705, .ifCond .ne 15, 3, (1720, 0, 0, 0), 0, 0), (1708, .aload_n 3, 1, (0, 0, 0, 0), 0, 0), (1709, .iconst 0, 1, (0, 0, 0, 0), 0, 0), (1710, .laload, 1, (0, 0, 0, 0), 0, 0), (1711, .iload 6, 2, (0, 0, 0, 0), 0, 0), (1713, .i2l, 1, (0, 0, 0, 0), 0, 0), (1714, .lcmp, 1, (0, 0, 0, 0), 0, 0), (1715, .ifCond .eq 5, 3, (1720, 0, 0, 0), 0, 0), (1718, .iconst 0, 1, (0, 0, 0, 0), 0, 0), (1719, .ireturn, 1, (0, 0, 0, 0), 0, 0), (1720, .goto 3, 3, (1723, 0, 0, 0), 0, 0)]
set_option maxRecDepth 16384 in
theorem xl_1667_s : xp_235 = xp_235.take 1046 ++ (xl_1667 ++ xp_235.drop 1081) := rfl
set_option maxRecDepth 16384 in
theorem xl_1667_a : (xp_235.take 1046).all (fun q => Nat.blt q.1 1667) = true := by decide +kernel
set_option maxRecDepth 16384 in
theorem xl_1667_ok {pc : Nat} {q : XI} (h : xf xl_1667 pc = some q) (hl : Nat.ble 1667 pc = true) : xf (xcode 235) pc = some q := by
  rw [xl_code, xl_1667_s]
  exact xf_mid xl_1667_a hl h
set_option maxRecDepth 16384 in
def xl_1723 : List XE := [(1723, .iinc 4 7, 3, (0, 0, 0, 0), 7, 0), (1726, .goto (-1671), 3, (55, 0, 0, 0), 0, 0), (1729, .iconst 1, 1, (0, 0, 0, 0), 1, 0), (1730, .ireturn, 1, (0, 0, 0, 0), 0, 0)]
set_option maxRecDepth 16384 in
theorem xl_1723_s : xp_235 = xp_235.take 1081 ++ (xl_1723 ++ xp_235.drop 1085) := rfl
set_option maxRecDepth 16384 in
theorem xl_1723_a : (xp_235.take 1081).all (fun q => Nat.blt q.1 1723) = true := by decide +kernel
set_option maxRecDepth 16384 in
theorem xl_1723_ok {pc : Nat} {q : XI} (h : xf xl_1723 pc = some q) (hl : Nat.ble 1723 pc = true) : xf (xcode 235) pc = some q := by
  rw [xl_code, xl_1723_s]
  exact xf_mid xl_1723_a hl h
set_option maxRecDepth 16384 in
def yW_law_b1723 (L : Nat) (xs : Nat → Int32) (k55 : Int32 → XMu → XRes) (x4 : Int32) (μ : XMu) : XRes := k55 (x4 + (7 : Int32)) μ
set_option maxRecDepth 16384 in
theorem yW_law_b1723_ok {L : Nat} {xs : Nat → Int32} (k55 : Int32 → XMu → XRes) (hk55 : ∀ (d5 : Option Int32) (d6 : Option Int32) (x4 : Int32) (μ : XMu), XB L xs 235 55 [some (.ref 1000), some (.ref 0), some (.ref 32), some (.ref 56), some (.int x4), (xdl d5), (xdl d6)] [] μ (k55 x4 μ)) (d5 : Option Int32) (d6 : Option Int32) (x4 : Int32) (μ : XMu) : XB L xs 235 1723 [some (.ref 1000), some (.ref 0), some (.ref 32), some (.ref 56), some (.int x4), (xdl d5), (xdl d6)] [] μ (yW_law_b1723 L xs k55 x4 μ) := by
  unfold yW_law_b1723
  refine XB.goC (lo := 1723) (C := xl_1723) xl_1723_ok 2 (pc' := 55) (ls' := [some (.ref 1000), some (.ref 0), some (.ref 32), some (.ref 56), some (.int (x4 + (7 : Int32))), (xdl d5), (xdl d6)]) (st' := []) (μ' := μ) rfl ?_
  exact hk55 (d5) (d6) (x4 + (7 : Int32)) μ
set_option maxRecDepth 16384 in
def yW_law_b196 (L : Nat) (xs : Nat → Int32) (k55 : Int32 → XMu → XRes) (x4 : Int32) (μ : XMu) : XRes := xgd (xin (x4 + (1 : Int32)) L) (xbi (yW_tick (xs ((x4 + (1 : Int32))).toNatClampNeg) μ) (fun r2 m1 => xgd (xin (x4 + (1 : Int32)) L) (xbi (yM_tick (xs ((x4 + (1 : Int32))).toNatClampNeg) m1) (fun r4 m3 => (if (yM_thrown m3) = r2 then (if ¬ r2 = (0 : Int32) then yW_law_b1723 L xs k55 x4 m3 else (if r4 = (0 : Int32) then (if (lg_cmp (m3.2.2 56 0) (0 : Int64)) = (0 : Int32) then yW_law_b1723 L xs k55 x4 m3 else some (.inl (some (.int (0 : Int32))), m3)) else (if (lg_cmp (m3.2.2 56 0) (1 : Int64)) = (0 : Int32) then yW_law_b1723 L xs k55 x4 m3 else some (.inl (some (.int (0 : Int32))), m3)))) else some (.inl (some (.int (0 : Int32))), m3))))))
set_option maxRecDepth 16384 in
theorem yW_law_b196_ok {L : Nat} {xs : Nat → Int32} (k55 : Int32 → XMu → XRes) (hk55 : ∀ (d5 : Option Int32) (d6 : Option Int32) (x4 : Int32) (μ : XMu), XB L xs 235 55 [some (.ref 1000), some (.ref 0), some (.ref 32), some (.ref 56), some (.int x4), (xdl d5), (xdl d6)] [] μ (k55 x4 μ)) (d5 : Option Int32) (d6 : Option Int32) (x4 : Int32) (μ : XMu) : XB L xs 235 196 [some (.ref 1000), some (.ref 0), some (.ref 32), some (.ref 56), some (.int x4), (xdl d5), (xdl d6)] [] μ (yW_law_b196 L xs k55 x4 μ) := by
  unfold yW_law_b196
  refine XB.goC (lo := 196) (C := xl_196) xl_196_ok 5 (pc' := 202) (ls' := [some (.ref 1000), some (.ref 0), some (.ref 32), some (.ref 56), some (.int x4), (xdl d5), (xdl d6)]) (st' := [(.int (x4 + (1 : Int32))), (.ref 1000), (.ref 0)]) (μ' := μ) rfl ?_
  refine XB.scr (xl_196_ok rfl rfl) ?_
  refine XB.goC (lo := 196) (C := xl_196) xl_196_ok 1 (pc' := 204) (ls' := [some (.ref 1000), some (.ref 0), some (.ref 32), some (.ref 56), some (.int x4), (xdl d5), (xdl d6)]) (st' := [(.ref 56), (.int (xs ((x4 + (1 : Int32))).toNatClampNeg)), (.ref 0)]) (μ' := μ) rfl ?_
  refine XB.ci (xl_196_ok rfl rfl) rfl rfl rfl rfl (yW_tick_ok (xs ((x4 + (1 : Int32))).toNatClampNeg) μ) (fun r2 m1 => ?_)
  refine XB.goC (lo := 196) (C := xl_196) xl_196_ok 6 (pc' := 215) (ls' := [some (.ref 1000), some (.ref 0), some (.ref 32), some (.ref 56), some (.int x4), some (.int r2), (xdl d6)]) (st' := [(.int (x4 + (1 : Int32))), (.ref 1000), (.ref 32)]) (μ' := m1) rfl ?_
  refine XB.scr (xl_196_ok rfl rfl) ?_
  refine XB.ci (xl_196_ok rfl rfl) rfl rfl rfl rfl (yM_tick_ok (xs ((x4 + (1 : Int32))).toNatClampNeg) m1) (fun r4 m3 => ?_)
  refine XB.goC (lo := 196) (C := xl_196) xl_196_ok 2 (pc' := 222) (ls' := [some (.ref 1000), some (.ref 0), some (.ref 32), some (.ref 56), some (.int x4), some (.int r2), some (.int r4)]) (st' := [(.ref 32)]) (μ' := m3) rfl ?_
  refine XB.cp (xl_196_ok rfl rfl) rfl rfl (yM_thrown_ok m3) ?_
  refine XB.goC (lo := 196) (C := xl_196) xl_196_ok 1 (pc' := 227) (ls' := [some (.ref 1000), some (.ref 0), some (.ref 32), some (.ref 56), some (.int x4), some (.int r2), some (.int r4)]) (st' := [(.int r2), (.int (yM_thrown m3))]) (μ' := m3) rfl ?_
  refine XB.icmp (P := (yM_thrown m3) = r2) (xl_196_ok rfl rfl) rfl rfl (fun c227 => ?_) (fun c227 => ?_)
  · refine XB.goC (lo := 196) (C := xl_196) xl_196_ok 1 (pc' := 234) (ls' := [some (.ref 1000), some (.ref 0), some (.ref 32), some (.ref 56), some (.int x4), some (.int r2), some (.int r4)]) (st' := [(.int r2)]) (μ' := m3) rfl ?_
    refine XB.ifz (P := ¬ r2 = (0 : Int32)) (xl_196_ok rfl rfl) rfl rfl (fun c234 => ?_) (fun c234 => ?_)
    · refine XB.goC (lo := 196) (C := xl_196) xl_196_ok 1 (pc' := 1723) (ls' := [some (.ref 1000), some (.ref 0), some (.ref 32), some (.ref 56), some (.int x4), some (.int r2), some (.int r4)]) (st' := []) (μ' := m3) rfl ?_
      exact yW_law_b1723_ok k55 hk55 (some r2) (some r4) x4 m3
    · refine XB.goC (lo := 196) (C := xl_196) xl_196_ok 4 (pc' := 242) (ls' := [some (.ref 1000), some (.ref 0), some (.ref 32), some (.ref 56), some (.int x4), some (.int r2), some (.int r4)]) (st' := [(.int r4), (.long (m3.2.2 56 0))]) (μ' := m3) rfl ?_
      refine XB.ifz (P := r4 = (0 : Int32)) (xl_196_ok rfl rfl) rfl rfl (fun c242 => ?_) (fun c242 => ?_)
      · refine XB.goC (lo := 196) (C := xl_196) xl_196_ok 2 (pc' := 251) (ls' := [some (.ref 1000), some (.ref 0), some (.ref 32), some (.ref 56), some (.int x4), some (.int r2), some (.int r4)]) (st' := [(.int (lg_cmp (m3.2.2 56 0) (0 : Int64)))]) (μ' := m3) rfl ?_
        refine XB.ifz (P := (lg_cmp (m3.2.2 56 0) (0 : Int64)) = (0 : Int32)) (xl_196_ok rfl rfl) rfl rfl (fun c251 => ?_) (fun c251 => ?_)
        · refine XB.goC (lo := 196) (C := xl_196) xl_196_ok 1 (pc' := 1723) (ls' := [some (.ref 1000), some (.ref 0), some (.ref 32), some (.ref 56), some (.int x4), some (.int r2), some (.int r4)]) (st' := []) (μ' := m3) rfl ?_
          exact yW_law_b1723_ok k55 hk55 (some r2) (some r4) x4 m3
        · refine XB.goC (lo := 196) (C := xl_196) xl_196_ok 1 (pc' := 255) (ls' := [some (.ref 1000), some (.ref 0), some (.ref 32), some (.ref 56), some (.int x4), some (.int r2), some (.int r4)]) (st' := [(.int (0 : Int32))]) (μ' := m3) rfl ?_
          exact XB.retp (xl_196_ok rfl rfl) rfl rfl rfl
      · refine XB.goC (lo := 196) (C := xl_196) xl_196_ok 3 (pc' := 251) (ls' := [some (.ref 1000), some (.ref 0), some (.ref 32), some (.ref 56), some (.int x4), some (.int r2), some (.int r4)]) (st' := [(.int (lg_cmp (m3.2.2 56 0) (1 : Int64)))]) (μ' := m3) rfl ?_
        refine XB.ifz (P := (lg_cmp (m3.2.2 56 0) (1 : Int64)) = (0 : Int32)) (xl_196_ok rfl rfl) rfl rfl (fun c251 => ?_) (fun c251 => ?_)
        · refine XB.goC (lo := 196) (C := xl_196) xl_196_ok 1 (pc' := 1723) (ls' := [some (.ref 1000), some (.ref 0), some (.ref 32), some (.ref 56), some (.int x4), some (.int r2), some (.int r4)]) (st' := []) (μ' := m3) rfl ?_
          exact yW_law_b1723_ok k55 hk55 (some r2) (some r4) x4 m3
        · refine XB.goC (lo := 196) (C := xl_196) xl_196_ok 1 (pc' := 255) (ls' := [some (.ref 1000), some (.ref 0), some (.ref 32), some (.ref 56), some (.int x4), some (.int r2), some (.int r4)]) (st' := [(.int (0 : Int32))]) (μ' := m3) rfl ?_
          exact XB.retp (xl_196_ok rfl rfl) rfl rfl rfl
  · refine XB.goC (lo := 196) (C := xl_196) xl_196_ok 1 (pc' := 231) (ls' := [some (.ref 1000), some (.ref 0), some (.ref 32), some (.ref 56), some (.int x4), some (.int r2), some (.int r4)]) (st' := [(.int (0 : Int32))]) (μ' := m3) rfl ?_
    exact XB.retp (xl_196_ok rfl rfl) rfl rfl rfl
set_option maxRecDepth 16384 in
def yW_law_b259 (L : Nat) (xs : Nat → Int32) (k55 : Int32 → XMu → XRes) (x4 : Int32) (μ : XMu) : XRes := xgd (xin (x4 + (1 : Int32)) L) (xgd (xin (x4 + (2 : Int32)) L) (xgd (xin (x4 + (3 : Int32)) L) (xgd (xin (x4 + (4 : Int32)) L) (xbi (yW_preask (xs ((x4 + (1 : Int32))).toNatClampNeg) (xs ((x4 + (2 : Int32))).toNatClampNeg) (xs ((x4 + (3 : Int32))).toNatClampNeg) (xs ((x4 + (4 : Int32))).toNatClampNeg) μ) (fun r6 m5 => xgd (xin (x4 + (1 : Int32)) L) (xgd (xin (x4 + (2 : Int32)) L) (xgd (xin (x4 + (3 : Int32)) L) (xgd (xin (x4 + (4 : Int32)) L) (xbv (yM_preask (xs ((x4 + (1 : Int32))).toNatClampNeg) (xs ((x4 + (2 : Int32))).toNatClampNeg) (xs ((x4 + (3 : Int32))).toNatClampNeg) (xs ((x4 + (4 : Int32))).toNatClampNeg) m5) (fun m7 => (if (yM_thrown m7) = r6 then yW_law_b1723 L xs k55 x4 m7 else some (.inl (some (.int (0 : Int32))), m7))))))))))))
set_option maxRecDepth 16384 in
theorem yW_law_b259_ok {L : Nat} {xs : Nat → Int32} (k55 : Int32 → XMu → XRes) (hk55 : ∀ (d5 : Option Int32) (d6 : Option Int32) (x4 : Int32) (μ : XMu), XB L xs 235 55 [some (.ref 1000), some (.ref 0), some (.ref 32), some (.ref 56), some (.int x4), (xdl d5), (xdl d6)] [] μ (k55 x4 μ)) (d5 : Option Int32) (d6 : Option Int32) (x4 : Int32) (μ : XMu) : XB L xs 235 259 [some (.ref 1000), some (.ref 0), some (.ref 32), some (.ref 56), some (.int x4), (xdl d5), (xdl d6)] [] μ (yW_law_b259 L xs k55 x4 μ) := by
  unfold yW_law_b259
  refine XB.goC (lo := 259) (C := xl_259) xl_259_ok 5 (pc' := 265) (ls' := [some (.ref 1000), some (.ref 0), some (.ref 32), some (.ref 56), some (.int x4), (xdl d5), (xdl d6)]) (st' := [(.int (x4 + (1 : Int32))), (.ref 1000), (.ref 0)]) (μ' := μ) rfl ?_
  refine XB.scr (xl_259_ok rfl rfl) ?_
  refine XB.goC (lo := 259) (C := xl_259) xl_259_ok 4 (pc' := 271) (ls' := [some (.ref 1000), some (.ref 0), some (.ref 32), some (.ref 56), some (.int x4), (xdl d5), (xdl d6)]) (st' := [(.int (x4 + (2 : Int32))), (.ref 1000), (.int (xs ((x4 + (1 : Int32))).toNatClampNeg)), (.ref 0)]) (μ' := μ) rfl ?_
  refine XB.scr (xl_259_ok rfl rfl) ?_
  refine XB.goC (lo := 259) (C := xl_259) xl_259_ok 4 (pc' := 277) (ls' := [some (.ref 1000), some (.ref 0), some (.ref 32), some (.ref 56), some (.int x4), (xdl d5), (xdl d6)]) (st' := [(.int (x4 + (3 : Int32))), (.ref 1000), (.int (xs ((x4 + (2 : Int32))).toNatClampNeg)), (.int (xs ((x4 + (1 : Int32))).toNatClampNeg)), (.ref 0)]) (μ' := μ) rfl ?_
  refine XB.scr (xl_259_ok rfl rfl) ?_
  refine XB.goC (lo := 259) (C := xl_259) xl_259_ok 4 (pc' := 283) (ls' := [some (.ref 1000), some (.ref 0), some (.ref 32), some (.ref 56), some (.int x4), (xdl d5), (xdl d6)]) (st' := [(.int (x4 + (4 : Int32))), (.ref 1000), (.int (xs ((x4 + (3 : Int32))).toNatClampNeg)), (.int (xs ((x4 + (2 : Int32))).toNatClampNeg)), (.int (xs ((x4 + (1 : Int32))).toNatClampNeg)), (.ref 0)]) (μ' := μ) rfl ?_
  refine XB.scr (xl_259_ok rfl rfl) ?_
  refine XB.ci (xl_259_ok rfl rfl) rfl rfl rfl rfl (yW_preask_ok (xs ((x4 + (1 : Int32))).toNatClampNeg) (xs ((x4 + (2 : Int32))).toNatClampNeg) (xs ((x4 + (3 : Int32))).toNatClampNeg) (xs ((x4 + (4 : Int32))).toNatClampNeg) μ) (fun r6 m5 => ?_)
  refine XB.goC (lo := 259) (C := xl_259) xl_259_ok 6 (pc' := 295) (ls' := [some (.ref 1000), some (.ref 0), some (.ref 32), some (.ref 56), some (.int x4), some (.int r6), (xdl d6)]) (st' := [(.int (x4 + (1 : Int32))), (.ref 1000), (.ref 32)]) (μ' := m5) rfl ?_
  refine XB.scr (xl_259_ok rfl rfl) ?_
  refine XB.goC (lo := 259) (C := xl_259) xl_259_ok 4 (pc' := 301) (ls' := [some (.ref 1000), some (.ref 0), some (.ref 32), some (.ref 56), some (.int x4), some (.int r6), (xdl d6)]) (st' := [(.int (x4 + (2 : Int32))), (.ref 1000), (.int (xs ((x4 + (1 : Int32))).toNatClampNeg)), (.ref 32)]) (μ' := m5) rfl ?_
  refine XB.scr (xl_259_ok rfl rfl) ?_
  refine XB.goC (lo := 259) (C := xl_259) xl_259_ok 4 (pc' := 307) (ls' := [some (.ref 1000), some (.ref 0), some (.ref 32), some (.ref 56), some (.int x4), some (.int r6), (xdl d6)]) (st' := [(.int (x4 + (3 : Int32))), (.ref 1000), (.int (xs ((x4 + (2 : Int32))).toNatClampNeg)), (.int (xs ((x4 + (1 : Int32))).toNatClampNeg)), (.ref 32)]) (μ' := m5) rfl ?_
  refine XB.scr (xl_259_ok rfl rfl) ?_
  refine XB.goC (lo := 259) (C := xl_259) xl_259_ok 4 (pc' := 313) (ls' := [some (.ref 1000), some (.ref 0), some (.ref 32), some (.ref 56), some (.int x4), some (.int r6), (xdl d6)]) (st' := [(.int (x4 + (4 : Int32))), (.ref 1000), (.int (xs ((x4 + (3 : Int32))).toNatClampNeg)), (.int (xs ((x4 + (2 : Int32))).toNatClampNeg)), (.int (xs ((x4 + (1 : Int32))).toNatClampNeg)), (.ref 32)]) (μ' := m5) rfl ?_
  refine XB.scr (xl_259_ok rfl rfl) ?_
  refine XB.cv (xl_259_ok rfl rfl) rfl rfl rfl rfl (yM_preask_ok (xs ((x4 + (1 : Int32))).toNatClampNeg) (xs ((x4 + (2 : Int32))).toNatClampNeg) (xs ((x4 + (3 : Int32))).toNatClampNeg) (xs ((x4 + (4 : Int32))).toNatClampNeg) m5) (fun m7 => ?_)
  refine XB.goC (lo := 259) (C := xl_259) xl_259_ok 1 (pc' := 318) (ls' := [some (.ref 1000), some (.ref 0), some (.ref 32), some (.ref 56), some (.int x4), some (.int r6), (xdl d6)]) (st' := [(.ref 32)]) (μ' := m7) rfl ?_
  refine XB.cp (xl_259_ok rfl rfl) rfl rfl (yM_thrown_ok m7) ?_
  refine XB.goC (lo := 259) (C := xl_259) xl_259_ok 1 (pc' := 323) (ls' := [some (.ref 1000), some (.ref 0), some (.ref 32), some (.ref 56), some (.int x4), some (.int r6), (xdl d6)]) (st' := [(.int r6), (.int (yM_thrown m7))]) (μ' := m7) rfl ?_
  refine XB.icmp (P := (yM_thrown m7) = r6) (xl_259_ok rfl rfl) rfl rfl (fun c323 => ?_) (fun c323 => ?_)
  · refine XB.goC (lo := 259) (C := xl_259) xl_259_ok 1 (pc' := 1723) (ls' := [some (.ref 1000), some (.ref 0), some (.ref 32), some (.ref 56), some (.int x4), some (.int r6), (xdl d6)]) (st' := []) (μ' := m7) rfl ?_
    exact yW_law_b1723_ok k55 hk55 (some r6) (d6) x4 m7
  · refine XB.goC (lo := 259) (C := xl_259) xl_259_ok 1 (pc' := 327) (ls' := [some (.ref 1000), some (.ref 0), some (.ref 32), some (.ref 56), some (.int x4), some (.int r6), (xdl d6)]) (st' := [(.int (0 : Int32))]) (μ' := m7) rfl ?_
    exact XB.retp (xl_259_ok rfl rfl) rfl rfl rfl
set_option maxRecDepth 16384 in
def yW_law_b358 (L : Nat) (xs : Nat → Int32) (k55 : Int32 → XMu → XRes) (x4 : Int32) (s1 : Int32) (s2 : Int32) (s3 : Int32) (μ : XMu) : XRes := xbi (yW_preanswer s1 s2 s3 μ) (fun r9 m8 => xgd (xin (x4 + (1 : Int32)) L) (xgd (xin (x4 + (2 : Int32)) L) (xgd (xin (x4 + (3 : Int32)) L) ((if (xs ((x4 + (3 : Int32))).toNatClampNeg) = (0 : Int32) then xbv (yM_preanswer (xs ((x4 + (1 : Int32))).toNatClampNeg) (xs ((x4 + (2 : Int32))).toNatClampNeg) (0 : Int32) m8) (fun m10 => (if (yM_thrown m10) = r9 then yW_law_b1723 L xs k55 x4 m10 else some (.inl (some (.int (0 : Int32))), m10))) else xbv (yM_preanswer (xs ((x4 + (1 : Int32))).toNatClampNeg) (xs ((x4 + (2 : Int32))).toNatClampNeg) (1 : Int32) m8) (fun m11 => (if (yM_thrown m11) = r9 then yW_law_b1723 L xs k55 x4 m11 else some (.inl (some (.int (0 : Int32))), m11))))))))
set_option maxRecDepth 16384 in
theorem yW_law_b358_ok {L : Nat} {xs : Nat → Int32} (k55 : Int32 → XMu → XRes) (hk55 : ∀ (d5 : Option Int32) (d6 : Option Int32) (x4 : Int32) (μ : XMu), XB L xs 235 55 [some (.ref 1000), some (.ref 0), some (.ref 32), some (.ref 56), some (.int x4), (xdl d5), (xdl d6)] [] μ (k55 x4 μ)) (d5 : Option Int32) (d6 : Option Int32) (x4 : Int32) (s1 : Int32) (s2 : Int32) (s3 : Int32) (μ : XMu) : XB L xs 235 358 [some (.ref 1000), some (.ref 0), some (.ref 32), some (.ref 56), some (.int x4), (xdl d5), (xdl d6)] [(.int s3), (.int s2), (.int s1), (.ref 0)] μ (yW_law_b358 L xs k55 x4 s1 s2 s3 μ) := by
  unfold yW_law_b358
  refine XB.ci (xl_358_ok rfl rfl) rfl rfl rfl rfl (yW_preanswer_ok s1 s2 s3 μ) (fun r9 m8 => ?_)
  refine XB.goC (lo := 358) (C := xl_358) xl_358_ok 6 (pc' := 369) (ls' := [some (.ref 1000), some (.ref 0), some (.ref 32), some (.ref 56), some (.int x4), some (.int r9), (xdl d6)]) (st' := [(.int (x4 + (1 : Int32))), (.ref 1000), (.ref 32)]) (μ' := m8) rfl ?_
  refine XB.scr (xl_358_ok rfl rfl) ?_
  refine XB.goC (lo := 358) (C := xl_358) xl_358_ok 4 (pc' := 375) (ls' := [some (.ref 1000), some (.ref 0), some (.ref 32), some (.ref 56), some (.int x4), some (.int r9), (xdl d6)]) (st' := [(.int (x4 + (2 : Int32))), (.ref 1000), (.int (xs ((x4 + (1 : Int32))).toNatClampNeg)), (.ref 32)]) (μ' := m8) rfl ?_
  refine XB.scr (xl_358_ok rfl rfl) ?_
  refine XB.goC (lo := 358) (C := xl_358) xl_358_ok 4 (pc' := 381) (ls' := [some (.ref 1000), some (.ref 0), some (.ref 32), some (.ref 56), some (.int x4), some (.int r9), (xdl d6)]) (st' := [(.int (x4 + (3 : Int32))), (.ref 1000), (.int (xs ((x4 + (2 : Int32))).toNatClampNeg)), (.int (xs ((x4 + (1 : Int32))).toNatClampNeg)), (.ref 32)]) (μ' := m8) rfl ?_
  refine XB.scr (xl_358_ok rfl rfl) ?_
  refine XB.ifz (P := (xs ((x4 + (3 : Int32))).toNatClampNeg) = (0 : Int32)) (xl_358_ok rfl rfl) rfl rfl (fun c382 => ?_) (fun c382 => ?_)
  · refine XB.goC (lo := 358) (C := xl_358) xl_358_ok 1 (pc' := 390) (ls' := [some (.ref 1000), some (.ref 0), some (.ref 32), some (.ref 56), some (.int x4), some (.int r9), (xdl d6)]) (st' := [(.int (0 : Int32)), (.int (xs ((x4 + (2 : Int32))).toNatClampNeg)), (.int (xs ((x4 + (1 : Int32))).toNatClampNeg)), (.ref 32)]) (μ' := m8) rfl ?_
    refine XB.cv (xl_358_ok rfl rfl) rfl rfl rfl rfl (yM_preanswer_ok (xs ((x4 + (1 : Int32))).toNatClampNeg) (xs ((x4 + (2 : Int32))).toNatClampNeg) (0 : Int32) m8) (fun m10 => ?_)
    refine XB.goC (lo := 358) (C := xl_358) xl_358_ok 1 (pc' := 394) (ls' := [some (.ref 1000), some (.ref 0), some (.ref 32), some (.ref 56), some (.int x4), some (.int r9), (xdl d6)]) (st' := [(.ref 32)]) (μ' := m10) rfl ?_
    refine XB.cp (xl_358_ok rfl rfl) rfl rfl (yM_thrown_ok m10) ?_
    refine XB.goC (lo := 358) (C := xl_358) xl_358_ok 1 (pc' := 399) (ls' := [some (.ref 1000), some (.ref 0), some (.ref 32), some (.ref 56), some (.int x4), some (.int r9), (xdl d6)]) (st' := [(.int r9), (.int (yM_thrown m10))]) (μ' := m10) rfl ?_
    refine XB.icmp (P := (yM_thrown m10) = r9) (xl_358_ok rfl rfl) rfl rfl (fun c399 => ?_) (fun c399 => ?_)
    · refine XB.goC (lo := 358) (C := xl_358) xl_358_ok 1 (pc' := 1723) (ls' := [some (.ref 1000), some (.ref 0), some (.ref 32), some (.ref 56), some (.int x4), some (.int r9), (xdl d6)]) (st' := []) (μ' := m10) rfl ?_
      exact yW_law_b1723_ok k55 hk55 (some r9) (d6) x4 m10
    · refine XB.goC (lo := 358) (C := xl_358) xl_358_ok 1 (pc' := 403) (ls' := [some (.ref 1000), some (.ref 0), some (.ref 32), some (.ref 56), some (.int x4), some (.int r9), (xdl d6)]) (st' := [(.int (0 : Int32))]) (μ' := m10) rfl ?_
      exact XB.retp (xl_358_ok rfl rfl) rfl rfl rfl
  · refine XB.goC (lo := 358) (C := xl_358) xl_358_ok 2 (pc' := 390) (ls' := [some (.ref 1000), some (.ref 0), some (.ref 32), some (.ref 56), some (.int x4), some (.int r9), (xdl d6)]) (st' := [(.int (1 : Int32)), (.int (xs ((x4 + (2 : Int32))).toNatClampNeg)), (.int (xs ((x4 + (1 : Int32))).toNatClampNeg)), (.ref 32)]) (μ' := m8) rfl ?_
    refine XB.cv (xl_358_ok rfl rfl) rfl rfl rfl rfl (yM_preanswer_ok (xs ((x4 + (1 : Int32))).toNatClampNeg) (xs ((x4 + (2 : Int32))).toNatClampNeg) (1 : Int32) m8) (fun m11 => ?_)
    refine XB.goC (lo := 358) (C := xl_358) xl_358_ok 1 (pc' := 394) (ls' := [some (.ref 1000), some (.ref 0), some (.ref 32), some (.ref 56), some (.int x4), some (.int r9), (xdl d6)]) (st' := [(.ref 32)]) (μ' := m11) rfl ?_
    refine XB.cp (xl_358_ok rfl rfl) rfl rfl (yM_thrown_ok m11) ?_
    refine XB.goC (lo := 358) (C := xl_358) xl_358_ok 1 (pc' := 399) (ls' := [some (.ref 1000), some (.ref 0), some (.ref 32), some (.ref 56), some (.int x4), some (.int r9), (xdl d6)]) (st' := [(.int r9), (.int (yM_thrown m11))]) (μ' := m11) rfl ?_
    refine XB.icmp (P := (yM_thrown m11) = r9) (xl_358_ok rfl rfl) rfl rfl (fun c399 => ?_) (fun c399 => ?_)
    · refine XB.goC (lo := 358) (C := xl_358) xl_358_ok 1 (pc' := 1723) (ls' := [some (.ref 1000), some (.ref 0), some (.ref 32), some (.ref 56), some (.int x4), some (.int r9), (xdl d6)]) (st' := []) (μ' := m11) rfl ?_
      exact yW_law_b1723_ok k55 hk55 (some r9) (d6) x4 m11
    · refine XB.goC (lo := 358) (C := xl_358) xl_358_ok 1 (pc' := 403) (ls' := [some (.ref 1000), some (.ref 0), some (.ref 32), some (.ref 56), some (.int x4), some (.int r9), (xdl d6)]) (st' := [(.int (0 : Int32))]) (μ' := m11) rfl ?_
      exact XB.retp (xl_358_ok rfl rfl) rfl rfl rfl
set_option maxRecDepth 16384 in
def yW_law_b331 (L : Nat) (xs : Nat → Int32) (k55 : Int32 → XMu → XRes) (x4 : Int32) (μ : XMu) : XRes := xgd (xin (x4 + (1 : Int32)) L) (xgd (xin (x4 + (2 : Int32)) L) (xgd (xin (x4 + (3 : Int32)) L) ((if (xs ((x4 + (3 : Int32))).toNatClampNeg) = (0 : Int32) then yW_law_b358 L xs k55 x4 (xs ((x4 + (1 : Int32))).toNatClampNeg) (xs ((x4 + (2 : Int32))).toNatClampNeg) (0 : Int32) μ else yW_law_b358 L xs k55 x4 (xs ((x4 + (1 : Int32))).toNatClampNeg) (xs ((x4 + (2 : Int32))).toNatClampNeg) (1 : Int32) μ))))
set_option maxRecDepth 16384 in
theorem yW_law_b331_ok {L : Nat} {xs : Nat → Int32} (k55 : Int32 → XMu → XRes) (hk55 : ∀ (d5 : Option Int32) (d6 : Option Int32) (x4 : Int32) (μ : XMu), XB L xs 235 55 [some (.ref 1000), some (.ref 0), some (.ref 32), some (.ref 56), some (.int x4), (xdl d5), (xdl d6)] [] μ (k55 x4 μ)) (d5 : Option Int32) (d6 : Option Int32) (x4 : Int32) (μ : XMu) : XB L xs 235 331 [some (.ref 1000), some (.ref 0), some (.ref 32), some (.ref 56), some (.int x4), (xdl d5), (xdl d6)] [] μ (yW_law_b331 L xs k55 x4 μ) := by
  unfold yW_law_b331
  refine XB.goC (lo := 331) (C := xl_331) xl_331_ok 5 (pc' := 337) (ls' := [some (.ref 1000), some (.ref 0), some (.ref 32), some (.ref 56), some (.int x4), (xdl d5), (xdl d6)]) (st' := [(.int (x4 + (1 : Int32))), (.ref 1000), (.ref 0)]) (μ' := μ) rfl ?_
  refine XB.scr (xl_331_ok rfl rfl) ?_
  refine XB.goC (lo := 331) (C := xl_331) xl_331_ok 4 (pc' := 343) (ls' := [some (.ref 1000), some (.ref 0), some (.ref 32), some (.ref 56), some (.int x4), (xdl d5), (xdl d6)]) (st' := [(.int (x4 + (2 : Int32))), (.ref 1000), (.int (xs ((x4 + (1 : Int32))).toNatClampNeg)), (.ref 0)]) (μ' := μ) rfl ?_
  refine XB.scr (xl_331_ok rfl rfl) ?_
  refine XB.goC (lo := 331) (C := xl_331) xl_331_ok 4 (pc' := 349) (ls' := [some (.ref 1000), some (.ref 0), some (.ref 32), some (.ref 56), some (.int x4), (xdl d5), (xdl d6)]) (st' := [(.int (x4 + (3 : Int32))), (.ref 1000), (.int (xs ((x4 + (2 : Int32))).toNatClampNeg)), (.int (xs ((x4 + (1 : Int32))).toNatClampNeg)), (.ref 0)]) (μ' := μ) rfl ?_
  refine XB.scr (xl_331_ok rfl rfl) ?_
  refine XB.ifz (P := (xs ((x4 + (3 : Int32))).toNatClampNeg) = (0 : Int32)) (xl_331_ok rfl rfl) rfl rfl (fun c350 => ?_) (fun c350 => ?_)
  · refine XB.goC (lo := 331) (C := xl_331) xl_331_ok 1 (pc' := 358) (ls' := [some (.ref 1000), some (.ref 0), some (.ref 32), some (.ref 56), some (.int x4), (xdl d5), (xdl d6)]) (st' := [(.int (0 : Int32)), (.int (xs ((x4 + (2 : Int32))).toNatClampNeg)), (.int (xs ((x4 + (1 : Int32))).toNatClampNeg)), (.ref 0)]) (μ' := μ) rfl ?_
    exact yW_law_b358_ok k55 hk55 (d5) (d6) x4 (xs ((x4 + (1 : Int32))).toNatClampNeg) (xs ((x4 + (2 : Int32))).toNatClampNeg) (0 : Int32) μ
  · refine XB.goC (lo := 331) (C := xl_331) xl_331_ok 2 (pc' := 358) (ls' := [some (.ref 1000), some (.ref 0), some (.ref 32), some (.ref 56), some (.int x4), (xdl d5), (xdl d6)]) (st' := [(.int (1 : Int32)), (.int (xs ((x4 + (2 : Int32))).toNatClampNeg)), (.int (xs ((x4 + (1 : Int32))).toNatClampNeg)), (.ref 0)]) (μ' := μ) rfl ?_
    exact yW_law_b358_ok k55 hk55 (d5) (d6) x4 (xs ((x4 + (1 : Int32))).toNatClampNeg) (xs ((x4 + (2 : Int32))).toNatClampNeg) (1 : Int32) μ
set_option maxRecDepth 16384 in
def yW_law_b407 (L : Nat) (xs : Nat → Int32) (k55 : Int32 → XMu → XRes) (x4 : Int32) (μ : XMu) : XRes := xgd (xin (x4 + (1 : Int32)) L) (xgd (xin (x4 + (2 : Int32)) L) (xgd (xin (x4 + (3 : Int32)) L) (xgd (xin (x4 + (4 : Int32)) L) (xbi (yW_ask (xs ((x4 + (1 : Int32))).toNatClampNeg) (xs ((x4 + (2 : Int32))).toNatClampNeg) (xs ((x4 + (3 : Int32))).toNatClampNeg) (xs ((x4 + (4 : Int32))).toNatClampNeg) μ) (fun r13 m12 => xgd (xin (x4 + (1 : Int32)) L) (xgd (xin (x4 + (2 : Int32)) L) (xgd (xin (x4 + (3 : Int32)) L) (xgd (xin (x4 + (4 : Int32)) L) (xbv (yM_ask (xs ((x4 + (1 : Int32))).toNatClampNeg) (xs ((x4 + (2 : Int32))).toNatClampNeg) (xs ((x4 + (3 : Int32))).toNatClampNeg) (xs ((x4 + (4 : Int32))).toNatClampNeg) m12) (fun m14 => (if (yM_thrown m14) = r13 then yW_law_b1723 L xs k55 x4 m14 else some (.inl (some (.int (0 : Int32))), m14))))))))))))
set_option maxRecDepth 16384 in
theorem yW_law_b407_ok {L : Nat} {xs : Nat → Int32} (k55 : Int32 → XMu → XRes) (hk55 : ∀ (d5 : Option Int32) (d6 : Option Int32) (x4 : Int32) (μ : XMu), XB L xs 235 55 [some (.ref 1000), some (.ref 0), some (.ref 32), some (.ref 56), some (.int x4), (xdl d5), (xdl d6)] [] μ (k55 x4 μ)) (d5 : Option Int32) (d6 : Option Int32) (x4 : Int32) (μ : XMu) : XB L xs 235 407 [some (.ref 1000), some (.ref 0), some (.ref 32), some (.ref 56), some (.int x4), (xdl d5), (xdl d6)] [] μ (yW_law_b407 L xs k55 x4 μ) := by
  unfold yW_law_b407
  refine XB.goC (lo := 407) (C := xl_407) xl_407_ok 5 (pc' := 413) (ls' := [some (.ref 1000), some (.ref 0), some (.ref 32), some (.ref 56), some (.int x4), (xdl d5), (xdl d6)]) (st' := [(.int (x4 + (1 : Int32))), (.ref 1000), (.ref 0)]) (μ' := μ) rfl ?_
  refine XB.scr (xl_407_ok rfl rfl) ?_
  refine XB.goC (lo := 407) (C := xl_407) xl_407_ok 4 (pc' := 419) (ls' := [some (.ref 1000), some (.ref 0), some (.ref 32), some (.ref 56), some (.int x4), (xdl d5), (xdl d6)]) (st' := [(.int (x4 + (2 : Int32))), (.ref 1000), (.int (xs ((x4 + (1 : Int32))).toNatClampNeg)), (.ref 0)]) (μ' := μ) rfl ?_
  refine XB.scr (xl_407_ok rfl rfl) ?_
  refine XB.goC (lo := 407) (C := xl_407) xl_407_ok 4 (pc' := 425) (ls' := [some (.ref 1000), some (.ref 0), some (.ref 32), some (.ref 56), some (.int x4), (xdl d5), (xdl d6)]) (st' := [(.int (x4 + (3 : Int32))), (.ref 1000), (.int (xs ((x4 + (2 : Int32))).toNatClampNeg)), (.int (xs ((x4 + (1 : Int32))).toNatClampNeg)), (.ref 0)]) (μ' := μ) rfl ?_
  refine XB.scr (xl_407_ok rfl rfl) ?_
  refine XB.goC (lo := 407) (C := xl_407) xl_407_ok 4 (pc' := 431) (ls' := [some (.ref 1000), some (.ref 0), some (.ref 32), some (.ref 56), some (.int x4), (xdl d5), (xdl d6)]) (st' := [(.int (x4 + (4 : Int32))), (.ref 1000), (.int (xs ((x4 + (3 : Int32))).toNatClampNeg)), (.int (xs ((x4 + (2 : Int32))).toNatClampNeg)), (.int (xs ((x4 + (1 : Int32))).toNatClampNeg)), (.ref 0)]) (μ' := μ) rfl ?_
  refine XB.scr (xl_407_ok rfl rfl) ?_
  refine XB.ci (xl_407_ok rfl rfl) rfl rfl rfl rfl (yW_ask_ok (xs ((x4 + (1 : Int32))).toNatClampNeg) (xs ((x4 + (2 : Int32))).toNatClampNeg) (xs ((x4 + (3 : Int32))).toNatClampNeg) (xs ((x4 + (4 : Int32))).toNatClampNeg) μ) (fun r13 m12 => ?_)
  refine XB.goC (lo := 407) (C := xl_407) xl_407_ok 6 (pc' := 443) (ls' := [some (.ref 1000), some (.ref 0), some (.ref 32), some (.ref 56), some (.int x4), some (.int r13), (xdl d6)]) (st' := [(.int (x4 + (1 : Int32))), (.ref 1000), (.ref 32)]) (μ' := m12) rfl ?_
  refine XB.scr (xl_407_ok rfl rfl) ?_
  refine XB.goC (lo := 407) (C := xl_407) xl_407_ok 4 (pc' := 449) (ls' := [some (.ref 1000), some (.ref 0), some (.ref 32), some (.ref 56), some (.int x4), some (.int r13), (xdl d6)]) (st' := [(.int (x4 + (2 : Int32))), (.ref 1000), (.int (xs ((x4 + (1 : Int32))).toNatClampNeg)), (.ref 32)]) (μ' := m12) rfl ?_
  refine XB.scr (xl_407_ok rfl rfl) ?_
  refine XB.goC (lo := 407) (C := xl_407) xl_407_ok 4 (pc' := 455) (ls' := [some (.ref 1000), some (.ref 0), some (.ref 32), some (.ref 56), some (.int x4), some (.int r13), (xdl d6)]) (st' := [(.int (x4 + (3 : Int32))), (.ref 1000), (.int (xs ((x4 + (2 : Int32))).toNatClampNeg)), (.int (xs ((x4 + (1 : Int32))).toNatClampNeg)), (.ref 32)]) (μ' := m12) rfl ?_
  refine XB.scr (xl_407_ok rfl rfl) ?_
  refine XB.goC (lo := 407) (C := xl_407) xl_407_ok 4 (pc' := 461) (ls' := [some (.ref 1000), some (.ref 0), some (.ref 32), some (.ref 56), some (.int x4), some (.int r13), (xdl d6)]) (st' := [(.int (x4 + (4 : Int32))), (.ref 1000), (.int (xs ((x4 + (3 : Int32))).toNatClampNeg)), (.int (xs ((x4 + (2 : Int32))).toNatClampNeg)), (.int (xs ((x4 + (1 : Int32))).toNatClampNeg)), (.ref 32)]) (μ' := m12) rfl ?_
  refine XB.scr (xl_407_ok rfl rfl) ?_
  refine XB.cv (xl_407_ok rfl rfl) rfl rfl rfl rfl (yM_ask_ok (xs ((x4 + (1 : Int32))).toNatClampNeg) (xs ((x4 + (2 : Int32))).toNatClampNeg) (xs ((x4 + (3 : Int32))).toNatClampNeg) (xs ((x4 + (4 : Int32))).toNatClampNeg) m12) (fun m14 => ?_)
  refine XB.goC (lo := 407) (C := xl_407) xl_407_ok 1 (pc' := 466) (ls' := [some (.ref 1000), some (.ref 0), some (.ref 32), some (.ref 56), some (.int x4), some (.int r13), (xdl d6)]) (st' := [(.ref 32)]) (μ' := m14) rfl ?_
  refine XB.cp (xl_407_ok rfl rfl) rfl rfl (yM_thrown_ok m14) ?_
  refine XB.goC (lo := 407) (C := xl_407) xl_407_ok 1 (pc' := 471) (ls' := [some (.ref 1000), some (.ref 0), some (.ref 32), some (.ref 56), some (.int x4), some (.int r13), (xdl d6)]) (st' := [(.int r13), (.int (yM_thrown m14))]) (μ' := m14) rfl ?_
  refine XB.icmp (P := (yM_thrown m14) = r13) (xl_407_ok rfl rfl) rfl rfl (fun c471 => ?_) (fun c471 => ?_)
  · refine XB.goC (lo := 407) (C := xl_407) xl_407_ok 1 (pc' := 1723) (ls' := [some (.ref 1000), some (.ref 0), some (.ref 32), some (.ref 56), some (.int x4), some (.int r13), (xdl d6)]) (st' := []) (μ' := m14) rfl ?_
    exact yW_law_b1723_ok k55 hk55 (some r13) (d6) x4 m14
  · refine XB.goC (lo := 407) (C := xl_407) xl_407_ok 1 (pc' := 475) (ls' := [some (.ref 1000), some (.ref 0), some (.ref 32), some (.ref 56), some (.int x4), some (.int r13), (xdl d6)]) (st' := [(.int (0 : Int32))]) (μ' := m14) rfl ?_
    exact XB.retp (xl_407_ok rfl rfl) rfl rfl rfl
set_option maxRecDepth 16384 in
def yW_law_b506 (L : Nat) (xs : Nat → Int32) (k55 : Int32 → XMu → XRes) (x4 : Int32) (s1 : Int32) (s2 : Int32) (s3 : Int32) (μ : XMu) : XRes := xbi (yW_answer s1 s2 s3 μ) (fun r16 m15 => xgd (xin (x4 + (1 : Int32)) L) (xgd (xin (x4 + (2 : Int32)) L) (xgd (xin (x4 + (3 : Int32)) L) ((if (xs ((x4 + (3 : Int32))).toNatClampNeg) = (0 : Int32) then xbv (yM_answer (xs ((x4 + (1 : Int32))).toNatClampNeg) (xs ((x4 + (2 : Int32))).toNatClampNeg) (0 : Int32) m15) (fun m17 => (if (yM_thrown m17) = r16 then yW_law_b1723 L xs k55 x4 m17 else some (.inl (some (.int (0 : Int32))), m17))) else xbv (yM_answer (xs ((x4 + (1 : Int32))).toNatClampNeg) (xs ((x4 + (2 : Int32))).toNatClampNeg) (1 : Int32) m15) (fun m18 => (if (yM_thrown m18) = r16 then yW_law_b1723 L xs k55 x4 m18 else some (.inl (some (.int (0 : Int32))), m18))))))))
set_option maxRecDepth 16384 in
theorem yW_law_b506_ok {L : Nat} {xs : Nat → Int32} (k55 : Int32 → XMu → XRes) (hk55 : ∀ (d5 : Option Int32) (d6 : Option Int32) (x4 : Int32) (μ : XMu), XB L xs 235 55 [some (.ref 1000), some (.ref 0), some (.ref 32), some (.ref 56), some (.int x4), (xdl d5), (xdl d6)] [] μ (k55 x4 μ)) (d5 : Option Int32) (d6 : Option Int32) (x4 : Int32) (s1 : Int32) (s2 : Int32) (s3 : Int32) (μ : XMu) : XB L xs 235 506 [some (.ref 1000), some (.ref 0), some (.ref 32), some (.ref 56), some (.int x4), (xdl d5), (xdl d6)] [(.int s3), (.int s2), (.int s1), (.ref 0)] μ (yW_law_b506 L xs k55 x4 s1 s2 s3 μ) := by
  unfold yW_law_b506
  refine XB.ci (xl_506_ok rfl rfl) rfl rfl rfl rfl (yW_answer_ok s1 s2 s3 μ) (fun r16 m15 => ?_)
  refine XB.goC (lo := 506) (C := xl_506) xl_506_ok 6 (pc' := 517) (ls' := [some (.ref 1000), some (.ref 0), some (.ref 32), some (.ref 56), some (.int x4), some (.int r16), (xdl d6)]) (st' := [(.int (x4 + (1 : Int32))), (.ref 1000), (.ref 32)]) (μ' := m15) rfl ?_
  refine XB.scr (xl_506_ok rfl rfl) ?_
  refine XB.goC (lo := 506) (C := xl_506) xl_506_ok 4 (pc' := 523) (ls' := [some (.ref 1000), some (.ref 0), some (.ref 32), some (.ref 56), some (.int x4), some (.int r16), (xdl d6)]) (st' := [(.int (x4 + (2 : Int32))), (.ref 1000), (.int (xs ((x4 + (1 : Int32))).toNatClampNeg)), (.ref 32)]) (μ' := m15) rfl ?_
  refine XB.scr (xl_506_ok rfl rfl) ?_
  refine XB.goC (lo := 506) (C := xl_506) xl_506_ok 4 (pc' := 529) (ls' := [some (.ref 1000), some (.ref 0), some (.ref 32), some (.ref 56), some (.int x4), some (.int r16), (xdl d6)]) (st' := [(.int (x4 + (3 : Int32))), (.ref 1000), (.int (xs ((x4 + (2 : Int32))).toNatClampNeg)), (.int (xs ((x4 + (1 : Int32))).toNatClampNeg)), (.ref 32)]) (μ' := m15) rfl ?_
  refine XB.scr (xl_506_ok rfl rfl) ?_
  refine XB.ifz (P := (xs ((x4 + (3 : Int32))).toNatClampNeg) = (0 : Int32)) (xl_506_ok rfl rfl) rfl rfl (fun c530 => ?_) (fun c530 => ?_)
  · refine XB.goC (lo := 506) (C := xl_506) xl_506_ok 1 (pc' := 538) (ls' := [some (.ref 1000), some (.ref 0), some (.ref 32), some (.ref 56), some (.int x4), some (.int r16), (xdl d6)]) (st' := [(.int (0 : Int32)), (.int (xs ((x4 + (2 : Int32))).toNatClampNeg)), (.int (xs ((x4 + (1 : Int32))).toNatClampNeg)), (.ref 32)]) (μ' := m15) rfl ?_
    refine XB.cv (xl_506_ok rfl rfl) rfl rfl rfl rfl (yM_answer_ok (xs ((x4 + (1 : Int32))).toNatClampNeg) (xs ((x4 + (2 : Int32))).toNatClampNeg) (0 : Int32) m15) (fun m17 => ?_)
    refine XB.goC (lo := 506) (C := xl_506) xl_506_ok 1 (pc' := 542) (ls' := [some (.ref 1000), some (.ref 0), some (.ref 32), some (.ref 56), some (.int x4), some (.int r16), (xdl d6)]) (st' := [(.ref 32)]) (μ' := m17) rfl ?_
    refine XB.cp (xl_506_ok rfl rfl) rfl rfl (yM_thrown_ok m17) ?_
    refine XB.goC (lo := 506) (C := xl_506) xl_506_ok 1 (pc' := 547) (ls' := [some (.ref 1000), some (.ref 0), some (.ref 32), some (.ref 56), some (.int x4), some (.int r16), (xdl d6)]) (st' := [(.int r16), (.int (yM_thrown m17))]) (μ' := m17) rfl ?_
    refine XB.icmp (P := (yM_thrown m17) = r16) (xl_506_ok rfl rfl) rfl rfl (fun c547 => ?_) (fun c547 => ?_)
    · refine XB.goC (lo := 506) (C := xl_506) xl_506_ok 1 (pc' := 1723) (ls' := [some (.ref 1000), some (.ref 0), some (.ref 32), some (.ref 56), some (.int x4), some (.int r16), (xdl d6)]) (st' := []) (μ' := m17) rfl ?_
      exact yW_law_b1723_ok k55 hk55 (some r16) (d6) x4 m17
    · refine XB.goC (lo := 506) (C := xl_506) xl_506_ok 1 (pc' := 551) (ls' := [some (.ref 1000), some (.ref 0), some (.ref 32), some (.ref 56), some (.int x4), some (.int r16), (xdl d6)]) (st' := [(.int (0 : Int32))]) (μ' := m17) rfl ?_
      exact XB.retp (xl_506_ok rfl rfl) rfl rfl rfl
  · refine XB.goC (lo := 506) (C := xl_506) xl_506_ok 2 (pc' := 538) (ls' := [some (.ref 1000), some (.ref 0), some (.ref 32), some (.ref 56), some (.int x4), some (.int r16), (xdl d6)]) (st' := [(.int (1 : Int32)), (.int (xs ((x4 + (2 : Int32))).toNatClampNeg)), (.int (xs ((x4 + (1 : Int32))).toNatClampNeg)), (.ref 32)]) (μ' := m15) rfl ?_
    refine XB.cv (xl_506_ok rfl rfl) rfl rfl rfl rfl (yM_answer_ok (xs ((x4 + (1 : Int32))).toNatClampNeg) (xs ((x4 + (2 : Int32))).toNatClampNeg) (1 : Int32) m15) (fun m18 => ?_)
    refine XB.goC (lo := 506) (C := xl_506) xl_506_ok 1 (pc' := 542) (ls' := [some (.ref 1000), some (.ref 0), some (.ref 32), some (.ref 56), some (.int x4), some (.int r16), (xdl d6)]) (st' := [(.ref 32)]) (μ' := m18) rfl ?_
    refine XB.cp (xl_506_ok rfl rfl) rfl rfl (yM_thrown_ok m18) ?_
    refine XB.goC (lo := 506) (C := xl_506) xl_506_ok 1 (pc' := 547) (ls' := [some (.ref 1000), some (.ref 0), some (.ref 32), some (.ref 56), some (.int x4), some (.int r16), (xdl d6)]) (st' := [(.int r16), (.int (yM_thrown m18))]) (μ' := m18) rfl ?_
    refine XB.icmp (P := (yM_thrown m18) = r16) (xl_506_ok rfl rfl) rfl rfl (fun c547 => ?_) (fun c547 => ?_)
    · refine XB.goC (lo := 506) (C := xl_506) xl_506_ok 1 (pc' := 1723) (ls' := [some (.ref 1000), some (.ref 0), some (.ref 32), some (.ref 56), some (.int x4), some (.int r16), (xdl d6)]) (st' := []) (μ' := m18) rfl ?_
      exact yW_law_b1723_ok k55 hk55 (some r16) (d6) x4 m18
    · refine XB.goC (lo := 506) (C := xl_506) xl_506_ok 1 (pc' := 551) (ls' := [some (.ref 1000), some (.ref 0), some (.ref 32), some (.ref 56), some (.int x4), some (.int r16), (xdl d6)]) (st' := [(.int (0 : Int32))]) (μ' := m18) rfl ?_
      exact XB.retp (xl_506_ok rfl rfl) rfl rfl rfl
set_option maxRecDepth 16384 in
def yW_law_b479 (L : Nat) (xs : Nat → Int32) (k55 : Int32 → XMu → XRes) (x4 : Int32) (μ : XMu) : XRes := xgd (xin (x4 + (1 : Int32)) L) (xgd (xin (x4 + (2 : Int32)) L) (xgd (xin (x4 + (3 : Int32)) L) ((if (xs ((x4 + (3 : Int32))).toNatClampNeg) = (0 : Int32) then yW_law_b506 L xs k55 x4 (xs ((x4 + (1 : Int32))).toNatClampNeg) (xs ((x4 + (2 : Int32))).toNatClampNeg) (0 : Int32) μ else yW_law_b506 L xs k55 x4 (xs ((x4 + (1 : Int32))).toNatClampNeg) (xs ((x4 + (2 : Int32))).toNatClampNeg) (1 : Int32) μ))))
set_option maxRecDepth 16384 in
theorem yW_law_b479_ok {L : Nat} {xs : Nat → Int32} (k55 : Int32 → XMu → XRes) (hk55 : ∀ (d5 : Option Int32) (d6 : Option Int32) (x4 : Int32) (μ : XMu), XB L xs 235 55 [some (.ref 1000), some (.ref 0), some (.ref 32), some (.ref 56), some (.int x4), (xdl d5), (xdl d6)] [] μ (k55 x4 μ)) (d5 : Option Int32) (d6 : Option Int32) (x4 : Int32) (μ : XMu) : XB L xs 235 479 [some (.ref 1000), some (.ref 0), some (.ref 32), some (.ref 56), some (.int x4), (xdl d5), (xdl d6)] [] μ (yW_law_b479 L xs k55 x4 μ) := by
  unfold yW_law_b479
  refine XB.goC (lo := 479) (C := xl_479) xl_479_ok 5 (pc' := 485) (ls' := [some (.ref 1000), some (.ref 0), some (.ref 32), some (.ref 56), some (.int x4), (xdl d5), (xdl d6)]) (st' := [(.int (x4 + (1 : Int32))), (.ref 1000), (.ref 0)]) (μ' := μ) rfl ?_
  refine XB.scr (xl_479_ok rfl rfl) ?_
  refine XB.goC (lo := 479) (C := xl_479) xl_479_ok 4 (pc' := 491) (ls' := [some (.ref 1000), some (.ref 0), some (.ref 32), some (.ref 56), some (.int x4), (xdl d5), (xdl d6)]) (st' := [(.int (x4 + (2 : Int32))), (.ref 1000), (.int (xs ((x4 + (1 : Int32))).toNatClampNeg)), (.ref 0)]) (μ' := μ) rfl ?_
  refine XB.scr (xl_479_ok rfl rfl) ?_
  refine XB.goC (lo := 479) (C := xl_479) xl_479_ok 4 (pc' := 497) (ls' := [some (.ref 1000), some (.ref 0), some (.ref 32), some (.ref 56), some (.int x4), (xdl d5), (xdl d6)]) (st' := [(.int (x4 + (3 : Int32))), (.ref 1000), (.int (xs ((x4 + (2 : Int32))).toNatClampNeg)), (.int (xs ((x4 + (1 : Int32))).toNatClampNeg)), (.ref 0)]) (μ' := μ) rfl ?_
  refine XB.scr (xl_479_ok rfl rfl) ?_
  refine XB.ifz (P := (xs ((x4 + (3 : Int32))).toNatClampNeg) = (0 : Int32)) (xl_479_ok rfl rfl) rfl rfl (fun c498 => ?_) (fun c498 => ?_)
  · refine XB.goC (lo := 479) (C := xl_479) xl_479_ok 1 (pc' := 506) (ls' := [some (.ref 1000), some (.ref 0), some (.ref 32), some (.ref 56), some (.int x4), (xdl d5), (xdl d6)]) (st' := [(.int (0 : Int32)), (.int (xs ((x4 + (2 : Int32))).toNatClampNeg)), (.int (xs ((x4 + (1 : Int32))).toNatClampNeg)), (.ref 0)]) (μ' := μ) rfl ?_
    exact yW_law_b506_ok k55 hk55 (d5) (d6) x4 (xs ((x4 + (1 : Int32))).toNatClampNeg) (xs ((x4 + (2 : Int32))).toNatClampNeg) (0 : Int32) μ
  · refine XB.goC (lo := 479) (C := xl_479) xl_479_ok 2 (pc' := 506) (ls' := [some (.ref 1000), some (.ref 0), some (.ref 32), some (.ref 56), some (.int x4), (xdl d5), (xdl d6)]) (st' := [(.int (1 : Int32)), (.int (xs ((x4 + (2 : Int32))).toNatClampNeg)), (.int (xs ((x4 + (1 : Int32))).toNatClampNeg)), (.ref 0)]) (μ' := μ) rfl ?_
    exact yW_law_b506_ok k55 hk55 (d5) (d6) x4 (xs ((x4 + (1 : Int32))).toNatClampNeg) (xs ((x4 + (2 : Int32))).toNatClampNeg) (1 : Int32) μ
set_option maxRecDepth 16384 in
def yW_law_b555 (L : Nat) (xs : Nat → Int32) (k55 : Int32 → XMu → XRes) (x4 : Int32) (μ : XMu) : XRes := xgd (xin (x4 + (1 : Int32)) L) (xgd (xin (x4 + (2 : Int32)) L) (xgd (xin (x4 + (3 : Int32)) L) (xbi (yW_entry (xs ((x4 + (1 : Int32))).toNatClampNeg) (xs ((x4 + (2 : Int32))).toNatClampNeg) (xs ((x4 + (3 : Int32))).toNatClampNeg) μ) (fun r20 m19 => xgd (xin (x4 + (1 : Int32)) L) (xgd (xin (x4 + (2 : Int32)) L) (xgd (xin (x4 + (3 : Int32)) L) (xbi (yM_entry (xs ((x4 + (1 : Int32))).toNatClampNeg) (xs ((x4 + (2 : Int32))).toNatClampNeg) (xs ((x4 + (3 : Int32))).toNatClampNeg) m19) (fun r22 m21 => (if (yM_thrown m21) = r20 then (if ¬ r20 = (0 : Int32) then yW_law_b1723 L xs k55 x4 m21 else (if (lg_cmp (m21.2.2 56 0) (r22).toInt64) = (0 : Int32) then yW_law_b1723 L xs k55 x4 m21 else some (.inl (some (.int (0 : Int32))), m21))) else some (.inl (some (.int (0 : Int32))), m21))))))))))
set_option maxRecDepth 16384 in
theorem yW_law_b555_ok {L : Nat} {xs : Nat → Int32} (k55 : Int32 → XMu → XRes) (hk55 : ∀ (d5 : Option Int32) (d6 : Option Int32) (x4 : Int32) (μ : XMu), XB L xs 235 55 [some (.ref 1000), some (.ref 0), some (.ref 32), some (.ref 56), some (.int x4), (xdl d5), (xdl d6)] [] μ (k55 x4 μ)) (d5 : Option Int32) (d6 : Option Int32) (x4 : Int32) (μ : XMu) : XB L xs 235 555 [some (.ref 1000), some (.ref 0), some (.ref 32), some (.ref 56), some (.int x4), (xdl d5), (xdl d6)] [] μ (yW_law_b555 L xs k55 x4 μ) := by
  unfold yW_law_b555
  refine XB.goC (lo := 555) (C := xl_555) xl_555_ok 5 (pc' := 561) (ls' := [some (.ref 1000), some (.ref 0), some (.ref 32), some (.ref 56), some (.int x4), (xdl d5), (xdl d6)]) (st' := [(.int (x4 + (1 : Int32))), (.ref 1000), (.ref 0)]) (μ' := μ) rfl ?_
  refine XB.scr (xl_555_ok rfl rfl) ?_
  refine XB.goC (lo := 555) (C := xl_555) xl_555_ok 4 (pc' := 567) (ls' := [some (.ref 1000), some (.ref 0), some (.ref 32), some (.ref 56), some (.int x4), (xdl d5), (xdl d6)]) (st' := [(.int (x4 + (2 : Int32))), (.ref 1000), (.int (xs ((x4 + (1 : Int32))).toNatClampNeg)), (.ref 0)]) (μ' := μ) rfl ?_
  refine XB.scr (xl_555_ok rfl rfl) ?_
  refine XB.goC (lo := 555) (C := xl_555) xl_555_ok 4 (pc' := 573) (ls' := [some (.ref 1000), some (.ref 0), some (.ref 32), some (.ref 56), some (.int x4), (xdl d5), (xdl d6)]) (st' := [(.int (x4 + (3 : Int32))), (.ref 1000), (.int (xs ((x4 + (2 : Int32))).toNatClampNeg)), (.int (xs ((x4 + (1 : Int32))).toNatClampNeg)), (.ref 0)]) (μ' := μ) rfl ?_
  refine XB.scr (xl_555_ok rfl rfl) ?_
  refine XB.goC (lo := 555) (C := xl_555) xl_555_ok 1 (pc' := 575) (ls' := [some (.ref 1000), some (.ref 0), some (.ref 32), some (.ref 56), some (.int x4), (xdl d5), (xdl d6)]) (st' := [(.ref 56), (.int (xs ((x4 + (3 : Int32))).toNatClampNeg)), (.int (xs ((x4 + (2 : Int32))).toNatClampNeg)), (.int (xs ((x4 + (1 : Int32))).toNatClampNeg)), (.ref 0)]) (μ' := μ) rfl ?_
  refine XB.ci (xl_555_ok rfl rfl) rfl rfl rfl rfl (yW_entry_ok (xs ((x4 + (1 : Int32))).toNatClampNeg) (xs ((x4 + (2 : Int32))).toNatClampNeg) (xs ((x4 + (3 : Int32))).toNatClampNeg) μ) (fun r20 m19 => ?_)
  refine XB.goC (lo := 555) (C := xl_555) xl_555_ok 6 (pc' := 586) (ls' := [some (.ref 1000), some (.ref 0), some (.ref 32), some (.ref 56), some (.int x4), some (.int r20), (xdl d6)]) (st' := [(.int (x4 + (1 : Int32))), (.ref 1000), (.ref 32)]) (μ' := m19) rfl ?_
  refine XB.scr (xl_555_ok rfl rfl) ?_
  refine XB.goC (lo := 555) (C := xl_555) xl_555_ok 4 (pc' := 592) (ls' := [some (.ref 1000), some (.ref 0), some (.ref 32), some (.ref 56), some (.int x4), some (.int r20), (xdl d6)]) (st' := [(.int (x4 + (2 : Int32))), (.ref 1000), (.int (xs ((x4 + (1 : Int32))).toNatClampNeg)), (.ref 32)]) (μ' := m19) rfl ?_
  refine XB.scr (xl_555_ok rfl rfl) ?_
  refine XB.goC (lo := 555) (C := xl_555) xl_555_ok 4 (pc' := 598) (ls' := [some (.ref 1000), some (.ref 0), some (.ref 32), some (.ref 56), some (.int x4), some (.int r20), (xdl d6)]) (st' := [(.int (x4 + (3 : Int32))), (.ref 1000), (.int (xs ((x4 + (2 : Int32))).toNatClampNeg)), (.int (xs ((x4 + (1 : Int32))).toNatClampNeg)), (.ref 32)]) (μ' := m19) rfl ?_
  refine XB.scr (xl_555_ok rfl rfl) ?_
  refine XB.ci (xl_555_ok rfl rfl) rfl rfl rfl rfl (yM_entry_ok (xs ((x4 + (1 : Int32))).toNatClampNeg) (xs ((x4 + (2 : Int32))).toNatClampNeg) (xs ((x4 + (3 : Int32))).toNatClampNeg) m19) (fun r22 m21 => ?_)
  refine XB.goC (lo := 555) (C := xl_555) xl_555_ok 2 (pc' := 605) (ls' := [some (.ref 1000), some (.ref 0), some (.ref 32), some (.ref 56), some (.int x4), some (.int r20), some (.int r22)]) (st' := [(.ref 32)]) (μ' := m21) rfl ?_
  refine XB.cp (xl_555_ok rfl rfl) rfl rfl (yM_thrown_ok m21) ?_
  refine XB.goC (lo := 555) (C := xl_555) xl_555_ok 1 (pc' := 610) (ls' := [some (.ref 1000), some (.ref 0), some (.ref 32), some (.ref 56), some (.int x4), some (.int r20), some (.int r22)]) (st' := [(.int r20), (.int (yM_thrown m21))]) (μ' := m21) rfl ?_
  refine XB.icmp (P := (yM_thrown m21) = r20) (xl_555_ok rfl rfl) rfl rfl (fun c610 => ?_) (fun c610 => ?_)
  · refine XB.goC (lo := 555) (C := xl_555) xl_555_ok 1 (pc' := 617) (ls' := [some (.ref 1000), some (.ref 0), some (.ref 32), some (.ref 56), some (.int x4), some (.int r20), some (.int r22)]) (st' := [(.int r20)]) (μ' := m21) rfl ?_
    refine XB.ifz (P := ¬ r20 = (0 : Int32)) (xl_555_ok rfl rfl) rfl rfl (fun c617 => ?_) (fun c617 => ?_)
    · refine XB.goC (lo := 555) (C := xl_555) xl_555_ok 1 (pc' := 1723) (ls' := [some (.ref 1000), some (.ref 0), some (.ref 32), some (.ref 56), some (.int x4), some (.int r20), some (.int r22)]) (st' := []) (μ' := m21) rfl ?_
      exact yW_law_b1723_ok k55 hk55 (some r20) (some r22) x4 m21
    · refine XB.goC (lo := 555) (C := xl_555) xl_555_ok 6 (pc' := 627) (ls' := [some (.ref 1000), some (.ref 0), some (.ref 32), some (.ref 56), some (.int x4), some (.int r20), some (.int r22)]) (st' := [(.int (lg_cmp (m21.2.2 56 0) (r22).toInt64))]) (μ' := m21) rfl ?_
      refine XB.ifz (P := (lg_cmp (m21.2.2 56 0) (r22).toInt64) = (0 : Int32)) (xl_555_ok rfl rfl) rfl rfl (fun c627 => ?_) (fun c627 => ?_)
      · refine XB.goC (lo := 555) (C := xl_555) xl_555_ok 1 (pc' := 1723) (ls' := [some (.ref 1000), some (.ref 0), some (.ref 32), some (.ref 56), some (.int x4), some (.int r20), some (.int r22)]) (st' := []) (μ' := m21) rfl ?_
        exact yW_law_b1723_ok k55 hk55 (some r20) (some r22) x4 m21
      · refine XB.goC (lo := 555) (C := xl_555) xl_555_ok 1 (pc' := 631) (ls' := [some (.ref 1000), some (.ref 0), some (.ref 32), some (.ref 56), some (.int x4), some (.int r20), some (.int r22)]) (st' := [(.int (0 : Int32))]) (μ' := m21) rfl ?_
        exact XB.retp (xl_555_ok rfl rfl) rfl rfl rfl
  · refine XB.goC (lo := 555) (C := xl_555) xl_555_ok 1 (pc' := 614) (ls' := [some (.ref 1000), some (.ref 0), some (.ref 32), some (.ref 56), some (.int x4), some (.int r20), some (.int r22)]) (st' := [(.int (0 : Int32))]) (μ' := m21) rfl ?_
    exact XB.retp (xl_555_ok rfl rfl) rfl rfl rfl
set_option maxRecDepth 16384 in
def yW_law_b635 (L : Nat) (xs : Nat → Int32) (k55 : Int32 → XMu → XRes) (x4 : Int32) (μ : XMu) : XRes := xgd (xin (x4 + (1 : Int32)) L) (xgd (xin (x4 + (2 : Int32)) L) (xgd (xin (x4 + (3 : Int32)) L) (xgd (xin (x4 + (4 : Int32)) L) (xgd (xin (x4 + (5 : Int32)) L) (xgd (xin (x4 + (6 : Int32)) L) (xbi (yW_append (xs ((x4 + (1 : Int32))).toNatClampNeg) (xs ((x4 + (2 : Int32))).toNatClampNeg) (xs ((x4 + (3 : Int32))).toNatClampNeg) (xs ((x4 + (4 : Int32))).toNatClampNeg) (xs ((x4 + (5 : Int32))).toNatClampNeg) (xs ((x4 + (6 : Int32))).toNatClampNeg) μ) (fun r24 m23 => xgd (xin (x4 + (1 : Int32)) L) (xgd (xin (x4 + (2 : Int32)) L) (xgd (xin (x4 + (3 : Int32)) L) (xgd (xin (x4 + (4 : Int32)) L) (xgd (xin (x4 + (5 : Int32)) L) (xgd (xin (x4 + (6 : Int32)) L) (xbv (yM_append (xs ((x4 + (1 : Int32))).toNatClampNeg) (xs ((x4 + (2 : Int32))).toNatClampNeg) (xs ((x4 + (3 : Int32))).toNatClampNeg) (xs ((x4 + (4 : Int32))).toNatClampNeg) (xs ((x4 + (5 : Int32))).toNatClampNeg) (xs ((x4 + (6 : Int32))).toNatClampNeg) m23) (fun m25 => (if (yM_thrown m25) = r24 then yW_law_b1723 L xs k55 x4 m25 else some (.inl (some (.int (0 : Int32))), m25))))))))))))))))
set_option maxRecDepth 16384 in
theorem yW_law_b635_ok {L : Nat} {xs : Nat → Int32} (k55 : Int32 → XMu → XRes) (hk55 : ∀ (d5 : Option Int32) (d6 : Option Int32) (x4 : Int32) (μ : XMu), XB L xs 235 55 [some (.ref 1000), some (.ref 0), some (.ref 32), some (.ref 56), some (.int x4), (xdl d5), (xdl d6)] [] μ (k55 x4 μ)) (d5 : Option Int32) (d6 : Option Int32) (x4 : Int32) (μ : XMu) : XB L xs 235 635 [some (.ref 1000), some (.ref 0), some (.ref 32), some (.ref 56), some (.int x4), (xdl d5), (xdl d6)] [] μ (yW_law_b635 L xs k55 x4 μ) := by
  unfold yW_law_b635
  refine XB.goC (lo := 635) (C := xl_635) xl_635_ok 5 (pc' := 641) (ls' := [some (.ref 1000), some (.ref 0), some (.ref 32), some (.ref 56), some (.int x4), (xdl d5), (xdl d6)]) (st' := [(.int (x4 + (1 : Int32))), (.ref 1000), (.ref 0)]) (μ' := μ) rfl ?_
  refine XB.scr (xl_635_ok rfl rfl) ?_
  refine XB.goC (lo := 635) (C := xl_635) xl_635_ok 4 (pc' := 647) (ls' := [some (.ref 1000), some (.ref 0), some (.ref 32), some (.ref 56), some (.int x4), (xdl d5), (xdl d6)]) (st' := [(.int (x4 + (2 : Int32))), (.ref 1000), (.int (xs ((x4 + (1 : Int32))).toNatClampNeg)), (.ref 0)]) (μ' := μ) rfl ?_
  refine XB.scr (xl_635_ok rfl rfl) ?_
  refine XB.goC (lo := 635) (C := xl_635) xl_635_ok 4 (pc' := 653) (ls' := [some (.ref 1000), some (.ref 0), some (.ref 32), some (.ref 56), some (.int x4), (xdl d5), (xdl d6)]) (st' := [(.int (x4 + (3 : Int32))), (.ref 1000), (.int (xs ((x4 + (2 : Int32))).toNatClampNeg)), (.int (xs ((x4 + (1 : Int32))).toNatClampNeg)), (.ref 0)]) (μ' := μ) rfl ?_
  refine XB.scr (xl_635_ok rfl rfl) ?_
  refine XB.goC (lo := 635) (C := xl_635) xl_635_ok 4 (pc' := 659) (ls' := [some (.ref 1000), some (.ref 0), some (.ref 32), some (.ref 56), some (.int x4), (xdl d5), (xdl d6)]) (st' := [(.int (x4 + (4 : Int32))), (.ref 1000), (.int (xs ((x4 + (3 : Int32))).toNatClampNeg)), (.int (xs ((x4 + (2 : Int32))).toNatClampNeg)), (.int (xs ((x4 + (1 : Int32))).toNatClampNeg)), (.ref 0)]) (μ' := μ) rfl ?_
  refine XB.scr (xl_635_ok rfl rfl) ?_
  refine XB.goC (lo := 635) (C := xl_635) xl_635_ok 4 (pc' := 665) (ls' := [some (.ref 1000), some (.ref 0), some (.ref 32), some (.ref 56), some (.int x4), (xdl d5), (xdl d6)]) (st' := [(.int (x4 + (5 : Int32))), (.ref 1000), (.int (xs ((x4 + (4 : Int32))).toNatClampNeg)), (.int (xs ((x4 + (3 : Int32))).toNatClampNeg)), (.int (xs ((x4 + (2 : Int32))).toNatClampNeg)), (.int (xs ((x4 + (1 : Int32))).toNatClampNeg)), (.ref 0)]) (μ' := μ) rfl ?_
  refine XB.scr (xl_635_ok rfl rfl) ?_
  refine XB.goC (lo := 635) (C := xl_635) xl_635_ok 4 (pc' := 672) (ls' := [some (.ref 1000), some (.ref 0), some (.ref 32), some (.ref 56), some (.int x4), (xdl d5), (xdl d6)]) (st' := [(.int (x4 + (6 : Int32))), (.ref 1000), (.int (xs ((x4 + (5 : Int32))).toNatClampNeg)), (.int (xs ((x4 + (4 : Int32))).toNatClampNeg)), (.int (xs ((x4 + (3 : Int32))).toNatClampNeg)), (.int (xs ((x4 + (2 : Int32))).toNatClampNeg)), (.int (xs ((x4 + (1 : Int32))).toNatClampNeg)), (.ref 0)]) (μ' := μ) rfl ?_
  refine XB.scr (xl_635_ok rfl rfl) ?_
  refine XB.ci (xl_635_ok rfl rfl) rfl rfl rfl rfl (yW_append_ok (xs ((x4 + (1 : Int32))).toNatClampNeg) (xs ((x4 + (2 : Int32))).toNatClampNeg) (xs ((x4 + (3 : Int32))).toNatClampNeg) (xs ((x4 + (4 : Int32))).toNatClampNeg) (xs ((x4 + (5 : Int32))).toNatClampNeg) (xs ((x4 + (6 : Int32))).toNatClampNeg) μ) (fun r24 m23 => ?_)
  refine XB.goC (lo := 635) (C := xl_635) xl_635_ok 6 (pc' := 684) (ls' := [some (.ref 1000), some (.ref 0), some (.ref 32), some (.ref 56), some (.int x4), some (.int r24), (xdl d6)]) (st' := [(.int (x4 + (1 : Int32))), (.ref 1000), (.ref 32)]) (μ' := m23) rfl ?_
  refine XB.scr (xl_635_ok rfl rfl) ?_
  refine XB.goC (lo := 635) (C := xl_635) xl_635_ok 4 (pc' := 690) (ls' := [some (.ref 1000), some (.ref 0), some (.ref 32), some (.ref 56), some (.int x4), some (.int r24), (xdl d6)]) (st' := [(.int (x4 + (2 : Int32))), (.ref 1000), (.int (xs ((x4 + (1 : Int32))).toNatClampNeg)), (.ref 32)]) (μ' := m23) rfl ?_
  refine XB.scr (xl_635_ok rfl rfl) ?_
  refine XB.goC (lo := 635) (C := xl_635) xl_635_ok 4 (pc' := 696) (ls' := [some (.ref 1000), some (.ref 0), some (.ref 32), some (.ref 56), some (.int x4), some (.int r24), (xdl d6)]) (st' := [(.int (x4 + (3 : Int32))), (.ref 1000), (.int (xs ((x4 + (2 : Int32))).toNatClampNeg)), (.int (xs ((x4 + (1 : Int32))).toNatClampNeg)), (.ref 32)]) (μ' := m23) rfl ?_
  refine XB.scr (xl_635_ok rfl rfl) ?_
  refine XB.goC (lo := 635) (C := xl_635) xl_635_ok 4 (pc' := 702) (ls' := [some (.ref 1000), some (.ref 0), some (.ref 32), some (.ref 56), some (.int x4), some (.int r24), (xdl d6)]) (st' := [(.int (x4 + (4 : Int32))), (.ref 1000), (.int (xs ((x4 + (3 : Int32))).toNatClampNeg)), (.int (xs ((x4 + (2 : Int32))).toNatClampNeg)), (.int (xs ((x4 + (1 : Int32))).toNatClampNeg)), (.ref 32)]) (μ' := m23) rfl ?_
  refine XB.scr (xl_635_ok rfl rfl) ?_
  refine XB.goC (lo := 635) (C := xl_635) xl_635_ok 4 (pc' := 708) (ls' := [some (.ref 1000), some (.ref 0), some (.ref 32), some (.ref 56), some (.int x4), some (.int r24), (xdl d6)]) (st' := [(.int (x4 + (5 : Int32))), (.ref 1000), (.int (xs ((x4 + (4 : Int32))).toNatClampNeg)), (.int (xs ((x4 + (3 : Int32))).toNatClampNeg)), (.int (xs ((x4 + (2 : Int32))).toNatClampNeg)), (.int (xs ((x4 + (1 : Int32))).toNatClampNeg)), (.ref 32)]) (μ' := m23) rfl ?_
  refine XB.scr (xl_635_ok rfl rfl) ?_
  refine XB.goC (lo := 635) (C := xl_635) xl_635_ok 4 (pc' := 715) (ls' := [some (.ref 1000), some (.ref 0), some (.ref 32), some (.ref 56), some (.int x4), some (.int r24), (xdl d6)]) (st' := [(.int (x4 + (6 : Int32))), (.ref 1000), (.int (xs ((x4 + (5 : Int32))).toNatClampNeg)), (.int (xs ((x4 + (4 : Int32))).toNatClampNeg)), (.int (xs ((x4 + (3 : Int32))).toNatClampNeg)), (.int (xs ((x4 + (2 : Int32))).toNatClampNeg)), (.int (xs ((x4 + (1 : Int32))).toNatClampNeg)), (.ref 32)]) (μ' := m23) rfl ?_
  refine XB.scr (xl_635_ok rfl rfl) ?_
  refine XB.cv (xl_635_ok rfl rfl) rfl rfl rfl rfl (yM_append_ok (xs ((x4 + (1 : Int32))).toNatClampNeg) (xs ((x4 + (2 : Int32))).toNatClampNeg) (xs ((x4 + (3 : Int32))).toNatClampNeg) (xs ((x4 + (4 : Int32))).toNatClampNeg) (xs ((x4 + (5 : Int32))).toNatClampNeg) (xs ((x4 + (6 : Int32))).toNatClampNeg) m23) (fun m25 => ?_)
  refine XB.goC (lo := 635) (C := xl_635) xl_635_ok 1 (pc' := 720) (ls' := [some (.ref 1000), some (.ref 0), some (.ref 32), some (.ref 56), some (.int x4), some (.int r24), (xdl d6)]) (st' := [(.ref 32)]) (μ' := m25) rfl ?_
  refine XB.cp (xl_635_ok rfl rfl) rfl rfl (yM_thrown_ok m25) ?_
  refine XB.goC (lo := 635) (C := xl_635) xl_635_ok 1 (pc' := 725) (ls' := [some (.ref 1000), some (.ref 0), some (.ref 32), some (.ref 56), some (.int x4), some (.int r24), (xdl d6)]) (st' := [(.int r24), (.int (yM_thrown m25))]) (μ' := m25) rfl ?_
  refine XB.icmp (P := (yM_thrown m25) = r24) (xl_635_ok rfl rfl) rfl rfl (fun c725 => ?_) (fun c725 => ?_)
  · refine XB.goC (lo := 635) (C := xl_635) xl_635_ok 1 (pc' := 1723) (ls' := [some (.ref 1000), some (.ref 0), some (.ref 32), some (.ref 56), some (.int x4), some (.int r24), (xdl d6)]) (st' := []) (μ' := m25) rfl ?_
    exact yW_law_b1723_ok k55 hk55 (some r24) (d6) x4 m25
  · refine XB.goC (lo := 635) (C := xl_635) xl_635_ok 1 (pc' := 729) (ls' := [some (.ref 1000), some (.ref 0), some (.ref 32), some (.ref 56), some (.int x4), some (.int r24), (xdl d6)]) (st' := [(.int (0 : Int32))]) (μ' := m25) rfl ?_
    exact XB.retp (xl_635_ok rfl rfl) rfl rfl rfl
set_option maxRecDepth 16384 in
def yW_law_b804 (L : Nat) (xs : Nat → Int32) (k55 : Int32 → XMu → XRes) (x4 : Int32) (x5 : Int32) (s1 : Int32) (s2 : Int32) (s3 : Int32) (μ : XMu) : XRes := xgd (xin (x4 + (4 : Int32)) L) (xgd (xin (x4 + (5 : Int32)) L) (xbv (yM_appended s1 s2 s3 (xs ((x4 + (4 : Int32))).toNatClampNeg) (xs ((x4 + (5 : Int32))).toNatClampNeg) μ) (fun m28 => (if (yM_thrown m28) = x5 then yW_law_b1723 L xs k55 x4 m28 else some (.inl (some (.int (0 : Int32))), m28)))))
set_option maxRecDepth 16384 in
theorem yW_law_b804_ok {L : Nat} {xs : Nat → Int32} (k55 : Int32 → XMu → XRes) (hk55 : ∀ (d5 : Option Int32) (d6 : Option Int32) (x4 : Int32) (μ : XMu), XB L xs 235 55 [some (.ref 1000), some (.ref 0), some (.ref 32), some (.ref 56), some (.int x4), (xdl d5), (xdl d6)] [] μ (k55 x4 μ)) (d6 : Option Int32) (x4 : Int32) (x5 : Int32) (s1 : Int32) (s2 : Int32) (s3 : Int32) (μ : XMu) : XB L xs 235 804 [some (.ref 1000), some (.ref 0), some (.ref 32), some (.ref 56), some (.int x4), some (.int x5), (xdl d6)] [(.int s3), (.int s2), (.int s1), (.ref 32)] μ (yW_law_b804 L xs k55 x4 x5 s1 s2 s3 μ) := by
  unfold yW_law_b804
  refine XB.goC (lo := 804) (C := xl_804) xl_804_ok 4 (pc' := 809) (ls' := [some (.ref 1000), some (.ref 0), some (.ref 32), some (.ref 56), some (.int x4), some (.int x5), (xdl d6)]) (st' := [(.int (x4 + (4 : Int32))), (.ref 1000), (.int s3), (.int s2), (.int s1), (.ref 32)]) (μ' := μ) rfl ?_
  refine XB.scr (xl_804_ok rfl rfl) ?_
  refine XB.goC (lo := 804) (C := xl_804) xl_804_ok 4 (pc' := 815) (ls' := [some (.ref 1000), some (.ref 0), some (.ref 32), some (.ref 56), some (.int x4), some (.int x5), (xdl d6)]) (st' := [(.int (x4 + (5 : Int32))), (.ref 1000), (.int (xs ((x4 + (4 : Int32))).toNatClampNeg)), (.int s3), (.int s2), (.int s1), (.ref 32)]) (μ' := μ) rfl ?_
  refine XB.scr (xl_804_ok rfl rfl) ?_
  refine XB.cv (xl_804_ok rfl rfl) rfl rfl rfl rfl (yM_appended_ok s1 s2 s3 (xs ((x4 + (4 : Int32))).toNatClampNeg) (xs ((x4 + (5 : Int32))).toNatClampNeg) μ) (fun m28 => ?_)
  refine XB.goC (lo := 804) (C := xl_804) xl_804_ok 1 (pc' := 820) (ls' := [some (.ref 1000), some (.ref 0), some (.ref 32), some (.ref 56), some (.int x4), some (.int x5), (xdl d6)]) (st' := [(.ref 32)]) (μ' := m28) rfl ?_
  refine XB.cp (xl_804_ok rfl rfl) rfl rfl (yM_thrown_ok m28) ?_
  refine XB.goC (lo := 804) (C := xl_804) xl_804_ok 1 (pc' := 825) (ls' := [some (.ref 1000), some (.ref 0), some (.ref 32), some (.ref 56), some (.int x4), some (.int x5), (xdl d6)]) (st' := [(.int x5), (.int (yM_thrown m28))]) (μ' := m28) rfl ?_
  refine XB.icmp (P := (yM_thrown m28) = x5) (xl_804_ok rfl rfl) rfl rfl (fun c825 => ?_) (fun c825 => ?_)
  · refine XB.goC (lo := 804) (C := xl_804) xl_804_ok 1 (pc' := 1723) (ls' := [some (.ref 1000), some (.ref 0), some (.ref 32), some (.ref 56), some (.int x4), some (.int x5), (xdl d6)]) (st' := []) (μ' := m28) rfl ?_
    exact yW_law_b1723_ok k55 hk55 (some x5) (d6) x4 m28
  · refine XB.goC (lo := 804) (C := xl_804) xl_804_ok 1 (pc' := 829) (ls' := [some (.ref 1000), some (.ref 0), some (.ref 32), some (.ref 56), some (.int x4), some (.int x5), (xdl d6)]) (st' := [(.int (0 : Int32))]) (μ' := m28) rfl ?_
    exact XB.retp (xl_804_ok rfl rfl) rfl rfl rfl
set_option maxRecDepth 16384 in
def yW_law_b760 (L : Nat) (xs : Nat → Int32) (k55 : Int32 → XMu → XRes) (x4 : Int32) (s1 : Int32) (s2 : Int32) (s3 : Int32) (μ : XMu) : XRes := xgd (xin (x4 + (4 : Int32)) L) (xgd (xin (x4 + (5 : Int32)) L) (xbi (yW_appended s1 s2 s3 (xs ((x4 + (4 : Int32))).toNatClampNeg) (xs ((x4 + (5 : Int32))).toNatClampNeg) μ) (fun r27 m26 => xgd (xin (x4 + (1 : Int32)) L) (xgd (xin (x4 + (2 : Int32)) L) (xgd (xin (x4 + (3 : Int32)) L) ((if (xs ((x4 + (3 : Int32))).toNatClampNeg) = (0 : Int32) then yW_law_b804 L xs k55 x4 r27 (xs ((x4 + (1 : Int32))).toNatClampNeg) (xs ((x4 + (2 : Int32))).toNatClampNeg) (0 : Int32) m26 else yW_law_b804 L xs k55 x4 r27 (xs ((x4 + (1 : Int32))).toNatClampNeg) (xs ((x4 + (2 : Int32))).toNatClampNeg) (1 : Int32) m26)))))))
set_option maxRecDepth 16384 in
theorem yW_law_b760_ok {L : Nat} {xs : Nat → Int32} (k55 : Int32 → XMu → XRes) (hk55 : ∀ (d5 : Option Int32) (d6 : Option Int32) (x4 : Int32) (μ : XMu), XB L xs 235 55 [some (.ref 1000), some (.ref 0), some (.ref 32), some (.ref 56), some (.int x4), (xdl d5), (xdl d6)] [] μ (k55 x4 μ)) (d5 : Option Int32) (d6 : Option Int32) (x4 : Int32) (s1 : Int32) (s2 : Int32) (s3 : Int32) (μ : XMu) : XB L xs 235 760 [some (.ref 1000), some (.ref 0), some (.ref 32), some (.ref 56), some (.int x4), (xdl d5), (xdl d6)] [(.int s3), (.int s2), (.int s1), (.ref 0)] μ (yW_law_b760 L xs k55 x4 s1 s2 s3 μ) := by
  unfold yW_law_b760
  refine XB.goC (lo := 760) (C := xl_760) xl_760_ok 4 (pc' := 765) (ls' := [some (.ref 1000), some (.ref 0), some (.ref 32), some (.ref 56), some (.int x4), (xdl d5), (xdl d6)]) (st' := [(.int (x4 + (4 : Int32))), (.ref 1000), (.int s3), (.int s2), (.int s1), (.ref 0)]) (μ' := μ) rfl ?_
  refine XB.scr (xl_760_ok rfl rfl) ?_
  refine XB.goC (lo := 760) (C := xl_760) xl_760_ok 4 (pc' := 771) (ls' := [some (.ref 1000), some (.ref 0), some (.ref 32), some (.ref 56), some (.int x4), (xdl d5), (xdl d6)]) (st' := [(.int (x4 + (5 : Int32))), (.ref 1000), (.int (xs ((x4 + (4 : Int32))).toNatClampNeg)), (.int s3), (.int s2), (.int s1), (.ref 0)]) (μ' := μ) rfl ?_
  refine XB.scr (xl_760_ok rfl rfl) ?_
  refine XB.ci (xl_760_ok rfl rfl) rfl rfl rfl rfl (yW_appended_ok s1 s2 s3 (xs ((x4 + (4 : Int32))).toNatClampNeg) (xs ((x4 + (5 : Int32))).toNatClampNeg) μ) (fun r27 m26 => ?_)
  refine XB.goC (lo := 760) (C := xl_760) xl_760_ok 6 (pc' := 783) (ls' := [some (.ref 1000), some (.ref 0), some (.ref 32), some (.ref 56), some (.int x4), some (.int r27), (xdl d6)]) (st' := [(.int (x4 + (1 : Int32))), (.ref 1000), (.ref 32)]) (μ' := m26) rfl ?_
  refine XB.scr (xl_760_ok rfl rfl) ?_
  refine XB.goC (lo := 760) (C := xl_760) xl_760_ok 4 (pc' := 789) (ls' := [some (.ref 1000), some (.ref 0), some (.ref 32), some (.ref 56), some (.int x4), some (.int r27), (xdl d6)]) (st' := [(.int (x4 + (2 : Int32))), (.ref 1000), (.int (xs ((x4 + (1 : Int32))).toNatClampNeg)), (.ref 32)]) (μ' := m26) rfl ?_
  refine XB.scr (xl_760_ok rfl rfl) ?_
  refine XB.goC (lo := 760) (C := xl_760) xl_760_ok 4 (pc' := 795) (ls' := [some (.ref 1000), some (.ref 0), some (.ref 32), some (.ref 56), some (.int x4), some (.int r27), (xdl d6)]) (st' := [(.int (x4 + (3 : Int32))), (.ref 1000), (.int (xs ((x4 + (2 : Int32))).toNatClampNeg)), (.int (xs ((x4 + (1 : Int32))).toNatClampNeg)), (.ref 32)]) (μ' := m26) rfl ?_
  refine XB.scr (xl_760_ok rfl rfl) ?_
  refine XB.ifz (P := (xs ((x4 + (3 : Int32))).toNatClampNeg) = (0 : Int32)) (xl_760_ok rfl rfl) rfl rfl (fun c796 => ?_) (fun c796 => ?_)
  · refine XB.goC (lo := 760) (C := xl_760) xl_760_ok 1 (pc' := 804) (ls' := [some (.ref 1000), some (.ref 0), some (.ref 32), some (.ref 56), some (.int x4), some (.int r27), (xdl d6)]) (st' := [(.int (0 : Int32)), (.int (xs ((x4 + (2 : Int32))).toNatClampNeg)), (.int (xs ((x4 + (1 : Int32))).toNatClampNeg)), (.ref 32)]) (μ' := m26) rfl ?_
    exact yW_law_b804_ok k55 hk55 (d6) x4 r27 (xs ((x4 + (1 : Int32))).toNatClampNeg) (xs ((x4 + (2 : Int32))).toNatClampNeg) (0 : Int32) m26
  · refine XB.goC (lo := 760) (C := xl_760) xl_760_ok 2 (pc' := 804) (ls' := [some (.ref 1000), some (.ref 0), some (.ref 32), some (.ref 56), some (.int x4), some (.int r27), (xdl d6)]) (st' := [(.int (1 : Int32)), (.int (xs ((x4 + (2 : Int32))).toNatClampNeg)), (.int (xs ((x4 + (1 : Int32))).toNatClampNeg)), (.ref 32)]) (μ' := m26) rfl ?_
    exact yW_law_b804_ok k55 hk55 (d6) x4 r27 (xs ((x4 + (1 : Int32))).toNatClampNeg) (xs ((x4 + (2 : Int32))).toNatClampNeg) (1 : Int32) m26
set_option maxRecDepth 16384 in
def yW_law_b733 (L : Nat) (xs : Nat → Int32) (k55 : Int32 → XMu → XRes) (x4 : Int32) (μ : XMu) : XRes := xgd (xin (x4 + (1 : Int32)) L) (xgd (xin (x4 + (2 : Int32)) L) (xgd (xin (x4 + (3 : Int32)) L) ((if (xs ((x4 + (3 : Int32))).toNatClampNeg) = (0 : Int32) then yW_law_b760 L xs k55 x4 (xs ((x4 + (1 : Int32))).toNatClampNeg) (xs ((x4 + (2 : Int32))).toNatClampNeg) (0 : Int32) μ else yW_law_b760 L xs k55 x4 (xs ((x4 + (1 : Int32))).toNatClampNeg) (xs ((x4 + (2 : Int32))).toNatClampNeg) (1 : Int32) μ))))
set_option maxRecDepth 16384 in
theorem yW_law_b733_ok {L : Nat} {xs : Nat → Int32} (k55 : Int32 → XMu → XRes) (hk55 : ∀ (d5 : Option Int32) (d6 : Option Int32) (x4 : Int32) (μ : XMu), XB L xs 235 55 [some (.ref 1000), some (.ref 0), some (.ref 32), some (.ref 56), some (.int x4), (xdl d5), (xdl d6)] [] μ (k55 x4 μ)) (d5 : Option Int32) (d6 : Option Int32) (x4 : Int32) (μ : XMu) : XB L xs 235 733 [some (.ref 1000), some (.ref 0), some (.ref 32), some (.ref 56), some (.int x4), (xdl d5), (xdl d6)] [] μ (yW_law_b733 L xs k55 x4 μ) := by
  unfold yW_law_b733
  refine XB.goC (lo := 733) (C := xl_733) xl_733_ok 5 (pc' := 739) (ls' := [some (.ref 1000), some (.ref 0), some (.ref 32), some (.ref 56), some (.int x4), (xdl d5), (xdl d6)]) (st' := [(.int (x4 + (1 : Int32))), (.ref 1000), (.ref 0)]) (μ' := μ) rfl ?_
  refine XB.scr (xl_733_ok rfl rfl) ?_
  refine XB.goC (lo := 733) (C := xl_733) xl_733_ok 4 (pc' := 745) (ls' := [some (.ref 1000), some (.ref 0), some (.ref 32), some (.ref 56), some (.int x4), (xdl d5), (xdl d6)]) (st' := [(.int (x4 + (2 : Int32))), (.ref 1000), (.int (xs ((x4 + (1 : Int32))).toNatClampNeg)), (.ref 0)]) (μ' := μ) rfl ?_
  refine XB.scr (xl_733_ok rfl rfl) ?_
  refine XB.goC (lo := 733) (C := xl_733) xl_733_ok 4 (pc' := 751) (ls' := [some (.ref 1000), some (.ref 0), some (.ref 32), some (.ref 56), some (.int x4), (xdl d5), (xdl d6)]) (st' := [(.int (x4 + (3 : Int32))), (.ref 1000), (.int (xs ((x4 + (2 : Int32))).toNatClampNeg)), (.int (xs ((x4 + (1 : Int32))).toNatClampNeg)), (.ref 0)]) (μ' := μ) rfl ?_
  refine XB.scr (xl_733_ok rfl rfl) ?_
  refine XB.ifz (P := (xs ((x4 + (3 : Int32))).toNatClampNeg) = (0 : Int32)) (xl_733_ok rfl rfl) rfl rfl (fun c752 => ?_) (fun c752 => ?_)
  · refine XB.goC (lo := 733) (C := xl_733) xl_733_ok 1 (pc' := 760) (ls' := [some (.ref 1000), some (.ref 0), some (.ref 32), some (.ref 56), some (.int x4), (xdl d5), (xdl d6)]) (st' := [(.int (0 : Int32)), (.int (xs ((x4 + (2 : Int32))).toNatClampNeg)), (.int (xs ((x4 + (1 : Int32))).toNatClampNeg)), (.ref 0)]) (μ' := μ) rfl ?_
    exact yW_law_b760_ok k55 hk55 (d5) (d6) x4 (xs ((x4 + (1 : Int32))).toNatClampNeg) (xs ((x4 + (2 : Int32))).toNatClampNeg) (0 : Int32) μ
  · refine XB.goC (lo := 733) (C := xl_733) xl_733_ok 2 (pc' := 760) (ls' := [some (.ref 1000), some (.ref 0), some (.ref 32), some (.ref 56), some (.int x4), (xdl d5), (xdl d6)]) (st' := [(.int (1 : Int32)), (.int (xs ((x4 + (2 : Int32))).toNatClampNeg)), (.int (xs ((x4 + (1 : Int32))).toNatClampNeg)), (.ref 0)]) (μ' := μ) rfl ?_
    exact yW_law_b760_ok k55 hk55 (d5) (d6) x4 (xs ((x4 + (1 : Int32))).toNatClampNeg) (xs ((x4 + (2 : Int32))).toNatClampNeg) (1 : Int32) μ
set_option maxRecDepth 16384 in
def yW_law_b833 (L : Nat) (xs : Nat → Int32) (k55 : Int32 → XMu → XRes) (x4 : Int32) (μ : XMu) : XRes := xgd (xin (x4 + (1 : Int32)) L) (xgd (xin (x4 + (2 : Int32)) L) (xgd (xin (x4 + (3 : Int32)) L) (xgd (xin (x4 + (4 : Int32)) L) (xbi (yW_describe (xs ((x4 + (1 : Int32))).toNatClampNeg) (xs ((x4 + (2 : Int32))).toNatClampNeg) (xs ((x4 + (3 : Int32))).toNatClampNeg) (xs ((x4 + (4 : Int32))).toNatClampNeg) μ) (fun r30 m29 => xgd (xin (x4 + (1 : Int32)) L) (xgd (xin (x4 + (2 : Int32)) L) (xgd (xin (x4 + (3 : Int32)) L) (xgd (xin (x4 + (4 : Int32)) L) (xbv (yM_describe (xs ((x4 + (1 : Int32))).toNatClampNeg) (xs ((x4 + (2 : Int32))).toNatClampNeg) (xs ((x4 + (3 : Int32))).toNatClampNeg) (xs ((x4 + (4 : Int32))).toNatClampNeg) m29) (fun m31 => (if (yM_thrown m31) = r30 then yW_law_b1723 L xs k55 x4 m31 else some (.inl (some (.int (0 : Int32))), m31))))))))))))
set_option maxRecDepth 16384 in
theorem yW_law_b833_ok {L : Nat} {xs : Nat → Int32} (k55 : Int32 → XMu → XRes) (hk55 : ∀ (d5 : Option Int32) (d6 : Option Int32) (x4 : Int32) (μ : XMu), XB L xs 235 55 [some (.ref 1000), some (.ref 0), some (.ref 32), some (.ref 56), some (.int x4), (xdl d5), (xdl d6)] [] μ (k55 x4 μ)) (d5 : Option Int32) (d6 : Option Int32) (x4 : Int32) (μ : XMu) : XB L xs 235 833 [some (.ref 1000), some (.ref 0), some (.ref 32), some (.ref 56), some (.int x4), (xdl d5), (xdl d6)] [] μ (yW_law_b833 L xs k55 x4 μ) := by
  unfold yW_law_b833
  refine XB.goC (lo := 833) (C := xl_833) xl_833_ok 5 (pc' := 839) (ls' := [some (.ref 1000), some (.ref 0), some (.ref 32), some (.ref 56), some (.int x4), (xdl d5), (xdl d6)]) (st' := [(.int (x4 + (1 : Int32))), (.ref 1000), (.ref 0)]) (μ' := μ) rfl ?_
  refine XB.scr (xl_833_ok rfl rfl) ?_
  refine XB.goC (lo := 833) (C := xl_833) xl_833_ok 4 (pc' := 845) (ls' := [some (.ref 1000), some (.ref 0), some (.ref 32), some (.ref 56), some (.int x4), (xdl d5), (xdl d6)]) (st' := [(.int (x4 + (2 : Int32))), (.ref 1000), (.int (xs ((x4 + (1 : Int32))).toNatClampNeg)), (.ref 0)]) (μ' := μ) rfl ?_
  refine XB.scr (xl_833_ok rfl rfl) ?_
  refine XB.goC (lo := 833) (C := xl_833) xl_833_ok 4 (pc' := 851) (ls' := [some (.ref 1000), some (.ref 0), some (.ref 32), some (.ref 56), some (.int x4), (xdl d5), (xdl d6)]) (st' := [(.int (x4 + (3 : Int32))), (.ref 1000), (.int (xs ((x4 + (2 : Int32))).toNatClampNeg)), (.int (xs ((x4 + (1 : Int32))).toNatClampNeg)), (.ref 0)]) (μ' := μ) rfl ?_
  refine XB.scr (xl_833_ok rfl rfl) ?_
  refine XB.goC (lo := 833) (C := xl_833) xl_833_ok 4 (pc' := 857) (ls' := [some (.ref 1000), some (.ref 0), some (.ref 32), some (.ref 56), some (.int x4), (xdl d5), (xdl d6)]) (st' := [(.int (x4 + (4 : Int32))), (.ref 1000), (.int (xs ((x4 + (3 : Int32))).toNatClampNeg)), (.int (xs ((x4 + (2 : Int32))).toNatClampNeg)), (.int (xs ((x4 + (1 : Int32))).toNatClampNeg)), (.ref 0)]) (μ' := μ) rfl ?_
  refine XB.scr (xl_833_ok rfl rfl) ?_
  refine XB.ci (xl_833_ok rfl rfl) rfl rfl rfl rfl (yW_describe_ok (xs ((x4 + (1 : Int32))).toNatClampNeg) (xs ((x4 + (2 : Int32))).toNatClampNeg) (xs ((x4 + (3 : Int32))).toNatClampNeg) (xs ((x4 + (4 : Int32))).toNatClampNeg) μ) (fun r30 m29 => ?_)
  refine XB.goC (lo := 833) (C := xl_833) xl_833_ok 6 (pc' := 869) (ls' := [some (.ref 1000), some (.ref 0), some (.ref 32), some (.ref 56), some (.int x4), some (.int r30), (xdl d6)]) (st' := [(.int (x4 + (1 : Int32))), (.ref 1000), (.ref 32)]) (μ' := m29) rfl ?_
  refine XB.scr (xl_833_ok rfl rfl) ?_
  refine XB.goC (lo := 833) (C := xl_833) xl_833_ok 4 (pc' := 875) (ls' := [some (.ref 1000), some (.ref 0), some (.ref 32), some (.ref 56), some (.int x4), some (.int r30), (xdl d6)]) (st' := [(.int (x4 + (2 : Int32))), (.ref 1000), (.int (xs ((x4 + (1 : Int32))).toNatClampNeg)), (.ref 32)]) (μ' := m29) rfl ?_
  refine XB.scr (xl_833_ok rfl rfl) ?_
  refine XB.goC (lo := 833) (C := xl_833) xl_833_ok 4 (pc' := 881) (ls' := [some (.ref 1000), some (.ref 0), some (.ref 32), some (.ref 56), some (.int x4), some (.int r30), (xdl d6)]) (st' := [(.int (x4 + (3 : Int32))), (.ref 1000), (.int (xs ((x4 + (2 : Int32))).toNatClampNeg)), (.int (xs ((x4 + (1 : Int32))).toNatClampNeg)), (.ref 32)]) (μ' := m29) rfl ?_
  refine XB.scr (xl_833_ok rfl rfl) ?_
  refine XB.goC (lo := 833) (C := xl_833) xl_833_ok 4 (pc' := 887) (ls' := [some (.ref 1000), some (.ref 0), some (.ref 32), some (.ref 56), some (.int x4), some (.int r30), (xdl d6)]) (st' := [(.int (x4 + (4 : Int32))), (.ref 1000), (.int (xs ((x4 + (3 : Int32))).toNatClampNeg)), (.int (xs ((x4 + (2 : Int32))).toNatClampNeg)), (.int (xs ((x4 + (1 : Int32))).toNatClampNeg)), (.ref 32)]) (μ' := m29) rfl ?_
  refine XB.scr (xl_833_ok rfl rfl) ?_
  refine XB.cv (xl_833_ok rfl rfl) rfl rfl rfl rfl (yM_describe_ok (xs ((x4 + (1 : Int32))).toNatClampNeg) (xs ((x4 + (2 : Int32))).toNatClampNeg) (xs ((x4 + (3 : Int32))).toNatClampNeg) (xs ((x4 + (4 : Int32))).toNatClampNeg) m29) (fun m31 => ?_)
  refine XB.goC (lo := 833) (C := xl_833) xl_833_ok 1 (pc' := 892) (ls' := [some (.ref 1000), some (.ref 0), some (.ref 32), some (.ref 56), some (.int x4), some (.int r30), (xdl d6)]) (st' := [(.ref 32)]) (μ' := m31) rfl ?_
  refine XB.cp (xl_833_ok rfl rfl) rfl rfl (yM_thrown_ok m31) ?_
  refine XB.goC (lo := 833) (C := xl_833) xl_833_ok 1 (pc' := 897) (ls' := [some (.ref 1000), some (.ref 0), some (.ref 32), some (.ref 56), some (.int x4), some (.int r30), (xdl d6)]) (st' := [(.int r30), (.int (yM_thrown m31))]) (μ' := m31) rfl ?_
  refine XB.icmp (P := (yM_thrown m31) = r30) (xl_833_ok rfl rfl) rfl rfl (fun c897 => ?_) (fun c897 => ?_)
  · refine XB.goC (lo := 833) (C := xl_833) xl_833_ok 1 (pc' := 1723) (ls' := [some (.ref 1000), some (.ref 0), some (.ref 32), some (.ref 56), some (.int x4), some (.int r30), (xdl d6)]) (st' := []) (μ' := m31) rfl ?_
    exact yW_law_b1723_ok k55 hk55 (some r30) (d6) x4 m31
  · refine XB.goC (lo := 833) (C := xl_833) xl_833_ok 1 (pc' := 901) (ls' := [some (.ref 1000), some (.ref 0), some (.ref 32), some (.ref 56), some (.int x4), some (.int r30), (xdl d6)]) (st' := [(.int (0 : Int32))]) (μ' := m31) rfl ?_
    exact XB.retp (xl_833_ok rfl rfl) rfl rfl rfl
set_option maxRecDepth 16384 in
def yW_law_b905 (L : Nat) (xs : Nat → Int32) (k55 : Int32 → XMu → XRes) (x4 : Int32) (μ : XMu) : XRes := xgd (xin (x4 + (1 : Int32)) L) (xgd (xin (x4 + (2 : Int32)) L) (xgd (xin (x4 + (3 : Int32)) L) (xgd (xin (x4 + (4 : Int32)) L) (xgd (xin (x4 + (5 : Int32)) L) (xbi (yW_piece (xs ((x4 + (1 : Int32))).toNatClampNeg) (xs ((x4 + (2 : Int32))).toNatClampNeg) (xs ((x4 + (3 : Int32))).toNatClampNeg) (xs ((x4 + (4 : Int32))).toNatClampNeg) (xs ((x4 + (5 : Int32))).toNatClampNeg) μ) (fun r33 m32 => xgd (xin (x4 + (1 : Int32)) L) (xgd (xin (x4 + (2 : Int32)) L) (xgd (xin (x4 + (3 : Int32)) L) (xgd (xin (x4 + (4 : Int32)) L) (xgd (xin (x4 + (5 : Int32)) L) (xbv (yM_piece (xs ((x4 + (1 : Int32))).toNatClampNeg) (xs ((x4 + (2 : Int32))).toNatClampNeg) (xs ((x4 + (3 : Int32))).toNatClampNeg) (xs ((x4 + (4 : Int32))).toNatClampNeg) (xs ((x4 + (5 : Int32))).toNatClampNeg) m32) (fun m34 => (if (yM_thrown m34) = r33 then yW_law_b1723 L xs k55 x4 m34 else some (.inl (some (.int (0 : Int32))), m34))))))))))))))
set_option maxRecDepth 16384 in
theorem yW_law_b905_ok {L : Nat} {xs : Nat → Int32} (k55 : Int32 → XMu → XRes) (hk55 : ∀ (d5 : Option Int32) (d6 : Option Int32) (x4 : Int32) (μ : XMu), XB L xs 235 55 [some (.ref 1000), some (.ref 0), some (.ref 32), some (.ref 56), some (.int x4), (xdl d5), (xdl d6)] [] μ (k55 x4 μ)) (d5 : Option Int32) (d6 : Option Int32) (x4 : Int32) (μ : XMu) : XB L xs 235 905 [some (.ref 1000), some (.ref 0), some (.ref 32), some (.ref 56), some (.int x4), (xdl d5), (xdl d6)] [] μ (yW_law_b905 L xs k55 x4 μ) := by
  unfold yW_law_b905
  refine XB.goC (lo := 905) (C := xl_905) xl_905_ok 5 (pc' := 911) (ls' := [some (.ref 1000), some (.ref 0), some (.ref 32), some (.ref 56), some (.int x4), (xdl d5), (xdl d6)]) (st' := [(.int (x4 + (1 : Int32))), (.ref 1000), (.ref 0)]) (μ' := μ) rfl ?_
  refine XB.scr (xl_905_ok rfl rfl) ?_
  refine XB.goC (lo := 905) (C := xl_905) xl_905_ok 4 (pc' := 917) (ls' := [some (.ref 1000), some (.ref 0), some (.ref 32), some (.ref 56), some (.int x4), (xdl d5), (xdl d6)]) (st' := [(.int (x4 + (2 : Int32))), (.ref 1000), (.int (xs ((x4 + (1 : Int32))).toNatClampNeg)), (.ref 0)]) (μ' := μ) rfl ?_
  refine XB.scr (xl_905_ok rfl rfl) ?_
  refine XB.goC (lo := 905) (C := xl_905) xl_905_ok 4 (pc' := 923) (ls' := [some (.ref 1000), some (.ref 0), some (.ref 32), some (.ref 56), some (.int x4), (xdl d5), (xdl d6)]) (st' := [(.int (x4 + (3 : Int32))), (.ref 1000), (.int (xs ((x4 + (2 : Int32))).toNatClampNeg)), (.int (xs ((x4 + (1 : Int32))).toNatClampNeg)), (.ref 0)]) (μ' := μ) rfl ?_
  refine XB.scr (xl_905_ok rfl rfl) ?_
  refine XB.goC (lo := 905) (C := xl_905) xl_905_ok 4 (pc' := 929) (ls' := [some (.ref 1000), some (.ref 0), some (.ref 32), some (.ref 56), some (.int x4), (xdl d5), (xdl d6)]) (st' := [(.int (x4 + (4 : Int32))), (.ref 1000), (.int (xs ((x4 + (3 : Int32))).toNatClampNeg)), (.int (xs ((x4 + (2 : Int32))).toNatClampNeg)), (.int (xs ((x4 + (1 : Int32))).toNatClampNeg)), (.ref 0)]) (μ' := μ) rfl ?_
  refine XB.scr (xl_905_ok rfl rfl) ?_
  refine XB.goC (lo := 905) (C := xl_905) xl_905_ok 4 (pc' := 935) (ls' := [some (.ref 1000), some (.ref 0), some (.ref 32), some (.ref 56), some (.int x4), (xdl d5), (xdl d6)]) (st' := [(.int (x4 + (5 : Int32))), (.ref 1000), (.int (xs ((x4 + (4 : Int32))).toNatClampNeg)), (.int (xs ((x4 + (3 : Int32))).toNatClampNeg)), (.int (xs ((x4 + (2 : Int32))).toNatClampNeg)), (.int (xs ((x4 + (1 : Int32))).toNatClampNeg)), (.ref 0)]) (μ' := μ) rfl ?_
  refine XB.scr (xl_905_ok rfl rfl) ?_
  refine XB.ci (xl_905_ok rfl rfl) rfl rfl rfl rfl (yW_piece_ok (xs ((x4 + (1 : Int32))).toNatClampNeg) (xs ((x4 + (2 : Int32))).toNatClampNeg) (xs ((x4 + (3 : Int32))).toNatClampNeg) (xs ((x4 + (4 : Int32))).toNatClampNeg) (xs ((x4 + (5 : Int32))).toNatClampNeg) μ) (fun r33 m32 => ?_)
  refine XB.goC (lo := 905) (C := xl_905) xl_905_ok 6 (pc' := 947) (ls' := [some (.ref 1000), some (.ref 0), some (.ref 32), some (.ref 56), some (.int x4), some (.int r33), (xdl d6)]) (st' := [(.int (x4 + (1 : Int32))), (.ref 1000), (.ref 32)]) (μ' := m32) rfl ?_
  refine XB.scr (xl_905_ok rfl rfl) ?_
  refine XB.goC (lo := 905) (C := xl_905) xl_905_ok 4 (pc' := 953) (ls' := [some (.ref 1000), some (.ref 0), some (.ref 32), some (.ref 56), some (.int x4), some (.int r33), (xdl d6)]) (st' := [(.int (x4 + (2 : Int32))), (.ref 1000), (.int (xs ((x4 + (1 : Int32))).toNatClampNeg)), (.ref 32)]) (μ' := m32) rfl ?_
  refine XB.scr (xl_905_ok rfl rfl) ?_
  refine XB.goC (lo := 905) (C := xl_905) xl_905_ok 4 (pc' := 959) (ls' := [some (.ref 1000), some (.ref 0), some (.ref 32), some (.ref 56), some (.int x4), some (.int r33), (xdl d6)]) (st' := [(.int (x4 + (3 : Int32))), (.ref 1000), (.int (xs ((x4 + (2 : Int32))).toNatClampNeg)), (.int (xs ((x4 + (1 : Int32))).toNatClampNeg)), (.ref 32)]) (μ' := m32) rfl ?_
  refine XB.scr (xl_905_ok rfl rfl) ?_
  refine XB.goC (lo := 905) (C := xl_905) xl_905_ok 4 (pc' := 965) (ls' := [some (.ref 1000), some (.ref 0), some (.ref 32), some (.ref 56), some (.int x4), some (.int r33), (xdl d6)]) (st' := [(.int (x4 + (4 : Int32))), (.ref 1000), (.int (xs ((x4 + (3 : Int32))).toNatClampNeg)), (.int (xs ((x4 + (2 : Int32))).toNatClampNeg)), (.int (xs ((x4 + (1 : Int32))).toNatClampNeg)), (.ref 32)]) (μ' := m32) rfl ?_
  refine XB.scr (xl_905_ok rfl rfl) ?_
  refine XB.goC (lo := 905) (C := xl_905) xl_905_ok 4 (pc' := 971) (ls' := [some (.ref 1000), some (.ref 0), some (.ref 32), some (.ref 56), some (.int x4), some (.int r33), (xdl d6)]) (st' := [(.int (x4 + (5 : Int32))), (.ref 1000), (.int (xs ((x4 + (4 : Int32))).toNatClampNeg)), (.int (xs ((x4 + (3 : Int32))).toNatClampNeg)), (.int (xs ((x4 + (2 : Int32))).toNatClampNeg)), (.int (xs ((x4 + (1 : Int32))).toNatClampNeg)), (.ref 32)]) (μ' := m32) rfl ?_
  refine XB.scr (xl_905_ok rfl rfl) ?_
  refine XB.cv (xl_905_ok rfl rfl) rfl rfl rfl rfl (yM_piece_ok (xs ((x4 + (1 : Int32))).toNatClampNeg) (xs ((x4 + (2 : Int32))).toNatClampNeg) (xs ((x4 + (3 : Int32))).toNatClampNeg) (xs ((x4 + (4 : Int32))).toNatClampNeg) (xs ((x4 + (5 : Int32))).toNatClampNeg) m32) (fun m34 => ?_)
  refine XB.goC (lo := 905) (C := xl_905) xl_905_ok 1 (pc' := 976) (ls' := [some (.ref 1000), some (.ref 0), some (.ref 32), some (.ref 56), some (.int x4), some (.int r33), (xdl d6)]) (st' := [(.ref 32)]) (μ' := m34) rfl ?_
  refine XB.cp (xl_905_ok rfl rfl) rfl rfl (yM_thrown_ok m34) ?_
  refine XB.goC (lo := 905) (C := xl_905) xl_905_ok 1 (pc' := 981) (ls' := [some (.ref 1000), some (.ref 0), some (.ref 32), some (.ref 56), some (.int x4), some (.int r33), (xdl d6)]) (st' := [(.int r33), (.int (yM_thrown m34))]) (μ' := m34) rfl ?_
  refine XB.icmp (P := (yM_thrown m34) = r33) (xl_905_ok rfl rfl) rfl rfl (fun c981 => ?_) (fun c981 => ?_)
  · refine XB.goC (lo := 905) (C := xl_905) xl_905_ok 1 (pc' := 1723) (ls' := [some (.ref 1000), some (.ref 0), some (.ref 32), some (.ref 56), some (.int x4), some (.int r33), (xdl d6)]) (st' := []) (μ' := m34) rfl ?_
    exact yW_law_b1723_ok k55 hk55 (some r33) (d6) x4 m34
  · refine XB.goC (lo := 905) (C := xl_905) xl_905_ok 1 (pc' := 985) (ls' := [some (.ref 1000), some (.ref 0), some (.ref 32), some (.ref 56), some (.int x4), some (.int r33), (xdl d6)]) (st' := [(.int (0 : Int32))]) (μ' := m34) rfl ?_
    exact XB.retp (xl_905_ok rfl rfl) rfl rfl rfl
set_option maxRecDepth 16384 in
def yW_law_b989 (L : Nat) (xs : Nat → Int32) (k55 : Int32 → XMu → XRes) (x4 : Int32) (μ : XMu) : XRes := xgd (xin (x4 + (1 : Int32)) L) (xgd (xin (x4 + (2 : Int32)) L) (xgd (xin (x4 + (3 : Int32)) L) (xgd (xin (x4 + (4 : Int32)) L) (xgd (xin (x4 + (5 : Int32)) L) (xbi (yW_stored (xs ((x4 + (1 : Int32))).toNatClampNeg) (xs ((x4 + (2 : Int32))).toNatClampNeg) (xs ((x4 + (3 : Int32))).toNatClampNeg) (xs ((x4 + (4 : Int32))).toNatClampNeg) (xs ((x4 + (5 : Int32))).toNatClampNeg) μ) (fun r36 m35 => xgd (xin (x4 + (1 : Int32)) L) (xgd (xin (x4 + (2 : Int32)) L) (xgd (xin (x4 + (3 : Int32)) L) (xgd (xin (x4 + (4 : Int32)) L) (xgd (xin (x4 + (5 : Int32)) L) (xbv (yM_stored (xs ((x4 + (1 : Int32))).toNatClampNeg) (xs ((x4 + (2 : Int32))).toNatClampNeg) (xs ((x4 + (3 : Int32))).toNatClampNeg) (xs ((x4 + (4 : Int32))).toNatClampNeg) (xs ((x4 + (5 : Int32))).toNatClampNeg) m35) (fun m37 => (if (yM_thrown m37) = r36 then yW_law_b1723 L xs k55 x4 m37 else some (.inl (some (.int (0 : Int32))), m37))))))))))))))
set_option maxRecDepth 16384 in
theorem yW_law_b989_ok {L : Nat} {xs : Nat → Int32} (k55 : Int32 → XMu → XRes) (hk55 : ∀ (d5 : Option Int32) (d6 : Option Int32) (x4 : Int32) (μ : XMu), XB L xs 235 55 [some (.ref 1000), some (.ref 0), some (.ref 32), some (.ref 56), some (.int x4), (xdl d5), (xdl d6)] [] μ (k55 x4 μ)) (d5 : Option Int32) (d6 : Option Int32) (x4 : Int32) (μ : XMu) : XB L xs 235 989 [some (.ref 1000), some (.ref 0), some (.ref 32), some (.ref 56), some (.int x4), (xdl d5), (xdl d6)] [] μ (yW_law_b989 L xs k55 x4 μ) := by
  unfold yW_law_b989
  refine XB.goC (lo := 989) (C := xl_989) xl_989_ok 5 (pc' := 995) (ls' := [some (.ref 1000), some (.ref 0), some (.ref 32), some (.ref 56), some (.int x4), (xdl d5), (xdl d6)]) (st' := [(.int (x4 + (1 : Int32))), (.ref 1000), (.ref 0)]) (μ' := μ) rfl ?_
  refine XB.scr (xl_989_ok rfl rfl) ?_
  refine XB.goC (lo := 989) (C := xl_989) xl_989_ok 4 (pc' := 1001) (ls' := [some (.ref 1000), some (.ref 0), some (.ref 32), some (.ref 56), some (.int x4), (xdl d5), (xdl d6)]) (st' := [(.int (x4 + (2 : Int32))), (.ref 1000), (.int (xs ((x4 + (1 : Int32))).toNatClampNeg)), (.ref 0)]) (μ' := μ) rfl ?_
  refine XB.scr (xl_989_ok rfl rfl) ?_
  refine XB.goC (lo := 989) (C := xl_989) xl_989_ok 4 (pc' := 1007) (ls' := [some (.ref 1000), some (.ref 0), some (.ref 32), some (.ref 56), some (.int x4), (xdl d5), (xdl d6)]) (st' := [(.int (x4 + (3 : Int32))), (.ref 1000), (.int (xs ((x4 + (2 : Int32))).toNatClampNeg)), (.int (xs ((x4 + (1 : Int32))).toNatClampNeg)), (.ref 0)]) (μ' := μ) rfl ?_
  refine XB.scr (xl_989_ok rfl rfl) ?_
  refine XB.goC (lo := 989) (C := xl_989) xl_989_ok 4 (pc' := 1013) (ls' := [some (.ref 1000), some (.ref 0), some (.ref 32), some (.ref 56), some (.int x4), (xdl d5), (xdl d6)]) (st' := [(.int (x4 + (4 : Int32))), (.ref 1000), (.int (xs ((x4 + (3 : Int32))).toNatClampNeg)), (.int (xs ((x4 + (2 : Int32))).toNatClampNeg)), (.int (xs ((x4 + (1 : Int32))).toNatClampNeg)), (.ref 0)]) (μ' := μ) rfl ?_
  refine XB.scr (xl_989_ok rfl rfl) ?_
  refine XB.goC (lo := 989) (C := xl_989) xl_989_ok 4 (pc' := 1019) (ls' := [some (.ref 1000), some (.ref 0), some (.ref 32), some (.ref 56), some (.int x4), (xdl d5), (xdl d6)]) (st' := [(.int (x4 + (5 : Int32))), (.ref 1000), (.int (xs ((x4 + (4 : Int32))).toNatClampNeg)), (.int (xs ((x4 + (3 : Int32))).toNatClampNeg)), (.int (xs ((x4 + (2 : Int32))).toNatClampNeg)), (.int (xs ((x4 + (1 : Int32))).toNatClampNeg)), (.ref 0)]) (μ' := μ) rfl ?_
  refine XB.scr (xl_989_ok rfl rfl) ?_
  refine XB.ci (xl_989_ok rfl rfl) rfl rfl rfl rfl (yW_stored_ok (xs ((x4 + (1 : Int32))).toNatClampNeg) (xs ((x4 + (2 : Int32))).toNatClampNeg) (xs ((x4 + (3 : Int32))).toNatClampNeg) (xs ((x4 + (4 : Int32))).toNatClampNeg) (xs ((x4 + (5 : Int32))).toNatClampNeg) μ) (fun r36 m35 => ?_)
  refine XB.goC (lo := 989) (C := xl_989) xl_989_ok 6 (pc' := 1031) (ls' := [some (.ref 1000), some (.ref 0), some (.ref 32), some (.ref 56), some (.int x4), some (.int r36), (xdl d6)]) (st' := [(.int (x4 + (1 : Int32))), (.ref 1000), (.ref 32)]) (μ' := m35) rfl ?_
  refine XB.scr (xl_989_ok rfl rfl) ?_
  refine XB.goC (lo := 989) (C := xl_989) xl_989_ok 4 (pc' := 1037) (ls' := [some (.ref 1000), some (.ref 0), some (.ref 32), some (.ref 56), some (.int x4), some (.int r36), (xdl d6)]) (st' := [(.int (x4 + (2 : Int32))), (.ref 1000), (.int (xs ((x4 + (1 : Int32))).toNatClampNeg)), (.ref 32)]) (μ' := m35) rfl ?_
  refine XB.scr (xl_989_ok rfl rfl) ?_
  refine XB.goC (lo := 989) (C := xl_989) xl_989_ok 4 (pc' := 1043) (ls' := [some (.ref 1000), some (.ref 0), some (.ref 32), some (.ref 56), some (.int x4), some (.int r36), (xdl d6)]) (st' := [(.int (x4 + (3 : Int32))), (.ref 1000), (.int (xs ((x4 + (2 : Int32))).toNatClampNeg)), (.int (xs ((x4 + (1 : Int32))).toNatClampNeg)), (.ref 32)]) (μ' := m35) rfl ?_
  refine XB.scr (xl_989_ok rfl rfl) ?_
  refine XB.goC (lo := 989) (C := xl_989) xl_989_ok 4 (pc' := 1049) (ls' := [some (.ref 1000), some (.ref 0), some (.ref 32), some (.ref 56), some (.int x4), some (.int r36), (xdl d6)]) (st' := [(.int (x4 + (4 : Int32))), (.ref 1000), (.int (xs ((x4 + (3 : Int32))).toNatClampNeg)), (.int (xs ((x4 + (2 : Int32))).toNatClampNeg)), (.int (xs ((x4 + (1 : Int32))).toNatClampNeg)), (.ref 32)]) (μ' := m35) rfl ?_
  refine XB.scr (xl_989_ok rfl rfl) ?_
  refine XB.goC (lo := 989) (C := xl_989) xl_989_ok 4 (pc' := 1055) (ls' := [some (.ref 1000), some (.ref 0), some (.ref 32), some (.ref 56), some (.int x4), some (.int r36), (xdl d6)]) (st' := [(.int (x4 + (5 : Int32))), (.ref 1000), (.int (xs ((x4 + (4 : Int32))).toNatClampNeg)), (.int (xs ((x4 + (3 : Int32))).toNatClampNeg)), (.int (xs ((x4 + (2 : Int32))).toNatClampNeg)), (.int (xs ((x4 + (1 : Int32))).toNatClampNeg)), (.ref 32)]) (μ' := m35) rfl ?_
  refine XB.scr (xl_989_ok rfl rfl) ?_
  refine XB.cv (xl_989_ok rfl rfl) rfl rfl rfl rfl (yM_stored_ok (xs ((x4 + (1 : Int32))).toNatClampNeg) (xs ((x4 + (2 : Int32))).toNatClampNeg) (xs ((x4 + (3 : Int32))).toNatClampNeg) (xs ((x4 + (4 : Int32))).toNatClampNeg) (xs ((x4 + (5 : Int32))).toNatClampNeg) m35) (fun m37 => ?_)
  refine XB.goC (lo := 989) (C := xl_989) xl_989_ok 1 (pc' := 1060) (ls' := [some (.ref 1000), some (.ref 0), some (.ref 32), some (.ref 56), some (.int x4), some (.int r36), (xdl d6)]) (st' := [(.ref 32)]) (μ' := m37) rfl ?_
  refine XB.cp (xl_989_ok rfl rfl) rfl rfl (yM_thrown_ok m37) ?_
  refine XB.goC (lo := 989) (C := xl_989) xl_989_ok 1 (pc' := 1065) (ls' := [some (.ref 1000), some (.ref 0), some (.ref 32), some (.ref 56), some (.int x4), some (.int r36), (xdl d6)]) (st' := [(.int r36), (.int (yM_thrown m37))]) (μ' := m37) rfl ?_
  refine XB.icmp (P := (yM_thrown m37) = r36) (xl_989_ok rfl rfl) rfl rfl (fun c1065 => ?_) (fun c1065 => ?_)
  · refine XB.goC (lo := 989) (C := xl_989) xl_989_ok 1 (pc' := 1723) (ls' := [some (.ref 1000), some (.ref 0), some (.ref 32), some (.ref 56), some (.int x4), some (.int r36), (xdl d6)]) (st' := []) (μ' := m37) rfl ?_
    exact yW_law_b1723_ok k55 hk55 (some r36) (d6) x4 m37
  · refine XB.goC (lo := 989) (C := xl_989) xl_989_ok 1 (pc' := 1069) (ls' := [some (.ref 1000), some (.ref 0), some (.ref 32), some (.ref 56), some (.int x4), some (.int r36), (xdl d6)]) (st' := [(.int (0 : Int32))]) (μ' := m37) rfl ?_
    exact XB.retp (xl_989_ok rfl rfl) rfl rfl rfl
set_option maxRecDepth 16384 in
def yW_law_b1073 (L : Nat) (xs : Nat → Int32) (k55 : Int32 → XMu → XRes) (x4 : Int32) (μ : XMu) : XRes := xgd (xin (x4 + (1 : Int32)) L) (xgd (xin (x4 + (2 : Int32)) L) (xbi (yW_go (xs ((x4 + (1 : Int32))).toNatClampNeg) (xs ((x4 + (2 : Int32))).toNatClampNeg) μ) (fun r39 m38 => xgd (xin (x4 + (1 : Int32)) L) (xgd (xin (x4 + (2 : Int32)) L) (xbv (yM_go (xs ((x4 + (1 : Int32))).toNatClampNeg) (xs ((x4 + (2 : Int32))).toNatClampNeg) m38) (fun m40 => (if (yM_thrown m40) = r39 then yW_law_b1723 L xs k55 x4 m40 else some (.inl (some (.int (0 : Int32))), m40))))))))
set_option maxRecDepth 16384 in
theorem yW_law_b1073_ok {L : Nat} {xs : Nat → Int32} (k55 : Int32 → XMu → XRes) (hk55 : ∀ (d5 : Option Int32) (d6 : Option Int32) (x4 : Int32) (μ : XMu), XB L xs 235 55 [some (.ref 1000), some (.ref 0), some (.ref 32), some (.ref 56), some (.int x4), (xdl d5), (xdl d6)] [] μ (k55 x4 μ)) (d5 : Option Int32) (d6 : Option Int32) (x4 : Int32) (μ : XMu) : XB L xs 235 1073 [some (.ref 1000), some (.ref 0), some (.ref 32), some (.ref 56), some (.int x4), (xdl d5), (xdl d6)] [] μ (yW_law_b1073 L xs k55 x4 μ) := by
  unfold yW_law_b1073
  refine XB.goC (lo := 1073) (C := xl_1073) xl_1073_ok 5 (pc' := 1079) (ls' := [some (.ref 1000), some (.ref 0), some (.ref 32), some (.ref 56), some (.int x4), (xdl d5), (xdl d6)]) (st' := [(.int (x4 + (1 : Int32))), (.ref 1000), (.ref 0)]) (μ' := μ) rfl ?_
  refine XB.scr (xl_1073_ok rfl rfl) ?_
  refine XB.goC (lo := 1073) (C := xl_1073) xl_1073_ok 4 (pc' := 1085) (ls' := [some (.ref 1000), some (.ref 0), some (.ref 32), some (.ref 56), some (.int x4), (xdl d5), (xdl d6)]) (st' := [(.int (x4 + (2 : Int32))), (.ref 1000), (.int (xs ((x4 + (1 : Int32))).toNatClampNeg)), (.ref 0)]) (μ' := μ) rfl ?_
  refine XB.scr (xl_1073_ok rfl rfl) ?_
  refine XB.ci (xl_1073_ok rfl rfl) rfl rfl rfl rfl (yW_go_ok (xs ((x4 + (1 : Int32))).toNatClampNeg) (xs ((x4 + (2 : Int32))).toNatClampNeg) μ) (fun r39 m38 => ?_)
  refine XB.goC (lo := 1073) (C := xl_1073) xl_1073_ok 6 (pc' := 1097) (ls' := [some (.ref 1000), some (.ref 0), some (.ref 32), some (.ref 56), some (.int x4), some (.int r39), (xdl d6)]) (st' := [(.int (x4 + (1 : Int32))), (.ref 1000), (.ref 32)]) (μ' := m38) rfl ?_
  refine XB.scr (xl_1073_ok rfl rfl) ?_
  refine XB.goC (lo := 1073) (C := xl_1073) xl_1073_ok 4 (pc' := 1103) (ls' := [some (.ref 1000), some (.ref 0), some (.ref 32), some (.ref 56), some (.int x4), some (.int r39), (xdl d6)]) (st' := [(.int (x4 + (2 : Int32))), (.ref 1000), (.int (xs ((x4 + (1 : Int32))).toNatClampNeg)), (.ref 32)]) (μ' := m38) rfl ?_
  refine XB.scr (xl_1073_ok rfl rfl) ?_
  refine XB.cv (xl_1073_ok rfl rfl) rfl rfl rfl rfl (yM_go_ok (xs ((x4 + (1 : Int32))).toNatClampNeg) (xs ((x4 + (2 : Int32))).toNatClampNeg) m38) (fun m40 => ?_)
  refine XB.goC (lo := 1073) (C := xl_1073) xl_1073_ok 1 (pc' := 1108) (ls' := [some (.ref 1000), some (.ref 0), some (.ref 32), some (.ref 56), some (.int x4), some (.int r39), (xdl d6)]) (st' := [(.ref 32)]) (μ' := m40) rfl ?_
  refine XB.cp (xl_1073_ok rfl rfl) rfl rfl (yM_thrown_ok m40) ?_
  refine XB.goC (lo := 1073) (C := xl_1073) xl_1073_ok 1 (pc' := 1113) (ls' := [some (.ref 1000), some (.ref 0), some (.ref 32), some (.ref 56), some (.int x4), some (.int r39), (xdl d6)]) (st' := [(.int r39), (.int (yM_thrown m40))]) (μ' := m40) rfl ?_
  refine XB.icmp (P := (yM_thrown m40) = r39) (xl_1073_ok rfl rfl) rfl rfl (fun c1113 => ?_) (fun c1113 => ?_)
  · refine XB.goC (lo := 1073) (C := xl_1073) xl_1073_ok 1 (pc' := 1723) (ls' := [some (.ref 1000), some (.ref 0), some (.ref 32), some (.ref 56), some (.int x4), some (.int r39), (xdl d6)]) (st' := []) (μ' := m40) rfl ?_
    exact yW_law_b1723_ok k55 hk55 (some r39) (d6) x4 m40
  · refine XB.goC (lo := 1073) (C := xl_1073) xl_1073_ok 1 (pc' := 1117) (ls' := [some (.ref 1000), some (.ref 0), some (.ref 32), some (.ref 56), some (.int x4), some (.int r39), (xdl d6)]) (st' := [(.int (0 : Int32))]) (μ' := m40) rfl ?_
    exact XB.retp (xl_1073_ok rfl rfl) rfl rfl rfl
set_option maxRecDepth 16384 in
def yW_law_b1121 (L : Nat) (xs : Nat → Int32) (k55 : Int32 → XMu → XRes) (x4 : Int32) (μ : XMu) : XRes := xbi (yC_sync μ) (fun r42 m41 => xbi (yM_sync m41) (fun r44 m43 => (if r42 = r44 then yW_law_b1723 L xs k55 x4 m43 else some (.inl (some (.int (0 : Int32))), m43))))
set_option maxRecDepth 16384 in
theorem yW_law_b1121_ok {L : Nat} {xs : Nat → Int32} (k55 : Int32 → XMu → XRes) (hk55 : ∀ (d5 : Option Int32) (d6 : Option Int32) (x4 : Int32) (μ : XMu), XB L xs 235 55 [some (.ref 1000), some (.ref 0), some (.ref 32), some (.ref 56), some (.int x4), (xdl d5), (xdl d6)] [] μ (k55 x4 μ)) (d5 : Option Int32) (d6 : Option Int32) (x4 : Int32) (μ : XMu) : XB L xs 235 1121 [some (.ref 1000), some (.ref 0), some (.ref 32), some (.ref 56), some (.int x4), (xdl d5), (xdl d6)] [] μ (yW_law_b1121 L xs k55 x4 μ) := by
  unfold yW_law_b1121
  refine XB.goC (lo := 1121) (C := xl_1121) xl_1121_ok 1 (pc' := 1122) (ls' := [some (.ref 1000), some (.ref 0), some (.ref 32), some (.ref 56), some (.int x4), (xdl d5), (xdl d6)]) (st' := [(.ref 0)]) (μ' := μ) rfl ?_
  refine XB.ci (xl_1121_ok rfl rfl) rfl rfl rfl rfl (yC_sync_ok μ) (fun r42 m41 => ?_)
  refine XB.goC (lo := 1121) (C := xl_1121) xl_1121_ok 1 (pc' := 1126) (ls' := [some (.ref 1000), some (.ref 0), some (.ref 32), some (.ref 56), some (.int x4), (xdl d5), (xdl d6)]) (st' := [(.ref 32), (.int r42)]) (μ' := m41) rfl ?_
  refine XB.ci (xl_1121_ok rfl rfl) rfl rfl rfl rfl (yM_sync_ok m41) (fun r44 m43 => ?_)
  refine XB.icmp (P := r42 = r44) (xl_1121_ok rfl rfl) rfl rfl (fun c1129 => ?_) (fun c1129 => ?_)
  · exact yW_law_b1723_ok k55 hk55 (d5) (d6) x4 m43
  · refine XB.goC (lo := 1121) (C := xl_1121) xl_1121_ok 1 (pc' := 1133) (ls' := [some (.ref 1000), some (.ref 0), some (.ref 32), some (.ref 56), some (.int x4), (xdl d5), (xdl d6)]) (st' := [(.int (0 : Int32))]) (μ' := m43) rfl ?_
    exact XB.retp (xl_1121_ok rfl rfl) rfl rfl rfl
set_option maxRecDepth 16384 in
def yW_law_b1134 (L : Nat) (xs : Nat → Int32) (k55 : Int32 → XMu → XRes) (x4 : Int32) (μ : XMu) : XRes := xgd (xin (x4 + (1 : Int32)) L) (xbi (yC_command (xs ((x4 + (1 : Int32))).toNatClampNeg) μ) (fun r46 m45 => xgd (xin (x4 + (1 : Int32)) L) (xbi (yM_command (xs ((x4 + (1 : Int32))).toNatClampNeg) m45) (fun r48 m47 => (if r46 = r48 then yW_law_b1723 L xs k55 x4 m47 else some (.inl (some (.int (0 : Int32))), m47))))))
set_option maxRecDepth 16384 in
theorem yW_law_b1134_ok {L : Nat} {xs : Nat → Int32} (k55 : Int32 → XMu → XRes) (hk55 : ∀ (d5 : Option Int32) (d6 : Option Int32) (x4 : Int32) (μ : XMu), XB L xs 235 55 [some (.ref 1000), some (.ref 0), some (.ref 32), some (.ref 56), some (.int x4), (xdl d5), (xdl d6)] [] μ (k55 x4 μ)) (d5 : Option Int32) (d6 : Option Int32) (x4 : Int32) (μ : XMu) : XB L xs 235 1134 [some (.ref 1000), some (.ref 0), some (.ref 32), some (.ref 56), some (.int x4), (xdl d5), (xdl d6)] [] μ (yW_law_b1134 L xs k55 x4 μ) := by
  unfold yW_law_b1134
  refine XB.goC (lo := 1134) (C := xl_1134) xl_1134_ok 5 (pc' := 1140) (ls' := [some (.ref 1000), some (.ref 0), some (.ref 32), some (.ref 56), some (.int x4), (xdl d5), (xdl d6)]) (st' := [(.int (x4 + (1 : Int32))), (.ref 1000), (.ref 0)]) (μ' := μ) rfl ?_
  refine XB.scr (xl_1134_ok rfl rfl) ?_
  refine XB.ci (xl_1134_ok rfl rfl) rfl rfl rfl rfl (yC_command_ok (xs ((x4 + (1 : Int32))).toNatClampNeg) μ) (fun r46 m45 => ?_)
  refine XB.goC (lo := 1134) (C := xl_1134) xl_1134_ok 5 (pc' := 1150) (ls' := [some (.ref 1000), some (.ref 0), some (.ref 32), some (.ref 56), some (.int x4), (xdl d5), (xdl d6)]) (st' := [(.int (x4 + (1 : Int32))), (.ref 1000), (.ref 32), (.int r46)]) (μ' := m45) rfl ?_
  refine XB.scr (xl_1134_ok rfl rfl) ?_
  refine XB.ci (xl_1134_ok rfl rfl) rfl rfl rfl rfl (yM_command_ok (xs ((x4 + (1 : Int32))).toNatClampNeg) m45) (fun r48 m47 => ?_)
  refine XB.icmp (P := r46 = r48) (xl_1134_ok rfl rfl) rfl rfl (fun c1154 => ?_) (fun c1154 => ?_)
  · exact yW_law_b1723_ok k55 hk55 (d5) (d6) x4 m47
  · refine XB.goC (lo := 1134) (C := xl_1134) xl_1134_ok 1 (pc' := 1158) (ls' := [some (.ref 1000), some (.ref 0), some (.ref 32), some (.ref 56), some (.int x4), (xdl d5), (xdl d6)]) (st' := [(.int (0 : Int32))]) (μ' := m47) rfl ?_
    exact XB.retp (xl_1134_ok rfl rfl) rfl rfl rfl
set_option maxRecDepth 16384 in
def yW_law_b1159 (L : Nat) (xs : Nat → Int32) (k55 : Int32 → XMu → XRes) (x4 : Int32) (μ : XMu) : XRes := xbi (yC_read μ) (fun r50 m49 => xbi (yM_read m49) (fun r52 m51 => (if r50 = r52 then yW_law_b1723 L xs k55 x4 m51 else some (.inl (some (.int (0 : Int32))), m51))))
set_option maxRecDepth 16384 in
theorem yW_law_b1159_ok {L : Nat} {xs : Nat → Int32} (k55 : Int32 → XMu → XRes) (hk55 : ∀ (d5 : Option Int32) (d6 : Option Int32) (x4 : Int32) (μ : XMu), XB L xs 235 55 [some (.ref 1000), some (.ref 0), some (.ref 32), some (.ref 56), some (.int x4), (xdl d5), (xdl d6)] [] μ (k55 x4 μ)) (d5 : Option Int32) (d6 : Option Int32) (x4 : Int32) (μ : XMu) : XB L xs 235 1159 [some (.ref 1000), some (.ref 0), some (.ref 32), some (.ref 56), some (.int x4), (xdl d5), (xdl d6)] [] μ (yW_law_b1159 L xs k55 x4 μ) := by
  unfold yW_law_b1159
  refine XB.goC (lo := 1159) (C := xl_1159) xl_1159_ok 1 (pc' := 1160) (ls' := [some (.ref 1000), some (.ref 0), some (.ref 32), some (.ref 56), some (.int x4), (xdl d5), (xdl d6)]) (st' := [(.ref 0)]) (μ' := μ) rfl ?_
  refine XB.ci (xl_1159_ok rfl rfl) rfl rfl rfl rfl (yC_read_ok μ) (fun r50 m49 => ?_)
  refine XB.goC (lo := 1159) (C := xl_1159) xl_1159_ok 1 (pc' := 1164) (ls' := [some (.ref 1000), some (.ref 0), some (.ref 32), some (.ref 56), some (.int x4), (xdl d5), (xdl d6)]) (st' := [(.ref 32), (.int r50)]) (μ' := m49) rfl ?_
  refine XB.ci (xl_1159_ok rfl rfl) rfl rfl rfl rfl (yM_read_ok m49) (fun r52 m51 => ?_)
  refine XB.icmp (P := r50 = r52) (xl_1159_ok rfl rfl) rfl rfl (fun c1167 => ?_) (fun c1167 => ?_)
  · exact yW_law_b1723_ok k55 hk55 (d5) (d6) x4 m51
  · refine XB.goC (lo := 1159) (C := xl_1159) xl_1159_ok 1 (pc' := 1171) (ls' := [some (.ref 1000), some (.ref 0), some (.ref 32), some (.ref 56), some (.int x4), (xdl d5), (xdl d6)]) (st' := [(.int (0 : Int32))]) (μ' := m51) rfl ?_
    exact XB.retp (xl_1159_ok rfl rfl) rfl rfl rfl
set_option maxRecDepth 16384 in
def yW_law_b1172 (L : Nat) (xs : Nat → Int32) (k55 : Int32 → XMu → XRes) (x4 : Int32) (μ : XMu) : XRes := xgd (xin (x4 + (1 : Int32)) L) (xbi (yC_members (xs ((x4 + (1 : Int32))).toNatClampNeg) μ) (fun r54 m53 => xgd (xin (x4 + (1 : Int32)) L) (xbi (yM_members (xs ((x4 + (1 : Int32))).toNatClampNeg) m53) (fun r56 m55 => (if r54 = r56 then yW_law_b1723 L xs k55 x4 m55 else some (.inl (some (.int (0 : Int32))), m55))))))
set_option maxRecDepth 16384 in
theorem yW_law_b1172_ok {L : Nat} {xs : Nat → Int32} (k55 : Int32 → XMu → XRes) (hk55 : ∀ (d5 : Option Int32) (d6 : Option Int32) (x4 : Int32) (μ : XMu), XB L xs 235 55 [some (.ref 1000), some (.ref 0), some (.ref 32), some (.ref 56), some (.int x4), (xdl d5), (xdl d6)] [] μ (k55 x4 μ)) (d5 : Option Int32) (d6 : Option Int32) (x4 : Int32) (μ : XMu) : XB L xs 235 1172 [some (.ref 1000), some (.ref 0), some (.ref 32), some (.ref 56), some (.int x4), (xdl d5), (xdl d6)] [] μ (yW_law_b1172 L xs k55 x4 μ) := by
  unfold yW_law_b1172
  refine XB.goC (lo := 1172) (C := xl_1172) xl_1172_ok 5 (pc' := 1178) (ls' := [some (.ref 1000), some (.ref 0), some (.ref 32), some (.ref 56), some (.int x4), (xdl d5), (xdl d6)]) (st' := [(.int (x4 + (1 : Int32))), (.ref 1000), (.ref 0)]) (μ' := μ) rfl ?_
  refine XB.scr (xl_1172_ok rfl rfl) ?_
  refine XB.ci (xl_1172_ok rfl rfl) rfl rfl rfl rfl (yC_members_ok (xs ((x4 + (1 : Int32))).toNatClampNeg) μ) (fun r54 m53 => ?_)
  refine XB.goC (lo := 1172) (C := xl_1172) xl_1172_ok 5 (pc' := 1188) (ls' := [some (.ref 1000), some (.ref 0), some (.ref 32), some (.ref 56), some (.int x4), (xdl d5), (xdl d6)]) (st' := [(.int (x4 + (1 : Int32))), (.ref 1000), (.ref 32), (.int r54)]) (μ' := m53) rfl ?_
  refine XB.scr (xl_1172_ok rfl rfl) ?_
  refine XB.ci (xl_1172_ok rfl rfl) rfl rfl rfl rfl (yM_members_ok (xs ((x4 + (1 : Int32))).toNatClampNeg) m53) (fun r56 m55 => ?_)
  refine XB.icmp (P := r54 = r56) (xl_1172_ok rfl rfl) rfl rfl (fun c1192 => ?_) (fun c1192 => ?_)
  · exact yW_law_b1723_ok k55 hk55 (d5) (d6) x4 m55
  · refine XB.goC (lo := 1172) (C := xl_1172) xl_1172_ok 1 (pc' := 1196) (ls' := [some (.ref 1000), some (.ref 0), some (.ref 32), some (.ref 56), some (.int x4), (xdl d5), (xdl d6)]) (st' := [(.int (0 : Int32))]) (μ' := m55) rfl ?_
    exact XB.retp (xl_1172_ok rfl rfl) rfl rfl rfl
set_option maxRecDepth 16384 in
def yW_law_b1197 (L : Nat) (xs : Nat → Int32) (k55 : Int32 → XMu → XRes) (x4 : Int32) (μ : XMu) : XRes := xgd (xin (x4 + (1 : Int32)) L) (xbi (yC_learners (xs ((x4 + (1 : Int32))).toNatClampNeg) μ) (fun r58 m57 => xgd (xin (x4 + (1 : Int32)) L) (xbi (yM_learners (xs ((x4 + (1 : Int32))).toNatClampNeg) m57) (fun r60 m59 => (if r58 = r60 then yW_law_b1723 L xs k55 x4 m59 else some (.inl (some (.int (0 : Int32))), m59))))))
set_option maxRecDepth 16384 in
theorem yW_law_b1197_ok {L : Nat} {xs : Nat → Int32} (k55 : Int32 → XMu → XRes) (hk55 : ∀ (d5 : Option Int32) (d6 : Option Int32) (x4 : Int32) (μ : XMu), XB L xs 235 55 [some (.ref 1000), some (.ref 0), some (.ref 32), some (.ref 56), some (.int x4), (xdl d5), (xdl d6)] [] μ (k55 x4 μ)) (d5 : Option Int32) (d6 : Option Int32) (x4 : Int32) (μ : XMu) : XB L xs 235 1197 [some (.ref 1000), some (.ref 0), some (.ref 32), some (.ref 56), some (.int x4), (xdl d5), (xdl d6)] [] μ (yW_law_b1197 L xs k55 x4 μ) := by
  unfold yW_law_b1197
  refine XB.goC (lo := 1197) (C := xl_1197) xl_1197_ok 5 (pc' := 1203) (ls' := [some (.ref 1000), some (.ref 0), some (.ref 32), some (.ref 56), some (.int x4), (xdl d5), (xdl d6)]) (st' := [(.int (x4 + (1 : Int32))), (.ref 1000), (.ref 0)]) (μ' := μ) rfl ?_
  refine XB.scr (xl_1197_ok rfl rfl) ?_
  refine XB.ci (xl_1197_ok rfl rfl) rfl rfl rfl rfl (yC_learners_ok (xs ((x4 + (1 : Int32))).toNatClampNeg) μ) (fun r58 m57 => ?_)
  refine XB.goC (lo := 1197) (C := xl_1197) xl_1197_ok 5 (pc' := 1213) (ls' := [some (.ref 1000), some (.ref 0), some (.ref 32), some (.ref 56), some (.int x4), (xdl d5), (xdl d6)]) (st' := [(.int (x4 + (1 : Int32))), (.ref 1000), (.ref 32), (.int r58)]) (μ' := m57) rfl ?_
  refine XB.scr (xl_1197_ok rfl rfl) ?_
  refine XB.ci (xl_1197_ok rfl rfl) rfl rfl rfl rfl (yM_learners_ok (xs ((x4 + (1 : Int32))).toNatClampNeg) m57) (fun r60 m59 => ?_)
  refine XB.icmp (P := r58 = r60) (xl_1197_ok rfl rfl) rfl rfl (fun c1217 => ?_) (fun c1217 => ?_)
  · exact yW_law_b1723_ok k55 hk55 (d5) (d6) x4 m59
  · refine XB.goC (lo := 1197) (C := xl_1197) xl_1197_ok 1 (pc' := 1221) (ls' := [some (.ref 1000), some (.ref 0), some (.ref 32), some (.ref 56), some (.int x4), (xdl d5), (xdl d6)]) (st' := [(.int (0 : Int32))]) (μ' := m59) rfl ?_
    exact XB.retp (xl_1197_ok rfl rfl) rfl rfl rfl
set_option maxRecDepth 16384 in
def yW_law_b1222 (L : Nat) (xs : Nat → Int32) (k55 : Int32 → XMu → XRes) (x4 : Int32) (μ : XMu) : XRes := xgd (xin (x4 + (1 : Int32)) L) (xbi (yC_hand (xs ((x4 + (1 : Int32))).toNatClampNeg) μ) (fun r62 m61 => xgd (xin (x4 + (1 : Int32)) L) (xbi (yM_hand (xs ((x4 + (1 : Int32))).toNatClampNeg) m61) (fun r64 m63 => (if r62 = r64 then yW_law_b1723 L xs k55 x4 m63 else some (.inl (some (.int (0 : Int32))), m63))))))
set_option maxRecDepth 16384 in
theorem yW_law_b1222_ok {L : Nat} {xs : Nat → Int32} (k55 : Int32 → XMu → XRes) (hk55 : ∀ (d5 : Option Int32) (d6 : Option Int32) (x4 : Int32) (μ : XMu), XB L xs 235 55 [some (.ref 1000), some (.ref 0), some (.ref 32), some (.ref 56), some (.int x4), (xdl d5), (xdl d6)] [] μ (k55 x4 μ)) (d5 : Option Int32) (d6 : Option Int32) (x4 : Int32) (μ : XMu) : XB L xs 235 1222 [some (.ref 1000), some (.ref 0), some (.ref 32), some (.ref 56), some (.int x4), (xdl d5), (xdl d6)] [] μ (yW_law_b1222 L xs k55 x4 μ) := by
  unfold yW_law_b1222
  refine XB.goC (lo := 1222) (C := xl_1222) xl_1222_ok 5 (pc' := 1228) (ls' := [some (.ref 1000), some (.ref 0), some (.ref 32), some (.ref 56), some (.int x4), (xdl d5), (xdl d6)]) (st' := [(.int (x4 + (1 : Int32))), (.ref 1000), (.ref 0)]) (μ' := μ) rfl ?_
  refine XB.scr (xl_1222_ok rfl rfl) ?_
  refine XB.ci (xl_1222_ok rfl rfl) rfl rfl rfl rfl (yC_hand_ok (xs ((x4 + (1 : Int32))).toNatClampNeg) μ) (fun r62 m61 => ?_)
  refine XB.goC (lo := 1222) (C := xl_1222) xl_1222_ok 5 (pc' := 1238) (ls' := [some (.ref 1000), some (.ref 0), some (.ref 32), some (.ref 56), some (.int x4), (xdl d5), (xdl d6)]) (st' := [(.int (x4 + (1 : Int32))), (.ref 1000), (.ref 32), (.int r62)]) (μ' := m61) rfl ?_
  refine XB.scr (xl_1222_ok rfl rfl) ?_
  refine XB.ci (xl_1222_ok rfl rfl) rfl rfl rfl rfl (yM_hand_ok (xs ((x4 + (1 : Int32))).toNatClampNeg) m61) (fun r64 m63 => ?_)
  refine XB.icmp (P := r62 = r64) (xl_1222_ok rfl rfl) rfl rfl (fun c1242 => ?_) (fun c1242 => ?_)
  · exact yW_law_b1723_ok k55 hk55 (d5) (d6) x4 m63
  · refine XB.goC (lo := 1222) (C := xl_1222) xl_1222_ok 1 (pc' := 1246) (ls' := [some (.ref 1000), some (.ref 0), some (.ref 32), some (.ref 56), some (.int x4), (xdl d5), (xdl d6)]) (st' := [(.int (0 : Int32))]) (μ' := m63) rfl ?_
    exact XB.retp (xl_1222_ok rfl rfl) rfl rfl rfl
set_option maxRecDepth 16384 in
def yW_law_b1247 (L : Nat) (xs : Nat → Int32) (k55 : Int32 → XMu → XRes) (x4 : Int32) (μ : XMu) : XRes := xgd (xin (x4 + (1 : Int32)) L) (xbi (yC_compact (xs ((x4 + (1 : Int32))).toNatClampNeg) μ) (fun r66 m65 => xgd (xin (x4 + (1 : Int32)) L) (xbi (yM_compact (xs ((x4 + (1 : Int32))).toNatClampNeg) m65) (fun r68 m67 => (if r66 = r68 then yW_law_b1723 L xs k55 x4 m67 else some (.inl (some (.int (0 : Int32))), m67))))))
set_option maxRecDepth 16384 in
theorem yW_law_b1247_ok {L : Nat} {xs : Nat → Int32} (k55 : Int32 → XMu → XRes) (hk55 : ∀ (d5 : Option Int32) (d6 : Option Int32) (x4 : Int32) (μ : XMu), XB L xs 235 55 [some (.ref 1000), some (.ref 0), some (.ref 32), some (.ref 56), some (.int x4), (xdl d5), (xdl d6)] [] μ (k55 x4 μ)) (d5 : Option Int32) (d6 : Option Int32) (x4 : Int32) (μ : XMu) : XB L xs 235 1247 [some (.ref 1000), some (.ref 0), some (.ref 32), some (.ref 56), some (.int x4), (xdl d5), (xdl d6)] [] μ (yW_law_b1247 L xs k55 x4 μ) := by
  unfold yW_law_b1247
  refine XB.goC (lo := 1247) (C := xl_1247) xl_1247_ok 5 (pc' := 1253) (ls' := [some (.ref 1000), some (.ref 0), some (.ref 32), some (.ref 56), some (.int x4), (xdl d5), (xdl d6)]) (st' := [(.int (x4 + (1 : Int32))), (.ref 1000), (.ref 0)]) (μ' := μ) rfl ?_
  refine XB.scr (xl_1247_ok rfl rfl) ?_
  refine XB.ci (xl_1247_ok rfl rfl) rfl rfl rfl rfl (yC_compact_ok (xs ((x4 + (1 : Int32))).toNatClampNeg) μ) (fun r66 m65 => ?_)
  refine XB.goC (lo := 1247) (C := xl_1247) xl_1247_ok 5 (pc' := 1263) (ls' := [some (.ref 1000), some (.ref 0), some (.ref 32), some (.ref 56), some (.int x4), (xdl d5), (xdl d6)]) (st' := [(.int (x4 + (1 : Int32))), (.ref 1000), (.ref 32), (.int r66)]) (μ' := m65) rfl ?_
  refine XB.scr (xl_1247_ok rfl rfl) ?_
  refine XB.ci (xl_1247_ok rfl rfl) rfl rfl rfl rfl (yM_compact_ok (xs ((x4 + (1 : Int32))).toNatClampNeg) m65) (fun r68 m67 => ?_)
  refine XB.icmp (P := r66 = r68) (xl_1247_ok rfl rfl) rfl rfl (fun c1267 => ?_) (fun c1267 => ?_)
  · exact yW_law_b1723_ok k55 hk55 (d5) (d6) x4 m67
  · refine XB.goC (lo := 1247) (C := xl_1247) xl_1247_ok 1 (pc' := 1271) (ls' := [some (.ref 1000), some (.ref 0), some (.ref 32), some (.ref 56), some (.int x4), (xdl d5), (xdl d6)]) (st' := [(.int (0 : Int32))]) (μ' := m67) rfl ?_
    exact XB.retp (xl_1247_ok rfl rfl) rfl rfl rfl
set_option maxRecDepth 16384 in
def yW_law_b1272 (L : Nat) (xs : Nat → Int32) (k55 : Int32 → XMu → XRes) (x4 : Int32) (μ : XMu) : XRes := xbv (yC_restart μ) (fun m69 => xbv (yM_restart m69) (fun m70 => yW_law_b1723 L xs k55 x4 m70))
set_option maxRecDepth 16384 in
theorem yW_law_b1272_ok {L : Nat} {xs : Nat → Int32} (k55 : Int32 → XMu → XRes) (hk55 : ∀ (d5 : Option Int32) (d6 : Option Int32) (x4 : Int32) (μ : XMu), XB L xs 235 55 [some (.ref 1000), some (.ref 0), some (.ref 32), some (.ref 56), some (.int x4), (xdl d5), (xdl d6)] [] μ (k55 x4 μ)) (d5 : Option Int32) (d6 : Option Int32) (x4 : Int32) (μ : XMu) : XB L xs 235 1272 [some (.ref 1000), some (.ref 0), some (.ref 32), some (.ref 56), some (.int x4), (xdl d5), (xdl d6)] [] μ (yW_law_b1272 L xs k55 x4 μ) := by
  unfold yW_law_b1272
  refine XB.goC (lo := 1272) (C := xl_1272) xl_1272_ok 1 (pc' := 1273) (ls' := [some (.ref 1000), some (.ref 0), some (.ref 32), some (.ref 56), some (.int x4), (xdl d5), (xdl d6)]) (st' := [(.ref 0)]) (μ' := μ) rfl ?_
  refine XB.cv (xl_1272_ok rfl rfl) rfl rfl rfl rfl (yC_restart_ok μ) (fun m69 => ?_)
  refine XB.goC (lo := 1272) (C := xl_1272) xl_1272_ok 1 (pc' := 1277) (ls' := [some (.ref 1000), some (.ref 0), some (.ref 32), some (.ref 56), some (.int x4), (xdl d5), (xdl d6)]) (st' := [(.ref 32)]) (μ' := m69) rfl ?_
  refine XB.cv (xl_1272_ok rfl rfl) rfl rfl rfl rfl (yM_restart_ok m69) (fun m70 => ?_)
  refine XB.goC (lo := 1272) (C := xl_1272) xl_1272_ok 1 (pc' := 1723) (ls' := [some (.ref 1000), some (.ref 0), some (.ref 32), some (.ref 56), some (.int x4), (xdl d5), (xdl d6)]) (st' := []) (μ' := m70) rfl ?_
  exact yW_law_b1723_ok k55 hk55 (d5) (d6) x4 m70
set_option maxRecDepth 16384 in
def yW_law_b1283 (L : Nat) (xs : Nat → Int32) (k55 : Int32 → XMu → XRes) (x4 : Int32) (μ : XMu) : XRes := xgd (xin (x4 + (1 : Int32)) L) (xbi (yW_state (xs ((x4 + (1 : Int32))).toNatClampNeg) μ) (fun r72 m71 => xgd (xin (x4 + (1 : Int32)) L) (xbi (yM_state (xs ((x4 + (1 : Int32))).toNatClampNeg) m71) (fun r74 m73 => (if (yM_thrown m73) = r72 then (if ¬ r72 = (0 : Int32) then yW_law_b1723 L xs k55 x4 m73 else (if (lg_cmp (m73.2.2 56 0) (r74).toInt64) = (0 : Int32) then yW_law_b1723 L xs k55 x4 m73 else some (.inl (some (.int (0 : Int32))), m73))) else some (.inl (some (.int (0 : Int32))), m73))))))
set_option maxRecDepth 16384 in
theorem yW_law_b1283_ok {L : Nat} {xs : Nat → Int32} (k55 : Int32 → XMu → XRes) (hk55 : ∀ (d5 : Option Int32) (d6 : Option Int32) (x4 : Int32) (μ : XMu), XB L xs 235 55 [some (.ref 1000), some (.ref 0), some (.ref 32), some (.ref 56), some (.int x4), (xdl d5), (xdl d6)] [] μ (k55 x4 μ)) (d5 : Option Int32) (d6 : Option Int32) (x4 : Int32) (μ : XMu) : XB L xs 235 1283 [some (.ref 1000), some (.ref 0), some (.ref 32), some (.ref 56), some (.int x4), (xdl d5), (xdl d6)] [] μ (yW_law_b1283 L xs k55 x4 μ) := by
  unfold yW_law_b1283
  refine XB.goC (lo := 1283) (C := xl_1283) xl_1283_ok 5 (pc' := 1289) (ls' := [some (.ref 1000), some (.ref 0), some (.ref 32), some (.ref 56), some (.int x4), (xdl d5), (xdl d6)]) (st' := [(.int (x4 + (1 : Int32))), (.ref 1000), (.ref 0)]) (μ' := μ) rfl ?_
  refine XB.scr (xl_1283_ok rfl rfl) ?_
  refine XB.goC (lo := 1283) (C := xl_1283) xl_1283_ok 1 (pc' := 1291) (ls' := [some (.ref 1000), some (.ref 0), some (.ref 32), some (.ref 56), some (.int x4), (xdl d5), (xdl d6)]) (st' := [(.ref 56), (.int (xs ((x4 + (1 : Int32))).toNatClampNeg)), (.ref 0)]) (μ' := μ) rfl ?_
  refine XB.ci (xl_1283_ok rfl rfl) rfl rfl rfl rfl (yW_state_ok (xs ((x4 + (1 : Int32))).toNatClampNeg) μ) (fun r72 m71 => ?_)
  refine XB.goC (lo := 1283) (C := xl_1283) xl_1283_ok 6 (pc' := 1302) (ls' := [some (.ref 1000), some (.ref 0), some (.ref 32), some (.ref 56), some (.int x4), some (.int r72), (xdl d6)]) (st' := [(.int (x4 + (1 : Int32))), (.ref 1000), (.ref 32)]) (μ' := m71) rfl ?_
  refine XB.scr (xl_1283_ok rfl rfl) ?_
  refine XB.ci (xl_1283_ok rfl rfl) rfl rfl rfl rfl (yM_state_ok (xs ((x4 + (1 : Int32))).toNatClampNeg) m71) (fun r74 m73 => ?_)
  refine XB.goC (lo := 1283) (C := xl_1283) xl_1283_ok 2 (pc' := 1309) (ls' := [some (.ref 1000), some (.ref 0), some (.ref 32), some (.ref 56), some (.int x4), some (.int r72), some (.int r74)]) (st' := [(.ref 32)]) (μ' := m73) rfl ?_
  refine XB.cp (xl_1283_ok rfl rfl) rfl rfl (yM_thrown_ok m73) ?_
  refine XB.goC (lo := 1283) (C := xl_1283) xl_1283_ok 1 (pc' := 1314) (ls' := [some (.ref 1000), some (.ref 0), some (.ref 32), some (.ref 56), some (.int x4), some (.int r72), some (.int r74)]) (st' := [(.int r72), (.int (yM_thrown m73))]) (μ' := m73) rfl ?_
  refine XB.icmp (P := (yM_thrown m73) = r72) (xl_1283_ok rfl rfl) rfl rfl (fun c1314 => ?_) (fun c1314 => ?_)
  · refine XB.goC (lo := 1283) (C := xl_1283) xl_1283_ok 1 (pc' := 1321) (ls' := [some (.ref 1000), some (.ref 0), some (.ref 32), some (.ref 56), some (.int x4), some (.int r72), some (.int r74)]) (st' := [(.int r72)]) (μ' := m73) rfl ?_
    refine XB.ifz (P := ¬ r72 = (0 : Int32)) (xl_1283_ok rfl rfl) rfl rfl (fun c1321 => ?_) (fun c1321 => ?_)
    · refine XB.goC (lo := 1283) (C := xl_1283) xl_1283_ok 1 (pc' := 1723) (ls' := [some (.ref 1000), some (.ref 0), some (.ref 32), some (.ref 56), some (.int x4), some (.int r72), some (.int r74)]) (st' := []) (μ' := m73) rfl ?_
      exact yW_law_b1723_ok k55 hk55 (some r72) (some r74) x4 m73
    · refine XB.goC (lo := 1283) (C := xl_1283) xl_1283_ok 6 (pc' := 1331) (ls' := [some (.ref 1000), some (.ref 0), some (.ref 32), some (.ref 56), some (.int x4), some (.int r72), some (.int r74)]) (st' := [(.int (lg_cmp (m73.2.2 56 0) (r74).toInt64))]) (μ' := m73) rfl ?_
      refine XB.ifz (P := (lg_cmp (m73.2.2 56 0) (r74).toInt64) = (0 : Int32)) (xl_1283_ok rfl rfl) rfl rfl (fun c1331 => ?_) (fun c1331 => ?_)
      · refine XB.goC (lo := 1283) (C := xl_1283) xl_1283_ok 1 (pc' := 1723) (ls' := [some (.ref 1000), some (.ref 0), some (.ref 32), some (.ref 56), some (.int x4), some (.int r72), some (.int r74)]) (st' := []) (μ' := m73) rfl ?_
        exact yW_law_b1723_ok k55 hk55 (some r72) (some r74) x4 m73
      · refine XB.goC (lo := 1283) (C := xl_1283) xl_1283_ok 1 (pc' := 1335) (ls' := [some (.ref 1000), some (.ref 0), some (.ref 32), some (.ref 56), some (.int x4), some (.int r72), some (.int r74)]) (st' := [(.int (0 : Int32))]) (μ' := m73) rfl ?_
        exact XB.retp (xl_1283_ok rfl rfl) rfl rfl rfl
  · refine XB.goC (lo := 1283) (C := xl_1283) xl_1283_ok 1 (pc' := 1318) (ls' := [some (.ref 1000), some (.ref 0), some (.ref 32), some (.ref 56), some (.int x4), some (.int r72), some (.int r74)]) (st' := [(.int (0 : Int32))]) (μ' := m73) rfl ?_
    exact XB.retp (xl_1283_ok rfl rfl) rfl rfl rfl
set_option maxRecDepth 16384 in
def yW_law_b1339 (L : Nat) (xs : Nat → Int32) (k55 : Int32 → XMu → XRes) (x4 : Int32) (μ : XMu) : XRes := xgd (xin (x4 + (1 : Int32)) L) (xgd (xin (x4 + (2 : Int32)) L) (xbi (yW_log (xs ((x4 + (1 : Int32))).toNatClampNeg) (xs ((x4 + (2 : Int32))).toNatClampNeg) μ) (fun r76 m75 => xgd (xin (x4 + (1 : Int32)) L) (xgd (xin (x4 + (2 : Int32)) L) (xbi (yM_log (xs ((x4 + (1 : Int32))).toNatClampNeg) (xs ((x4 + (2 : Int32))).toNatClampNeg) m75) (fun r78 m77 => (if (yM_thrown m77) = r76 then (if ¬ r76 = (0 : Int32) then yW_law_b1723 L xs k55 x4 m77 else (if (lg_cmp (m77.2.2 56 0) (r78).toInt64) = (0 : Int32) then yW_law_b1723 L xs k55 x4 m77 else some (.inl (some (.int (0 : Int32))), m77))) else some (.inl (some (.int (0 : Int32))), m77))))))))
set_option maxRecDepth 16384 in
theorem yW_law_b1339_ok {L : Nat} {xs : Nat → Int32} (k55 : Int32 → XMu → XRes) (hk55 : ∀ (d5 : Option Int32) (d6 : Option Int32) (x4 : Int32) (μ : XMu), XB L xs 235 55 [some (.ref 1000), some (.ref 0), some (.ref 32), some (.ref 56), some (.int x4), (xdl d5), (xdl d6)] [] μ (k55 x4 μ)) (d5 : Option Int32) (d6 : Option Int32) (x4 : Int32) (μ : XMu) : XB L xs 235 1339 [some (.ref 1000), some (.ref 0), some (.ref 32), some (.ref 56), some (.int x4), (xdl d5), (xdl d6)] [] μ (yW_law_b1339 L xs k55 x4 μ) := by
  unfold yW_law_b1339
  refine XB.goC (lo := 1339) (C := xl_1339) xl_1339_ok 5 (pc' := 1345) (ls' := [some (.ref 1000), some (.ref 0), some (.ref 32), some (.ref 56), some (.int x4), (xdl d5), (xdl d6)]) (st' := [(.int (x4 + (1 : Int32))), (.ref 1000), (.ref 0)]) (μ' := μ) rfl ?_
  refine XB.scr (xl_1339_ok rfl rfl) ?_
  refine XB.goC (lo := 1339) (C := xl_1339) xl_1339_ok 4 (pc' := 1351) (ls' := [some (.ref 1000), some (.ref 0), some (.ref 32), some (.ref 56), some (.int x4), (xdl d5), (xdl d6)]) (st' := [(.int (x4 + (2 : Int32))), (.ref 1000), (.int (xs ((x4 + (1 : Int32))).toNatClampNeg)), (.ref 0)]) (μ' := μ) rfl ?_
  refine XB.scr (xl_1339_ok rfl rfl) ?_
  refine XB.goC (lo := 1339) (C := xl_1339) xl_1339_ok 1 (pc' := 1353) (ls' := [some (.ref 1000), some (.ref 0), some (.ref 32), some (.ref 56), some (.int x4), (xdl d5), (xdl d6)]) (st' := [(.ref 56), (.int (xs ((x4 + (2 : Int32))).toNatClampNeg)), (.int (xs ((x4 + (1 : Int32))).toNatClampNeg)), (.ref 0)]) (μ' := μ) rfl ?_
  refine XB.ci (xl_1339_ok rfl rfl) rfl rfl rfl rfl (yW_log_ok (xs ((x4 + (1 : Int32))).toNatClampNeg) (xs ((x4 + (2 : Int32))).toNatClampNeg) μ) (fun r76 m75 => ?_)
  refine XB.goC (lo := 1339) (C := xl_1339) xl_1339_ok 6 (pc' := 1364) (ls' := [some (.ref 1000), some (.ref 0), some (.ref 32), some (.ref 56), some (.int x4), some (.int r76), (xdl d6)]) (st' := [(.int (x4 + (1 : Int32))), (.ref 1000), (.ref 32)]) (μ' := m75) rfl ?_
  refine XB.scr (xl_1339_ok rfl rfl) ?_
  refine XB.goC (lo := 1339) (C := xl_1339) xl_1339_ok 4 (pc' := 1370) (ls' := [some (.ref 1000), some (.ref 0), some (.ref 32), some (.ref 56), some (.int x4), some (.int r76), (xdl d6)]) (st' := [(.int (x4 + (2 : Int32))), (.ref 1000), (.int (xs ((x4 + (1 : Int32))).toNatClampNeg)), (.ref 32)]) (μ' := m75) rfl ?_
  refine XB.scr (xl_1339_ok rfl rfl) ?_
  refine XB.ci (xl_1339_ok rfl rfl) rfl rfl rfl rfl (yM_log_ok (xs ((x4 + (1 : Int32))).toNatClampNeg) (xs ((x4 + (2 : Int32))).toNatClampNeg) m75) (fun r78 m77 => ?_)
  refine XB.goC (lo := 1339) (C := xl_1339) xl_1339_ok 2 (pc' := 1377) (ls' := [some (.ref 1000), some (.ref 0), some (.ref 32), some (.ref 56), some (.int x4), some (.int r76), some (.int r78)]) (st' := [(.ref 32)]) (μ' := m77) rfl ?_
  refine XB.cp (xl_1339_ok rfl rfl) rfl rfl (yM_thrown_ok m77) ?_
  refine XB.goC (lo := 1339) (C := xl_1339) xl_1339_ok 1 (pc' := 1382) (ls' := [some (.ref 1000), some (.ref 0), some (.ref 32), some (.ref 56), some (.int x4), some (.int r76), some (.int r78)]) (st' := [(.int r76), (.int (yM_thrown m77))]) (μ' := m77) rfl ?_
  refine XB.icmp (P := (yM_thrown m77) = r76) (xl_1339_ok rfl rfl) rfl rfl (fun c1382 => ?_) (fun c1382 => ?_)
  · refine XB.goC (lo := 1339) (C := xl_1339) xl_1339_ok 1 (pc' := 1389) (ls' := [some (.ref 1000), some (.ref 0), some (.ref 32), some (.ref 56), some (.int x4), some (.int r76), some (.int r78)]) (st' := [(.int r76)]) (μ' := m77) rfl ?_
    refine XB.ifz (P := ¬ r76 = (0 : Int32)) (xl_1339_ok rfl rfl) rfl rfl (fun c1389 => ?_) (fun c1389 => ?_)
    · refine XB.goC (lo := 1339) (C := xl_1339) xl_1339_ok 1 (pc' := 1723) (ls' := [some (.ref 1000), some (.ref 0), some (.ref 32), some (.ref 56), some (.int x4), some (.int r76), some (.int r78)]) (st' := []) (μ' := m77) rfl ?_
      exact yW_law_b1723_ok k55 hk55 (some r76) (some r78) x4 m77
    · refine XB.goC (lo := 1339) (C := xl_1339) xl_1339_ok 6 (pc' := 1399) (ls' := [some (.ref 1000), some (.ref 0), some (.ref 32), some (.ref 56), some (.int x4), some (.int r76), some (.int r78)]) (st' := [(.int (lg_cmp (m77.2.2 56 0) (r78).toInt64))]) (μ' := m77) rfl ?_
      refine XB.ifz (P := (lg_cmp (m77.2.2 56 0) (r78).toInt64) = (0 : Int32)) (xl_1339_ok rfl rfl) rfl rfl (fun c1399 => ?_) (fun c1399 => ?_)
      · refine XB.goC (lo := 1339) (C := xl_1339) xl_1339_ok 1 (pc' := 1723) (ls' := [some (.ref 1000), some (.ref 0), some (.ref 32), some (.ref 56), some (.int x4), some (.int r76), some (.int r78)]) (st' := []) (μ' := m77) rfl ?_
        exact yW_law_b1723_ok k55 hk55 (some r76) (some r78) x4 m77
      · refine XB.goC (lo := 1339) (C := xl_1339) xl_1339_ok 1 (pc' := 1403) (ls' := [some (.ref 1000), some (.ref 0), some (.ref 32), some (.ref 56), some (.int x4), some (.int r76), some (.int r78)]) (st' := [(.int (0 : Int32))]) (μ' := m77) rfl ?_
        exact XB.retp (xl_1339_ok rfl rfl) rfl rfl rfl
  · refine XB.goC (lo := 1339) (C := xl_1339) xl_1339_ok 1 (pc' := 1386) (ls' := [some (.ref 1000), some (.ref 0), some (.ref 32), some (.ref 56), some (.int x4), some (.int r76), some (.int r78)]) (st' := [(.int (0 : Int32))]) (μ' := m77) rfl ?_
    exact XB.retp (xl_1339_ok rfl rfl) rfl rfl rfl
set_option maxRecDepth 16384 in
def yW_law_b1407 (L : Nat) (xs : Nat → Int32) (k55 : Int32 → XMu → XRes) (x4 : Int32) (μ : XMu) : XRes := xgd (xin (x4 + (1 : Int32)) L) (xgd (xin (x4 + (2 : Int32)) L) (xbi (yW_peer (xs ((x4 + (1 : Int32))).toNatClampNeg) (xs ((x4 + (2 : Int32))).toNatClampNeg) μ) (fun r80 m79 => xgd (xin (x4 + (1 : Int32)) L) (xgd (xin (x4 + (2 : Int32)) L) (xbi (yM_peer (xs ((x4 + (1 : Int32))).toNatClampNeg) (xs ((x4 + (2 : Int32))).toNatClampNeg) m79) (fun r82 m81 => (if (yM_thrown m81) = r80 then (if ¬ r80 = (0 : Int32) then yW_law_b1723 L xs k55 x4 m81 else (if (lg_cmp (m81.2.2 56 0) (r82).toInt64) = (0 : Int32) then yW_law_b1723 L xs k55 x4 m81 else some (.inl (some (.int (0 : Int32))), m81))) else some (.inl (some (.int (0 : Int32))), m81))))))))
set_option maxRecDepth 16384 in
theorem yW_law_b1407_ok {L : Nat} {xs : Nat → Int32} (k55 : Int32 → XMu → XRes) (hk55 : ∀ (d5 : Option Int32) (d6 : Option Int32) (x4 : Int32) (μ : XMu), XB L xs 235 55 [some (.ref 1000), some (.ref 0), some (.ref 32), some (.ref 56), some (.int x4), (xdl d5), (xdl d6)] [] μ (k55 x4 μ)) (d5 : Option Int32) (d6 : Option Int32) (x4 : Int32) (μ : XMu) : XB L xs 235 1407 [some (.ref 1000), some (.ref 0), some (.ref 32), some (.ref 56), some (.int x4), (xdl d5), (xdl d6)] [] μ (yW_law_b1407 L xs k55 x4 μ) := by
  unfold yW_law_b1407
  refine XB.goC (lo := 1407) (C := xl_1407) xl_1407_ok 5 (pc' := 1413) (ls' := [some (.ref 1000), some (.ref 0), some (.ref 32), some (.ref 56), some (.int x4), (xdl d5), (xdl d6)]) (st' := [(.int (x4 + (1 : Int32))), (.ref 1000), (.ref 0)]) (μ' := μ) rfl ?_
  refine XB.scr (xl_1407_ok rfl rfl) ?_
  refine XB.goC (lo := 1407) (C := xl_1407) xl_1407_ok 4 (pc' := 1419) (ls' := [some (.ref 1000), some (.ref 0), some (.ref 32), some (.ref 56), some (.int x4), (xdl d5), (xdl d6)]) (st' := [(.int (x4 + (2 : Int32))), (.ref 1000), (.int (xs ((x4 + (1 : Int32))).toNatClampNeg)), (.ref 0)]) (μ' := μ) rfl ?_
  refine XB.scr (xl_1407_ok rfl rfl) ?_
  refine XB.goC (lo := 1407) (C := xl_1407) xl_1407_ok 1 (pc' := 1421) (ls' := [some (.ref 1000), some (.ref 0), some (.ref 32), some (.ref 56), some (.int x4), (xdl d5), (xdl d6)]) (st' := [(.ref 56), (.int (xs ((x4 + (2 : Int32))).toNatClampNeg)), (.int (xs ((x4 + (1 : Int32))).toNatClampNeg)), (.ref 0)]) (μ' := μ) rfl ?_
  refine XB.ci (xl_1407_ok rfl rfl) rfl rfl rfl rfl (yW_peer_ok (xs ((x4 + (1 : Int32))).toNatClampNeg) (xs ((x4 + (2 : Int32))).toNatClampNeg) μ) (fun r80 m79 => ?_)
  refine XB.goC (lo := 1407) (C := xl_1407) xl_1407_ok 6 (pc' := 1432) (ls' := [some (.ref 1000), some (.ref 0), some (.ref 32), some (.ref 56), some (.int x4), some (.int r80), (xdl d6)]) (st' := [(.int (x4 + (1 : Int32))), (.ref 1000), (.ref 32)]) (μ' := m79) rfl ?_
  refine XB.scr (xl_1407_ok rfl rfl) ?_
  refine XB.goC (lo := 1407) (C := xl_1407) xl_1407_ok 4 (pc' := 1438) (ls' := [some (.ref 1000), some (.ref 0), some (.ref 32), some (.ref 56), some (.int x4), some (.int r80), (xdl d6)]) (st' := [(.int (x4 + (2 : Int32))), (.ref 1000), (.int (xs ((x4 + (1 : Int32))).toNatClampNeg)), (.ref 32)]) (μ' := m79) rfl ?_
  refine XB.scr (xl_1407_ok rfl rfl) ?_
  refine XB.ci (xl_1407_ok rfl rfl) rfl rfl rfl rfl (yM_peer_ok (xs ((x4 + (1 : Int32))).toNatClampNeg) (xs ((x4 + (2 : Int32))).toNatClampNeg) m79) (fun r82 m81 => ?_)
  refine XB.goC (lo := 1407) (C := xl_1407) xl_1407_ok 2 (pc' := 1445) (ls' := [some (.ref 1000), some (.ref 0), some (.ref 32), some (.ref 56), some (.int x4), some (.int r80), some (.int r82)]) (st' := [(.ref 32)]) (μ' := m81) rfl ?_
  refine XB.cp (xl_1407_ok rfl rfl) rfl rfl (yM_thrown_ok m81) ?_
  refine XB.goC (lo := 1407) (C := xl_1407) xl_1407_ok 1 (pc' := 1450) (ls' := [some (.ref 1000), some (.ref 0), some (.ref 32), some (.ref 56), some (.int x4), some (.int r80), some (.int r82)]) (st' := [(.int r80), (.int (yM_thrown m81))]) (μ' := m81) rfl ?_
  refine XB.icmp (P := (yM_thrown m81) = r80) (xl_1407_ok rfl rfl) rfl rfl (fun c1450 => ?_) (fun c1450 => ?_)
  · refine XB.goC (lo := 1407) (C := xl_1407) xl_1407_ok 1 (pc' := 1457) (ls' := [some (.ref 1000), some (.ref 0), some (.ref 32), some (.ref 56), some (.int x4), some (.int r80), some (.int r82)]) (st' := [(.int r80)]) (μ' := m81) rfl ?_
    refine XB.ifz (P := ¬ r80 = (0 : Int32)) (xl_1407_ok rfl rfl) rfl rfl (fun c1457 => ?_) (fun c1457 => ?_)
    · refine XB.goC (lo := 1407) (C := xl_1407) xl_1407_ok 1 (pc' := 1723) (ls' := [some (.ref 1000), some (.ref 0), some (.ref 32), some (.ref 56), some (.int x4), some (.int r80), some (.int r82)]) (st' := []) (μ' := m81) rfl ?_
      exact yW_law_b1723_ok k55 hk55 (some r80) (some r82) x4 m81
    · refine XB.goC (lo := 1407) (C := xl_1407) xl_1407_ok 6 (pc' := 1467) (ls' := [some (.ref 1000), some (.ref 0), some (.ref 32), some (.ref 56), some (.int x4), some (.int r80), some (.int r82)]) (st' := [(.int (lg_cmp (m81.2.2 56 0) (r82).toInt64))]) (μ' := m81) rfl ?_
      refine XB.ifz (P := (lg_cmp (m81.2.2 56 0) (r82).toInt64) = (0 : Int32)) (xl_1407_ok rfl rfl) rfl rfl (fun c1467 => ?_) (fun c1467 => ?_)
      · refine XB.goC (lo := 1407) (C := xl_1407) xl_1407_ok 1 (pc' := 1723) (ls' := [some (.ref 1000), some (.ref 0), some (.ref 32), some (.ref 56), some (.int x4), some (.int r80), some (.int r82)]) (st' := []) (μ' := m81) rfl ?_
        exact yW_law_b1723_ok k55 hk55 (some r80) (some r82) x4 m81
      · refine XB.goC (lo := 1407) (C := xl_1407) xl_1407_ok 1 (pc' := 1471) (ls' := [some (.ref 1000), some (.ref 0), some (.ref 32), some (.ref 56), some (.int x4), some (.int r80), some (.int r82)]) (st' := [(.int (0 : Int32))]) (μ' := m81) rfl ?_
        exact XB.retp (xl_1407_ok rfl rfl) rfl rfl rfl
  · refine XB.goC (lo := 1407) (C := xl_1407) xl_1407_ok 1 (pc' := 1454) (ls' := [some (.ref 1000), some (.ref 0), some (.ref 32), some (.ref 56), some (.int x4), some (.int r80), some (.int r82)]) (st' := [(.int (0 : Int32))]) (μ' := m81) rfl ?_
    exact XB.retp (xl_1407_ok rfl rfl) rfl rfl rfl
set_option maxRecDepth 16384 in
def yW_law_b1475 (L : Nat) (xs : Nat → Int32) (k55 : Int32 → XMu → XRes) (x4 : Int32) (μ : XMu) : XRes := xgd (xin (x4 + (1 : Int32)) L) (xgd (xin (x4 + (2 : Int32)) L) (xbi (yW_letter (xs ((x4 + (1 : Int32))).toNatClampNeg) (xs ((x4 + (2 : Int32))).toNatClampNeg) μ) (fun r84 m83 => xgd (xin (x4 + (1 : Int32)) L) (xgd (xin (x4 + (2 : Int32)) L) (xbi (yM_letter (xs ((x4 + (1 : Int32))).toNatClampNeg) (xs ((x4 + (2 : Int32))).toNatClampNeg) m83) (fun r86 m85 => (if (yM_thrown m85) = r84 then (if ¬ r84 = (0 : Int32) then yW_law_b1723 L xs k55 x4 m85 else (if (lg_cmp (m85.2.2 56 0) (r86).toInt64) = (0 : Int32) then yW_law_b1723 L xs k55 x4 m85 else some (.inl (some (.int (0 : Int32))), m85))) else some (.inl (some (.int (0 : Int32))), m85))))))))
set_option maxRecDepth 16384 in
theorem yW_law_b1475_ok {L : Nat} {xs : Nat → Int32} (k55 : Int32 → XMu → XRes) (hk55 : ∀ (d5 : Option Int32) (d6 : Option Int32) (x4 : Int32) (μ : XMu), XB L xs 235 55 [some (.ref 1000), some (.ref 0), some (.ref 32), some (.ref 56), some (.int x4), (xdl d5), (xdl d6)] [] μ (k55 x4 μ)) (d5 : Option Int32) (d6 : Option Int32) (x4 : Int32) (μ : XMu) : XB L xs 235 1475 [some (.ref 1000), some (.ref 0), some (.ref 32), some (.ref 56), some (.int x4), (xdl d5), (xdl d6)] [] μ (yW_law_b1475 L xs k55 x4 μ) := by
  unfold yW_law_b1475
  refine XB.goC (lo := 1475) (C := xl_1475) xl_1475_ok 5 (pc' := 1481) (ls' := [some (.ref 1000), some (.ref 0), some (.ref 32), some (.ref 56), some (.int x4), (xdl d5), (xdl d6)]) (st' := [(.int (x4 + (1 : Int32))), (.ref 1000), (.ref 0)]) (μ' := μ) rfl ?_
  refine XB.scr (xl_1475_ok rfl rfl) ?_
  refine XB.goC (lo := 1475) (C := xl_1475) xl_1475_ok 4 (pc' := 1487) (ls' := [some (.ref 1000), some (.ref 0), some (.ref 32), some (.ref 56), some (.int x4), (xdl d5), (xdl d6)]) (st' := [(.int (x4 + (2 : Int32))), (.ref 1000), (.int (xs ((x4 + (1 : Int32))).toNatClampNeg)), (.ref 0)]) (μ' := μ) rfl ?_
  refine XB.scr (xl_1475_ok rfl rfl) ?_
  refine XB.goC (lo := 1475) (C := xl_1475) xl_1475_ok 1 (pc' := 1489) (ls' := [some (.ref 1000), some (.ref 0), some (.ref 32), some (.ref 56), some (.int x4), (xdl d5), (xdl d6)]) (st' := [(.ref 56), (.int (xs ((x4 + (2 : Int32))).toNatClampNeg)), (.int (xs ((x4 + (1 : Int32))).toNatClampNeg)), (.ref 0)]) (μ' := μ) rfl ?_
  refine XB.ci (xl_1475_ok rfl rfl) rfl rfl rfl rfl (yW_letter_ok (xs ((x4 + (1 : Int32))).toNatClampNeg) (xs ((x4 + (2 : Int32))).toNatClampNeg) μ) (fun r84 m83 => ?_)
  refine XB.goC (lo := 1475) (C := xl_1475) xl_1475_ok 6 (pc' := 1500) (ls' := [some (.ref 1000), some (.ref 0), some (.ref 32), some (.ref 56), some (.int x4), some (.int r84), (xdl d6)]) (st' := [(.int (x4 + (1 : Int32))), (.ref 1000), (.ref 32)]) (μ' := m83) rfl ?_
  refine XB.scr (xl_1475_ok rfl rfl) ?_
  refine XB.goC (lo := 1475) (C := xl_1475) xl_1475_ok 4 (pc' := 1506) (ls' := [some (.ref 1000), some (.ref 0), some (.ref 32), some (.ref 56), some (.int x4), some (.int r84), (xdl d6)]) (st' := [(.int (x4 + (2 : Int32))), (.ref 1000), (.int (xs ((x4 + (1 : Int32))).toNatClampNeg)), (.ref 32)]) (μ' := m83) rfl ?_
  refine XB.scr (xl_1475_ok rfl rfl) ?_
  refine XB.ci (xl_1475_ok rfl rfl) rfl rfl rfl rfl (yM_letter_ok (xs ((x4 + (1 : Int32))).toNatClampNeg) (xs ((x4 + (2 : Int32))).toNatClampNeg) m83) (fun r86 m85 => ?_)
  refine XB.goC (lo := 1475) (C := xl_1475) xl_1475_ok 2 (pc' := 1513) (ls' := [some (.ref 1000), some (.ref 0), some (.ref 32), some (.ref 56), some (.int x4), some (.int r84), some (.int r86)]) (st' := [(.ref 32)]) (μ' := m85) rfl ?_
  refine XB.cp (xl_1475_ok rfl rfl) rfl rfl (yM_thrown_ok m85) ?_
  refine XB.goC (lo := 1475) (C := xl_1475) xl_1475_ok 1 (pc' := 1518) (ls' := [some (.ref 1000), some (.ref 0), some (.ref 32), some (.ref 56), some (.int x4), some (.int r84), some (.int r86)]) (st' := [(.int r84), (.int (yM_thrown m85))]) (μ' := m85) rfl ?_
  refine XB.icmp (P := (yM_thrown m85) = r84) (xl_1475_ok rfl rfl) rfl rfl (fun c1518 => ?_) (fun c1518 => ?_)
  · refine XB.goC (lo := 1475) (C := xl_1475) xl_1475_ok 1 (pc' := 1525) (ls' := [some (.ref 1000), some (.ref 0), some (.ref 32), some (.ref 56), some (.int x4), some (.int r84), some (.int r86)]) (st' := [(.int r84)]) (μ' := m85) rfl ?_
    refine XB.ifz (P := ¬ r84 = (0 : Int32)) (xl_1475_ok rfl rfl) rfl rfl (fun c1525 => ?_) (fun c1525 => ?_)
    · refine XB.goC (lo := 1475) (C := xl_1475) xl_1475_ok 1 (pc' := 1723) (ls' := [some (.ref 1000), some (.ref 0), some (.ref 32), some (.ref 56), some (.int x4), some (.int r84), some (.int r86)]) (st' := []) (μ' := m85) rfl ?_
      exact yW_law_b1723_ok k55 hk55 (some r84) (some r86) x4 m85
    · refine XB.goC (lo := 1475) (C := xl_1475) xl_1475_ok 6 (pc' := 1535) (ls' := [some (.ref 1000), some (.ref 0), some (.ref 32), some (.ref 56), some (.int x4), some (.int r84), some (.int r86)]) (st' := [(.int (lg_cmp (m85.2.2 56 0) (r86).toInt64))]) (μ' := m85) rfl ?_
      refine XB.ifz (P := (lg_cmp (m85.2.2 56 0) (r86).toInt64) = (0 : Int32)) (xl_1475_ok rfl rfl) rfl rfl (fun c1535 => ?_) (fun c1535 => ?_)
      · refine XB.goC (lo := 1475) (C := xl_1475) xl_1475_ok 1 (pc' := 1723) (ls' := [some (.ref 1000), some (.ref 0), some (.ref 32), some (.ref 56), some (.int x4), some (.int r84), some (.int r86)]) (st' := []) (μ' := m85) rfl ?_
        exact yW_law_b1723_ok k55 hk55 (some r84) (some r86) x4 m85
      · refine XB.goC (lo := 1475) (C := xl_1475) xl_1475_ok 1 (pc' := 1539) (ls' := [some (.ref 1000), some (.ref 0), some (.ref 32), some (.ref 56), some (.int x4), some (.int r84), some (.int r86)]) (st' := [(.int (0 : Int32))]) (μ' := m85) rfl ?_
        exact XB.retp (xl_1475_ok rfl rfl) rfl rfl rfl
  · refine XB.goC (lo := 1475) (C := xl_1475) xl_1475_ok 1 (pc' := 1522) (ls' := [some (.ref 1000), some (.ref 0), some (.ref 32), some (.ref 56), some (.int x4), some (.int r84), some (.int r86)]) (st' := [(.int (0 : Int32))]) (μ' := m85) rfl ?_
    exact XB.retp (xl_1475_ok rfl rfl) rfl rfl rfl
set_option maxRecDepth 16384 in
def yW_law_b1543 (L : Nat) (xs : Nat → Int32) (k55 : Int32 → XMu → XRes) (x4 : Int32) (μ : XMu) : XRes := xgd (xin (x4 + (1 : Int32)) L) (xgd (xin (x4 + (2 : Int32)) L) (xbi (yW_done (xs ((x4 + (1 : Int32))).toNatClampNeg) (xs ((x4 + (2 : Int32))).toNatClampNeg) μ) (fun r88 m87 => xgd (xin (x4 + (1 : Int32)) L) (xgd (xin (x4 + (2 : Int32)) L) (xbi (yM_done (xs ((x4 + (1 : Int32))).toNatClampNeg) (xs ((x4 + (2 : Int32))).toNatClampNeg) m87) (fun r90 m89 => (if (yM_thrown m89) = r88 then (if ¬ r88 = (0 : Int32) then yW_law_b1723 L xs k55 x4 m89 else (if (lg_cmp (m89.2.2 56 0) (r90).toInt64) = (0 : Int32) then yW_law_b1723 L xs k55 x4 m89 else some (.inl (some (.int (0 : Int32))), m89))) else some (.inl (some (.int (0 : Int32))), m89))))))))
set_option maxRecDepth 16384 in
theorem yW_law_b1543_ok {L : Nat} {xs : Nat → Int32} (k55 : Int32 → XMu → XRes) (hk55 : ∀ (d5 : Option Int32) (d6 : Option Int32) (x4 : Int32) (μ : XMu), XB L xs 235 55 [some (.ref 1000), some (.ref 0), some (.ref 32), some (.ref 56), some (.int x4), (xdl d5), (xdl d6)] [] μ (k55 x4 μ)) (d5 : Option Int32) (d6 : Option Int32) (x4 : Int32) (μ : XMu) : XB L xs 235 1543 [some (.ref 1000), some (.ref 0), some (.ref 32), some (.ref 56), some (.int x4), (xdl d5), (xdl d6)] [] μ (yW_law_b1543 L xs k55 x4 μ) := by
  unfold yW_law_b1543
  refine XB.goC (lo := 1543) (C := xl_1543) xl_1543_ok 5 (pc' := 1549) (ls' := [some (.ref 1000), some (.ref 0), some (.ref 32), some (.ref 56), some (.int x4), (xdl d5), (xdl d6)]) (st' := [(.int (x4 + (1 : Int32))), (.ref 1000), (.ref 0)]) (μ' := μ) rfl ?_
  refine XB.scr (xl_1543_ok rfl rfl) ?_
  refine XB.goC (lo := 1543) (C := xl_1543) xl_1543_ok 4 (pc' := 1555) (ls' := [some (.ref 1000), some (.ref 0), some (.ref 32), some (.ref 56), some (.int x4), (xdl d5), (xdl d6)]) (st' := [(.int (x4 + (2 : Int32))), (.ref 1000), (.int (xs ((x4 + (1 : Int32))).toNatClampNeg)), (.ref 0)]) (μ' := μ) rfl ?_
  refine XB.scr (xl_1543_ok rfl rfl) ?_
  refine XB.goC (lo := 1543) (C := xl_1543) xl_1543_ok 1 (pc' := 1557) (ls' := [some (.ref 1000), some (.ref 0), some (.ref 32), some (.ref 56), some (.int x4), (xdl d5), (xdl d6)]) (st' := [(.ref 56), (.int (xs ((x4 + (2 : Int32))).toNatClampNeg)), (.int (xs ((x4 + (1 : Int32))).toNatClampNeg)), (.ref 0)]) (μ' := μ) rfl ?_
  refine XB.ci (xl_1543_ok rfl rfl) rfl rfl rfl rfl (yW_done_ok (xs ((x4 + (1 : Int32))).toNatClampNeg) (xs ((x4 + (2 : Int32))).toNatClampNeg) μ) (fun r88 m87 => ?_)
  refine XB.goC (lo := 1543) (C := xl_1543) xl_1543_ok 6 (pc' := 1568) (ls' := [some (.ref 1000), some (.ref 0), some (.ref 32), some (.ref 56), some (.int x4), some (.int r88), (xdl d6)]) (st' := [(.int (x4 + (1 : Int32))), (.ref 1000), (.ref 32)]) (μ' := m87) rfl ?_
  refine XB.scr (xl_1543_ok rfl rfl) ?_
  refine XB.goC (lo := 1543) (C := xl_1543) xl_1543_ok 4 (pc' := 1574) (ls' := [some (.ref 1000), some (.ref 0), some (.ref 32), some (.ref 56), some (.int x4), some (.int r88), (xdl d6)]) (st' := [(.int (x4 + (2 : Int32))), (.ref 1000), (.int (xs ((x4 + (1 : Int32))).toNatClampNeg)), (.ref 32)]) (μ' := m87) rfl ?_
  refine XB.scr (xl_1543_ok rfl rfl) ?_
  refine XB.ci (xl_1543_ok rfl rfl) rfl rfl rfl rfl (yM_done_ok (xs ((x4 + (1 : Int32))).toNatClampNeg) (xs ((x4 + (2 : Int32))).toNatClampNeg) m87) (fun r90 m89 => ?_)
  refine XB.goC (lo := 1543) (C := xl_1543) xl_1543_ok 2 (pc' := 1581) (ls' := [some (.ref 1000), some (.ref 0), some (.ref 32), some (.ref 56), some (.int x4), some (.int r88), some (.int r90)]) (st' := [(.ref 32)]) (μ' := m89) rfl ?_
  refine XB.cp (xl_1543_ok rfl rfl) rfl rfl (yM_thrown_ok m89) ?_
  refine XB.goC (lo := 1543) (C := xl_1543) xl_1543_ok 1 (pc' := 1586) (ls' := [some (.ref 1000), some (.ref 0), some (.ref 32), some (.ref 56), some (.int x4), some (.int r88), some (.int r90)]) (st' := [(.int r88), (.int (yM_thrown m89))]) (μ' := m89) rfl ?_
  refine XB.icmp (P := (yM_thrown m89) = r88) (xl_1543_ok rfl rfl) rfl rfl (fun c1586 => ?_) (fun c1586 => ?_)
  · refine XB.goC (lo := 1543) (C := xl_1543) xl_1543_ok 1 (pc' := 1593) (ls' := [some (.ref 1000), some (.ref 0), some (.ref 32), some (.ref 56), some (.int x4), some (.int r88), some (.int r90)]) (st' := [(.int r88)]) (μ' := m89) rfl ?_
    refine XB.ifz (P := ¬ r88 = (0 : Int32)) (xl_1543_ok rfl rfl) rfl rfl (fun c1593 => ?_) (fun c1593 => ?_)
    · refine XB.goC (lo := 1543) (C := xl_1543) xl_1543_ok 1 (pc' := 1723) (ls' := [some (.ref 1000), some (.ref 0), some (.ref 32), some (.ref 56), some (.int x4), some (.int r88), some (.int r90)]) (st' := []) (μ' := m89) rfl ?_
      exact yW_law_b1723_ok k55 hk55 (some r88) (some r90) x4 m89
    · refine XB.goC (lo := 1543) (C := xl_1543) xl_1543_ok 6 (pc' := 1603) (ls' := [some (.ref 1000), some (.ref 0), some (.ref 32), some (.ref 56), some (.int x4), some (.int r88), some (.int r90)]) (st' := [(.int (lg_cmp (m89.2.2 56 0) (r90).toInt64))]) (μ' := m89) rfl ?_
      refine XB.ifz (P := (lg_cmp (m89.2.2 56 0) (r90).toInt64) = (0 : Int32)) (xl_1543_ok rfl rfl) rfl rfl (fun c1603 => ?_) (fun c1603 => ?_)
      · refine XB.goC (lo := 1543) (C := xl_1543) xl_1543_ok 1 (pc' := 1723) (ls' := [some (.ref 1000), some (.ref 0), some (.ref 32), some (.ref 56), some (.int x4), some (.int r88), some (.int r90)]) (st' := []) (μ' := m89) rfl ?_
        exact yW_law_b1723_ok k55 hk55 (some r88) (some r90) x4 m89
      · refine XB.goC (lo := 1543) (C := xl_1543) xl_1543_ok 1 (pc' := 1607) (ls' := [some (.ref 1000), some (.ref 0), some (.ref 32), some (.ref 56), some (.int x4), some (.int r88), some (.int r90)]) (st' := [(.int (0 : Int32))]) (μ' := m89) rfl ?_
        exact XB.retp (xl_1543_ok rfl rfl) rfl rfl rfl
  · refine XB.goC (lo := 1543) (C := xl_1543) xl_1543_ok 1 (pc' := 1590) (ls' := [some (.ref 1000), some (.ref 0), some (.ref 32), some (.ref 56), some (.int x4), some (.int r88), some (.int r90)]) (st' := [(.int (0 : Int32))]) (μ' := m89) rfl ?_
    exact XB.retp (xl_1543_ok rfl rfl) rfl rfl rfl
set_option maxRecDepth 16384 in
def yW_law_b1611 (L : Nat) (xs : Nat → Int32) (k55 : Int32 → XMu → XRes) (x4 : Int32) (μ : XMu) : XRes := xgd (xin (x4 + (1 : Int32)) L) (xbi (yW_call (xs ((x4 + (1 : Int32))).toNatClampNeg) μ) (fun r92 m91 => xgd (xin (x4 + (1 : Int32)) L) (xbi (yM_call (xs ((x4 + (1 : Int32))).toNatClampNeg) m91) (fun r94 m93 => (if (yM_thrown m93) = r92 then (if ¬ r92 = (0 : Int32) then yW_law_b1723 L xs k55 x4 m93 else (if (lg_cmp (m93.2.2 56 0) (r94).toInt64) = (0 : Int32) then yW_law_b1723 L xs k55 x4 m93 else some (.inl (some (.int (0 : Int32))), m93))) else some (.inl (some (.int (0 : Int32))), m93))))))
set_option maxRecDepth 16384 in
theorem yW_law_b1611_ok {L : Nat} {xs : Nat → Int32} (k55 : Int32 → XMu → XRes) (hk55 : ∀ (d5 : Option Int32) (d6 : Option Int32) (x4 : Int32) (μ : XMu), XB L xs 235 55 [some (.ref 1000), some (.ref 0), some (.ref 32), some (.ref 56), some (.int x4), (xdl d5), (xdl d6)] [] μ (k55 x4 μ)) (d5 : Option Int32) (d6 : Option Int32) (x4 : Int32) (μ : XMu) : XB L xs 235 1611 [some (.ref 1000), some (.ref 0), some (.ref 32), some (.ref 56), some (.int x4), (xdl d5), (xdl d6)] [] μ (yW_law_b1611 L xs k55 x4 μ) := by
  unfold yW_law_b1611
  refine XB.goC (lo := 1611) (C := xl_1611) xl_1611_ok 5 (pc' := 1617) (ls' := [some (.ref 1000), some (.ref 0), some (.ref 32), some (.ref 56), some (.int x4), (xdl d5), (xdl d6)]) (st' := [(.int (x4 + (1 : Int32))), (.ref 1000), (.ref 0)]) (μ' := μ) rfl ?_
  refine XB.scr (xl_1611_ok rfl rfl) ?_
  refine XB.goC (lo := 1611) (C := xl_1611) xl_1611_ok 1 (pc' := 1619) (ls' := [some (.ref 1000), some (.ref 0), some (.ref 32), some (.ref 56), some (.int x4), (xdl d5), (xdl d6)]) (st' := [(.ref 56), (.int (xs ((x4 + (1 : Int32))).toNatClampNeg)), (.ref 0)]) (μ' := μ) rfl ?_
  refine XB.ci (xl_1611_ok rfl rfl) rfl rfl rfl rfl (yW_call_ok (xs ((x4 + (1 : Int32))).toNatClampNeg) μ) (fun r92 m91 => ?_)
  refine XB.goC (lo := 1611) (C := xl_1611) xl_1611_ok 6 (pc' := 1630) (ls' := [some (.ref 1000), some (.ref 0), some (.ref 32), some (.ref 56), some (.int x4), some (.int r92), (xdl d6)]) (st' := [(.int (x4 + (1 : Int32))), (.ref 1000), (.ref 32)]) (μ' := m91) rfl ?_
  refine XB.scr (xl_1611_ok rfl rfl) ?_
  refine XB.ci (xl_1611_ok rfl rfl) rfl rfl rfl rfl (yM_call_ok (xs ((x4 + (1 : Int32))).toNatClampNeg) m91) (fun r94 m93 => ?_)
  refine XB.goC (lo := 1611) (C := xl_1611) xl_1611_ok 2 (pc' := 1637) (ls' := [some (.ref 1000), some (.ref 0), some (.ref 32), some (.ref 56), some (.int x4), some (.int r92), some (.int r94)]) (st' := [(.ref 32)]) (μ' := m93) rfl ?_
  refine XB.cp (xl_1611_ok rfl rfl) rfl rfl (yM_thrown_ok m93) ?_
  refine XB.goC (lo := 1611) (C := xl_1611) xl_1611_ok 1 (pc' := 1642) (ls' := [some (.ref 1000), some (.ref 0), some (.ref 32), some (.ref 56), some (.int x4), some (.int r92), some (.int r94)]) (st' := [(.int r92), (.int (yM_thrown m93))]) (μ' := m93) rfl ?_
  refine XB.icmp (P := (yM_thrown m93) = r92) (xl_1611_ok rfl rfl) rfl rfl (fun c1642 => ?_) (fun c1642 => ?_)
  · refine XB.goC (lo := 1611) (C := xl_1611) xl_1611_ok 1 (pc' := 1649) (ls' := [some (.ref 1000), some (.ref 0), some (.ref 32), some (.ref 56), some (.int x4), some (.int r92), some (.int r94)]) (st' := [(.int r92)]) (μ' := m93) rfl ?_
    refine XB.ifz (P := ¬ r92 = (0 : Int32)) (xl_1611_ok rfl rfl) rfl rfl (fun c1649 => ?_) (fun c1649 => ?_)
    · refine XB.goC (lo := 1611) (C := xl_1611) xl_1611_ok 1 (pc' := 1723) (ls' := [some (.ref 1000), some (.ref 0), some (.ref 32), some (.ref 56), some (.int x4), some (.int r92), some (.int r94)]) (st' := []) (μ' := m93) rfl ?_
      exact yW_law_b1723_ok k55 hk55 (some r92) (some r94) x4 m93
    · refine XB.goC (lo := 1611) (C := xl_1611) xl_1611_ok 6 (pc' := 1659) (ls' := [some (.ref 1000), some (.ref 0), some (.ref 32), some (.ref 56), some (.int x4), some (.int r92), some (.int r94)]) (st' := [(.int (lg_cmp (m93.2.2 56 0) (r94).toInt64))]) (μ' := m93) rfl ?_
      refine XB.ifz (P := (lg_cmp (m93.2.2 56 0) (r94).toInt64) = (0 : Int32)) (xl_1611_ok rfl rfl) rfl rfl (fun c1659 => ?_) (fun c1659 => ?_)
      · refine XB.goC (lo := 1611) (C := xl_1611) xl_1611_ok 1 (pc' := 1723) (ls' := [some (.ref 1000), some (.ref 0), some (.ref 32), some (.ref 56), some (.int x4), some (.int r92), some (.int r94)]) (st' := []) (μ' := m93) rfl ?_
        exact yW_law_b1723_ok k55 hk55 (some r92) (some r94) x4 m93
      · refine XB.goC (lo := 1611) (C := xl_1611) xl_1611_ok 1 (pc' := 1663) (ls' := [some (.ref 1000), some (.ref 0), some (.ref 32), some (.ref 56), some (.int x4), some (.int r92), some (.int r94)]) (st' := [(.int (0 : Int32))]) (μ' := m93) rfl ?_
        exact XB.retp (xl_1611_ok rfl rfl) rfl rfl rfl
  · refine XB.goC (lo := 1611) (C := xl_1611) xl_1611_ok 1 (pc' := 1646) (ls' := [some (.ref 1000), some (.ref 0), some (.ref 32), some (.ref 56), some (.int x4), some (.int r92), some (.int r94)]) (st' := [(.int (0 : Int32))]) (μ' := m93) rfl ?_
    exact XB.retp (xl_1611_ok rfl rfl) rfl rfl rfl
set_option maxRecDepth 16384 in
def yW_law_b1667 (L : Nat) (xs : Nat → Int32) (k55 : Int32 → XMu → XRes) (x4 : Int32) (μ : XMu) : XRes := xgd (xin (x4 + (1 : Int32)) L) (xbi (yW_callFor (xs ((x4 + (1 : Int32))).toNatClampNeg) μ) (fun r96 m95 => xgd (xin (x4 + (1 : Int32)) L) (xbi (yM_callFor (xs ((x4 + (1 : Int32))).toNatClampNeg) m95) (fun r98 m97 => (if (yM_thrown m97) = r96 then (if ¬ r96 = (0 : Int32) then yW_law_b1723 L xs k55 x4 m97 else (if (lg_cmp (m97.2.2 56 0) (r98).toInt64) = (0 : Int32) then yW_law_b1723 L xs k55 x4 m97 else some (.inl (some (.int (0 : Int32))), m97))) else some (.inl (some (.int (0 : Int32))), m97))))))
set_option maxRecDepth 16384 in
theorem yW_law_b1667_ok {L : Nat} {xs : Nat → Int32} (k55 : Int32 → XMu → XRes) (hk55 : ∀ (d5 : Option Int32) (d6 : Option Int32) (x4 : Int32) (μ : XMu), XB L xs 235 55 [some (.ref 1000), some (.ref 0), some (.ref 32), some (.ref 56), some (.int x4), (xdl d5), (xdl d6)] [] μ (k55 x4 μ)) (d5 : Option Int32) (d6 : Option Int32) (x4 : Int32) (μ : XMu) : XB L xs 235 1667 [some (.ref 1000), some (.ref 0), some (.ref 32), some (.ref 56), some (.int x4), (xdl d5), (xdl d6)] [] μ (yW_law_b1667 L xs k55 x4 μ) := by
  unfold yW_law_b1667
  refine XB.goC (lo := 1667) (C := xl_1667) xl_1667_ok 5 (pc' := 1673) (ls' := [some (.ref 1000), some (.ref 0), some (.ref 32), some (.ref 56), some (.int x4), (xdl d5), (xdl d6)]) (st' := [(.int (x4 + (1 : Int32))), (.ref 1000), (.ref 0)]) (μ' := μ) rfl ?_
  refine XB.scr (xl_1667_ok rfl rfl) ?_
  refine XB.goC (lo := 1667) (C := xl_1667) xl_1667_ok 1 (pc' := 1675) (ls' := [some (.ref 1000), some (.ref 0), some (.ref 32), some (.ref 56), some (.int x4), (xdl d5), (xdl d6)]) (st' := [(.ref 56), (.int (xs ((x4 + (1 : Int32))).toNatClampNeg)), (.ref 0)]) (μ' := μ) rfl ?_
  refine XB.ci (xl_1667_ok rfl rfl) rfl rfl rfl rfl (yW_callFor_ok (xs ((x4 + (1 : Int32))).toNatClampNeg) μ) (fun r96 m95 => ?_)
  refine XB.goC (lo := 1667) (C := xl_1667) xl_1667_ok 6 (pc' := 1686) (ls' := [some (.ref 1000), some (.ref 0), some (.ref 32), some (.ref 56), some (.int x4), some (.int r96), (xdl d6)]) (st' := [(.int (x4 + (1 : Int32))), (.ref 1000), (.ref 32)]) (μ' := m95) rfl ?_
  refine XB.scr (xl_1667_ok rfl rfl) ?_
  refine XB.ci (xl_1667_ok rfl rfl) rfl rfl rfl rfl (yM_callFor_ok (xs ((x4 + (1 : Int32))).toNatClampNeg) m95) (fun r98 m97 => ?_)
  refine XB.goC (lo := 1667) (C := xl_1667) xl_1667_ok 2 (pc' := 1693) (ls' := [some (.ref 1000), some (.ref 0), some (.ref 32), some (.ref 56), some (.int x4), some (.int r96), some (.int r98)]) (st' := [(.ref 32)]) (μ' := m97) rfl ?_
  refine XB.cp (xl_1667_ok rfl rfl) rfl rfl (yM_thrown_ok m97) ?_
  refine XB.goC (lo := 1667) (C := xl_1667) xl_1667_ok 1 (pc' := 1698) (ls' := [some (.ref 1000), some (.ref 0), some (.ref 32), some (.ref 56), some (.int x4), some (.int r96), some (.int r98)]) (st' := [(.int r96), (.int (yM_thrown m97))]) (μ' := m97) rfl ?_
  refine XB.icmp (P := (yM_thrown m97) = r96) (xl_1667_ok rfl rfl) rfl rfl (fun c1698 => ?_) (fun c1698 => ?_)
  · refine XB.goC (lo := 1667) (C := xl_1667) xl_1667_ok 1 (pc' := 1705) (ls' := [some (.ref 1000), some (.ref 0), some (.ref 32), some (.ref 56), some (.int x4), some (.int r96), some (.int r98)]) (st' := [(.int r96)]) (μ' := m97) rfl ?_
    refine XB.ifz (P := ¬ r96 = (0 : Int32)) (xl_1667_ok rfl rfl) rfl rfl (fun c1705 => ?_) (fun c1705 => ?_)
    · refine XB.goC (lo := 1667) (C := xl_1667) xl_1667_ok 1 (pc' := 1723) (ls' := [some (.ref 1000), some (.ref 0), some (.ref 32), some (.ref 56), some (.int x4), some (.int r96), some (.int r98)]) (st' := []) (μ' := m97) rfl ?_
      exact yW_law_b1723_ok k55 hk55 (some r96) (some r98) x4 m97
    · refine XB.goC (lo := 1667) (C := xl_1667) xl_1667_ok 6 (pc' := 1715) (ls' := [some (.ref 1000), some (.ref 0), some (.ref 32), some (.ref 56), some (.int x4), some (.int r96), some (.int r98)]) (st' := [(.int (lg_cmp (m97.2.2 56 0) (r98).toInt64))]) (μ' := m97) rfl ?_
      refine XB.ifz (P := (lg_cmp (m97.2.2 56 0) (r98).toInt64) = (0 : Int32)) (xl_1667_ok rfl rfl) rfl rfl (fun c1715 => ?_) (fun c1715 => ?_)
      · refine XB.goC (lo := 1667) (C := xl_1667) xl_1667_ok 1 (pc' := 1723) (ls' := [some (.ref 1000), some (.ref 0), some (.ref 32), some (.ref 56), some (.int x4), some (.int r96), some (.int r98)]) (st' := []) (μ' := m97) rfl ?_
        exact yW_law_b1723_ok k55 hk55 (some r96) (some r98) x4 m97
      · refine XB.goC (lo := 1667) (C := xl_1667) xl_1667_ok 1 (pc' := 1719) (ls' := [some (.ref 1000), some (.ref 0), some (.ref 32), some (.ref 56), some (.int x4), some (.int r96), some (.int r98)]) (st' := [(.int (0 : Int32))]) (μ' := m97) rfl ?_
        exact XB.retp (xl_1667_ok rfl rfl) rfl rfl rfl
  · refine XB.goC (lo := 1667) (C := xl_1667) xl_1667_ok 1 (pc' := 1702) (ls' := [some (.ref 1000), some (.ref 0), some (.ref 32), some (.ref 56), some (.int x4), some (.int r96), some (.int r98)]) (st' := [(.int (0 : Int32))]) (μ' := m97) rfl ?_
    exact XB.retp (xl_1667_ok rfl rfl) rfl rfl rfl
set_option maxRecDepth 16384 in
def yW_law_b55 (L : Nat) (xs : Nat → Int32) (k55 : Int32 → XMu → XRes) (x4 : Int32) (μ : XMu) : XRes := (if ((Int32.ofNat L) - (7 : Int32)) < x4 then some (.inl (some (.int (1 : Int32))), μ) else xgd (xin x4 L) ((if ((xs (x4).toNatClampNeg) &&& (31 : Int32)) = (0 : Int32) then yW_law_b196 L xs k55 x4 μ else (if ((xs (x4).toNatClampNeg) &&& (31 : Int32)) = (1 : Int32) then yW_law_b259 L xs k55 x4 μ else (if ((xs (x4).toNatClampNeg) &&& (31 : Int32)) = (2 : Int32) then yW_law_b331 L xs k55 x4 μ else (if ((xs (x4).toNatClampNeg) &&& (31 : Int32)) = (3 : Int32) then yW_law_b407 L xs k55 x4 μ else (if ((xs (x4).toNatClampNeg) &&& (31 : Int32)) = (4 : Int32) then yW_law_b479 L xs k55 x4 μ else (if ((xs (x4).toNatClampNeg) &&& (31 : Int32)) = (5 : Int32) then yW_law_b555 L xs k55 x4 μ else (if ((xs (x4).toNatClampNeg) &&& (31 : Int32)) = (6 : Int32) then yW_law_b635 L xs k55 x4 μ else (if ((xs (x4).toNatClampNeg) &&& (31 : Int32)) = (7 : Int32) then yW_law_b733 L xs k55 x4 μ else (if ((xs (x4).toNatClampNeg) &&& (31 : Int32)) = (8 : Int32) then yW_law_b833 L xs k55 x4 μ else (if ((xs (x4).toNatClampNeg) &&& (31 : Int32)) = (9 : Int32) then yW_law_b905 L xs k55 x4 μ else (if ((xs (x4).toNatClampNeg) &&& (31 : Int32)) = (10 : Int32) then yW_law_b989 L xs k55 x4 μ else (if ((xs (x4).toNatClampNeg) &&& (31 : Int32)) = (11 : Int32) then yW_law_b1073 L xs k55 x4 μ else (if ((xs (x4).toNatClampNeg) &&& (31 : Int32)) = (12 : Int32) then yW_law_b1121 L xs k55 x4 μ else (if ((xs (x4).toNatClampNeg) &&& (31 : Int32)) = (13 : Int32) then yW_law_b1134 L xs k55 x4 μ else (if ((xs (x4).toNatClampNeg) &&& (31 : Int32)) = (14 : Int32) then yW_law_b1159 L xs k55 x4 μ else (if ((xs (x4).toNatClampNeg) &&& (31 : Int32)) = (15 : Int32) then yW_law_b1172 L xs k55 x4 μ else (if ((xs (x4).toNatClampNeg) &&& (31 : Int32)) = (16 : Int32) then yW_law_b1197 L xs k55 x4 μ else (if ((xs (x4).toNatClampNeg) &&& (31 : Int32)) = (17 : Int32) then yW_law_b1222 L xs k55 x4 μ else (if ((xs (x4).toNatClampNeg) &&& (31 : Int32)) = (18 : Int32) then yW_law_b1247 L xs k55 x4 μ else (if ((xs (x4).toNatClampNeg) &&& (31 : Int32)) = (19 : Int32) then yW_law_b1272 L xs k55 x4 μ else (if ((xs (x4).toNatClampNeg) &&& (31 : Int32)) = (20 : Int32) then yW_law_b1283 L xs k55 x4 μ else (if ((xs (x4).toNatClampNeg) &&& (31 : Int32)) = (21 : Int32) then yW_law_b1339 L xs k55 x4 μ else (if ((xs (x4).toNatClampNeg) &&& (31 : Int32)) = (22 : Int32) then yW_law_b1407 L xs k55 x4 μ else (if ((xs (x4).toNatClampNeg) &&& (31 : Int32)) = (23 : Int32) then yW_law_b1475 L xs k55 x4 μ else (if ((xs (x4).toNatClampNeg) &&& (31 : Int32)) = (24 : Int32) then yW_law_b1543 L xs k55 x4 μ else (if ((xs (x4).toNatClampNeg) &&& (31 : Int32)) = (25 : Int32) then yW_law_b1611 L xs k55 x4 μ else (if ((xs (x4).toNatClampNeg) &&& (31 : Int32)) = (26 : Int32) then yW_law_b1667 L xs k55 x4 μ else yW_law_b1723 L xs k55 x4 μ)))))))))))))))))))))))))))))
set_option maxRecDepth 16384 in
theorem yW_law_b55_ok {L : Nat} {xs : Nat → Int32} (k55 : Int32 → XMu → XRes) (hk55 : ∀ (d5 : Option Int32) (d6 : Option Int32) (x4 : Int32) (μ : XMu), XB L xs 235 55 [some (.ref 1000), some (.ref 0), some (.ref 32), some (.ref 56), some (.int x4), (xdl d5), (xdl d6)] [] μ (k55 x4 μ)) (d5 : Option Int32) (d6 : Option Int32) (x4 : Int32) (μ : XMu) : XB L xs 235 55 [some (.ref 1000), some (.ref 0), some (.ref 32), some (.ref 56), some (.int x4), (xdl d5), (xdl d6)] [] μ (yW_law_b55 L xs k55 x4 μ) := by
  unfold yW_law_b55
  refine XB.goC (lo := 55) (C := xl_55) xl_55_ok 5 (pc' := 62) (ls' := [some (.ref 1000), some (.ref 0), some (.ref 32), some (.ref 56), some (.int x4), (xdl d5), (xdl d6)]) (st' := [(.int ((Int32.ofNat L) - (7 : Int32))), (.int x4)]) (μ' := μ) rfl ?_
  refine XB.icmp (P := ((Int32.ofNat L) - (7 : Int32)) < x4) (xl_55_ok rfl rfl) rfl rfl (fun c62 => ?_) (fun c62 => ?_)
  · refine XB.goC (lo := 1723) (C := xl_1723) xl_1723_ok 1 (pc' := 1730) (ls' := [some (.ref 1000), some (.ref 0), some (.ref 32), some (.ref 56), some (.int x4), (xdl d5), (xdl d6)]) (st' := [(.int (1 : Int32))]) (μ' := μ) rfl ?_
    exact XB.retp (xl_1723_ok rfl rfl) rfl rfl rfl
  · refine XB.goC (lo := 55) (C := xl_55) xl_55_ok 2 (pc' := 68) (ls' := [some (.ref 1000), some (.ref 0), some (.ref 32), some (.ref 56), some (.int x4), (xdl d5), (xdl d6)]) (st' := [(.int x4), (.ref 1000)]) (μ' := μ) rfl ?_
    refine XB.scr (xl_55_ok rfl rfl) ?_
    refine XB.goC (lo := 55) (C := xl_55) xl_55_ok 2 (pc' := 72) (ls' := [some (.ref 1000), some (.ref 0), some (.ref 32), some (.ref 56), some (.int x4), (xdl d5), (xdl d6)]) (st' := [(.int ((xs (x4).toNatClampNeg) &&& (31 : Int32)))]) (μ' := μ) rfl ?_
    refine XB.byv (v := (0 : Int32)) ?_ (fun c72_0 => ?_)
    · refine XB.goC (lo := 55) (C := xl_55) xl_55_ok 1 (pc' := 196) (ls' := [some (.ref 1000), some (.ref 0), some (.ref 32), some (.ref 56), some (.int x4), (xdl d5), (xdl d6)]) (st' := []) (μ' := μ) rfl ?_
      exact yW_law_b196_ok k55 hk55 (d5) (d6) x4 μ
    refine XB.byv (v := (1 : Int32)) ?_ (fun c72_1 => ?_)
    · refine XB.goC (lo := 55) (C := xl_55) xl_55_ok 1 (pc' := 259) (ls' := [some (.ref 1000), some (.ref 0), some (.ref 32), some (.ref 56), some (.int x4), (xdl d5), (xdl d6)]) (st' := []) (μ' := μ) rfl ?_
      exact yW_law_b259_ok k55 hk55 (d5) (d6) x4 μ
    refine XB.byv (v := (2 : Int32)) ?_ (fun c72_2 => ?_)
    · refine XB.goC (lo := 55) (C := xl_55) xl_55_ok 1 (pc' := 331) (ls' := [some (.ref 1000), some (.ref 0), some (.ref 32), some (.ref 56), some (.int x4), (xdl d5), (xdl d6)]) (st' := []) (μ' := μ) rfl ?_
      exact yW_law_b331_ok k55 hk55 (d5) (d6) x4 μ
    refine XB.byv (v := (3 : Int32)) ?_ (fun c72_3 => ?_)
    · refine XB.goC (lo := 55) (C := xl_55) xl_55_ok 1 (pc' := 407) (ls' := [some (.ref 1000), some (.ref 0), some (.ref 32), some (.ref 56), some (.int x4), (xdl d5), (xdl d6)]) (st' := []) (μ' := μ) rfl ?_
      exact yW_law_b407_ok k55 hk55 (d5) (d6) x4 μ
    refine XB.byv (v := (4 : Int32)) ?_ (fun c72_4 => ?_)
    · refine XB.goC (lo := 55) (C := xl_55) xl_55_ok 1 (pc' := 479) (ls' := [some (.ref 1000), some (.ref 0), some (.ref 32), some (.ref 56), some (.int x4), (xdl d5), (xdl d6)]) (st' := []) (μ' := μ) rfl ?_
      exact yW_law_b479_ok k55 hk55 (d5) (d6) x4 μ
    refine XB.byv (v := (5 : Int32)) ?_ (fun c72_5 => ?_)
    · refine XB.goC (lo := 55) (C := xl_55) xl_55_ok 1 (pc' := 555) (ls' := [some (.ref 1000), some (.ref 0), some (.ref 32), some (.ref 56), some (.int x4), (xdl d5), (xdl d6)]) (st' := []) (μ' := μ) rfl ?_
      exact yW_law_b555_ok k55 hk55 (d5) (d6) x4 μ
    refine XB.byv (v := (6 : Int32)) ?_ (fun c72_6 => ?_)
    · refine XB.goC (lo := 55) (C := xl_55) xl_55_ok 1 (pc' := 635) (ls' := [some (.ref 1000), some (.ref 0), some (.ref 32), some (.ref 56), some (.int x4), (xdl d5), (xdl d6)]) (st' := []) (μ' := μ) rfl ?_
      exact yW_law_b635_ok k55 hk55 (d5) (d6) x4 μ
    refine XB.byv (v := (7 : Int32)) ?_ (fun c72_7 => ?_)
    · refine XB.goC (lo := 55) (C := xl_55) xl_55_ok 1 (pc' := 733) (ls' := [some (.ref 1000), some (.ref 0), some (.ref 32), some (.ref 56), some (.int x4), (xdl d5), (xdl d6)]) (st' := []) (μ' := μ) rfl ?_
      exact yW_law_b733_ok k55 hk55 (d5) (d6) x4 μ
    refine XB.byv (v := (8 : Int32)) ?_ (fun c72_8 => ?_)
    · refine XB.goC (lo := 55) (C := xl_55) xl_55_ok 1 (pc' := 833) (ls' := [some (.ref 1000), some (.ref 0), some (.ref 32), some (.ref 56), some (.int x4), (xdl d5), (xdl d6)]) (st' := []) (μ' := μ) rfl ?_
      exact yW_law_b833_ok k55 hk55 (d5) (d6) x4 μ
    refine XB.byv (v := (9 : Int32)) ?_ (fun c72_9 => ?_)
    · refine XB.goC (lo := 55) (C := xl_55) xl_55_ok 1 (pc' := 905) (ls' := [some (.ref 1000), some (.ref 0), some (.ref 32), some (.ref 56), some (.int x4), (xdl d5), (xdl d6)]) (st' := []) (μ' := μ) rfl ?_
      exact yW_law_b905_ok k55 hk55 (d5) (d6) x4 μ
    refine XB.byv (v := (10 : Int32)) ?_ (fun c72_10 => ?_)
    · refine XB.goC (lo := 55) (C := xl_55) xl_55_ok 1 (pc' := 989) (ls' := [some (.ref 1000), some (.ref 0), some (.ref 32), some (.ref 56), some (.int x4), (xdl d5), (xdl d6)]) (st' := []) (μ' := μ) rfl ?_
      exact yW_law_b989_ok k55 hk55 (d5) (d6) x4 μ
    refine XB.byv (v := (11 : Int32)) ?_ (fun c72_11 => ?_)
    · refine XB.goC (lo := 55) (C := xl_55) xl_55_ok 1 (pc' := 1073) (ls' := [some (.ref 1000), some (.ref 0), some (.ref 32), some (.ref 56), some (.int x4), (xdl d5), (xdl d6)]) (st' := []) (μ' := μ) rfl ?_
      exact yW_law_b1073_ok k55 hk55 (d5) (d6) x4 μ
    refine XB.byv (v := (12 : Int32)) ?_ (fun c72_12 => ?_)
    · refine XB.goC (lo := 55) (C := xl_55) xl_55_ok 1 (pc' := 1121) (ls' := [some (.ref 1000), some (.ref 0), some (.ref 32), some (.ref 56), some (.int x4), (xdl d5), (xdl d6)]) (st' := []) (μ' := μ) rfl ?_
      exact yW_law_b1121_ok k55 hk55 (d5) (d6) x4 μ
    refine XB.byv (v := (13 : Int32)) ?_ (fun c72_13 => ?_)
    · refine XB.goC (lo := 55) (C := xl_55) xl_55_ok 1 (pc' := 1134) (ls' := [some (.ref 1000), some (.ref 0), some (.ref 32), some (.ref 56), some (.int x4), (xdl d5), (xdl d6)]) (st' := []) (μ' := μ) rfl ?_
      exact yW_law_b1134_ok k55 hk55 (d5) (d6) x4 μ
    refine XB.byv (v := (14 : Int32)) ?_ (fun c72_14 => ?_)
    · refine XB.goC (lo := 55) (C := xl_55) xl_55_ok 1 (pc' := 1159) (ls' := [some (.ref 1000), some (.ref 0), some (.ref 32), some (.ref 56), some (.int x4), (xdl d5), (xdl d6)]) (st' := []) (μ' := μ) rfl ?_
      exact yW_law_b1159_ok k55 hk55 (d5) (d6) x4 μ
    refine XB.byv (v := (15 : Int32)) ?_ (fun c72_15 => ?_)
    · refine XB.goC (lo := 55) (C := xl_55) xl_55_ok 1 (pc' := 1172) (ls' := [some (.ref 1000), some (.ref 0), some (.ref 32), some (.ref 56), some (.int x4), (xdl d5), (xdl d6)]) (st' := []) (μ' := μ) rfl ?_
      exact yW_law_b1172_ok k55 hk55 (d5) (d6) x4 μ
    refine XB.byv (v := (16 : Int32)) ?_ (fun c72_16 => ?_)
    · refine XB.goC (lo := 55) (C := xl_55) xl_55_ok 1 (pc' := 1197) (ls' := [some (.ref 1000), some (.ref 0), some (.ref 32), some (.ref 56), some (.int x4), (xdl d5), (xdl d6)]) (st' := []) (μ' := μ) rfl ?_
      exact yW_law_b1197_ok k55 hk55 (d5) (d6) x4 μ
    refine XB.byv (v := (17 : Int32)) ?_ (fun c72_17 => ?_)
    · refine XB.goC (lo := 55) (C := xl_55) xl_55_ok 1 (pc' := 1222) (ls' := [some (.ref 1000), some (.ref 0), some (.ref 32), some (.ref 56), some (.int x4), (xdl d5), (xdl d6)]) (st' := []) (μ' := μ) rfl ?_
      exact yW_law_b1222_ok k55 hk55 (d5) (d6) x4 μ
    refine XB.byv (v := (18 : Int32)) ?_ (fun c72_18 => ?_)
    · refine XB.goC (lo := 55) (C := xl_55) xl_55_ok 1 (pc' := 1247) (ls' := [some (.ref 1000), some (.ref 0), some (.ref 32), some (.ref 56), some (.int x4), (xdl d5), (xdl d6)]) (st' := []) (μ' := μ) rfl ?_
      exact yW_law_b1247_ok k55 hk55 (d5) (d6) x4 μ
    refine XB.byv (v := (19 : Int32)) ?_ (fun c72_19 => ?_)
    · refine XB.goC (lo := 55) (C := xl_55) xl_55_ok 1 (pc' := 1272) (ls' := [some (.ref 1000), some (.ref 0), some (.ref 32), some (.ref 56), some (.int x4), (xdl d5), (xdl d6)]) (st' := []) (μ' := μ) rfl ?_
      exact yW_law_b1272_ok k55 hk55 (d5) (d6) x4 μ
    refine XB.byv (v := (20 : Int32)) ?_ (fun c72_20 => ?_)
    · refine XB.goC (lo := 55) (C := xl_55) xl_55_ok 1 (pc' := 1283) (ls' := [some (.ref 1000), some (.ref 0), some (.ref 32), some (.ref 56), some (.int x4), (xdl d5), (xdl d6)]) (st' := []) (μ' := μ) rfl ?_
      exact yW_law_b1283_ok k55 hk55 (d5) (d6) x4 μ
    refine XB.byv (v := (21 : Int32)) ?_ (fun c72_21 => ?_)
    · refine XB.goC (lo := 55) (C := xl_55) xl_55_ok 1 (pc' := 1339) (ls' := [some (.ref 1000), some (.ref 0), some (.ref 32), some (.ref 56), some (.int x4), (xdl d5), (xdl d6)]) (st' := []) (μ' := μ) rfl ?_
      exact yW_law_b1339_ok k55 hk55 (d5) (d6) x4 μ
    refine XB.byv (v := (22 : Int32)) ?_ (fun c72_22 => ?_)
    · refine XB.goC (lo := 55) (C := xl_55) xl_55_ok 1 (pc' := 1407) (ls' := [some (.ref 1000), some (.ref 0), some (.ref 32), some (.ref 56), some (.int x4), (xdl d5), (xdl d6)]) (st' := []) (μ' := μ) rfl ?_
      exact yW_law_b1407_ok k55 hk55 (d5) (d6) x4 μ
    refine XB.byv (v := (23 : Int32)) ?_ (fun c72_23 => ?_)
    · refine XB.goC (lo := 55) (C := xl_55) xl_55_ok 1 (pc' := 1475) (ls' := [some (.ref 1000), some (.ref 0), some (.ref 32), some (.ref 56), some (.int x4), (xdl d5), (xdl d6)]) (st' := []) (μ' := μ) rfl ?_
      exact yW_law_b1475_ok k55 hk55 (d5) (d6) x4 μ
    refine XB.byv (v := (24 : Int32)) ?_ (fun c72_24 => ?_)
    · refine XB.goC (lo := 55) (C := xl_55) xl_55_ok 1 (pc' := 1543) (ls' := [some (.ref 1000), some (.ref 0), some (.ref 32), some (.ref 56), some (.int x4), (xdl d5), (xdl d6)]) (st' := []) (μ' := μ) rfl ?_
      exact yW_law_b1543_ok k55 hk55 (d5) (d6) x4 μ
    refine XB.byv (v := (25 : Int32)) ?_ (fun c72_25 => ?_)
    · refine XB.goC (lo := 55) (C := xl_55) xl_55_ok 1 (pc' := 1611) (ls' := [some (.ref 1000), some (.ref 0), some (.ref 32), some (.ref 56), some (.int x4), (xdl d5), (xdl d6)]) (st' := []) (μ' := μ) rfl ?_
      exact yW_law_b1611_ok k55 hk55 (d5) (d6) x4 μ
    refine XB.byv (v := (26 : Int32)) ?_ (fun c72_26 => ?_)
    · refine XB.goC (lo := 55) (C := xl_55) xl_55_ok 1 (pc' := 1667) (ls' := [some (.ref 1000), some (.ref 0), some (.ref 32), some (.ref 56), some (.int x4), (xdl d5), (xdl d6)]) (st' := []) (μ' := μ) rfl ?_
      exact yW_law_b1667_ok k55 hk55 (d5) (d6) x4 μ
    refine XB.swd (pc' := 1723) (xl_55_ok rfl rfl) rfl rfl rfl (xtab_d26 c72_0 c72_1 c72_2 c72_3 c72_4 c72_5 c72_6 c72_7 c72_8 c72_9 c72_10 c72_11 c72_12 c72_13 c72_14 c72_15 c72_16 c72_17 c72_18 c72_19 c72_20 c72_21 c72_22 c72_23 c72_24 c72_25 c72_26 rfl) ?_
    exact yW_law_b1723_ok k55 hk55 (d5) (d6) x4 μ
set_option maxRecDepth 16384 in
def yW_law_b55_L (L : Nat) (xs : Nat → Int32)  : Nat → Int32 → XMu → XRes
  | 0 => fun _ _ => none
  | n + 1 => yW_law_b55 L xs (yW_law_b55_L L xs  n)
set_option maxRecDepth 16384 in
theorem yW_law_b55_Lok {L : Nat} {xs : Nat → Int32}  : ∀ (n : Nat) (d5 : Option Int32) (d6 : Option Int32) (x4 : Int32) (μ : XMu), XB L xs 235 55 [some (.ref 1000), some (.ref 0), some (.ref 32), some (.ref 56), some (.int x4), (xdl d5), (xdl d6)] [] μ (yW_law_b55_L L xs  n x4 μ) := by
  intro n
  induction n with
  | zero => intro d5 d6 x4 μ r h; cases h
  | succ n ih => intro d5 d6 x4 μ; exact yW_law_b55_ok (yW_law_b55_L L xs  n) ih d5 d6 x4 μ
