/-- LogServerLaw.tick(LLogServer;I[J)I -/
def yW_tick (a1 : Int32) (μ : XMu) : XRes := xci (xhand (xmH 82) 4) (yC_tick a1 μ) (fun r2 m1 => (if r2 = (0 : Int32) then some (.inl (some (.int (0 : Int32))), (m1.1, m1.2.1, (xuL m1.2.2 56 0 (0 : Int64)))) else some (.inl (some (.int (0 : Int32))), (m1.1, m1.2.1, (xuL m1.2.2 56 0 (1 : Int64))))))
theorem yW_tick_ok {L : Nat} {xs : Nat → Int32} (a1 : Int32) (μ : XMu) : XB L xs 82 0 [some (.ref 0), some (.int a1), some (.ref 56), none] [] μ (yW_tick a1 μ) := by
  unfold yW_tick
  refine XB.go 4 (pc' := 4) (ls' := [some (.ref 0), some (.int a1), some (.ref 56), none]) (st' := [(.int a1), (.ref 0), (.int (0 : Int32)), (.ref 56)]) (μ' := μ) rfl ?_
  refine XB.xi rfl rfl rfl rfl (yC_tick_ok a1 μ) (fun r2 m1 => ?_)
  refine XB.ifz (P := r2 = (0 : Int32)) rfl rfl rfl (fun c7 => ?_) (fun c7 => ?_)
  · refine XB.go 4 (pc' := 23) (ls' := [some (.ref 0), some (.int a1), some (.ref 56), none]) (st' := [(.int (0 : Int32))]) (μ' := (m1.1, m1.2.1, (xuL m1.2.2 56 0 (0 : Int64)))) rfl ?_
    exact XB.fin rfl
  · refine XB.go 5 (pc' := 23) (ls' := [some (.ref 0), some (.int a1), some (.ref 56), none]) (st' := [(.int (0 : Int32))]) (μ' := (m1.1, m1.2.1, (xuL m1.2.2 56 0 (1 : Int64)))) rfl ?_
    exact XB.fin rfl
/-- LogServerLaw.preask(LLogServer;IIII)I -/
def yW_preask (a1 : Int32) (a2 : Int32) (a3 : Int32) (a4 : Int32) (μ : XMu) : XRes := xcv (xhand (xmH 87) 6) (yC_preask a1 a2 a3 a4 μ) (fun m1 => some (.inl (some (.int (0 : Int32))), m1))
theorem yW_preask_ok {L : Nat} {xs : Nat → Int32} (a1 : Int32) (a2 : Int32) (a3 : Int32) (a4 : Int32) (μ : XMu) : XB L xs 87 0 [some (.ref 0), some (.int a1), some (.int a2), some (.int a3), some (.int a4), none] [] μ (yW_preask a1 a2 a3 a4 μ) := by
  unfold yW_preask
  refine XB.go 5 (pc' := 6) (ls' := [some (.ref 0), some (.int a1), some (.int a2), some (.int a3), some (.int a4), none]) (st' := [(.int a4), (.int a3), (.int a2), (.int a1), (.ref 0)]) (μ' := μ) rfl ?_
  refine XB.xv rfl rfl rfl rfl (yC_preask_ok a1 a2 a3 a4 μ) (fun m1 => ?_)
  refine XB.go 2 (pc' := 21) (ls' := [some (.ref 0), some (.int a1), some (.int a2), some (.int a3), some (.int a4), none]) (st' := [(.int (0 : Int32))]) (μ' := m1) rfl ?_
  exact XB.fin rfl
/-- LogServerLaw.preanswer(LLogServer;IIZ)I -/
def yW_preanswer (a1 : Int32) (a2 : Int32) (a3 : Int32) (μ : XMu) : XRes := xcv (xhand (xmH 90) 4) (yC_preanswer a1 a2 a3 μ) (fun m1 => some (.inl (some (.int (0 : Int32))), m1))
theorem yW_preanswer_ok {L : Nat} {xs : Nat → Int32} (a1 : Int32) (a2 : Int32) (a3 : Int32) (μ : XMu) : XB L xs 90 0 [some (.ref 0), some (.int a1), some (.int a2), some (.int a3), none] [] μ (yW_preanswer a1 a2 a3 μ) := by
  unfold yW_preanswer
  refine XB.go 4 (pc' := 4) (ls' := [some (.ref 0), some (.int a1), some (.int a2), some (.int a3), none]) (st' := [(.int a3), (.int a2), (.int a1), (.ref 0)]) (μ' := μ) rfl ?_
  refine XB.xv rfl rfl rfl rfl (yC_preanswer_ok a1 a2 a3 μ) (fun m1 => ?_)
  refine XB.go 2 (pc' := 19) (ls' := [some (.ref 0), some (.int a1), some (.int a2), some (.int a3), none]) (st' := [(.int (0 : Int32))]) (μ' := m1) rfl ?_
  exact XB.fin rfl
/-- LogServerLaw.ask(LLogServer;IIII)I -/
def yW_ask (a1 : Int32) (a2 : Int32) (a3 : Int32) (a4 : Int32) (μ : XMu) : XRes := xcv (xhand (xmH 92) 6) (yC_ask a1 a2 a3 a4 μ) (fun m1 => some (.inl (some (.int (0 : Int32))), m1))
theorem yW_ask_ok {L : Nat} {xs : Nat → Int32} (a1 : Int32) (a2 : Int32) (a3 : Int32) (a4 : Int32) (μ : XMu) : XB L xs 92 0 [some (.ref 0), some (.int a1), some (.int a2), some (.int a3), some (.int a4), none] [] μ (yW_ask a1 a2 a3 a4 μ) := by
  unfold yW_ask
  refine XB.go 5 (pc' := 6) (ls' := [some (.ref 0), some (.int a1), some (.int a2), some (.int a3), some (.int a4), none]) (st' := [(.int a4), (.int a3), (.int a2), (.int a1), (.ref 0)]) (μ' := μ) rfl ?_
  refine XB.xv rfl rfl rfl rfl (yC_ask_ok a1 a2 a3 a4 μ) (fun m1 => ?_)
  refine XB.go 2 (pc' := 21) (ls' := [some (.ref 0), some (.int a1), some (.int a2), some (.int a3), some (.int a4), none]) (st' := [(.int (0 : Int32))]) (μ' := m1) rfl ?_
  exact XB.fin rfl
/-- LogServerLaw.answer(LLogServer;IIZ)I -/
def yW_answer (a1 : Int32) (a2 : Int32) (a3 : Int32) (μ : XMu) : XRes := xcv (xhand (xmH 94) 4) (yC_answer a1 a2 a3 μ) (fun m1 => some (.inl (some (.int (0 : Int32))), m1))
theorem yW_answer_ok {L : Nat} {xs : Nat → Int32} (a1 : Int32) (a2 : Int32) (a3 : Int32) (μ : XMu) : XB L xs 94 0 [some (.ref 0), some (.int a1), some (.int a2), some (.int a3), none] [] μ (yW_answer a1 a2 a3 μ) := by
  unfold yW_answer
  refine XB.go 4 (pc' := 4) (ls' := [some (.ref 0), some (.int a1), some (.int a2), some (.int a3), none]) (st' := [(.int a3), (.int a2), (.int a1), (.ref 0)]) (μ' := μ) rfl ?_
  refine XB.xv rfl rfl rfl rfl (yC_answer_ok a1 a2 a3 μ) (fun m1 => ?_)
  refine XB.go 2 (pc' := 19) (ls' := [some (.ref 0), some (.int a1), some (.int a2), some (.int a3), none]) (st' := [(.int (0 : Int32))]) (μ' := m1) rfl ?_
  exact XB.fin rfl
/-- LogServerLaw.entry(LLogServer;III[J)I -/
def yW_entry (a1 : Int32) (a2 : Int32) (a3 : Int32) (μ : XMu) : XRes := xci (xhand (xmH 98) 7) (yC_entry a1 a2 a3 μ) (fun r2 m1 => some (.inl (some (.int (0 : Int32))), (m1.1, m1.2.1, (xuL m1.2.2 56 0 (r2).toInt64))))
theorem yW_entry_ok {L : Nat} {xs : Nat → Int32} (a1 : Int32) (a2 : Int32) (a3 : Int32) (μ : XMu) : XB L xs 98 0 [some (.ref 0), some (.int a1), some (.int a2), some (.int a3), some (.ref 56), none] [] μ (yW_entry a1 a2 a3 μ) := by
  unfold yW_entry
  refine XB.go 6 (pc' := 7) (ls' := [some (.ref 0), some (.int a1), some (.int a2), some (.int a3), some (.ref 56), none]) (st' := [(.int a3), (.int a2), (.int a1), (.ref 0), (.int (0 : Int32)), (.ref 56)]) (μ' := μ) rfl ?_
  refine XB.xi rfl rfl rfl rfl (yC_entry_ok a1 a2 a3 μ) (fun r2 m1 => ?_)
  refine XB.go 4 (pc' := 24) (ls' := [some (.ref 0), some (.int a1), some (.int a2), some (.int a3), some (.ref 56), none]) (st' := [(.int (0 : Int32))]) (μ' := (m1.1, m1.2.1, (xuL m1.2.2 56 0 (r2).toInt64))) rfl ?_
  exact XB.fin rfl
/-- LogServerLaw.append(LLogServer;IIIIII)I -/
def yW_append (a1 : Int32) (a2 : Int32) (a3 : Int32) (a4 : Int32) (a5 : Int32) (a6 : Int32) (μ : XMu) : XRes := xcv (xhand (xmH 112) 10) (yC_append a1 a2 a3 a4 a5 a6 μ) (fun m1 => some (.inl (some (.int (0 : Int32))), m1))
theorem yW_append_ok {L : Nat} {xs : Nat → Int32} (a1 : Int32) (a2 : Int32) (a3 : Int32) (a4 : Int32) (a5 : Int32) (a6 : Int32) (μ : XMu) : XB L xs 112 0 [some (.ref 0), some (.int a1), some (.int a2), some (.int a3), some (.int a4), some (.int a5), some (.int a6), none] [] μ (yW_append a1 a2 a3 a4 a5 a6 μ) := by
  unfold yW_append
  refine XB.go 7 (pc' := 10) (ls' := [some (.ref 0), some (.int a1), some (.int a2), some (.int a3), some (.int a4), some (.int a5), some (.int a6), none]) (st' := [(.int a6), (.int a5), (.int a4), (.int a3), (.int a2), (.int a1), (.ref 0)]) (μ' := μ) rfl ?_
  refine XB.xv rfl rfl rfl rfl (yC_append_ok a1 a2 a3 a4 a5 a6 μ) (fun m1 => ?_)
  refine XB.go 2 (pc' := 25) (ls' := [some (.ref 0), some (.int a1), some (.int a2), some (.int a3), some (.int a4), some (.int a5), some (.int a6), none]) (st' := [(.int (0 : Int32))]) (μ' := m1) rfl ?_
  exact XB.fin rfl
/-- LogServerLaw.appended(LLogServer;IIZII)I -/
def yW_appended (a1 : Int32) (a2 : Int32) (a3 : Int32) (a4 : Int32) (a5 : Int32) (μ : XMu) : XRes := xcv (xhand (xmH 119) 8) (yC_appended a1 a2 a3 a4 a5 μ) (fun m1 => some (.inl (some (.int (0 : Int32))), m1))
theorem yW_appended_ok {L : Nat} {xs : Nat → Int32} (a1 : Int32) (a2 : Int32) (a3 : Int32) (a4 : Int32) (a5 : Int32) (μ : XMu) : XB L xs 119 0 [some (.ref 0), some (.int a1), some (.int a2), some (.int a3), some (.int a4), some (.int a5), none] [] μ (yW_appended a1 a2 a3 a4 a5 μ) := by
  unfold yW_appended
  refine XB.go 6 (pc' := 8) (ls' := [some (.ref 0), some (.int a1), some (.int a2), some (.int a3), some (.int a4), some (.int a5), none]) (st' := [(.int a5), (.int a4), (.int a3), (.int a2), (.int a1), (.ref 0)]) (μ' := μ) rfl ?_
  refine XB.xv rfl rfl rfl rfl (yC_appended_ok a1 a2 a3 a4 a5 μ) (fun m1 => ?_)
  refine XB.go 2 (pc' := 23) (ls' := [some (.ref 0), some (.int a1), some (.int a2), some (.int a3), some (.int a4), some (.int a5), none]) (st' := [(.int (0 : Int32))]) (μ' := m1) rfl ?_
  exact XB.fin rfl
/-- LogServerLaw.describe(LLogServer;IIII)I -/
def yW_describe (a1 : Int32) (a2 : Int32) (a3 : Int32) (a4 : Int32) (μ : XMu) : XRes := xcv (xhand (xmH 122) 6) (yC_describe a1 a2 a3 a4 μ) (fun m1 => some (.inl (some (.int (0 : Int32))), m1))
theorem yW_describe_ok {L : Nat} {xs : Nat → Int32} (a1 : Int32) (a2 : Int32) (a3 : Int32) (a4 : Int32) (μ : XMu) : XB L xs 122 0 [some (.ref 0), some (.int a1), some (.int a2), some (.int a3), some (.int a4), none] [] μ (yW_describe a1 a2 a3 a4 μ) := by
  unfold yW_describe
  refine XB.go 5 (pc' := 6) (ls' := [some (.ref 0), some (.int a1), some (.int a2), some (.int a3), some (.int a4), none]) (st' := [(.int a4), (.int a3), (.int a2), (.int a1), (.ref 0)]) (μ' := μ) rfl ?_
  refine XB.xv rfl rfl rfl rfl (yC_describe_ok a1 a2 a3 a4 μ) (fun m1 => ?_)
  refine XB.go 2 (pc' := 17) (ls' := [some (.ref 0), some (.int a1), some (.int a2), some (.int a3), some (.int a4), none]) (st' := [(.int (0 : Int32))]) (μ' := m1) rfl ?_
  exact XB.fin rfl
/-- LogServerLaw.piece(LLogServer;IIIII)I -/
def yW_piece (a1 : Int32) (a2 : Int32) (a3 : Int32) (a4 : Int32) (a5 : Int32) (μ : XMu) : XRes := xcv (xhand (xmH 127) 8) (yC_piece a1 a2 a3 a4 a5 μ) (fun m1 => some (.inl (some (.int (0 : Int32))), m1))
theorem yW_piece_ok {L : Nat} {xs : Nat → Int32} (a1 : Int32) (a2 : Int32) (a3 : Int32) (a4 : Int32) (a5 : Int32) (μ : XMu) : XB L xs 127 0 [some (.ref 0), some (.int a1), some (.int a2), some (.int a3), some (.int a4), some (.int a5), none] [] μ (yW_piece a1 a2 a3 a4 a5 μ) := by
  unfold yW_piece
  refine XB.go 6 (pc' := 8) (ls' := [some (.ref 0), some (.int a1), some (.int a2), some (.int a3), some (.int a4), some (.int a5), none]) (st' := [(.int a5), (.int a4), (.int a3), (.int a2), (.int a1), (.ref 0)]) (μ' := μ) rfl ?_
  refine XB.xv rfl rfl rfl rfl (yC_piece_ok a1 a2 a3 a4 a5 μ) (fun m1 => ?_)
  refine XB.go 2 (pc' := 23) (ls' := [some (.ref 0), some (.int a1), some (.int a2), some (.int a3), some (.int a4), some (.int a5), none]) (st' := [(.int (0 : Int32))]) (μ' := m1) rfl ?_
  exact XB.fin rfl
/-- LogServerLaw.stored(LLogServer;IIIII)I -/
def yW_stored (a1 : Int32) (a2 : Int32) (a3 : Int32) (a4 : Int32) (a5 : Int32) (μ : XMu) : XRes := xcv (xhand (xmH 130) 8) (yC_stored a1 a2 a3 a4 a5 μ) (fun m1 => some (.inl (some (.int (0 : Int32))), m1))
theorem yW_stored_ok {L : Nat} {xs : Nat → Int32} (a1 : Int32) (a2 : Int32) (a3 : Int32) (a4 : Int32) (a5 : Int32) (μ : XMu) : XB L xs 130 0 [some (.ref 0), some (.int a1), some (.int a2), some (.int a3), some (.int a4), some (.int a5), none] [] μ (yW_stored a1 a2 a3 a4 a5 μ) := by
  unfold yW_stored
  refine XB.go 6 (pc' := 8) (ls' := [some (.ref 0), some (.int a1), some (.int a2), some (.int a3), some (.int a4), some (.int a5), none]) (st' := [(.int a5), (.int a4), (.int a3), (.int a2), (.int a1), (.ref 0)]) (μ' := μ) rfl ?_
  refine XB.xv rfl rfl rfl rfl (yC_stored_ok a1 a2 a3 a4 a5 μ) (fun m1 => ?_)
  refine XB.go 2 (pc' := 23) (ls' := [some (.ref 0), some (.int a1), some (.int a2), some (.int a3), some (.int a4), some (.int a5), none]) (st' := [(.int (0 : Int32))]) (μ' := m1) rfl ?_
  exact XB.fin rfl
/-- LogServerLaw.go(LLogServer;II)I -/
def yW_go (a1 : Int32) (a2 : Int32) (μ : XMu) : XRes := xcv (xhand (xmH 132) 3) (yC_go a1 a2 μ) (fun m1 => some (.inl (some (.int (0 : Int32))), m1))
theorem yW_go_ok {L : Nat} {xs : Nat → Int32} (a1 : Int32) (a2 : Int32) (μ : XMu) : XB L xs 132 0 [some (.ref 0), some (.int a1), some (.int a2), none] [] μ (yW_go a1 a2 μ) := by
  unfold yW_go
  refine XB.go 3 (pc' := 3) (ls' := [some (.ref 0), some (.int a1), some (.int a2), none]) (st' := [(.int a2), (.int a1), (.ref 0)]) (μ' := μ) rfl ?_
  refine XB.xv rfl rfl rfl rfl (yC_go_ok a1 a2 μ) (fun m1 => ?_)
  refine XB.go 2 (pc' := 16) (ls' := [some (.ref 0), some (.int a1), some (.int a2), none]) (st' := [(.int (0 : Int32))]) (μ' := m1) rfl ?_
  exact XB.fin rfl
/-- LogServerLaw.state(LLogServer;I[J)I -/
def yW_state (a1 : Int32) (μ : XMu) : XRes := xci (xhand (xmH 134) 4) (yC_state a1 μ) (fun r2 m1 => some (.inl (some (.int (0 : Int32))), (m1.1, m1.2.1, (xuL m1.2.2 56 0 (r2).toInt64))))
theorem yW_state_ok {L : Nat} {xs : Nat → Int32} (a1 : Int32) (μ : XMu) : XB L xs 134 0 [some (.ref 0), some (.int a1), some (.ref 56), none] [] μ (yW_state a1 μ) := by
  unfold yW_state
  refine XB.go 4 (pc' := 4) (ls' := [some (.ref 0), some (.int a1), some (.ref 56), none]) (st' := [(.int a1), (.ref 0), (.int (0 : Int32)), (.ref 56)]) (μ' := μ) rfl ?_
  refine XB.xi rfl rfl rfl rfl (yC_state_ok a1 μ) (fun r2 m1 => ?_)
  refine XB.go 4 (pc' := 16) (ls' := [some (.ref 0), some (.int a1), some (.ref 56), none]) (st' := [(.int (0 : Int32))]) (μ' := (m1.1, m1.2.1, (xuL m1.2.2 56 0 (r2).toInt64))) rfl ?_
  exact XB.fin rfl
/-- LogServerLaw.log(LLogServer;II[J)I -/
def yW_log (a1 : Int32) (a2 : Int32) (μ : XMu) : XRes := xci (xhand (xmH 136) 5) (yC_log a1 a2 μ) (fun r2 m1 => some (.inl (some (.int (0 : Int32))), (m1.1, m1.2.1, (xuL m1.2.2 56 0 (r2).toInt64))))
theorem yW_log_ok {L : Nat} {xs : Nat → Int32} (a1 : Int32) (a2 : Int32) (μ : XMu) : XB L xs 136 0 [some (.ref 0), some (.int a1), some (.int a2), some (.ref 56), none] [] μ (yW_log a1 a2 μ) := by
  unfold yW_log
  refine XB.go 5 (pc' := 5) (ls' := [some (.ref 0), some (.int a1), some (.int a2), some (.ref 56), none]) (st' := [(.int a2), (.int a1), (.ref 0), (.int (0 : Int32)), (.ref 56)]) (μ' := μ) rfl ?_
  refine XB.xi rfl rfl rfl rfl (yC_log_ok a1 a2 μ) (fun r2 m1 => ?_)
  refine XB.go 4 (pc' := 18) (ls' := [some (.ref 0), some (.int a1), some (.int a2), some (.ref 56), none]) (st' := [(.int (0 : Int32))]) (μ' := (m1.1, m1.2.1, (xuL m1.2.2 56 0 (r2).toInt64))) rfl ?_
  exact XB.fin rfl
/-- LogServerLaw.peer(LLogServer;II[J)I -/
def yW_peer (a1 : Int32) (a2 : Int32) (μ : XMu) : XRes := xci (xhand (xmH 138) 5) (yC_peer a1 a2 μ) (fun r2 m1 => some (.inl (some (.int (0 : Int32))), (m1.1, m1.2.1, (xuL m1.2.2 56 0 (r2).toInt64))))
theorem yW_peer_ok {L : Nat} {xs : Nat → Int32} (a1 : Int32) (a2 : Int32) (μ : XMu) : XB L xs 138 0 [some (.ref 0), some (.int a1), some (.int a2), some (.ref 56), none] [] μ (yW_peer a1 a2 μ) := by
  unfold yW_peer
  refine XB.go 5 (pc' := 5) (ls' := [some (.ref 0), some (.int a1), some (.int a2), some (.ref 56), none]) (st' := [(.int a2), (.int a1), (.ref 0), (.int (0 : Int32)), (.ref 56)]) (μ' := μ) rfl ?_
  refine XB.xi rfl rfl rfl rfl (yC_peer_ok a1 a2 μ) (fun r2 m1 => ?_)
  refine XB.go 4 (pc' := 18) (ls' := [some (.ref 0), some (.int a1), some (.int a2), some (.ref 56), none]) (st' := [(.int (0 : Int32))]) (μ' := (m1.1, m1.2.1, (xuL m1.2.2 56 0 (r2).toInt64))) rfl ?_
  exact XB.fin rfl
/-- LogServerLaw.letter(LLogServer;II[J)I -/
def yW_letter (a1 : Int32) (a2 : Int32) (μ : XMu) : XRes := xci (xhand (xmH 142) 5) (yC_letter a1 a2 μ) (fun r2 m1 => some (.inl (some (.int (0 : Int32))), (m1.1, m1.2.1, (xuL m1.2.2 56 0 (r2).toInt64))))
theorem yW_letter_ok {L : Nat} {xs : Nat → Int32} (a1 : Int32) (a2 : Int32) (μ : XMu) : XB L xs 142 0 [some (.ref 0), some (.int a1), some (.int a2), some (.ref 56), none] [] μ (yW_letter a1 a2 μ) := by
  unfold yW_letter
  refine XB.go 5 (pc' := 5) (ls' := [some (.ref 0), some (.int a1), some (.int a2), some (.ref 56), none]) (st' := [(.int a2), (.int a1), (.ref 0), (.int (0 : Int32)), (.ref 56)]) (μ' := μ) rfl ?_
  refine XB.xi rfl rfl rfl rfl (yC_letter_ok a1 a2 μ) (fun r2 m1 => ?_)
  refine XB.go 4 (pc' := 18) (ls' := [some (.ref 0), some (.int a1), some (.int a2), some (.ref 56), none]) (st' := [(.int (0 : Int32))]) (μ' := (m1.1, m1.2.1, (xuL m1.2.2 56 0 (r2).toInt64))) rfl ?_
  exact XB.fin rfl
/-- LogServerLaw.done(LLogServer;II[J)I -/
def yW_done (a1 : Int32) (a2 : Int32) (μ : XMu) : XRes := xci (xhand (xmH 147) 5) (yC_done a1 a2 μ) (fun r2 m1 => some (.inl (some (.int (0 : Int32))), (m1.1, m1.2.1, (xuL m1.2.2 56 0 (r2).toInt64))))
theorem yW_done_ok {L : Nat} {xs : Nat → Int32} (a1 : Int32) (a2 : Int32) (μ : XMu) : XB L xs 147 0 [some (.ref 0), some (.int a1), some (.int a2), some (.ref 56), none] [] μ (yW_done a1 a2 μ) := by
  unfold yW_done
  refine XB.go 5 (pc' := 5) (ls' := [some (.ref 0), some (.int a1), some (.int a2), some (.ref 56), none]) (st' := [(.int a2), (.int a1), (.ref 0), (.int (0 : Int32)), (.ref 56)]) (μ' := μ) rfl ?_
  refine XB.xi rfl rfl rfl rfl (yC_done_ok a1 a2 μ) (fun r2 m1 => ?_)
  refine XB.go 4 (pc' := 18) (ls' := [some (.ref 0), some (.int a1), some (.int a2), some (.ref 56), none]) (st' := [(.int (0 : Int32))]) (μ' := (m1.1, m1.2.1, (xuL m1.2.2 56 0 (r2).toInt64))) rfl ?_
  exact XB.fin rfl
/-- LogServerLaw.call(LLogServer;I[J)I -/
def yW_call (a1 : Int32) (μ : XMu) : XRes := xci (xhand (xmH 152) 4) (yC_call a1 μ) (fun r2 m1 => some (.inl (some (.int (0 : Int32))), (m1.1, m1.2.1, (xuL m1.2.2 56 0 (r2).toInt64))))
theorem yW_call_ok {L : Nat} {xs : Nat → Int32} (a1 : Int32) (μ : XMu) : XB L xs 152 0 [some (.ref 0), some (.int a1), some (.ref 56), none] [] μ (yW_call a1 μ) := by
  unfold yW_call
  refine XB.go 4 (pc' := 4) (ls' := [some (.ref 0), some (.int a1), some (.ref 56), none]) (st' := [(.int a1), (.ref 0), (.int (0 : Int32)), (.ref 56)]) (μ' := μ) rfl ?_
  refine XB.xi rfl rfl rfl rfl (yC_call_ok a1 μ) (fun r2 m1 => ?_)
  refine XB.go 4 (pc' := 16) (ls' := [some (.ref 0), some (.int a1), some (.ref 56), none]) (st' := [(.int (0 : Int32))]) (μ' := (m1.1, m1.2.1, (xuL m1.2.2 56 0 (r2).toInt64))) rfl ?_
  exact XB.fin rfl
/-- LogServerLaw.callFor(LLogServer;I[J)I -/
def yW_callFor (a1 : Int32) (μ : XMu) : XRes := xci (xhand (xmH 155) 4) (yC_callFor a1 μ) (fun r2 m1 => some (.inl (some (.int (0 : Int32))), (m1.1, m1.2.1, (xuL m1.2.2 56 0 (r2).toInt64))))
theorem yW_callFor_ok {L : Nat} {xs : Nat → Int32} (a1 : Int32) (μ : XMu) : XB L xs 155 0 [some (.ref 0), some (.int a1), some (.ref 56), none] [] μ (yW_callFor a1 μ) := by
  unfold yW_callFor
  refine XB.go 4 (pc' := 4) (ls' := [some (.ref 0), some (.int a1), some (.ref 56), none]) (st' := [(.int a1), (.ref 0), (.int (0 : Int32)), (.ref 56)]) (μ' := μ) rfl ?_
  refine XB.xi rfl rfl rfl rfl (yC_callFor_ok a1 μ) (fun r2 m1 => ?_)
  refine XB.go 4 (pc' := 16) (ls' := [some (.ref 0), some (.int a1), some (.ref 56), none]) (st' := [(.int (0 : Int32))]) (μ' := (m1.1, m1.2.1, (xuL m1.2.2 56 0 (r2).toInt64))) rfl ?_
  exact XB.fin rfl
/-! the law, from its loop on -/
set_option maxRecDepth 16384 in
def yW_law_b1723 (L : Nat) (xs : Nat → Int32) (k55 : Int32 → XMu → XRes) (x4 : Int32) (μ : XMu) : XRes := k55 (x4 + (7 : Int32)) μ
set_option maxRecDepth 16384 in
theorem yW_law_b1723_ok {L : Nat} {xs : Nat → Int32} (k55 : Int32 → XMu → XRes) (hk55 : ∀ (d5 : Option Int32) (d6 : Option Int32) (x4 : Int32) (μ : XMu), XB L xs 235 55 [some (.ref 1000), some (.ref 0), some (.ref 32), some (.ref 56), some (.int x4), (xdl d5), (xdl d6)] [] μ (k55 x4 μ)) (d5 : Option Int32) (d6 : Option Int32) (x4 : Int32) (μ : XMu) : XB L xs 235 1723 [some (.ref 1000), some (.ref 0), some (.ref 32), some (.ref 56), some (.int x4), (xdl d5), (xdl d6)] [] μ (yW_law_b1723 L xs k55 x4 μ) := by
  unfold yW_law_b1723
  refine XB.go 2 (pc' := 55) (ls' := [some (.ref 1000), some (.ref 0), some (.ref 32), some (.ref 56), some (.int (x4 + (7 : Int32))), (xdl d5), (xdl d6)]) (st' := []) (μ' := μ) rfl ?_
  exact hk55 (d5) (d6) (x4 + (7 : Int32)) μ
set_option maxRecDepth 16384 in
def yW_law_b196 (L : Nat) (xs : Nat → Int32) (k55 : Int32 → XMu → XRes) (x4 : Int32) (μ : XMu) : XRes := xgd (xin (x4 + (1 : Int32)) L) (xbi (yW_tick (xs ((x4 + (1 : Int32))).toNatClampNeg) μ) (fun r2 m1 => xgd (xin (x4 + (1 : Int32)) L) (xbi (yM_tick (xs ((x4 + (1 : Int32))).toNatClampNeg) m1) (fun r4 m3 => (if (yM_thrown m3) = r2 then (if ¬ r2 = (0 : Int32) then yW_law_b1723 L xs k55 x4 m3 else (if r4 = (0 : Int32) then (if (lg_cmp (m3.2.2 56 0) (0 : Int64)) = (0 : Int32) then yW_law_b1723 L xs k55 x4 m3 else some (.inl (some (.int (0 : Int32))), m3)) else (if (lg_cmp (m3.2.2 56 0) (1 : Int64)) = (0 : Int32) then yW_law_b1723 L xs k55 x4 m3 else some (.inl (some (.int (0 : Int32))), m3)))) else some (.inl (some (.int (0 : Int32))), m3))))))
set_option maxRecDepth 16384 in
theorem yW_law_b196_ok {L : Nat} {xs : Nat → Int32} (k55 : Int32 → XMu → XRes) (hk55 : ∀ (d5 : Option Int32) (d6 : Option Int32) (x4 : Int32) (μ : XMu), XB L xs 235 55 [some (.ref 1000), some (.ref 0), some (.ref 32), some (.ref 56), some (.int x4), (xdl d5), (xdl d6)] [] μ (k55 x4 μ)) (d5 : Option Int32) (d6 : Option Int32) (x4 : Int32) (μ : XMu) : XB L xs 235 196 [some (.ref 1000), some (.ref 0), some (.ref 32), some (.ref 56), some (.int x4), (xdl d5), (xdl d6)] [] μ (yW_law_b196 L xs k55 x4 μ) := by
  unfold yW_law_b196
  refine XB.go 5 (pc' := 202) (ls' := [some (.ref 1000), some (.ref 0), some (.ref 32), some (.ref 56), some (.int x4), (xdl d5), (xdl d6)]) (st' := [(.int (x4 + (1 : Int32))), (.ref 1000), (.ref 0)]) (μ' := μ) rfl ?_
  refine XB.gd (pc' := 203) (ls' := [some (.ref 1000), some (.ref 0), some (.ref 32), some (.ref 56), some (.int x4), (xdl d5), (xdl d6)]) (st' := [(.int (xs ((x4 + (1 : Int32))).toNatClampNeg)), (.ref 0)]) (μ' := μ) rfl rfl rfl (fun hb => xbT hb) ?_
  refine XB.go 1 (pc' := 204) (ls' := [some (.ref 1000), some (.ref 0), some (.ref 32), some (.ref 56), some (.int x4), (xdl d5), (xdl d6)]) (st' := [(.ref 56), (.int (xs ((x4 + (1 : Int32))).toNatClampNeg)), (.ref 0)]) (μ' := μ) rfl ?_
  refine XB.ci rfl rfl rfl rfl rfl (yW_tick_ok (xs ((x4 + (1 : Int32))).toNatClampNeg) μ) (fun r2 m1 => ?_)
  refine XB.go 6 (pc' := 215) (ls' := [some (.ref 1000), some (.ref 0), some (.ref 32), some (.ref 56), some (.int x4), some (.int r2), (xdl d6)]) (st' := [(.int (x4 + (1 : Int32))), (.ref 1000), (.ref 32)]) (μ' := m1) rfl ?_
  refine XB.gd (pc' := 216) (ls' := [some (.ref 1000), some (.ref 0), some (.ref 32), some (.ref 56), some (.int x4), some (.int r2), (xdl d6)]) (st' := [(.int (xs ((x4 + (1 : Int32))).toNatClampNeg)), (.ref 32)]) (μ' := m1) rfl rfl rfl (fun hb => xbT hb) ?_
  refine XB.ci rfl rfl rfl rfl rfl (yM_tick_ok (xs ((x4 + (1 : Int32))).toNatClampNeg) m1) (fun r4 m3 => ?_)
  refine XB.go 2 (pc' := 222) (ls' := [some (.ref 1000), some (.ref 0), some (.ref 32), some (.ref 56), some (.int x4), some (.int r2), some (.int r4)]) (st' := [(.ref 32)]) (μ' := m3) rfl ?_
  refine XB.cp rfl rfl rfl (yM_thrown_ok m3) ?_
  refine XB.go 1 (pc' := 227) (ls' := [some (.ref 1000), some (.ref 0), some (.ref 32), some (.ref 56), some (.int x4), some (.int r2), some (.int r4)]) (st' := [(.int r2), (.int (yM_thrown m3))]) (μ' := m3) rfl ?_
  refine XB.icmp (P := (yM_thrown m3) = r2) rfl rfl rfl (fun c227 => ?_) (fun c227 => ?_)
  · refine XB.go 1 (pc' := 234) (ls' := [some (.ref 1000), some (.ref 0), some (.ref 32), some (.ref 56), some (.int x4), some (.int r2), some (.int r4)]) (st' := [(.int r2)]) (μ' := m3) rfl ?_
    refine XB.ifz (P := ¬ r2 = (0 : Int32)) rfl rfl rfl (fun c234 => ?_) (fun c234 => ?_)
    · refine XB.go 1 (pc' := 1723) (ls' := [some (.ref 1000), some (.ref 0), some (.ref 32), some (.ref 56), some (.int x4), some (.int r2), some (.int r4)]) (st' := []) (μ' := m3) rfl ?_
      exact yW_law_b1723_ok k55 hk55 (some r2) (some r4) x4 m3
    · refine XB.go 4 (pc' := 242) (ls' := [some (.ref 1000), some (.ref 0), some (.ref 32), some (.ref 56), some (.int x4), some (.int r2), some (.int r4)]) (st' := [(.int r4), (.long (m3.2.2 56 0))]) (μ' := m3) rfl ?_
      refine XB.ifz (P := r4 = (0 : Int32)) rfl rfl rfl (fun c242 => ?_) (fun c242 => ?_)
      · refine XB.go 2 (pc' := 251) (ls' := [some (.ref 1000), some (.ref 0), some (.ref 32), some (.ref 56), some (.int x4), some (.int r2), some (.int r4)]) (st' := [(.int (lg_cmp (m3.2.2 56 0) (0 : Int64)))]) (μ' := m3) rfl ?_
        refine XB.ifz (P := (lg_cmp (m3.2.2 56 0) (0 : Int64)) = (0 : Int32)) rfl rfl rfl (fun c251 => ?_) (fun c251 => ?_)
        · refine XB.go 1 (pc' := 1723) (ls' := [some (.ref 1000), some (.ref 0), some (.ref 32), some (.ref 56), some (.int x4), some (.int r2), some (.int r4)]) (st' := []) (μ' := m3) rfl ?_
          exact yW_law_b1723_ok k55 hk55 (some r2) (some r4) x4 m3
        · refine XB.go 1 (pc' := 255) (ls' := [some (.ref 1000), some (.ref 0), some (.ref 32), some (.ref 56), some (.int x4), some (.int r2), some (.int r4)]) (st' := [(.int (0 : Int32))]) (μ' := m3) rfl ?_
          exact XB.fin rfl
      · refine XB.go 3 (pc' := 251) (ls' := [some (.ref 1000), some (.ref 0), some (.ref 32), some (.ref 56), some (.int x4), some (.int r2), some (.int r4)]) (st' := [(.int (lg_cmp (m3.2.2 56 0) (1 : Int64)))]) (μ' := m3) rfl ?_
        refine XB.ifz (P := (lg_cmp (m3.2.2 56 0) (1 : Int64)) = (0 : Int32)) rfl rfl rfl (fun c251 => ?_) (fun c251 => ?_)
        · refine XB.go 1 (pc' := 1723) (ls' := [some (.ref 1000), some (.ref 0), some (.ref 32), some (.ref 56), some (.int x4), some (.int r2), some (.int r4)]) (st' := []) (μ' := m3) rfl ?_
          exact yW_law_b1723_ok k55 hk55 (some r2) (some r4) x4 m3
        · refine XB.go 1 (pc' := 255) (ls' := [some (.ref 1000), some (.ref 0), some (.ref 32), some (.ref 56), some (.int x4), some (.int r2), some (.int r4)]) (st' := [(.int (0 : Int32))]) (μ' := m3) rfl ?_
          exact XB.fin rfl
  · refine XB.go 1 (pc' := 231) (ls' := [some (.ref 1000), some (.ref 0), some (.ref 32), some (.ref 56), some (.int x4), some (.int r2), some (.int r4)]) (st' := [(.int (0 : Int32))]) (μ' := m3) rfl ?_
    exact XB.fin rfl
set_option maxRecDepth 16384 in
def yW_law_b259 (L : Nat) (xs : Nat → Int32) (k55 : Int32 → XMu → XRes) (x4 : Int32) (μ : XMu) : XRes := xgd (xin (x4 + (1 : Int32)) L) (xgd (xin (x4 + (2 : Int32)) L) (xgd (xin (x4 + (3 : Int32)) L) (xgd (xin (x4 + (4 : Int32)) L) (xbi (yW_preask (xs ((x4 + (1 : Int32))).toNatClampNeg) (xs ((x4 + (2 : Int32))).toNatClampNeg) (xs ((x4 + (3 : Int32))).toNatClampNeg) (xs ((x4 + (4 : Int32))).toNatClampNeg) μ) (fun r6 m5 => xgd (xin (x4 + (1 : Int32)) L) (xgd (xin (x4 + (2 : Int32)) L) (xgd (xin (x4 + (3 : Int32)) L) (xgd (xin (x4 + (4 : Int32)) L) (xbv (yM_preask (xs ((x4 + (1 : Int32))).toNatClampNeg) (xs ((x4 + (2 : Int32))).toNatClampNeg) (xs ((x4 + (3 : Int32))).toNatClampNeg) (xs ((x4 + (4 : Int32))).toNatClampNeg) m5) (fun m7 => (if (yM_thrown m7) = r6 then yW_law_b1723 L xs k55 x4 m7 else some (.inl (some (.int (0 : Int32))), m7))))))))))))
set_option maxRecDepth 16384 in
theorem yW_law_b259_ok {L : Nat} {xs : Nat → Int32} (k55 : Int32 → XMu → XRes) (hk55 : ∀ (d5 : Option Int32) (d6 : Option Int32) (x4 : Int32) (μ : XMu), XB L xs 235 55 [some (.ref 1000), some (.ref 0), some (.ref 32), some (.ref 56), some (.int x4), (xdl d5), (xdl d6)] [] μ (k55 x4 μ)) (d5 : Option Int32) (d6 : Option Int32) (x4 : Int32) (μ : XMu) : XB L xs 235 259 [some (.ref 1000), some (.ref 0), some (.ref 32), some (.ref 56), some (.int x4), (xdl d5), (xdl d6)] [] μ (yW_law_b259 L xs k55 x4 μ) := by
  unfold yW_law_b259
  refine XB.go 5 (pc' := 265) (ls' := [some (.ref 1000), some (.ref 0), some (.ref 32), some (.ref 56), some (.int x4), (xdl d5), (xdl d6)]) (st' := [(.int (x4 + (1 : Int32))), (.ref 1000), (.ref 0)]) (μ' := μ) rfl ?_
  refine XB.gd (pc' := 266) (ls' := [some (.ref 1000), some (.ref 0), some (.ref 32), some (.ref 56), some (.int x4), (xdl d5), (xdl d6)]) (st' := [(.int (xs ((x4 + (1 : Int32))).toNatClampNeg)), (.ref 0)]) (μ' := μ) rfl rfl rfl (fun hb => xbT hb) ?_
  refine XB.go 4 (pc' := 271) (ls' := [some (.ref 1000), some (.ref 0), some (.ref 32), some (.ref 56), some (.int x4), (xdl d5), (xdl d6)]) (st' := [(.int (x4 + (2 : Int32))), (.ref 1000), (.int (xs ((x4 + (1 : Int32))).toNatClampNeg)), (.ref 0)]) (μ' := μ) rfl ?_
  refine XB.gd (pc' := 272) (ls' := [some (.ref 1000), some (.ref 0), some (.ref 32), some (.ref 56), some (.int x4), (xdl d5), (xdl d6)]) (st' := [(.int (xs ((x4 + (2 : Int32))).toNatClampNeg)), (.int (xs ((x4 + (1 : Int32))).toNatClampNeg)), (.ref 0)]) (μ' := μ) rfl rfl rfl (fun hb => xbT hb) ?_
  refine XB.go 4 (pc' := 277) (ls' := [some (.ref 1000), some (.ref 0), some (.ref 32), some (.ref 56), some (.int x4), (xdl d5), (xdl d6)]) (st' := [(.int (x4 + (3 : Int32))), (.ref 1000), (.int (xs ((x4 + (2 : Int32))).toNatClampNeg)), (.int (xs ((x4 + (1 : Int32))).toNatClampNeg)), (.ref 0)]) (μ' := μ) rfl ?_
  refine XB.gd (pc' := 278) (ls' := [some (.ref 1000), some (.ref 0), some (.ref 32), some (.ref 56), some (.int x4), (xdl d5), (xdl d6)]) (st' := [(.int (xs ((x4 + (3 : Int32))).toNatClampNeg)), (.int (xs ((x4 + (2 : Int32))).toNatClampNeg)), (.int (xs ((x4 + (1 : Int32))).toNatClampNeg)), (.ref 0)]) (μ' := μ) rfl rfl rfl (fun hb => xbT hb) ?_
  refine XB.go 4 (pc' := 283) (ls' := [some (.ref 1000), some (.ref 0), some (.ref 32), some (.ref 56), some (.int x4), (xdl d5), (xdl d6)]) (st' := [(.int (x4 + (4 : Int32))), (.ref 1000), (.int (xs ((x4 + (3 : Int32))).toNatClampNeg)), (.int (xs ((x4 + (2 : Int32))).toNatClampNeg)), (.int (xs ((x4 + (1 : Int32))).toNatClampNeg)), (.ref 0)]) (μ' := μ) rfl ?_
  refine XB.gd (pc' := 284) (ls' := [some (.ref 1000), some (.ref 0), some (.ref 32), some (.ref 56), some (.int x4), (xdl d5), (xdl d6)]) (st' := [(.int (xs ((x4 + (4 : Int32))).toNatClampNeg)), (.int (xs ((x4 + (3 : Int32))).toNatClampNeg)), (.int (xs ((x4 + (2 : Int32))).toNatClampNeg)), (.int (xs ((x4 + (1 : Int32))).toNatClampNeg)), (.ref 0)]) (μ' := μ) rfl rfl rfl (fun hb => xbT hb) ?_
  refine XB.ci rfl rfl rfl rfl rfl (yW_preask_ok (xs ((x4 + (1 : Int32))).toNatClampNeg) (xs ((x4 + (2 : Int32))).toNatClampNeg) (xs ((x4 + (3 : Int32))).toNatClampNeg) (xs ((x4 + (4 : Int32))).toNatClampNeg) μ) (fun r6 m5 => ?_)
  refine XB.go 6 (pc' := 295) (ls' := [some (.ref 1000), some (.ref 0), some (.ref 32), some (.ref 56), some (.int x4), some (.int r6), (xdl d6)]) (st' := [(.int (x4 + (1 : Int32))), (.ref 1000), (.ref 32)]) (μ' := m5) rfl ?_
  refine XB.gd (pc' := 296) (ls' := [some (.ref 1000), some (.ref 0), some (.ref 32), some (.ref 56), some (.int x4), some (.int r6), (xdl d6)]) (st' := [(.int (xs ((x4 + (1 : Int32))).toNatClampNeg)), (.ref 32)]) (μ' := m5) rfl rfl rfl (fun hb => xbT hb) ?_
  refine XB.go 4 (pc' := 301) (ls' := [some (.ref 1000), some (.ref 0), some (.ref 32), some (.ref 56), some (.int x4), some (.int r6), (xdl d6)]) (st' := [(.int (x4 + (2 : Int32))), (.ref 1000), (.int (xs ((x4 + (1 : Int32))).toNatClampNeg)), (.ref 32)]) (μ' := m5) rfl ?_
  refine XB.gd (pc' := 302) (ls' := [some (.ref 1000), some (.ref 0), some (.ref 32), some (.ref 56), some (.int x4), some (.int r6), (xdl d6)]) (st' := [(.int (xs ((x4 + (2 : Int32))).toNatClampNeg)), (.int (xs ((x4 + (1 : Int32))).toNatClampNeg)), (.ref 32)]) (μ' := m5) rfl rfl rfl (fun hb => xbT hb) ?_
  refine XB.go 4 (pc' := 307) (ls' := [some (.ref 1000), some (.ref 0), some (.ref 32), some (.ref 56), some (.int x4), some (.int r6), (xdl d6)]) (st' := [(.int (x4 + (3 : Int32))), (.ref 1000), (.int (xs ((x4 + (2 : Int32))).toNatClampNeg)), (.int (xs ((x4 + (1 : Int32))).toNatClampNeg)), (.ref 32)]) (μ' := m5) rfl ?_
  refine XB.gd (pc' := 308) (ls' := [some (.ref 1000), some (.ref 0), some (.ref 32), some (.ref 56), some (.int x4), some (.int r6), (xdl d6)]) (st' := [(.int (xs ((x4 + (3 : Int32))).toNatClampNeg)), (.int (xs ((x4 + (2 : Int32))).toNatClampNeg)), (.int (xs ((x4 + (1 : Int32))).toNatClampNeg)), (.ref 32)]) (μ' := m5) rfl rfl rfl (fun hb => xbT hb) ?_
  refine XB.go 4 (pc' := 313) (ls' := [some (.ref 1000), some (.ref 0), some (.ref 32), some (.ref 56), some (.int x4), some (.int r6), (xdl d6)]) (st' := [(.int (x4 + (4 : Int32))), (.ref 1000), (.int (xs ((x4 + (3 : Int32))).toNatClampNeg)), (.int (xs ((x4 + (2 : Int32))).toNatClampNeg)), (.int (xs ((x4 + (1 : Int32))).toNatClampNeg)), (.ref 32)]) (μ' := m5) rfl ?_
  refine XB.gd (pc' := 314) (ls' := [some (.ref 1000), some (.ref 0), some (.ref 32), some (.ref 56), some (.int x4), some (.int r6), (xdl d6)]) (st' := [(.int (xs ((x4 + (4 : Int32))).toNatClampNeg)), (.int (xs ((x4 + (3 : Int32))).toNatClampNeg)), (.int (xs ((x4 + (2 : Int32))).toNatClampNeg)), (.int (xs ((x4 + (1 : Int32))).toNatClampNeg)), (.ref 32)]) (μ' := m5) rfl rfl rfl (fun hb => xbT hb) ?_
  refine XB.cv rfl rfl rfl rfl rfl (yM_preask_ok (xs ((x4 + (1 : Int32))).toNatClampNeg) (xs ((x4 + (2 : Int32))).toNatClampNeg) (xs ((x4 + (3 : Int32))).toNatClampNeg) (xs ((x4 + (4 : Int32))).toNatClampNeg) m5) (fun m7 => ?_)
  refine XB.go 1 (pc' := 318) (ls' := [some (.ref 1000), some (.ref 0), some (.ref 32), some (.ref 56), some (.int x4), some (.int r6), (xdl d6)]) (st' := [(.ref 32)]) (μ' := m7) rfl ?_
  refine XB.cp rfl rfl rfl (yM_thrown_ok m7) ?_
  refine XB.go 1 (pc' := 323) (ls' := [some (.ref 1000), some (.ref 0), some (.ref 32), some (.ref 56), some (.int x4), some (.int r6), (xdl d6)]) (st' := [(.int r6), (.int (yM_thrown m7))]) (μ' := m7) rfl ?_
  refine XB.icmp (P := (yM_thrown m7) = r6) rfl rfl rfl (fun c323 => ?_) (fun c323 => ?_)
  · refine XB.go 1 (pc' := 1723) (ls' := [some (.ref 1000), some (.ref 0), some (.ref 32), some (.ref 56), some (.int x4), some (.int r6), (xdl d6)]) (st' := []) (μ' := m7) rfl ?_
    exact yW_law_b1723_ok k55 hk55 (some r6) (d6) x4 m7
  · refine XB.go 1 (pc' := 327) (ls' := [some (.ref 1000), some (.ref 0), some (.ref 32), some (.ref 56), some (.int x4), some (.int r6), (xdl d6)]) (st' := [(.int (0 : Int32))]) (μ' := m7) rfl ?_
    exact XB.fin rfl
set_option maxRecDepth 16384 in
def yW_law_b358 (L : Nat) (xs : Nat → Int32) (k55 : Int32 → XMu → XRes) (x4 : Int32) (s1 : Int32) (s2 : Int32) (s3 : Int32) (μ : XMu) : XRes := xbi (yW_preanswer s1 s2 s3 μ) (fun r9 m8 => xgd (xin (x4 + (1 : Int32)) L) (xgd (xin (x4 + (2 : Int32)) L) (xgd (xin (x4 + (3 : Int32)) L) ((if (xs ((x4 + (3 : Int32))).toNatClampNeg) = (0 : Int32) then xbv (yM_preanswer (xs ((x4 + (1 : Int32))).toNatClampNeg) (xs ((x4 + (2 : Int32))).toNatClampNeg) (0 : Int32) m8) (fun m10 => (if (yM_thrown m10) = r9 then yW_law_b1723 L xs k55 x4 m10 else some (.inl (some (.int (0 : Int32))), m10))) else xbv (yM_preanswer (xs ((x4 + (1 : Int32))).toNatClampNeg) (xs ((x4 + (2 : Int32))).toNatClampNeg) (1 : Int32) m8) (fun m11 => (if (yM_thrown m11) = r9 then yW_law_b1723 L xs k55 x4 m11 else some (.inl (some (.int (0 : Int32))), m11))))))))
set_option maxRecDepth 16384 in
theorem yW_law_b358_ok {L : Nat} {xs : Nat → Int32} (k55 : Int32 → XMu → XRes) (hk55 : ∀ (d5 : Option Int32) (d6 : Option Int32) (x4 : Int32) (μ : XMu), XB L xs 235 55 [some (.ref 1000), some (.ref 0), some (.ref 32), some (.ref 56), some (.int x4), (xdl d5), (xdl d6)] [] μ (k55 x4 μ)) (d5 : Option Int32) (d6 : Option Int32) (x4 : Int32) (s1 : Int32) (s2 : Int32) (s3 : Int32) (μ : XMu) : XB L xs 235 358 [some (.ref 1000), some (.ref 0), some (.ref 32), some (.ref 56), some (.int x4), (xdl d5), (xdl d6)] [(.int s3), (.int s2), (.int s1), (.ref 0)] μ (yW_law_b358 L xs k55 x4 s1 s2 s3 μ) := by
  unfold yW_law_b358
  refine XB.ci rfl rfl rfl rfl rfl (yW_preanswer_ok s1 s2 s3 μ) (fun r9 m8 => ?_)
  refine XB.go 6 (pc' := 369) (ls' := [some (.ref 1000), some (.ref 0), some (.ref 32), some (.ref 56), some (.int x4), some (.int r9), (xdl d6)]) (st' := [(.int (x4 + (1 : Int32))), (.ref 1000), (.ref 32)]) (μ' := m8) rfl ?_
  refine XB.gd (pc' := 370) (ls' := [some (.ref 1000), some (.ref 0), some (.ref 32), some (.ref 56), some (.int x4), some (.int r9), (xdl d6)]) (st' := [(.int (xs ((x4 + (1 : Int32))).toNatClampNeg)), (.ref 32)]) (μ' := m8) rfl rfl rfl (fun hb => xbT hb) ?_
  refine XB.go 4 (pc' := 375) (ls' := [some (.ref 1000), some (.ref 0), some (.ref 32), some (.ref 56), some (.int x4), some (.int r9), (xdl d6)]) (st' := [(.int (x4 + (2 : Int32))), (.ref 1000), (.int (xs ((x4 + (1 : Int32))).toNatClampNeg)), (.ref 32)]) (μ' := m8) rfl ?_
  refine XB.gd (pc' := 376) (ls' := [some (.ref 1000), some (.ref 0), some (.ref 32), some (.ref 56), some (.int x4), some (.int r9), (xdl d6)]) (st' := [(.int (xs ((x4 + (2 : Int32))).toNatClampNeg)), (.int (xs ((x4 + (1 : Int32))).toNatClampNeg)), (.ref 32)]) (μ' := m8) rfl rfl rfl (fun hb => xbT hb) ?_
  refine XB.go 4 (pc' := 381) (ls' := [some (.ref 1000), some (.ref 0), some (.ref 32), some (.ref 56), some (.int x4), some (.int r9), (xdl d6)]) (st' := [(.int (x4 + (3 : Int32))), (.ref 1000), (.int (xs ((x4 + (2 : Int32))).toNatClampNeg)), (.int (xs ((x4 + (1 : Int32))).toNatClampNeg)), (.ref 32)]) (μ' := m8) rfl ?_
  refine XB.gd (pc' := 382) (ls' := [some (.ref 1000), some (.ref 0), some (.ref 32), some (.ref 56), some (.int x4), some (.int r9), (xdl d6)]) (st' := [(.int (xs ((x4 + (3 : Int32))).toNatClampNeg)), (.int (xs ((x4 + (2 : Int32))).toNatClampNeg)), (.int (xs ((x4 + (1 : Int32))).toNatClampNeg)), (.ref 32)]) (μ' := m8) rfl rfl rfl (fun hb => xbT hb) ?_
  refine XB.ifz (P := (xs ((x4 + (3 : Int32))).toNatClampNeg) = (0 : Int32)) rfl rfl rfl (fun c382 => ?_) (fun c382 => ?_)
  · refine XB.go 1 (pc' := 390) (ls' := [some (.ref 1000), some (.ref 0), some (.ref 32), some (.ref 56), some (.int x4), some (.int r9), (xdl d6)]) (st' := [(.int (0 : Int32)), (.int (xs ((x4 + (2 : Int32))).toNatClampNeg)), (.int (xs ((x4 + (1 : Int32))).toNatClampNeg)), (.ref 32)]) (μ' := m8) rfl ?_
    refine XB.cv rfl rfl rfl rfl rfl (yM_preanswer_ok (xs ((x4 + (1 : Int32))).toNatClampNeg) (xs ((x4 + (2 : Int32))).toNatClampNeg) (0 : Int32) m8) (fun m10 => ?_)
    refine XB.go 1 (pc' := 394) (ls' := [some (.ref 1000), some (.ref 0), some (.ref 32), some (.ref 56), some (.int x4), some (.int r9), (xdl d6)]) (st' := [(.ref 32)]) (μ' := m10) rfl ?_
    refine XB.cp rfl rfl rfl (yM_thrown_ok m10) ?_
    refine XB.go 1 (pc' := 399) (ls' := [some (.ref 1000), some (.ref 0), some (.ref 32), some (.ref 56), some (.int x4), some (.int r9), (xdl d6)]) (st' := [(.int r9), (.int (yM_thrown m10))]) (μ' := m10) rfl ?_
    refine XB.icmp (P := (yM_thrown m10) = r9) rfl rfl rfl (fun c399 => ?_) (fun c399 => ?_)
    · refine XB.go 1 (pc' := 1723) (ls' := [some (.ref 1000), some (.ref 0), some (.ref 32), some (.ref 56), some (.int x4), some (.int r9), (xdl d6)]) (st' := []) (μ' := m10) rfl ?_
      exact yW_law_b1723_ok k55 hk55 (some r9) (d6) x4 m10
    · refine XB.go 1 (pc' := 403) (ls' := [some (.ref 1000), some (.ref 0), some (.ref 32), some (.ref 56), some (.int x4), some (.int r9), (xdl d6)]) (st' := [(.int (0 : Int32))]) (μ' := m10) rfl ?_
      exact XB.fin rfl
  · refine XB.go 2 (pc' := 390) (ls' := [some (.ref 1000), some (.ref 0), some (.ref 32), some (.ref 56), some (.int x4), some (.int r9), (xdl d6)]) (st' := [(.int (1 : Int32)), (.int (xs ((x4 + (2 : Int32))).toNatClampNeg)), (.int (xs ((x4 + (1 : Int32))).toNatClampNeg)), (.ref 32)]) (μ' := m8) rfl ?_
    refine XB.cv rfl rfl rfl rfl rfl (yM_preanswer_ok (xs ((x4 + (1 : Int32))).toNatClampNeg) (xs ((x4 + (2 : Int32))).toNatClampNeg) (1 : Int32) m8) (fun m11 => ?_)
    refine XB.go 1 (pc' := 394) (ls' := [some (.ref 1000), some (.ref 0), some (.ref 32), some (.ref 56), some (.int x4), some (.int r9), (xdl d6)]) (st' := [(.ref 32)]) (μ' := m11) rfl ?_
    refine XB.cp rfl rfl rfl (yM_thrown_ok m11) ?_
    refine XB.go 1 (pc' := 399) (ls' := [some (.ref 1000), some (.ref 0), some (.ref 32), some (.ref 56), some (.int x4), some (.int r9), (xdl d6)]) (st' := [(.int r9), (.int (yM_thrown m11))]) (μ' := m11) rfl ?_
    refine XB.icmp (P := (yM_thrown m11) = r9) rfl rfl rfl (fun c399 => ?_) (fun c399 => ?_)
    · refine XB.go 1 (pc' := 1723) (ls' := [some (.ref 1000), some (.ref 0), some (.ref 32), some (.ref 56), some (.int x4), some (.int r9), (xdl d6)]) (st' := []) (μ' := m11) rfl ?_
      exact yW_law_b1723_ok k55 hk55 (some r9) (d6) x4 m11
    · refine XB.go 1 (pc' := 403) (ls' := [some (.ref 1000), some (.ref 0), some (.ref 32), some (.ref 56), some (.int x4), some (.int r9), (xdl d6)]) (st' := [(.int (0 : Int32))]) (μ' := m11) rfl ?_
      exact XB.fin rfl
set_option maxRecDepth 16384 in
def yW_law_b331 (L : Nat) (xs : Nat → Int32) (k55 : Int32 → XMu → XRes) (x4 : Int32) (μ : XMu) : XRes := xgd (xin (x4 + (1 : Int32)) L) (xgd (xin (x4 + (2 : Int32)) L) (xgd (xin (x4 + (3 : Int32)) L) ((if (xs ((x4 + (3 : Int32))).toNatClampNeg) = (0 : Int32) then yW_law_b358 L xs k55 x4 (xs ((x4 + (1 : Int32))).toNatClampNeg) (xs ((x4 + (2 : Int32))).toNatClampNeg) (0 : Int32) μ else yW_law_b358 L xs k55 x4 (xs ((x4 + (1 : Int32))).toNatClampNeg) (xs ((x4 + (2 : Int32))).toNatClampNeg) (1 : Int32) μ))))
set_option maxRecDepth 16384 in
theorem yW_law_b331_ok {L : Nat} {xs : Nat → Int32} (k55 : Int32 → XMu → XRes) (hk55 : ∀ (d5 : Option Int32) (d6 : Option Int32) (x4 : Int32) (μ : XMu), XB L xs 235 55 [some (.ref 1000), some (.ref 0), some (.ref 32), some (.ref 56), some (.int x4), (xdl d5), (xdl d6)] [] μ (k55 x4 μ)) (d5 : Option Int32) (d6 : Option Int32) (x4 : Int32) (μ : XMu) : XB L xs 235 331 [some (.ref 1000), some (.ref 0), some (.ref 32), some (.ref 56), some (.int x4), (xdl d5), (xdl d6)] [] μ (yW_law_b331 L xs k55 x4 μ) := by
  unfold yW_law_b331
  refine XB.go 5 (pc' := 337) (ls' := [some (.ref 1000), some (.ref 0), some (.ref 32), some (.ref 56), some (.int x4), (xdl d5), (xdl d6)]) (st' := [(.int (x4 + (1 : Int32))), (.ref 1000), (.ref 0)]) (μ' := μ) rfl ?_
  refine XB.gd (pc' := 338) (ls' := [some (.ref 1000), some (.ref 0), some (.ref 32), some (.ref 56), some (.int x4), (xdl d5), (xdl d6)]) (st' := [(.int (xs ((x4 + (1 : Int32))).toNatClampNeg)), (.ref 0)]) (μ' := μ) rfl rfl rfl (fun hb => xbT hb) ?_
  refine XB.go 4 (pc' := 343) (ls' := [some (.ref 1000), some (.ref 0), some (.ref 32), some (.ref 56), some (.int x4), (xdl d5), (xdl d6)]) (st' := [(.int (x4 + (2 : Int32))), (.ref 1000), (.int (xs ((x4 + (1 : Int32))).toNatClampNeg)), (.ref 0)]) (μ' := μ) rfl ?_
  refine XB.gd (pc' := 344) (ls' := [some (.ref 1000), some (.ref 0), some (.ref 32), some (.ref 56), some (.int x4), (xdl d5), (xdl d6)]) (st' := [(.int (xs ((x4 + (2 : Int32))).toNatClampNeg)), (.int (xs ((x4 + (1 : Int32))).toNatClampNeg)), (.ref 0)]) (μ' := μ) rfl rfl rfl (fun hb => xbT hb) ?_
  refine XB.go 4 (pc' := 349) (ls' := [some (.ref 1000), some (.ref 0), some (.ref 32), some (.ref 56), some (.int x4), (xdl d5), (xdl d6)]) (st' := [(.int (x4 + (3 : Int32))), (.ref 1000), (.int (xs ((x4 + (2 : Int32))).toNatClampNeg)), (.int (xs ((x4 + (1 : Int32))).toNatClampNeg)), (.ref 0)]) (μ' := μ) rfl ?_
  refine XB.gd (pc' := 350) (ls' := [some (.ref 1000), some (.ref 0), some (.ref 32), some (.ref 56), some (.int x4), (xdl d5), (xdl d6)]) (st' := [(.int (xs ((x4 + (3 : Int32))).toNatClampNeg)), (.int (xs ((x4 + (2 : Int32))).toNatClampNeg)), (.int (xs ((x4 + (1 : Int32))).toNatClampNeg)), (.ref 0)]) (μ' := μ) rfl rfl rfl (fun hb => xbT hb) ?_
  refine XB.ifz (P := (xs ((x4 + (3 : Int32))).toNatClampNeg) = (0 : Int32)) rfl rfl rfl (fun c350 => ?_) (fun c350 => ?_)
  · refine XB.go 1 (pc' := 358) (ls' := [some (.ref 1000), some (.ref 0), some (.ref 32), some (.ref 56), some (.int x4), (xdl d5), (xdl d6)]) (st' := [(.int (0 : Int32)), (.int (xs ((x4 + (2 : Int32))).toNatClampNeg)), (.int (xs ((x4 + (1 : Int32))).toNatClampNeg)), (.ref 0)]) (μ' := μ) rfl ?_
    exact yW_law_b358_ok k55 hk55 (d5) (d6) x4 (xs ((x4 + (1 : Int32))).toNatClampNeg) (xs ((x4 + (2 : Int32))).toNatClampNeg) (0 : Int32) μ
  · refine XB.go 2 (pc' := 358) (ls' := [some (.ref 1000), some (.ref 0), some (.ref 32), some (.ref 56), some (.int x4), (xdl d5), (xdl d6)]) (st' := [(.int (1 : Int32)), (.int (xs ((x4 + (2 : Int32))).toNatClampNeg)), (.int (xs ((x4 + (1 : Int32))).toNatClampNeg)), (.ref 0)]) (μ' := μ) rfl ?_
    exact yW_law_b358_ok k55 hk55 (d5) (d6) x4 (xs ((x4 + (1 : Int32))).toNatClampNeg) (xs ((x4 + (2 : Int32))).toNatClampNeg) (1 : Int32) μ
set_option maxRecDepth 16384 in
def yW_law_b407 (L : Nat) (xs : Nat → Int32) (k55 : Int32 → XMu → XRes) (x4 : Int32) (μ : XMu) : XRes := xgd (xin (x4 + (1 : Int32)) L) (xgd (xin (x4 + (2 : Int32)) L) (xgd (xin (x4 + (3 : Int32)) L) (xgd (xin (x4 + (4 : Int32)) L) (xbi (yW_ask (xs ((x4 + (1 : Int32))).toNatClampNeg) (xs ((x4 + (2 : Int32))).toNatClampNeg) (xs ((x4 + (3 : Int32))).toNatClampNeg) (xs ((x4 + (4 : Int32))).toNatClampNeg) μ) (fun r13 m12 => xgd (xin (x4 + (1 : Int32)) L) (xgd (xin (x4 + (2 : Int32)) L) (xgd (xin (x4 + (3 : Int32)) L) (xgd (xin (x4 + (4 : Int32)) L) (xbv (yM_ask (xs ((x4 + (1 : Int32))).toNatClampNeg) (xs ((x4 + (2 : Int32))).toNatClampNeg) (xs ((x4 + (3 : Int32))).toNatClampNeg) (xs ((x4 + (4 : Int32))).toNatClampNeg) m12) (fun m14 => (if (yM_thrown m14) = r13 then yW_law_b1723 L xs k55 x4 m14 else some (.inl (some (.int (0 : Int32))), m14))))))))))))
set_option maxRecDepth 16384 in
theorem yW_law_b407_ok {L : Nat} {xs : Nat → Int32} (k55 : Int32 → XMu → XRes) (hk55 : ∀ (d5 : Option Int32) (d6 : Option Int32) (x4 : Int32) (μ : XMu), XB L xs 235 55 [some (.ref 1000), some (.ref 0), some (.ref 32), some (.ref 56), some (.int x4), (xdl d5), (xdl d6)] [] μ (k55 x4 μ)) (d5 : Option Int32) (d6 : Option Int32) (x4 : Int32) (μ : XMu) : XB L xs 235 407 [some (.ref 1000), some (.ref 0), some (.ref 32), some (.ref 56), some (.int x4), (xdl d5), (xdl d6)] [] μ (yW_law_b407 L xs k55 x4 μ) := by
  unfold yW_law_b407
  refine XB.go 5 (pc' := 413) (ls' := [some (.ref 1000), some (.ref 0), some (.ref 32), some (.ref 56), some (.int x4), (xdl d5), (xdl d6)]) (st' := [(.int (x4 + (1 : Int32))), (.ref 1000), (.ref 0)]) (μ' := μ) rfl ?_
  refine XB.gd (pc' := 414) (ls' := [some (.ref 1000), some (.ref 0), some (.ref 32), some (.ref 56), some (.int x4), (xdl d5), (xdl d6)]) (st' := [(.int (xs ((x4 + (1 : Int32))).toNatClampNeg)), (.ref 0)]) (μ' := μ) rfl rfl rfl (fun hb => xbT hb) ?_
  refine XB.go 4 (pc' := 419) (ls' := [some (.ref 1000), some (.ref 0), some (.ref 32), some (.ref 56), some (.int x4), (xdl d5), (xdl d6)]) (st' := [(.int (x4 + (2 : Int32))), (.ref 1000), (.int (xs ((x4 + (1 : Int32))).toNatClampNeg)), (.ref 0)]) (μ' := μ) rfl ?_
  refine XB.gd (pc' := 420) (ls' := [some (.ref 1000), some (.ref 0), some (.ref 32), some (.ref 56), some (.int x4), (xdl d5), (xdl d6)]) (st' := [(.int (xs ((x4 + (2 : Int32))).toNatClampNeg)), (.int (xs ((x4 + (1 : Int32))).toNatClampNeg)), (.ref 0)]) (μ' := μ) rfl rfl rfl (fun hb => xbT hb) ?_
  refine XB.go 4 (pc' := 425) (ls' := [some (.ref 1000), some (.ref 0), some (.ref 32), some (.ref 56), some (.int x4), (xdl d5), (xdl d6)]) (st' := [(.int (x4 + (3 : Int32))), (.ref 1000), (.int (xs ((x4 + (2 : Int32))).toNatClampNeg)), (.int (xs ((x4 + (1 : Int32))).toNatClampNeg)), (.ref 0)]) (μ' := μ) rfl ?_
  refine XB.gd (pc' := 426) (ls' := [some (.ref 1000), some (.ref 0), some (.ref 32), some (.ref 56), some (.int x4), (xdl d5), (xdl d6)]) (st' := [(.int (xs ((x4 + (3 : Int32))).toNatClampNeg)), (.int (xs ((x4 + (2 : Int32))).toNatClampNeg)), (.int (xs ((x4 + (1 : Int32))).toNatClampNeg)), (.ref 0)]) (μ' := μ) rfl rfl rfl (fun hb => xbT hb) ?_
  refine XB.go 4 (pc' := 431) (ls' := [some (.ref 1000), some (.ref 0), some (.ref 32), some (.ref 56), some (.int x4), (xdl d5), (xdl d6)]) (st' := [(.int (x4 + (4 : Int32))), (.ref 1000), (.int (xs ((x4 + (3 : Int32))).toNatClampNeg)), (.int (xs ((x4 + (2 : Int32))).toNatClampNeg)), (.int (xs ((x4 + (1 : Int32))).toNatClampNeg)), (.ref 0)]) (μ' := μ) rfl ?_
  refine XB.gd (pc' := 432) (ls' := [some (.ref 1000), some (.ref 0), some (.ref 32), some (.ref 56), some (.int x4), (xdl d5), (xdl d6)]) (st' := [(.int (xs ((x4 + (4 : Int32))).toNatClampNeg)), (.int (xs ((x4 + (3 : Int32))).toNatClampNeg)), (.int (xs ((x4 + (2 : Int32))).toNatClampNeg)), (.int (xs ((x4 + (1 : Int32))).toNatClampNeg)), (.ref 0)]) (μ' := μ) rfl rfl rfl (fun hb => xbT hb) ?_
  refine XB.ci rfl rfl rfl rfl rfl (yW_ask_ok (xs ((x4 + (1 : Int32))).toNatClampNeg) (xs ((x4 + (2 : Int32))).toNatClampNeg) (xs ((x4 + (3 : Int32))).toNatClampNeg) (xs ((x4 + (4 : Int32))).toNatClampNeg) μ) (fun r13 m12 => ?_)
  refine XB.go 6 (pc' := 443) (ls' := [some (.ref 1000), some (.ref 0), some (.ref 32), some (.ref 56), some (.int x4), some (.int r13), (xdl d6)]) (st' := [(.int (x4 + (1 : Int32))), (.ref 1000), (.ref 32)]) (μ' := m12) rfl ?_
  refine XB.gd (pc' := 444) (ls' := [some (.ref 1000), some (.ref 0), some (.ref 32), some (.ref 56), some (.int x4), some (.int r13), (xdl d6)]) (st' := [(.int (xs ((x4 + (1 : Int32))).toNatClampNeg)), (.ref 32)]) (μ' := m12) rfl rfl rfl (fun hb => xbT hb) ?_
  refine XB.go 4 (pc' := 449) (ls' := [some (.ref 1000), some (.ref 0), some (.ref 32), some (.ref 56), some (.int x4), some (.int r13), (xdl d6)]) (st' := [(.int (x4 + (2 : Int32))), (.ref 1000), (.int (xs ((x4 + (1 : Int32))).toNatClampNeg)), (.ref 32)]) (μ' := m12) rfl ?_
  refine XB.gd (pc' := 450) (ls' := [some (.ref 1000), some (.ref 0), some (.ref 32), some (.ref 56), some (.int x4), some (.int r13), (xdl d6)]) (st' := [(.int (xs ((x4 + (2 : Int32))).toNatClampNeg)), (.int (xs ((x4 + (1 : Int32))).toNatClampNeg)), (.ref 32)]) (μ' := m12) rfl rfl rfl (fun hb => xbT hb) ?_
  refine XB.go 4 (pc' := 455) (ls' := [some (.ref 1000), some (.ref 0), some (.ref 32), some (.ref 56), some (.int x4), some (.int r13), (xdl d6)]) (st' := [(.int (x4 + (3 : Int32))), (.ref 1000), (.int (xs ((x4 + (2 : Int32))).toNatClampNeg)), (.int (xs ((x4 + (1 : Int32))).toNatClampNeg)), (.ref 32)]) (μ' := m12) rfl ?_
  refine XB.gd (pc' := 456) (ls' := [some (.ref 1000), some (.ref 0), some (.ref 32), some (.ref 56), some (.int x4), some (.int r13), (xdl d6)]) (st' := [(.int (xs ((x4 + (3 : Int32))).toNatClampNeg)), (.int (xs ((x4 + (2 : Int32))).toNatClampNeg)), (.int (xs ((x4 + (1 : Int32))).toNatClampNeg)), (.ref 32)]) (μ' := m12) rfl rfl rfl (fun hb => xbT hb) ?_
  refine XB.go 4 (pc' := 461) (ls' := [some (.ref 1000), some (.ref 0), some (.ref 32), some (.ref 56), some (.int x4), some (.int r13), (xdl d6)]) (st' := [(.int (x4 + (4 : Int32))), (.ref 1000), (.int (xs ((x4 + (3 : Int32))).toNatClampNeg)), (.int (xs ((x4 + (2 : Int32))).toNatClampNeg)), (.int (xs ((x4 + (1 : Int32))).toNatClampNeg)), (.ref 32)]) (μ' := m12) rfl ?_
  refine XB.gd (pc' := 462) (ls' := [some (.ref 1000), some (.ref 0), some (.ref 32), some (.ref 56), some (.int x4), some (.int r13), (xdl d6)]) (st' := [(.int (xs ((x4 + (4 : Int32))).toNatClampNeg)), (.int (xs ((x4 + (3 : Int32))).toNatClampNeg)), (.int (xs ((x4 + (2 : Int32))).toNatClampNeg)), (.int (xs ((x4 + (1 : Int32))).toNatClampNeg)), (.ref 32)]) (μ' := m12) rfl rfl rfl (fun hb => xbT hb) ?_
  refine XB.cv rfl rfl rfl rfl rfl (yM_ask_ok (xs ((x4 + (1 : Int32))).toNatClampNeg) (xs ((x4 + (2 : Int32))).toNatClampNeg) (xs ((x4 + (3 : Int32))).toNatClampNeg) (xs ((x4 + (4 : Int32))).toNatClampNeg) m12) (fun m14 => ?_)
  refine XB.go 1 (pc' := 466) (ls' := [some (.ref 1000), some (.ref 0), some (.ref 32), some (.ref 56), some (.int x4), some (.int r13), (xdl d6)]) (st' := [(.ref 32)]) (μ' := m14) rfl ?_
  refine XB.cp rfl rfl rfl (yM_thrown_ok m14) ?_
  refine XB.go 1 (pc' := 471) (ls' := [some (.ref 1000), some (.ref 0), some (.ref 32), some (.ref 56), some (.int x4), some (.int r13), (xdl d6)]) (st' := [(.int r13), (.int (yM_thrown m14))]) (μ' := m14) rfl ?_
  refine XB.icmp (P := (yM_thrown m14) = r13) rfl rfl rfl (fun c471 => ?_) (fun c471 => ?_)
  · refine XB.go 1 (pc' := 1723) (ls' := [some (.ref 1000), some (.ref 0), some (.ref 32), some (.ref 56), some (.int x4), some (.int r13), (xdl d6)]) (st' := []) (μ' := m14) rfl ?_
    exact yW_law_b1723_ok k55 hk55 (some r13) (d6) x4 m14
  · refine XB.go 1 (pc' := 475) (ls' := [some (.ref 1000), some (.ref 0), some (.ref 32), some (.ref 56), some (.int x4), some (.int r13), (xdl d6)]) (st' := [(.int (0 : Int32))]) (μ' := m14) rfl ?_
    exact XB.fin rfl
set_option maxRecDepth 16384 in
def yW_law_b506 (L : Nat) (xs : Nat → Int32) (k55 : Int32 → XMu → XRes) (x4 : Int32) (s1 : Int32) (s2 : Int32) (s3 : Int32) (μ : XMu) : XRes := xbi (yW_answer s1 s2 s3 μ) (fun r16 m15 => xgd (xin (x4 + (1 : Int32)) L) (xgd (xin (x4 + (2 : Int32)) L) (xgd (xin (x4 + (3 : Int32)) L) ((if (xs ((x4 + (3 : Int32))).toNatClampNeg) = (0 : Int32) then xbv (yM_answer (xs ((x4 + (1 : Int32))).toNatClampNeg) (xs ((x4 + (2 : Int32))).toNatClampNeg) (0 : Int32) m15) (fun m17 => (if (yM_thrown m17) = r16 then yW_law_b1723 L xs k55 x4 m17 else some (.inl (some (.int (0 : Int32))), m17))) else xbv (yM_answer (xs ((x4 + (1 : Int32))).toNatClampNeg) (xs ((x4 + (2 : Int32))).toNatClampNeg) (1 : Int32) m15) (fun m18 => (if (yM_thrown m18) = r16 then yW_law_b1723 L xs k55 x4 m18 else some (.inl (some (.int (0 : Int32))), m18))))))))
set_option maxRecDepth 16384 in
theorem yW_law_b506_ok {L : Nat} {xs : Nat → Int32} (k55 : Int32 → XMu → XRes) (hk55 : ∀ (d5 : Option Int32) (d6 : Option Int32) (x4 : Int32) (μ : XMu), XB L xs 235 55 [some (.ref 1000), some (.ref 0), some (.ref 32), some (.ref 56), some (.int x4), (xdl d5), (xdl d6)] [] μ (k55 x4 μ)) (d5 : Option Int32) (d6 : Option Int32) (x4 : Int32) (s1 : Int32) (s2 : Int32) (s3 : Int32) (μ : XMu) : XB L xs 235 506 [some (.ref 1000), some (.ref 0), some (.ref 32), some (.ref 56), some (.int x4), (xdl d5), (xdl d6)] [(.int s3), (.int s2), (.int s1), (.ref 0)] μ (yW_law_b506 L xs k55 x4 s1 s2 s3 μ) := by
  unfold yW_law_b506
  refine XB.ci rfl rfl rfl rfl rfl (yW_answer_ok s1 s2 s3 μ) (fun r16 m15 => ?_)
  refine XB.go 6 (pc' := 517) (ls' := [some (.ref 1000), some (.ref 0), some (.ref 32), some (.ref 56), some (.int x4), some (.int r16), (xdl d6)]) (st' := [(.int (x4 + (1 : Int32))), (.ref 1000), (.ref 32)]) (μ' := m15) rfl ?_
  refine XB.gd (pc' := 518) (ls' := [some (.ref 1000), some (.ref 0), some (.ref 32), some (.ref 56), some (.int x4), some (.int r16), (xdl d6)]) (st' := [(.int (xs ((x4 + (1 : Int32))).toNatClampNeg)), (.ref 32)]) (μ' := m15) rfl rfl rfl (fun hb => xbT hb) ?_
  refine XB.go 4 (pc' := 523) (ls' := [some (.ref 1000), some (.ref 0), some (.ref 32), some (.ref 56), some (.int x4), some (.int r16), (xdl d6)]) (st' := [(.int (x4 + (2 : Int32))), (.ref 1000), (.int (xs ((x4 + (1 : Int32))).toNatClampNeg)), (.ref 32)]) (μ' := m15) rfl ?_
  refine XB.gd (pc' := 524) (ls' := [some (.ref 1000), some (.ref 0), some (.ref 32), some (.ref 56), some (.int x4), some (.int r16), (xdl d6)]) (st' := [(.int (xs ((x4 + (2 : Int32))).toNatClampNeg)), (.int (xs ((x4 + (1 : Int32))).toNatClampNeg)), (.ref 32)]) (μ' := m15) rfl rfl rfl (fun hb => xbT hb) ?_
  refine XB.go 4 (pc' := 529) (ls' := [some (.ref 1000), some (.ref 0), some (.ref 32), some (.ref 56), some (.int x4), some (.int r16), (xdl d6)]) (st' := [(.int (x4 + (3 : Int32))), (.ref 1000), (.int (xs ((x4 + (2 : Int32))).toNatClampNeg)), (.int (xs ((x4 + (1 : Int32))).toNatClampNeg)), (.ref 32)]) (μ' := m15) rfl ?_
  refine XB.gd (pc' := 530) (ls' := [some (.ref 1000), some (.ref 0), some (.ref 32), some (.ref 56), some (.int x4), some (.int r16), (xdl d6)]) (st' := [(.int (xs ((x4 + (3 : Int32))).toNatClampNeg)), (.int (xs ((x4 + (2 : Int32))).toNatClampNeg)), (.int (xs ((x4 + (1 : Int32))).toNatClampNeg)), (.ref 32)]) (μ' := m15) rfl rfl rfl (fun hb => xbT hb) ?_
  refine XB.ifz (P := (xs ((x4 + (3 : Int32))).toNatClampNeg) = (0 : Int32)) rfl rfl rfl (fun c530 => ?_) (fun c530 => ?_)
  · refine XB.go 1 (pc' := 538) (ls' := [some (.ref 1000), some (.ref 0), some (.ref 32), some (.ref 56), some (.int x4), some (.int r16), (xdl d6)]) (st' := [(.int (0 : Int32)), (.int (xs ((x4 + (2 : Int32))).toNatClampNeg)), (.int (xs ((x4 + (1 : Int32))).toNatClampNeg)), (.ref 32)]) (μ' := m15) rfl ?_
    refine XB.cv rfl rfl rfl rfl rfl (yM_answer_ok (xs ((x4 + (1 : Int32))).toNatClampNeg) (xs ((x4 + (2 : Int32))).toNatClampNeg) (0 : Int32) m15) (fun m17 => ?_)
    refine XB.go 1 (pc' := 542) (ls' := [some (.ref 1000), some (.ref 0), some (.ref 32), some (.ref 56), some (.int x4), some (.int r16), (xdl d6)]) (st' := [(.ref 32)]) (μ' := m17) rfl ?_
    refine XB.cp rfl rfl rfl (yM_thrown_ok m17) ?_
    refine XB.go 1 (pc' := 547) (ls' := [some (.ref 1000), some (.ref 0), some (.ref 32), some (.ref 56), some (.int x4), some (.int r16), (xdl d6)]) (st' := [(.int r16), (.int (yM_thrown m17))]) (μ' := m17) rfl ?_
    refine XB.icmp (P := (yM_thrown m17) = r16) rfl rfl rfl (fun c547 => ?_) (fun c547 => ?_)
    · refine XB.go 1 (pc' := 1723) (ls' := [some (.ref 1000), some (.ref 0), some (.ref 32), some (.ref 56), some (.int x4), some (.int r16), (xdl d6)]) (st' := []) (μ' := m17) rfl ?_
      exact yW_law_b1723_ok k55 hk55 (some r16) (d6) x4 m17
    · refine XB.go 1 (pc' := 551) (ls' := [some (.ref 1000), some (.ref 0), some (.ref 32), some (.ref 56), some (.int x4), some (.int r16), (xdl d6)]) (st' := [(.int (0 : Int32))]) (μ' := m17) rfl ?_
      exact XB.fin rfl
  · refine XB.go 2 (pc' := 538) (ls' := [some (.ref 1000), some (.ref 0), some (.ref 32), some (.ref 56), some (.int x4), some (.int r16), (xdl d6)]) (st' := [(.int (1 : Int32)), (.int (xs ((x4 + (2 : Int32))).toNatClampNeg)), (.int (xs ((x4 + (1 : Int32))).toNatClampNeg)), (.ref 32)]) (μ' := m15) rfl ?_
    refine XB.cv rfl rfl rfl rfl rfl (yM_answer_ok (xs ((x4 + (1 : Int32))).toNatClampNeg) (xs ((x4 + (2 : Int32))).toNatClampNeg) (1 : Int32) m15) (fun m18 => ?_)
    refine XB.go 1 (pc' := 542) (ls' := [some (.ref 1000), some (.ref 0), some (.ref 32), some (.ref 56), some (.int x4), some (.int r16), (xdl d6)]) (st' := [(.ref 32)]) (μ' := m18) rfl ?_
    refine XB.cp rfl rfl rfl (yM_thrown_ok m18) ?_
    refine XB.go 1 (pc' := 547) (ls' := [some (.ref 1000), some (.ref 0), some (.ref 32), some (.ref 56), some (.int x4), some (.int r16), (xdl d6)]) (st' := [(.int r16), (.int (yM_thrown m18))]) (μ' := m18) rfl ?_
    refine XB.icmp (P := (yM_thrown m18) = r16) rfl rfl rfl (fun c547 => ?_) (fun c547 => ?_)
    · refine XB.go 1 (pc' := 1723) (ls' := [some (.ref 1000), some (.ref 0), some (.ref 32), some (.ref 56), some (.int x4), some (.int r16), (xdl d6)]) (st' := []) (μ' := m18) rfl ?_
      exact yW_law_b1723_ok k55 hk55 (some r16) (d6) x4 m18
    · refine XB.go 1 (pc' := 551) (ls' := [some (.ref 1000), some (.ref 0), some (.ref 32), some (.ref 56), some (.int x4), some (.int r16), (xdl d6)]) (st' := [(.int (0 : Int32))]) (μ' := m18) rfl ?_
      exact XB.fin rfl
set_option maxRecDepth 16384 in
def yW_law_b479 (L : Nat) (xs : Nat → Int32) (k55 : Int32 → XMu → XRes) (x4 : Int32) (μ : XMu) : XRes := xgd (xin (x4 + (1 : Int32)) L) (xgd (xin (x4 + (2 : Int32)) L) (xgd (xin (x4 + (3 : Int32)) L) ((if (xs ((x4 + (3 : Int32))).toNatClampNeg) = (0 : Int32) then yW_law_b506 L xs k55 x4 (xs ((x4 + (1 : Int32))).toNatClampNeg) (xs ((x4 + (2 : Int32))).toNatClampNeg) (0 : Int32) μ else yW_law_b506 L xs k55 x4 (xs ((x4 + (1 : Int32))).toNatClampNeg) (xs ((x4 + (2 : Int32))).toNatClampNeg) (1 : Int32) μ))))
set_option maxRecDepth 16384 in
theorem yW_law_b479_ok {L : Nat} {xs : Nat → Int32} (k55 : Int32 → XMu → XRes) (hk55 : ∀ (d5 : Option Int32) (d6 : Option Int32) (x4 : Int32) (μ : XMu), XB L xs 235 55 [some (.ref 1000), some (.ref 0), some (.ref 32), some (.ref 56), some (.int x4), (xdl d5), (xdl d6)] [] μ (k55 x4 μ)) (d5 : Option Int32) (d6 : Option Int32) (x4 : Int32) (μ : XMu) : XB L xs 235 479 [some (.ref 1000), some (.ref 0), some (.ref 32), some (.ref 56), some (.int x4), (xdl d5), (xdl d6)] [] μ (yW_law_b479 L xs k55 x4 μ) := by
  unfold yW_law_b479
  refine XB.go 5 (pc' := 485) (ls' := [some (.ref 1000), some (.ref 0), some (.ref 32), some (.ref 56), some (.int x4), (xdl d5), (xdl d6)]) (st' := [(.int (x4 + (1 : Int32))), (.ref 1000), (.ref 0)]) (μ' := μ) rfl ?_
  refine XB.gd (pc' := 486) (ls' := [some (.ref 1000), some (.ref 0), some (.ref 32), some (.ref 56), some (.int x4), (xdl d5), (xdl d6)]) (st' := [(.int (xs ((x4 + (1 : Int32))).toNatClampNeg)), (.ref 0)]) (μ' := μ) rfl rfl rfl (fun hb => xbT hb) ?_
  refine XB.go 4 (pc' := 491) (ls' := [some (.ref 1000), some (.ref 0), some (.ref 32), some (.ref 56), some (.int x4), (xdl d5), (xdl d6)]) (st' := [(.int (x4 + (2 : Int32))), (.ref 1000), (.int (xs ((x4 + (1 : Int32))).toNatClampNeg)), (.ref 0)]) (μ' := μ) rfl ?_
  refine XB.gd (pc' := 492) (ls' := [some (.ref 1000), some (.ref 0), some (.ref 32), some (.ref 56), some (.int x4), (xdl d5), (xdl d6)]) (st' := [(.int (xs ((x4 + (2 : Int32))).toNatClampNeg)), (.int (xs ((x4 + (1 : Int32))).toNatClampNeg)), (.ref 0)]) (μ' := μ) rfl rfl rfl (fun hb => xbT hb) ?_
  refine XB.go 4 (pc' := 497) (ls' := [some (.ref 1000), some (.ref 0), some (.ref 32), some (.ref 56), some (.int x4), (xdl d5), (xdl d6)]) (st' := [(.int (x4 + (3 : Int32))), (.ref 1000), (.int (xs ((x4 + (2 : Int32))).toNatClampNeg)), (.int (xs ((x4 + (1 : Int32))).toNatClampNeg)), (.ref 0)]) (μ' := μ) rfl ?_
  refine XB.gd (pc' := 498) (ls' := [some (.ref 1000), some (.ref 0), some (.ref 32), some (.ref 56), some (.int x4), (xdl d5), (xdl d6)]) (st' := [(.int (xs ((x4 + (3 : Int32))).toNatClampNeg)), (.int (xs ((x4 + (2 : Int32))).toNatClampNeg)), (.int (xs ((x4 + (1 : Int32))).toNatClampNeg)), (.ref 0)]) (μ' := μ) rfl rfl rfl (fun hb => xbT hb) ?_
  refine XB.ifz (P := (xs ((x4 + (3 : Int32))).toNatClampNeg) = (0 : Int32)) rfl rfl rfl (fun c498 => ?_) (fun c498 => ?_)
  · refine XB.go 1 (pc' := 506) (ls' := [some (.ref 1000), some (.ref 0), some (.ref 32), some (.ref 56), some (.int x4), (xdl d5), (xdl d6)]) (st' := [(.int (0 : Int32)), (.int (xs ((x4 + (2 : Int32))).toNatClampNeg)), (.int (xs ((x4 + (1 : Int32))).toNatClampNeg)), (.ref 0)]) (μ' := μ) rfl ?_
    exact yW_law_b506_ok k55 hk55 (d5) (d6) x4 (xs ((x4 + (1 : Int32))).toNatClampNeg) (xs ((x4 + (2 : Int32))).toNatClampNeg) (0 : Int32) μ
  · refine XB.go 2 (pc' := 506) (ls' := [some (.ref 1000), some (.ref 0), some (.ref 32), some (.ref 56), some (.int x4), (xdl d5), (xdl d6)]) (st' := [(.int (1 : Int32)), (.int (xs ((x4 + (2 : Int32))).toNatClampNeg)), (.int (xs ((x4 + (1 : Int32))).toNatClampNeg)), (.ref 0)]) (μ' := μ) rfl ?_
    exact yW_law_b506_ok k55 hk55 (d5) (d6) x4 (xs ((x4 + (1 : Int32))).toNatClampNeg) (xs ((x4 + (2 : Int32))).toNatClampNeg) (1 : Int32) μ
set_option maxRecDepth 16384 in
def yW_law_b555 (L : Nat) (xs : Nat → Int32) (k55 : Int32 → XMu → XRes) (x4 : Int32) (μ : XMu) : XRes := xgd (xin (x4 + (1 : Int32)) L) (xgd (xin (x4 + (2 : Int32)) L) (xgd (xin (x4 + (3 : Int32)) L) (xbi (yW_entry (xs ((x4 + (1 : Int32))).toNatClampNeg) (xs ((x4 + (2 : Int32))).toNatClampNeg) (xs ((x4 + (3 : Int32))).toNatClampNeg) μ) (fun r20 m19 => xgd (xin (x4 + (1 : Int32)) L) (xgd (xin (x4 + (2 : Int32)) L) (xgd (xin (x4 + (3 : Int32)) L) (xbi (yM_entry (xs ((x4 + (1 : Int32))).toNatClampNeg) (xs ((x4 + (2 : Int32))).toNatClampNeg) (xs ((x4 + (3 : Int32))).toNatClampNeg) m19) (fun r22 m21 => (if (yM_thrown m21) = r20 then (if ¬ r20 = (0 : Int32) then yW_law_b1723 L xs k55 x4 m21 else (if (lg_cmp (m21.2.2 56 0) (r22).toInt64) = (0 : Int32) then yW_law_b1723 L xs k55 x4 m21 else some (.inl (some (.int (0 : Int32))), m21))) else some (.inl (some (.int (0 : Int32))), m21))))))))))
set_option maxRecDepth 16384 in
theorem yW_law_b555_ok {L : Nat} {xs : Nat → Int32} (k55 : Int32 → XMu → XRes) (hk55 : ∀ (d5 : Option Int32) (d6 : Option Int32) (x4 : Int32) (μ : XMu), XB L xs 235 55 [some (.ref 1000), some (.ref 0), some (.ref 32), some (.ref 56), some (.int x4), (xdl d5), (xdl d6)] [] μ (k55 x4 μ)) (d5 : Option Int32) (d6 : Option Int32) (x4 : Int32) (μ : XMu) : XB L xs 235 555 [some (.ref 1000), some (.ref 0), some (.ref 32), some (.ref 56), some (.int x4), (xdl d5), (xdl d6)] [] μ (yW_law_b555 L xs k55 x4 μ) := by
  unfold yW_law_b555
  refine XB.go 5 (pc' := 561) (ls' := [some (.ref 1000), some (.ref 0), some (.ref 32), some (.ref 56), some (.int x4), (xdl d5), (xdl d6)]) (st' := [(.int (x4 + (1 : Int32))), (.ref 1000), (.ref 0)]) (μ' := μ) rfl ?_
  refine XB.gd (pc' := 562) (ls' := [some (.ref 1000), some (.ref 0), some (.ref 32), some (.ref 56), some (.int x4), (xdl d5), (xdl d6)]) (st' := [(.int (xs ((x4 + (1 : Int32))).toNatClampNeg)), (.ref 0)]) (μ' := μ) rfl rfl rfl (fun hb => xbT hb) ?_
  refine XB.go 4 (pc' := 567) (ls' := [some (.ref 1000), some (.ref 0), some (.ref 32), some (.ref 56), some (.int x4), (xdl d5), (xdl d6)]) (st' := [(.int (x4 + (2 : Int32))), (.ref 1000), (.int (xs ((x4 + (1 : Int32))).toNatClampNeg)), (.ref 0)]) (μ' := μ) rfl ?_
  refine XB.gd (pc' := 568) (ls' := [some (.ref 1000), some (.ref 0), some (.ref 32), some (.ref 56), some (.int x4), (xdl d5), (xdl d6)]) (st' := [(.int (xs ((x4 + (2 : Int32))).toNatClampNeg)), (.int (xs ((x4 + (1 : Int32))).toNatClampNeg)), (.ref 0)]) (μ' := μ) rfl rfl rfl (fun hb => xbT hb) ?_
  refine XB.go 4 (pc' := 573) (ls' := [some (.ref 1000), some (.ref 0), some (.ref 32), some (.ref 56), some (.int x4), (xdl d5), (xdl d6)]) (st' := [(.int (x4 + (3 : Int32))), (.ref 1000), (.int (xs ((x4 + (2 : Int32))).toNatClampNeg)), (.int (xs ((x4 + (1 : Int32))).toNatClampNeg)), (.ref 0)]) (μ' := μ) rfl ?_
  refine XB.gd (pc' := 574) (ls' := [some (.ref 1000), some (.ref 0), some (.ref 32), some (.ref 56), some (.int x4), (xdl d5), (xdl d6)]) (st' := [(.int (xs ((x4 + (3 : Int32))).toNatClampNeg)), (.int (xs ((x4 + (2 : Int32))).toNatClampNeg)), (.int (xs ((x4 + (1 : Int32))).toNatClampNeg)), (.ref 0)]) (μ' := μ) rfl rfl rfl (fun hb => xbT hb) ?_
  refine XB.go 1 (pc' := 575) (ls' := [some (.ref 1000), some (.ref 0), some (.ref 32), some (.ref 56), some (.int x4), (xdl d5), (xdl d6)]) (st' := [(.ref 56), (.int (xs ((x4 + (3 : Int32))).toNatClampNeg)), (.int (xs ((x4 + (2 : Int32))).toNatClampNeg)), (.int (xs ((x4 + (1 : Int32))).toNatClampNeg)), (.ref 0)]) (μ' := μ) rfl ?_
  refine XB.ci rfl rfl rfl rfl rfl (yW_entry_ok (xs ((x4 + (1 : Int32))).toNatClampNeg) (xs ((x4 + (2 : Int32))).toNatClampNeg) (xs ((x4 + (3 : Int32))).toNatClampNeg) μ) (fun r20 m19 => ?_)
  refine XB.go 6 (pc' := 586) (ls' := [some (.ref 1000), some (.ref 0), some (.ref 32), some (.ref 56), some (.int x4), some (.int r20), (xdl d6)]) (st' := [(.int (x4 + (1 : Int32))), (.ref 1000), (.ref 32)]) (μ' := m19) rfl ?_
  refine XB.gd (pc' := 587) (ls' := [some (.ref 1000), some (.ref 0), some (.ref 32), some (.ref 56), some (.int x4), some (.int r20), (xdl d6)]) (st' := [(.int (xs ((x4 + (1 : Int32))).toNatClampNeg)), (.ref 32)]) (μ' := m19) rfl rfl rfl (fun hb => xbT hb) ?_
  refine XB.go 4 (pc' := 592) (ls' := [some (.ref 1000), some (.ref 0), some (.ref 32), some (.ref 56), some (.int x4), some (.int r20), (xdl d6)]) (st' := [(.int (x4 + (2 : Int32))), (.ref 1000), (.int (xs ((x4 + (1 : Int32))).toNatClampNeg)), (.ref 32)]) (μ' := m19) rfl ?_
  refine XB.gd (pc' := 593) (ls' := [some (.ref 1000), some (.ref 0), some (.ref 32), some (.ref 56), some (.int x4), some (.int r20), (xdl d6)]) (st' := [(.int (xs ((x4 + (2 : Int32))).toNatClampNeg)), (.int (xs ((x4 + (1 : Int32))).toNatClampNeg)), (.ref 32)]) (μ' := m19) rfl rfl rfl (fun hb => xbT hb) ?_
  refine XB.go 4 (pc' := 598) (ls' := [some (.ref 1000), some (.ref 0), some (.ref 32), some (.ref 56), some (.int x4), some (.int r20), (xdl d6)]) (st' := [(.int (x4 + (3 : Int32))), (.ref 1000), (.int (xs ((x4 + (2 : Int32))).toNatClampNeg)), (.int (xs ((x4 + (1 : Int32))).toNatClampNeg)), (.ref 32)]) (μ' := m19) rfl ?_
  refine XB.gd (pc' := 599) (ls' := [some (.ref 1000), some (.ref 0), some (.ref 32), some (.ref 56), some (.int x4), some (.int r20), (xdl d6)]) (st' := [(.int (xs ((x4 + (3 : Int32))).toNatClampNeg)), (.int (xs ((x4 + (2 : Int32))).toNatClampNeg)), (.int (xs ((x4 + (1 : Int32))).toNatClampNeg)), (.ref 32)]) (μ' := m19) rfl rfl rfl (fun hb => xbT hb) ?_
  refine XB.ci rfl rfl rfl rfl rfl (yM_entry_ok (xs ((x4 + (1 : Int32))).toNatClampNeg) (xs ((x4 + (2 : Int32))).toNatClampNeg) (xs ((x4 + (3 : Int32))).toNatClampNeg) m19) (fun r22 m21 => ?_)
  refine XB.go 2 (pc' := 605) (ls' := [some (.ref 1000), some (.ref 0), some (.ref 32), some (.ref 56), some (.int x4), some (.int r20), some (.int r22)]) (st' := [(.ref 32)]) (μ' := m21) rfl ?_
  refine XB.cp rfl rfl rfl (yM_thrown_ok m21) ?_
  refine XB.go 1 (pc' := 610) (ls' := [some (.ref 1000), some (.ref 0), some (.ref 32), some (.ref 56), some (.int x4), some (.int r20), some (.int r22)]) (st' := [(.int r20), (.int (yM_thrown m21))]) (μ' := m21) rfl ?_
  refine XB.icmp (P := (yM_thrown m21) = r20) rfl rfl rfl (fun c610 => ?_) (fun c610 => ?_)
  · refine XB.go 1 (pc' := 617) (ls' := [some (.ref 1000), some (.ref 0), some (.ref 32), some (.ref 56), some (.int x4), some (.int r20), some (.int r22)]) (st' := [(.int r20)]) (μ' := m21) rfl ?_
    refine XB.ifz (P := ¬ r20 = (0 : Int32)) rfl rfl rfl (fun c617 => ?_) (fun c617 => ?_)
    · refine XB.go 1 (pc' := 1723) (ls' := [some (.ref 1000), some (.ref 0), some (.ref 32), some (.ref 56), some (.int x4), some (.int r20), some (.int r22)]) (st' := []) (μ' := m21) rfl ?_
      exact yW_law_b1723_ok k55 hk55 (some r20) (some r22) x4 m21
    · refine XB.go 6 (pc' := 627) (ls' := [some (.ref 1000), some (.ref 0), some (.ref 32), some (.ref 56), some (.int x4), some (.int r20), some (.int r22)]) (st' := [(.int (lg_cmp (m21.2.2 56 0) (r22).toInt64))]) (μ' := m21) rfl ?_
      refine XB.ifz (P := (lg_cmp (m21.2.2 56 0) (r22).toInt64) = (0 : Int32)) rfl rfl rfl (fun c627 => ?_) (fun c627 => ?_)
      · refine XB.go 1 (pc' := 1723) (ls' := [some (.ref 1000), some (.ref 0), some (.ref 32), some (.ref 56), some (.int x4), some (.int r20), some (.int r22)]) (st' := []) (μ' := m21) rfl ?_
        exact yW_law_b1723_ok k55 hk55 (some r20) (some r22) x4 m21
      · refine XB.go 1 (pc' := 631) (ls' := [some (.ref 1000), some (.ref 0), some (.ref 32), some (.ref 56), some (.int x4), some (.int r20), some (.int r22)]) (st' := [(.int (0 : Int32))]) (μ' := m21) rfl ?_
        exact XB.fin rfl
  · refine XB.go 1 (pc' := 614) (ls' := [some (.ref 1000), some (.ref 0), some (.ref 32), some (.ref 56), some (.int x4), some (.int r20), some (.int r22)]) (st' := [(.int (0 : Int32))]) (μ' := m21) rfl ?_
    exact XB.fin rfl
set_option maxRecDepth 16384 in
def yW_law_b635 (L : Nat) (xs : Nat → Int32) (k55 : Int32 → XMu → XRes) (x4 : Int32) (μ : XMu) : XRes := xgd (xin (x4 + (1 : Int32)) L) (xgd (xin (x4 + (2 : Int32)) L) (xgd (xin (x4 + (3 : Int32)) L) (xgd (xin (x4 + (4 : Int32)) L) (xgd (xin (x4 + (5 : Int32)) L) (xgd (xin (x4 + (6 : Int32)) L) (xbi (yW_append (xs ((x4 + (1 : Int32))).toNatClampNeg) (xs ((x4 + (2 : Int32))).toNatClampNeg) (xs ((x4 + (3 : Int32))).toNatClampNeg) (xs ((x4 + (4 : Int32))).toNatClampNeg) (xs ((x4 + (5 : Int32))).toNatClampNeg) (xs ((x4 + (6 : Int32))).toNatClampNeg) μ) (fun r24 m23 => xgd (xin (x4 + (1 : Int32)) L) (xgd (xin (x4 + (2 : Int32)) L) (xgd (xin (x4 + (3 : Int32)) L) (xgd (xin (x4 + (4 : Int32)) L) (xgd (xin (x4 + (5 : Int32)) L) (xgd (xin (x4 + (6 : Int32)) L) (xbv (yM_append (xs ((x4 + (1 : Int32))).toNatClampNeg) (xs ((x4 + (2 : Int32))).toNatClampNeg) (xs ((x4 + (3 : Int32))).toNatClampNeg) (xs ((x4 + (4 : Int32))).toNatClampNeg) (xs ((x4 + (5 : Int32))).toNatClampNeg) (xs ((x4 + (6 : Int32))).toNatClampNeg) m23) (fun m25 => (if (yM_thrown m25) = r24 then yW_law_b1723 L xs k55 x4 m25 else some (.inl (some (.int (0 : Int32))), m25))))))))))))))))
set_option maxRecDepth 16384 in
theorem yW_law_b635_ok {L : Nat} {xs : Nat → Int32} (k55 : Int32 → XMu → XRes) (hk55 : ∀ (d5 : Option Int32) (d6 : Option Int32) (x4 : Int32) (μ : XMu), XB L xs 235 55 [some (.ref 1000), some (.ref 0), some (.ref 32), some (.ref 56), some (.int x4), (xdl d5), (xdl d6)] [] μ (k55 x4 μ)) (d5 : Option Int32) (d6 : Option Int32) (x4 : Int32) (μ : XMu) : XB L xs 235 635 [some (.ref 1000), some (.ref 0), some (.ref 32), some (.ref 56), some (.int x4), (xdl d5), (xdl d6)] [] μ (yW_law_b635 L xs k55 x4 μ) := by
  unfold yW_law_b635
  refine XB.go 5 (pc' := 641) (ls' := [some (.ref 1000), some (.ref 0), some (.ref 32), some (.ref 56), some (.int x4), (xdl d5), (xdl d6)]) (st' := [(.int (x4 + (1 : Int32))), (.ref 1000), (.ref 0)]) (μ' := μ) rfl ?_
  refine XB.gd (pc' := 642) (ls' := [some (.ref 1000), some (.ref 0), some (.ref 32), some (.ref 56), some (.int x4), (xdl d5), (xdl d6)]) (st' := [(.int (xs ((x4 + (1 : Int32))).toNatClampNeg)), (.ref 0)]) (μ' := μ) rfl rfl rfl (fun hb => xbT hb) ?_
  refine XB.go 4 (pc' := 647) (ls' := [some (.ref 1000), some (.ref 0), some (.ref 32), some (.ref 56), some (.int x4), (xdl d5), (xdl d6)]) (st' := [(.int (x4 + (2 : Int32))), (.ref 1000), (.int (xs ((x4 + (1 : Int32))).toNatClampNeg)), (.ref 0)]) (μ' := μ) rfl ?_
  refine XB.gd (pc' := 648) (ls' := [some (.ref 1000), some (.ref 0), some (.ref 32), some (.ref 56), some (.int x4), (xdl d5), (xdl d6)]) (st' := [(.int (xs ((x4 + (2 : Int32))).toNatClampNeg)), (.int (xs ((x4 + (1 : Int32))).toNatClampNeg)), (.ref 0)]) (μ' := μ) rfl rfl rfl (fun hb => xbT hb) ?_
  refine XB.go 4 (pc' := 653) (ls' := [some (.ref 1000), some (.ref 0), some (.ref 32), some (.ref 56), some (.int x4), (xdl d5), (xdl d6)]) (st' := [(.int (x4 + (3 : Int32))), (.ref 1000), (.int (xs ((x4 + (2 : Int32))).toNatClampNeg)), (.int (xs ((x4 + (1 : Int32))).toNatClampNeg)), (.ref 0)]) (μ' := μ) rfl ?_
  refine XB.gd (pc' := 654) (ls' := [some (.ref 1000), some (.ref 0), some (.ref 32), some (.ref 56), some (.int x4), (xdl d5), (xdl d6)]) (st' := [(.int (xs ((x4 + (3 : Int32))).toNatClampNeg)), (.int (xs ((x4 + (2 : Int32))).toNatClampNeg)), (.int (xs ((x4 + (1 : Int32))).toNatClampNeg)), (.ref 0)]) (μ' := μ) rfl rfl rfl (fun hb => xbT hb) ?_
  refine XB.go 4 (pc' := 659) (ls' := [some (.ref 1000), some (.ref 0), some (.ref 32), some (.ref 56), some (.int x4), (xdl d5), (xdl d6)]) (st' := [(.int (x4 + (4 : Int32))), (.ref 1000), (.int (xs ((x4 + (3 : Int32))).toNatClampNeg)), (.int (xs ((x4 + (2 : Int32))).toNatClampNeg)), (.int (xs ((x4 + (1 : Int32))).toNatClampNeg)), (.ref 0)]) (μ' := μ) rfl ?_
  refine XB.gd (pc' := 660) (ls' := [some (.ref 1000), some (.ref 0), some (.ref 32), some (.ref 56), some (.int x4), (xdl d5), (xdl d6)]) (st' := [(.int (xs ((x4 + (4 : Int32))).toNatClampNeg)), (.int (xs ((x4 + (3 : Int32))).toNatClampNeg)), (.int (xs ((x4 + (2 : Int32))).toNatClampNeg)), (.int (xs ((x4 + (1 : Int32))).toNatClampNeg)), (.ref 0)]) (μ' := μ) rfl rfl rfl (fun hb => xbT hb) ?_
  refine XB.go 4 (pc' := 665) (ls' := [some (.ref 1000), some (.ref 0), some (.ref 32), some (.ref 56), some (.int x4), (xdl d5), (xdl d6)]) (st' := [(.int (x4 + (5 : Int32))), (.ref 1000), (.int (xs ((x4 + (4 : Int32))).toNatClampNeg)), (.int (xs ((x4 + (3 : Int32))).toNatClampNeg)), (.int (xs ((x4 + (2 : Int32))).toNatClampNeg)), (.int (xs ((x4 + (1 : Int32))).toNatClampNeg)), (.ref 0)]) (μ' := μ) rfl ?_
  refine XB.gd (pc' := 666) (ls' := [some (.ref 1000), some (.ref 0), some (.ref 32), some (.ref 56), some (.int x4), (xdl d5), (xdl d6)]) (st' := [(.int (xs ((x4 + (5 : Int32))).toNatClampNeg)), (.int (xs ((x4 + (4 : Int32))).toNatClampNeg)), (.int (xs ((x4 + (3 : Int32))).toNatClampNeg)), (.int (xs ((x4 + (2 : Int32))).toNatClampNeg)), (.int (xs ((x4 + (1 : Int32))).toNatClampNeg)), (.ref 0)]) (μ' := μ) rfl rfl rfl (fun hb => xbT hb) ?_
  refine XB.go 4 (pc' := 672) (ls' := [some (.ref 1000), some (.ref 0), some (.ref 32), some (.ref 56), some (.int x4), (xdl d5), (xdl d6)]) (st' := [(.int (x4 + (6 : Int32))), (.ref 1000), (.int (xs ((x4 + (5 : Int32))).toNatClampNeg)), (.int (xs ((x4 + (4 : Int32))).toNatClampNeg)), (.int (xs ((x4 + (3 : Int32))).toNatClampNeg)), (.int (xs ((x4 + (2 : Int32))).toNatClampNeg)), (.int (xs ((x4 + (1 : Int32))).toNatClampNeg)), (.ref 0)]) (μ' := μ) rfl ?_
  refine XB.gd (pc' := 673) (ls' := [some (.ref 1000), some (.ref 0), some (.ref 32), some (.ref 56), some (.int x4), (xdl d5), (xdl d6)]) (st' := [(.int (xs ((x4 + (6 : Int32))).toNatClampNeg)), (.int (xs ((x4 + (5 : Int32))).toNatClampNeg)), (.int (xs ((x4 + (4 : Int32))).toNatClampNeg)), (.int (xs ((x4 + (3 : Int32))).toNatClampNeg)), (.int (xs ((x4 + (2 : Int32))).toNatClampNeg)), (.int (xs ((x4 + (1 : Int32))).toNatClampNeg)), (.ref 0)]) (μ' := μ) rfl rfl rfl (fun hb => xbT hb) ?_
  refine XB.ci rfl rfl rfl rfl rfl (yW_append_ok (xs ((x4 + (1 : Int32))).toNatClampNeg) (xs ((x4 + (2 : Int32))).toNatClampNeg) (xs ((x4 + (3 : Int32))).toNatClampNeg) (xs ((x4 + (4 : Int32))).toNatClampNeg) (xs ((x4 + (5 : Int32))).toNatClampNeg) (xs ((x4 + (6 : Int32))).toNatClampNeg) μ) (fun r24 m23 => ?_)
  refine XB.go 6 (pc' := 684) (ls' := [some (.ref 1000), some (.ref 0), some (.ref 32), some (.ref 56), some (.int x4), some (.int r24), (xdl d6)]) (st' := [(.int (x4 + (1 : Int32))), (.ref 1000), (.ref 32)]) (μ' := m23) rfl ?_
  refine XB.gd (pc' := 685) (ls' := [some (.ref 1000), some (.ref 0), some (.ref 32), some (.ref 56), some (.int x4), some (.int r24), (xdl d6)]) (st' := [(.int (xs ((x4 + (1 : Int32))).toNatClampNeg)), (.ref 32)]) (μ' := m23) rfl rfl rfl (fun hb => xbT hb) ?_
  refine XB.go 4 (pc' := 690) (ls' := [some (.ref 1000), some (.ref 0), some (.ref 32), some (.ref 56), some (.int x4), some (.int r24), (xdl d6)]) (st' := [(.int (x4 + (2 : Int32))), (.ref 1000), (.int (xs ((x4 + (1 : Int32))).toNatClampNeg)), (.ref 32)]) (μ' := m23) rfl ?_
  refine XB.gd (pc' := 691) (ls' := [some (.ref 1000), some (.ref 0), some (.ref 32), some (.ref 56), some (.int x4), some (.int r24), (xdl d6)]) (st' := [(.int (xs ((x4 + (2 : Int32))).toNatClampNeg)), (.int (xs ((x4 + (1 : Int32))).toNatClampNeg)), (.ref 32)]) (μ' := m23) rfl rfl rfl (fun hb => xbT hb) ?_
  refine XB.go 4 (pc' := 696) (ls' := [some (.ref 1000), some (.ref 0), some (.ref 32), some (.ref 56), some (.int x4), some (.int r24), (xdl d6)]) (st' := [(.int (x4 + (3 : Int32))), (.ref 1000), (.int (xs ((x4 + (2 : Int32))).toNatClampNeg)), (.int (xs ((x4 + (1 : Int32))).toNatClampNeg)), (.ref 32)]) (μ' := m23) rfl ?_
  refine XB.gd (pc' := 697) (ls' := [some (.ref 1000), some (.ref 0), some (.ref 32), some (.ref 56), some (.int x4), some (.int r24), (xdl d6)]) (st' := [(.int (xs ((x4 + (3 : Int32))).toNatClampNeg)), (.int (xs ((x4 + (2 : Int32))).toNatClampNeg)), (.int (xs ((x4 + (1 : Int32))).toNatClampNeg)), (.ref 32)]) (μ' := m23) rfl rfl rfl (fun hb => xbT hb) ?_
  refine XB.go 4 (pc' := 702) (ls' := [some (.ref 1000), some (.ref 0), some (.ref 32), some (.ref 56), some (.int x4), some (.int r24), (xdl d6)]) (st' := [(.int (x4 + (4 : Int32))), (.ref 1000), (.int (xs ((x4 + (3 : Int32))).toNatClampNeg)), (.int (xs ((x4 + (2 : Int32))).toNatClampNeg)), (.int (xs ((x4 + (1 : Int32))).toNatClampNeg)), (.ref 32)]) (μ' := m23) rfl ?_
  refine XB.gd (pc' := 703) (ls' := [some (.ref 1000), some (.ref 0), some (.ref 32), some (.ref 56), some (.int x4), some (.int r24), (xdl d6)]) (st' := [(.int (xs ((x4 + (4 : Int32))).toNatClampNeg)), (.int (xs ((x4 + (3 : Int32))).toNatClampNeg)), (.int (xs ((x4 + (2 : Int32))).toNatClampNeg)), (.int (xs ((x4 + (1 : Int32))).toNatClampNeg)), (.ref 32)]) (μ' := m23) rfl rfl rfl (fun hb => xbT hb) ?_
  refine XB.go 4 (pc' := 708) (ls' := [some (.ref 1000), some (.ref 0), some (.ref 32), some (.ref 56), some (.int x4), some (.int r24), (xdl d6)]) (st' := [(.int (x4 + (5 : Int32))), (.ref 1000), (.int (xs ((x4 + (4 : Int32))).toNatClampNeg)), (.int (xs ((x4 + (3 : Int32))).toNatClampNeg)), (.int (xs ((x4 + (2 : Int32))).toNatClampNeg)), (.int (xs ((x4 + (1 : Int32))).toNatClampNeg)), (.ref 32)]) (μ' := m23) rfl ?_
  refine XB.gd (pc' := 709) (ls' := [some (.ref 1000), some (.ref 0), some (.ref 32), some (.ref 56), some (.int x4), some (.int r24), (xdl d6)]) (st' := [(.int (xs ((x4 + (5 : Int32))).toNatClampNeg)), (.int (xs ((x4 + (4 : Int32))).toNatClampNeg)), (.int (xs ((x4 + (3 : Int32))).toNatClampNeg)), (.int (xs ((x4 + (2 : Int32))).toNatClampNeg)), (.int (xs ((x4 + (1 : Int32))).toNatClampNeg)), (.ref 32)]) (μ' := m23) rfl rfl rfl (fun hb => xbT hb) ?_
  refine XB.go 4 (pc' := 715) (ls' := [some (.ref 1000), some (.ref 0), some (.ref 32), some (.ref 56), some (.int x4), some (.int r24), (xdl d6)]) (st' := [(.int (x4 + (6 : Int32))), (.ref 1000), (.int (xs ((x4 + (5 : Int32))).toNatClampNeg)), (.int (xs ((x4 + (4 : Int32))).toNatClampNeg)), (.int (xs ((x4 + (3 : Int32))).toNatClampNeg)), (.int (xs ((x4 + (2 : Int32))).toNatClampNeg)), (.int (xs ((x4 + (1 : Int32))).toNatClampNeg)), (.ref 32)]) (μ' := m23) rfl ?_
  refine XB.gd (pc' := 716) (ls' := [some (.ref 1000), some (.ref 0), some (.ref 32), some (.ref 56), some (.int x4), some (.int r24), (xdl d6)]) (st' := [(.int (xs ((x4 + (6 : Int32))).toNatClampNeg)), (.int (xs ((x4 + (5 : Int32))).toNatClampNeg)), (.int (xs ((x4 + (4 : Int32))).toNatClampNeg)), (.int (xs ((x4 + (3 : Int32))).toNatClampNeg)), (.int (xs ((x4 + (2 : Int32))).toNatClampNeg)), (.int (xs ((x4 + (1 : Int32))).toNatClampNeg)), (.ref 32)]) (μ' := m23) rfl rfl rfl (fun hb => xbT hb) ?_
  refine XB.cv rfl rfl rfl rfl rfl (yM_append_ok (xs ((x4 + (1 : Int32))).toNatClampNeg) (xs ((x4 + (2 : Int32))).toNatClampNeg) (xs ((x4 + (3 : Int32))).toNatClampNeg) (xs ((x4 + (4 : Int32))).toNatClampNeg) (xs ((x4 + (5 : Int32))).toNatClampNeg) (xs ((x4 + (6 : Int32))).toNatClampNeg) m23) (fun m25 => ?_)
  refine XB.go 1 (pc' := 720) (ls' := [some (.ref 1000), some (.ref 0), some (.ref 32), some (.ref 56), some (.int x4), some (.int r24), (xdl d6)]) (st' := [(.ref 32)]) (μ' := m25) rfl ?_
  refine XB.cp rfl rfl rfl (yM_thrown_ok m25) ?_
  refine XB.go 1 (pc' := 725) (ls' := [some (.ref 1000), some (.ref 0), some (.ref 32), some (.ref 56), some (.int x4), some (.int r24), (xdl d6)]) (st' := [(.int r24), (.int (yM_thrown m25))]) (μ' := m25) rfl ?_
  refine XB.icmp (P := (yM_thrown m25) = r24) rfl rfl rfl (fun c725 => ?_) (fun c725 => ?_)
  · refine XB.go 1 (pc' := 1723) (ls' := [some (.ref 1000), some (.ref 0), some (.ref 32), some (.ref 56), some (.int x4), some (.int r24), (xdl d6)]) (st' := []) (μ' := m25) rfl ?_
    exact yW_law_b1723_ok k55 hk55 (some r24) (d6) x4 m25
  · refine XB.go 1 (pc' := 729) (ls' := [some (.ref 1000), some (.ref 0), some (.ref 32), some (.ref 56), some (.int x4), some (.int r24), (xdl d6)]) (st' := [(.int (0 : Int32))]) (μ' := m25) rfl ?_
    exact XB.fin rfl
set_option maxRecDepth 16384 in
def yW_law_b804 (L : Nat) (xs : Nat → Int32) (k55 : Int32 → XMu → XRes) (x4 : Int32) (x5 : Int32) (s1 : Int32) (s2 : Int32) (s3 : Int32) (μ : XMu) : XRes := xgd (xin (x4 + (4 : Int32)) L) (xgd (xin (x4 + (5 : Int32)) L) (xbv (yM_appended s1 s2 s3 (xs ((x4 + (4 : Int32))).toNatClampNeg) (xs ((x4 + (5 : Int32))).toNatClampNeg) μ) (fun m28 => (if (yM_thrown m28) = x5 then yW_law_b1723 L xs k55 x4 m28 else some (.inl (some (.int (0 : Int32))), m28)))))
set_option maxRecDepth 16384 in
theorem yW_law_b804_ok {L : Nat} {xs : Nat → Int32} (k55 : Int32 → XMu → XRes) (hk55 : ∀ (d5 : Option Int32) (d6 : Option Int32) (x4 : Int32) (μ : XMu), XB L xs 235 55 [some (.ref 1000), some (.ref 0), some (.ref 32), some (.ref 56), some (.int x4), (xdl d5), (xdl d6)] [] μ (k55 x4 μ)) (d6 : Option Int32) (x4 : Int32) (x5 : Int32) (s1 : Int32) (s2 : Int32) (s3 : Int32) (μ : XMu) : XB L xs 235 804 [some (.ref 1000), some (.ref 0), some (.ref 32), some (.ref 56), some (.int x4), some (.int x5), (xdl d6)] [(.int s3), (.int s2), (.int s1), (.ref 32)] μ (yW_law_b804 L xs k55 x4 x5 s1 s2 s3 μ) := by
  unfold yW_law_b804
  refine XB.go 4 (pc' := 809) (ls' := [some (.ref 1000), some (.ref 0), some (.ref 32), some (.ref 56), some (.int x4), some (.int x5), (xdl d6)]) (st' := [(.int (x4 + (4 : Int32))), (.ref 1000), (.int s3), (.int s2), (.int s1), (.ref 32)]) (μ' := μ) rfl ?_
  refine XB.gd (pc' := 810) (ls' := [some (.ref 1000), some (.ref 0), some (.ref 32), some (.ref 56), some (.int x4), some (.int x5), (xdl d6)]) (st' := [(.int (xs ((x4 + (4 : Int32))).toNatClampNeg)), (.int s3), (.int s2), (.int s1), (.ref 32)]) (μ' := μ) rfl rfl rfl (fun hb => xbT hb) ?_
  refine XB.go 4 (pc' := 815) (ls' := [some (.ref 1000), some (.ref 0), some (.ref 32), some (.ref 56), some (.int x4), some (.int x5), (xdl d6)]) (st' := [(.int (x4 + (5 : Int32))), (.ref 1000), (.int (xs ((x4 + (4 : Int32))).toNatClampNeg)), (.int s3), (.int s2), (.int s1), (.ref 32)]) (μ' := μ) rfl ?_
  refine XB.gd (pc' := 816) (ls' := [some (.ref 1000), some (.ref 0), some (.ref 32), some (.ref 56), some (.int x4), some (.int x5), (xdl d6)]) (st' := [(.int (xs ((x4 + (5 : Int32))).toNatClampNeg)), (.int (xs ((x4 + (4 : Int32))).toNatClampNeg)), (.int s3), (.int s2), (.int s1), (.ref 32)]) (μ' := μ) rfl rfl rfl (fun hb => xbT hb) ?_
  refine XB.cv rfl rfl rfl rfl rfl (yM_appended_ok s1 s2 s3 (xs ((x4 + (4 : Int32))).toNatClampNeg) (xs ((x4 + (5 : Int32))).toNatClampNeg) μ) (fun m28 => ?_)
  refine XB.go 1 (pc' := 820) (ls' := [some (.ref 1000), some (.ref 0), some (.ref 32), some (.ref 56), some (.int x4), some (.int x5), (xdl d6)]) (st' := [(.ref 32)]) (μ' := m28) rfl ?_
  refine XB.cp rfl rfl rfl (yM_thrown_ok m28) ?_
  refine XB.go 1 (pc' := 825) (ls' := [some (.ref 1000), some (.ref 0), some (.ref 32), some (.ref 56), some (.int x4), some (.int x5), (xdl d6)]) (st' := [(.int x5), (.int (yM_thrown m28))]) (μ' := m28) rfl ?_
  refine XB.icmp (P := (yM_thrown m28) = x5) rfl rfl rfl (fun c825 => ?_) (fun c825 => ?_)
  · refine XB.go 1 (pc' := 1723) (ls' := [some (.ref 1000), some (.ref 0), some (.ref 32), some (.ref 56), some (.int x4), some (.int x5), (xdl d6)]) (st' := []) (μ' := m28) rfl ?_
    exact yW_law_b1723_ok k55 hk55 (some x5) (d6) x4 m28
  · refine XB.go 1 (pc' := 829) (ls' := [some (.ref 1000), some (.ref 0), some (.ref 32), some (.ref 56), some (.int x4), some (.int x5), (xdl d6)]) (st' := [(.int (0 : Int32))]) (μ' := m28) rfl ?_
    exact XB.fin rfl
set_option maxRecDepth 16384 in
def yW_law_b760 (L : Nat) (xs : Nat → Int32) (k55 : Int32 → XMu → XRes) (x4 : Int32) (s1 : Int32) (s2 : Int32) (s3 : Int32) (μ : XMu) : XRes := xgd (xin (x4 + (4 : Int32)) L) (xgd (xin (x4 + (5 : Int32)) L) (xbi (yW_appended s1 s2 s3 (xs ((x4 + (4 : Int32))).toNatClampNeg) (xs ((x4 + (5 : Int32))).toNatClampNeg) μ) (fun r27 m26 => xgd (xin (x4 + (1 : Int32)) L) (xgd (xin (x4 + (2 : Int32)) L) (xgd (xin (x4 + (3 : Int32)) L) ((if (xs ((x4 + (3 : Int32))).toNatClampNeg) = (0 : Int32) then yW_law_b804 L xs k55 x4 r27 (xs ((x4 + (1 : Int32))).toNatClampNeg) (xs ((x4 + (2 : Int32))).toNatClampNeg) (0 : Int32) m26 else yW_law_b804 L xs k55 x4 r27 (xs ((x4 + (1 : Int32))).toNatClampNeg) (xs ((x4 + (2 : Int32))).toNatClampNeg) (1 : Int32) m26)))))))
set_option maxRecDepth 16384 in
theorem yW_law_b760_ok {L : Nat} {xs : Nat → Int32} (k55 : Int32 → XMu → XRes) (hk55 : ∀ (d5 : Option Int32) (d6 : Option Int32) (x4 : Int32) (μ : XMu), XB L xs 235 55 [some (.ref 1000), some (.ref 0), some (.ref 32), some (.ref 56), some (.int x4), (xdl d5), (xdl d6)] [] μ (k55 x4 μ)) (d5 : Option Int32) (d6 : Option Int32) (x4 : Int32) (s1 : Int32) (s2 : Int32) (s3 : Int32) (μ : XMu) : XB L xs 235 760 [some (.ref 1000), some (.ref 0), some (.ref 32), some (.ref 56), some (.int x4), (xdl d5), (xdl d6)] [(.int s3), (.int s2), (.int s1), (.ref 0)] μ (yW_law_b760 L xs k55 x4 s1 s2 s3 μ) := by
  unfold yW_law_b760
  refine XB.go 4 (pc' := 765) (ls' := [some (.ref 1000), some (.ref 0), some (.ref 32), some (.ref 56), some (.int x4), (xdl d5), (xdl d6)]) (st' := [(.int (x4 + (4 : Int32))), (.ref 1000), (.int s3), (.int s2), (.int s1), (.ref 0)]) (μ' := μ) rfl ?_
  refine XB.gd (pc' := 766) (ls' := [some (.ref 1000), some (.ref 0), some (.ref 32), some (.ref 56), some (.int x4), (xdl d5), (xdl d6)]) (st' := [(.int (xs ((x4 + (4 : Int32))).toNatClampNeg)), (.int s3), (.int s2), (.int s1), (.ref 0)]) (μ' := μ) rfl rfl rfl (fun hb => xbT hb) ?_
  refine XB.go 4 (pc' := 771) (ls' := [some (.ref 1000), some (.ref 0), some (.ref 32), some (.ref 56), some (.int x4), (xdl d5), (xdl d6)]) (st' := [(.int (x4 + (5 : Int32))), (.ref 1000), (.int (xs ((x4 + (4 : Int32))).toNatClampNeg)), (.int s3), (.int s2), (.int s1), (.ref 0)]) (μ' := μ) rfl ?_
  refine XB.gd (pc' := 772) (ls' := [some (.ref 1000), some (.ref 0), some (.ref 32), some (.ref 56), some (.int x4), (xdl d5), (xdl d6)]) (st' := [(.int (xs ((x4 + (5 : Int32))).toNatClampNeg)), (.int (xs ((x4 + (4 : Int32))).toNatClampNeg)), (.int s3), (.int s2), (.int s1), (.ref 0)]) (μ' := μ) rfl rfl rfl (fun hb => xbT hb) ?_
  refine XB.ci rfl rfl rfl rfl rfl (yW_appended_ok s1 s2 s3 (xs ((x4 + (4 : Int32))).toNatClampNeg) (xs ((x4 + (5 : Int32))).toNatClampNeg) μ) (fun r27 m26 => ?_)
  refine XB.go 6 (pc' := 783) (ls' := [some (.ref 1000), some (.ref 0), some (.ref 32), some (.ref 56), some (.int x4), some (.int r27), (xdl d6)]) (st' := [(.int (x4 + (1 : Int32))), (.ref 1000), (.ref 32)]) (μ' := m26) rfl ?_
  refine XB.gd (pc' := 784) (ls' := [some (.ref 1000), some (.ref 0), some (.ref 32), some (.ref 56), some (.int x4), some (.int r27), (xdl d6)]) (st' := [(.int (xs ((x4 + (1 : Int32))).toNatClampNeg)), (.ref 32)]) (μ' := m26) rfl rfl rfl (fun hb => xbT hb) ?_
  refine XB.go 4 (pc' := 789) (ls' := [some (.ref 1000), some (.ref 0), some (.ref 32), some (.ref 56), some (.int x4), some (.int r27), (xdl d6)]) (st' := [(.int (x4 + (2 : Int32))), (.ref 1000), (.int (xs ((x4 + (1 : Int32))).toNatClampNeg)), (.ref 32)]) (μ' := m26) rfl ?_
  refine XB.gd (pc' := 790) (ls' := [some (.ref 1000), some (.ref 0), some (.ref 32), some (.ref 56), some (.int x4), some (.int r27), (xdl d6)]) (st' := [(.int (xs ((x4 + (2 : Int32))).toNatClampNeg)), (.int (xs ((x4 + (1 : Int32))).toNatClampNeg)), (.ref 32)]) (μ' := m26) rfl rfl rfl (fun hb => xbT hb) ?_
  refine XB.go 4 (pc' := 795) (ls' := [some (.ref 1000), some (.ref 0), some (.ref 32), some (.ref 56), some (.int x4), some (.int r27), (xdl d6)]) (st' := [(.int (x4 + (3 : Int32))), (.ref 1000), (.int (xs ((x4 + (2 : Int32))).toNatClampNeg)), (.int (xs ((x4 + (1 : Int32))).toNatClampNeg)), (.ref 32)]) (μ' := m26) rfl ?_
  refine XB.gd (pc' := 796) (ls' := [some (.ref 1000), some (.ref 0), some (.ref 32), some (.ref 56), some (.int x4), some (.int r27), (xdl d6)]) (st' := [(.int (xs ((x4 + (3 : Int32))).toNatClampNeg)), (.int (xs ((x4 + (2 : Int32))).toNatClampNeg)), (.int (xs ((x4 + (1 : Int32))).toNatClampNeg)), (.ref 32)]) (μ' := m26) rfl rfl rfl (fun hb => xbT hb) ?_
  refine XB.ifz (P := (xs ((x4 + (3 : Int32))).toNatClampNeg) = (0 : Int32)) rfl rfl rfl (fun c796 => ?_) (fun c796 => ?_)
  · refine XB.go 1 (pc' := 804) (ls' := [some (.ref 1000), some (.ref 0), some (.ref 32), some (.ref 56), some (.int x4), some (.int r27), (xdl d6)]) (st' := [(.int (0 : Int32)), (.int (xs ((x4 + (2 : Int32))).toNatClampNeg)), (.int (xs ((x4 + (1 : Int32))).toNatClampNeg)), (.ref 32)]) (μ' := m26) rfl ?_
    exact yW_law_b804_ok k55 hk55 (d6) x4 r27 (xs ((x4 + (1 : Int32))).toNatClampNeg) (xs ((x4 + (2 : Int32))).toNatClampNeg) (0 : Int32) m26
  · refine XB.go 2 (pc' := 804) (ls' := [some (.ref 1000), some (.ref 0), some (.ref 32), some (.ref 56), some (.int x4), some (.int r27), (xdl d6)]) (st' := [(.int (1 : Int32)), (.int (xs ((x4 + (2 : Int32))).toNatClampNeg)), (.int (xs ((x4 + (1 : Int32))).toNatClampNeg)), (.ref 32)]) (μ' := m26) rfl ?_
    exact yW_law_b804_ok k55 hk55 (d6) x4 r27 (xs ((x4 + (1 : Int32))).toNatClampNeg) (xs ((x4 + (2 : Int32))).toNatClampNeg) (1 : Int32) m26
set_option maxRecDepth 16384 in
def yW_law_b733 (L : Nat) (xs : Nat → Int32) (k55 : Int32 → XMu → XRes) (x4 : Int32) (μ : XMu) : XRes := xgd (xin (x4 + (1 : Int32)) L) (xgd (xin (x4 + (2 : Int32)) L) (xgd (xin (x4 + (3 : Int32)) L) ((if (xs ((x4 + (3 : Int32))).toNatClampNeg) = (0 : Int32) then yW_law_b760 L xs k55 x4 (xs ((x4 + (1 : Int32))).toNatClampNeg) (xs ((x4 + (2 : Int32))).toNatClampNeg) (0 : Int32) μ else yW_law_b760 L xs k55 x4 (xs ((x4 + (1 : Int32))).toNatClampNeg) (xs ((x4 + (2 : Int32))).toNatClampNeg) (1 : Int32) μ))))
set_option maxRecDepth 16384 in
theorem yW_law_b733_ok {L : Nat} {xs : Nat → Int32} (k55 : Int32 → XMu → XRes) (hk55 : ∀ (d5 : Option Int32) (d6 : Option Int32) (x4 : Int32) (μ : XMu), XB L xs 235 55 [some (.ref 1000), some (.ref 0), some (.ref 32), some (.ref 56), some (.int x4), (xdl d5), (xdl d6)] [] μ (k55 x4 μ)) (d5 : Option Int32) (d6 : Option Int32) (x4 : Int32) (μ : XMu) : XB L xs 235 733 [some (.ref 1000), some (.ref 0), some (.ref 32), some (.ref 56), some (.int x4), (xdl d5), (xdl d6)] [] μ (yW_law_b733 L xs k55 x4 μ) := by
  unfold yW_law_b733
  refine XB.go 5 (pc' := 739) (ls' := [some (.ref 1000), some (.ref 0), some (.ref 32), some (.ref 56), some (.int x4), (xdl d5), (xdl d6)]) (st' := [(.int (x4 + (1 : Int32))), (.ref 1000), (.ref 0)]) (μ' := μ) rfl ?_
  refine XB.gd (pc' := 740) (ls' := [some (.ref 1000), some (.ref 0), some (.ref 32), some (.ref 56), some (.int x4), (xdl d5), (xdl d6)]) (st' := [(.int (xs ((x4 + (1 : Int32))).toNatClampNeg)), (.ref 0)]) (μ' := μ) rfl rfl rfl (fun hb => xbT hb) ?_
  refine XB.go 4 (pc' := 745) (ls' := [some (.ref 1000), some (.ref 0), some (.ref 32), some (.ref 56), some (.int x4), (xdl d5), (xdl d6)]) (st' := [(.int (x4 + (2 : Int32))), (.ref 1000), (.int (xs ((x4 + (1 : Int32))).toNatClampNeg)), (.ref 0)]) (μ' := μ) rfl ?_
  refine XB.gd (pc' := 746) (ls' := [some (.ref 1000), some (.ref 0), some (.ref 32), some (.ref 56), some (.int x4), (xdl d5), (xdl d6)]) (st' := [(.int (xs ((x4 + (2 : Int32))).toNatClampNeg)), (.int (xs ((x4 + (1 : Int32))).toNatClampNeg)), (.ref 0)]) (μ' := μ) rfl rfl rfl (fun hb => xbT hb) ?_
  refine XB.go 4 (pc' := 751) (ls' := [some (.ref 1000), some (.ref 0), some (.ref 32), some (.ref 56), some (.int x4), (xdl d5), (xdl d6)]) (st' := [(.int (x4 + (3 : Int32))), (.ref 1000), (.int (xs ((x4 + (2 : Int32))).toNatClampNeg)), (.int (xs ((x4 + (1 : Int32))).toNatClampNeg)), (.ref 0)]) (μ' := μ) rfl ?_
  refine XB.gd (pc' := 752) (ls' := [some (.ref 1000), some (.ref 0), some (.ref 32), some (.ref 56), some (.int x4), (xdl d5), (xdl d6)]) (st' := [(.int (xs ((x4 + (3 : Int32))).toNatClampNeg)), (.int (xs ((x4 + (2 : Int32))).toNatClampNeg)), (.int (xs ((x4 + (1 : Int32))).toNatClampNeg)), (.ref 0)]) (μ' := μ) rfl rfl rfl (fun hb => xbT hb) ?_
  refine XB.ifz (P := (xs ((x4 + (3 : Int32))).toNatClampNeg) = (0 : Int32)) rfl rfl rfl (fun c752 => ?_) (fun c752 => ?_)
  · refine XB.go 1 (pc' := 760) (ls' := [some (.ref 1000), some (.ref 0), some (.ref 32), some (.ref 56), some (.int x4), (xdl d5), (xdl d6)]) (st' := [(.int (0 : Int32)), (.int (xs ((x4 + (2 : Int32))).toNatClampNeg)), (.int (xs ((x4 + (1 : Int32))).toNatClampNeg)), (.ref 0)]) (μ' := μ) rfl ?_
    exact yW_law_b760_ok k55 hk55 (d5) (d6) x4 (xs ((x4 + (1 : Int32))).toNatClampNeg) (xs ((x4 + (2 : Int32))).toNatClampNeg) (0 : Int32) μ
  · refine XB.go 2 (pc' := 760) (ls' := [some (.ref 1000), some (.ref 0), some (.ref 32), some (.ref 56), some (.int x4), (xdl d5), (xdl d6)]) (st' := [(.int (1 : Int32)), (.int (xs ((x4 + (2 : Int32))).toNatClampNeg)), (.int (xs ((x4 + (1 : Int32))).toNatClampNeg)), (.ref 0)]) (μ' := μ) rfl ?_
    exact yW_law_b760_ok k55 hk55 (d5) (d6) x4 (xs ((x4 + (1 : Int32))).toNatClampNeg) (xs ((x4 + (2 : Int32))).toNatClampNeg) (1 : Int32) μ
set_option maxRecDepth 16384 in
def yW_law_b833 (L : Nat) (xs : Nat → Int32) (k55 : Int32 → XMu → XRes) (x4 : Int32) (μ : XMu) : XRes := xgd (xin (x4 + (1 : Int32)) L) (xgd (xin (x4 + (2 : Int32)) L) (xgd (xin (x4 + (3 : Int32)) L) (xgd (xin (x4 + (4 : Int32)) L) (xbi (yW_describe (xs ((x4 + (1 : Int32))).toNatClampNeg) (xs ((x4 + (2 : Int32))).toNatClampNeg) (xs ((x4 + (3 : Int32))).toNatClampNeg) (xs ((x4 + (4 : Int32))).toNatClampNeg) μ) (fun r30 m29 => xgd (xin (x4 + (1 : Int32)) L) (xgd (xin (x4 + (2 : Int32)) L) (xgd (xin (x4 + (3 : Int32)) L) (xgd (xin (x4 + (4 : Int32)) L) (xbv (yM_describe (xs ((x4 + (1 : Int32))).toNatClampNeg) (xs ((x4 + (2 : Int32))).toNatClampNeg) (xs ((x4 + (3 : Int32))).toNatClampNeg) (xs ((x4 + (4 : Int32))).toNatClampNeg) m29) (fun m31 => (if (yM_thrown m31) = r30 then yW_law_b1723 L xs k55 x4 m31 else some (.inl (some (.int (0 : Int32))), m31))))))))))))
set_option maxRecDepth 16384 in
theorem yW_law_b833_ok {L : Nat} {xs : Nat → Int32} (k55 : Int32 → XMu → XRes) (hk55 : ∀ (d5 : Option Int32) (d6 : Option Int32) (x4 : Int32) (μ : XMu), XB L xs 235 55 [some (.ref 1000), some (.ref 0), some (.ref 32), some (.ref 56), some (.int x4), (xdl d5), (xdl d6)] [] μ (k55 x4 μ)) (d5 : Option Int32) (d6 : Option Int32) (x4 : Int32) (μ : XMu) : XB L xs 235 833 [some (.ref 1000), some (.ref 0), some (.ref 32), some (.ref 56), some (.int x4), (xdl d5), (xdl d6)] [] μ (yW_law_b833 L xs k55 x4 μ) := by
  unfold yW_law_b833
  refine XB.go 5 (pc' := 839) (ls' := [some (.ref 1000), some (.ref 0), some (.ref 32), some (.ref 56), some (.int x4), (xdl d5), (xdl d6)]) (st' := [(.int (x4 + (1 : Int32))), (.ref 1000), (.ref 0)]) (μ' := μ) rfl ?_
  refine XB.gd (pc' := 840) (ls' := [some (.ref 1000), some (.ref 0), some (.ref 32), some (.ref 56), some (.int x4), (xdl d5), (xdl d6)]) (st' := [(.int (xs ((x4 + (1 : Int32))).toNatClampNeg)), (.ref 0)]) (μ' := μ) rfl rfl rfl (fun hb => xbT hb) ?_
  refine XB.go 4 (pc' := 845) (ls' := [some (.ref 1000), some (.ref 0), some (.ref 32), some (.ref 56), some (.int x4), (xdl d5), (xdl d6)]) (st' := [(.int (x4 + (2 : Int32))), (.ref 1000), (.int (xs ((x4 + (1 : Int32))).toNatClampNeg)), (.ref 0)]) (μ' := μ) rfl ?_
  refine XB.gd (pc' := 846) (ls' := [some (.ref 1000), some (.ref 0), some (.ref 32), some (.ref 56), some (.int x4), (xdl d5), (xdl d6)]) (st' := [(.int (xs ((x4 + (2 : Int32))).toNatClampNeg)), (.int (xs ((x4 + (1 : Int32))).toNatClampNeg)), (.ref 0)]) (μ' := μ) rfl rfl rfl (fun hb => xbT hb) ?_
  refine XB.go 4 (pc' := 851) (ls' := [some (.ref 1000), some (.ref 0), some (.ref 32), some (.ref 56), some (.int x4), (xdl d5), (xdl d6)]) (st' := [(.int (x4 + (3 : Int32))), (.ref 1000), (.int (xs ((x4 + (2 : Int32))).toNatClampNeg)), (.int (xs ((x4 + (1 : Int32))).toNatClampNeg)), (.ref 0)]) (μ' := μ) rfl ?_
  refine XB.gd (pc' := 852) (ls' := [some (.ref 1000), some (.ref 0), some (.ref 32), some (.ref 56), some (.int x4), (xdl d5), (xdl d6)]) (st' := [(.int (xs ((x4 + (3 : Int32))).toNatClampNeg)), (.int (xs ((x4 + (2 : Int32))).toNatClampNeg)), (.int (xs ((x4 + (1 : Int32))).toNatClampNeg)), (.ref 0)]) (μ' := μ) rfl rfl rfl (fun hb => xbT hb) ?_
  refine XB.go 4 (pc' := 857) (ls' := [some (.ref 1000), some (.ref 0), some (.ref 32), some (.ref 56), some (.int x4), (xdl d5), (xdl d6)]) (st' := [(.int (x4 + (4 : Int32))), (.ref 1000), (.int (xs ((x4 + (3 : Int32))).toNatClampNeg)), (.int (xs ((x4 + (2 : Int32))).toNatClampNeg)), (.int (xs ((x4 + (1 : Int32))).toNatClampNeg)), (.ref 0)]) (μ' := μ) rfl ?_
  refine XB.gd (pc' := 858) (ls' := [some (.ref 1000), some (.ref 0), some (.ref 32), some (.ref 56), some (.int x4), (xdl d5), (xdl d6)]) (st' := [(.int (xs ((x4 + (4 : Int32))).toNatClampNeg)), (.int (xs ((x4 + (3 : Int32))).toNatClampNeg)), (.int (xs ((x4 + (2 : Int32))).toNatClampNeg)), (.int (xs ((x4 + (1 : Int32))).toNatClampNeg)), (.ref 0)]) (μ' := μ) rfl rfl rfl (fun hb => xbT hb) ?_
  refine XB.ci rfl rfl rfl rfl rfl (yW_describe_ok (xs ((x4 + (1 : Int32))).toNatClampNeg) (xs ((x4 + (2 : Int32))).toNatClampNeg) (xs ((x4 + (3 : Int32))).toNatClampNeg) (xs ((x4 + (4 : Int32))).toNatClampNeg) μ) (fun r30 m29 => ?_)
  refine XB.go 6 (pc' := 869) (ls' := [some (.ref 1000), some (.ref 0), some (.ref 32), some (.ref 56), some (.int x4), some (.int r30), (xdl d6)]) (st' := [(.int (x4 + (1 : Int32))), (.ref 1000), (.ref 32)]) (μ' := m29) rfl ?_
  refine XB.gd (pc' := 870) (ls' := [some (.ref 1000), some (.ref 0), some (.ref 32), some (.ref 56), some (.int x4), some (.int r30), (xdl d6)]) (st' := [(.int (xs ((x4 + (1 : Int32))).toNatClampNeg)), (.ref 32)]) (μ' := m29) rfl rfl rfl (fun hb => xbT hb) ?_
  refine XB.go 4 (pc' := 875) (ls' := [some (.ref 1000), some (.ref 0), some (.ref 32), some (.ref 56), some (.int x4), some (.int r30), (xdl d6)]) (st' := [(.int (x4 + (2 : Int32))), (.ref 1000), (.int (xs ((x4 + (1 : Int32))).toNatClampNeg)), (.ref 32)]) (μ' := m29) rfl ?_
  refine XB.gd (pc' := 876) (ls' := [some (.ref 1000), some (.ref 0), some (.ref 32), some (.ref 56), some (.int x4), some (.int r30), (xdl d6)]) (st' := [(.int (xs ((x4 + (2 : Int32))).toNatClampNeg)), (.int (xs ((x4 + (1 : Int32))).toNatClampNeg)), (.ref 32)]) (μ' := m29) rfl rfl rfl (fun hb => xbT hb) ?_
  refine XB.go 4 (pc' := 881) (ls' := [some (.ref 1000), some (.ref 0), some (.ref 32), some (.ref 56), some (.int x4), some (.int r30), (xdl d6)]) (st' := [(.int (x4 + (3 : Int32))), (.ref 1000), (.int (xs ((x4 + (2 : Int32))).toNatClampNeg)), (.int (xs ((x4 + (1 : Int32))).toNatClampNeg)), (.ref 32)]) (μ' := m29) rfl ?_
  refine XB.gd (pc' := 882) (ls' := [some (.ref 1000), some (.ref 0), some (.ref 32), some (.ref 56), some (.int x4), some (.int r30), (xdl d6)]) (st' := [(.int (xs ((x4 + (3 : Int32))).toNatClampNeg)), (.int (xs ((x4 + (2 : Int32))).toNatClampNeg)), (.int (xs ((x4 + (1 : Int32))).toNatClampNeg)), (.ref 32)]) (μ' := m29) rfl rfl rfl (fun hb => xbT hb) ?_
  refine XB.go 4 (pc' := 887) (ls' := [some (.ref 1000), some (.ref 0), some (.ref 32), some (.ref 56), some (.int x4), some (.int r30), (xdl d6)]) (st' := [(.int (x4 + (4 : Int32))), (.ref 1000), (.int (xs ((x4 + (3 : Int32))).toNatClampNeg)), (.int (xs ((x4 + (2 : Int32))).toNatClampNeg)), (.int (xs ((x4 + (1 : Int32))).toNatClampNeg)), (.ref 32)]) (μ' := m29) rfl ?_
  refine XB.gd (pc' := 888) (ls' := [some (.ref 1000), some (.ref 0), some (.ref 32), some (.ref 56), some (.int x4), some (.int r30), (xdl d6)]) (st' := [(.int (xs ((x4 + (4 : Int32))).toNatClampNeg)), (.int (xs ((x4 + (3 : Int32))).toNatClampNeg)), (.int (xs ((x4 + (2 : Int32))).toNatClampNeg)), (.int (xs ((x4 + (1 : Int32))).toNatClampNeg)), (.ref 32)]) (μ' := m29) rfl rfl rfl (fun hb => xbT hb) ?_
  refine XB.cv rfl rfl rfl rfl rfl (yM_describe_ok (xs ((x4 + (1 : Int32))).toNatClampNeg) (xs ((x4 + (2 : Int32))).toNatClampNeg) (xs ((x4 + (3 : Int32))).toNatClampNeg) (xs ((x4 + (4 : Int32))).toNatClampNeg) m29) (fun m31 => ?_)
  refine XB.go 1 (pc' := 892) (ls' := [some (.ref 1000), some (.ref 0), some (.ref 32), some (.ref 56), some (.int x4), some (.int r30), (xdl d6)]) (st' := [(.ref 32)]) (μ' := m31) rfl ?_
  refine XB.cp rfl rfl rfl (yM_thrown_ok m31) ?_
  refine XB.go 1 (pc' := 897) (ls' := [some (.ref 1000), some (.ref 0), some (.ref 32), some (.ref 56), some (.int x4), some (.int r30), (xdl d6)]) (st' := [(.int r30), (.int (yM_thrown m31))]) (μ' := m31) rfl ?_
  refine XB.icmp (P := (yM_thrown m31) = r30) rfl rfl rfl (fun c897 => ?_) (fun c897 => ?_)
  · refine XB.go 1 (pc' := 1723) (ls' := [some (.ref 1000), some (.ref 0), some (.ref 32), some (.ref 56), some (.int x4), some (.int r30), (xdl d6)]) (st' := []) (μ' := m31) rfl ?_
    exact yW_law_b1723_ok k55 hk55 (some r30) (d6) x4 m31
  · refine XB.go 1 (pc' := 901) (ls' := [some (.ref 1000), some (.ref 0), some (.ref 32), some (.ref 56), some (.int x4), some (.int r30), (xdl d6)]) (st' := [(.int (0 : Int32))]) (μ' := m31) rfl ?_
    exact XB.fin rfl
set_option maxRecDepth 16384 in
def yW_law_b905 (L : Nat) (xs : Nat → Int32) (k55 : Int32 → XMu → XRes) (x4 : Int32) (μ : XMu) : XRes := xgd (xin (x4 + (1 : Int32)) L) (xgd (xin (x4 + (2 : Int32)) L) (xgd (xin (x4 + (3 : Int32)) L) (xgd (xin (x4 + (4 : Int32)) L) (xgd (xin (x4 + (5 : Int32)) L) (xbi (yW_piece (xs ((x4 + (1 : Int32))).toNatClampNeg) (xs ((x4 + (2 : Int32))).toNatClampNeg) (xs ((x4 + (3 : Int32))).toNatClampNeg) (xs ((x4 + (4 : Int32))).toNatClampNeg) (xs ((x4 + (5 : Int32))).toNatClampNeg) μ) (fun r33 m32 => xgd (xin (x4 + (1 : Int32)) L) (xgd (xin (x4 + (2 : Int32)) L) (xgd (xin (x4 + (3 : Int32)) L) (xgd (xin (x4 + (4 : Int32)) L) (xgd (xin (x4 + (5 : Int32)) L) (xbv (yM_piece (xs ((x4 + (1 : Int32))).toNatClampNeg) (xs ((x4 + (2 : Int32))).toNatClampNeg) (xs ((x4 + (3 : Int32))).toNatClampNeg) (xs ((x4 + (4 : Int32))).toNatClampNeg) (xs ((x4 + (5 : Int32))).toNatClampNeg) m32) (fun m34 => (if (yM_thrown m34) = r33 then yW_law_b1723 L xs k55 x4 m34 else some (.inl (some (.int (0 : Int32))), m34))))))))))))))
set_option maxRecDepth 16384 in
theorem yW_law_b905_ok {L : Nat} {xs : Nat → Int32} (k55 : Int32 → XMu → XRes) (hk55 : ∀ (d5 : Option Int32) (d6 : Option Int32) (x4 : Int32) (μ : XMu), XB L xs 235 55 [some (.ref 1000), some (.ref 0), some (.ref 32), some (.ref 56), some (.int x4), (xdl d5), (xdl d6)] [] μ (k55 x4 μ)) (d5 : Option Int32) (d6 : Option Int32) (x4 : Int32) (μ : XMu) : XB L xs 235 905 [some (.ref 1000), some (.ref 0), some (.ref 32), some (.ref 56), some (.int x4), (xdl d5), (xdl d6)] [] μ (yW_law_b905 L xs k55 x4 μ) := by
  unfold yW_law_b905
  refine XB.go 5 (pc' := 911) (ls' := [some (.ref 1000), some (.ref 0), some (.ref 32), some (.ref 56), some (.int x4), (xdl d5), (xdl d6)]) (st' := [(.int (x4 + (1 : Int32))), (.ref 1000), (.ref 0)]) (μ' := μ) rfl ?_
  refine XB.gd (pc' := 912) (ls' := [some (.ref 1000), some (.ref 0), some (.ref 32), some (.ref 56), some (.int x4), (xdl d5), (xdl d6)]) (st' := [(.int (xs ((x4 + (1 : Int32))).toNatClampNeg)), (.ref 0)]) (μ' := μ) rfl rfl rfl (fun hb => xbT hb) ?_
  refine XB.go 4 (pc' := 917) (ls' := [some (.ref 1000), some (.ref 0), some (.ref 32), some (.ref 56), some (.int x4), (xdl d5), (xdl d6)]) (st' := [(.int (x4 + (2 : Int32))), (.ref 1000), (.int (xs ((x4 + (1 : Int32))).toNatClampNeg)), (.ref 0)]) (μ' := μ) rfl ?_
  refine XB.gd (pc' := 918) (ls' := [some (.ref 1000), some (.ref 0), some (.ref 32), some (.ref 56), some (.int x4), (xdl d5), (xdl d6)]) (st' := [(.int (xs ((x4 + (2 : Int32))).toNatClampNeg)), (.int (xs ((x4 + (1 : Int32))).toNatClampNeg)), (.ref 0)]) (μ' := μ) rfl rfl rfl (fun hb => xbT hb) ?_
  refine XB.go 4 (pc' := 923) (ls' := [some (.ref 1000), some (.ref 0), some (.ref 32), some (.ref 56), some (.int x4), (xdl d5), (xdl d6)]) (st' := [(.int (x4 + (3 : Int32))), (.ref 1000), (.int (xs ((x4 + (2 : Int32))).toNatClampNeg)), (.int (xs ((x4 + (1 : Int32))).toNatClampNeg)), (.ref 0)]) (μ' := μ) rfl ?_
  refine XB.gd (pc' := 924) (ls' := [some (.ref 1000), some (.ref 0), some (.ref 32), some (.ref 56), some (.int x4), (xdl d5), (xdl d6)]) (st' := [(.int (xs ((x4 + (3 : Int32))).toNatClampNeg)), (.int (xs ((x4 + (2 : Int32))).toNatClampNeg)), (.int (xs ((x4 + (1 : Int32))).toNatClampNeg)), (.ref 0)]) (μ' := μ) rfl rfl rfl (fun hb => xbT hb) ?_
  refine XB.go 4 (pc' := 929) (ls' := [some (.ref 1000), some (.ref 0), some (.ref 32), some (.ref 56), some (.int x4), (xdl d5), (xdl d6)]) (st' := [(.int (x4 + (4 : Int32))), (.ref 1000), (.int (xs ((x4 + (3 : Int32))).toNatClampNeg)), (.int (xs ((x4 + (2 : Int32))).toNatClampNeg)), (.int (xs ((x4 + (1 : Int32))).toNatClampNeg)), (.ref 0)]) (μ' := μ) rfl ?_
  refine XB.gd (pc' := 930) (ls' := [some (.ref 1000), some (.ref 0), some (.ref 32), some (.ref 56), some (.int x4), (xdl d5), (xdl d6)]) (st' := [(.int (xs ((x4 + (4 : Int32))).toNatClampNeg)), (.int (xs ((x4 + (3 : Int32))).toNatClampNeg)), (.int (xs ((x4 + (2 : Int32))).toNatClampNeg)), (.int (xs ((x4 + (1 : Int32))).toNatClampNeg)), (.ref 0)]) (μ' := μ) rfl rfl rfl (fun hb => xbT hb) ?_
  refine XB.go 4 (pc' := 935) (ls' := [some (.ref 1000), some (.ref 0), some (.ref 32), some (.ref 56), some (.int x4), (xdl d5), (xdl d6)]) (st' := [(.int (x4 + (5 : Int32))), (.ref 1000), (.int (xs ((x4 + (4 : Int32))).toNatClampNeg)), (.int (xs ((x4 + (3 : Int32))).toNatClampNeg)), (.int (xs ((x4 + (2 : Int32))).toNatClampNeg)), (.int (xs ((x4 + (1 : Int32))).toNatClampNeg)), (.ref 0)]) (μ' := μ) rfl ?_
  refine XB.gd (pc' := 936) (ls' := [some (.ref 1000), some (.ref 0), some (.ref 32), some (.ref 56), some (.int x4), (xdl d5), (xdl d6)]) (st' := [(.int (xs ((x4 + (5 : Int32))).toNatClampNeg)), (.int (xs ((x4 + (4 : Int32))).toNatClampNeg)), (.int (xs ((x4 + (3 : Int32))).toNatClampNeg)), (.int (xs ((x4 + (2 : Int32))).toNatClampNeg)), (.int (xs ((x4 + (1 : Int32))).toNatClampNeg)), (.ref 0)]) (μ' := μ) rfl rfl rfl (fun hb => xbT hb) ?_
  refine XB.ci rfl rfl rfl rfl rfl (yW_piece_ok (xs ((x4 + (1 : Int32))).toNatClampNeg) (xs ((x4 + (2 : Int32))).toNatClampNeg) (xs ((x4 + (3 : Int32))).toNatClampNeg) (xs ((x4 + (4 : Int32))).toNatClampNeg) (xs ((x4 + (5 : Int32))).toNatClampNeg) μ) (fun r33 m32 => ?_)
  refine XB.go 6 (pc' := 947) (ls' := [some (.ref 1000), some (.ref 0), some (.ref 32), some (.ref 56), some (.int x4), some (.int r33), (xdl d6)]) (st' := [(.int (x4 + (1 : Int32))), (.ref 1000), (.ref 32)]) (μ' := m32) rfl ?_
  refine XB.gd (pc' := 948) (ls' := [some (.ref 1000), some (.ref 0), some (.ref 32), some (.ref 56), some (.int x4), some (.int r33), (xdl d6)]) (st' := [(.int (xs ((x4 + (1 : Int32))).toNatClampNeg)), (.ref 32)]) (μ' := m32) rfl rfl rfl (fun hb => xbT hb) ?_
  refine XB.go 4 (pc' := 953) (ls' := [some (.ref 1000), some (.ref 0), some (.ref 32), some (.ref 56), some (.int x4), some (.int r33), (xdl d6)]) (st' := [(.int (x4 + (2 : Int32))), (.ref 1000), (.int (xs ((x4 + (1 : Int32))).toNatClampNeg)), (.ref 32)]) (μ' := m32) rfl ?_
  refine XB.gd (pc' := 954) (ls' := [some (.ref 1000), some (.ref 0), some (.ref 32), some (.ref 56), some (.int x4), some (.int r33), (xdl d6)]) (st' := [(.int (xs ((x4 + (2 : Int32))).toNatClampNeg)), (.int (xs ((x4 + (1 : Int32))).toNatClampNeg)), (.ref 32)]) (μ' := m32) rfl rfl rfl (fun hb => xbT hb) ?_
  refine XB.go 4 (pc' := 959) (ls' := [some (.ref 1000), some (.ref 0), some (.ref 32), some (.ref 56), some (.int x4), some (.int r33), (xdl d6)]) (st' := [(.int (x4 + (3 : Int32))), (.ref 1000), (.int (xs ((x4 + (2 : Int32))).toNatClampNeg)), (.int (xs ((x4 + (1 : Int32))).toNatClampNeg)), (.ref 32)]) (μ' := m32) rfl ?_
  refine XB.gd (pc' := 960) (ls' := [some (.ref 1000), some (.ref 0), some (.ref 32), some (.ref 56), some (.int x4), some (.int r33), (xdl d6)]) (st' := [(.int (xs ((x4 + (3 : Int32))).toNatClampNeg)), (.int (xs ((x4 + (2 : Int32))).toNatClampNeg)), (.int (xs ((x4 + (1 : Int32))).toNatClampNeg)), (.ref 32)]) (μ' := m32) rfl rfl rfl (fun hb => xbT hb) ?_
  refine XB.go 4 (pc' := 965) (ls' := [some (.ref 1000), some (.ref 0), some (.ref 32), some (.ref 56), some (.int x4), some (.int r33), (xdl d6)]) (st' := [(.int (x4 + (4 : Int32))), (.ref 1000), (.int (xs ((x4 + (3 : Int32))).toNatClampNeg)), (.int (xs ((x4 + (2 : Int32))).toNatClampNeg)), (.int (xs ((x4 + (1 : Int32))).toNatClampNeg)), (.ref 32)]) (μ' := m32) rfl ?_
  refine XB.gd (pc' := 966) (ls' := [some (.ref 1000), some (.ref 0), some (.ref 32), some (.ref 56), some (.int x4), some (.int r33), (xdl d6)]) (st' := [(.int (xs ((x4 + (4 : Int32))).toNatClampNeg)), (.int (xs ((x4 + (3 : Int32))).toNatClampNeg)), (.int (xs ((x4 + (2 : Int32))).toNatClampNeg)), (.int (xs ((x4 + (1 : Int32))).toNatClampNeg)), (.ref 32)]) (μ' := m32) rfl rfl rfl (fun hb => xbT hb) ?_
  refine XB.go 4 (pc' := 971) (ls' := [some (.ref 1000), some (.ref 0), some (.ref 32), some (.ref 56), some (.int x4), some (.int r33), (xdl d6)]) (st' := [(.int (x4 + (5 : Int32))), (.ref 1000), (.int (xs ((x4 + (4 : Int32))).toNatClampNeg)), (.int (xs ((x4 + (3 : Int32))).toNatClampNeg)), (.int (xs ((x4 + (2 : Int32))).toNatClampNeg)), (.int (xs ((x4 + (1 : Int32))).toNatClampNeg)), (.ref 32)]) (μ' := m32) rfl ?_
  refine XB.gd (pc' := 972) (ls' := [some (.ref 1000), some (.ref 0), some (.ref 32), some (.ref 56), some (.int x4), some (.int r33), (xdl d6)]) (st' := [(.int (xs ((x4 + (5 : Int32))).toNatClampNeg)), (.int (xs ((x4 + (4 : Int32))).toNatClampNeg)), (.int (xs ((x4 + (3 : Int32))).toNatClampNeg)), (.int (xs ((x4 + (2 : Int32))).toNatClampNeg)), (.int (xs ((x4 + (1 : Int32))).toNatClampNeg)), (.ref 32)]) (μ' := m32) rfl rfl rfl (fun hb => xbT hb) ?_
  refine XB.cv rfl rfl rfl rfl rfl (yM_piece_ok (xs ((x4 + (1 : Int32))).toNatClampNeg) (xs ((x4 + (2 : Int32))).toNatClampNeg) (xs ((x4 + (3 : Int32))).toNatClampNeg) (xs ((x4 + (4 : Int32))).toNatClampNeg) (xs ((x4 + (5 : Int32))).toNatClampNeg) m32) (fun m34 => ?_)
  refine XB.go 1 (pc' := 976) (ls' := [some (.ref 1000), some (.ref 0), some (.ref 32), some (.ref 56), some (.int x4), some (.int r33), (xdl d6)]) (st' := [(.ref 32)]) (μ' := m34) rfl ?_
  refine XB.cp rfl rfl rfl (yM_thrown_ok m34) ?_
  refine XB.go 1 (pc' := 981) (ls' := [some (.ref 1000), some (.ref 0), some (.ref 32), some (.ref 56), some (.int x4), some (.int r33), (xdl d6)]) (st' := [(.int r33), (.int (yM_thrown m34))]) (μ' := m34) rfl ?_
  refine XB.icmp (P := (yM_thrown m34) = r33) rfl rfl rfl (fun c981 => ?_) (fun c981 => ?_)
  · refine XB.go 1 (pc' := 1723) (ls' := [some (.ref 1000), some (.ref 0), some (.ref 32), some (.ref 56), some (.int x4), some (.int r33), (xdl d6)]) (st' := []) (μ' := m34) rfl ?_
    exact yW_law_b1723_ok k55 hk55 (some r33) (d6) x4 m34
  · refine XB.go 1 (pc' := 985) (ls' := [some (.ref 1000), some (.ref 0), some (.ref 32), some (.ref 56), some (.int x4), some (.int r33), (xdl d6)]) (st' := [(.int (0 : Int32))]) (μ' := m34) rfl ?_
    exact XB.fin rfl
set_option maxRecDepth 16384 in
def yW_law_b989 (L : Nat) (xs : Nat → Int32) (k55 : Int32 → XMu → XRes) (x4 : Int32) (μ : XMu) : XRes := xgd (xin (x4 + (1 : Int32)) L) (xgd (xin (x4 + (2 : Int32)) L) (xgd (xin (x4 + (3 : Int32)) L) (xgd (xin (x4 + (4 : Int32)) L) (xgd (xin (x4 + (5 : Int32)) L) (xbi (yW_stored (xs ((x4 + (1 : Int32))).toNatClampNeg) (xs ((x4 + (2 : Int32))).toNatClampNeg) (xs ((x4 + (3 : Int32))).toNatClampNeg) (xs ((x4 + (4 : Int32))).toNatClampNeg) (xs ((x4 + (5 : Int32))).toNatClampNeg) μ) (fun r36 m35 => xgd (xin (x4 + (1 : Int32)) L) (xgd (xin (x4 + (2 : Int32)) L) (xgd (xin (x4 + (3 : Int32)) L) (xgd (xin (x4 + (4 : Int32)) L) (xgd (xin (x4 + (5 : Int32)) L) (xbv (yM_stored (xs ((x4 + (1 : Int32))).toNatClampNeg) (xs ((x4 + (2 : Int32))).toNatClampNeg) (xs ((x4 + (3 : Int32))).toNatClampNeg) (xs ((x4 + (4 : Int32))).toNatClampNeg) (xs ((x4 + (5 : Int32))).toNatClampNeg) m35) (fun m37 => (if (yM_thrown m37) = r36 then yW_law_b1723 L xs k55 x4 m37 else some (.inl (some (.int (0 : Int32))), m37))))))))))))))
set_option maxRecDepth 16384 in
theorem yW_law_b989_ok {L : Nat} {xs : Nat → Int32} (k55 : Int32 → XMu → XRes) (hk55 : ∀ (d5 : Option Int32) (d6 : Option Int32) (x4 : Int32) (μ : XMu), XB L xs 235 55 [some (.ref 1000), some (.ref 0), some (.ref 32), some (.ref 56), some (.int x4), (xdl d5), (xdl d6)] [] μ (k55 x4 μ)) (d5 : Option Int32) (d6 : Option Int32) (x4 : Int32) (μ : XMu) : XB L xs 235 989 [some (.ref 1000), some (.ref 0), some (.ref 32), some (.ref 56), some (.int x4), (xdl d5), (xdl d6)] [] μ (yW_law_b989 L xs k55 x4 μ) := by
  unfold yW_law_b989
  refine XB.go 5 (pc' := 995) (ls' := [some (.ref 1000), some (.ref 0), some (.ref 32), some (.ref 56), some (.int x4), (xdl d5), (xdl d6)]) (st' := [(.int (x4 + (1 : Int32))), (.ref 1000), (.ref 0)]) (μ' := μ) rfl ?_
  refine XB.gd (pc' := 996) (ls' := [some (.ref 1000), some (.ref 0), some (.ref 32), some (.ref 56), some (.int x4), (xdl d5), (xdl d6)]) (st' := [(.int (xs ((x4 + (1 : Int32))).toNatClampNeg)), (.ref 0)]) (μ' := μ) rfl rfl rfl (fun hb => xbT hb) ?_
  refine XB.go 4 (pc' := 1001) (ls' := [some (.ref 1000), some (.ref 0), some (.ref 32), some (.ref 56), some (.int x4), (xdl d5), (xdl d6)]) (st' := [(.int (x4 + (2 : Int32))), (.ref 1000), (.int (xs ((x4 + (1 : Int32))).toNatClampNeg)), (.ref 0)]) (μ' := μ) rfl ?_
  refine XB.gd (pc' := 1002) (ls' := [some (.ref 1000), some (.ref 0), some (.ref 32), some (.ref 56), some (.int x4), (xdl d5), (xdl d6)]) (st' := [(.int (xs ((x4 + (2 : Int32))).toNatClampNeg)), (.int (xs ((x4 + (1 : Int32))).toNatClampNeg)), (.ref 0)]) (μ' := μ) rfl rfl rfl (fun hb => xbT hb) ?_
  refine XB.go 4 (pc' := 1007) (ls' := [some (.ref 1000), some (.ref 0), some (.ref 32), some (.ref 56), some (.int x4), (xdl d5), (xdl d6)]) (st' := [(.int (x4 + (3 : Int32))), (.ref 1000), (.int (xs ((x4 + (2 : Int32))).toNatClampNeg)), (.int (xs ((x4 + (1 : Int32))).toNatClampNeg)), (.ref 0)]) (μ' := μ) rfl ?_
  refine XB.gd (pc' := 1008) (ls' := [some (.ref 1000), some (.ref 0), some (.ref 32), some (.ref 56), some (.int x4), (xdl d5), (xdl d6)]) (st' := [(.int (xs ((x4 + (3 : Int32))).toNatClampNeg)), (.int (xs ((x4 + (2 : Int32))).toNatClampNeg)), (.int (xs ((x4 + (1 : Int32))).toNatClampNeg)), (.ref 0)]) (μ' := μ) rfl rfl rfl (fun hb => xbT hb) ?_
  refine XB.go 4 (pc' := 1013) (ls' := [some (.ref 1000), some (.ref 0), some (.ref 32), some (.ref 56), some (.int x4), (xdl d5), (xdl d6)]) (st' := [(.int (x4 + (4 : Int32))), (.ref 1000), (.int (xs ((x4 + (3 : Int32))).toNatClampNeg)), (.int (xs ((x4 + (2 : Int32))).toNatClampNeg)), (.int (xs ((x4 + (1 : Int32))).toNatClampNeg)), (.ref 0)]) (μ' := μ) rfl ?_
  refine XB.gd (pc' := 1014) (ls' := [some (.ref 1000), some (.ref 0), some (.ref 32), some (.ref 56), some (.int x4), (xdl d5), (xdl d6)]) (st' := [(.int (xs ((x4 + (4 : Int32))).toNatClampNeg)), (.int (xs ((x4 + (3 : Int32))).toNatClampNeg)), (.int (xs ((x4 + (2 : Int32))).toNatClampNeg)), (.int (xs ((x4 + (1 : Int32))).toNatClampNeg)), (.ref 0)]) (μ' := μ) rfl rfl rfl (fun hb => xbT hb) ?_
  refine XB.go 4 (pc' := 1019) (ls' := [some (.ref 1000), some (.ref 0), some (.ref 32), some (.ref 56), some (.int x4), (xdl d5), (xdl d6)]) (st' := [(.int (x4 + (5 : Int32))), (.ref 1000), (.int (xs ((x4 + (4 : Int32))).toNatClampNeg)), (.int (xs ((x4 + (3 : Int32))).toNatClampNeg)), (.int (xs ((x4 + (2 : Int32))).toNatClampNeg)), (.int (xs ((x4 + (1 : Int32))).toNatClampNeg)), (.ref 0)]) (μ' := μ) rfl ?_
  refine XB.gd (pc' := 1020) (ls' := [some (.ref 1000), some (.ref 0), some (.ref 32), some (.ref 56), some (.int x4), (xdl d5), (xdl d6)]) (st' := [(.int (xs ((x4 + (5 : Int32))).toNatClampNeg)), (.int (xs ((x4 + (4 : Int32))).toNatClampNeg)), (.int (xs ((x4 + (3 : Int32))).toNatClampNeg)), (.int (xs ((x4 + (2 : Int32))).toNatClampNeg)), (.int (xs ((x4 + (1 : Int32))).toNatClampNeg)), (.ref 0)]) (μ' := μ) rfl rfl rfl (fun hb => xbT hb) ?_
  refine XB.ci rfl rfl rfl rfl rfl (yW_stored_ok (xs ((x4 + (1 : Int32))).toNatClampNeg) (xs ((x4 + (2 : Int32))).toNatClampNeg) (xs ((x4 + (3 : Int32))).toNatClampNeg) (xs ((x4 + (4 : Int32))).toNatClampNeg) (xs ((x4 + (5 : Int32))).toNatClampNeg) μ) (fun r36 m35 => ?_)
  refine XB.go 6 (pc' := 1031) (ls' := [some (.ref 1000), some (.ref 0), some (.ref 32), some (.ref 56), some (.int x4), some (.int r36), (xdl d6)]) (st' := [(.int (x4 + (1 : Int32))), (.ref 1000), (.ref 32)]) (μ' := m35) rfl ?_
  refine XB.gd (pc' := 1032) (ls' := [some (.ref 1000), some (.ref 0), some (.ref 32), some (.ref 56), some (.int x4), some (.int r36), (xdl d6)]) (st' := [(.int (xs ((x4 + (1 : Int32))).toNatClampNeg)), (.ref 32)]) (μ' := m35) rfl rfl rfl (fun hb => xbT hb) ?_
  refine XB.go 4 (pc' := 1037) (ls' := [some (.ref 1000), some (.ref 0), some (.ref 32), some (.ref 56), some (.int x4), some (.int r36), (xdl d6)]) (st' := [(.int (x4 + (2 : Int32))), (.ref 1000), (.int (xs ((x4 + (1 : Int32))).toNatClampNeg)), (.ref 32)]) (μ' := m35) rfl ?_
  refine XB.gd (pc' := 1038) (ls' := [some (.ref 1000), some (.ref 0), some (.ref 32), some (.ref 56), some (.int x4), some (.int r36), (xdl d6)]) (st' := [(.int (xs ((x4 + (2 : Int32))).toNatClampNeg)), (.int (xs ((x4 + (1 : Int32))).toNatClampNeg)), (.ref 32)]) (μ' := m35) rfl rfl rfl (fun hb => xbT hb) ?_
  refine XB.go 4 (pc' := 1043) (ls' := [some (.ref 1000), some (.ref 0), some (.ref 32), some (.ref 56), some (.int x4), some (.int r36), (xdl d6)]) (st' := [(.int (x4 + (3 : Int32))), (.ref 1000), (.int (xs ((x4 + (2 : Int32))).toNatClampNeg)), (.int (xs ((x4 + (1 : Int32))).toNatClampNeg)), (.ref 32)]) (μ' := m35) rfl ?_
  refine XB.gd (pc' := 1044) (ls' := [some (.ref 1000), some (.ref 0), some (.ref 32), some (.ref 56), some (.int x4), some (.int r36), (xdl d6)]) (st' := [(.int (xs ((x4 + (3 : Int32))).toNatClampNeg)), (.int (xs ((x4 + (2 : Int32))).toNatClampNeg)), (.int (xs ((x4 + (1 : Int32))).toNatClampNeg)), (.ref 32)]) (μ' := m35) rfl rfl rfl (fun hb => xbT hb) ?_
  refine XB.go 4 (pc' := 1049) (ls' := [some (.ref 1000), some (.ref 0), some (.ref 32), some (.ref 56), some (.int x4), some (.int r36), (xdl d6)]) (st' := [(.int (x4 + (4 : Int32))), (.ref 1000), (.int (xs ((x4 + (3 : Int32))).toNatClampNeg)), (.int (xs ((x4 + (2 : Int32))).toNatClampNeg)), (.int (xs ((x4 + (1 : Int32))).toNatClampNeg)), (.ref 32)]) (μ' := m35) rfl ?_
  refine XB.gd (pc' := 1050) (ls' := [some (.ref 1000), some (.ref 0), some (.ref 32), some (.ref 56), some (.int x4), some (.int r36), (xdl d6)]) (st' := [(.int (xs ((x4 + (4 : Int32))).toNatClampNeg)), (.int (xs ((x4 + (3 : Int32))).toNatClampNeg)), (.int (xs ((x4 + (2 : Int32))).toNatClampNeg)), (.int (xs ((x4 + (1 : Int32))).toNatClampNeg)), (.ref 32)]) (μ' := m35) rfl rfl rfl (fun hb => xbT hb) ?_
  refine XB.go 4 (pc' := 1055) (ls' := [some (.ref 1000), some (.ref 0), some (.ref 32), some (.ref 56), some (.int x4), some (.int r36), (xdl d6)]) (st' := [(.int (x4 + (5 : Int32))), (.ref 1000), (.int (xs ((x4 + (4 : Int32))).toNatClampNeg)), (.int (xs ((x4 + (3 : Int32))).toNatClampNeg)), (.int (xs ((x4 + (2 : Int32))).toNatClampNeg)), (.int (xs ((x4 + (1 : Int32))).toNatClampNeg)), (.ref 32)]) (μ' := m35) rfl ?_
  refine XB.gd (pc' := 1056) (ls' := [some (.ref 1000), some (.ref 0), some (.ref 32), some (.ref 56), some (.int x4), some (.int r36), (xdl d6)]) (st' := [(.int (xs ((x4 + (5 : Int32))).toNatClampNeg)), (.int (xs ((x4 + (4 : Int32))).toNatClampNeg)), (.int (xs ((x4 + (3 : Int32))).toNatClampNeg)), (.int (xs ((x4 + (2 : Int32))).toNatClampNeg)), (.int (xs ((x4 + (1 : Int32))).toNatClampNeg)), (.ref 32)]) (μ' := m35) rfl rfl rfl (fun hb => xbT hb) ?_
  refine XB.cv rfl rfl rfl rfl rfl (yM_stored_ok (xs ((x4 + (1 : Int32))).toNatClampNeg) (xs ((x4 + (2 : Int32))).toNatClampNeg) (xs ((x4 + (3 : Int32))).toNatClampNeg) (xs ((x4 + (4 : Int32))).toNatClampNeg) (xs ((x4 + (5 : Int32))).toNatClampNeg) m35) (fun m37 => ?_)
  refine XB.go 1 (pc' := 1060) (ls' := [some (.ref 1000), some (.ref 0), some (.ref 32), some (.ref 56), some (.int x4), some (.int r36), (xdl d6)]) (st' := [(.ref 32)]) (μ' := m37) rfl ?_
  refine XB.cp rfl rfl rfl (yM_thrown_ok m37) ?_
  refine XB.go 1 (pc' := 1065) (ls' := [some (.ref 1000), some (.ref 0), some (.ref 32), some (.ref 56), some (.int x4), some (.int r36), (xdl d6)]) (st' := [(.int r36), (.int (yM_thrown m37))]) (μ' := m37) rfl ?_
  refine XB.icmp (P := (yM_thrown m37) = r36) rfl rfl rfl (fun c1065 => ?_) (fun c1065 => ?_)
  · refine XB.go 1 (pc' := 1723) (ls' := [some (.ref 1000), some (.ref 0), some (.ref 32), some (.ref 56), some (.int x4), some (.int r36), (xdl d6)]) (st' := []) (μ' := m37) rfl ?_
    exact yW_law_b1723_ok k55 hk55 (some r36) (d6) x4 m37
  · refine XB.go 1 (pc' := 1069) (ls' := [some (.ref 1000), some (.ref 0), some (.ref 32), some (.ref 56), some (.int x4), some (.int r36), (xdl d6)]) (st' := [(.int (0 : Int32))]) (μ' := m37) rfl ?_
    exact XB.fin rfl
set_option maxRecDepth 16384 in
def yW_law_b1073 (L : Nat) (xs : Nat → Int32) (k55 : Int32 → XMu → XRes) (x4 : Int32) (μ : XMu) : XRes := xgd (xin (x4 + (1 : Int32)) L) (xgd (xin (x4 + (2 : Int32)) L) (xbi (yW_go (xs ((x4 + (1 : Int32))).toNatClampNeg) (xs ((x4 + (2 : Int32))).toNatClampNeg) μ) (fun r39 m38 => xgd (xin (x4 + (1 : Int32)) L) (xgd (xin (x4 + (2 : Int32)) L) (xbv (yM_go (xs ((x4 + (1 : Int32))).toNatClampNeg) (xs ((x4 + (2 : Int32))).toNatClampNeg) m38) (fun m40 => (if (yM_thrown m40) = r39 then yW_law_b1723 L xs k55 x4 m40 else some (.inl (some (.int (0 : Int32))), m40))))))))
set_option maxRecDepth 16384 in
theorem yW_law_b1073_ok {L : Nat} {xs : Nat → Int32} (k55 : Int32 → XMu → XRes) (hk55 : ∀ (d5 : Option Int32) (d6 : Option Int32) (x4 : Int32) (μ : XMu), XB L xs 235 55 [some (.ref 1000), some (.ref 0), some (.ref 32), some (.ref 56), some (.int x4), (xdl d5), (xdl d6)] [] μ (k55 x4 μ)) (d5 : Option Int32) (d6 : Option Int32) (x4 : Int32) (μ : XMu) : XB L xs 235 1073 [some (.ref 1000), some (.ref 0), some (.ref 32), some (.ref 56), some (.int x4), (xdl d5), (xdl d6)] [] μ (yW_law_b1073 L xs k55 x4 μ) := by
  unfold yW_law_b1073
  refine XB.go 5 (pc' := 1079) (ls' := [some (.ref 1000), some (.ref 0), some (.ref 32), some (.ref 56), some (.int x4), (xdl d5), (xdl d6)]) (st' := [(.int (x4 + (1 : Int32))), (.ref 1000), (.ref 0)]) (μ' := μ) rfl ?_
  refine XB.gd (pc' := 1080) (ls' := [some (.ref 1000), some (.ref 0), some (.ref 32), some (.ref 56), some (.int x4), (xdl d5), (xdl d6)]) (st' := [(.int (xs ((x4 + (1 : Int32))).toNatClampNeg)), (.ref 0)]) (μ' := μ) rfl rfl rfl (fun hb => xbT hb) ?_
  refine XB.go 4 (pc' := 1085) (ls' := [some (.ref 1000), some (.ref 0), some (.ref 32), some (.ref 56), some (.int x4), (xdl d5), (xdl d6)]) (st' := [(.int (x4 + (2 : Int32))), (.ref 1000), (.int (xs ((x4 + (1 : Int32))).toNatClampNeg)), (.ref 0)]) (μ' := μ) rfl ?_
  refine XB.gd (pc' := 1086) (ls' := [some (.ref 1000), some (.ref 0), some (.ref 32), some (.ref 56), some (.int x4), (xdl d5), (xdl d6)]) (st' := [(.int (xs ((x4 + (2 : Int32))).toNatClampNeg)), (.int (xs ((x4 + (1 : Int32))).toNatClampNeg)), (.ref 0)]) (μ' := μ) rfl rfl rfl (fun hb => xbT hb) ?_
  refine XB.ci rfl rfl rfl rfl rfl (yW_go_ok (xs ((x4 + (1 : Int32))).toNatClampNeg) (xs ((x4 + (2 : Int32))).toNatClampNeg) μ) (fun r39 m38 => ?_)
  refine XB.go 6 (pc' := 1097) (ls' := [some (.ref 1000), some (.ref 0), some (.ref 32), some (.ref 56), some (.int x4), some (.int r39), (xdl d6)]) (st' := [(.int (x4 + (1 : Int32))), (.ref 1000), (.ref 32)]) (μ' := m38) rfl ?_
  refine XB.gd (pc' := 1098) (ls' := [some (.ref 1000), some (.ref 0), some (.ref 32), some (.ref 56), some (.int x4), some (.int r39), (xdl d6)]) (st' := [(.int (xs ((x4 + (1 : Int32))).toNatClampNeg)), (.ref 32)]) (μ' := m38) rfl rfl rfl (fun hb => xbT hb) ?_
  refine XB.go 4 (pc' := 1103) (ls' := [some (.ref 1000), some (.ref 0), some (.ref 32), some (.ref 56), some (.int x4), some (.int r39), (xdl d6)]) (st' := [(.int (x4 + (2 : Int32))), (.ref 1000), (.int (xs ((x4 + (1 : Int32))).toNatClampNeg)), (.ref 32)]) (μ' := m38) rfl ?_
  refine XB.gd (pc' := 1104) (ls' := [some (.ref 1000), some (.ref 0), some (.ref 32), some (.ref 56), some (.int x4), some (.int r39), (xdl d6)]) (st' := [(.int (xs ((x4 + (2 : Int32))).toNatClampNeg)), (.int (xs ((x4 + (1 : Int32))).toNatClampNeg)), (.ref 32)]) (μ' := m38) rfl rfl rfl (fun hb => xbT hb) ?_
  refine XB.cv rfl rfl rfl rfl rfl (yM_go_ok (xs ((x4 + (1 : Int32))).toNatClampNeg) (xs ((x4 + (2 : Int32))).toNatClampNeg) m38) (fun m40 => ?_)
  refine XB.go 1 (pc' := 1108) (ls' := [some (.ref 1000), some (.ref 0), some (.ref 32), some (.ref 56), some (.int x4), some (.int r39), (xdl d6)]) (st' := [(.ref 32)]) (μ' := m40) rfl ?_
  refine XB.cp rfl rfl rfl (yM_thrown_ok m40) ?_
  refine XB.go 1 (pc' := 1113) (ls' := [some (.ref 1000), some (.ref 0), some (.ref 32), some (.ref 56), some (.int x4), some (.int r39), (xdl d6)]) (st' := [(.int r39), (.int (yM_thrown m40))]) (μ' := m40) rfl ?_
  refine XB.icmp (P := (yM_thrown m40) = r39) rfl rfl rfl (fun c1113 => ?_) (fun c1113 => ?_)
  · refine XB.go 1 (pc' := 1723) (ls' := [some (.ref 1000), some (.ref 0), some (.ref 32), some (.ref 56), some (.int x4), some (.int r39), (xdl d6)]) (st' := []) (μ' := m40) rfl ?_
    exact yW_law_b1723_ok k55 hk55 (some r39) (d6) x4 m40
  · refine XB.go 1 (pc' := 1117) (ls' := [some (.ref 1000), some (.ref 0), some (.ref 32), some (.ref 56), some (.int x4), some (.int r39), (xdl d6)]) (st' := [(.int (0 : Int32))]) (μ' := m40) rfl ?_
    exact XB.fin rfl
set_option maxRecDepth 16384 in
def yW_law_b1121 (L : Nat) (xs : Nat → Int32) (k55 : Int32 → XMu → XRes) (x4 : Int32) (μ : XMu) : XRes := xbi (yC_sync μ) (fun r42 m41 => xbi (yM_sync m41) (fun r44 m43 => (if r42 = r44 then yW_law_b1723 L xs k55 x4 m43 else some (.inl (some (.int (0 : Int32))), m43))))
set_option maxRecDepth 16384 in
theorem yW_law_b1121_ok {L : Nat} {xs : Nat → Int32} (k55 : Int32 → XMu → XRes) (hk55 : ∀ (d5 : Option Int32) (d6 : Option Int32) (x4 : Int32) (μ : XMu), XB L xs 235 55 [some (.ref 1000), some (.ref 0), some (.ref 32), some (.ref 56), some (.int x4), (xdl d5), (xdl d6)] [] μ (k55 x4 μ)) (d5 : Option Int32) (d6 : Option Int32) (x4 : Int32) (μ : XMu) : XB L xs 235 1121 [some (.ref 1000), some (.ref 0), some (.ref 32), some (.ref 56), some (.int x4), (xdl d5), (xdl d6)] [] μ (yW_law_b1121 L xs k55 x4 μ) := by
  unfold yW_law_b1121
  refine XB.go 1 (pc' := 1122) (ls' := [some (.ref 1000), some (.ref 0), some (.ref 32), some (.ref 56), some (.int x4), (xdl d5), (xdl d6)]) (st' := [(.ref 0)]) (μ' := μ) rfl ?_
  refine XB.ci rfl rfl rfl rfl rfl (yC_sync_ok μ) (fun r42 m41 => ?_)
  refine XB.go 1 (pc' := 1126) (ls' := [some (.ref 1000), some (.ref 0), some (.ref 32), some (.ref 56), some (.int x4), (xdl d5), (xdl d6)]) (st' := [(.ref 32), (.int r42)]) (μ' := m41) rfl ?_
  refine XB.ci rfl rfl rfl rfl rfl (yM_sync_ok m41) (fun r44 m43 => ?_)
  refine XB.icmp (P := r42 = r44) rfl rfl rfl (fun c1129 => ?_) (fun c1129 => ?_)
  · exact yW_law_b1723_ok k55 hk55 (d5) (d6) x4 m43
  · refine XB.go 1 (pc' := 1133) (ls' := [some (.ref 1000), some (.ref 0), some (.ref 32), some (.ref 56), some (.int x4), (xdl d5), (xdl d6)]) (st' := [(.int (0 : Int32))]) (μ' := m43) rfl ?_
    exact XB.fin rfl
set_option maxRecDepth 16384 in
def yW_law_b1134 (L : Nat) (xs : Nat → Int32) (k55 : Int32 → XMu → XRes) (x4 : Int32) (μ : XMu) : XRes := xgd (xin (x4 + (1 : Int32)) L) (xbi (yC_command (xs ((x4 + (1 : Int32))).toNatClampNeg) μ) (fun r46 m45 => xgd (xin (x4 + (1 : Int32)) L) (xbi (yM_command (xs ((x4 + (1 : Int32))).toNatClampNeg) m45) (fun r48 m47 => (if r46 = r48 then yW_law_b1723 L xs k55 x4 m47 else some (.inl (some (.int (0 : Int32))), m47))))))
set_option maxRecDepth 16384 in
theorem yW_law_b1134_ok {L : Nat} {xs : Nat → Int32} (k55 : Int32 → XMu → XRes) (hk55 : ∀ (d5 : Option Int32) (d6 : Option Int32) (x4 : Int32) (μ : XMu), XB L xs 235 55 [some (.ref 1000), some (.ref 0), some (.ref 32), some (.ref 56), some (.int x4), (xdl d5), (xdl d6)] [] μ (k55 x4 μ)) (d5 : Option Int32) (d6 : Option Int32) (x4 : Int32) (μ : XMu) : XB L xs 235 1134 [some (.ref 1000), some (.ref 0), some (.ref 32), some (.ref 56), some (.int x4), (xdl d5), (xdl d6)] [] μ (yW_law_b1134 L xs k55 x4 μ) := by
  unfold yW_law_b1134
  refine XB.go 5 (pc' := 1140) (ls' := [some (.ref 1000), some (.ref 0), some (.ref 32), some (.ref 56), some (.int x4), (xdl d5), (xdl d6)]) (st' := [(.int (x4 + (1 : Int32))), (.ref 1000), (.ref 0)]) (μ' := μ) rfl ?_
  refine XB.gd (pc' := 1141) (ls' := [some (.ref 1000), some (.ref 0), some (.ref 32), some (.ref 56), some (.int x4), (xdl d5), (xdl d6)]) (st' := [(.int (xs ((x4 + (1 : Int32))).toNatClampNeg)), (.ref 0)]) (μ' := μ) rfl rfl rfl (fun hb => xbT hb) ?_
  refine XB.ci rfl rfl rfl rfl rfl (yC_command_ok (xs ((x4 + (1 : Int32))).toNatClampNeg) μ) (fun r46 m45 => ?_)
  refine XB.go 5 (pc' := 1150) (ls' := [some (.ref 1000), some (.ref 0), some (.ref 32), some (.ref 56), some (.int x4), (xdl d5), (xdl d6)]) (st' := [(.int (x4 + (1 : Int32))), (.ref 1000), (.ref 32), (.int r46)]) (μ' := m45) rfl ?_
  refine XB.gd (pc' := 1151) (ls' := [some (.ref 1000), some (.ref 0), some (.ref 32), some (.ref 56), some (.int x4), (xdl d5), (xdl d6)]) (st' := [(.int (xs ((x4 + (1 : Int32))).toNatClampNeg)), (.ref 32), (.int r46)]) (μ' := m45) rfl rfl rfl (fun hb => xbT hb) ?_
  refine XB.ci rfl rfl rfl rfl rfl (yM_command_ok (xs ((x4 + (1 : Int32))).toNatClampNeg) m45) (fun r48 m47 => ?_)
  refine XB.icmp (P := r46 = r48) rfl rfl rfl (fun c1154 => ?_) (fun c1154 => ?_)
  · exact yW_law_b1723_ok k55 hk55 (d5) (d6) x4 m47
  · refine XB.go 1 (pc' := 1158) (ls' := [some (.ref 1000), some (.ref 0), some (.ref 32), some (.ref 56), some (.int x4), (xdl d5), (xdl d6)]) (st' := [(.int (0 : Int32))]) (μ' := m47) rfl ?_
    exact XB.fin rfl
set_option maxRecDepth 16384 in
def yW_law_b1159 (L : Nat) (xs : Nat → Int32) (k55 : Int32 → XMu → XRes) (x4 : Int32) (μ : XMu) : XRes := xbi (yC_read μ) (fun r50 m49 => xbi (yM_read m49) (fun r52 m51 => (if r50 = r52 then yW_law_b1723 L xs k55 x4 m51 else some (.inl (some (.int (0 : Int32))), m51))))
set_option maxRecDepth 16384 in
theorem yW_law_b1159_ok {L : Nat} {xs : Nat → Int32} (k55 : Int32 → XMu → XRes) (hk55 : ∀ (d5 : Option Int32) (d6 : Option Int32) (x4 : Int32) (μ : XMu), XB L xs 235 55 [some (.ref 1000), some (.ref 0), some (.ref 32), some (.ref 56), some (.int x4), (xdl d5), (xdl d6)] [] μ (k55 x4 μ)) (d5 : Option Int32) (d6 : Option Int32) (x4 : Int32) (μ : XMu) : XB L xs 235 1159 [some (.ref 1000), some (.ref 0), some (.ref 32), some (.ref 56), some (.int x4), (xdl d5), (xdl d6)] [] μ (yW_law_b1159 L xs k55 x4 μ) := by
  unfold yW_law_b1159
  refine XB.go 1 (pc' := 1160) (ls' := [some (.ref 1000), some (.ref 0), some (.ref 32), some (.ref 56), some (.int x4), (xdl d5), (xdl d6)]) (st' := [(.ref 0)]) (μ' := μ) rfl ?_
  refine XB.ci rfl rfl rfl rfl rfl (yC_read_ok μ) (fun r50 m49 => ?_)
  refine XB.go 1 (pc' := 1164) (ls' := [some (.ref 1000), some (.ref 0), some (.ref 32), some (.ref 56), some (.int x4), (xdl d5), (xdl d6)]) (st' := [(.ref 32), (.int r50)]) (μ' := m49) rfl ?_
  refine XB.ci rfl rfl rfl rfl rfl (yM_read_ok m49) (fun r52 m51 => ?_)
  refine XB.icmp (P := r50 = r52) rfl rfl rfl (fun c1167 => ?_) (fun c1167 => ?_)
  · exact yW_law_b1723_ok k55 hk55 (d5) (d6) x4 m51
  · refine XB.go 1 (pc' := 1171) (ls' := [some (.ref 1000), some (.ref 0), some (.ref 32), some (.ref 56), some (.int x4), (xdl d5), (xdl d6)]) (st' := [(.int (0 : Int32))]) (μ' := m51) rfl ?_
    exact XB.fin rfl
set_option maxRecDepth 16384 in
def yW_law_b1172 (L : Nat) (xs : Nat → Int32) (k55 : Int32 → XMu → XRes) (x4 : Int32) (μ : XMu) : XRes := xgd (xin (x4 + (1 : Int32)) L) (xbi (yC_members (xs ((x4 + (1 : Int32))).toNatClampNeg) μ) (fun r54 m53 => xgd (xin (x4 + (1 : Int32)) L) (xbi (yM_members (xs ((x4 + (1 : Int32))).toNatClampNeg) m53) (fun r56 m55 => (if r54 = r56 then yW_law_b1723 L xs k55 x4 m55 else some (.inl (some (.int (0 : Int32))), m55))))))
set_option maxRecDepth 16384 in
theorem yW_law_b1172_ok {L : Nat} {xs : Nat → Int32} (k55 : Int32 → XMu → XRes) (hk55 : ∀ (d5 : Option Int32) (d6 : Option Int32) (x4 : Int32) (μ : XMu), XB L xs 235 55 [some (.ref 1000), some (.ref 0), some (.ref 32), some (.ref 56), some (.int x4), (xdl d5), (xdl d6)] [] μ (k55 x4 μ)) (d5 : Option Int32) (d6 : Option Int32) (x4 : Int32) (μ : XMu) : XB L xs 235 1172 [some (.ref 1000), some (.ref 0), some (.ref 32), some (.ref 56), some (.int x4), (xdl d5), (xdl d6)] [] μ (yW_law_b1172 L xs k55 x4 μ) := by
  unfold yW_law_b1172
  refine XB.go 5 (pc' := 1178) (ls' := [some (.ref 1000), some (.ref 0), some (.ref 32), some (.ref 56), some (.int x4), (xdl d5), (xdl d6)]) (st' := [(.int (x4 + (1 : Int32))), (.ref 1000), (.ref 0)]) (μ' := μ) rfl ?_
  refine XB.gd (pc' := 1179) (ls' := [some (.ref 1000), some (.ref 0), some (.ref 32), some (.ref 56), some (.int x4), (xdl d5), (xdl d6)]) (st' := [(.int (xs ((x4 + (1 : Int32))).toNatClampNeg)), (.ref 0)]) (μ' := μ) rfl rfl rfl (fun hb => xbT hb) ?_
  refine XB.ci rfl rfl rfl rfl rfl (yC_members_ok (xs ((x4 + (1 : Int32))).toNatClampNeg) μ) (fun r54 m53 => ?_)
  refine XB.go 5 (pc' := 1188) (ls' := [some (.ref 1000), some (.ref 0), some (.ref 32), some (.ref 56), some (.int x4), (xdl d5), (xdl d6)]) (st' := [(.int (x4 + (1 : Int32))), (.ref 1000), (.ref 32), (.int r54)]) (μ' := m53) rfl ?_
  refine XB.gd (pc' := 1189) (ls' := [some (.ref 1000), some (.ref 0), some (.ref 32), some (.ref 56), some (.int x4), (xdl d5), (xdl d6)]) (st' := [(.int (xs ((x4 + (1 : Int32))).toNatClampNeg)), (.ref 32), (.int r54)]) (μ' := m53) rfl rfl rfl (fun hb => xbT hb) ?_
  refine XB.ci rfl rfl rfl rfl rfl (yM_members_ok (xs ((x4 + (1 : Int32))).toNatClampNeg) m53) (fun r56 m55 => ?_)
  refine XB.icmp (P := r54 = r56) rfl rfl rfl (fun c1192 => ?_) (fun c1192 => ?_)
  · exact yW_law_b1723_ok k55 hk55 (d5) (d6) x4 m55
  · refine XB.go 1 (pc' := 1196) (ls' := [some (.ref 1000), some (.ref 0), some (.ref 32), some (.ref 56), some (.int x4), (xdl d5), (xdl d6)]) (st' := [(.int (0 : Int32))]) (μ' := m55) rfl ?_
    exact XB.fin rfl
set_option maxRecDepth 16384 in
def yW_law_b1197 (L : Nat) (xs : Nat → Int32) (k55 : Int32 → XMu → XRes) (x4 : Int32) (μ : XMu) : XRes := xgd (xin (x4 + (1 : Int32)) L) (xbi (yC_learners (xs ((x4 + (1 : Int32))).toNatClampNeg) μ) (fun r58 m57 => xgd (xin (x4 + (1 : Int32)) L) (xbi (yM_learners (xs ((x4 + (1 : Int32))).toNatClampNeg) m57) (fun r60 m59 => (if r58 = r60 then yW_law_b1723 L xs k55 x4 m59 else some (.inl (some (.int (0 : Int32))), m59))))))
set_option maxRecDepth 16384 in
theorem yW_law_b1197_ok {L : Nat} {xs : Nat → Int32} (k55 : Int32 → XMu → XRes) (hk55 : ∀ (d5 : Option Int32) (d6 : Option Int32) (x4 : Int32) (μ : XMu), XB L xs 235 55 [some (.ref 1000), some (.ref 0), some (.ref 32), some (.ref 56), some (.int x4), (xdl d5), (xdl d6)] [] μ (k55 x4 μ)) (d5 : Option Int32) (d6 : Option Int32) (x4 : Int32) (μ : XMu) : XB L xs 235 1197 [some (.ref 1000), some (.ref 0), some (.ref 32), some (.ref 56), some (.int x4), (xdl d5), (xdl d6)] [] μ (yW_law_b1197 L xs k55 x4 μ) := by
  unfold yW_law_b1197
  refine XB.go 5 (pc' := 1203) (ls' := [some (.ref 1000), some (.ref 0), some (.ref 32), some (.ref 56), some (.int x4), (xdl d5), (xdl d6)]) (st' := [(.int (x4 + (1 : Int32))), (.ref 1000), (.ref 0)]) (μ' := μ) rfl ?_
  refine XB.gd (pc' := 1204) (ls' := [some (.ref 1000), some (.ref 0), some (.ref 32), some (.ref 56), some (.int x4), (xdl d5), (xdl d6)]) (st' := [(.int (xs ((x4 + (1 : Int32))).toNatClampNeg)), (.ref 0)]) (μ' := μ) rfl rfl rfl (fun hb => xbT hb) ?_
  refine XB.ci rfl rfl rfl rfl rfl (yC_learners_ok (xs ((x4 + (1 : Int32))).toNatClampNeg) μ) (fun r58 m57 => ?_)
  refine XB.go 5 (pc' := 1213) (ls' := [some (.ref 1000), some (.ref 0), some (.ref 32), some (.ref 56), some (.int x4), (xdl d5), (xdl d6)]) (st' := [(.int (x4 + (1 : Int32))), (.ref 1000), (.ref 32), (.int r58)]) (μ' := m57) rfl ?_
  refine XB.gd (pc' := 1214) (ls' := [some (.ref 1000), some (.ref 0), some (.ref 32), some (.ref 56), some (.int x4), (xdl d5), (xdl d6)]) (st' := [(.int (xs ((x4 + (1 : Int32))).toNatClampNeg)), (.ref 32), (.int r58)]) (μ' := m57) rfl rfl rfl (fun hb => xbT hb) ?_
  refine XB.ci rfl rfl rfl rfl rfl (yM_learners_ok (xs ((x4 + (1 : Int32))).toNatClampNeg) m57) (fun r60 m59 => ?_)
  refine XB.icmp (P := r58 = r60) rfl rfl rfl (fun c1217 => ?_) (fun c1217 => ?_)
  · exact yW_law_b1723_ok k55 hk55 (d5) (d6) x4 m59
  · refine XB.go 1 (pc' := 1221) (ls' := [some (.ref 1000), some (.ref 0), some (.ref 32), some (.ref 56), some (.int x4), (xdl d5), (xdl d6)]) (st' := [(.int (0 : Int32))]) (μ' := m59) rfl ?_
    exact XB.fin rfl
set_option maxRecDepth 16384 in
def yW_law_b1222 (L : Nat) (xs : Nat → Int32) (k55 : Int32 → XMu → XRes) (x4 : Int32) (μ : XMu) : XRes := xgd (xin (x4 + (1 : Int32)) L) (xbi (yC_hand (xs ((x4 + (1 : Int32))).toNatClampNeg) μ) (fun r62 m61 => xgd (xin (x4 + (1 : Int32)) L) (xbi (yM_hand (xs ((x4 + (1 : Int32))).toNatClampNeg) m61) (fun r64 m63 => (if r62 = r64 then yW_law_b1723 L xs k55 x4 m63 else some (.inl (some (.int (0 : Int32))), m63))))))
set_option maxRecDepth 16384 in
theorem yW_law_b1222_ok {L : Nat} {xs : Nat → Int32} (k55 : Int32 → XMu → XRes) (hk55 : ∀ (d5 : Option Int32) (d6 : Option Int32) (x4 : Int32) (μ : XMu), XB L xs 235 55 [some (.ref 1000), some (.ref 0), some (.ref 32), some (.ref 56), some (.int x4), (xdl d5), (xdl d6)] [] μ (k55 x4 μ)) (d5 : Option Int32) (d6 : Option Int32) (x4 : Int32) (μ : XMu) : XB L xs 235 1222 [some (.ref 1000), some (.ref 0), some (.ref 32), some (.ref 56), some (.int x4), (xdl d5), (xdl d6)] [] μ (yW_law_b1222 L xs k55 x4 μ) := by
  unfold yW_law_b1222
  refine XB.go 5 (pc' := 1228) (ls' := [some (.ref 1000), some (.ref 0), some (.ref 32), some (.ref 56), some (.int x4), (xdl d5), (xdl d6)]) (st' := [(.int (x4 + (1 : Int32))), (.ref 1000), (.ref 0)]) (μ' := μ) rfl ?_
  refine XB.gd (pc' := 1229) (ls' := [some (.ref 1000), some (.ref 0), some (.ref 32), some (.ref 56), some (.int x4), (xdl d5), (xdl d6)]) (st' := [(.int (xs ((x4 + (1 : Int32))).toNatClampNeg)), (.ref 0)]) (μ' := μ) rfl rfl rfl (fun hb => xbT hb) ?_
  refine XB.ci rfl rfl rfl rfl rfl (yC_hand_ok (xs ((x4 + (1 : Int32))).toNatClampNeg) μ) (fun r62 m61 => ?_)
  refine XB.go 5 (pc' := 1238) (ls' := [some (.ref 1000), some (.ref 0), some (.ref 32), some (.ref 56), some (.int x4), (xdl d5), (xdl d6)]) (st' := [(.int (x4 + (1 : Int32))), (.ref 1000), (.ref 32), (.int r62)]) (μ' := m61) rfl ?_
  refine XB.gd (pc' := 1239) (ls' := [some (.ref 1000), some (.ref 0), some (.ref 32), some (.ref 56), some (.int x4), (xdl d5), (xdl d6)]) (st' := [(.int (xs ((x4 + (1 : Int32))).toNatClampNeg)), (.ref 32), (.int r62)]) (μ' := m61) rfl rfl rfl (fun hb => xbT hb) ?_
  refine XB.ci rfl rfl rfl rfl rfl (yM_hand_ok (xs ((x4 + (1 : Int32))).toNatClampNeg) m61) (fun r64 m63 => ?_)
  refine XB.icmp (P := r62 = r64) rfl rfl rfl (fun c1242 => ?_) (fun c1242 => ?_)
  · exact yW_law_b1723_ok k55 hk55 (d5) (d6) x4 m63
  · refine XB.go 1 (pc' := 1246) (ls' := [some (.ref 1000), some (.ref 0), some (.ref 32), some (.ref 56), some (.int x4), (xdl d5), (xdl d6)]) (st' := [(.int (0 : Int32))]) (μ' := m63) rfl ?_
    exact XB.fin rfl
set_option maxRecDepth 16384 in
def yW_law_b1247 (L : Nat) (xs : Nat → Int32) (k55 : Int32 → XMu → XRes) (x4 : Int32) (μ : XMu) : XRes := xgd (xin (x4 + (1 : Int32)) L) (xbi (yC_compact (xs ((x4 + (1 : Int32))).toNatClampNeg) μ) (fun r66 m65 => xgd (xin (x4 + (1 : Int32)) L) (xbi (yM_compact (xs ((x4 + (1 : Int32))).toNatClampNeg) m65) (fun r68 m67 => (if r66 = r68 then yW_law_b1723 L xs k55 x4 m67 else some (.inl (some (.int (0 : Int32))), m67))))))
set_option maxRecDepth 16384 in
theorem yW_law_b1247_ok {L : Nat} {xs : Nat → Int32} (k55 : Int32 → XMu → XRes) (hk55 : ∀ (d5 : Option Int32) (d6 : Option Int32) (x4 : Int32) (μ : XMu), XB L xs 235 55 [some (.ref 1000), some (.ref 0), some (.ref 32), some (.ref 56), some (.int x4), (xdl d5), (xdl d6)] [] μ (k55 x4 μ)) (d5 : Option Int32) (d6 : Option Int32) (x4 : Int32) (μ : XMu) : XB L xs 235 1247 [some (.ref 1000), some (.ref 0), some (.ref 32), some (.ref 56), some (.int x4), (xdl d5), (xdl d6)] [] μ (yW_law_b1247 L xs k55 x4 μ) := by
  unfold yW_law_b1247
  refine XB.go 5 (pc' := 1253) (ls' := [some (.ref 1000), some (.ref 0), some (.ref 32), some (.ref 56), some (.int x4), (xdl d5), (xdl d6)]) (st' := [(.int (x4 + (1 : Int32))), (.ref 1000), (.ref 0)]) (μ' := μ) rfl ?_
  refine XB.gd (pc' := 1254) (ls' := [some (.ref 1000), some (.ref 0), some (.ref 32), some (.ref 56), some (.int x4), (xdl d5), (xdl d6)]) (st' := [(.int (xs ((x4 + (1 : Int32))).toNatClampNeg)), (.ref 0)]) (μ' := μ) rfl rfl rfl (fun hb => xbT hb) ?_
  refine XB.ci rfl rfl rfl rfl rfl (yC_compact_ok (xs ((x4 + (1 : Int32))).toNatClampNeg) μ) (fun r66 m65 => ?_)
  refine XB.go 5 (pc' := 1263) (ls' := [some (.ref 1000), some (.ref 0), some (.ref 32), some (.ref 56), some (.int x4), (xdl d5), (xdl d6)]) (st' := [(.int (x4 + (1 : Int32))), (.ref 1000), (.ref 32), (.int r66)]) (μ' := m65) rfl ?_
  refine XB.gd (pc' := 1264) (ls' := [some (.ref 1000), some (.ref 0), some (.ref 32), some (.ref 56), some (.int x4), (xdl d5), (xdl d6)]) (st' := [(.int (xs ((x4 + (1 : Int32))).toNatClampNeg)), (.ref 32), (.int r66)]) (μ' := m65) rfl rfl rfl (fun hb => xbT hb) ?_
  refine XB.ci rfl rfl rfl rfl rfl (yM_compact_ok (xs ((x4 + (1 : Int32))).toNatClampNeg) m65) (fun r68 m67 => ?_)
  refine XB.icmp (P := r66 = r68) rfl rfl rfl (fun c1267 => ?_) (fun c1267 => ?_)
  · exact yW_law_b1723_ok k55 hk55 (d5) (d6) x4 m67
  · refine XB.go 1 (pc' := 1271) (ls' := [some (.ref 1000), some (.ref 0), some (.ref 32), some (.ref 56), some (.int x4), (xdl d5), (xdl d6)]) (st' := [(.int (0 : Int32))]) (μ' := m67) rfl ?_
    exact XB.fin rfl
set_option maxRecDepth 16384 in
def yW_law_b1272 (L : Nat) (xs : Nat → Int32) (k55 : Int32 → XMu → XRes) (x4 : Int32) (μ : XMu) : XRes := xbv (yC_restart μ) (fun m69 => xbv (yM_restart m69) (fun m70 => yW_law_b1723 L xs k55 x4 m70))
set_option maxRecDepth 16384 in
theorem yW_law_b1272_ok {L : Nat} {xs : Nat → Int32} (k55 : Int32 → XMu → XRes) (hk55 : ∀ (d5 : Option Int32) (d6 : Option Int32) (x4 : Int32) (μ : XMu), XB L xs 235 55 [some (.ref 1000), some (.ref 0), some (.ref 32), some (.ref 56), some (.int x4), (xdl d5), (xdl d6)] [] μ (k55 x4 μ)) (d5 : Option Int32) (d6 : Option Int32) (x4 : Int32) (μ : XMu) : XB L xs 235 1272 [some (.ref 1000), some (.ref 0), some (.ref 32), some (.ref 56), some (.int x4), (xdl d5), (xdl d6)] [] μ (yW_law_b1272 L xs k55 x4 μ) := by
  unfold yW_law_b1272
  refine XB.go 1 (pc' := 1273) (ls' := [some (.ref 1000), some (.ref 0), some (.ref 32), some (.ref 56), some (.int x4), (xdl d5), (xdl d6)]) (st' := [(.ref 0)]) (μ' := μ) rfl ?_
  refine XB.cv rfl rfl rfl rfl rfl (yC_restart_ok μ) (fun m69 => ?_)
  refine XB.go 1 (pc' := 1277) (ls' := [some (.ref 1000), some (.ref 0), some (.ref 32), some (.ref 56), some (.int x4), (xdl d5), (xdl d6)]) (st' := [(.ref 32)]) (μ' := m69) rfl ?_
  refine XB.cv rfl rfl rfl rfl rfl (yM_restart_ok m69) (fun m70 => ?_)
  refine XB.go 1 (pc' := 1723) (ls' := [some (.ref 1000), some (.ref 0), some (.ref 32), some (.ref 56), some (.int x4), (xdl d5), (xdl d6)]) (st' := []) (μ' := m70) rfl ?_
  exact yW_law_b1723_ok k55 hk55 (d5) (d6) x4 m70
set_option maxRecDepth 16384 in
def yW_law_b1283 (L : Nat) (xs : Nat → Int32) (k55 : Int32 → XMu → XRes) (x4 : Int32) (μ : XMu) : XRes := xgd (xin (x4 + (1 : Int32)) L) (xbi (yW_state (xs ((x4 + (1 : Int32))).toNatClampNeg) μ) (fun r72 m71 => xgd (xin (x4 + (1 : Int32)) L) (xbi (yM_state (xs ((x4 + (1 : Int32))).toNatClampNeg) m71) (fun r74 m73 => (if (yM_thrown m73) = r72 then (if ¬ r72 = (0 : Int32) then yW_law_b1723 L xs k55 x4 m73 else (if (lg_cmp (m73.2.2 56 0) (r74).toInt64) = (0 : Int32) then yW_law_b1723 L xs k55 x4 m73 else some (.inl (some (.int (0 : Int32))), m73))) else some (.inl (some (.int (0 : Int32))), m73))))))
set_option maxRecDepth 16384 in
theorem yW_law_b1283_ok {L : Nat} {xs : Nat → Int32} (k55 : Int32 → XMu → XRes) (hk55 : ∀ (d5 : Option Int32) (d6 : Option Int32) (x4 : Int32) (μ : XMu), XB L xs 235 55 [some (.ref 1000), some (.ref 0), some (.ref 32), some (.ref 56), some (.int x4), (xdl d5), (xdl d6)] [] μ (k55 x4 μ)) (d5 : Option Int32) (d6 : Option Int32) (x4 : Int32) (μ : XMu) : XB L xs 235 1283 [some (.ref 1000), some (.ref 0), some (.ref 32), some (.ref 56), some (.int x4), (xdl d5), (xdl d6)] [] μ (yW_law_b1283 L xs k55 x4 μ) := by
  unfold yW_law_b1283
  refine XB.go 5 (pc' := 1289) (ls' := [some (.ref 1000), some (.ref 0), some (.ref 32), some (.ref 56), some (.int x4), (xdl d5), (xdl d6)]) (st' := [(.int (x4 + (1 : Int32))), (.ref 1000), (.ref 0)]) (μ' := μ) rfl ?_
  refine XB.gd (pc' := 1290) (ls' := [some (.ref 1000), some (.ref 0), some (.ref 32), some (.ref 56), some (.int x4), (xdl d5), (xdl d6)]) (st' := [(.int (xs ((x4 + (1 : Int32))).toNatClampNeg)), (.ref 0)]) (μ' := μ) rfl rfl rfl (fun hb => xbT hb) ?_
  refine XB.go 1 (pc' := 1291) (ls' := [some (.ref 1000), some (.ref 0), some (.ref 32), some (.ref 56), some (.int x4), (xdl d5), (xdl d6)]) (st' := [(.ref 56), (.int (xs ((x4 + (1 : Int32))).toNatClampNeg)), (.ref 0)]) (μ' := μ) rfl ?_
  refine XB.ci rfl rfl rfl rfl rfl (yW_state_ok (xs ((x4 + (1 : Int32))).toNatClampNeg) μ) (fun r72 m71 => ?_)
  refine XB.go 6 (pc' := 1302) (ls' := [some (.ref 1000), some (.ref 0), some (.ref 32), some (.ref 56), some (.int x4), some (.int r72), (xdl d6)]) (st' := [(.int (x4 + (1 : Int32))), (.ref 1000), (.ref 32)]) (μ' := m71) rfl ?_
  refine XB.gd (pc' := 1303) (ls' := [some (.ref 1000), some (.ref 0), some (.ref 32), some (.ref 56), some (.int x4), some (.int r72), (xdl d6)]) (st' := [(.int (xs ((x4 + (1 : Int32))).toNatClampNeg)), (.ref 32)]) (μ' := m71) rfl rfl rfl (fun hb => xbT hb) ?_
  refine XB.ci rfl rfl rfl rfl rfl (yM_state_ok (xs ((x4 + (1 : Int32))).toNatClampNeg) m71) (fun r74 m73 => ?_)
  refine XB.go 2 (pc' := 1309) (ls' := [some (.ref 1000), some (.ref 0), some (.ref 32), some (.ref 56), some (.int x4), some (.int r72), some (.int r74)]) (st' := [(.ref 32)]) (μ' := m73) rfl ?_
  refine XB.cp rfl rfl rfl (yM_thrown_ok m73) ?_
  refine XB.go 1 (pc' := 1314) (ls' := [some (.ref 1000), some (.ref 0), some (.ref 32), some (.ref 56), some (.int x4), some (.int r72), some (.int r74)]) (st' := [(.int r72), (.int (yM_thrown m73))]) (μ' := m73) rfl ?_
  refine XB.icmp (P := (yM_thrown m73) = r72) rfl rfl rfl (fun c1314 => ?_) (fun c1314 => ?_)
  · refine XB.go 1 (pc' := 1321) (ls' := [some (.ref 1000), some (.ref 0), some (.ref 32), some (.ref 56), some (.int x4), some (.int r72), some (.int r74)]) (st' := [(.int r72)]) (μ' := m73) rfl ?_
    refine XB.ifz (P := ¬ r72 = (0 : Int32)) rfl rfl rfl (fun c1321 => ?_) (fun c1321 => ?_)
    · refine XB.go 1 (pc' := 1723) (ls' := [some (.ref 1000), some (.ref 0), some (.ref 32), some (.ref 56), some (.int x4), some (.int r72), some (.int r74)]) (st' := []) (μ' := m73) rfl ?_
      exact yW_law_b1723_ok k55 hk55 (some r72) (some r74) x4 m73
    · refine XB.go 6 (pc' := 1331) (ls' := [some (.ref 1000), some (.ref 0), some (.ref 32), some (.ref 56), some (.int x4), some (.int r72), some (.int r74)]) (st' := [(.int (lg_cmp (m73.2.2 56 0) (r74).toInt64))]) (μ' := m73) rfl ?_
      refine XB.ifz (P := (lg_cmp (m73.2.2 56 0) (r74).toInt64) = (0 : Int32)) rfl rfl rfl (fun c1331 => ?_) (fun c1331 => ?_)
      · refine XB.go 1 (pc' := 1723) (ls' := [some (.ref 1000), some (.ref 0), some (.ref 32), some (.ref 56), some (.int x4), some (.int r72), some (.int r74)]) (st' := []) (μ' := m73) rfl ?_
        exact yW_law_b1723_ok k55 hk55 (some r72) (some r74) x4 m73
      · refine XB.go 1 (pc' := 1335) (ls' := [some (.ref 1000), some (.ref 0), some (.ref 32), some (.ref 56), some (.int x4), some (.int r72), some (.int r74)]) (st' := [(.int (0 : Int32))]) (μ' := m73) rfl ?_
        exact XB.fin rfl
  · refine XB.go 1 (pc' := 1318) (ls' := [some (.ref 1000), some (.ref 0), some (.ref 32), some (.ref 56), some (.int x4), some (.int r72), some (.int r74)]) (st' := [(.int (0 : Int32))]) (μ' := m73) rfl ?_
    exact XB.fin rfl
set_option maxRecDepth 16384 in
def yW_law_b1339 (L : Nat) (xs : Nat → Int32) (k55 : Int32 → XMu → XRes) (x4 : Int32) (μ : XMu) : XRes := xgd (xin (x4 + (1 : Int32)) L) (xgd (xin (x4 + (2 : Int32)) L) (xbi (yW_log (xs ((x4 + (1 : Int32))).toNatClampNeg) (xs ((x4 + (2 : Int32))).toNatClampNeg) μ) (fun r76 m75 => xgd (xin (x4 + (1 : Int32)) L) (xgd (xin (x4 + (2 : Int32)) L) (xbi (yM_log (xs ((x4 + (1 : Int32))).toNatClampNeg) (xs ((x4 + (2 : Int32))).toNatClampNeg) m75) (fun r78 m77 => (if (yM_thrown m77) = r76 then (if ¬ r76 = (0 : Int32) then yW_law_b1723 L xs k55 x4 m77 else (if (lg_cmp (m77.2.2 56 0) (r78).toInt64) = (0 : Int32) then yW_law_b1723 L xs k55 x4 m77 else some (.inl (some (.int (0 : Int32))), m77))) else some (.inl (some (.int (0 : Int32))), m77))))))))
set_option maxRecDepth 16384 in
theorem yW_law_b1339_ok {L : Nat} {xs : Nat → Int32} (k55 : Int32 → XMu → XRes) (hk55 : ∀ (d5 : Option Int32) (d6 : Option Int32) (x4 : Int32) (μ : XMu), XB L xs 235 55 [some (.ref 1000), some (.ref 0), some (.ref 32), some (.ref 56), some (.int x4), (xdl d5), (xdl d6)] [] μ (k55 x4 μ)) (d5 : Option Int32) (d6 : Option Int32) (x4 : Int32) (μ : XMu) : XB L xs 235 1339 [some (.ref 1000), some (.ref 0), some (.ref 32), some (.ref 56), some (.int x4), (xdl d5), (xdl d6)] [] μ (yW_law_b1339 L xs k55 x4 μ) := by
  unfold yW_law_b1339
  refine XB.go 5 (pc' := 1345) (ls' := [some (.ref 1000), some (.ref 0), some (.ref 32), some (.ref 56), some (.int x4), (xdl d5), (xdl d6)]) (st' := [(.int (x4 + (1 : Int32))), (.ref 1000), (.ref 0)]) (μ' := μ) rfl ?_
  refine XB.gd (pc' := 1346) (ls' := [some (.ref 1000), some (.ref 0), some (.ref 32), some (.ref 56), some (.int x4), (xdl d5), (xdl d6)]) (st' := [(.int (xs ((x4 + (1 : Int32))).toNatClampNeg)), (.ref 0)]) (μ' := μ) rfl rfl rfl (fun hb => xbT hb) ?_
  refine XB.go 4 (pc' := 1351) (ls' := [some (.ref 1000), some (.ref 0), some (.ref 32), some (.ref 56), some (.int x4), (xdl d5), (xdl d6)]) (st' := [(.int (x4 + (2 : Int32))), (.ref 1000), (.int (xs ((x4 + (1 : Int32))).toNatClampNeg)), (.ref 0)]) (μ' := μ) rfl ?_
  refine XB.gd (pc' := 1352) (ls' := [some (.ref 1000), some (.ref 0), some (.ref 32), some (.ref 56), some (.int x4), (xdl d5), (xdl d6)]) (st' := [(.int (xs ((x4 + (2 : Int32))).toNatClampNeg)), (.int (xs ((x4 + (1 : Int32))).toNatClampNeg)), (.ref 0)]) (μ' := μ) rfl rfl rfl (fun hb => xbT hb) ?_
  refine XB.go 1 (pc' := 1353) (ls' := [some (.ref 1000), some (.ref 0), some (.ref 32), some (.ref 56), some (.int x4), (xdl d5), (xdl d6)]) (st' := [(.ref 56), (.int (xs ((x4 + (2 : Int32))).toNatClampNeg)), (.int (xs ((x4 + (1 : Int32))).toNatClampNeg)), (.ref 0)]) (μ' := μ) rfl ?_
  refine XB.ci rfl rfl rfl rfl rfl (yW_log_ok (xs ((x4 + (1 : Int32))).toNatClampNeg) (xs ((x4 + (2 : Int32))).toNatClampNeg) μ) (fun r76 m75 => ?_)
  refine XB.go 6 (pc' := 1364) (ls' := [some (.ref 1000), some (.ref 0), some (.ref 32), some (.ref 56), some (.int x4), some (.int r76), (xdl d6)]) (st' := [(.int (x4 + (1 : Int32))), (.ref 1000), (.ref 32)]) (μ' := m75) rfl ?_
  refine XB.gd (pc' := 1365) (ls' := [some (.ref 1000), some (.ref 0), some (.ref 32), some (.ref 56), some (.int x4), some (.int r76), (xdl d6)]) (st' := [(.int (xs ((x4 + (1 : Int32))).toNatClampNeg)), (.ref 32)]) (μ' := m75) rfl rfl rfl (fun hb => xbT hb) ?_
  refine XB.go 4 (pc' := 1370) (ls' := [some (.ref 1000), some (.ref 0), some (.ref 32), some (.ref 56), some (.int x4), some (.int r76), (xdl d6)]) (st' := [(.int (x4 + (2 : Int32))), (.ref 1000), (.int (xs ((x4 + (1 : Int32))).toNatClampNeg)), (.ref 32)]) (μ' := m75) rfl ?_
  refine XB.gd (pc' := 1371) (ls' := [some (.ref 1000), some (.ref 0), some (.ref 32), some (.ref 56), some (.int x4), some (.int r76), (xdl d6)]) (st' := [(.int (xs ((x4 + (2 : Int32))).toNatClampNeg)), (.int (xs ((x4 + (1 : Int32))).toNatClampNeg)), (.ref 32)]) (μ' := m75) rfl rfl rfl (fun hb => xbT hb) ?_
  refine XB.ci rfl rfl rfl rfl rfl (yM_log_ok (xs ((x4 + (1 : Int32))).toNatClampNeg) (xs ((x4 + (2 : Int32))).toNatClampNeg) m75) (fun r78 m77 => ?_)
  refine XB.go 2 (pc' := 1377) (ls' := [some (.ref 1000), some (.ref 0), some (.ref 32), some (.ref 56), some (.int x4), some (.int r76), some (.int r78)]) (st' := [(.ref 32)]) (μ' := m77) rfl ?_
  refine XB.cp rfl rfl rfl (yM_thrown_ok m77) ?_
  refine XB.go 1 (pc' := 1382) (ls' := [some (.ref 1000), some (.ref 0), some (.ref 32), some (.ref 56), some (.int x4), some (.int r76), some (.int r78)]) (st' := [(.int r76), (.int (yM_thrown m77))]) (μ' := m77) rfl ?_
  refine XB.icmp (P := (yM_thrown m77) = r76) rfl rfl rfl (fun c1382 => ?_) (fun c1382 => ?_)
  · refine XB.go 1 (pc' := 1389) (ls' := [some (.ref 1000), some (.ref 0), some (.ref 32), some (.ref 56), some (.int x4), some (.int r76), some (.int r78)]) (st' := [(.int r76)]) (μ' := m77) rfl ?_
    refine XB.ifz (P := ¬ r76 = (0 : Int32)) rfl rfl rfl (fun c1389 => ?_) (fun c1389 => ?_)
    · refine XB.go 1 (pc' := 1723) (ls' := [some (.ref 1000), some (.ref 0), some (.ref 32), some (.ref 56), some (.int x4), some (.int r76), some (.int r78)]) (st' := []) (μ' := m77) rfl ?_
      exact yW_law_b1723_ok k55 hk55 (some r76) (some r78) x4 m77
    · refine XB.go 6 (pc' := 1399) (ls' := [some (.ref 1000), some (.ref 0), some (.ref 32), some (.ref 56), some (.int x4), some (.int r76), some (.int r78)]) (st' := [(.int (lg_cmp (m77.2.2 56 0) (r78).toInt64))]) (μ' := m77) rfl ?_
      refine XB.ifz (P := (lg_cmp (m77.2.2 56 0) (r78).toInt64) = (0 : Int32)) rfl rfl rfl (fun c1399 => ?_) (fun c1399 => ?_)
      · refine XB.go 1 (pc' := 1723) (ls' := [some (.ref 1000), some (.ref 0), some (.ref 32), some (.ref 56), some (.int x4), some (.int r76), some (.int r78)]) (st' := []) (μ' := m77) rfl ?_
        exact yW_law_b1723_ok k55 hk55 (some r76) (some r78) x4 m77
      · refine XB.go 1 (pc' := 1403) (ls' := [some (.ref 1000), some (.ref 0), some (.ref 32), some (.ref 56), some (.int x4), some (.int r76), some (.int r78)]) (st' := [(.int (0 : Int32))]) (μ' := m77) rfl ?_
        exact XB.fin rfl
  · refine XB.go 1 (pc' := 1386) (ls' := [some (.ref 1000), some (.ref 0), some (.ref 32), some (.ref 56), some (.int x4), some (.int r76), some (.int r78)]) (st' := [(.int (0 : Int32))]) (μ' := m77) rfl ?_
    exact XB.fin rfl
set_option maxRecDepth 16384 in
def yW_law_b1407 (L : Nat) (xs : Nat → Int32) (k55 : Int32 → XMu → XRes) (x4 : Int32) (μ : XMu) : XRes := xgd (xin (x4 + (1 : Int32)) L) (xgd (xin (x4 + (2 : Int32)) L) (xbi (yW_peer (xs ((x4 + (1 : Int32))).toNatClampNeg) (xs ((x4 + (2 : Int32))).toNatClampNeg) μ) (fun r80 m79 => xgd (xin (x4 + (1 : Int32)) L) (xgd (xin (x4 + (2 : Int32)) L) (xbi (yM_peer (xs ((x4 + (1 : Int32))).toNatClampNeg) (xs ((x4 + (2 : Int32))).toNatClampNeg) m79) (fun r82 m81 => (if (yM_thrown m81) = r80 then (if ¬ r80 = (0 : Int32) then yW_law_b1723 L xs k55 x4 m81 else (if (lg_cmp (m81.2.2 56 0) (r82).toInt64) = (0 : Int32) then yW_law_b1723 L xs k55 x4 m81 else some (.inl (some (.int (0 : Int32))), m81))) else some (.inl (some (.int (0 : Int32))), m81))))))))
set_option maxRecDepth 16384 in
theorem yW_law_b1407_ok {L : Nat} {xs : Nat → Int32} (k55 : Int32 → XMu → XRes) (hk55 : ∀ (d5 : Option Int32) (d6 : Option Int32) (x4 : Int32) (μ : XMu), XB L xs 235 55 [some (.ref 1000), some (.ref 0), some (.ref 32), some (.ref 56), some (.int x4), (xdl d5), (xdl d6)] [] μ (k55 x4 μ)) (d5 : Option Int32) (d6 : Option Int32) (x4 : Int32) (μ : XMu) : XB L xs 235 1407 [some (.ref 1000), some (.ref 0), some (.ref 32), some (.ref 56), some (.int x4), (xdl d5), (xdl d6)] [] μ (yW_law_b1407 L xs k55 x4 μ) := by
  unfold yW_law_b1407
  refine XB.go 5 (pc' := 1413) (ls' := [some (.ref 1000), some (.ref 0), some (.ref 32), some (.ref 56), some (.int x4), (xdl d5), (xdl d6)]) (st' := [(.int (x4 + (1 : Int32))), (.ref 1000), (.ref 0)]) (μ' := μ) rfl ?_
  refine XB.gd (pc' := 1414) (ls' := [some (.ref 1000), some (.ref 0), some (.ref 32), some (.ref 56), some (.int x4), (xdl d5), (xdl d6)]) (st' := [(.int (xs ((x4 + (1 : Int32))).toNatClampNeg)), (.ref 0)]) (μ' := μ) rfl rfl rfl (fun hb => xbT hb) ?_
  refine XB.go 4 (pc' := 1419) (ls' := [some (.ref 1000), some (.ref 0), some (.ref 32), some (.ref 56), some (.int x4), (xdl d5), (xdl d6)]) (st' := [(.int (x4 + (2 : Int32))), (.ref 1000), (.int (xs ((x4 + (1 : Int32))).toNatClampNeg)), (.ref 0)]) (μ' := μ) rfl ?_
  refine XB.gd (pc' := 1420) (ls' := [some (.ref 1000), some (.ref 0), some (.ref 32), some (.ref 56), some (.int x4), (xdl d5), (xdl d6)]) (st' := [(.int (xs ((x4 + (2 : Int32))).toNatClampNeg)), (.int (xs ((x4 + (1 : Int32))).toNatClampNeg)), (.ref 0)]) (μ' := μ) rfl rfl rfl (fun hb => xbT hb) ?_
  refine XB.go 1 (pc' := 1421) (ls' := [some (.ref 1000), some (.ref 0), some (.ref 32), some (.ref 56), some (.int x4), (xdl d5), (xdl d6)]) (st' := [(.ref 56), (.int (xs ((x4 + (2 : Int32))).toNatClampNeg)), (.int (xs ((x4 + (1 : Int32))).toNatClampNeg)), (.ref 0)]) (μ' := μ) rfl ?_
  refine XB.ci rfl rfl rfl rfl rfl (yW_peer_ok (xs ((x4 + (1 : Int32))).toNatClampNeg) (xs ((x4 + (2 : Int32))).toNatClampNeg) μ) (fun r80 m79 => ?_)
  refine XB.go 6 (pc' := 1432) (ls' := [some (.ref 1000), some (.ref 0), some (.ref 32), some (.ref 56), some (.int x4), some (.int r80), (xdl d6)]) (st' := [(.int (x4 + (1 : Int32))), (.ref 1000), (.ref 32)]) (μ' := m79) rfl ?_
  refine XB.gd (pc' := 1433) (ls' := [some (.ref 1000), some (.ref 0), some (.ref 32), some (.ref 56), some (.int x4), some (.int r80), (xdl d6)]) (st' := [(.int (xs ((x4 + (1 : Int32))).toNatClampNeg)), (.ref 32)]) (μ' := m79) rfl rfl rfl (fun hb => xbT hb) ?_
  refine XB.go 4 (pc' := 1438) (ls' := [some (.ref 1000), some (.ref 0), some (.ref 32), some (.ref 56), some (.int x4), some (.int r80), (xdl d6)]) (st' := [(.int (x4 + (2 : Int32))), (.ref 1000), (.int (xs ((x4 + (1 : Int32))).toNatClampNeg)), (.ref 32)]) (μ' := m79) rfl ?_
  refine XB.gd (pc' := 1439) (ls' := [some (.ref 1000), some (.ref 0), some (.ref 32), some (.ref 56), some (.int x4), some (.int r80), (xdl d6)]) (st' := [(.int (xs ((x4 + (2 : Int32))).toNatClampNeg)), (.int (xs ((x4 + (1 : Int32))).toNatClampNeg)), (.ref 32)]) (μ' := m79) rfl rfl rfl (fun hb => xbT hb) ?_
  refine XB.ci rfl rfl rfl rfl rfl (yM_peer_ok (xs ((x4 + (1 : Int32))).toNatClampNeg) (xs ((x4 + (2 : Int32))).toNatClampNeg) m79) (fun r82 m81 => ?_)
  refine XB.go 2 (pc' := 1445) (ls' := [some (.ref 1000), some (.ref 0), some (.ref 32), some (.ref 56), some (.int x4), some (.int r80), some (.int r82)]) (st' := [(.ref 32)]) (μ' := m81) rfl ?_
  refine XB.cp rfl rfl rfl (yM_thrown_ok m81) ?_
  refine XB.go 1 (pc' := 1450) (ls' := [some (.ref 1000), some (.ref 0), some (.ref 32), some (.ref 56), some (.int x4), some (.int r80), some (.int r82)]) (st' := [(.int r80), (.int (yM_thrown m81))]) (μ' := m81) rfl ?_
  refine XB.icmp (P := (yM_thrown m81) = r80) rfl rfl rfl (fun c1450 => ?_) (fun c1450 => ?_)
  · refine XB.go 1 (pc' := 1457) (ls' := [some (.ref 1000), some (.ref 0), some (.ref 32), some (.ref 56), some (.int x4), some (.int r80), some (.int r82)]) (st' := [(.int r80)]) (μ' := m81) rfl ?_
    refine XB.ifz (P := ¬ r80 = (0 : Int32)) rfl rfl rfl (fun c1457 => ?_) (fun c1457 => ?_)
    · refine XB.go 1 (pc' := 1723) (ls' := [some (.ref 1000), some (.ref 0), some (.ref 32), some (.ref 56), some (.int x4), some (.int r80), some (.int r82)]) (st' := []) (μ' := m81) rfl ?_
      exact yW_law_b1723_ok k55 hk55 (some r80) (some r82) x4 m81
    · refine XB.go 6 (pc' := 1467) (ls' := [some (.ref 1000), some (.ref 0), some (.ref 32), some (.ref 56), some (.int x4), some (.int r80), some (.int r82)]) (st' := [(.int (lg_cmp (m81.2.2 56 0) (r82).toInt64))]) (μ' := m81) rfl ?_
      refine XB.ifz (P := (lg_cmp (m81.2.2 56 0) (r82).toInt64) = (0 : Int32)) rfl rfl rfl (fun c1467 => ?_) (fun c1467 => ?_)
      · refine XB.go 1 (pc' := 1723) (ls' := [some (.ref 1000), some (.ref 0), some (.ref 32), some (.ref 56), some (.int x4), some (.int r80), some (.int r82)]) (st' := []) (μ' := m81) rfl ?_
        exact yW_law_b1723_ok k55 hk55 (some r80) (some r82) x4 m81
      · refine XB.go 1 (pc' := 1471) (ls' := [some (.ref 1000), some (.ref 0), some (.ref 32), some (.ref 56), some (.int x4), some (.int r80), some (.int r82)]) (st' := [(.int (0 : Int32))]) (μ' := m81) rfl ?_
        exact XB.fin rfl
  · refine XB.go 1 (pc' := 1454) (ls' := [some (.ref 1000), some (.ref 0), some (.ref 32), some (.ref 56), some (.int x4), some (.int r80), some (.int r82)]) (st' := [(.int (0 : Int32))]) (μ' := m81) rfl ?_
    exact XB.fin rfl
set_option maxRecDepth 16384 in
def yW_law_b1475 (L : Nat) (xs : Nat → Int32) (k55 : Int32 → XMu → XRes) (x4 : Int32) (μ : XMu) : XRes := xgd (xin (x4 + (1 : Int32)) L) (xgd (xin (x4 + (2 : Int32)) L) (xbi (yW_letter (xs ((x4 + (1 : Int32))).toNatClampNeg) (xs ((x4 + (2 : Int32))).toNatClampNeg) μ) (fun r84 m83 => xgd (xin (x4 + (1 : Int32)) L) (xgd (xin (x4 + (2 : Int32)) L) (xbi (yM_letter (xs ((x4 + (1 : Int32))).toNatClampNeg) (xs ((x4 + (2 : Int32))).toNatClampNeg) m83) (fun r86 m85 => (if (yM_thrown m85) = r84 then (if ¬ r84 = (0 : Int32) then yW_law_b1723 L xs k55 x4 m85 else (if (lg_cmp (m85.2.2 56 0) (r86).toInt64) = (0 : Int32) then yW_law_b1723 L xs k55 x4 m85 else some (.inl (some (.int (0 : Int32))), m85))) else some (.inl (some (.int (0 : Int32))), m85))))))))
set_option maxRecDepth 16384 in
theorem yW_law_b1475_ok {L : Nat} {xs : Nat → Int32} (k55 : Int32 → XMu → XRes) (hk55 : ∀ (d5 : Option Int32) (d6 : Option Int32) (x4 : Int32) (μ : XMu), XB L xs 235 55 [some (.ref 1000), some (.ref 0), some (.ref 32), some (.ref 56), some (.int x4), (xdl d5), (xdl d6)] [] μ (k55 x4 μ)) (d5 : Option Int32) (d6 : Option Int32) (x4 : Int32) (μ : XMu) : XB L xs 235 1475 [some (.ref 1000), some (.ref 0), some (.ref 32), some (.ref 56), some (.int x4), (xdl d5), (xdl d6)] [] μ (yW_law_b1475 L xs k55 x4 μ) := by
  unfold yW_law_b1475
  refine XB.go 5 (pc' := 1481) (ls' := [some (.ref 1000), some (.ref 0), some (.ref 32), some (.ref 56), some (.int x4), (xdl d5), (xdl d6)]) (st' := [(.int (x4 + (1 : Int32))), (.ref 1000), (.ref 0)]) (μ' := μ) rfl ?_
  refine XB.gd (pc' := 1482) (ls' := [some (.ref 1000), some (.ref 0), some (.ref 32), some (.ref 56), some (.int x4), (xdl d5), (xdl d6)]) (st' := [(.int (xs ((x4 + (1 : Int32))).toNatClampNeg)), (.ref 0)]) (μ' := μ) rfl rfl rfl (fun hb => xbT hb) ?_
  refine XB.go 4 (pc' := 1487) (ls' := [some (.ref 1000), some (.ref 0), some (.ref 32), some (.ref 56), some (.int x4), (xdl d5), (xdl d6)]) (st' := [(.int (x4 + (2 : Int32))), (.ref 1000), (.int (xs ((x4 + (1 : Int32))).toNatClampNeg)), (.ref 0)]) (μ' := μ) rfl ?_
  refine XB.gd (pc' := 1488) (ls' := [some (.ref 1000), some (.ref 0), some (.ref 32), some (.ref 56), some (.int x4), (xdl d5), (xdl d6)]) (st' := [(.int (xs ((x4 + (2 : Int32))).toNatClampNeg)), (.int (xs ((x4 + (1 : Int32))).toNatClampNeg)), (.ref 0)]) (μ' := μ) rfl rfl rfl (fun hb => xbT hb) ?_
  refine XB.go 1 (pc' := 1489) (ls' := [some (.ref 1000), some (.ref 0), some (.ref 32), some (.ref 56), some (.int x4), (xdl d5), (xdl d6)]) (st' := [(.ref 56), (.int (xs ((x4 + (2 : Int32))).toNatClampNeg)), (.int (xs ((x4 + (1 : Int32))).toNatClampNeg)), (.ref 0)]) (μ' := μ) rfl ?_
  refine XB.ci rfl rfl rfl rfl rfl (yW_letter_ok (xs ((x4 + (1 : Int32))).toNatClampNeg) (xs ((x4 + (2 : Int32))).toNatClampNeg) μ) (fun r84 m83 => ?_)
  refine XB.go 6 (pc' := 1500) (ls' := [some (.ref 1000), some (.ref 0), some (.ref 32), some (.ref 56), some (.int x4), some (.int r84), (xdl d6)]) (st' := [(.int (x4 + (1 : Int32))), (.ref 1000), (.ref 32)]) (μ' := m83) rfl ?_
  refine XB.gd (pc' := 1501) (ls' := [some (.ref 1000), some (.ref 0), some (.ref 32), some (.ref 56), some (.int x4), some (.int r84), (xdl d6)]) (st' := [(.int (xs ((x4 + (1 : Int32))).toNatClampNeg)), (.ref 32)]) (μ' := m83) rfl rfl rfl (fun hb => xbT hb) ?_
  refine XB.go 4 (pc' := 1506) (ls' := [some (.ref 1000), some (.ref 0), some (.ref 32), some (.ref 56), some (.int x4), some (.int r84), (xdl d6)]) (st' := [(.int (x4 + (2 : Int32))), (.ref 1000), (.int (xs ((x4 + (1 : Int32))).toNatClampNeg)), (.ref 32)]) (μ' := m83) rfl ?_
  refine XB.gd (pc' := 1507) (ls' := [some (.ref 1000), some (.ref 0), some (.ref 32), some (.ref 56), some (.int x4), some (.int r84), (xdl d6)]) (st' := [(.int (xs ((x4 + (2 : Int32))).toNatClampNeg)), (.int (xs ((x4 + (1 : Int32))).toNatClampNeg)), (.ref 32)]) (μ' := m83) rfl rfl rfl (fun hb => xbT hb) ?_
  refine XB.ci rfl rfl rfl rfl rfl (yM_letter_ok (xs ((x4 + (1 : Int32))).toNatClampNeg) (xs ((x4 + (2 : Int32))).toNatClampNeg) m83) (fun r86 m85 => ?_)
  refine XB.go 2 (pc' := 1513) (ls' := [some (.ref 1000), some (.ref 0), some (.ref 32), some (.ref 56), some (.int x4), some (.int r84), some (.int r86)]) (st' := [(.ref 32)]) (μ' := m85) rfl ?_
  refine XB.cp rfl rfl rfl (yM_thrown_ok m85) ?_
  refine XB.go 1 (pc' := 1518) (ls' := [some (.ref 1000), some (.ref 0), some (.ref 32), some (.ref 56), some (.int x4), some (.int r84), some (.int r86)]) (st' := [(.int r84), (.int (yM_thrown m85))]) (μ' := m85) rfl ?_
  refine XB.icmp (P := (yM_thrown m85) = r84) rfl rfl rfl (fun c1518 => ?_) (fun c1518 => ?_)
  · refine XB.go 1 (pc' := 1525) (ls' := [some (.ref 1000), some (.ref 0), some (.ref 32), some (.ref 56), some (.int x4), some (.int r84), some (.int r86)]) (st' := [(.int r84)]) (μ' := m85) rfl ?_
    refine XB.ifz (P := ¬ r84 = (0 : Int32)) rfl rfl rfl (fun c1525 => ?_) (fun c1525 => ?_)
    · refine XB.go 1 (pc' := 1723) (ls' := [some (.ref 1000), some (.ref 0), some (.ref 32), some (.ref 56), some (.int x4), some (.int r84), some (.int r86)]) (st' := []) (μ' := m85) rfl ?_
      exact yW_law_b1723_ok k55 hk55 (some r84) (some r86) x4 m85
    · refine XB.go 6 (pc' := 1535) (ls' := [some (.ref 1000), some (.ref 0), some (.ref 32), some (.ref 56), some (.int x4), some (.int r84), some (.int r86)]) (st' := [(.int (lg_cmp (m85.2.2 56 0) (r86).toInt64))]) (μ' := m85) rfl ?_
      refine XB.ifz (P := (lg_cmp (m85.2.2 56 0) (r86).toInt64) = (0 : Int32)) rfl rfl rfl (fun c1535 => ?_) (fun c1535 => ?_)
      · refine XB.go 1 (pc' := 1723) (ls' := [some (.ref 1000), some (.ref 0), some (.ref 32), some (.ref 56), some (.int x4), some (.int r84), some (.int r86)]) (st' := []) (μ' := m85) rfl ?_
        exact yW_law_b1723_ok k55 hk55 (some r84) (some r86) x4 m85
      · refine XB.go 1 (pc' := 1539) (ls' := [some (.ref 1000), some (.ref 0), some (.ref 32), some (.ref 56), some (.int x4), some (.int r84), some (.int r86)]) (st' := [(.int (0 : Int32))]) (μ' := m85) rfl ?_
        exact XB.fin rfl
  · refine XB.go 1 (pc' := 1522) (ls' := [some (.ref 1000), some (.ref 0), some (.ref 32), some (.ref 56), some (.int x4), some (.int r84), some (.int r86)]) (st' := [(.int (0 : Int32))]) (μ' := m85) rfl ?_
    exact XB.fin rfl
set_option maxRecDepth 16384 in
def yW_law_b1543 (L : Nat) (xs : Nat → Int32) (k55 : Int32 → XMu → XRes) (x4 : Int32) (μ : XMu) : XRes := xgd (xin (x4 + (1 : Int32)) L) (xgd (xin (x4 + (2 : Int32)) L) (xbi (yW_done (xs ((x4 + (1 : Int32))).toNatClampNeg) (xs ((x4 + (2 : Int32))).toNatClampNeg) μ) (fun r88 m87 => xgd (xin (x4 + (1 : Int32)) L) (xgd (xin (x4 + (2 : Int32)) L) (xbi (yM_done (xs ((x4 + (1 : Int32))).toNatClampNeg) (xs ((x4 + (2 : Int32))).toNatClampNeg) m87) (fun r90 m89 => (if (yM_thrown m89) = r88 then (if ¬ r88 = (0 : Int32) then yW_law_b1723 L xs k55 x4 m89 else (if (lg_cmp (m89.2.2 56 0) (r90).toInt64) = (0 : Int32) then yW_law_b1723 L xs k55 x4 m89 else some (.inl (some (.int (0 : Int32))), m89))) else some (.inl (some (.int (0 : Int32))), m89))))))))
set_option maxRecDepth 16384 in
theorem yW_law_b1543_ok {L : Nat} {xs : Nat → Int32} (k55 : Int32 → XMu → XRes) (hk55 : ∀ (d5 : Option Int32) (d6 : Option Int32) (x4 : Int32) (μ : XMu), XB L xs 235 55 [some (.ref 1000), some (.ref 0), some (.ref 32), some (.ref 56), some (.int x4), (xdl d5), (xdl d6)] [] μ (k55 x4 μ)) (d5 : Option Int32) (d6 : Option Int32) (x4 : Int32) (μ : XMu) : XB L xs 235 1543 [some (.ref 1000), some (.ref 0), some (.ref 32), some (.ref 56), some (.int x4), (xdl d5), (xdl d6)] [] μ (yW_law_b1543 L xs k55 x4 μ) := by
  unfold yW_law_b1543
  refine XB.go 5 (pc' := 1549) (ls' := [some (.ref 1000), some (.ref 0), some (.ref 32), some (.ref 56), some (.int x4), (xdl d5), (xdl d6)]) (st' := [(.int (x4 + (1 : Int32))), (.ref 1000), (.ref 0)]) (μ' := μ) rfl ?_
  refine XB.gd (pc' := 1550) (ls' := [some (.ref 1000), some (.ref 0), some (.ref 32), some (.ref 56), some (.int x4), (xdl d5), (xdl d6)]) (st' := [(.int (xs ((x4 + (1 : Int32))).toNatClampNeg)), (.ref 0)]) (μ' := μ) rfl rfl rfl (fun hb => xbT hb) ?_
  refine XB.go 4 (pc' := 1555) (ls' := [some (.ref 1000), some (.ref 0), some (.ref 32), some (.ref 56), some (.int x4), (xdl d5), (xdl d6)]) (st' := [(.int (x4 + (2 : Int32))), (.ref 1000), (.int (xs ((x4 + (1 : Int32))).toNatClampNeg)), (.ref 0)]) (μ' := μ) rfl ?_
  refine XB.gd (pc' := 1556) (ls' := [some (.ref 1000), some (.ref 0), some (.ref 32), some (.ref 56), some (.int x4), (xdl d5), (xdl d6)]) (st' := [(.int (xs ((x4 + (2 : Int32))).toNatClampNeg)), (.int (xs ((x4 + (1 : Int32))).toNatClampNeg)), (.ref 0)]) (μ' := μ) rfl rfl rfl (fun hb => xbT hb) ?_
  refine XB.go 1 (pc' := 1557) (ls' := [some (.ref 1000), some (.ref 0), some (.ref 32), some (.ref 56), some (.int x4), (xdl d5), (xdl d6)]) (st' := [(.ref 56), (.int (xs ((x4 + (2 : Int32))).toNatClampNeg)), (.int (xs ((x4 + (1 : Int32))).toNatClampNeg)), (.ref 0)]) (μ' := μ) rfl ?_
  refine XB.ci rfl rfl rfl rfl rfl (yW_done_ok (xs ((x4 + (1 : Int32))).toNatClampNeg) (xs ((x4 + (2 : Int32))).toNatClampNeg) μ) (fun r88 m87 => ?_)
  refine XB.go 6 (pc' := 1568) (ls' := [some (.ref 1000), some (.ref 0), some (.ref 32), some (.ref 56), some (.int x4), some (.int r88), (xdl d6)]) (st' := [(.int (x4 + (1 : Int32))), (.ref 1000), (.ref 32)]) (μ' := m87) rfl ?_
  refine XB.gd (pc' := 1569) (ls' := [some (.ref 1000), some (.ref 0), some (.ref 32), some (.ref 56), some (.int x4), some (.int r88), (xdl d6)]) (st' := [(.int (xs ((x4 + (1 : Int32))).toNatClampNeg)), (.ref 32)]) (μ' := m87) rfl rfl rfl (fun hb => xbT hb) ?_
  refine XB.go 4 (pc' := 1574) (ls' := [some (.ref 1000), some (.ref 0), some (.ref 32), some (.ref 56), some (.int x4), some (.int r88), (xdl d6)]) (st' := [(.int (x4 + (2 : Int32))), (.ref 1000), (.int (xs ((x4 + (1 : Int32))).toNatClampNeg)), (.ref 32)]) (μ' := m87) rfl ?_
  refine XB.gd (pc' := 1575) (ls' := [some (.ref 1000), some (.ref 0), some (.ref 32), some (.ref 56), some (.int x4), some (.int r88), (xdl d6)]) (st' := [(.int (xs ((x4 + (2 : Int32))).toNatClampNeg)), (.int (xs ((x4 + (1 : Int32))).toNatClampNeg)), (.ref 32)]) (μ' := m87) rfl rfl rfl (fun hb => xbT hb) ?_
  refine XB.ci rfl rfl rfl rfl rfl (yM_done_ok (xs ((x4 + (1 : Int32))).toNatClampNeg) (xs ((x4 + (2 : Int32))).toNatClampNeg) m87) (fun r90 m89 => ?_)
  refine XB.go 2 (pc' := 1581) (ls' := [some (.ref 1000), some (.ref 0), some (.ref 32), some (.ref 56), some (.int x4), some (.int r88), some (.int r90)]) (st' := [(.ref 32)]) (μ' := m89) rfl ?_
  refine XB.cp rfl rfl rfl (yM_thrown_ok m89) ?_
  refine XB.go 1 (pc' := 1586) (ls' := [some (.ref 1000), some (.ref 0), some (.ref 32), some (.ref 56), some (.int x4), some (.int r88), some (.int r90)]) (st' := [(.int r88), (.int (yM_thrown m89))]) (μ' := m89) rfl ?_
  refine XB.icmp (P := (yM_thrown m89) = r88) rfl rfl rfl (fun c1586 => ?_) (fun c1586 => ?_)
  · refine XB.go 1 (pc' := 1593) (ls' := [some (.ref 1000), some (.ref 0), some (.ref 32), some (.ref 56), some (.int x4), some (.int r88), some (.int r90)]) (st' := [(.int r88)]) (μ' := m89) rfl ?_
    refine XB.ifz (P := ¬ r88 = (0 : Int32)) rfl rfl rfl (fun c1593 => ?_) (fun c1593 => ?_)
    · refine XB.go 1 (pc' := 1723) (ls' := [some (.ref 1000), some (.ref 0), some (.ref 32), some (.ref 56), some (.int x4), some (.int r88), some (.int r90)]) (st' := []) (μ' := m89) rfl ?_
      exact yW_law_b1723_ok k55 hk55 (some r88) (some r90) x4 m89
    · refine XB.go 6 (pc' := 1603) (ls' := [some (.ref 1000), some (.ref 0), some (.ref 32), some (.ref 56), some (.int x4), some (.int r88), some (.int r90)]) (st' := [(.int (lg_cmp (m89.2.2 56 0) (r90).toInt64))]) (μ' := m89) rfl ?_
      refine XB.ifz (P := (lg_cmp (m89.2.2 56 0) (r90).toInt64) = (0 : Int32)) rfl rfl rfl (fun c1603 => ?_) (fun c1603 => ?_)
      · refine XB.go 1 (pc' := 1723) (ls' := [some (.ref 1000), some (.ref 0), some (.ref 32), some (.ref 56), some (.int x4), some (.int r88), some (.int r90)]) (st' := []) (μ' := m89) rfl ?_
        exact yW_law_b1723_ok k55 hk55 (some r88) (some r90) x4 m89
      · refine XB.go 1 (pc' := 1607) (ls' := [some (.ref 1000), some (.ref 0), some (.ref 32), some (.ref 56), some (.int x4), some (.int r88), some (.int r90)]) (st' := [(.int (0 : Int32))]) (μ' := m89) rfl ?_
        exact XB.fin rfl
  · refine XB.go 1 (pc' := 1590) (ls' := [some (.ref 1000), some (.ref 0), some (.ref 32), some (.ref 56), some (.int x4), some (.int r88), some (.int r90)]) (st' := [(.int (0 : Int32))]) (μ' := m89) rfl ?_
    exact XB.fin rfl
set_option maxRecDepth 16384 in
def yW_law_b1611 (L : Nat) (xs : Nat → Int32) (k55 : Int32 → XMu → XRes) (x4 : Int32) (μ : XMu) : XRes := xgd (xin (x4 + (1 : Int32)) L) (xbi (yW_call (xs ((x4 + (1 : Int32))).toNatClampNeg) μ) (fun r92 m91 => xgd (xin (x4 + (1 : Int32)) L) (xbi (yM_call (xs ((x4 + (1 : Int32))).toNatClampNeg) m91) (fun r94 m93 => (if (yM_thrown m93) = r92 then (if ¬ r92 = (0 : Int32) then yW_law_b1723 L xs k55 x4 m93 else (if (lg_cmp (m93.2.2 56 0) (r94).toInt64) = (0 : Int32) then yW_law_b1723 L xs k55 x4 m93 else some (.inl (some (.int (0 : Int32))), m93))) else some (.inl (some (.int (0 : Int32))), m93))))))
set_option maxRecDepth 16384 in
theorem yW_law_b1611_ok {L : Nat} {xs : Nat → Int32} (k55 : Int32 → XMu → XRes) (hk55 : ∀ (d5 : Option Int32) (d6 : Option Int32) (x4 : Int32) (μ : XMu), XB L xs 235 55 [some (.ref 1000), some (.ref 0), some (.ref 32), some (.ref 56), some (.int x4), (xdl d5), (xdl d6)] [] μ (k55 x4 μ)) (d5 : Option Int32) (d6 : Option Int32) (x4 : Int32) (μ : XMu) : XB L xs 235 1611 [some (.ref 1000), some (.ref 0), some (.ref 32), some (.ref 56), some (.int x4), (xdl d5), (xdl d6)] [] μ (yW_law_b1611 L xs k55 x4 μ) := by
  unfold yW_law_b1611
  refine XB.go 5 (pc' := 1617) (ls' := [some (.ref 1000), some (.ref 0), some (.ref 32), some (.ref 56), some (.int x4), (xdl d5), (xdl d6)]) (st' := [(.int (x4 + (1 : Int32))), (.ref 1000), (.ref 0)]) (μ' := μ) rfl ?_
  refine XB.gd (pc' := 1618) (ls' := [some (.ref 1000), some (.ref 0), some (.ref 32), some (.ref 56), some (.int x4), (xdl d5), (xdl d6)]) (st' := [(.int (xs ((x4 + (1 : Int32))).toNatClampNeg)), (.ref 0)]) (μ' := μ) rfl rfl rfl (fun hb => xbT hb) ?_
  refine XB.go 1 (pc' := 1619) (ls' := [some (.ref 1000), some (.ref 0), some (.ref 32), some (.ref 56), some (.int x4), (xdl d5), (xdl d6)]) (st' := [(.ref 56), (.int (xs ((x4 + (1 : Int32))).toNatClampNeg)), (.ref 0)]) (μ' := μ) rfl ?_
  refine XB.ci rfl rfl rfl rfl rfl (yW_call_ok (xs ((x4 + (1 : Int32))).toNatClampNeg) μ) (fun r92 m91 => ?_)
  refine XB.go 6 (pc' := 1630) (ls' := [some (.ref 1000), some (.ref 0), some (.ref 32), some (.ref 56), some (.int x4), some (.int r92), (xdl d6)]) (st' := [(.int (x4 + (1 : Int32))), (.ref 1000), (.ref 32)]) (μ' := m91) rfl ?_
  refine XB.gd (pc' := 1631) (ls' := [some (.ref 1000), some (.ref 0), some (.ref 32), some (.ref 56), some (.int x4), some (.int r92), (xdl d6)]) (st' := [(.int (xs ((x4 + (1 : Int32))).toNatClampNeg)), (.ref 32)]) (μ' := m91) rfl rfl rfl (fun hb => xbT hb) ?_
  refine XB.ci rfl rfl rfl rfl rfl (yM_call_ok (xs ((x4 + (1 : Int32))).toNatClampNeg) m91) (fun r94 m93 => ?_)
  refine XB.go 2 (pc' := 1637) (ls' := [some (.ref 1000), some (.ref 0), some (.ref 32), some (.ref 56), some (.int x4), some (.int r92), some (.int r94)]) (st' := [(.ref 32)]) (μ' := m93) rfl ?_
  refine XB.cp rfl rfl rfl (yM_thrown_ok m93) ?_
  refine XB.go 1 (pc' := 1642) (ls' := [some (.ref 1000), some (.ref 0), some (.ref 32), some (.ref 56), some (.int x4), some (.int r92), some (.int r94)]) (st' := [(.int r92), (.int (yM_thrown m93))]) (μ' := m93) rfl ?_
  refine XB.icmp (P := (yM_thrown m93) = r92) rfl rfl rfl (fun c1642 => ?_) (fun c1642 => ?_)
  · refine XB.go 1 (pc' := 1649) (ls' := [some (.ref 1000), some (.ref 0), some (.ref 32), some (.ref 56), some (.int x4), some (.int r92), some (.int r94)]) (st' := [(.int r92)]) (μ' := m93) rfl ?_
    refine XB.ifz (P := ¬ r92 = (0 : Int32)) rfl rfl rfl (fun c1649 => ?_) (fun c1649 => ?_)
    · refine XB.go 1 (pc' := 1723) (ls' := [some (.ref 1000), some (.ref 0), some (.ref 32), some (.ref 56), some (.int x4), some (.int r92), some (.int r94)]) (st' := []) (μ' := m93) rfl ?_
      exact yW_law_b1723_ok k55 hk55 (some r92) (some r94) x4 m93
    · refine XB.go 6 (pc' := 1659) (ls' := [some (.ref 1000), some (.ref 0), some (.ref 32), some (.ref 56), some (.int x4), some (.int r92), some (.int r94)]) (st' := [(.int (lg_cmp (m93.2.2 56 0) (r94).toInt64))]) (μ' := m93) rfl ?_
      refine XB.ifz (P := (lg_cmp (m93.2.2 56 0) (r94).toInt64) = (0 : Int32)) rfl rfl rfl (fun c1659 => ?_) (fun c1659 => ?_)
      · refine XB.go 1 (pc' := 1723) (ls' := [some (.ref 1000), some (.ref 0), some (.ref 32), some (.ref 56), some (.int x4), some (.int r92), some (.int r94)]) (st' := []) (μ' := m93) rfl ?_
        exact yW_law_b1723_ok k55 hk55 (some r92) (some r94) x4 m93
      · refine XB.go 1 (pc' := 1663) (ls' := [some (.ref 1000), some (.ref 0), some (.ref 32), some (.ref 56), some (.int x4), some (.int r92), some (.int r94)]) (st' := [(.int (0 : Int32))]) (μ' := m93) rfl ?_
        exact XB.fin rfl
  · refine XB.go 1 (pc' := 1646) (ls' := [some (.ref 1000), some (.ref 0), some (.ref 32), some (.ref 56), some (.int x4), some (.int r92), some (.int r94)]) (st' := [(.int (0 : Int32))]) (μ' := m93) rfl ?_
    exact XB.fin rfl
set_option maxRecDepth 16384 in
def yW_law_b1667 (L : Nat) (xs : Nat → Int32) (k55 : Int32 → XMu → XRes) (x4 : Int32) (μ : XMu) : XRes := xgd (xin (x4 + (1 : Int32)) L) (xbi (yW_callFor (xs ((x4 + (1 : Int32))).toNatClampNeg) μ) (fun r96 m95 => xgd (xin (x4 + (1 : Int32)) L) (xbi (yM_callFor (xs ((x4 + (1 : Int32))).toNatClampNeg) m95) (fun r98 m97 => (if (yM_thrown m97) = r96 then (if ¬ r96 = (0 : Int32) then yW_law_b1723 L xs k55 x4 m97 else (if (lg_cmp (m97.2.2 56 0) (r98).toInt64) = (0 : Int32) then yW_law_b1723 L xs k55 x4 m97 else some (.inl (some (.int (0 : Int32))), m97))) else some (.inl (some (.int (0 : Int32))), m97))))))
set_option maxRecDepth 16384 in
theorem yW_law_b1667_ok {L : Nat} {xs : Nat → Int32} (k55 : Int32 → XMu → XRes) (hk55 : ∀ (d5 : Option Int32) (d6 : Option Int32) (x4 : Int32) (μ : XMu), XB L xs 235 55 [some (.ref 1000), some (.ref 0), some (.ref 32), some (.ref 56), some (.int x4), (xdl d5), (xdl d6)] [] μ (k55 x4 μ)) (d5 : Option Int32) (d6 : Option Int32) (x4 : Int32) (μ : XMu) : XB L xs 235 1667 [some (.ref 1000), some (.ref 0), some (.ref 32), some (.ref 56), some (.int x4), (xdl d5), (xdl d6)] [] μ (yW_law_b1667 L xs k55 x4 μ) := by
  unfold yW_law_b1667
  refine XB.go 5 (pc' := 1673) (ls' := [some (.ref 1000), some (.ref 0), some (.ref 32), some (.ref 56), some (.int x4), (xdl d5), (xdl d6)]) (st' := [(.int (x4 + (1 : Int32))), (.ref 1000), (.ref 0)]) (μ' := μ) rfl ?_
  refine XB.gd (pc' := 1674) (ls' := [some (.ref 1000), some (.ref 0), some (.ref 32), some (.ref 56), some (.int x4), (xdl d5), (xdl d6)]) (st' := [(.int (xs ((x4 + (1 : Int32))).toNatClampNeg)), (.ref 0)]) (μ' := μ) rfl rfl rfl (fun hb => xbT hb) ?_
  refine XB.go 1 (pc' := 1675) (ls' := [some (.ref 1000), some (.ref 0), some (.ref 32), some (.ref 56), some (.int x4), (xdl d5), (xdl d6)]) (st' := [(.ref 56), (.int (xs ((x4 + (1 : Int32))).toNatClampNeg)), (.ref 0)]) (μ' := μ) rfl ?_
  refine XB.ci rfl rfl rfl rfl rfl (yW_callFor_ok (xs ((x4 + (1 : Int32))).toNatClampNeg) μ) (fun r96 m95 => ?_)
  refine XB.go 6 (pc' := 1686) (ls' := [some (.ref 1000), some (.ref 0), some (.ref 32), some (.ref 56), some (.int x4), some (.int r96), (xdl d6)]) (st' := [(.int (x4 + (1 : Int32))), (.ref 1000), (.ref 32)]) (μ' := m95) rfl ?_
  refine XB.gd (pc' := 1687) (ls' := [some (.ref 1000), some (.ref 0), some (.ref 32), some (.ref 56), some (.int x4), some (.int r96), (xdl d6)]) (st' := [(.int (xs ((x4 + (1 : Int32))).toNatClampNeg)), (.ref 32)]) (μ' := m95) rfl rfl rfl (fun hb => xbT hb) ?_
  refine XB.ci rfl rfl rfl rfl rfl (yM_callFor_ok (xs ((x4 + (1 : Int32))).toNatClampNeg) m95) (fun r98 m97 => ?_)
  refine XB.go 2 (pc' := 1693) (ls' := [some (.ref 1000), some (.ref 0), some (.ref 32), some (.ref 56), some (.int x4), some (.int r96), some (.int r98)]) (st' := [(.ref 32)]) (μ' := m97) rfl ?_
  refine XB.cp rfl rfl rfl (yM_thrown_ok m97) ?_
  refine XB.go 1 (pc' := 1698) (ls' := [some (.ref 1000), some (.ref 0), some (.ref 32), some (.ref 56), some (.int x4), some (.int r96), some (.int r98)]) (st' := [(.int r96), (.int (yM_thrown m97))]) (μ' := m97) rfl ?_
  refine XB.icmp (P := (yM_thrown m97) = r96) rfl rfl rfl (fun c1698 => ?_) (fun c1698 => ?_)
  · refine XB.go 1 (pc' := 1705) (ls' := [some (.ref 1000), some (.ref 0), some (.ref 32), some (.ref 56), some (.int x4), some (.int r96), some (.int r98)]) (st' := [(.int r96)]) (μ' := m97) rfl ?_
    refine XB.ifz (P := ¬ r96 = (0 : Int32)) rfl rfl rfl (fun c1705 => ?_) (fun c1705 => ?_)
    · refine XB.go 1 (pc' := 1723) (ls' := [some (.ref 1000), some (.ref 0), some (.ref 32), some (.ref 56), some (.int x4), some (.int r96), some (.int r98)]) (st' := []) (μ' := m97) rfl ?_
      exact yW_law_b1723_ok k55 hk55 (some r96) (some r98) x4 m97
    · refine XB.go 6 (pc' := 1715) (ls' := [some (.ref 1000), some (.ref 0), some (.ref 32), some (.ref 56), some (.int x4), some (.int r96), some (.int r98)]) (st' := [(.int (lg_cmp (m97.2.2 56 0) (r98).toInt64))]) (μ' := m97) rfl ?_
      refine XB.ifz (P := (lg_cmp (m97.2.2 56 0) (r98).toInt64) = (0 : Int32)) rfl rfl rfl (fun c1715 => ?_) (fun c1715 => ?_)
      · refine XB.go 1 (pc' := 1723) (ls' := [some (.ref 1000), some (.ref 0), some (.ref 32), some (.ref 56), some (.int x4), some (.int r96), some (.int r98)]) (st' := []) (μ' := m97) rfl ?_
        exact yW_law_b1723_ok k55 hk55 (some r96) (some r98) x4 m97
      · refine XB.go 1 (pc' := 1719) (ls' := [some (.ref 1000), some (.ref 0), some (.ref 32), some (.ref 56), some (.int x4), some (.int r96), some (.int r98)]) (st' := [(.int (0 : Int32))]) (μ' := m97) rfl ?_
        exact XB.fin rfl
  · refine XB.go 1 (pc' := 1702) (ls' := [some (.ref 1000), some (.ref 0), some (.ref 32), some (.ref 56), some (.int x4), some (.int r96), some (.int r98)]) (st' := [(.int (0 : Int32))]) (μ' := m97) rfl ?_
    exact XB.fin rfl
set_option maxRecDepth 16384 in
def yW_law_b55 (L : Nat) (xs : Nat → Int32) (k55 : Int32 → XMu → XRes) (x4 : Int32) (μ : XMu) : XRes := (if ((Int32.ofNat L) - (7 : Int32)) < x4 then some (.inl (some (.int (1 : Int32))), μ) else xgd (xin x4 L) ((if ((xs (x4).toNatClampNeg) &&& (31 : Int32)) = (0 : Int32) then yW_law_b196 L xs k55 x4 μ else (if ((xs (x4).toNatClampNeg) &&& (31 : Int32)) = (1 : Int32) then yW_law_b259 L xs k55 x4 μ else (if ((xs (x4).toNatClampNeg) &&& (31 : Int32)) = (2 : Int32) then yW_law_b331 L xs k55 x4 μ else (if ((xs (x4).toNatClampNeg) &&& (31 : Int32)) = (3 : Int32) then yW_law_b407 L xs k55 x4 μ else (if ((xs (x4).toNatClampNeg) &&& (31 : Int32)) = (4 : Int32) then yW_law_b479 L xs k55 x4 μ else (if ((xs (x4).toNatClampNeg) &&& (31 : Int32)) = (5 : Int32) then yW_law_b555 L xs k55 x4 μ else (if ((xs (x4).toNatClampNeg) &&& (31 : Int32)) = (6 : Int32) then yW_law_b635 L xs k55 x4 μ else (if ((xs (x4).toNatClampNeg) &&& (31 : Int32)) = (7 : Int32) then yW_law_b733 L xs k55 x4 μ else (if ((xs (x4).toNatClampNeg) &&& (31 : Int32)) = (8 : Int32) then yW_law_b833 L xs k55 x4 μ else (if ((xs (x4).toNatClampNeg) &&& (31 : Int32)) = (9 : Int32) then yW_law_b905 L xs k55 x4 μ else (if ((xs (x4).toNatClampNeg) &&& (31 : Int32)) = (10 : Int32) then yW_law_b989 L xs k55 x4 μ else (if ((xs (x4).toNatClampNeg) &&& (31 : Int32)) = (11 : Int32) then yW_law_b1073 L xs k55 x4 μ else (if ((xs (x4).toNatClampNeg) &&& (31 : Int32)) = (12 : Int32) then yW_law_b1121 L xs k55 x4 μ else (if ((xs (x4).toNatClampNeg) &&& (31 : Int32)) = (13 : Int32) then yW_law_b1134 L xs k55 x4 μ else (if ((xs (x4).toNatClampNeg) &&& (31 : Int32)) = (14 : Int32) then yW_law_b1159 L xs k55 x4 μ else (if ((xs (x4).toNatClampNeg) &&& (31 : Int32)) = (15 : Int32) then yW_law_b1172 L xs k55 x4 μ else (if ((xs (x4).toNatClampNeg) &&& (31 : Int32)) = (16 : Int32) then yW_law_b1197 L xs k55 x4 μ else (if ((xs (x4).toNatClampNeg) &&& (31 : Int32)) = (17 : Int32) then yW_law_b1222 L xs k55 x4 μ else (if ((xs (x4).toNatClampNeg) &&& (31 : Int32)) = (18 : Int32) then yW_law_b1247 L xs k55 x4 μ else (if ((xs (x4).toNatClampNeg) &&& (31 : Int32)) = (19 : Int32) then yW_law_b1272 L xs k55 x4 μ else (if ((xs (x4).toNatClampNeg) &&& (31 : Int32)) = (20 : Int32) then yW_law_b1283 L xs k55 x4 μ else (if ((xs (x4).toNatClampNeg) &&& (31 : Int32)) = (21 : Int32) then yW_law_b1339 L xs k55 x4 μ else (if ((xs (x4).toNatClampNeg) &&& (31 : Int32)) = (22 : Int32) then yW_law_b1407 L xs k55 x4 μ else (if ((xs (x4).toNatClampNeg) &&& (31 : Int32)) = (23 : Int32) then yW_law_b1475 L xs k55 x4 μ else (if ((xs (x4).toNatClampNeg) &&& (31 : Int32)) = (24 : Int32) then yW_law_b1543 L xs k55 x4 μ else (if ((xs (x4).toNatClampNeg) &&& (31 : Int32)) = (25 : Int32) then yW_law_b1611 L xs k55 x4 μ else (if ((xs (x4).toNatClampNeg) &&& (31 : Int32)) = (26 : Int32) then yW_law_b1667 L xs k55 x4 μ else yW_law_b1723 L xs k55 x4 μ)))))))))))))))))))))))))))))
set_option maxRecDepth 16384 in
theorem yW_law_b55_ok {L : Nat} {xs : Nat → Int32} (k55 : Int32 → XMu → XRes) (hk55 : ∀ (d5 : Option Int32) (d6 : Option Int32) (x4 : Int32) (μ : XMu), XB L xs 235 55 [some (.ref 1000), some (.ref 0), some (.ref 32), some (.ref 56), some (.int x4), (xdl d5), (xdl d6)] [] μ (k55 x4 μ)) (d5 : Option Int32) (d6 : Option Int32) (x4 : Int32) (μ : XMu) : XB L xs 235 55 [some (.ref 1000), some (.ref 0), some (.ref 32), some (.ref 56), some (.int x4), (xdl d5), (xdl d6)] [] μ (yW_law_b55 L xs k55 x4 μ) := by
  unfold yW_law_b55
  refine XB.go 5 (pc' := 62) (ls' := [some (.ref 1000), some (.ref 0), some (.ref 32), some (.ref 56), some (.int x4), (xdl d5), (xdl d6)]) (st' := [(.int ((Int32.ofNat L) - (7 : Int32))), (.int x4)]) (μ' := μ) rfl ?_
  refine XB.icmp (P := ((Int32.ofNat L) - (7 : Int32)) < x4) rfl rfl rfl (fun c62 => ?_) (fun c62 => ?_)
  · refine XB.go 1 (pc' := 1730) (ls' := [some (.ref 1000), some (.ref 0), some (.ref 32), some (.ref 56), some (.int x4), (xdl d5), (xdl d6)]) (st' := [(.int (1 : Int32))]) (μ' := μ) rfl ?_
    exact XB.fin rfl
  · refine XB.go 2 (pc' := 68) (ls' := [some (.ref 1000), some (.ref 0), some (.ref 32), some (.ref 56), some (.int x4), (xdl d5), (xdl d6)]) (st' := [(.int x4), (.ref 1000)]) (μ' := μ) rfl ?_
    refine XB.gd (pc' := 69) (ls' := [some (.ref 1000), some (.ref 0), some (.ref 32), some (.ref 56), some (.int x4), (xdl d5), (xdl d6)]) (st' := [(.int (xs (x4).toNatClampNeg))]) (μ' := μ) rfl rfl rfl (fun hb => xbT hb) ?_
    refine XB.go 2 (pc' := 72) (ls' := [some (.ref 1000), some (.ref 0), some (.ref 32), some (.ref 56), some (.int x4), (xdl d5), (xdl d6)]) (st' := [(.int ((xs (x4).toNatClampNeg) &&& (31 : Int32)))]) (μ' := μ) rfl ?_
    refine XB.byv (v := (0 : Int32)) ?_ (fun c72_0 => ?_)
    · refine XB.go 1 (pc' := 196) (ls' := [some (.ref 1000), some (.ref 0), some (.ref 32), some (.ref 56), some (.int x4), (xdl d5), (xdl d6)]) (st' := []) (μ' := μ) rfl ?_
      exact yW_law_b196_ok k55 hk55 (d5) (d6) x4 μ
    refine XB.byv (v := (1 : Int32)) ?_ (fun c72_1 => ?_)
    · refine XB.go 1 (pc' := 259) (ls' := [some (.ref 1000), some (.ref 0), some (.ref 32), some (.ref 56), some (.int x4), (xdl d5), (xdl d6)]) (st' := []) (μ' := μ) rfl ?_
      exact yW_law_b259_ok k55 hk55 (d5) (d6) x4 μ
    refine XB.byv (v := (2 : Int32)) ?_ (fun c72_2 => ?_)
    · refine XB.go 1 (pc' := 331) (ls' := [some (.ref 1000), some (.ref 0), some (.ref 32), some (.ref 56), some (.int x4), (xdl d5), (xdl d6)]) (st' := []) (μ' := μ) rfl ?_
      exact yW_law_b331_ok k55 hk55 (d5) (d6) x4 μ
    refine XB.byv (v := (3 : Int32)) ?_ (fun c72_3 => ?_)
    · refine XB.go 1 (pc' := 407) (ls' := [some (.ref 1000), some (.ref 0), some (.ref 32), some (.ref 56), some (.int x4), (xdl d5), (xdl d6)]) (st' := []) (μ' := μ) rfl ?_
      exact yW_law_b407_ok k55 hk55 (d5) (d6) x4 μ
    refine XB.byv (v := (4 : Int32)) ?_ (fun c72_4 => ?_)
    · refine XB.go 1 (pc' := 479) (ls' := [some (.ref 1000), some (.ref 0), some (.ref 32), some (.ref 56), some (.int x4), (xdl d5), (xdl d6)]) (st' := []) (μ' := μ) rfl ?_
      exact yW_law_b479_ok k55 hk55 (d5) (d6) x4 μ
    refine XB.byv (v := (5 : Int32)) ?_ (fun c72_5 => ?_)
    · refine XB.go 1 (pc' := 555) (ls' := [some (.ref 1000), some (.ref 0), some (.ref 32), some (.ref 56), some (.int x4), (xdl d5), (xdl d6)]) (st' := []) (μ' := μ) rfl ?_
      exact yW_law_b555_ok k55 hk55 (d5) (d6) x4 μ
    refine XB.byv (v := (6 : Int32)) ?_ (fun c72_6 => ?_)
    · refine XB.go 1 (pc' := 635) (ls' := [some (.ref 1000), some (.ref 0), some (.ref 32), some (.ref 56), some (.int x4), (xdl d5), (xdl d6)]) (st' := []) (μ' := μ) rfl ?_
      exact yW_law_b635_ok k55 hk55 (d5) (d6) x4 μ
    refine XB.byv (v := (7 : Int32)) ?_ (fun c72_7 => ?_)
    · refine XB.go 1 (pc' := 733) (ls' := [some (.ref 1000), some (.ref 0), some (.ref 32), some (.ref 56), some (.int x4), (xdl d5), (xdl d6)]) (st' := []) (μ' := μ) rfl ?_
      exact yW_law_b733_ok k55 hk55 (d5) (d6) x4 μ
    refine XB.byv (v := (8 : Int32)) ?_ (fun c72_8 => ?_)
    · refine XB.go 1 (pc' := 833) (ls' := [some (.ref 1000), some (.ref 0), some (.ref 32), some (.ref 56), some (.int x4), (xdl d5), (xdl d6)]) (st' := []) (μ' := μ) rfl ?_
      exact yW_law_b833_ok k55 hk55 (d5) (d6) x4 μ
    refine XB.byv (v := (9 : Int32)) ?_ (fun c72_9 => ?_)
    · refine XB.go 1 (pc' := 905) (ls' := [some (.ref 1000), some (.ref 0), some (.ref 32), some (.ref 56), some (.int x4), (xdl d5), (xdl d6)]) (st' := []) (μ' := μ) rfl ?_
      exact yW_law_b905_ok k55 hk55 (d5) (d6) x4 μ
    refine XB.byv (v := (10 : Int32)) ?_ (fun c72_10 => ?_)
    · refine XB.go 1 (pc' := 989) (ls' := [some (.ref 1000), some (.ref 0), some (.ref 32), some (.ref 56), some (.int x4), (xdl d5), (xdl d6)]) (st' := []) (μ' := μ) rfl ?_
      exact yW_law_b989_ok k55 hk55 (d5) (d6) x4 μ
    refine XB.byv (v := (11 : Int32)) ?_ (fun c72_11 => ?_)
    · refine XB.go 1 (pc' := 1073) (ls' := [some (.ref 1000), some (.ref 0), some (.ref 32), some (.ref 56), some (.int x4), (xdl d5), (xdl d6)]) (st' := []) (μ' := μ) rfl ?_
      exact yW_law_b1073_ok k55 hk55 (d5) (d6) x4 μ
    refine XB.byv (v := (12 : Int32)) ?_ (fun c72_12 => ?_)
    · refine XB.go 1 (pc' := 1121) (ls' := [some (.ref 1000), some (.ref 0), some (.ref 32), some (.ref 56), some (.int x4), (xdl d5), (xdl d6)]) (st' := []) (μ' := μ) rfl ?_
      exact yW_law_b1121_ok k55 hk55 (d5) (d6) x4 μ
    refine XB.byv (v := (13 : Int32)) ?_ (fun c72_13 => ?_)
    · refine XB.go 1 (pc' := 1134) (ls' := [some (.ref 1000), some (.ref 0), some (.ref 32), some (.ref 56), some (.int x4), (xdl d5), (xdl d6)]) (st' := []) (μ' := μ) rfl ?_
      exact yW_law_b1134_ok k55 hk55 (d5) (d6) x4 μ
    refine XB.byv (v := (14 : Int32)) ?_ (fun c72_14 => ?_)
    · refine XB.go 1 (pc' := 1159) (ls' := [some (.ref 1000), some (.ref 0), some (.ref 32), some (.ref 56), some (.int x4), (xdl d5), (xdl d6)]) (st' := []) (μ' := μ) rfl ?_
      exact yW_law_b1159_ok k55 hk55 (d5) (d6) x4 μ
    refine XB.byv (v := (15 : Int32)) ?_ (fun c72_15 => ?_)
    · refine XB.go 1 (pc' := 1172) (ls' := [some (.ref 1000), some (.ref 0), some (.ref 32), some (.ref 56), some (.int x4), (xdl d5), (xdl d6)]) (st' := []) (μ' := μ) rfl ?_
      exact yW_law_b1172_ok k55 hk55 (d5) (d6) x4 μ
    refine XB.byv (v := (16 : Int32)) ?_ (fun c72_16 => ?_)
    · refine XB.go 1 (pc' := 1197) (ls' := [some (.ref 1000), some (.ref 0), some (.ref 32), some (.ref 56), some (.int x4), (xdl d5), (xdl d6)]) (st' := []) (μ' := μ) rfl ?_
      exact yW_law_b1197_ok k55 hk55 (d5) (d6) x4 μ
    refine XB.byv (v := (17 : Int32)) ?_ (fun c72_17 => ?_)
    · refine XB.go 1 (pc' := 1222) (ls' := [some (.ref 1000), some (.ref 0), some (.ref 32), some (.ref 56), some (.int x4), (xdl d5), (xdl d6)]) (st' := []) (μ' := μ) rfl ?_
      exact yW_law_b1222_ok k55 hk55 (d5) (d6) x4 μ
    refine XB.byv (v := (18 : Int32)) ?_ (fun c72_18 => ?_)
    · refine XB.go 1 (pc' := 1247) (ls' := [some (.ref 1000), some (.ref 0), some (.ref 32), some (.ref 56), some (.int x4), (xdl d5), (xdl d6)]) (st' := []) (μ' := μ) rfl ?_
      exact yW_law_b1247_ok k55 hk55 (d5) (d6) x4 μ
    refine XB.byv (v := (19 : Int32)) ?_ (fun c72_19 => ?_)
    · refine XB.go 1 (pc' := 1272) (ls' := [some (.ref 1000), some (.ref 0), some (.ref 32), some (.ref 56), some (.int x4), (xdl d5), (xdl d6)]) (st' := []) (μ' := μ) rfl ?_
      exact yW_law_b1272_ok k55 hk55 (d5) (d6) x4 μ
    refine XB.byv (v := (20 : Int32)) ?_ (fun c72_20 => ?_)
    · refine XB.go 1 (pc' := 1283) (ls' := [some (.ref 1000), some (.ref 0), some (.ref 32), some (.ref 56), some (.int x4), (xdl d5), (xdl d6)]) (st' := []) (μ' := μ) rfl ?_
      exact yW_law_b1283_ok k55 hk55 (d5) (d6) x4 μ
    refine XB.byv (v := (21 : Int32)) ?_ (fun c72_21 => ?_)
    · refine XB.go 1 (pc' := 1339) (ls' := [some (.ref 1000), some (.ref 0), some (.ref 32), some (.ref 56), some (.int x4), (xdl d5), (xdl d6)]) (st' := []) (μ' := μ) rfl ?_
      exact yW_law_b1339_ok k55 hk55 (d5) (d6) x4 μ
    refine XB.byv (v := (22 : Int32)) ?_ (fun c72_22 => ?_)
    · refine XB.go 1 (pc' := 1407) (ls' := [some (.ref 1000), some (.ref 0), some (.ref 32), some (.ref 56), some (.int x4), (xdl d5), (xdl d6)]) (st' := []) (μ' := μ) rfl ?_
      exact yW_law_b1407_ok k55 hk55 (d5) (d6) x4 μ
    refine XB.byv (v := (23 : Int32)) ?_ (fun c72_23 => ?_)
    · refine XB.go 1 (pc' := 1475) (ls' := [some (.ref 1000), some (.ref 0), some (.ref 32), some (.ref 56), some (.int x4), (xdl d5), (xdl d6)]) (st' := []) (μ' := μ) rfl ?_
      exact yW_law_b1475_ok k55 hk55 (d5) (d6) x4 μ
    refine XB.byv (v := (24 : Int32)) ?_ (fun c72_24 => ?_)
    · refine XB.go 1 (pc' := 1543) (ls' := [some (.ref 1000), some (.ref 0), some (.ref 32), some (.ref 56), some (.int x4), (xdl d5), (xdl d6)]) (st' := []) (μ' := μ) rfl ?_
      exact yW_law_b1543_ok k55 hk55 (d5) (d6) x4 μ
    refine XB.byv (v := (25 : Int32)) ?_ (fun c72_25 => ?_)
    · refine XB.go 1 (pc' := 1611) (ls' := [some (.ref 1000), some (.ref 0), some (.ref 32), some (.ref 56), some (.int x4), (xdl d5), (xdl d6)]) (st' := []) (μ' := μ) rfl ?_
      exact yW_law_b1611_ok k55 hk55 (d5) (d6) x4 μ
    refine XB.byv (v := (26 : Int32)) ?_ (fun c72_26 => ?_)
    · refine XB.go 1 (pc' := 1667) (ls' := [some (.ref 1000), some (.ref 0), some (.ref 32), some (.ref 56), some (.int x4), (xdl d5), (xdl d6)]) (st' := []) (μ' := μ) rfl ?_
      exact yW_law_b1667_ok k55 hk55 (d5) (d6) x4 μ
    refine XB.swd (pc' := 1723) rfl rfl rfl rfl (xtab_d26 c72_0 c72_1 c72_2 c72_3 c72_4 c72_5 c72_6 c72_7 c72_8 c72_9 c72_10 c72_11 c72_12 c72_13 c72_14 c72_15 c72_16 c72_17 c72_18 c72_19 c72_20 c72_21 c72_22 c72_23 c72_24 c72_25 c72_26 rfl) ?_
    exact yW_law_b1723_ok k55 hk55 (d5) (d6) x4 μ
set_option maxRecDepth 16384 in
def yW_law_b55_L (L : Nat) (xs : Nat → Int32)  : Nat → Int32 → XMu → XRes
  | 0 => fun _ _ => none
  | n + 1 => yW_law_b55 L xs (yW_law_b55_L L xs  n)
set_option maxRecDepth 16384 in
theorem yW_law_b55_Lok {L : Nat} {xs : Nat → Int32}  : ∀ (n : Nat) (d5 : Option Int32) (d6 : Option Int32) (x4 : Int32) (μ : XMu), XB L xs 235 55 [some (.ref 1000), some (.ref 0), some (.ref 32), some (.ref 56), some (.int x4), (xdl d5), (xdl d6)] [] μ (yW_law_b55_L L xs  n x4 μ) := by
  intro n
  induction n with
  | zero => intro d5 d6 x4 μ r h; cases h
  | succ n ih => intro d5 d6 x4 μ; exact yW_law_b55_ok (yW_law_b55_L L xs  n) ih d5 d6 x4 μ
