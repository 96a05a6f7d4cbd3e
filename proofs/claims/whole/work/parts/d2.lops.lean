/-! every operation, in one form -/
theorem lr_topic {CALL : CT} (hC : RuleAll CALL) {r : Nat} {σ : AM} (hR : Rel σ) (p0 : Int32) (p1 : Int32) : CALL (r + 20) n_x_topic [.inr (.inr (1, 0)), .inl p0, .inl p1] σ (fun v σ1 => CALL (r + 20) n_m_topic [.inr (.inr (46, 0)), .inl p0, .inl p1] σ1 (fun v' σ2 => v = v' ∧ Rel σ2)) := by
  obtain ⟨z0, rfl, l0, u0⟩ := oi_ex p0
  obtain ⟨z1, rfl, l1, u1⟩ := oi_ex p1
  obtain ⟨n, h0, hn⟩ := hR.nh
  exact op_topic hC hn l0 u0 l1 u1 (fun v σ2 hs st => ⟨rfl, hR.sc hs st⟩)
theorem lr_monk {CALL : CT} (hC : RuleAll CALL) {r : Nat} {σ : AM} (hR : Rel σ) (p0 : Int32) (p1 : Int32) : CALL (r + 20) n_x_monk [.inr (.inr (1, 0)), .inl p0, .inl p1] σ (fun v σ1 => CALL (r + 20) n_m_monk [.inr (.inr (46, 0)), .inl p0, .inl p1] σ1 (fun v' σ2 => v = v' ∧ Rel σ2)) := by
  obtain ⟨z0, rfl, l0, u0⟩ := oi_ex p0
  obtain ⟨z1, rfl, l1, u1⟩ := oi_ex p1
  obtain ⟨n, h0, hn⟩ := hR.nh
  exact op_monk hC hn l0 u0 l1 u1 (fun v σ2 hs st => ⟨rfl, hR.sc hs st⟩)
theorem lr_entry {CALL : CT} (hC : RuleAll CALL) {r : Nat} {σ : AM} (hR : Rel σ) (p0 : Int32) (p1 : Int32) : CALL (r + 20) n_x_entry [.inr (.inr (1, 0)), .inl p0, .inl p1] σ (fun v σ1 => CALL (r + 20) n_m_entry [.inr (.inr (46, 0)), .inl p0, .inl p1] σ1 (fun v' σ2 => v = v' ∧ Rel σ2)) := by
  obtain ⟨z0, rfl, l0, u0⟩ := oi_ex p0
  obtain ⟨z1, rfl, l1, u1⟩ := oi_ex p1
  obtain ⟨n, h0, hn⟩ := hR.nh
  exact op_entry hC hn l0 u0 l1 u1 (fun v σ2 hs st => ⟨rfl, hR.sc hs st⟩)
theorem lr_silent {CALL : CT} (hC : RuleAll CALL) {r : Nat} {σ : AM} (hR : Rel σ)  : CALL (r + 20) n_x_silent [.inr (.inr (1, 0))] σ (fun v σ1 => CALL (r + 20) n_m_silent [.inr (.inr (46, 0))] σ1 (fun v' σ2 => v = v' ∧ Rel σ2)) := by
  obtain ⟨n, h0, hn⟩ := hR.nh
  exact op_silent hC hn  (fun v σ2 hs st => ⟨rfl, hR.sc hs st⟩)
theorem lr_last {CALL : CT} (hC : RuleAll CALL) {r : Nat} {σ : AM} (hR : Rel σ)  : CALL (r + 20) n_x_last [.inr (.inr (1, 0))] σ (fun v σ1 => CALL (r + 20) n_m_last [.inr (.inr (46, 0))] σ1 (fun v' σ2 => v = v' ∧ Rel σ2)) := by
  obtain ⟨n, h0, hn⟩ := hR.nh
  exact op_last hC hn  (fun v σ2 hs st => ⟨rfl, hR.sc hs st⟩)
theorem lr_can {CALL : CT} (hC : RuleAll CALL) {r : Nat} {σ : AM} (hR : Rel σ) (p0 : Int32) (p1 : Int32) : CALL (r + 20) n_x_can [.inr (.inr (1, 0)), .inl p0, .inl p1] σ (fun v σ1 => CALL (r + 20) n_m_can [.inr (.inr (46, 0)), .inl p0, .inl p1] σ1 (fun v' σ2 => v = v' ∧ Rel σ2)) := by
  obtain ⟨z0, rfl, l0, u0⟩ := oi_ex p0
  obtain ⟨z1, rfl, l1, u1⟩ := oi_ex p1
  obtain ⟨n, h0, hn⟩ := hR.nh
  exact op_can hC hn l0 u0 l1 u1 (fun v σ2 hs st => ⟨rfl, hR.sc hs st⟩)
theorem lr_topics {CALL : CT} (hC : RuleAll CALL) {r : Nat} {σ : AM} (hR : Rel σ) (p0 : Int32) : CALL (r + 20) n_x_topics [.inr (.inr (1, 0)), .inl p0] σ (fun v σ1 => CALL (r + 20) n_m_topics [.inr (.inr (46, 0)), .inl p0] σ1 (fun v' σ2 => v = v' ∧ Rel σ2)) := by
  obtain ⟨z0, rfl, l0, u0⟩ := oi_ex p0
  obtain ⟨n, h0, hn⟩ := hR.nh
  exact op_topics hC hn l0 u0 (fun v σ2 hs st => ⟨rfl, hR.sc hs st⟩)
theorem lr_speakers {CALL : CT} (hC : RuleAll CALL) {r : Nat} {σ : AM} (hR : Rel σ) (p0 : Int32) : CALL (r + 20) n_x_speakers [.inr (.inr (1, 0)), .inl p0] σ (fun v σ1 => CALL (r + 20) n_m_speakers [.inr (.inr (46, 0)), .inl p0] σ1 (fun v' σ2 => v = v' ∧ Rel σ2)) := by
  obtain ⟨z0, rfl, l0, u0⟩ := oi_ex p0
  obtain ⟨n, h0, hn⟩ := hR.nh
  exact op_speakers hC hn l0 u0 (fun v σ2 hs st => ⟨rfl, hR.sc hs st⟩)
theorem lr_speaker {CALL : CT} (hC : RuleAll CALL) {r : Nat} {σ : AM} (hR : Rel σ)  : CALL (r + 20) n_x_speaker [.inr (.inr (1, 0))] σ (fun v σ1 => CALL (r + 20) n_m_speaker [.inr (.inr (46, 0))] σ1 (fun v' σ2 => v = v' ∧ Rel σ2)) := by
  obtain ⟨n, h0, hn⟩ := hR.nh
  exact op_speaker hC hn  (fun v σ2 hs st => ⟨rfl, hR.sc hs st⟩)
theorem lr_spoken {CALL : CT} (hC : RuleAll CALL) {r : Nat} {σ : AM} (hR : Rel σ)  : CALL (r + 20) n_x_spoken [.inr (.inr (1, 0))] σ (fun v σ1 => CALL (r + 20) n_m_spoken [.inr (.inr (46, 0))] σ1 (fun v' σ2 => v = v' ∧ Rel σ2)) := by
  obtain ⟨n, h0, hn⟩ := hR.nh
  exact op_spoken hC hn  (fun v σ2 hs st => ⟨rfl, hR.sc hs st⟩)
theorem lr_unfair {CALL : CT} (hC : RuleAll CALL) {r : Nat} {σ : AM} (hR : Rel σ)  : CALL (r + 20) n_x_unfair [.inr (.inr (1, 0))] σ (fun v σ1 => CALL (r + 20) n_m_unfair [.inr (.inr (46, 0))] σ1 (fun v' σ2 => v = v' ∧ Rel σ2)) := by
  obtain ⟨n, h0, hn⟩ := hR.nh
  exact op_unfair hC hn  (fun v σ2 hs st => ⟨rfl, hR.sc hs st⟩)
theorem lr_turnIn {CALL : CT} (hC : RuleAll CALL) {r : Nat} {σ : AM} (hR : Rel σ) (p0 : Int32) : CALL (r + 20) n_x_turnIn [.inr (.inr (1, 0)), .inl p0] σ (fun v σ1 => CALL (r + 20) n_m_turnIn [.inr (.inr (46, 0)), .inl p0] σ1 (fun v' σ2 => v = v' ∧ Rel σ2)) := by
  obtain ⟨z0, rfl, l0, u0⟩ := oi_ex p0
  obtain ⟨n, h0, hn⟩ := hR.nh
  exact op_turnIn hC hn l0 u0 (fun v σ2 hs st => ⟨rfl, hR.sc hs st⟩)
theorem lr_pausesIn {CALL : CT} (hC : RuleAll CALL) {r : Nat} {σ : AM} (hR : Rel σ) (p0 : Int32) : CALL (r + 20) n_x_pausesIn [.inr (.inr (1, 0)), .inl p0] σ (fun v σ1 => CALL (r + 20) n_m_pausesIn [.inr (.inr (46, 0)), .inl p0] σ1 (fun v' σ2 => v = v' ∧ Rel σ2)) := by
  obtain ⟨z0, rfl, l0, u0⟩ := oi_ex p0
  obtain ⟨n, h0, hn⟩ := hR.nh
  exact op_pausesIn hC hn l0 u0 (fun v σ2 hs st => ⟨rfl, hR.sc hs st⟩)
theorem lr_speakerIn {CALL : CT} (hC : RuleAll CALL) {r : Nat} {σ : AM} (hR : Rel σ) (p0 : Int32) : CALL (r + 20) n_x_speakerIn [.inr (.inr (1, 0)), .inl p0] σ (fun v σ1 => CALL (r + 20) n_m_speakerIn [.inr (.inr (46, 0)), .inl p0] σ1 (fun v' σ2 => v = v' ∧ Rel σ2)) := by
  obtain ⟨z0, rfl, l0, u0⟩ := oi_ex p0
  obtain ⟨n, h0, hn⟩ := hR.nh
  exact op_speakerIn hC hn l0 u0 (fun v σ2 hs st => ⟨rfl, hR.sc hs st⟩)
theorem lr_breathIn {CALL : CT} (hC : RuleAll CALL) {r : Nat} {σ : AM} (hR : Rel σ) (p0 : Int32) (p1 : Int32) : CALL (r + 20) n_x_breathIn [.inr (.inr (1, 0)), .inl p0, .inl p1] σ (fun v σ1 => CALL (r + 20) n_m_breathIn [.inr (.inr (46, 0)), .inl p0, .inl p1] σ1 (fun v' σ2 => v = v' ∧ Rel σ2)) := by
  obtain ⟨z0, rfl, l0, u0⟩ := oi_ex p0
  obtain ⟨z1, rfl, l1, u1⟩ := oi_ex p1
  obtain ⟨n, h0, hn⟩ := hR.nh
  exact op_breathIn hC hn l0 u0 l1 u1 (fun v σ2 hs st => ⟨rfl, hR.sc hs st⟩)
theorem lr_pauseIn {CALL : CT} (hC : RuleAll CALL) {r : Nat} {σ : AM} (hR : Rel σ)  : CALL (r + 20) n_x_pauseIn [.inr (.inr (1, 0))] σ (fun v σ1 => CALL (r + 20) n_m_pauseIn [.inr (.inr (46, 0))] σ1 (fun v' σ2 => v = v' ∧ Rel σ2)) := by
  obtain ⟨n, h0, hn⟩ := hR.nh
  exact op_pauseIn hC hn  (fun v σ2 hs st => ⟨rfl, hR.sc hs st⟩)
theorem lr_enough {CALL : CT} (hC : RuleAll CALL) {r : Nat} {σ : AM} (hR : Rel σ) (p0 : Int32) (p1 : Int32) : CALL (r + 20) n_x_enough [.inr (.inr (1, 0)), .inl p0, .inl p1] σ (fun v σ1 => CALL (r + 20) n_m_enough [.inr (.inr (46, 0)), .inl p0, .inl p1] σ1 (fun v' σ2 => v = v' ∧ Rel σ2)) := by
  obtain ⟨z0, rfl, l0, u0⟩ := oi_ex p0
  obtain ⟨z1, rfl, l1, u1⟩ := oi_ex p1
  obtain ⟨n, h0, hn⟩ := hR.nh
  exact op_enough hC hn l0 u0 l1 u1 (fun v σ2 hs st => ⟨rfl, hR.sc hs st⟩)
theorem lr_fewestSet {CALL : CT} (hC : RuleAll CALL) {r : Nat} {σ : AM} (hR : Rel σ) (p0 : Int32) : CALL (r + 20) n_x_fewestSet [.inr (.inr (1, 0)), .inl p0] σ (fun v σ1 => CALL (r + 20) n_m_fewestSet [.inr (.inr (46, 0)), .inl p0] σ1 (fun v' σ2 => v = v' ∧ Rel σ2)) := by
  obtain ⟨z0, rfl, l0, u0⟩ := oi_ex p0
  obtain ⟨n, h0, hn⟩ := hR.nh
  exact op_fewestSet hC hn l0 u0 (fun v σ2 hs st => ⟨rfl, hR.sc hs st⟩)
theorem lr_fewest {CALL : CT} (hC : RuleAll CALL) {r : Nat} {σ : AM} (hR : Rel σ) (p0 : Int32) : CALL (r + 20) n_x_fewest [.inr (.inr (1, 0)), .inl p0] σ (fun v σ1 => CALL (r + 20) n_m_fewest [.inr (.inr (46, 0)), .inl p0] σ1 (fun v' σ2 => v = v' ∧ Rel σ2)) := by
  obtain ⟨z0, rfl, l0, u0⟩ := oi_ex p0
  obtain ⟨n, h0, hn⟩ := hR.nh
  exact op_fewest hC hn l0 u0 (fun v σ2 hs st => ⟨rfl, hR.sc hs st⟩)
theorem lr_reach {CALL : CT} (hC : RuleAll CALL) {r : Nat} {σ : AM} (hR : Rel σ) (p0 : Int32) : CALL (r + 20) n_x_reach [.inr (.inr (1, 0)), .inl p0] σ (fun v σ1 => CALL (r + 20) n_m_reach [.inr (.inr (46, 0)), .inl p0] σ1 (fun v' σ2 => v = v' ∧ Rel σ2)) := by
  obtain ⟨z0, rfl, l0, u0⟩ := oi_ex p0
  obtain ⟨n, h0, hn⟩ := hR.nh
  exact op_reach hC hn l0 u0 (fun v σ2 hs st => ⟨rfl, hR.sc hs st⟩)
theorem lr_wins {CALL : CT} (hC : RuleAll CALL) {r : Nat} {σ : AM} (hR : Rel σ) (p0 : Int32) : CALL (r + 20) n_x_wins [.inr (.inr (1, 0)), .inl p0] σ (fun v σ1 => CALL (r + 20) n_m_wins [.inr (.inr (46, 0)), .inl p0] σ1 (fun v' σ2 => v = v' ∧ Rel σ2)) := by
  obtain ⟨z0, rfl, l0, u0⟩ := oi_ex p0
  obtain ⟨n, h0, hn⟩ := hR.nh
  exact op_wins hC hn l0 u0 (fun v σ2 hs st => ⟨rfl, hR.sc hs st⟩)
theorem lr_best {CALL : CT} (hC : RuleAll CALL) {r : Nat} {σ : AM} (hR : Rel σ) (p0 : Int32) : CALL (r + 20) n_x_best [.inr (.inr (1, 0)), .inl p0] σ (fun v σ1 => CALL (r + 20) n_m_best [.inr (.inr (46, 0)), .inl p0] σ1 (fun v' σ2 => v = v' ∧ Rel σ2)) := by
  obtain ⟨z0, rfl, l0, u0⟩ := oi_ex p0
  obtain ⟨n, h0, hn⟩ := hR.nh
  exact op_best hC hn l0 u0 (fun v σ2 hs st => ⟨rfl, hR.sc hs st⟩)
theorem lr_talk {CALL : CT} (hC : RuleAll CALL) {r : Nat} {σ : AM} (hR : Rel σ) (p0 : Int32) : CALL (r + 20) n_x_talk [.inr (.inr (1, 0)), .inl p0] σ (fun v σ1 => CALL (r + 20) n_m_talk [.inr (.inr (46, 0)), .inl p0] σ1 (fun v' σ2 => v = v' ∧ Rel σ2)) := by
  obtain ⟨z0, rfl, l0, u0⟩ := oi_ex p0
  obtain ⟨n, h0, hn⟩ := hR.nh
  exact op_talk hC hn l0 u0 (fun v σ2 hs st => ⟨rfl, hR.sc hs st⟩)
theorem lr_talkAt {CALL : CT} (hC : RuleAll CALL) {r : Nat} {σ : AM} (hR : Rel σ) (p0 : Int32) (p1 : Int32) : CALL (r + 20) n_x_talkAt [.inr (.inr (1, 0)), .inl p0, .inl p1] σ (fun v σ1 => CALL (r + 20) n_m_talkAt [.inr (.inr (46, 0)), .inl p0, .inl p1] σ1 (fun v' σ2 => v = v' ∧ Rel σ2)) := by
  obtain ⟨z0, rfl, l0, u0⟩ := oi_ex p0
  obtain ⟨z1, rfl, l1, u1⟩ := oi_ex p1
  obtain ⟨n, h0, hn⟩ := hR.nh
  exact op_talkAt hC hn l0 u0 l1 u1 (fun v σ2 hs st => ⟨rfl, hR.sc hs st⟩)
theorem lr_ring {CALL : CT} (hC : RuleAll CALL) {r : Nat} {σ : AM} (hR : Rel σ)  : CALL (r + 20) n_x_ring [.inr (.inr (1, 0))] σ (fun v σ1 => CALL (r + 20) n_m_ring [.inr (.inr (46, 0))] σ1 (fun v' σ2 => v = v' ∧ Rel σ2)) := by
  obtain ⟨n, h0, hn⟩ := hR.nh
  exact op_ring hC hn  (fun v σ2 hs st => ⟨rfl, hR.sc hs st⟩)
theorem lr_ringAt {CALL : CT} (hC : RuleAll CALL) {r : Nat} {σ : AM} (hR : Rel σ) (p0 : Int32) : CALL (r + 20) n_x_ringAt [.inr (.inr (1, 0)), .inl p0] σ (fun v σ1 => CALL (r + 20) n_m_ringAt [.inr (.inr (46, 0)), .inl p0] σ1 (fun v' σ2 => v = v' ∧ Rel σ2)) := by
  obtain ⟨z0, rfl, l0, u0⟩ := oi_ex p0
  obtain ⟨n, h0, hn⟩ := hR.nh
  exact op_ringAt hC hn l0 u0 (fun v σ2 hs st => ⟨rfl, hR.sc hs st⟩)
theorem lr_couples {CALL : CT} (hC : RuleAll CALL) {r : Nat} {σ : AM} (hR : Rel σ) (p0 : Int32) : CALL (r + 20) n_x_couples [.inr (.inr (1, 0)), .inl p0] σ (fun v σ1 => CALL (r + 20) n_m_couples [.inr (.inr (46, 0)), .inl p0] σ1 (fun v' σ2 => v = v' ∧ Rel σ2)) := by
  obtain ⟨z0, rfl, l0, u0⟩ := oi_ex p0
  obtain ⟨n, h0, hn⟩ := hR.nh
  exact op_couples hC hn l0 u0 (fun v σ2 hs st => ⟨rfl, hR.sc hs st⟩)
theorem lr_allRead {CALL : CT} (hC : RuleAll CALL) {r : Nat} {σ : AM} (hR : Rel σ) (p0 : Int32) : CALL (r + 20) n_x_allRead [.inr (.inr (1, 0)), .inl p0] σ (fun v σ1 => CALL (r + 20) n_m_allRead [.inr (.inr (46, 0)), .inl p0] σ1 (fun v' σ2 => v = v' ∧ Rel σ2)) := by
  obtain ⟨z0, rfl, l0, u0⟩ := oi_ex p0
  obtain ⟨n, h0, hn⟩ := hR.nh
  exact op_allRead hC hn l0 u0 (fun v σ2 hs st => ⟨rfl, hR.sc hs st⟩)
theorem lr_coughs {CALL : CT} (hC : RuleAll CALL) {r : Nat} {σ : AM} (hR : Rel σ) (p0 : Int32) : CALL (r + 20) n_x_coughs [.inr (.inr (1, 0)), .inl p0] σ (fun v σ1 => CALL (r + 20) n_m_coughs [.inr (.inr (46, 0)), .inl p0] σ1 (fun v' σ2 => v = v' ∧ Rel σ2)) := by
  obtain ⟨z0, rfl, l0, u0⟩ := oi_ex p0
  obtain ⟨n, h0, hn⟩ := hR.nh
  exact op_coughs hC hn l0 u0 (fun v σ2 hs st => ⟨rfl, hR.fre hs st⟩)
theorem lr_status {CALL : CT} (hC : RuleAll CALL) {r : Nat} {σ : AM} (hR : Rel σ)  : CALL (r + 20) n_x_status [.inr (.inr (1, 0))] σ (fun v σ1 => CALL (r + 20) n_m_status [.inr (.inr (46, 0))] σ1 (fun v' σ2 => v = v' ∧ Rel σ2)) := by
  exact op_status hC hR  (fun v σ2 h => ⟨rfl, h⟩)
theorem lr_top {CALL : CT} (hC : RuleAll CALL) {r : Nat} {σ : AM} (hR : Rel σ)  : CALL (r + 20) n_x_top [.inr (.inr (1, 0))] σ (fun v σ1 => CALL (r + 20) n_m_top [.inr (.inr (46, 0))] σ1 (fun v' σ2 => v = v' ∧ Rel σ2)) := by
  exact op_top hC hR  (fun v σ2 h => ⟨rfl, h⟩)
theorem lr_bottom {CALL : CT} (hC : RuleAll CALL) {r : Nat} {σ : AM} (hR : Rel σ)  : CALL (r + 20) n_x_bottom [.inr (.inr (1, 0))] σ (fun v σ1 => CALL (r + 20) n_m_bottom [.inr (.inr (46, 0))] σ1 (fun v' σ2 => v = v' ∧ Rel σ2)) := by
  exact op_bottom hC hR  (fun v σ2 h => ⟨rfl, h⟩)
theorem lr_fault {CALL : CT} (hC : RuleAll CALL) {r : Nat} {σ : AM} (hR : Rel σ) (p0 : Int32) : CALL (r + 20) n_x_fault [.inr (.inr (1, 0)), .inl p0] σ (fun v σ1 => CALL (r + 20) n_m_fault [.inr (.inr (46, 0)), .inl p0] σ1 (fun v' σ2 => v = v' ∧ Rel σ2)) := by
  obtain ⟨z0, rfl, l0, u0⟩ := oi_ex p0
  exact op_fault hC hR l0 u0 (fun v σ2 h => ⟨rfl, h⟩)
theorem lr_minute {CALL : CT} (hC : RuleAll CALL) {r : Nat} {σ : AM} (hR : Rel σ) (p0 : Int32) : CALL (r + 20) n_x_minute [.inr (.inr (1, 0)), .inl p0] σ (fun v σ1 => CALL (r + 20) n_m_minute [.inr (.inr (46, 0)), .inl p0] σ1 (fun v' σ2 => v = v' ∧ Rel σ2)) := by
  obtain ⟨z0, rfl, l0, u0⟩ := oi_ex p0
  exact op_minute hC hR l0 u0 (fun v σ2 h => ⟨rfl, h⟩)
theorem lr_change {CALL : CT} (hC : RuleAll CALL) {r : Nat} {σ : AM} (hR : Rel σ) (p0 : Int32) : CALL (r + 20) n_x_change [.inr (.inr (1, 0)), .inl p0] σ (fun v σ1 => CALL (r + 20) n_m_change [.inr (.inr (46, 0)), .inl p0] σ1 (fun v' σ2 => v = v' ∧ Rel σ2)) := by
  obtain ⟨z0, rfl, l0, u0⟩ := oi_ex p0
  exact op_change hC hR l0 u0 (fun v σ2 h => ⟨rfl, h⟩)
theorem lr_wake {CALL : CT} (hC : RuleAll CALL) {r : Nat} {σ : AM} (hR : Rel σ) (p0 : Int32) (p1 : Bool) : CALL (r + 20) n_x_wake [.inr (.inr (1, 0)), .inl p0, .inl (bI p1)] σ (fun v σ1 => CALL (r + 20) n_m_wake [.inr (.inr (46, 0)), .inl p0, .inl (bI p1)] σ1 (fun v' σ2 => v = v' ∧ Rel σ2)) := by
  obtain ⟨z0, rfl, l0, u0⟩ := oi_ex p0
  exact op_wake hC hR l0 u0 (fun v σ2 h => ⟨rfl, h⟩)
theorem lr_follow {CALL : CT} (hC : RuleAll CALL) {r : Nat} {σ : AM} (hR : Rel σ) (p0 : Int32) (p1 : Int32) (p2 : Bool) : CALL (r + 20) n_x_follow [.inr (.inr (1, 0)), .inl p0, .inl p1, .inl (bI p2)] σ (fun v σ1 => CALL (r + 20) n_m_follow [.inr (.inr (46, 0)), .inl p0, .inl p1, .inl (bI p2)] σ1 (fun v' σ2 => v = v' ∧ Rel σ2)) := by
  obtain ⟨z0, rfl, l0, u0⟩ := oi_ex p0
  obtain ⟨z1, rfl, l1, u1⟩ := oi_ex p1
  exact op_follow hC hR l0 u0 l1 u1 (fun v σ2 h => ⟨rfl, h⟩)
theorem lr_hear {CALL : CT} (hC : RuleAll CALL) {r : Nat} {σ : AM} (hR : Rel σ) (p0 : Int32) (p1 : Int32) (p2 : Bool) : CALL (r + 20) n_x_hear [.inr (.inr (1, 0)), .inl p0, .inl p1, .inl (bI p2)] σ (fun v σ1 => CALL (r + 20) n_m_hear [.inr (.inr (46, 0)), .inl p0, .inl p1, .inl (bI p2)] σ1 (fun v' σ2 => v = v' ∧ Rel σ2)) := by
  obtain ⟨z0, rfl, l0, u0⟩ := oi_ex p0
  obtain ⟨z1, rfl, l1, u1⟩ := oi_ex p1
  exact op_hear hC hR l0 u0 l1 u1 (fun v σ2 h => ⟨rfl, h⟩)
theorem lr_breathe {CALL : CT} (hC : RuleAll CALL) {r : Nat} {σ : AM} (hR : Rel σ) (p0 : Int32) (p1 : Int32) : CALL (r + 20) n_x_breathe [.inr (.inr (1, 0)), .inl p0, .inl p1] σ (fun v σ1 => CALL (r + 20) n_m_breathe [.inr (.inr (46, 0)), .inl p0, .inl p1] σ1 (fun v' σ2 => v = v' ∧ Rel σ2)) := by
  obtain ⟨z0, rfl, l0, u0⟩ := oi_ex p0
  obtain ⟨z1, rfl, l1, u1⟩ := oi_ex p1
  exact op_breathe hC hR l0 u0 l1 u1 (fun v σ2 h => ⟨rfl, h⟩)
theorem lr_price {CALL : CT} (hC : RuleAll CALL) {r : Nat} {σ : AM} (hR : Rel σ) (p0 : Int32) (p1 : Int32) : CALL (r + 20) n_x_price [.inr (.inr (1, 0)), .inl p0, .inl p1] σ (fun v σ1 => CALL (r + 20) n_m_price [.inr (.inr (46, 0)), .inl p0, .inl p1] σ1 (fun v' σ2 => v = v' ∧ Rel σ2)) := by
  obtain ⟨z0, rfl, l0, u0⟩ := oi_ex p0
  obtain ⟨z1, rfl, l1, u1⟩ := oi_ex p1
  exact op_price hC hR l0 u0 l1 u1 (fun v σ2 h => ⟨rfl, h⟩)
theorem lr_rule {CALL : CT} (hC : RuleAll CALL) {r : Nat} {σ : AM} (hR : Rel σ) (p0 : Int32) (p1 : Int32) : CALL (r + 20) n_x_rule [.inr (.inr (1, 0)), .inl p0, .inl p1] σ (fun v σ1 => CALL (r + 20) n_m_rule [.inr (.inr (46, 0)), .inl p0, .inl p1] σ1 (fun v' σ2 => v = v' ∧ Rel σ2)) := by
  obtain ⟨z0, rfl, l0, u0⟩ := oi_ex p0
  obtain ⟨z1, rfl, l1, u1⟩ := oi_ex p1
  exact op_rule hC hR l0 u0 l1 u1 (fun v σ2 h => ⟨rfl, h⟩)
theorem lr_enter {CALL : CT} (hC : RuleAll CALL) {r : Nat} {σ : AM} (hR : Rel σ) (p0 : Int32) (p1 : Int32) : CALL (r + 20) n_x_enter [.inr (.inr (1, 0)), .inl p0, .inl p1] σ (fun v σ1 => CALL (r + 20) n_m_enter [.inr (.inr (46, 0)), .inl p0, .inl p1] σ1 (fun v' σ2 => v = v' ∧ Rel σ2)) := by
  obtain ⟨z0, rfl, l0, u0⟩ := oi_ex p0
  obtain ⟨z1, rfl, l1, u1⟩ := oi_ex p1
  exact op_enter hC hR l0 u0 l1 u1 (fun v σ2 h => ⟨rfl, h⟩)
theorem lr_strike {CALL : CT} (hC : RuleAll CALL) {r : Nat} {σ : AM} (hR : Rel σ) (p0 : Int32) : CALL (r + 20) n_x_strike [.inr (.inr (1, 0)), .inl p0] σ (fun v σ1 => CALL (r + 20) n_m_strike [.inr (.inr (46, 0)), .inl p0] σ1 (fun v' σ2 => v = v' ∧ Rel σ2)) := by
  obtain ⟨z0, rfl, l0, u0⟩ := oi_ex p0
  exact op_strike hC hR l0 u0 (fun v σ2 h => ⟨rfl, h⟩)
theorem lr_read {CALL : CT} (hC : RuleAll CALL) {r : Nat} {σ : AM} (hR : Rel σ) (p0 : Int32) (p1 : Int32) : CALL (r + 20) n_x_read [.inr (.inr (1, 0)), .inl p0, .inl p1] σ (fun v σ1 => CALL (r + 20) n_m_read [.inr (.inr (46, 0)), .inl p0, .inl p1] σ1 (fun v' σ2 => v = v' ∧ Rel σ2)) := by
  obtain ⟨z0, rfl, l0, u0⟩ := oi_ex p0
  obtain ⟨z1, rfl, l1, u1⟩ := oi_ex p1
  exact op_read hC hR l0 u0 l1 u1 (fun v σ2 h => ⟨rfl, h⟩)
theorem lr_write {CALL : CT} (hC : RuleAll CALL) {r : Nat} {σ : AM} (hR : Rel σ) (p0 : Int32) (p1 : Int32) (p2 : Int64) : CALL (r + 20) n_x_write [.inr (.inr (1, 0)), .inl p0, .inl p1, .inr (.inl p2)] σ (fun v σ1 => CALL (r + 20) n_m_write [.inr (.inr (46, 0)), .inl p0, .inl p1, .inr (.inl p2)] σ1 (fun v' σ2 => v = v' ∧ Rel σ2)) := by
  obtain ⟨z0, rfl, l0, u0⟩ := oi_ex p0
  obtain ⟨z1, rfl, l1, u1⟩ := oi_ex p1
  exact op_write hC hR l0 u0 l1 u1 (fun v σ2 h => ⟨rfl, h⟩)
theorem lr_tray {CALL : CT} (hC : RuleAll CALL) {r : Nat} {σ : AM} (hR : Rel σ) (p0 : Int32) (p1 : Int32) (p2 : Int32) : CALL (r + 20) n_x_tray [.inr (.inr (1, 0)), .inl p0, .inl p1, .inl p2] σ (fun v σ1 => CALL (r + 20) n_m_tray [.inr (.inr (46, 0)), .inl p0, .inl p1, .inl p2] σ1 (fun v' σ2 => v = v' ∧ Rel σ2)) := by
  obtain ⟨z0, rfl, l0, u0⟩ := oi_ex p0
  obtain ⟨z1, rfl, l1, u1⟩ := oi_ex p1
  obtain ⟨z2, rfl, l2, u2⟩ := oi_ex p2
  exact op_tray hC hR l0 u0 l1 u1 l2 u2 (fun v σ2 h => ⟨rfl, h⟩)
theorem lr_mark {CALL : CT} (hC : RuleAll CALL) {r : Nat} {σ : AM} (hR : Rel σ)  : CALL (r + 20) n_x_mark [.inr (.inr (1, 0))] σ (fun v σ1 => CALL (r + 20) n_m_mark [.inr (.inr (46, 0))] σ1 (fun v' σ2 => v = v' ∧ Rel σ2)) := by
  exact op_mark hC hR  (fun v σ2 h => ⟨rfl, h⟩)
theorem lr_undo {CALL : CT} (hC : RuleAll CALL) {r : Nat} {σ : AM} (hR : Rel σ)  : CALL (r + 20) n_x_undo [.inr (.inr (1, 0))] σ (fun v σ1 => CALL (r + 20) n_m_undo [.inr (.inr (46, 0))] σ1 (fun v' σ2 => v = v' ∧ Rel σ2)) := by
  exact op_undo hC hR  (fun v σ2 h => ⟨rfl, h⟩)
theorem lr_lived {CALL : CT} (hC : RuleAll CALL) {r : Nat} {σ : AM} (hR : Rel σ) (p0 : Int32) : CALL (r + 20) n_x_lived [.inr (.inr (1, 0)), .inl p0] σ (fun v σ1 => CALL (r + 20) n_m_lived [.inr (.inr (46, 0)), .inl p0] σ1 (fun v' σ2 => v = v' ∧ Rel σ2)) := by
  obtain ⟨z0, rfl, l0, u0⟩ := oi_ex p0
  exact op_lived hC hR l0 u0 (fun v σ2 h => ⟨rfl, h⟩)
theorem lr_feed {CALL : CT} (hC : RuleAll CALL) {r : Nat} {σ : AM} (hR : Rel σ) (p0 : Int32) (p1 : Int32) (p2 : Int32) (p3 : Int32) (p4 : Int32) : CALL (r + 20) n_x_feed [.inr (.inr (1, 0)), .inl p0, .inl p1, .inl p2, .inl p3, .inl p4] σ (fun v σ1 => CALL (r + 20) n_m_feed [.inr (.inr (46, 0)), .inl p0, .inl p1, .inl p2, .inl p3, .inl p4] σ1 (fun v' σ2 => v = v' ∧ Rel σ2)) := by
  exact op_feed hC hR  (fun v σ2 h => ⟨rfl, h⟩)
theorem lr_pour {CALL : CT} (hC : RuleAll CALL) {r : Nat} {σ : AM} (hR : Rel σ) (p0 : Int32) (p1 : Int32) (p2 : Int32) (p3 : Int32) (p4 : Int32) : CALL (r + 20) n_x_pour [.inr (.inr (1, 0)), .inl p0, .inl p1, .inl p2, .inl p3, .inl p4] σ (fun v σ1 => CALL (r + 20) n_m_pour [.inr (.inr (46, 0)), .inl p0, .inl p1, .inl p2, .inl p3, .inl p4] σ1 (fun v' σ2 => v = v' ∧ Rel σ2)) := by
  obtain ⟨z0, rfl, l0, u0⟩ := oi_ex p0
  obtain ⟨z1, rfl, l1, u1⟩ := oi_ex p1
  obtain ⟨z2, rfl, l2, u2⟩ := oi_ex p2
  obtain ⟨z3, rfl, l3, u3⟩ := oi_ex p3
  obtain ⟨z4, rfl, l4, u4⟩ := oi_ex p4
  exact op_pour hC hR l0 u0 l1 u1 l2 u2 l3 u3 l4 u4 (fun v σ2 h => ⟨rfl, h⟩)
theorem lr_copyBreath {CALL : CT} (hC : RuleAll CALL) {r : Nat} {σ : AM} (hR : Rel σ) (p0 : Int32) : CALL (r + 20) n_x_copyBreath [.inr (.inr (1, 0)), .inl p0] σ (fun v σ1 => CALL (r + 20) n_m_copyBreath [.inr (.inr (46, 0)), .inl p0] σ1 (fun v' σ2 => v = v' ∧ Rel σ2)) := by
  obtain ⟨z0, rfl, l0, u0⟩ := oi_ex p0
  exact op_copyBreath hC hR l0 u0 (fun v σ2 h => ⟨rfl, h⟩)
theorem lr_shift {CALL : CT} (hC : RuleAll CALL) {r : Nat} {σ : AM} (hR : Rel σ) (p0 : Int32) : CALL (r + 20) n_x_shift [.inr (.inr (1, 0)), .inl p0] σ (fun v σ1 => CALL (r + 20) n_m_shift [.inr (.inr (46, 0)), .inl p0] σ1 (fun v' σ2 => v = v' ∧ Rel σ2)) := by
  obtain ⟨z0, rfl, l0, u0⟩ := oi_ex p0
  obtain ⟨n, h0, hn⟩ := hR.nh
  exact op_shift hC hn l0 u0 (fun v σ2 hs st => ⟨rfl, hR.sc hs st⟩)
theorem lr_shiftAt {CALL : CT} (hC : RuleAll CALL) {r : Nat} {σ : AM} (hR : Rel σ) (p0 : Int32) (p1 : Int32) (p2 : Int32) : CALL (r + 20) n_x_shiftAt [.inr (.inr (1, 0)), .inl p0, .inl p1, .inl p2] σ (fun v σ1 => CALL (r + 20) n_m_shiftAt [.inr (.inr (46, 0)), .inl p0, .inl p1, .inl p2] σ1 (fun v' σ2 => v = v' ∧ Rel σ2)) := by
  obtain ⟨z0, rfl, l0, u0⟩ := oi_ex p0
  obtain ⟨z1, rfl, l1, u1⟩ := oi_ex p1
  obtain ⟨z2, rfl, l2, u2⟩ := oi_ex p2
  obtain ⟨n, h0, hn⟩ := hR.nh
  exact op_shiftAt hC hn l0 u0 l1 u1 l2 u2 (fun v σ2 hs st => ⟨rfl, hR.sc hs st⟩)
theorem lr_heard {CALL : CT} (hC : RuleAll CALL) {r : Nat} {σ : AM} (hR : Rel σ) (p0 : Int32) (p1 : Int32) : CALL (r + 20) n_x_heard [.inr (.inr (1, 0)), .inl p0, .inl p1] σ (fun v σ1 => CALL (r + 20) n_m_heard [.inr (.inr (46, 0)), .inl p0, .inl p1] σ1 (fun v' σ2 => v = v' ∧ Rel σ2)) := by
  obtain ⟨z0, rfl, l0, u0⟩ := oi_ex p0
  obtain ⟨z1, rfl, l1, u1⟩ := oi_ex p1
  obtain ⟨n, h0, hn⟩ := hR.nh
  exact op_heard hC hn hR.2.1.2.1 l0 u0 l1 u1 (fun v σ2 hs st => ⟨rfl, hR.sc hs st⟩)
theorem lr_sure {CALL : CT} (hC : RuleAll CALL) {r : Nat} {σ : AM} (hR : Rel σ) (p0 : Int32) (p1 : Int32) (p2 : Int32) : CALL (r + 20) n_x_sure [.inr (.inr (1, 0)), .inl p0, .inl p1, .inl p2] σ (fun v σ1 => CALL (r + 20) n_m_sure [.inr (.inr (46, 0)), .inl p0, .inl p1, .inl p2] σ1 (fun v' σ2 => v = v' ∧ Rel σ2)) := by
  obtain ⟨z0, rfl, l0, u0⟩ := oi_ex p0
  obtain ⟨z1, rfl, l1, u1⟩ := oi_ex p1
  obtain ⟨z2, rfl, l2, u2⟩ := oi_ex p2
  obtain ⟨n, h0, hn⟩ := hR.nh
  exact op_sure hC hn hR.2.1.2.1 l0 u0 l1 u1 l2 u2 (fun v σ2 hs st => ⟨rfl, hR.sc hs st⟩)
theorem lr_live {CALL : CT} (hC : RuleAll CALL) {r : Nat} {σ : AM} (hR : Rel σ) (p0 : Int32) : CALL (r + 20) n_x_live [.inr (.inr (1, 0)), .inl p0] σ (fun v σ1 => CALL (r + 20) n_m_live [.inr (.inr (46, 0)), .inl p0] σ1 (fun v' σ2 => v = v' ∧ Rel σ2)) := by
  obtain ⟨z0, rfl, l0, u0⟩ := oi_ex p0
  exact op_live hC hR l0 u0 (fun v σ2 h => ⟨rfl, h⟩)
theorem lr_mean {CALL : CT} (hC : RuleAll CALL) {r : Nat} {σ : AM} (hR : Rel σ) (p0 : Int32) (p1 : Int32) : CALL (r + 20) n_x_mean [.inr (.inr (1, 0)), .inl p0, .inl p1] σ (fun v σ1 => CALL (r + 20) n_m_mean [.inr (.inr (46, 0)), .inl p0, .inl p1] σ1 (fun v' σ2 => v = v' ∧ Rel σ2)) := by
  obtain ⟨z0, rfl, l0, u0⟩ := oi_ex p0
  obtain ⟨z1, rfl, l1, u1⟩ := oi_ex p1
  exact op_mean hC hR l0 u0 l1 u1 (fun v σ2 h => ⟨rfl, h⟩)
theorem lr_house {CALL : CT} (hC : RuleAll CALL) {r : Nat} {σ : AM} (hR : Rel σ) (p0 : Int32) : CALL (r + 20) n_x_house [.inr (.inr (1, 0)), .inl p0] σ (fun v σ1 => CALL (r + 20) n_m_house [.inr (.inr (46, 0)), .inl p0] σ1 (fun v' σ2 => v = v' ∧ Rel σ2)) := by
  obtain ⟨z0, rfl, l0, u0⟩ := oi_ex p0
  exact op_house hC hR l0 u0 (fun v σ2 h => ⟨rfl, h⟩)
theorem lr_days {CALL : CT} (hC : RuleAll CALL) {r : Nat} {σ : AM} (hR : Rel σ) (p0 : Int32) : CALL (r + 20) n_x_days [.inr (.inr (1, 0)), .inl p0] σ (fun v σ1 => CALL (r + 20) n_m_days [.inr (.inr (46, 0)), .inl p0] σ1 (fun v' σ2 => v = v' ∧ Rel σ2)) := by
  obtain ⟨z0, rfl, l0, u0⟩ := oi_ex p0
  exact op_days hC hR l0 u0 (fun v σ2 h => ⟨rfl, h⟩)
theorem lr_told {CALL : CT} (hC : RuleAll CALL) {r : Nat} {σ : AM} (hR : Rel σ) (p0 : Int32) : CALL (r + 20) n_x_told [.inr (.inr (1, 0)), .inl p0] σ (fun v σ1 => CALL (r + 20) n_m_told [.inr (.inr (46, 0)), .inl p0] σ1 (fun v' σ2 => v = v' ∧ Rel σ2)) := by
  obtain ⟨z0, rfl, l0, u0⟩ := oi_ex p0
  obtain ⟨n, h0, hn⟩ := hR.nh
  exact op_told hC hn l0 u0 (fun v σ2 hs st => ⟨rfl, hR.sc hs st⟩)
