/-! what the two objects hold when they are made -/
def s0 (c : Nat) : Nat → Int32 := if c = 1 ∨ c = 6 then (fun j => if j = 4 then 1 else 0) else if c = 2 ∨ c = 7 ∨ c = 70 then cpy (fun _ => 0) (fun _ => 12) 0 24 else if c = 43 ∨ c = 71 then cpy (fun _ => 0) (fun _ => 2) 0 24 else if c = 61 then (fun j => if j = 4 ∨ j = 5 then (-1) else 0) else if c = 69 then (fun j => if j = 0 then 1 else 0) else fun _ => 0
def ad0 (x y : Nat) (q r o : Nat → Nat) (c : Nat) : Nat := if c = 0 then x else if c < 69 then q c else if c = 69 then y else if c < 118 then r (c - 70) else o c
theorem s0_z {c : Nat} (h : ¬ (c = 1 ∨ c = 6 ∨ c = 2 ∨ c = 7 ∨ c = 70 ∨ c = 43 ∨ c = 71 ∨ c = 61 ∨ c = 69)) : s0 c = fun _ => 0 := by
  unfold s0
  rw [if_neg (by omega), if_neg (by omega), if_neg (by omega), if_neg (by omega), if_neg (by omega)]
theorem INV_0 : INV s0 := by
  have c12 : ∀ h, h < 24 → cpy (fun _ => 0) (fun _ => (12 : Int32)) 0 24 h = nI 12 := fun h hh => by unfold cpy; rw [if_pos (by omega)]; rfl
  have c2 : ∀ h, h < 24 → cpy (fun _ => 0) (fun _ => (2 : Int32)) 0 24 h = nI 2 := fun h hh => by unfold cpy; rw [if_pos (by omega)]; rfl
  have law : ∀ w, w < 2 → LW s0 w := by
    intro w hw
    have z0 : s0 88 w = nI 0 := by rw [s0_z (by decide)]; rfl
    refine ⟨?_, 0, fun _ => 0, fun _ _ => 0, fun _ _ => 0, ⟨z0, by omega, fun _ => 0, fun _ => 0, fun k hk => ⟨by rw [s0_z (by decide)]; rfl, Nat.zero_le _, (show 0 < 1048576 by decide), fun z => absurd (show (0 : Nat) = 1 from z) (by decide), fun z => by omega⟩, fun j hj => absurd hj (Nat.not_lt_zero _)⟩, ?_, fun v c hc => ?_⟩
    · rcases (show w = 0 ∨ w = 1 by omega) with rfl | rfl
      · unfold LC
        rw [if_pos rfl]
        exact ⟨0, by rw [s0_z (by decide)]; rfl, ⟨by omega, fun i hi => absurd hi (Nat.not_lt_zero _)⟩, fun c hc => ⟨0, by omega, by rw [s0_z (by decide)]; rfl, fun q hq => absurd hq (Nat.not_lt_zero _)⟩⟩
      · unfold LC
        rw [if_neg (by decide)]
        exact ⟨0, by rw [s0_z (by decide)]; rfl, ⟨by omega, fun i hi => absurd hi (Nat.not_lt_zero _)⟩, fun c hc => ⟨0, by omega, by rw [s0_z (by decide)]; rfl, fun q hq => absurd hq (Nat.not_lt_zero _)⟩⟩
    · rcases (show w = 0 ∨ w = 1 by omega) with rfl | rfl
      · rw [if_pos rfl, s0_z (by decide)]; rfl
      · rw [if_neg (by decide), s0_z (by decide)]; rfl
    · rcases (show w = 0 ∨ w = 1 by omega) with rfl | rfl
      · unfold cA askC
        rw [if_pos rfl, s0_z (c := 20) (by decide)]
        rfl
      · unfold cA askC
        rw [if_neg (by decide), s0_z (c := 29) (by decide)]
        rfl
  refine ⟨⟨⟨rfl, fun h hh => ⟨12, by omega, c12 h hh⟩⟩, fun r hr => ⟨rfl, rfl, rfl⟩, ⟨rfl, fun o ho => ⟨0, by omega, rfl⟩, fun i hi => ⟨rfl, rfl, rfl, 0, by omega, rfl⟩⟩, ⟨rfl, 1, by omega, rfl⟩, ⟨rfl, Or.inl rfl, fun k hk => ?_, fun k hk => rfl, fun z => absurd z (by decide)⟩, ⟨rfl, ⟨0, by omega, rfl⟩, fun i hi => ?_⟩, ⟨fun o ho => rfl, rfl⟩, rfl, fun h hh => ⟨2, by omega, c2 h hh⟩⟩, law 0 (by decide), law 1 (by decide), Or.inl rfl, Or.inl rfl⟩
  · show (0 : Int32) = cpy (fun _ => 0) (fun _ => 12) 0 24 k
    unfold cpy
    rw [if_neg (by omega)]
  · show (0 : Int32) = 0 &&& 255
    decide
theorem FCh_0 : FCh s0 := by
  intro c hc i
  have h1 : c < 118 := q_lay_lt (by omega)
  have h2 : ∀ c, c < 118 → (q_lay c).1 = 1 → ¬ (c = 1 ∨ c = 6 ∨ c = 2 ∨ c = 7 ∨ c = 70 ∨ c = 43 ∨ c = 71 ∨ c = 61 ∨ c = 69) := by decide +kernel
  rw [s0_z (h2 c h1 hc)]
  exact (show fits .char (.int 0) = true by decide)
theorem q0_40 (x y : Nat) (q r o : Nat → Nat) : (fun i => (([some 13, some 22] : List (Option Nat)).getD i none).map q) = fun i => (([some 13, some 22] : List (Option Nat)).getD i none).map (ad0 x y q r o) := by
  funext i
  match i with
  | 0 => rfl
  | 1 => rfl
  | i + 2 => rfl
set_option maxHeartbeats 8000000 in
set_option maxRecDepth 100000 in
theorem q_ws_0 (ca : Nat → ClassId) (x y : Nat) (q r o : Nat → Nat) : wX10 ca x q ++ wX11 ca y r = q_ws (ad0 x y q r o) ca s0 := by
  unfold wX10
  rw [q0_40 x y q r o]
  rfl
