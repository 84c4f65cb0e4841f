theorem qg0 : ∀ M ∈ [qm0, qm1, qm2, qm3, qm4, qm5, qm6, qm7, qm8, qm9, qm10, qm11, qm12, qm13, qm14, qm15], q_okm M = true := (List.forall_mem_cons.mpr ⟨qk0, (List.forall_mem_cons.mpr ⟨qk1, (List.forall_mem_cons.mpr ⟨qk2, (List.forall_mem_cons.mpr ⟨qk3, (List.forall_mem_cons.mpr ⟨qk4, (List.forall_mem_cons.mpr ⟨qk5, (List.forall_mem_cons.mpr ⟨qk6, (List.forall_mem_cons.mpr ⟨qk7, (List.forall_mem_cons.mpr ⟨qk8, (List.forall_mem_cons.mpr ⟨qk9, (List.forall_mem_cons.mpr ⟨qk10, (List.forall_mem_cons.mpr ⟨qk11, (List.forall_mem_cons.mpr ⟨qk12, (List.forall_mem_cons.mpr ⟨qk13, (List.forall_mem_cons.mpr ⟨qk14, (List.forall_mem_cons.mpr ⟨qk15, (fun _ h => absurd h List.not_mem_nil)⟩)⟩)⟩)⟩)⟩)⟩)⟩)⟩)⟩)⟩)⟩)⟩)⟩)⟩)⟩)⟩)
theorem qg1 : ∀ M ∈ [qm16, qm17, qm18, qm19, qm20, qm21, qm22, qm23, qm24, qm25, qm26, qm27, qm28, qm29, qm30, qm31], q_okm M = true := (List.forall_mem_cons.mpr ⟨qk16, (List.forall_mem_cons.mpr ⟨qk17, (List.forall_mem_cons.mpr ⟨qk18, (List.forall_mem_cons.mpr ⟨qk19, (List.forall_mem_cons.mpr ⟨qk20, (List.forall_mem_cons.mpr ⟨qk21, (List.forall_mem_cons.mpr ⟨qk22, (List.forall_mem_cons.mpr ⟨qk23, (List.forall_mem_cons.mpr ⟨qk24, (List.forall_mem_cons.mpr ⟨qk25, (List.forall_mem_cons.mpr ⟨qk26, (List.forall_mem_cons.mpr ⟨qk27, (List.forall_mem_cons.mpr ⟨qk28, (List.forall_mem_cons.mpr ⟨qk29, (List.forall_mem_cons.mpr ⟨qk30, (List.forall_mem_cons.mpr ⟨qk31, (fun _ h => absurd h List.not_mem_nil)⟩)⟩)⟩)⟩)⟩)⟩)⟩)⟩)⟩)⟩)⟩)⟩)⟩)⟩)⟩)⟩)
theorem qg2 : ∀ M ∈ [qm32, qm33, qm34, qm35, qm36, qm37, qm38, qm39, qm40, qm41, qm42, qm43, qm44, qm45, qm46, qm47], q_okm M = true := (List.forall_mem_cons.mpr ⟨qk32, (List.forall_mem_cons.mpr ⟨qk33, (List.forall_mem_cons.mpr ⟨qk34, (List.forall_mem_cons.mpr ⟨qk35, (List.forall_mem_cons.mpr ⟨qk36, (List.forall_mem_cons.mpr ⟨qk37, (List.forall_mem_cons.mpr ⟨qk38, (List.forall_mem_cons.mpr ⟨qk39, (List.forall_mem_cons.mpr ⟨qk40, (List.forall_mem_cons.mpr ⟨qk41, (List.forall_mem_cons.mpr ⟨qk42, (List.forall_mem_cons.mpr ⟨qk43, (List.forall_mem_cons.mpr ⟨qk44, (List.forall_mem_cons.mpr ⟨qk45, (List.forall_mem_cons.mpr ⟨qk46, (List.forall_mem_cons.mpr ⟨qk47, (fun _ h => absurd h List.not_mem_nil)⟩)⟩)⟩)⟩)⟩)⟩)⟩)⟩)⟩)⟩)⟩)⟩)⟩)⟩)⟩)⟩)
theorem qg3 : ∀ M ∈ [qm48, qm49, qm50, qm51, qm52, qm53, qm54, qm55, qm56, qm57, qm58, qm59, qm60, qm61, qm62, qm63], q_okm M = true := (List.forall_mem_cons.mpr ⟨qk48, (List.forall_mem_cons.mpr ⟨qk49, (List.forall_mem_cons.mpr ⟨qk50, (List.forall_mem_cons.mpr ⟨qk51, (List.forall_mem_cons.mpr ⟨qk52, (List.forall_mem_cons.mpr ⟨qk53, (List.forall_mem_cons.mpr ⟨qk54, (List.forall_mem_cons.mpr ⟨qk55, (List.forall_mem_cons.mpr ⟨qk56, (List.forall_mem_cons.mpr ⟨qk57, (List.forall_mem_cons.mpr ⟨qk58, (List.forall_mem_cons.mpr ⟨qk59, (List.forall_mem_cons.mpr ⟨qk60, (List.forall_mem_cons.mpr ⟨qk61, (List.forall_mem_cons.mpr ⟨qk62, (List.forall_mem_cons.mpr ⟨qk63, (fun _ h => absurd h List.not_mem_nil)⟩)⟩)⟩)⟩)⟩)⟩)⟩)⟩)⟩)⟩)⟩)⟩)⟩)⟩)⟩)⟩)
theorem qg4 : ∀ M ∈ [qm64, qm65, qm66, qm67, qm68, qm69, qm70, qm71, qm72, qm73, qm74, qm75, qm76, qm77, qm78, qm79], q_okm M = true := (List.forall_mem_cons.mpr ⟨qk64, (List.forall_mem_cons.mpr ⟨qk65, (List.forall_mem_cons.mpr ⟨qk66, (List.forall_mem_cons.mpr ⟨qk67, (List.forall_mem_cons.mpr ⟨qk68, (List.forall_mem_cons.mpr ⟨qk69, (List.forall_mem_cons.mpr ⟨qk70, (List.forall_mem_cons.mpr ⟨qk71, (List.forall_mem_cons.mpr ⟨qk72, (List.forall_mem_cons.mpr ⟨qk73, (List.forall_mem_cons.mpr ⟨qk74, (List.forall_mem_cons.mpr ⟨qk75, (List.forall_mem_cons.mpr ⟨qk76, (List.forall_mem_cons.mpr ⟨qk77, (List.forall_mem_cons.mpr ⟨qk78, (List.forall_mem_cons.mpr ⟨qk79, (fun _ h => absurd h List.not_mem_nil)⟩)⟩)⟩)⟩)⟩)⟩)⟩)⟩)⟩)⟩)⟩)⟩)⟩)⟩)⟩)⟩)
theorem qg5 : ∀ M ∈ [qm80, qm81, qm82, qm83, qm84, qm85, qm86, qm87, qm88, qm89, qm90, qm91, qm92, qm93, qm94, qm95], q_okm M = true := (List.forall_mem_cons.mpr ⟨qk80, (List.forall_mem_cons.mpr ⟨qk81, (List.forall_mem_cons.mpr ⟨qk82, (List.forall_mem_cons.mpr ⟨qk83, (List.forall_mem_cons.mpr ⟨qk84, (List.forall_mem_cons.mpr ⟨qk85, (List.forall_mem_cons.mpr ⟨qk86, (List.forall_mem_cons.mpr ⟨qk87, (List.forall_mem_cons.mpr ⟨qk88, (List.forall_mem_cons.mpr ⟨qk89, (List.forall_mem_cons.mpr ⟨qk90, (List.forall_mem_cons.mpr ⟨qk91, (List.forall_mem_cons.mpr ⟨qk92, (List.forall_mem_cons.mpr ⟨qk93, (List.forall_mem_cons.mpr ⟨qk94, (List.forall_mem_cons.mpr ⟨qk95, (fun _ h => absurd h List.not_mem_nil)⟩)⟩)⟩)⟩)⟩)⟩)⟩)⟩)⟩)⟩)⟩)⟩)⟩)⟩)⟩)⟩)
theorem qg6 : ∀ M ∈ [qm96, qm97, qm98, qm99, qm100, qm101, qm102, qm103, qm104, qm105, qm106, qm107, qm108, qm109, qm110, qm111], q_okm M = true := (List.forall_mem_cons.mpr ⟨qk96, (List.forall_mem_cons.mpr ⟨qk97, (List.forall_mem_cons.mpr ⟨qk98, (List.forall_mem_cons.mpr ⟨qk99, (List.forall_mem_cons.mpr ⟨qk100, (List.forall_mem_cons.mpr ⟨qk101, (List.forall_mem_cons.mpr ⟨qk102, (List.forall_mem_cons.mpr ⟨qk103, (List.forall_mem_cons.mpr ⟨qk104, (List.forall_mem_cons.mpr ⟨qk105, (List.forall_mem_cons.mpr ⟨qk106, (List.forall_mem_cons.mpr ⟨qk107, (List.forall_mem_cons.mpr ⟨qk108, (List.forall_mem_cons.mpr ⟨qk109, (List.forall_mem_cons.mpr ⟨qk110, (List.forall_mem_cons.mpr ⟨qk111, (fun _ h => absurd h List.not_mem_nil)⟩)⟩)⟩)⟩)⟩)⟩)⟩)⟩)⟩)⟩)⟩)⟩)⟩)⟩)⟩)⟩)
theorem qg7 : ∀ M ∈ [qm112, qm113, qm114, qm115, qm116, qm117, qm118, qm119, qm120, qm121, qm122, qm123, qm124, qm125, qm126, qm127], q_okm M = true := (List.forall_mem_cons.mpr ⟨qk112, (List.forall_mem_cons.mpr ⟨qk113, (List.forall_mem_cons.mpr ⟨qk114, (List.forall_mem_cons.mpr ⟨qk115, (List.forall_mem_cons.mpr ⟨qk116, (List.forall_mem_cons.mpr ⟨qk117, (List.forall_mem_cons.mpr ⟨qk118, (List.forall_mem_cons.mpr ⟨qk119, (List.forall_mem_cons.mpr ⟨qk120, (List.forall_mem_cons.mpr ⟨qk121, (List.forall_mem_cons.mpr ⟨qk122, (List.forall_mem_cons.mpr ⟨qk123, (List.forall_mem_cons.mpr ⟨qk124, (List.forall_mem_cons.mpr ⟨qk125, (List.forall_mem_cons.mpr ⟨qk126, (List.forall_mem_cons.mpr ⟨qk127, (fun _ h => absurd h List.not_mem_nil)⟩)⟩)⟩)⟩)⟩)⟩)⟩)⟩)⟩)⟩)⟩)⟩)⟩)⟩)⟩)⟩)
theorem qg8 : ∀ M ∈ [qm128, qm129, qm130, qm131, qm132, qm133, qm134, qm135, qm136, qm137, qm138, qm139, qm140, qm141, qm142, qm143], q_okm M = true := (List.forall_mem_cons.mpr ⟨qk128, (List.forall_mem_cons.mpr ⟨qk129, (List.forall_mem_cons.mpr ⟨qk130, (List.forall_mem_cons.mpr ⟨qk131, (List.forall_mem_cons.mpr ⟨qk132, (List.forall_mem_cons.mpr ⟨qk133, (List.forall_mem_cons.mpr ⟨qk134, (List.forall_mem_cons.mpr ⟨qk135, (List.forall_mem_cons.mpr ⟨qk136, (List.forall_mem_cons.mpr ⟨qk137, (List.forall_mem_cons.mpr ⟨qk138, (List.forall_mem_cons.mpr ⟨qk139, (List.forall_mem_cons.mpr ⟨qk140, (List.forall_mem_cons.mpr ⟨qk141, (List.forall_mem_cons.mpr ⟨qk142, (List.forall_mem_cons.mpr ⟨qk143, (fun _ h => absurd h List.not_mem_nil)⟩)⟩)⟩)⟩)⟩)⟩)⟩)⟩)⟩)⟩)⟩)⟩)⟩)⟩)⟩)⟩)
theorem qg9 : ∀ M ∈ [qm144, qm145, qm146, qm147, qm148, qm149, qm150, qm151, qm152, qm153, qm154, qm155, qm156, qm157, qm158, qm159], q_okm M = true := (List.forall_mem_cons.mpr ⟨qk144, (List.forall_mem_cons.mpr ⟨qk145, (List.forall_mem_cons.mpr ⟨qk146, (List.forall_mem_cons.mpr ⟨qk147, (List.forall_mem_cons.mpr ⟨qk148, (List.forall_mem_cons.mpr ⟨qk149, (List.forall_mem_cons.mpr ⟨qk150, (List.forall_mem_cons.mpr ⟨qk151, (List.forall_mem_cons.mpr ⟨qk152, (List.forall_mem_cons.mpr ⟨qk153, (List.forall_mem_cons.mpr ⟨qk154, (List.forall_mem_cons.mpr ⟨qk155, (List.forall_mem_cons.mpr ⟨qk156, (List.forall_mem_cons.mpr ⟨qk157, (List.forall_mem_cons.mpr ⟨qk158, (List.forall_mem_cons.mpr ⟨qk159, (fun _ h => absurd h List.not_mem_nil)⟩)⟩)⟩)⟩)⟩)⟩)⟩)⟩)⟩)⟩)⟩)⟩)⟩)⟩)⟩)⟩)
theorem qg10 : ∀ M ∈ [qm160, qm161, qm162, qm163, qm164, qm165, qm166, qm167, qm168, qm169, qm170, qm171, qm172, qm173, qm174, qm175], q_okm M = true := (List.forall_mem_cons.mpr ⟨qk160, (List.forall_mem_cons.mpr ⟨qk161, (List.forall_mem_cons.mpr ⟨qk162, (List.forall_mem_cons.mpr ⟨qk163, (List.forall_mem_cons.mpr ⟨qk164, (List.forall_mem_cons.mpr ⟨qk165, (List.forall_mem_cons.mpr ⟨qk166, (List.forall_mem_cons.mpr ⟨qk167, (List.forall_mem_cons.mpr ⟨qk168, (List.forall_mem_cons.mpr ⟨qk169, (List.forall_mem_cons.mpr ⟨qk170, (List.forall_mem_cons.mpr ⟨qk171, (List.forall_mem_cons.mpr ⟨qk172, (List.forall_mem_cons.mpr ⟨qk173, (List.forall_mem_cons.mpr ⟨qk174, (List.forall_mem_cons.mpr ⟨qk175, (fun _ h => absurd h List.not_mem_nil)⟩)⟩)⟩)⟩)⟩)⟩)⟩)⟩)⟩)⟩)⟩)⟩)⟩)⟩)⟩)⟩)
theorem qg11 : ∀ M ∈ [qm176, qm177, qm178, qm179, qm180, qm181, qm182, qm183, qm184, qm185, qm186, qm187, qm188, qm189, qm190, qm191], q_okm M = true := (List.forall_mem_cons.mpr ⟨qk176, (List.forall_mem_cons.mpr ⟨qk177, (List.forall_mem_cons.mpr ⟨qk178, (List.forall_mem_cons.mpr ⟨qk179, (List.forall_mem_cons.mpr ⟨qk180, (List.forall_mem_cons.mpr ⟨qk181, (List.forall_mem_cons.mpr ⟨qk182, (List.forall_mem_cons.mpr ⟨qk183, (List.forall_mem_cons.mpr ⟨qk184, (List.forall_mem_cons.mpr ⟨qk185, (List.forall_mem_cons.mpr ⟨qk186, (List.forall_mem_cons.mpr ⟨qk187, (List.forall_mem_cons.mpr ⟨qk188, (List.forall_mem_cons.mpr ⟨qk189, (List.forall_mem_cons.mpr ⟨qk190, (List.forall_mem_cons.mpr ⟨qk191, (fun _ h => absurd h List.not_mem_nil)⟩)⟩)⟩)⟩)⟩)⟩)⟩)⟩)⟩)⟩)⟩)⟩)⟩)⟩)⟩)⟩)
theorem qg12 : ∀ M ∈ [qm192, qm193, qm194, qm195, qm196, qm197, qm198, qm199, qm200], q_okm M = true := (List.forall_mem_cons.mpr ⟨qk192, (List.forall_mem_cons.mpr ⟨qk193, (List.forall_mem_cons.mpr ⟨qk194, (List.forall_mem_cons.mpr ⟨qk195, (List.forall_mem_cons.mpr ⟨qk196, (List.forall_mem_cons.mpr ⟨qk197, (List.forall_mem_cons.mpr ⟨qk198, (List.forall_mem_cons.mpr ⟨qk199, (List.forall_mem_cons.mpr ⟨qk200, (fun _ h => absurd h List.not_mem_nil)⟩)⟩)⟩)⟩)⟩)⟩)⟩)⟩)⟩)
theorem q_okm_all : ∀ r ∈ q_ms, ∀ M ∈ r, q_okm M = true := (List.forall_mem_cons.mpr ⟨qg0, (List.forall_mem_cons.mpr ⟨qg1, (List.forall_mem_cons.mpr ⟨qg2, (List.forall_mem_cons.mpr ⟨qg3, (List.forall_mem_cons.mpr ⟨qg4, (List.forall_mem_cons.mpr ⟨qg5, (List.forall_mem_cons.mpr ⟨qg6, (List.forall_mem_cons.mpr ⟨qg7, (List.forall_mem_cons.mpr ⟨qg8, (List.forall_mem_cons.mpr ⟨qg9, (List.forall_mem_cons.mpr ⟨qg10, (List.forall_mem_cons.mpr ⟨qg11, (List.forall_mem_cons.mpr ⟨qg12, (fun _ h => absurd h List.not_mem_nil)⟩)⟩)⟩)⟩)⟩)⟩)⟩)⟩)⟩)⟩)⟩)⟩)⟩)
theorem q_g16_mem {α : Type} {l : List (List α)} {i : Nat} {M : α} (h : q_g16 l i = some M) : ∃ r ∈ l, M ∈ r := by
  unfold q_g16 at h
  split at h
  · rename_i r hr
    exact ⟨r, List.mem_of_getElem? hr, List.mem_of_getElem? h⟩
  · cases h
theorem q_g16_map {α β : Type} (f : α → β) (l : List (List α)) (i : Nat) : q_g16 (l.map (fun r => r.map f)) i = (q_g16 l i).map f := by
  unfold q_g16
  rw [List.getElem?_map]
  cases l[i / 16]? with
  | none => rfl
  | some r => simp
theorem q_y_of {mi : Nat} {M : QM} (h : q_g16 q_ms mi = some M) : q_y mi = (M.1, M.2.1, M.2.2.1, M.2.2.2.1, M.2.2.2.2.1, M.2.2.2.2.2.1) := by
  unfold q_y
  rw [← q_ys_ok, q_g16_map, h]
  rfl
set_option maxRecDepth 100000 in
theorem q_ms_lt : ∀ mi, mi < 208 → (q_g16 q_ms mi).isSome = decide (mi < 201) := by decide +kernel
theorem q_ms_lt2 {mi : Nat} {M : QM} (h : q_g16 q_ms mi = some M) : mi < 201 := by
  rcases Nat.lt_or_ge mi 208 with q | q
  · have e := q_ms_lt mi q
    rw [h] at e
    exact of_decide_eq_true e.symm
  · exfalso
    have e : q_ms[mi / 16]? = none := List.getElem?_eq_none (by show 13 ≤ mi / 16; omega)
    simp [q_g16, e] at h
theorem q_ms_get {mi : Nat} (h : mi < 201) : ∃ M, q_g16 q_ms mi = some M := by
  have e := q_ms_lt mi (by omega)
  rw [decide_eq_true h] at e
  exact Option.isSome_iff_exists.mp e
set_option maxRecDepth 100000 in
theorem q_mlk_lt : ∀ e ∈ q_mlk, e.2.2 < 201 := by decide +kernel
/-- what is known of a method of the table -/
theorem q_mk {mi : Nat} {M : QM} (h : q_g16 q_ms mi = some M) : q_okm M = true ∧ Cond.code M.1 M.2.1 M.2.2.1 M.2.2.2.1 ∈ gw ∧ M.1.cls = q_own (M.2.2.2.2.1 / 2) ∧ (parseMethodDescriptor M.1.desc).map (fun d => d.parameters.length) = some (M.2.2.2.2.2.1 - (1 - M.2.2.2.2.1 % 2)) ∧ plainName M.1.cls = true ∧ M.2.2.2.2.2.1 ≤ M.2.2.1 ∧ M.2.2.1 ≤ 30 ∧ (M.1.cls ≠ "java/lang/invoke/MethodHandle" ∧ M.1.cls ≠ "java/lang/invoke/VarHandle") ∧ Cond.initialized M.1.cls ∈ gw := by
  obtain ⟨r, hr, hM⟩ := q_g16_mem h
  have h1 := of_decide_eq_true (q_oky_all mi (q_ms_lt2 h))
  have h0 := q_kc_in mi h1.1
  unfold q_wc at h0
  rw [q_y_of h] at h0 h1
  obtain ⟨-, h2, h3, h4, h5, h6, h7, h8, h9⟩ := h1
  exact ⟨q_okm_all r hr M hM, gw_of h0 rfl, h2, h3, h4, h5, h6, ⟨h7, h8⟩, gw_of (q_tb_in (j := 1) h9) rfl⟩
def q_rm (d : Nat) : Room := { frames := d + 8, cells := 0, slots := 0, locals := 64 * d + 400 }
def q_In (ad : Nat → Nat) (ca : Nat → ClassId) (dC : Nat → ClassId) (dI : Nat → Nat → Nat) (u : QS) (t : State) : Prop := va_P (dC, dI) q_cl (q_ws ad ca u) t.heap ∧ va_K (dC, dI) q_cl (q_tys ca) t ∧ q_Out ad t t.heap
def q_Qc (ad : Nat → Nat) (ca : Nat → ClassId) (dC : Nat → ClassId) (dI : Nat → Nat → Nat) (Q : QQ) : Array Value → State → Outcome → State → Prop := fun _ st oc t => (∃ (r : Option Int32) (u : QS), oc = .returned (r.map Value.int) ∧ Q r u ∧ q_In ad ca dC dI u t) ∧ va_F (q_A ad) st t
def q_Snd (l : Launch) (ad : Nat → Nat) (ca : Nat → ClassId) (dC : Nat → ClassId) (dI : Nat → Nat → Nat) : QP := fun d mi k L st σ Q => ∀ (M : QM), q_g16 q_ms mi = some M → ∀ (b : QB), M.2.2.2.2.2.2[k]? = some b → ∀ (p : Program) (e : Env) (s : State) (m : MethodId) (args : Array Value) (below : List Frame) (meth : Method) (c0 : Code), q_Cx p l (q_rm d) s m args c0 ad ca dC dI M.2.1 (M.2.2.2.2.1 / 2) M.2.2.1 → meth.sig.returnType = M.2.2.2.1 → meth.locks = false → q_W p l e (q_rm d) s m args below meth c0 (MQ below (q_Qc ad ca dC dI Q) args s 0 0 (q_A ad)) ad ca dC dI M.2.2.1 b.1 L st σ
theorem q_args_at (ad : Nat → Nat) : ∀ (vs : List QV) (k i : Nat) (x : QV), vs[i]? = some x → (k + i, q_v ad x) ∈ lv_args k (vs.map (q_v ad))
  | [], k, i, x, h => by simp at h
  | v :: vs, k, 0, x, h => by
    simp only [List.getElem?_cons_zero, Option.some.injEq] at h
    subst h
    exact List.mem_cons_self
  | v :: vs, k, i + 1, x, h => by
    simp only [List.getElem?_cons_succ] at h
    have := q_args_at ad vs (k + 1) i x h
    simp only [List.map_cons, lv_args, q_v_cat]
    refine List.mem_cons_of_mem _ ?_
    rw [show k + (i + 1) = k + 1 + i by omega]
    exact this
theorem q_sl_len (ad : Nat → Nat) (vs : List QV) : (lg_sl (vs.map (q_v ad))).length = vs.length := by
  induction vs with
  | nil => rfl
  | cons v vs ih =>
    have e : lg_sl ((v :: vs).map (q_v ad)) = [Slot.val (q_v ad v)] ++ lg_sl (vs.map (q_v ad)) := by
      simp [lg_sl, q_v_cat]
    rw [e, List.length_append, ih]
    simp
    omega
theorem q_ent_has (ad : Nat → Nat) (vs : List QV) {na ml : Nat} (h : vs.length = na) (hn : na ≤ ml) : lv_has ((lg_sl (vs.map (q_v ad)) ++ List.replicate (ml - (lg_sl (vs.map (q_v ad))).length) Slot.unset).toArray) ml (q_lv ad (vs.map some ++ List.replicate (ml - na) none)) := by
  have h1 := lv_entry (vs.map (q_v ad)) (n := ml) (by rw [q_sl_len]; omega)
  refine ⟨h1.1, h1.2.1, ?_⟩
  rintro ⟨i, v⟩ hq
  obtain ⟨x, hx, rfl⟩ := q_lv_mem.mp hq
  have hi : vs[i]? = some x := by
    rcases Nat.lt_or_ge i vs.length with q | q
    · rw [List.getElem?_append_left (by simpa using q), List.getElem?_map] at hx
      simpa using hx
    · rw [List.getElem?_append_right (by simpa using q)] at hx
      rw [List.getElem?_replicate] at hx
      split at hx <;> simp at hx
  have := q_args_at ad vs 0 i x hi
  rw [Nat.zero_add] at this
  exact h1.2.2 _ this
theorem q_ent_len {na ml : Nat} {st : List QV} (h : na ≤ st.length) (hn : na ≤ ml) : (q_ent na ml st).length = ml := by
  simp [q_ent, Nat.min_eq_left h]
  omega
/-- a method's contract out of the judgement of its first block -/
theorem q_met {l : Launch} {ad : Nat → Nat} {ca : Nat → ClassId} {dC : Nat → ClassId} {dI : Nat → Nat → Nat} (hi : ∀ i j, i < 118 → j < 118 → ad i = ad j → i = j) (hIx : q_Ix l ad) {d mi : Nat} {M : QM} (hM : q_g16 q_ms mi = some M) {st : List QV} {σ : QS} {Q : QQ} (hst : M.2.2.2.2.2.1 ≤ st.length) (h : q_Snd l ad ca dC dI d mi 0 (q_ent M.2.2.2.2.2.1 M.2.2.1 st) [] σ Q) : Met l M.1 (Cond.code M.1 M.2.1 M.2.2.1 M.2.2.2.1 :: gw) (q_rm d) (va_Pc (((st.take M.2.2.2.2.2.1).reverse).map (q_v ad)) (fun U => q_In ad ca dC dI σ U)) (q_Qc ad ca dC dI Q) 0 0 (q_A ad) := by
  obtain ⟨hok, hcode, hcls, hdes, hpl, hna, hml30, hmh, hini⟩ := q_mk hM
  unfold q_okm at hok
  rw [Bool.and_eq_true] at hok
  have h0 := of_decide_eq_true hok.1
  rw [List.getElem?_map] at h0
  obtain ⟨b0, hb0, hb1⟩ := Option.map_eq_some_iff.mp h0
  refine Met.ofW (cc := M.2.1) (maxL := M.2.2.1) (ret := M.2.2.2.1) hpl rfl ?_
  intro p e s m args below meth c s₁ B hml hv
  obtain ⟨rfl, hP, hK, hO⟩ := hv
  have hts := atoms_spec (ws := Cond.code M.1 M.2.1 M.2.2.1 M.2.2.2.1 :: gw) B.pre
  have X : q_Cx p l (q_rm d) s m _ c ad ca dC dI M.2.1 (M.2.2.2.2.1 / 2) M.2.2.1 := ⟨B.exec, B.bytes, hml, by rw [← hcls]; exact findClass_of_methodNamed B.named, fun w hw => hts w (List.mem_cons_of_mem _ hw), hK, hO, hi, by show 8 ≤ d + 8; omega, by show 400 ≤ 64 * d + 400; omega, hIx⟩
  have hw := h M hM b0 hb0 p e s m _ below meth c X B.returns B.notSynchronized
  rw [hb1] at hw
  rw [lg_entry_eq]
  have hlen : (st.take M.2.2.2.2.2.1).reverse.length = M.2.2.2.2.2.1 := by simp [Nat.min_eq_left hst]
  exact hw (q_ent_len hst hna) _ _ [] (q_ent_has ad _ hlen hna) hP va_S.rf
